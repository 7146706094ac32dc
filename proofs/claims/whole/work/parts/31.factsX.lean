theorem cst_RJ6_265 : Jvm.Cond.constant RJ6 265 (Int32.ofInt 1431655765) ∈ gt := tmem 472 (by decide +kernel) (by decide +kernel)
theorem cst_RJ6_266 : Jvm.Cond.constant RJ6 266 (Int32.ofInt 858993459) ∈ gt := tmem 473 (by decide +kernel) (by decide +kernel)
theorem cst_RJ6_267 : Jvm.Cond.constant RJ6 267 (Int32.ofInt 252645135) ∈ gt := tmem 474 (by decide +kernel) (by decide +kernel)
theorem fl_0_27 : FL RX0 27 0 0 := ⟨RX0, TX0, 6, rfl, by decide, tmem 34 (by decide +kernel) (by decide +kernel), inX0⟩
theorem k_X_1_0 : fk shX 1 0 = some (0, .inl 0) := rfl
theorem fl_0_9 : FL RX0 9 0 1 := ⟨RX0, TX0, 6, rfl, by decide, tmem 38 (by decide +kernel) (by decide +kernel), inX0⟩
theorem fl_0_15 : FL RX0 15 0 2 := ⟨RX0, TX0, 6, rfl, by decide, tmem 41 (by decide +kernel) (by decide +kernel), inX0⟩
theorem fl_0_18 : FL RX0 18 0 3 := ⟨RX0, TX0, 6, rfl, by decide, tmem 43 (by decide +kernel) (by decide +kernel), inX0⟩
theorem fl_0_21 : FL RX0 21 0 4 := ⟨RX0, TX0, 6, rfl, by decide, tmem 46 (by decide +kernel) (by decide +kernel), inX0⟩
theorem fl_0_24 : FL RX0 24 0 5 := ⟨RX0, TX0, 6, rfl, by decide, tmem 48 (by decide +kernel) (by decide +kernel), inX0⟩
theorem a_X_6 : shX[6]? = some (.inl (0, 24, .inl 0)) := rfl
theorem fp_0_27 : FP RX0 27 0 0 (.int) := ⟨RX0, TX0, 6, tyX0, rfl, by decide, tmem 34 (by decide +kernel) (by decide +kernel), inX0, tyX0_ok, nmX0, rfl, by decide +kernel⟩
theorem k_X_1_1 : fk shX 1 1 = some (0, .inr 2) := rfl
theorem a_X_2 : shX[2]? = some (.inl (0, 24, .inl 0)) := rfl
theorem k_X_1_2 : fk shX 1 2 = some (0, .inr 3) := rfl
theorem a_X_3 : shX[3]? = some (.inl (0, 24, .inl 0)) := rfl
theorem k_X_1_3 : fk shX 1 3 = some (0, .inr 4) := rfl
theorem a_X_4 : shX[4]? = some (.inl (0, 24, .inl 0)) := rfl
theorem k_X_1_4 : fk shX 1 4 = some (0, .inr 5) := rfl
theorem a_X_5 : shX[5]? = some (.inl (0, 24, .inl 0)) := rfl
theorem k_X_1_5 : fk shX 1 5 = some (0, .inr 6) := rfl
theorem ml_RX1_16 : Cond.methodLink RX1 16 yJ9_abs_067f4 ∈ gt := tmem 704 (by decide +kernel) (by decide +kernel)
theorem fl_1_7 : FL RX1 7 1 0 := ⟨RX1, TX1, 2, rfl, by decide, tmem 233 (by decide +kernel) (by decide +kernel), inX1⟩
theorem fl_1_13 : FL RX1 13 1 1 := ⟨RX1, TX1, 2, rfl, by decide, tmem 235 (by decide +kernel) (by decide +kernel), inX1⟩
theorem ml_RX1_26 : Cond.methodLink RX1 26 yJ9_floorDiv_f86c9 ∈ gt := tmem 886 (by decide +kernel) (by decide +kernel)
theorem fl_2_17 : FL RX2 17 2 2 := ⟨RX2, TX2, 6, rfl, by decide, tmem 290 (by decide +kernel) (by decide +kernel), inX2⟩
theorem fl_2_24 : FL RX2 24 2 5 := ⟨RX2, TX2, 6, rfl, by decide, tmem 293 (by decide +kernel) (by decide +kernel), inX2⟩
theorem fl_2_29 : FL RX2 29 2 3 := ⟨RX2, TX2, 6, rfl, by decide, tmem 291 (by decide +kernel) (by decide +kernel), inX2⟩
theorem fl_2_53 : FL RX2 53 2 0 := ⟨RX2, TX2, 6, rfl, by decide, tmem 286 (by decide +kernel) (by decide +kernel), inX2⟩
theorem fl_2_56 : FL RX2 56 8 1 := ⟨RX8, TX8, 4, rfl, by decide, tmem 363 (by decide +kernel) (by decide +kernel), inX8⟩
theorem fl_2_21 : FL RX2 21 2 4 := ⟨RX2, TX2, 6, rfl, by decide, tmem 292 (by decide +kernel) (by decide +kernel), inX2⟩
theorem fl_2_61 : FL RX2 61 8 2 := ⟨RX8, TX8, 4, rfl, by decide, tmem 366 (by decide +kernel) (by decide +kernel), inX8⟩
theorem fl_2_9 : FL RX2 9 2 1 := ⟨RX2, TX2, 6, rfl, by decide, tmem 288 (by decide +kernel) (by decide +kernel), inX2⟩
theorem k_X_43_2 : fk shX 43 2 = some (2, .inr 45) := rfl
theorem k_X_43_4 : fk shX 43 4 = some (2, .inr 46) := rfl
theorem a_X_46 : shX[46]? = some (.inl (0, 24, .inl 0)) := rfl
theorem ml_RX2_68 : Cond.methodLink RX2 68 yX1_isAbove ∈ gt := tmem 882 (by decide +kernel) (by decide +kernel)
theorem yw_X1_isAbove : YW yX1_isAbove cX1_isAbove 20 (some .boolean) 1 := ⟨tmem 885 (by decide +kernel) (by decide +kernel), tmem 8 (by decide +kernel) (by decide +kernel), by decide, by decide, by decide +kernel⟩
theorem yv_X1_isAbove : YV yX1_isAbove := ⟨tmem 883 (by decide +kernel) (by decide +kernel), tmem 884 (by decide +kernel) (by decide +kernel)⟩
theorem k_X_43_3 : fk shX 43 3 = some (2, .inl 0) := rfl
theorem fp_2_29 : FP RX2 29 2 3 (.int) := ⟨RX2, TX2, 6, tyX2, rfl, by decide, tmem 291 (by decide +kernel) (by decide +kernel), inX2, tyX2_ok, nmX2, rfl, by decide +kernel⟩
theorem fl_3_37 : FL RX3 37 3 0 := ⟨RX3, TX3, 11, rfl, by decide, tmem 314 (by decide +kernel) (by decide +kernel), inX3⟩
theorem fl_3_15 : FL RX3 15 3 3 := ⟨RX3, TX3, 11, rfl, by decide, tmem 320 (by decide +kernel) (by decide +kernel), inX3⟩
theorem fl_3_18 : FL RX3 18 3 4 := ⟨RX3, TX3, 11, rfl, by decide, tmem 321 (by decide +kernel) (by decide +kernel), inX3⟩
theorem fl_3_21 : FL RX3 21 3 5 := ⟨RX3, TX3, 11, rfl, by decide, tmem 322 (by decide +kernel) (by decide +kernel), inX3⟩
theorem k_X_72_0 : fk shX 72 0 = some (3, .inl 0) := rfl
theorem k_X_72_3 : fk shX 72 3 = some (3, .inr 74) := rfl
theorem a_X_74 : shX[74]? = some (.inl (0, 4, .inl 0)) := rfl
theorem k_X_72_4 : fk shX 72 4 = some (3, .inr 75) := rfl
theorem a_X_75 : shX[75]? = some (.inl (0, 4, .inl 0)) := rfl
theorem k_X_72_5 : fk shX 72 5 = some (3, .inr 76) := rfl
theorem a_X_76 : shX[76]? = some (.inl (0, 4, .inl 0)) := rfl
theorem fp_3_37 : FP RX3 37 3 0 (.int) := ⟨RX3, TX3, 11, tyX3, rfl, by decide, tmem 314 (by decide +kernel) (by decide +kernel), inX3, tyX3_ok, nmX3, rfl, by decide +kernel⟩
theorem fl_3_33 : FL RX3 33 3 9 := ⟨RX3, TX3, 11, rfl, by decide, tmem 326 (by decide +kernel) (by decide +kernel), inX3⟩
theorem fp_3_33 : FP RX3 33 3 9 (.int) := ⟨RX3, TX3, 11, tyX3, rfl, by decide, tmem 326 (by decide +kernel) (by decide +kernel), inX3, tyX3_ok, nmX3, rfl, by decide +kernel⟩
theorem k_X_72_9 : fk shX 72 9 = some (3, .inl 0) := rfl
theorem fl_3_40 : FL RX3 40 0 0 := ⟨RX0, TX0, 6, rfl, by decide, tmem 36 (by decide +kernel) (by decide +kernel), inX0⟩
theorem fl_3_50 : FL RX3 50 3 10 := ⟨RX3, TX3, 11, rfl, by decide, tmem 327 (by decide +kernel) (by decide +kernel), inX3⟩
theorem fl_3_11 : FL RX3 11 3 2 := ⟨RX3, TX3, 11, rfl, by decide, tmem 318 (by decide +kernel) (by decide +kernel), inX3⟩
theorem fl_3_24 : FL RX3 24 3 6 := ⟨RX3, TX3, 11, rfl, by decide, tmem 323 (by decide +kernel) (by decide +kernel), inX3⟩
theorem fl_3_27 : FL RX3 27 3 7 := ⟨RX3, TX3, 11, rfl, by decide, tmem 324 (by decide +kernel) (by decide +kernel), inX3⟩
theorem fl_3_30 : FL RX3 30 3 8 := ⟨RX3, TX3, 11, rfl, by decide, tmem 325 (by decide +kernel) (by decide +kernel), inX3⟩
theorem k_X_72_6 : fk shX 72 6 = some (3, .inr 77) := rfl
theorem a_X_77 : shX[77]? = some (.inl (0, 4, .inl 0)) := rfl
theorem k_X_72_7 : fk shX 72 7 = some (3, .inr 78) := rfl
theorem a_X_78 : shX[78]? = some (.inl (0, 4, .inl 0)) := rfl
theorem k_X_72_8 : fk shX 72 8 = some (3, .inr 79) := rfl
theorem a_X_79 : shX[79]? = some (.inl (0, 4, .inl 0)) := rfl
theorem fl_3_53 : FL RX3 53 3 1 := ⟨RX3, TX3, 11, rfl, by decide, tmem 316 (by decide +kernel) (by decide +kernel), inX3⟩
theorem fp_3_53 : FP RX3 53 3 1 (.int) := ⟨RX3, TX3, 11, tyX3, rfl, by decide, tmem 316 (by decide +kernel) (by decide +kernel), inX3, tyX3_ok, nmX3, rfl, by decide +kernel⟩
theorem k_X_72_1 : fk shX 72 1 = some (3, .inl 0) := rfl
theorem k_X_72_2 : fk shX 72 2 = some (3, .inr 73) := rfl
theorem a_X_73 : shX[73]? = some (.inl (0, 24, .inl 0)) := rfl
theorem cst_RX3_56 : Jvm.Cond.constant RX3 56 (Int32.ofInt 40024) ∈ gt := tmem 938 (by decide +kernel) (by decide +kernel)
theorem fl_3_65 : FL RX3 65 0 4 := ⟨RX0, TX0, 6, rfl, by decide, tmem 47 (by decide +kernel) (by decide +kernel), inX0⟩
theorem fl_3_66 : FL RX3 66 0 5 := ⟨RX0, TX0, 6, rfl, by decide, tmem 49 (by decide +kernel) (by decide +kernel), inX0⟩
theorem fl_4_21 : FL RX4 21 4 0 := ⟨RX4, TX4, 4, rfl, by decide, tmem 70 (by decide +kernel) (by decide +kernel), inX4⟩
theorem k_X_7_0 : fk shX 7 0 = some (4, .inl 0) := rfl
theorem fl_4_9 : FL RX4 9 4 1 := ⟨RX4, TX4, 4, rfl, by decide, tmem 73 (by decide +kernel) (by decide +kernel), inX4⟩
theorem fl_4_15 : FL RX4 15 4 2 := ⟨RX4, TX4, 4, rfl, by decide, tmem 74 (by decide +kernel) (by decide +kernel), inX4⟩
theorem fl_4_18 : FL RX4 18 4 3 := ⟨RX4, TX4, 4, rfl, by decide, tmem 75 (by decide +kernel) (by decide +kernel), inX4⟩
theorem k_X_7_1 : fk shX 7 1 = some (4, .inr 8) := rfl
theorem a_X_8 : shX[8]? = some (.inl (0, 12, .inl 0)) := rfl
theorem k_X_7_2 : fk shX 7 2 = some (4, .inr 9) := rfl
theorem a_X_9 : shX[9]? = some (.inl (0, 12, .inl 0)) := rfl
theorem k_X_7_3 : fk shX 7 3 = some (4, .inr 10) := rfl
theorem a_X_10 : shX[10]? = some (.inl (0, 12, .inl 0)) := rfl
theorem fp_4_21 : FP RX4 21 4 0 (.int) := ⟨RX4, TX4, 4, tyX4, rfl, by decide, tmem 70 (by decide +kernel) (by decide +kernel), inX4, tyX4_ok, nmX4, rfl, by decide +kernel⟩
theorem fl_4_25 : FL RX4 25 0 1 := ⟨RX0, TX0, 6, rfl, by decide, tmem 40 (by decide +kernel) (by decide +kernel), inX0⟩
theorem fl_4_30 : FL RX4 30 0 3 := ⟨RX0, TX0, 6, rfl, by decide, tmem 45 (by decide +kernel) (by decide +kernel), inX0⟩
theorem ml_RX4_31 : Cond.methodLink RX4 31 yX4_isAllowed ∈ gt := tmem 465 (by decide +kernel) (by decide +kernel)
theorem yw_X4_isAllowed : YW yX4_isAllowed cX4_isAllowed 5 (some .boolean) 3 := ⟨tmem 468 (by decide +kernel) (by decide +kernel), tmem 3 (by decide +kernel) (by decide +kernel), by decide, by decide, by decide +kernel⟩
theorem yv_X4_isAllowed : YV yX4_isAllowed := ⟨tmem 466 (by decide +kernel) (by decide +kernel), tmem 467 (by decide +kernel) (by decide +kernel)⟩
theorem o_X_7 : shX[7]? = some (.inr (4, ks_X_7)) := rfl
theorem fl_5_15 : FL RX5 15 5 1 := ⟨RX5, TX5, 3, rfl, by decide, tmem 188 (by decide +kernel) (by decide +kernel), inX5⟩
theorem k_X_25_1 : fk shX 25 1 = some (5, .inr 27) := rfl
theorem a_X_27 : shX[27]? = some (.inl (0, 288, .inl 0)) := rfl
theorem ml_RX5_28 : Cond.methodLink RX5 28 yX5_pointsOf ∈ gt := tmem 632 (by decide +kernel) (by decide +kernel)
theorem yw_X5_pointsOf : YW yX5_pointsOf cX5_pointsOf 3 (some .int) 2 := ⟨tmem 635 (by decide +kernel) (by decide +kernel), tmem 6 (by decide +kernel) (by decide +kernel), by decide, by decide, by decide +kernel⟩
theorem yv_X5_pointsOf : YV yX5_pointsOf := ⟨tmem 633 (by decide +kernel) (by decide +kernel), tmem 634 (by decide +kernel) (by decide +kernel)⟩
theorem o_X_25 : shX[25]? = some (.inr (5, ks_X_25)) := rfl
theorem fl_5_9 : FL RX5 9 5 0 := ⟨RX5, TX5, 3, rfl, by decide, tmem 185 (by decide +kernel) (by decide +kernel), inX5⟩
theorem k_X_25_0 : fk shX 25 0 = some (5, .inr 26) := rfl
theorem a_X_26 : shX[26]? = some (.inl (0, 12, .inl 0)) := rfl
theorem ml_RX5_32 : Cond.methodLink RX5 32 yX5_isGreat ∈ gt := tmem 866 (by decide +kernel) (by decide +kernel)
theorem yw_X5_isGreat : YW yX5_isGreat cX5_isGreat 4 (some .boolean) 1 := ⟨tmem 665 (by decide +kernel) (by decide +kernel), tmem 6 (by decide +kernel) (by decide +kernel), by decide, by decide, by decide +kernel⟩
theorem yv_X5_isGreat : YV yX5_isGreat := ⟨tmem 663 (by decide +kernel) (by decide +kernel), tmem 664 (by decide +kernel) (by decide +kernel)⟩
theorem fl_5_36 : FL RX5 36 6 0 := ⟨RX6, TX6, 6, rfl, by decide, tmem 154 (by decide +kernel) (by decide +kernel), inX6⟩
theorem fl_5_42 : FL RX5 42 6 1 := ⟨RX6, TX6, 6, rfl, by decide, tmem 157 (by decide +kernel) (by decide +kernel), inX6⟩
theorem fl_5_45 : FL RX5 45 6 2 := ⟨RX6, TX6, 6, rfl, by decide, tmem 159 (by decide +kernel) (by decide +kernel), inX6⟩
theorem fl_5_53 : FL RX5 53 6 3 := ⟨RX6, TX6, 6, rfl, by decide, tmem 161 (by decide +kernel) (by decide +kernel), inX6⟩
theorem fl_5_18 : FL RX5 18 5 2 := ⟨RX5, TX5, 3, rfl, by decide, tmem 189 (by decide +kernel) (by decide +kernel), inX5⟩
theorem fl_5_48 : FL RX5 48 6 4 := ⟨RX6, TX6, 6, rfl, by decide, tmem 163 (by decide +kernel) (by decide +kernel), inX6⟩
theorem ml_RX5_58 : Cond.methodLink RX5 58 yJ9_min_7cf53 ∈ gt := tmem 640 (by decide +kernel) (by decide +kernel)
theorem ml_RX5_63 : Cond.methodLink RX5 63 yJ9_max_7cf53 ∈ gt := tmem 643 (by decide +kernel) (by decide +kernel)
theorem yw_J9_max_7cf53 : YW yJ9_max_7cf53 cJ9_max_7cf53 2 (some .int) 2 := ⟨tmem 645 (by decide +kernel) (by decide +kernel), tmem 15 (by decide +kernel) (by decide +kernel), by decide, by decide, by decide +kernel⟩
theorem ys_J9_max_7cf53 : Cond.static yJ9_max_7cf53 ∈ gt := tmem 644 (by decide +kernel) (by decide +kernel)
theorem fl_6_27 : FL RX6 27 6 0 := ⟨RX6, TX6, 6, rfl, by decide, tmem 153 (by decide +kernel) (by decide +kernel), inX6⟩
theorem k_X_19_0 : fk shX 19 0 = some (6, .inl 0) := rfl
theorem fl_6_9 : FL RX6 9 6 1 := ⟨RX6, TX6, 6, rfl, by decide, tmem 156 (by decide +kernel) (by decide +kernel), inX6⟩
theorem fl_6_15 : FL RX6 15 6 2 := ⟨RX6, TX6, 6, rfl, by decide, tmem 158 (by decide +kernel) (by decide +kernel), inX6⟩
theorem fl_6_18 : FL RX6 18 6 3 := ⟨RX6, TX6, 6, rfl, by decide, tmem 160 (by decide +kernel) (by decide +kernel), inX6⟩
theorem fl_6_21 : FL RX6 21 6 4 := ⟨RX6, TX6, 6, rfl, by decide, tmem 162 (by decide +kernel) (by decide +kernel), inX6⟩
theorem fl_6_24 : FL RX6 24 6 5 := ⟨RX6, TX6, 6, rfl, by decide, tmem 164 (by decide +kernel) (by decide +kernel), inX6⟩
theorem k_X_19_1 : fk shX 19 1 = some (6, .inr 20) := rfl
theorem a_X_20 : shX[20]? = some (.inl (0, 200, .inl 0)) := rfl
theorem k_X_19_2 : fk shX 19 2 = some (6, .inr 21) := rfl
theorem a_X_21 : shX[21]? = some (.inl (0, 200, .inl 0)) := rfl
theorem k_X_19_3 : fk shX 19 3 = some (6, .inr 22) := rfl
theorem a_X_22 : shX[22]? = some (.inl (0, 200, .inl 0)) := rfl
theorem k_X_19_4 : fk shX 19 4 = some (6, .inr 23) := rfl
theorem a_X_23 : shX[23]? = some (.inl (0, 200, .inl 0)) := rfl
theorem k_X_19_5 : fk shX 19 5 = some (6, .inr 24) := rfl
theorem a_X_24 : shX[24]? = some (.inl (0, 200, .inl 0)) := rfl
theorem fp_6_27 : FP RX6 27 6 0 (.int) := ⟨RX6, TX6, 6, tyX6, rfl, by decide, tmem 153 (by decide +kernel) (by decide +kernel), inX6, tyX6_ok, nmX6, rfl, by decide +kernel⟩
theorem fl_7_33 : FL RX7 33 7 1 := ⟨RX7, TX7, 17, rfl, by decide, tmem 94 (by decide +kernel) (by decide +kernel), inX7⟩
theorem k_X_11_1 : fk shX 11 1 = some (7, .inl 0) := rfl
theorem fl_7_37 : FL RX7 37 7 2 := ⟨RX7, TX7, 17, rfl, by decide, tmem 95 (by decide +kernel) (by decide +kernel), inX7⟩
theorem k_X_11_2 : fk shX 11 2 = some (7, .inl 0) := rfl
theorem fl_7_44 : FL RX7 44 0 0 := ⟨RX0, TX0, 6, rfl, by decide, tmem 37 (by decide +kernel) (by decide +kernel), inX0⟩
theorem fl_7_49 : FL RX7 49 4 0 := ⟨RX4, TX4, 4, rfl, by decide, tmem 71 (by decide +kernel) (by decide +kernel), inX4⟩
theorem fl_7_9 : FL RX7 9 7 5 := ⟨RX7, TX7, 17, rfl, by decide, tmem 99 (by decide +kernel) (by decide +kernel), inX7⟩
theorem fl_7_65 : FL RX7 65 4 3 := ⟨RX4, TX4, 4, rfl, by decide, tmem 76 (by decide +kernel) (by decide +kernel), inX4⟩
theorem fl_7_21 : FL RX7 21 7 8 := ⟨RX7, TX7, 17, rfl, by decide, tmem 103 (by decide +kernel) (by decide +kernel), inX7⟩
theorem fl_7_15 : FL RX7 15 7 6 := ⟨RX7, TX7, 17, rfl, by decide, tmem 100 (by decide +kernel) (by decide +kernel), inX7⟩
theorem fl_7_18 : FL RX7 18 7 7 := ⟨RX7, TX7, 17, rfl, by decide, tmem 101 (by decide +kernel) (by decide +kernel), inX7⟩
theorem k_X_11_5 : fk shX 11 5 = some (7, .inr 12) := rfl
theorem a_X_12 : shX[12]? = some (.inl (0, 12, .inl 0)) := rfl
theorem k_X_11_8 : fk shX 11 8 = some (7, .inr 15) := rfl
theorem a_X_15 : shX[15]? = some (.inl (0, 12, .inl 0)) := rfl
theorem k_X_11_6 : fk shX 11 6 = some (7, .inr 13) := rfl
theorem ml_RX7_61 : Cond.methodLink RX7 61 yX4_allowedFor ∈ gt := tmem 508 (by decide +kernel) (by decide +kernel)
theorem yw_X4_allowedFor : YW yX4_allowedFor cX4_allowedFor 5 (some .int) 2 := ⟨tmem 464 (by decide +kernel) (by decide +kernel), tmem 3 (by decide +kernel) (by decide +kernel), by decide, by decide, by decide +kernel⟩
theorem yv_X4_allowedFor : YV yX4_allowedFor := ⟨tmem 462 (by decide +kernel) (by decide +kernel), tmem 463 (by decide +kernel) (by decide +kernel)⟩
theorem a_X_13 : shX[13]? = some (.inl (0, 24, .inl 0)) := rfl
theorem k_X_11_7 : fk shX 11 7 = some (7, .inr 14) := rfl
theorem a_X_14 : shX[14]? = some (.inl (0, 24, .inl 0)) := rfl
theorem fl_7_40 : FL RX7 40 7 0 := ⟨RX7, TX7, 17, rfl, by decide, tmem 92 (by decide +kernel) (by decide +kernel), inX7⟩
theorem fp_7_40 : FP RX7 40 7 0 (.boolean) := ⟨RX7, TX7, 17, tyX7, rfl, by decide, tmem 92 (by decide +kernel) (by decide +kernel), inX7, tyX7_ok, nmX7, rfl, by decide +kernel⟩
theorem k_X_11_0 : fk shX 11 0 = some (7, .inl 0) := rfl
theorem fp_7_33 : FP RX7 33 7 1 (.int) := ⟨RX7, TX7, 17, tyX7, rfl, by decide, tmem 94 (by decide +kernel) (by decide +kernel), inX7, tyX7_ok, nmX7, rfl, by decide +kernel⟩
theorem fp_7_37 : FP RX7 37 7 2 (.int) := ⟨RX7, TX7, 17, tyX7, rfl, by decide, tmem 95 (by decide +kernel) (by decide +kernel), inX7, tyX7_ok, nmX7, rfl, by decide +kernel⟩
theorem fl_7_52 : FL RX7 52 7 3 := ⟨RX7, TX7, 17, rfl, by decide, tmem 96 (by decide +kernel) (by decide +kernel), inX7⟩
theorem fp_7_52 : FP RX7 52 7 3 (.int) := ⟨RX7, TX7, 17, tyX7, rfl, by decide, tmem 96 (by decide +kernel) (by decide +kernel), inX7, tyX7_ok, nmX7, rfl, by decide +kernel⟩
theorem k_X_11_3 : fk shX 11 3 = some (7, .inl 0) := rfl
theorem fl_7_55 : FL RX7 55 7 9 := ⟨RX7, TX7, 17, rfl, by decide, tmem 104 (by decide +kernel) (by decide +kernel), inX7⟩
theorem fp_7_55 : FP RX7 55 7 9 (.int) := ⟨RX7, TX7, 17, tyX7, rfl, by decide, tmem 104 (by decide +kernel) (by decide +kernel), inX7, tyX7_ok, nmX7, rfl, by decide +kernel⟩
theorem k_X_11_9 : fk shX 11 9 = some (7, .inl 0) := rfl
theorem fl_7_58 : FL RX7 58 7 10 := ⟨RX7, TX7, 17, rfl, by decide, tmem 105 (by decide +kernel) (by decide +kernel), inX7⟩
theorem fp_7_58 : FP RX7 58 7 10 (.int) := ⟨RX7, TX7, 17, tyX7, rfl, by decide, tmem 105 (by decide +kernel) (by decide +kernel), inX7, tyX7_ok, nmX7, rfl, by decide +kernel⟩
theorem k_X_11_10 : fk shX 11 10 = some (7, .inl 0) := rfl
theorem fl_7_78 : FL RX7 78 7 11 := ⟨RX7, TX7, 17, rfl, by decide, tmem 106 (by decide +kernel) (by decide +kernel), inX7⟩
theorem ml_RX7_84 : Cond.methodLink RX7 84 yJ6_bitCount_0f7a4 ∈ gt := tmem 529 (by decide +kernel) (by decide +kernel)
theorem yw_J6_bitCount_0f7a4 : YW yJ6_bitCount_0f7a4 cJ6_bitCount_0f7a4 1 (some .int) 1 := ⟨tmem 471 (by decide +kernel) (by decide +kernel), tmem 14 (by decide +kernel) (by decide +kernel), by decide, by decide, by decide +kernel⟩
theorem ys_J6_bitCount_0f7a4 : Cond.static yJ6_bitCount_0f7a4 ∈ gt := tmem 470 (by decide +kernel) (by decide +kernel)
theorem fl_7_30 : FL RX7 30 7 16 := ⟨RX7, TX7, 17, rfl, by decide, tmem 111 (by decide +kernel) (by decide +kernel), inX7⟩
theorem fl_7_27 : FL RX7 27 7 15 := ⟨RX7, TX7, 17, rfl, by decide, tmem 110 (by decide +kernel) (by decide +kernel), inX7⟩
theorem fl_7_115 : FL RX7 115 7 13 := ⟨RX7, TX7, 17, rfl, by decide, tmem 108 (by decide +kernel) (by decide +kernel), inX7⟩
theorem fl_7_24 : FL RX7 24 7 14 := ⟨RX7, TX7, 17, rfl, by decide, tmem 109 (by decide +kernel) (by decide +kernel), inX7⟩
theorem fl_7_118 : FL RX7 118 7 12 := ⟨RX7, TX7, 17, rfl, by decide, tmem 107 (by decide +kernel) (by decide +kernel), inX7⟩
theorem k_X_11_12 : fk shX 11 12 = some (7, .inl 0) := rfl
theorem fp_7_118 : FP RX7 118 7 12 (.int) := ⟨RX7, TX7, 17, tyX7, rfl, by decide, tmem 107 (by decide +kernel) (by decide +kernel), inX7, tyX7_ok, nmX7, rfl, by decide +kernel⟩
theorem k_X_11_16 : fk shX 11 16 = some (7, .inr 18) := rfl
theorem a_X_18 : shX[18]? = some (.inl (0, 12, .inl 0)) := rfl
theorem k_X_11_13 : fk shX 11 13 = some (7, .inl 0) := rfl
theorem k_X_11_11 : fk shX 11 11 = some (7, .inl 0) := rfl
theorem fp_7_78 : FP RX7 78 7 11 (.int) := ⟨RX7, TX7, 17, tyX7, rfl, by decide, tmem 106 (by decide +kernel) (by decide +kernel), inX7, tyX7_ok, nmX7, rfl, by decide +kernel⟩
theorem k_X_11_15 : fk shX 11 15 = some (7, .inr 17) := rfl
theorem a_X_17 : shX[17]? = some (.inl (0, 24, .inl 0)) := rfl
theorem k_X_11_14 : fk shX 11 14 = some (7, .inr 16) := rfl
theorem a_X_16 : shX[16]? = some (.inl (0, 24, .inl 0)) := rfl
theorem fp_7_115 : FP RX7 115 7 13 (.int) := ⟨RX7, TX7, 17, tyX7, rfl, by decide, tmem 108 (by decide +kernel) (by decide +kernel), inX7, tyX7_ok, nmX7, rfl, by decide +kernel⟩
theorem fl_8_24 : FL RX8 24 8 0 := ⟨RX8, TX8, 4, rfl, by decide, tmem 359 (by decide +kernel) (by decide +kernel), inX8⟩
theorem fl_8_15 : FL RX8 15 8 2 := ⟨RX8, TX8, 4, rfl, by decide, tmem 365 (by decide +kernel) (by decide +kernel), inX8⟩
theorem fl_8_21 : FL RX8 21 8 3 := ⟨RX8, TX8, 4, rfl, by decide, tmem 368 (by decide +kernel) (by decide +kernel), inX8⟩
theorem fp_8_24 : FP RX8 24 8 0 (.int) := ⟨RX8, TX8, 4, tyX8, rfl, by decide, tmem 359 (by decide +kernel) (by decide +kernel), inX8, tyX8_ok, nmX8, rfl, by decide +kernel⟩
theorem fl_8_28 : FL RX8 28 0 1 := ⟨RX0, TX0, 6, rfl, by decide, tmem 39 (by decide +kernel) (by decide +kernel), inX0⟩
theorem fl_8_37 : FL RX8 37 0 2 := ⟨RX0, TX0, 6, rfl, by decide, tmem 42 (by decide +kernel) (by decide +kernel), inX0⟩
theorem fl_8_40 : FL RX8 40 0 3 := ⟨RX0, TX0, 6, rfl, by decide, tmem 44 (by decide +kernel) (by decide +kernel), inX0⟩
theorem fl_9_30 : FL RX9 30 5 0 := ⟨RX5, TX5, 3, rfl, by decide, tmem 186 (by decide +kernel) (by decide +kernel), inX5⟩
theorem fl_9_50 : FL RX9 50 9 2 := ⟨RX9, TX9, 6, rfl, by decide, tmem 209 (by decide +kernel) (by decide +kernel), inX9⟩
theorem fl_9_9 : FL RX9 9 9 0 := ⟨RX9, TX9, 6, rfl, by decide, tmem 205 (by decide +kernel) (by decide +kernel), inX9⟩
theorem fl_9_18 : FL RX9 18 9 3 := ⟨RX9, TX9, 6, rfl, by decide, tmem 210 (by decide +kernel) (by decide +kernel), inX9⟩
theorem fl_9_15 : FL RX9 15 9 1 := ⟨RX9, TX9, 6, rfl, by decide, tmem 207 (by decide +kernel) (by decide +kernel), inX9⟩
theorem a_X_30 : shX[30]? = some (.inl (1, 12, .inl 1)) := rfl
theorem k_X_29_1 : fk shX 29 1 = some (9, .inr 31) := rfl
theorem k_X_29_3 : fk shX 29 3 = some (9, .inr 32) := rfl
theorem a_X_32 : shX[32]? = some (.inl (0, 5, .inl 0)) := rfl
theorem ml_RX9_54 : Cond.methodLink RX9 54 yJ9_abs_067f4 ∈ gt := tmem 697 (by decide +kernel) (by decide +kernel)
theorem a_X_31 : shX[31]? = some (.inl (1, 12, .inl 1)) := rfl
theorem k_X_29_2 : fk shX 29 2 = some (9, .inl 0) := rfl
theorem ml_RX9_60 : Cond.methodLink RX9 60 yX5_pointsOf ∈ gt := tmem 682 (by decide +kernel) (by decide +kernel)
theorem k_X_29_0 : fk shX 29 0 = some (9, .inr 30) := rfl
theorem fp_9_50 : FP RX9 50 9 2 (.int) := ⟨RX9, TX9, 6, tyX9, rfl, by decide, tmem 209 (by decide +kernel) (by decide +kernel), inX9, tyX9_ok, nmX9, rfl, by decide +kernel⟩
theorem fl_9_24 : FL RX9 24 9 4 := ⟨RX9, TX9, 6, rfl, by decide, tmem 211 (by decide +kernel) (by decide +kernel), inX9⟩
theorem k_X_29_4 : fk shX 29 4 = some (9, .inr 33) := rfl
theorem cst_RX9_73 : Jvm.Cond.constantLong RX9 73 (Int64.ofInt 60) ∈ gt := tmem 683 (by decide +kernel) (by decide +kernel)
theorem fl_9_27 : FL RX9 27 9 5 := ⟨RX9, TX9, 6, rfl, by decide, tmem 212 (by decide +kernel) (by decide +kernel), inX9⟩
theorem k_X_29_5 : fk shX 29 5 = some (9, .inr 39) := rfl
theorem a_X_39 : shX[39]? = some (.inl (1, 32, .inl 1)) := rfl
theorem ml_RX9_83 : Cond.methodLink RX9 83 yJ6_bitCount_0f7a4 ∈ gt := tmem 696 (by decide +kernel) (by decide +kernel)
theorem fl_10_22 : FL RX10 22 10 0 := ⟨RX10, TX10, 8, rfl, by decide, tmem 248 (by decide +kernel) (by decide +kernel), inX10⟩
theorem fl_10_18 : FL RX10 18 10 3 := ⟨RX10, TX10, 8, rfl, by decide, tmem 254 (by decide +kernel) (by decide +kernel), inX10⟩
theorem k_X_41_0 : fk shX 41 0 = some (10, .inl 0) := rfl
theorem k_X_41_3 : fk shX 41 3 = some (10, .inr 42) := rfl
theorem a_X_42 : shX[42]? = some (.inl (3, 300, .inl 0)) := rfl
theorem fp_10_22 : FP RX10 22 10 0 (.int) := ⟨RX10, TX10, 8, tyX10, rfl, by decide, tmem 248 (by decide +kernel) (by decide +kernel), inX10, tyX10_ok, nmX10, rfl, by decide +kernel⟩
theorem fl_10_45 : FL RX10 45 10 5 := ⟨RX10, TX10, 8, rfl, by decide, tmem 256 (by decide +kernel) (by decide +kernel), inX10⟩
theorem fl_10_9 : FL RX10 9 10 1 := ⟨RX10, TX10, 8, rfl, by decide, tmem 250 (by decide +kernel) (by decide +kernel), inX10⟩
theorem k_X_41_5 : fk shX 41 5 = some (10, .inl 0) := rfl
theorem k_X_41_1 : fk shX 41 1 = some (10, .inl 0) := rfl
theorem fl_10_37 : FL RX10 37 8 0 := ⟨RX8, TX8, 4, rfl, by decide, tmem 360 (by decide +kernel) (by decide +kernel), inX8⟩
theorem fl_10_75 : FL RX10 75 8 1 := ⟨RX8, TX8, 4, rfl, by decide, tmem 364 (by decide +kernel) (by decide +kernel), inX8⟩
theorem fl_10_83 : FL RX10 83 8 2 := ⟨RX8, TX8, 4, rfl, by decide, tmem 367 (by decide +kernel) (by decide +kernel), inX8⟩
theorem fl_10_93 : FL RX10 93 8 3 := ⟨RX8, TX8, 4, rfl, by decide, tmem 369 (by decide +kernel) (by decide +kernel), inX8⟩
theorem fl_10_111 : FL RX10 111 10 6 := ⟨RX10, TX10, 8, rfl, by decide, tmem 257 (by decide +kernel) (by decide +kernel), inX10⟩
theorem fl_10_34 : FL RX10 34 10 7 := ⟨RX10, TX10, 8, rfl, by decide, tmem 258 (by decide +kernel) (by decide +kernel), inX10⟩
theorem k_X_41_7 : fk shX 41 7 = some (10, .inl 0) := rfl
theorem fp_10_9 : FP RX10 9 10 1 (.int) := ⟨RX10, TX10, 8, tyX10, rfl, by decide, tmem 250 (by decide +kernel) (by decide +kernel), inX10, tyX10_ok, nmX10, rfl, by decide +kernel⟩
theorem k_X_41_6 : fk shX 41 6 = some (10, .inl 0) := rfl
theorem fl_10_15 : FL RX10 15 10 2 := ⟨RX10, TX10, 8, rfl, by decide, tmem 252 (by decide +kernel) (by decide +kernel), inX10⟩
theorem fp_10_15 : FP RX10 15 10 2 (.int) := ⟨RX10, TX10, 8, tyX10, rfl, by decide, tmem 252 (by decide +kernel) (by decide +kernel), inX10, tyX10_ok, nmX10, rfl, by decide +kernel⟩
theorem k_X_41_2 : fk shX 41 2 = some (10, .inl 0) := rfl
theorem ml_RX10_118 : Cond.methodLink RX10 118 yJ0_length_8abf5 ∈ gt := tmem 767 (by decide +kernel) (by decide +kernel)
theorem yw_J0_length_8abf5 : YW yJ0_length_8abf5 cJ0_length_8abf5 1 (some .int) 0 := ⟨tmem 770 (by decide +kernel) (by decide +kernel), tmem 16 (by decide +kernel) (by decide +kernel), by decide, by decide, by decide +kernel⟩
theorem yv_J0_length_8abf5 : YV yJ0_length_8abf5 := ⟨tmem 768 (by decide +kernel) (by decide +kernel), tmem 769 (by decide +kernel) (by decide +kernel)⟩
theorem ml_RX10_122 : Cond.methodLink RX10 122 yJ0_charAt_5068e ∈ gt := tmem 777 (by decide +kernel) (by decide +kernel)
theorem yw_J0_charAt_5068e : YW yJ0_charAt_5068e cJ0_charAt_5068e 2 (some .char) 1 := ⟨tmem 780 (by decide +kernel) (by decide +kernel), tmem 16 (by decide +kernel) (by decide +kernel), by decide, by decide, by decide +kernel⟩
theorem yv_J0_charAt_5068e : YV yJ0_charAt_5068e := ⟨tmem 778 (by decide +kernel) (by decide +kernel), tmem 779 (by decide +kernel) (by decide +kernel)⟩
theorem fl_10_31 : FL RX10 31 10 4 := ⟨RX10, TX10, 8, rfl, by decide, tmem 255 (by decide +kernel) (by decide +kernel), inX10⟩
theorem fp_10_111 : FP RX10 111 10 6 (.int) := ⟨RX10, TX10, 8, tyX10, rfl, by decide, tmem 257 (by decide +kernel) (by decide +kernel), inX10, tyX10_ok, nmX10, rfl, by decide +kernel⟩
theorem k_X_41_4 : fk shX 41 4 = some (10, .inl 0) := rfl
theorem ml_RX10_58 : Cond.methodLink RX10 58 yX10_blame ∈ gt := tmem 754 (by decide +kernel) (by decide +kernel)
theorem yw_X10_blame : YW yX10_blame cX10_blame 2 none 1 := ⟨tmem 757 (by decide +kernel) (by decide +kernel), tmem 9 (by decide +kernel) (by decide +kernel), by decide, by decide, by decide +kernel⟩
theorem yv_X10_blame : YV yX10_blame := ⟨tmem 756 (by decide +kernel) (by decide +kernel), smem 28 (by decide +kernel) (by decide +kernel)⟩
theorem o_X_41 : shX[41]? = some (.inr (10, ks_X_41)) := rfl
theorem fp_10_45 : FP RX10 45 10 5 (.int) := ⟨RX10, TX10, 8, tyX10, rfl, by decide, tmem 256 (by decide +kernel) (by decide +kernel), inX10, tyX10_ok, nmX10, rfl, by decide +kernel⟩
theorem fl_11_93 : FL RX11 93 11 13 := ⟨RX11, TX11, 14, rfl, by decide, tmem 392 (by decide +kernel) (by decide +kernel), inX11⟩
theorem k_X_0_13 : fk shX 0 13 = some (11, .inl 0) := rfl
theorem fl_11_10 : FL RX11 10 11 0 := ⟨RX11, TX11, 14, rfl, by decide, tmem 379 (by decide +kernel) (by decide +kernel), inX11⟩
theorem fl_11_104 : FL RX11 104 0 0 := ⟨RX0, TX0, 6, rfl, by decide, tmem 35 (by decide +kernel) (by decide +kernel), inX0⟩
theorem fl_11_19 : FL RX11 19 11 1 := ⟨RX11, TX11, 14, rfl, by decide, tmem 380 (by decide +kernel) (by decide +kernel), inX11⟩
theorem fl_11_114 : FL RX11 114 4 0 := ⟨RX4, TX4, 4, rfl, by decide, tmem 72 (by decide +kernel) (by decide +kernel), inX4⟩
theorem k_X_0_0 : fk shX 0 0 = some (11, .inr 1) := rfl
theorem ml_RX11_118 : Cond.methodLink RX11 118 yX0_has ∈ gt := tmem 457 (by decide +kernel) (by decide +kernel)
theorem yw_X0_has : YW yX0_has cX0_has 2 (some .boolean) 1 := ⟨tmem 460 (by decide +kernel) (by decide +kernel), tmem 2 (by decide +kernel) (by decide +kernel), by decide, by decide, by decide +kernel⟩
theorem yv_X0_has : YV yX0_has := ⟨tmem 458 (by decide +kernel) (by decide +kernel), tmem 459 (by decide +kernel) (by decide +kernel)⟩
theorem o_X_1 : shX[1]? = some (.inr (0, ks_X_1)) := rfl
theorem fl_11_26 : FL RX11 26 11 2 := ⟨RX11, TX11, 14, rfl, by decide, tmem 381 (by decide +kernel) (by decide +kernel), inX11⟩
theorem fl_11_89 : FL RX11 89 11 12 := ⟨RX11, TX11, 14, rfl, by decide, tmem 391 (by decide +kernel) (by decide +kernel), inX11⟩
theorem k_X_0_2 : fk shX 0 2 = some (11, .inr 11) := rfl
theorem k_X_0_1 : fk shX 0 1 = some (11, .inr 7) := rfl
theorem k_X_0_12 : fk shX 0 12 = some (11, .inl 0) := rfl
theorem ml_RX11_147 : Cond.methodLink RX11 147 yX7_begin ∈ gt := tmem 504 (by decide +kernel) (by decide +kernel)
theorem yw_X7_begin : YW yX7_begin cX7_begin 5 none 3 := ⟨tmem 507 (by decide +kernel) (by decide +kernel), tmem 4 (by decide +kernel) (by decide +kernel), by decide, by decide, by decide +kernel⟩
theorem yv_X7_begin : YV yX7_begin := ⟨tmem 505 (by decide +kernel) (by decide +kernel), tmem 506 (by decide +kernel) (by decide +kernel)⟩
theorem o_X_11 : shX[11]? = some (.inr (7, ks_X_11)) := rfl
theorem fl_11_164 : FL RX11 164 7 0 := ⟨RX7, TX7, 17, rfl, by decide, tmem 93 (by decide +kernel) (by decide +kernel), inX7⟩
theorem fl_11_174 : FL RX11 174 7 7 := ⟨RX7, TX7, 17, rfl, by decide, tmem 102 (by decide +kernel) (by decide +kernel), inX7⟩
theorem fl_11_178 : FL RX11 178 7 4 := ⟨RX7, TX7, 17, rfl, by decide, tmem 98 (by decide +kernel) (by decide +kernel), inX7⟩
theorem fl_11_33 : FL RX11 33 11 3 := ⟨RX11, TX11, 14, rfl, by decide, tmem 382 (by decide +kernel) (by decide +kernel), inX11⟩
theorem fl_11_184 : FL RX11 184 6 0 := ⟨RX6, TX6, 6, rfl, by decide, tmem 155 (by decide +kernel) (by decide +kernel), inX6⟩
theorem fl_11_189 : FL RX11 189 6 5 := ⟨RX6, TX6, 6, rfl, by decide, tmem 165 (by decide +kernel) (by decide +kernel), inX6⟩
theorem k_X_0_3 : fk shX 0 3 = some (11, .inr 19) := rfl
theorem ml_RX11_188 : Cond.methodLink RX11 188 yX6_has ∈ gt := tmem 608 (by decide +kernel) (by decide +kernel)
theorem yw_X6_has : YW yX6_has cX6_has 2 (some .boolean) 1 := ⟨tmem 611 (by decide +kernel) (by decide +kernel), tmem 5 (by decide +kernel) (by decide +kernel), by decide, by decide, by decide +kernel⟩
theorem yv_X6_has : YV yX6_has := ⟨tmem 609 (by decide +kernel) (by decide +kernel), tmem 610 (by decide +kernel) (by decide +kernel)⟩
theorem o_X_19 : shX[19]? = some (.inr (6, ks_X_19)) := rfl
theorem fl_11_40 : FL RX11 40 11 4 := ⟨RX11, TX11, 14, rfl, by decide, tmem 383 (by decide +kernel) (by decide +kernel), inX11⟩
theorem fl_11_202 : FL RX11 202 5 0 := ⟨RX5, TX5, 3, rfl, by decide, tmem 187 (by decide +kernel) (by decide +kernel), inX5⟩
theorem fl_11_47 : FL RX11 47 11 5 := ⟨RX11, TX11, 14, rfl, by decide, tmem 384 (by decide +kernel) (by decide +kernel), inX11⟩
theorem fl_11_54 : FL RX11 54 11 6 := ⟨RX11, TX11, 14, rfl, by decide, tmem 385 (by decide +kernel) (by decide +kernel), inX11⟩
theorem fl_11_212 : FL RX11 212 9 0 := ⟨RX9, TX9, 6, rfl, by decide, tmem 206 (by decide +kernel) (by decide +kernel), inX9⟩
theorem fl_11_216 : FL RX11 216 9 1 := ⟨RX9, TX9, 6, rfl, by decide, tmem 208 (by decide +kernel) (by decide +kernel), inX9⟩
theorem fl_11_230 : FL RX11 230 1 0 := ⟨RX1, TX1, 2, rfl, by decide, tmem 234 (by decide +kernel) (by decide +kernel), inX1⟩
theorem k_X_0_6 : fk shX 0 6 = some (11, .inr 40) := rfl
theorem k_X_40_0 : fk shX 40 0 = some (1, .inl 1) := rfl
theorem fl_11_234 : FL RX11 234 1 1 := ⟨RX1, TX1, 2, rfl, by decide, tmem 236 (by decide +kernel) (by decide +kernel), inX1⟩
theorem k_X_40_1 : fk shX 40 1 = some (1, .inl 1) := rfl
theorem fl_11_61 : FL RX11 61 11 7 := ⟨RX11, TX11, 14, rfl, by decide, tmem 386 (by decide +kernel) (by decide +kernel), inX11⟩
theorem fl_11_237 : FL RX11 237 10 0 := ⟨RX10, TX10, 8, rfl, by decide, tmem 249 (by decide +kernel) (by decide +kernel), inX10⟩
theorem k_X_0_7 : fk shX 0 7 = some (11, .inr 41) := rfl
theorem ml_RX11_240 : Cond.methodLink RX11 240 yX10_take ∈ gt := tmem 733 (by decide +kernel) (by decide +kernel)
theorem yw_X10_take : YW yX10_take cX10_take 3 none 1 := ⟨tmem 736 (by decide +kernel) (by decide +kernel), tmem 9 (by decide +kernel) (by decide +kernel), by decide, by decide, by decide +kernel⟩
theorem yv_X10_take : YV yX10_take := ⟨tmem 734 (by decide +kernel) (by decide +kernel), tmem 735 (by decide +kernel) (by decide +kernel)⟩
theorem fl_11_86 : FL RX11 86 11 11 := ⟨RX11, TX11, 14, rfl, by decide, tmem 390 (by decide +kernel) (by decide +kernel), inX11⟩
theorem fl_11_248 : FL RX11 248 10 1 := ⟨RX10, TX10, 8, rfl, by decide, tmem 251 (by decide +kernel) (by decide +kernel), inX10⟩
theorem fl_11_82 : FL RX11 82 11 10 := ⟨RX11, TX11, 14, rfl, by decide, tmem 389 (by decide +kernel) (by decide +kernel), inX11⟩
theorem fl_11_251 : FL RX11 251 8 0 := ⟨RX8, TX8, 4, rfl, by decide, tmem 361 (by decide +kernel) (by decide +kernel), inX8⟩
theorem fl_11_252 : FL RX11 252 10 2 := ⟨RX10, TX10, 8, rfl, by decide, tmem 253 (by decide +kernel) (by decide +kernel), inX10⟩
theorem fl_11_68 : FL RX11 68 11 8 := ⟨RX11, TX11, 14, rfl, by decide, tmem 387 (by decide +kernel) (by decide +kernel), inX11⟩
theorem fl_11_271 : FL RX11 271 2 0 := ⟨RX2, TX2, 6, rfl, by decide, tmem 287 (by decide +kernel) (by decide +kernel), inX2⟩
theorem fl_11_274 : FL RX11 274 2 1 := ⟨RX2, TX2, 6, rfl, by decide, tmem 289 (by decide +kernel) (by decide +kernel), inX2⟩
theorem fl_11_75 : FL RX11 75 11 9 := ⟨RX11, TX11, 14, rfl, by decide, tmem 388 (by decide +kernel) (by decide +kernel), inX11⟩
theorem fl_11_277 : FL RX11 277 3 0 := ⟨RX3, TX3, 11, rfl, by decide, tmem 315 (by decide +kernel) (by decide +kernel), inX3⟩
theorem k_X_0_9 : fk shX 0 9 = some (11, .inr 72) := rfl
theorem ml_RX11_279 : Cond.methodLink RX11 279 yX3_removeAll ∈ gt := tmem 918 (by decide +kernel) (by decide +kernel)
theorem yw_X3_removeAll : YW yX3_removeAll cX3_removeAll 1 none 0 := ⟨tmem 921 (by decide +kernel) (by decide +kernel), tmem 11 (by decide +kernel) (by decide +kernel), by decide, by decide, by decide +kernel⟩
theorem yv_X3_removeAll : YV yX3_removeAll := ⟨tmem 919 (by decide +kernel) (by decide +kernel), tmem 920 (by decide +kernel) (by decide +kernel)⟩
theorem o_X_72 : shX[72]? = some (.inr (3, ks_X_72)) := rfl
theorem fl_11_286 : FL RX11 286 3 2 := ⟨RX3, TX3, 11, rfl, by decide, tmem 319 (by decide +kernel) (by decide +kernel), inX3⟩
theorem fl_11_289 : FL RX11 289 3 1 := ⟨RX3, TX3, 11, rfl, by decide, tmem 317 (by decide +kernel) (by decide +kernel), inX3⟩
theorem fp_11_93 : FP RX11 93 11 13 (.int) := ⟨RX11, TX11, 14, tyX11, rfl, by decide, tmem 392 (by decide +kernel) (by decide +kernel), inX11, tyX11_ok, nmX11, rfl, by decide +kernel⟩
theorem ml_RX11_135 : Cond.methodLink RX11 135 yX4_has ∈ gt := tmem 483 (by decide +kernel) (by decide +kernel)
theorem yw_X4_has : YW yX4_has cX4_has 2 (some .boolean) 1 := ⟨tmem 486 (by decide +kernel) (by decide +kernel), tmem 3 (by decide +kernel) (by decide +kernel), by decide, by decide, by decide +kernel⟩
theorem yv_X4_has : YV yX4_has := ⟨tmem 484 (by decide +kernel) (by decide +kernel), tmem 485 (by decide +kernel) (by decide +kernel)⟩
theorem ml_RX11_96 : Cond.methodLink RX11 96 yX11_within ∈ gt := tmem 430 (by decide +kernel) (by decide +kernel)
theorem yw_X11_within : YW yX11_within cX11_within 3 (some .boolean) 3 := ⟨tmem 432 (by decide +kernel) (by decide +kernel), tmem 1 (by decide +kernel) (by decide +kernel), by decide, by decide, by decide +kernel⟩
theorem ys_X11_within : Cond.static yX11_within ∈ gt := tmem 431 (by decide +kernel) (by decide +kernel)
theorem ml_RX11_126 : Cond.methodLink RX11 126 yJ6_bitCount_0f7a4 ∈ gt := tmem 469 (by decide +kernel) (by decide +kernel)
theorem ml_RX1_22 : Cond.methodLink RX1 22 yX1_commonDivisor ∈ gt := tmem 705 (by decide +kernel) (by decide +kernel)
theorem yw_X1_commonDivisor : YW yX1_commonDivisor cX1_commonDivisor 11 (some .long) 2 := ⟨tmem 707 (by decide +kernel) (by decide +kernel), tmem 8 (by decide +kernel) (by decide +kernel), by decide, by decide, by decide +kernel⟩
theorem ys_X1_commonDivisor : Cond.static yX1_commonDivisor ∈ gt := tmem 706 (by decide +kernel) (by decide +kernel)
theorem fp_1_7 : FP RX1 7 1 0 (.long) := ⟨RX1, TX1, 2, tyX1, rfl, by decide, tmem 233 (by decide +kernel) (by decide +kernel), inX1, tyX1_ok, nmX1, rfl, by decide +kernel⟩
theorem fp_1_13 : FP RX1 13 1 1 (.long) := ⟨RX1, TX1, 2, tyX1, rfl, by decide, tmem 235 (by decide +kernel) (by decide +kernel), inX1, tyX1_ok, nmX1, rfl, by decide +kernel⟩
theorem ml_RX2_33 : Cond.methodLink RX2 33 yX5_marksOf ∈ gt := tmem 876 (by decide +kernel) (by decide +kernel)
theorem yw_X5_marksOf : YW yX5_marksOf cX5_marksOf 4 (some .int) 1 := ⟨tmem 649 (by decide +kernel) (by decide +kernel), tmem 6 (by decide +kernel) (by decide +kernel), by decide, by decide, by decide +kernel⟩
theorem yv_X5_marksOf : YV yX5_marksOf := ⟨tmem 647 (by decide +kernel) (by decide +kernel), tmem 648 (by decide +kernel) (by decide +kernel)⟩
theorem ml_RX3_43 : Cond.methodLink RX3 43 yX3_emptyAll ∈ gt := tmem 930 (by decide +kernel) (by decide +kernel)
theorem yw_X3_emptyAll : YW yX3_emptyAll cX3_emptyAll 2 none 0 := ⟨tmem 933 (by decide +kernel) (by decide +kernel), tmem 11 (by decide +kernel) (by decide +kernel), by decide, by decide, by decide +kernel⟩
theorem yv_X3_emptyAll : YV yX3_emptyAll := ⟨tmem 932 (by decide +kernel) (by decide +kernel), smem 39 (by decide +kernel) (by decide +kernel)⟩
theorem ml_RX3_57 : Cond.methodLink RX3 57 yX3_move ∈ gt := tmem 939 (by decide +kernel) (by decide +kernel)
theorem yw_X3_move : YW yX3_move cX3_move 5 none 3 := ⟨tmem 942 (by decide +kernel) (by decide +kernel), tmem 11 (by decide +kernel) (by decide +kernel), by decide, by decide, by decide +kernel⟩
theorem yv_X3_move : YV yX3_move := ⟨tmem 941 (by decide +kernel) (by decide +kernel), smem 41 (by decide +kernel) (by decide +kernel)⟩
theorem ml_RX5_49 : Cond.methodLink RX5 49 yX6_standsOn ∈ gt := tmem 624 (by decide +kernel) (by decide +kernel)
theorem yw_X6_standsOn : YW yX6_standsOn cX6_standsOn 3 (some .boolean) 2 := ⟨tmem 627 (by decide +kernel) (by decide +kernel), tmem 5 (by decide +kernel) (by decide +kernel), by decide, by decide, by decide +kernel⟩
theorem yv_X6_standsOn : YV yX6_standsOn := ⟨tmem 625 (by decide +kernel) (by decide +kernel), tmem 626 (by decide +kernel) (by decide +kernel)⟩
theorem k_X_25_2 : fk shX 25 2 = some (5, .inr 28) := rfl
theorem a_X_28 : shX[28]? = some (.inl (0, 288, .inl 0)) := rfl
theorem ml_RX5_54 : Cond.methodLink RX5 54 yX5_joinHeaps ∈ gt := tmem 636 (by decide +kernel) (by decide +kernel)
theorem yw_X5_joinHeaps : YW yX5_joinHeaps cX5_joinHeaps 6 none 2 := ⟨tmem 639 (by decide +kernel) (by decide +kernel), tmem 6 (by decide +kernel) (by decide +kernel), by decide, by decide, by decide +kernel⟩
theorem yv_X5_joinHeaps : YV yX5_joinHeaps := ⟨tmem 638 (by decide +kernel) (by decide +kernel), smem 18 (by decide +kernel) (by decide +kernel)⟩
theorem ml_RX7_109 : Cond.methodLink RX7 109 yX7_join ∈ gt := tmem 554 (by decide +kernel) (by decide +kernel)
theorem yw_X7_join : YW yX7_join cX7_join 3 none 2 := ⟨tmem 557 (by decide +kernel) (by decide +kernel), tmem 4 (by decide +kernel) (by decide +kernel), by decide, by decide, by decide +kernel⟩
theorem yv_X7_join : YV yX7_join := ⟨tmem 556 (by decide +kernel) (by decide +kernel), smem 14 (by decide +kernel) (by decide +kernel)⟩
theorem ml_RX7_106 : Cond.methodLink RX7 106 yX7_part ∈ gt := tmem 550 (by decide +kernel) (by decide +kernel)
theorem yw_X7_part : YW yX7_part cX7_part 3 none 2 := ⟨tmem 553 (by decide +kernel) (by decide +kernel), tmem 4 (by decide +kernel) (by decide +kernel), by decide, by decide, by decide +kernel⟩
theorem yv_X7_part : YV yX7_part := ⟨tmem 552 (by decide +kernel) (by decide +kernel), smem 13 (by decide +kernel) (by decide +kernel)⟩
theorem ml_RX7_94 : Cond.methodLink RX7 94 yX7_hasRoom ∈ gt := tmem 538 (by decide +kernel) (by decide +kernel)
theorem yw_X7_hasRoom : YW yX7_hasRoom cX7_hasRoom 2 (some .boolean) 1 := ⟨tmem 541 (by decide +kernel) (by decide +kernel), tmem 4 (by decide +kernel) (by decide +kernel), by decide, by decide, by decide +kernel⟩
theorem yv_X7_hasRoom : YV yX7_hasRoom := ⟨tmem 540 (by decide +kernel) (by decide +kernel), smem 10 (by decide +kernel) (by decide +kernel)⟩
theorem ml_RX7_90 : Cond.methodLink RX7 90 yX7_lacks ∈ gt := tmem 525 (by decide +kernel) (by decide +kernel)
theorem yw_X7_lacks : YW yX7_lacks cX7_lacks 2 (some .boolean) 1 := ⟨tmem 528 (by decide +kernel) (by decide +kernel), tmem 4 (by decide +kernel) (by decide +kernel), by decide, by decide, by decide +kernel⟩
theorem yv_X7_lacks : YV yX7_lacks := ⟨tmem 527 (by decide +kernel) (by decide +kernel), smem 7 (by decide +kernel) (by decide +kernel)⟩
theorem ml_RX7_125 : Cond.methodLink RX7 125 yX7_reach ∈ gt := tmem 530 (by decide +kernel) (by decide +kernel)
theorem yw_X7_reach : YW yX7_reach cX7_reach 3 none 2 := ⟨tmem 533 (by decide +kernel) (by decide +kernel), tmem 4 (by decide +kernel) (by decide +kernel), by decide, by decide, by decide +kernel⟩
theorem yv_X7_reach : YV yX7_reach := ⟨tmem 532 (by decide +kernel) (by decide +kernel), smem 8 (by decide +kernel) (by decide +kernel)⟩
theorem ml_RX7_103 : Cond.methodLink RX7 103 yX7_openBoards ∈ gt := tmem 546 (by decide +kernel) (by decide +kernel)
theorem yw_X7_openBoards : YW yX7_openBoards cX7_openBoards 2 (some .int) 1 := ⟨tmem 549 (by decide +kernel) (by decide +kernel), tmem 4 (by decide +kernel) (by decide +kernel), by decide, by decide, by decide +kernel⟩
theorem yv_X7_openBoards : YV yX7_openBoards := ⟨tmem 548 (by decide +kernel) (by decide +kernel), smem 12 (by decide +kernel) (by decide +kernel)⟩
theorem ml_RX8_33 : Cond.methodLink RX8 33 yX8_meets ∈ gt := tmem 901 (by decide +kernel) (by decide +kernel)
theorem yw_X8_meets : YW yX8_meets cX8_meets 4 (some .boolean) 3 := ⟨tmem 904 (by decide +kernel) (by decide +kernel), tmem 12 (by decide +kernel) (by decide +kernel), by decide, by decide, by decide +kernel⟩
theorem yv_X8_meets : YV yX8_meets := ⟨tmem 903 (by decide +kernel) (by decide +kernel), smem 38 (by decide +kernel) (by decide +kernel)⟩
theorem ml_RX8_43 : Cond.methodLink RX8 43 yJ9_max_7cf53 ∈ gt := tmem 905 (by decide +kernel) (by decide +kernel)
theorem ml_RX9_64 : Cond.methodLink RX9 64 yX1_become ∈ gt := tmem 720 (by decide +kernel) (by decide +kernel)
theorem yw_X1_become : YW yX1_become cX1_become 7 none 2 := ⟨tmem 703 (by decide +kernel) (by decide +kernel), tmem 8 (by decide +kernel) (by decide +kernel), by decide, by decide, by decide +kernel⟩
theorem yv_X1_become : YV yX1_become := ⟨tmem 701 (by decide +kernel) (by decide +kernel), tmem 702 (by decide +kernel) (by decide +kernel)⟩
theorem ml_RX9_75 : Cond.methodLink RX9 75 yX9_takeShares ∈ gt := tmem 684 (by decide +kernel) (by decide +kernel)
theorem yw_X9_takeShares : YW yX9_takeShares cX9_takeShares 6 none 4 := ⟨tmem 687 (by decide +kernel) (by decide +kernel), tmem 7 (by decide +kernel) (by decide +kernel), by decide, by decide, by decide +kernel⟩
theorem yv_X9_takeShares : YV yX9_takeShares := ⟨tmem 686 (by decide +kernel) (by decide +kernel), smem 23 (by decide +kernel) (by decide +kernel)⟩
theorem o_X_29 : shX[29]? = some (.inr (9, ks_X_29)) := rfl
theorem ml_RX9_79 : Cond.methodLink RX9 79 yX9_minor ∈ gt := tmem 692 (by decide +kernel) (by decide +kernel)
theorem yw_X9_minor : YW yX9_minor cX9_minor 12 (some .long) 2 := ⟨tmem 695 (by decide +kernel) (by decide +kernel), tmem 7 (by decide +kernel) (by decide +kernel), by decide, by decide, by decide +kernel⟩
theorem yv_X9_minor : YV yX9_minor := ⟨tmem 694 (by decide +kernel) (by decide +kernel), smem 25 (by decide +kernel) (by decide +kernel)⟩
theorem ml_RX10_54 : Cond.methodLink RX10 54 yX10_isWord ∈ gt := tmem 763 (by decide +kernel) (by decide +kernel)
theorem yw_X10_isWord : YW yX10_isWord cX10_isWord 3 (some .boolean) 1 := ⟨tmem 766 (by decide +kernel) (by decide +kernel), tmem 9 (by decide +kernel) (by decide +kernel), by decide, by decide, by decide +kernel⟩
theorem yv_X10_isWord : YV yX10_isWord := ⟨tmem 765 (by decide +kernel) (by decide +kernel), smem 30 (by decide +kernel) (by decide +kernel)⟩
theorem ml_RX10_126 : Cond.methodLink RX10 126 yX10_endOfRun ∈ gt := tmem 750 (by decide +kernel) (by decide +kernel)
theorem yw_X10_endOfRun : YW yX10_endOfRun cX10_endOfRun 4 (some .int) 2 := ⟨tmem 753 (by decide +kernel) (by decide +kernel), tmem 9 (by decide +kernel) (by decide +kernel), by decide, by decide, by decide +kernel⟩
theorem yv_X10_endOfRun : YV yX10_endOfRun := ⟨tmem 752 (by decide +kernel) (by decide +kernel), smem 27 (by decide +kernel) (by decide +kernel)⟩
theorem fp_10_34 : FP RX10 34 10 7 (.int) := ⟨RX10, TX10, 8, tyX10, rfl, by decide, tmem 258 (by decide +kernel) (by decide +kernel), inX10, tyX10_ok, nmX10, rfl, by decide +kernel⟩
theorem ml_RX11_100 : Cond.methodLink RX11 100 yX11_none ∈ gt := tmem 433 (by decide +kernel) (by decide +kernel)
theorem yw_X11_none : YW yX11_none cX11_none 2 (some .int) 1 := ⟨tmem 436 (by decide +kernel) (by decide +kernel), tmem 1 (by decide +kernel) (by decide +kernel), by decide, by decide, by decide +kernel⟩
theorem yv_X11_none : YV yX11_none := ⟨tmem 435 (by decide +kernel) (by decide +kernel), smem 0 (by decide +kernel) (by decide +kernel)⟩
theorem o_X_0 : shX[0]? = some (.inr (11, ks_X_0)) := rfl
theorem ml_RX11_107 : Cond.methodLink RX11 107 yX0_add ∈ gt := tmem 437 (by decide +kernel) (by decide +kernel)
theorem yw_X0_add : YW yX0_add cX0_add 7 (some .int) 5 := ⟨tmem 440 (by decide +kernel) (by decide +kernel), tmem 2 (by decide +kernel) (by decide +kernel), by decide, by decide, by decide +kernel⟩
theorem yv_X0_add : YV yX0_add := ⟨tmem 438 (by decide +kernel) (by decide +kernel), tmem 439 (by decide +kernel) (by decide +kernel)⟩
theorem ml_RX11_111 : Cond.methodLink RX11 111 yX11_answer ∈ gt := tmem 441 (by decide +kernel) (by decide +kernel)
theorem yw_X11_answer : YW yX11_answer cX11_answer 2 (some .int) 1 := ⟨tmem 444 (by decide +kernel) (by decide +kernel), tmem 1 (by decide +kernel) (by decide +kernel), by decide, by decide, by decide +kernel⟩
theorem yv_X11_answer : YV yX11_answer := ⟨tmem 443 (by decide +kernel) (by decide +kernel), smem 1 (by decide +kernel) (by decide +kernel)⟩
theorem ml_RX11_115 : Cond.methodLink RX11 115 yX4_add ∈ gt := tmem 449 (by decide +kernel) (by decide +kernel)
theorem yw_X4_add : YW yX4_add cX4_add 5 (some .int) 3 := ⟨tmem 452 (by decide +kernel) (by decide +kernel), tmem 3 (by decide +kernel) (by decide +kernel), by decide, by decide, by decide +kernel⟩
theorem yv_X4_add : YV yX4_add := ⟨tmem 450 (by decide +kernel) (by decide +kernel), tmem 451 (by decide +kernel) (by decide +kernel)⟩
theorem ml_RX11_122 : Cond.methodLink RX11 122 yX4_allowedFor ∈ gt := tmem 461 (by decide +kernel) (by decide +kernel)
theorem ml_RX11_131 : Cond.methodLink RX11 131 yX0_trait ∈ gt := tmem 475 (by decide +kernel) (by decide +kernel)
theorem yw_X0_trait : YW yX0_trait cX0_trait 3 (some .int) 2 := ⟨tmem 478 (by decide +kernel) (by decide +kernel), tmem 2 (by decide +kernel) (by decide +kernel), by decide, by decide, by decide +kernel⟩
theorem yv_X0_trait : YV yX0_trait := ⟨tmem 476 (by decide +kernel) (by decide +kernel), tmem 477 (by decide +kernel) (by decide +kernel)⟩
theorem ml_RX11_136 : Cond.methodLink RX11 136 yX4_isAllowed ∈ gt := tmem 487 (by decide +kernel) (by decide +kernel)
theorem ml_RX11_140 : Cond.methodLink RX11 140 yX11_no ∈ gt := tmem 492 (by decide +kernel) (by decide +kernel)
theorem yw_X11_no : YW yX11_no cX11_no 2 (some .boolean) 1 := ⟨tmem 495 (by decide +kernel) (by decide +kernel), tmem 1 (by decide +kernel) (by decide +kernel), by decide, by decide, by decide +kernel⟩
theorem yv_X11_no : YV yX11_no := ⟨tmem 494 (by decide +kernel) (by decide +kernel), smem 2 (by decide +kernel) (by decide +kernel)⟩
theorem fp_11_89 : FP RX11 89 11 12 (.int) := ⟨RX11, TX11, 14, tyX11, rfl, by decide, tmem 391 (by decide +kernel) (by decide +kernel), inX11, tyX11_ok, nmX11, rfl, by decide +kernel⟩
theorem ml_RX11_143 : Cond.methodLink RX11 143 yX11_yes ∈ gt := tmem 496 (by decide +kernel) (by decide +kernel)
theorem yw_X11_yes : YW yX11_yes cX11_yes 1 (some .boolean) 0 := ⟨tmem 499 (by decide +kernel) (by decide +kernel), tmem 1 (by decide +kernel) (by decide +kernel), by decide, by decide, by decide +kernel⟩
theorem yv_X11_yes : YV yX11_yes := ⟨tmem 498 (by decide +kernel) (by decide +kernel), smem 3 (by decide +kernel) (by decide +kernel)⟩
theorem ml_RX11_168 : Cond.methodLink RX11 168 yX7_hasJudge ∈ gt := tmem 581 (by decide +kernel) (by decide +kernel)
theorem yw_X7_hasJudge : YW yX7_hasJudge cX7_hasJudge 2 (some .boolean) 1 := ⟨tmem 584 (by decide +kernel) (by decide +kernel), tmem 4 (by decide +kernel) (by decide +kernel), by decide, by decide, by decide +kernel⟩
theorem yv_X7_hasJudge : YV yX7_hasJudge := ⟨tmem 582 (by decide +kernel) (by decide +kernel), tmem 583 (by decide +kernel) (by decide +kernel)⟩
theorem ml_RX11_171 : Cond.methodLink RX11 171 yX7_hasBoard ∈ gt := tmem 585 (by decide +kernel) (by decide +kernel)
theorem yw_X7_hasBoard : YW yX7_hasBoard cX7_hasBoard 2 (some .boolean) 1 := ⟨tmem 588 (by decide +kernel) (by decide +kernel), tmem 4 (by decide +kernel) (by decide +kernel), by decide, by decide, by decide +kernel⟩
theorem yv_X7_hasBoard : YV yX7_hasBoard := ⟨tmem 586 (by decide +kernel) (by decide +kernel), tmem 587 (by decide +kernel) (by decide +kernel)⟩
theorem k_X_11_4 : fk shX 11 4 = some (7, .inl 0) := rfl
theorem ml_RX11_181 : Cond.methodLink RX11 181 yX11_isDay ∈ gt := tmem 597 (by decide +kernel) (by decide +kernel)
theorem yw_X11_isDay : YW yX11_isDay cX11_isDay 1 (some .boolean) 1 := ⟨tmem 599 (by decide +kernel) (by decide +kernel), tmem 1 (by decide +kernel) (by decide +kernel), by decide, by decide, by decide +kernel⟩
theorem ys_X11_isDay : Cond.static yX11_isDay ∈ gt := tmem 598 (by decide +kernel) (by decide +kernel)
theorem ml_RX11_185 : Cond.methodLink RX11 185 yX6_add ∈ gt := tmem 600 (by decide +kernel) (by decide +kernel)
theorem yw_X6_add : YW yX6_add cX6_add 6 (some .int) 4 := ⟨tmem 603 (by decide +kernel) (by decide +kernel), tmem 5 (by decide +kernel) (by decide +kernel), by decide, by decide, by decide +kernel⟩
theorem yv_X6_add : YV yX6_add := ⟨tmem 601 (by decide +kernel) (by decide +kernel), tmem 602 (by decide +kernel) (by decide +kernel)⟩
theorem k_X_0_4 : fk shX 0 4 = some (11, .inr 25) := rfl
theorem k_X_0_11 : fk shX 0 11 = some (11, .inl 2) := rfl
theorem k_X_0_10 : fk shX 0 10 = some (11, .inl 2) := rfl
theorem ml_RX11_255 : Cond.methodLink RX11 255 yX8_has ∈ gt := tmem 858 (by decide +kernel) (by decide +kernel)
theorem yw_X8_has : YW yX8_has cX8_has 2 (some .boolean) 1 := ⟨tmem 861 (by decide +kernel) (by decide +kernel), tmem 12 (by decide +kernel) (by decide +kernel), by decide, by decide, by decide +kernel⟩
theorem yv_X8_has : YV yX8_has := ⟨tmem 859 (by decide +kernel) (by decide +kernel), tmem 860 (by decide +kernel) (by decide +kernel)⟩
theorem ml_RX11_278 : Cond.methodLink RX11 278 yX3_add ∈ gt := tmem 910 (by decide +kernel) (by decide +kernel)
theorem yw_X3_add : YW yX3_add cX3_add 5 (some .int) 3 := ⟨tmem 913 (by decide +kernel) (by decide +kernel), tmem 11 (by decide +kernel) (by decide +kernel), by decide, by decide, by decide +kernel⟩
theorem yv_X3_add : YV yX3_add := ⟨tmem 911 (by decide +kernel) (by decide +kernel), tmem 912 (by decide +kernel) (by decide +kernel)⟩
theorem ml_RX2_39 : Cond.methodLink RX2 39 yX9_rate ∈ gt := tmem 877 (by decide +kernel) (by decide +kernel)
theorem yw_X9_rate : YW yX9_rate cX9_rate 10 none 3 := ⟨tmem 719 (by decide +kernel) (by decide +kernel), tmem 7 (by decide +kernel) (by decide +kernel), by decide, by decide, by decide +kernel⟩
theorem yv_X9_rate : YV yX9_rate := ⟨tmem 717 (by decide +kernel) (by decide +kernel), tmem 718 (by decide +kernel) (by decide +kernel)⟩
theorem ml_RX2_45 : Cond.methodLink RX2 45 yX2_insert ∈ gt := tmem 878 (by decide +kernel) (by decide +kernel)
theorem yw_X2_insert : YW yX2_insert cX2_insert 3 none 1 := ⟨tmem 881 (by decide +kernel) (by decide +kernel), tmem 10 (by decide +kernel) (by decide +kernel), by decide, by decide, by decide +kernel⟩
theorem yv_X2_insert : YV yX2_insert := ⟨tmem 880 (by decide +kernel) (by decide +kernel), smem 36 (by decide +kernel) (by decide +kernel)⟩
theorem o_X_43 : shX[43]? = some (.inr (2, ks_X_43)) := rfl
theorem ml_RX2_64 : Cond.methodLink RX2 64 yX8_isWished ∈ gt := tmem 897 (by decide +kernel) (by decide +kernel)
theorem yw_X8_isWished : YW yX8_isWished cX8_isWished 5 (some .boolean) 4 := ⟨tmem 900 (by decide +kernel) (by decide +kernel), tmem 12 (by decide +kernel) (by decide +kernel), by decide, by decide, by decide +kernel⟩
theorem yv_X8_isWished : YV yX8_isWished := ⟨tmem 898 (by decide +kernel) (by decide +kernel), tmem 899 (by decide +kernel) (by decide +kernel)⟩
theorem k_X_43_5 : fk shX 43 5 = some (2, .inr 47) := rfl
theorem a_X_47 : shX[47]? = some (.inl (2, 24, .inl 0)) := rfl
theorem k_X_43_1 : fk shX 43 1 = some (2, .inr 44) := rfl
theorem k_X_43_0 : fk shX 43 0 = some (2, .inl 0) := rfl
theorem a_X_44 : shX[44]? = some (.inl (0, 24, .inl 0)) := rfl
theorem fp_2_53 : FP RX2 53 2 0 (.int) := ⟨RX2, TX2, 6, tyX2, rfl, by decide, tmem 286 (by decide +kernel) (by decide +kernel), inX2, tyX2_ok, nmX2, rfl, by decide +kernel⟩
theorem ml_RX3_61 : Cond.methodLink RX3 61 yX3_place ∈ gt := tmem 943 (by decide +kernel) (by decide +kernel)
theorem yw_X3_place : YW yX3_place cX3_place 5 (some .int) 3 := ⟨tmem 946 (by decide +kernel) (by decide +kernel), tmem 11 (by decide +kernel) (by decide +kernel), by decide, by decide, by decide +kernel⟩
theorem yv_X3_place : YV yX3_place := ⟨tmem 945 (by decide +kernel) (by decide +kernel), smem 42 (by decide +kernel) (by decide +kernel)⟩
theorem ml_RX5_21 : Cond.methodLink RX5 21 yX5_takeLatest ∈ gt := tmem 620 (by decide +kernel) (by decide +kernel)
theorem yw_X5_takeLatest : YW yX5_takeLatest cX5_takeLatest 6 none 2 := ⟨tmem 623 (by decide +kernel) (by decide +kernel), tmem 6 (by decide +kernel) (by decide +kernel), by decide, by decide, by decide +kernel⟩
theorem yv_X5_takeLatest : YV yX5_takeLatest := ⟨tmem 622 (by decide +kernel) (by decide +kernel), smem 16 (by decide +kernel) (by decide +kernel)⟩
theorem ml_RX5_25 : Cond.methodLink RX5 25 yX5_formHeaps ∈ gt := tmem 628 (by decide +kernel) (by decide +kernel)
theorem yw_X5_formHeaps : YW yX5_formHeaps cX5_formHeaps 4 none 0 := ⟨tmem 631 (by decide +kernel) (by decide +kernel), tmem 6 (by decide +kernel) (by decide +kernel), by decide, by decide, by decide +kernel⟩
theorem yv_X5_formHeaps : YV yX5_formHeaps := ⟨tmem 630 (by decide +kernel) (by decide +kernel), smem 17 (by decide +kernel) (by decide +kernel)⟩
theorem ml_RX7_121 : Cond.methodLink RX7 121 yX7_reachShown ∈ gt := tmem 542 (by decide +kernel) (by decide +kernel)
theorem yw_X7_reachShown : YW yX7_reachShown cX7_reachShown 4 none 1 := ⟨tmem 545 (by decide +kernel) (by decide +kernel), tmem 4 (by decide +kernel) (by decide +kernel), by decide, by decide, by decide +kernel⟩
theorem yv_X7_reachShown : YV yX7_reachShown := ⟨tmem 544 (by decide +kernel) (by decide +kernel), smem 11 (by decide +kernel) (by decide +kernel)⟩
theorem ml_RX7_97 : Cond.methodLink RX7 97 yX7_openJudges ∈ gt := tmem 534 (by decide +kernel) (by decide +kernel)
theorem yw_X7_openJudges : YW yX7_openJudges cX7_openJudges 2 (some .int) 1 := ⟨tmem 537 (by decide +kernel) (by decide +kernel), tmem 4 (by decide +kernel) (by decide +kernel), by decide, by decide, by decide +kernel⟩
theorem yv_X7_openJudges : YV yX7_openJudges := ⟨tmem 536 (by decide +kernel) (by decide +kernel), smem 9 (by decide +kernel) (by decide +kernel)⟩
theorem ml_RX7_112 : Cond.methodLink RX7 112 yX7_startAtLacking ∈ gt := tmem 521 (by decide +kernel) (by decide +kernel)
theorem yw_X7_startAtLacking : YW yX7_startAtLacking cX7_startAtLacking 2 none 0 := ⟨tmem 524 (by decide +kernel) (by decide +kernel), tmem 4 (by decide +kernel) (by decide +kernel), by decide, by decide, by decide +kernel⟩
theorem yv_X7_startAtLacking : YV yX7_startAtLacking := ⟨tmem 523 (by decide +kernel) (by decide +kernel), smem 6 (by decide +kernel) (by decide +kernel)⟩
theorem ml_RX9_46 : Cond.methodLink RX9 46 yX9_determinant ∈ gt := tmem 688 (by decide +kernel) (by decide +kernel)
theorem yw_X9_determinant : YW yX9_determinant cX9_determinant 4 (some .long) 1 := ⟨tmem 691 (by decide +kernel) (by decide +kernel), tmem 7 (by decide +kernel) (by decide +kernel), by decide, by decide, by decide +kernel⟩
theorem yv_X9_determinant : YV yX9_determinant := ⟨tmem 690 (by decide +kernel) (by decide +kernel), smem 24 (by decide +kernel) (by decide +kernel)⟩
theorem ml_RX9_39 : Cond.methodLink RX9 39 yX9_gather ∈ gt := tmem 670 (by decide +kernel) (by decide +kernel)
theorem yw_X9_gather : YW yX9_gather cX9_gather 4 none 2 := ⟨tmem 673 (by decide +kernel) (by decide +kernel), tmem 7 (by decide +kernel) (by decide +kernel), by decide, by decide, by decide +kernel⟩
theorem yv_X9_gather : YV yX9_gather := ⟨tmem 672 (by decide +kernel) (by decide +kernel), smem 20 (by decide +kernel) (by decide +kernel)⟩
theorem ml_RX9_70 : Cond.methodLink RX9 70 yX9_addBoard ∈ gt := tmem 678 (by decide +kernel) (by decide +kernel)
theorem yw_X9_addBoard : YW yX9_addBoard cX9_addBoard 8 none 2 := ⟨tmem 681 (by decide +kernel) (by decide +kernel), tmem 7 (by decide +kernel) (by decide +kernel), by decide, by decide, by decide +kernel⟩
theorem yv_X9_addBoard : YV yX9_addBoard := ⟨tmem 680 (by decide +kernel) (by decide +kernel), smem 22 (by decide +kernel) (by decide +kernel)⟩
theorem ml_RX10_42 : Cond.methodLink RX10 42 yX10_step ∈ gt := tmem 746 (by decide +kernel) (by decide +kernel)
theorem yw_X10_step : YW yX10_step cX10_step 1 none 0 := ⟨tmem 749 (by decide +kernel) (by decide +kernel), tmem 9 (by decide +kernel) (by decide +kernel), by decide, by decide, by decide +kernel⟩
theorem yv_X10_step : YV yX10_step := ⟨tmem 748 (by decide +kernel) (by decide +kernel), smem 26 (by decide +kernel) (by decide +kernel)⟩
theorem fs_RX10_97 : Cond.fieldLink RX10 97 "FairHall$TextReader" "LEAST_WISH" "[I" ∈ gt := tmem 831 (by decide +kernel) (by decide +kernel)
theorem fs_RX10_100 : Cond.fieldLink RX10 100 "FairHall$TextReader" "GREATEST_WISH" "[I" ∈ gt := tmem 833 (by decide +kernel) (by decide +kernel)
theorem ml_RX10_114 : (RX10, 114, yX11_within) ∈ nwL := by decide +kernel
theorem ml_RX11_192 : Cond.methodLink RX11 192 yX5_lookBack ∈ gt := tmem 616 (by decide +kernel) (by decide +kernel)
theorem yw_X5_lookBack : YW yX5_lookBack cX5_lookBack 3 none 2 := ⟨tmem 619 (by decide +kernel) (by decide +kernel), tmem 6 (by decide +kernel) (by decide +kernel), by decide, by decide, by decide +kernel⟩
theorem yv_X5_lookBack : YV yX5_lookBack := ⟨tmem 617 (by decide +kernel) (by decide +kernel), tmem 618 (by decide +kernel) (by decide +kernel)⟩
theorem ml_RX11_196 : Cond.methodLink RX11 196 yX5_marksOf ∈ gt := tmem 646 (by decide +kernel) (by decide +kernel)
theorem ml_RX11_223 : Cond.methodLink RX11 223 yX5_heapAround ∈ gt := tmem 712 (by decide +kernel) (by decide +kernel)
theorem yw_X5_heapAround : YW yX5_heapAround cX5_heapAround 3 (some .int) 1 := ⟨tmem 715 (by decide +kernel) (by decide +kernel), tmem 6 (by decide +kernel) (by decide +kernel), by decide, by decide, by decide +kernel⟩
theorem yv_X5_heapAround : YV yX5_heapAround := ⟨tmem 713 (by decide +kernel) (by decide +kernel), tmem 714 (by decide +kernel) (by decide +kernel)⟩
theorem ml_RX11_205 : Cond.methodLink RX11 205 yX5_isGreat ∈ gt := tmem 662 (by decide +kernel) (by decide +kernel)
theorem k_X_0_5 : fk shX 0 5 = some (11, .inr 29) := rfl
theorem ml_RX11_256 : Cond.methodLink RX11 256 yX5_anyGreat ∈ gt := tmem 862 (by decide +kernel) (by decide +kernel)
theorem yw_X5_anyGreat : YW yX5_anyGreat cX5_anyGreat 2 (some .boolean) 0 := ⟨tmem 865 (by decide +kernel) (by decide +kernel), tmem 6 (by decide +kernel) (by decide +kernel), by decide, by decide, by decide +kernel⟩
theorem yv_X5_anyGreat : YV yX5_anyGreat := ⟨tmem 863 (by decide +kernel) (by decide +kernel), tmem 864 (by decide +kernel) (by decide +kernel)⟩
theorem ml_RX2_49 : Cond.methodLink RX2 49 yX2_giveOne ∈ gt := tmem 893 (by decide +kernel) (by decide +kernel)
theorem yw_X2_giveOne : YW yX2_giveOne cX2_giveOne 8 none 4 := ⟨tmem 896 (by decide +kernel) (by decide +kernel), tmem 10 (by decide +kernel) (by decide +kernel), by decide, by decide, by decide +kernel⟩
theorem yv_X2_giveOne : YV yX2_giveOne := ⟨tmem 895 (by decide +kernel) (by decide +kernel), smem 37 (by decide +kernel) (by decide +kernel)⟩
theorem ml_RX3_46 : Cond.methodLink RX3 46 yX3_search ∈ gt := tmem 934 (by decide +kernel) (by decide +kernel)
theorem yw_X3_search : YW yX3_search cX3_search 5 (some .int) 1 := ⟨tmem 937 (by decide +kernel) (by decide +kernel), tmem 11 (by decide +kernel) (by decide +kernel), by decide, by decide, by decide +kernel⟩
theorem yv_X3_search : YV yX3_search := ⟨tmem 936 (by decide +kernel) (by decide +kernel), smem 40 (by decide +kernel) (by decide +kernel)⟩
theorem fp_3_50 : FP RX3 50 3 10 (.int) := ⟨RX3, TX3, 11, tyX3, rfl, by decide, tmem 327 (by decide +kernel) (by decide +kernel), inX3, tyX3_ok, nmX3, rfl, by decide +kernel⟩
theorem k_X_72_10 : fk shX 72 10 = some (3, .inl 0) := rfl
theorem ml_RX7_74 : Cond.methodLink RX7 74 yX7_reachRoom ∈ gt := tmem 517 (by decide +kernel) (by decide +kernel)
theorem yw_X7_reachRoom : YW yX7_reachRoom cX7_reachRoom 5 (some .int) 0 := ⟨tmem 520 (by decide +kernel) (by decide +kernel), tmem 4 (by decide +kernel) (by decide +kernel), by decide, by decide, by decide +kernel⟩
theorem yv_X7_reachRoom : YV yX7_reachRoom := ⟨tmem 519 (by decide +kernel) (by decide +kernel), smem 5 (by decide +kernel) (by decide +kernel)⟩
theorem fl_7_81 : FL RX7 81 7 4 := ⟨RX7, TX7, 17, rfl, by decide, tmem 97 (by decide +kernel) (by decide +kernel), inX7⟩
theorem fp_7_81 : FP RX7 81 7 4 (.int) := ⟨RX7, TX7, 17, tyX7, rfl, by decide, tmem 97 (by decide +kernel) (by decide +kernel), inX7, tyX7_ok, nmX7, rfl, by decide +kernel⟩
theorem ml_RX9_42 : Cond.methodLink RX9 42 yX9_setRows ∈ gt := tmem 674 (by decide +kernel) (by decide +kernel)
theorem yw_X9_setRows : YW yX9_setRows cX9_setRows 4 none 1 := ⟨tmem 677 (by decide +kernel) (by decide +kernel), tmem 7 (by decide +kernel) (by decide +kernel), by decide, by decide, by decide +kernel⟩
theorem yv_X9_setRows : YV yX9_setRows := ⟨tmem 676 (by decide +kernel) (by decide +kernel), smem 21 (by decide +kernel) (by decide +kernel)⟩
theorem ml_RX10_86 : Cond.methodLink RX10 86 yX10_takeStop ∈ gt := tmem 846 (by decide +kernel) (by decide +kernel)
theorem yw_X10_takeStop : YW yX10_takeStop cX10_takeStop 1 none 0 := ⟨tmem 849 (by decide +kernel) (by decide +kernel), tmem 9 (by decide +kernel) (by decide +kernel), by decide, by decide, by decide +kernel⟩
theorem yv_X10_takeStop : YV yX10_takeStop := ⟨tmem 848 (by decide +kernel) (by decide +kernel), smem 35 (by decide +kernel) (by decide +kernel)⟩
theorem ml_RX10_62 : Cond.methodLink RX10 62 yX8_addEmpty ∈ gt := tmem 815 (by decide +kernel) (by decide +kernel)
theorem yw_X8_addEmpty : YW yX8_addEmpty cX8_addEmpty 2 none 0 := ⟨tmem 818 (by decide +kernel) (by decide +kernel), tmem 12 (by decide +kernel) (by decide +kernel), by decide, by decide, by decide +kernel⟩
theorem yv_X8_addEmpty : YV yX8_addEmpty := ⟨tmem 816 (by decide +kernel) (by decide +kernel), tmem 817 (by decide +kernel) (by decide +kernel)⟩
theorem ml_RX10_78 : Cond.methodLink RX10 78 yX10_takeNumber ∈ gt := tmem 835 (by decide +kernel) (by decide +kernel)
theorem yw_X10_takeNumber : YW yX10_takeNumber cX10_takeNumber 5 (some .int) 2 := ⟨tmem 838 (by decide +kernel) (by decide +kernel), tmem 9 (by decide +kernel) (by decide +kernel), by decide, by decide, by decide +kernel⟩
theorem yv_X10_takeNumber : YV yX10_takeNumber := ⟨tmem 837 (by decide +kernel) (by decide +kernel), smem 33 (by decide +kernel) (by decide +kernel)⟩
theorem ml_RX10_89 : Cond.methodLink RX10 89 yX10_wishInHand ∈ gt := tmem 823 (by decide +kernel) (by decide +kernel)
theorem yw_X10_wishInHand : YW yX10_wishInHand cX10_wishInHand 1 (some .int) 0 := ⟨tmem 826 (by decide +kernel) (by decide +kernel), tmem 9 (by decide +kernel) (by decide +kernel), by decide, by decide, by decide +kernel⟩
theorem yv_X10_wishInHand : YV yX10_wishInHand := ⟨tmem 825 (by decide +kernel) (by decide +kernel), smem 32 (by decide +kernel) (by decide +kernel)⟩
theorem ml_RX11_199 : Cond.methodLink RX11 199 yX11_whyNoHeap ∈ gt := tmem 654 (by decide +kernel) (by decide +kernel)
theorem yw_X11_whyNoHeap : YW yX11_whyNoHeap cX11_whyNoHeap 3 (some .int) 2 := ⟨tmem 657 (by decide +kernel) (by decide +kernel), tmem 1 (by decide +kernel) (by decide +kernel), by decide, by decide, by decide +kernel⟩
theorem yv_X11_whyNoHeap : YV yX11_whyNoHeap := ⟨tmem 656 (by decide +kernel) (by decide +kernel), smem 19 (by decide +kernel) (by decide +kernel)⟩
theorem ml_RX11_208 : Cond.methodLink RX11 208 yX9_weigh ∈ gt := tmem 666 (by decide +kernel) (by decide +kernel)
theorem yw_X9_weigh : YW yX9_weigh cX9_weigh 8 none 2 := ⟨tmem 669 (by decide +kernel) (by decide +kernel), tmem 7 (by decide +kernel) (by decide +kernel), by decide, by decide, by decide +kernel⟩
theorem yv_X9_weigh : YV yX9_weigh := ⟨tmem 667 (by decide +kernel) (by decide +kernel), tmem 668 (by decide +kernel) (by decide +kernel)⟩
theorem ml_RX11_219 : Cond.methodLink RX11 219 yX1_become ∈ gt := tmem 700 (by decide +kernel) (by decide +kernel)
theorem o_X_40 : shX[40]? = some (.inr (1, ks_X_40)) := rfl
theorem ml_RX11_226 : Cond.methodLink RX11 226 yX9_rate ∈ gt := tmem 716 (by decide +kernel) (by decide +kernel)
theorem ml_RX11_282 : Cond.methodLink RX11 282 yX3_lay ∈ gt := tmem 926 (by decide +kernel) (by decide +kernel)
theorem yw_X3_lay : YW yX3_lay cX3_lay 2 (some .int) 1 := ⟨tmem 929 (by decide +kernel) (by decide +kernel), tmem 11 (by decide +kernel) (by decide +kernel), by decide, by decide, by decide +kernel⟩
theorem yv_X3_lay : YV yX3_lay := ⟨tmem 927 (by decide +kernel) (by decide +kernel), tmem 928 (by decide +kernel) (by decide +kernel)⟩
theorem ml_RX7_66 : Cond.methodLink RX7 66 yX7_addLook ∈ gt := tmem 513 (by decide +kernel) (by decide +kernel)
theorem yw_X7_addLook : YW yX7_addLook cX7_addLook 5 (some .boolean) 0 := ⟨tmem 516 (by decide +kernel) (by decide +kernel), tmem 4 (by decide +kernel) (by decide +kernel), by decide, by decide, by decide +kernel⟩
theorem yv_X7_addLook : YV yX7_addLook := ⟨tmem 515 (by decide +kernel) (by decide +kernel), smem 4 (by decide +kernel) (by decide +kernel)⟩
theorem ml_RX7_100 : (RX7, 100, yX11_lowestBit) ∈ nwL := by decide +kernel
theorem yw_X11_lowestBit : YW yX11_lowestBit cX11_lowestBit 1 (some .int) 1 := ⟨tmem 568 (by decide +kernel) (by decide +kernel), tmem 1 (by decide +kernel) (by decide +kernel), by decide, by decide, by decide +kernel⟩
theorem ys_X11_lowestBit : Cond.static yX11_lowestBit ∈ gt := tmem 567 (by decide +kernel) (by decide +kernel)
theorem ml_RX9_35 : Cond.methodLink RX9 35 yX9_weigh ∈ gt := tmem 871 (by decide +kernel) (by decide +kernel)
theorem ml_RX10_65 : Cond.methodLink RX10 65 yX10_readWishes ∈ gt := tmem 819 (by decide +kernel) (by decide +kernel)
theorem yw_X10_readWishes : YW yX10_readWishes cX10_readWishes 5 none 2 := ⟨tmem 822 (by decide +kernel) (by decide +kernel), tmem 9 (by decide +kernel) (by decide +kernel), by decide, by decide, by decide +kernel⟩
theorem yv_X10_readWishes : YV yX10_readWishes := ⟨tmem 821 (by decide +kernel) (by decide +kernel), smem 31 (by decide +kernel) (by decide +kernel)⟩
theorem ml_RX10_71 : Cond.methodLink RX10 71 yX10_takeWord ∈ gt := tmem 841 (by decide +kernel) (by decide +kernel)
theorem yw_X10_takeWord : YW yX10_takeWord cX10_takeWord 2 none 1 := ⟨tmem 844 (by decide +kernel) (by decide +kernel), tmem 9 (by decide +kernel) (by decide +kernel), by decide, by decide, by decide +kernel⟩
theorem yv_X10_takeWord : YV yX10_takeWord := ⟨tmem 843 (by decide +kernel) (by decide +kernel), smem 34 (by decide +kernel) (by decide +kernel)⟩
theorem ml_RX11_151 : Cond.methodLink RX11 151 yX7_giveAllLooks ∈ gt := tmem 509 (by decide +kernel) (by decide +kernel)
theorem yw_X7_giveAllLooks : YW yX7_giveAllLooks cX7_giveAllLooks 3 none 0 := ⟨tmem 512 (by decide +kernel) (by decide +kernel), tmem 4 (by decide +kernel) (by decide +kernel), by decide, by decide, by decide +kernel⟩
theorem yv_X7_giveAllLooks : YV yX7_giveAllLooks := ⟨tmem 510 (by decide +kernel) (by decide +kernel), tmem 511 (by decide +kernel) (by decide +kernel)⟩
theorem ml_RX11_259 : Cond.methodLink RX11 259 yX9_weighAll ∈ gt := tmem 867 (by decide +kernel) (by decide +kernel)
theorem yw_X9_weighAll : YW yX9_weighAll cX9_weighAll 3 none 1 := ⟨tmem 870 (by decide +kernel) (by decide +kernel), tmem 7 (by decide +kernel) (by decide +kernel), by decide, by decide, by decide +kernel⟩
theorem yv_X9_weighAll : YV yX9_weighAll := ⟨tmem 868 (by decide +kernel) (by decide +kernel), tmem 869 (by decide +kernel) (by decide +kernel)⟩
theorem k_X_0_8 : fk shX 0 8 = some (11, .inr 43) := rfl
theorem ml_RX11_263 : Cond.methodLink RX11 263 yX2_rank ∈ gt := tmem 872 (by decide +kernel) (by decide +kernel)
theorem yw_X2_rank : YW yX2_rank cX2_rank 4 none 2 := ⟨tmem 875 (by decide +kernel) (by decide +kernel), tmem 10 (by decide +kernel) (by decide +kernel), by decide, by decide, by decide +kernel⟩
theorem yv_X2_rank : YV yX2_rank := ⟨tmem 873 (by decide +kernel) (by decide +kernel), tmem 874 (by decide +kernel) (by decide +kernel)⟩
theorem ml_RX11_267 : Cond.methodLink RX11 267 yX2_give ∈ gt := tmem 889 (by decide +kernel) (by decide +kernel)
theorem yw_X2_give : YW yX2_give cX2_give 6 none 4 := ⟨tmem 892 (by decide +kernel) (by decide +kernel), tmem 10 (by decide +kernel) (by decide +kernel), by decide, by decide, by decide +kernel⟩
theorem yv_X2_give : YV yX2_give := ⟨tmem 890 (by decide +kernel) (by decide +kernel), tmem 891 (by decide +kernel) (by decide +kernel)⟩
theorem ml_RX7_70 : Cond.methodLink RX7 70 yX7_prefer ∈ gt := tmem 562 (by decide +kernel) (by decide +kernel)
theorem yw_X7_prefer : YW yX7_prefer cX7_prefer 7 none 2 := ⟨tmem 565 (by decide +kernel) (by decide +kernel), tmem 4 (by decide +kernel) (by decide +kernel), by decide, by decide, by decide +kernel⟩
theorem yv_X7_prefer : YV yX7_prefer := ⟨tmem 564 (by decide +kernel) (by decide +kernel), smem 15 (by decide +kernel) (by decide +kernel)⟩
theorem ml_RX10_48 : Cond.methodLink RX10 48 yX10_readPrize ∈ gt := tmem 758 (by decide +kernel) (by decide +kernel)
theorem yw_X10_readPrize : YW yX10_readPrize cX10_readPrize 3 none 1 := ⟨tmem 761 (by decide +kernel) (by decide +kernel), tmem 9 (by decide +kernel) (by decide +kernel), by decide, by decide, by decide +kernel⟩
theorem yv_X10_readPrize : YV yX10_readPrize := ⟨tmem 760 (by decide +kernel) (by decide +kernel), smem 29 (by decide +kernel) (by decide +kernel)⟩
theorem ml_RX10_25 : Cond.methodLink RX10 25 yJ9_min_7cf53 ∈ gt := tmem 745 (by decide +kernel) (by decide +kernel)
theorem fp_10_31 : FP RX10 31 10 4 (.int) := ⟨RX10, TX10, 8, tyX10, rfl, by decide, tmem 255 (by decide +kernel) (by decide +kernel), inX10, tyX10_ok, nmX10, rfl, by decide +kernel⟩
theorem fp_10_37 : FP RX10 37 8 0 (.int) := ⟨RX8, TX8, 4, tyX8, rfl, by decide, tmem 360 (by decide +kernel) (by decide +kernel), inX8, tyX8_ok, nmX8, rfl, by decide +kernel⟩
theorem ml_RX11_154 : Cond.methodLink RX11 154 yX7_turnToFirst ∈ gt := tmem 558 (by decide +kernel) (by decide +kernel)
theorem yw_X7_turnToFirst : YW yX7_turnToFirst cX7_turnToFirst 3 none 0 := ⟨tmem 561 (by decide +kernel) (by decide +kernel), tmem 4 (by decide +kernel) (by decide +kernel), by decide, by decide, by decide +kernel⟩
theorem yv_X7_turnToFirst : YV yX7_turnToFirst := ⟨tmem 559 (by decide +kernel) (by decide +kernel), tmem 560 (by decide +kernel) (by decide +kernel)⟩
theorem ml_RX11_157 : Cond.methodLink RX11 157 yX7_findHolding ∈ gt := tmem 569 (by decide +kernel) (by decide +kernel)
theorem yw_X7_findHolding : YW yX7_findHolding cX7_findHolding 1 none 0 := ⟨tmem 572 (by decide +kernel) (by decide +kernel), tmem 4 (by decide +kernel) (by decide +kernel), by decide, by decide, by decide +kernel⟩
theorem yv_X7_findHolding : YV yX7_findHolding := ⟨tmem 570 (by decide +kernel) (by decide +kernel), tmem 571 (by decide +kernel) (by decide +kernel)⟩
theorem ml_RX11_160 : Cond.methodLink RX11 160 yX7_lackInAll ∈ gt := tmem 573 (by decide +kernel) (by decide +kernel)
theorem yw_X7_lackInAll : YW yX7_lackInAll cX7_lackInAll 3 (some .int) 0 := ⟨tmem 576 (by decide +kernel) (by decide +kernel), tmem 4 (by decide +kernel) (by decide +kernel), by decide, by decide, by decide +kernel⟩
theorem yv_X7_lackInAll : YV yX7_lackInAll := ⟨tmem 574 (by decide +kernel) (by decide +kernel), tmem 575 (by decide +kernel) (by decide +kernel)⟩
theorem ml_RX11_244 : Cond.methodLink RX11 244 yX10_read ∈ gt := tmem 741 (by decide +kernel) (by decide +kernel)
theorem yw_X10_read : YW yX10_read cX10_read 4 none 2 := ⟨tmem 744 (by decide +kernel) (by decide +kernel), tmem 9 (by decide +kernel) (by decide +kernel), by decide, by decide, by decide +kernel⟩
theorem yv_X10_read : YV yX10_read := ⟨tmem 742 (by decide +kernel) (by decide +kernel), tmem 743 (by decide +kernel) (by decide +kernel)⟩
theorem fp_11_237 : FP RX11 237 10 0 (.int) := ⟨RX10, TX10, 8, tyX10, rfl, by decide, tmem 249 (by decide +kernel) (by decide +kernel), inX10, tyX10_ok, nmX10, rfl, by decide +kernel⟩
theorem fp_11_82 : FP RX11 82 11 10 (.object "FairHall$PrizeRows") := ⟨RX11, TX11, 14, tyX11, rfl, by decide, tmem 389 (by decide +kernel) (by decide +kernel), inX11, tyX11_ok, nmX11, rfl, by decide +kernel⟩
theorem fp_11_86 : FP RX11 86 11 11 (.object "FairHall$PrizeRows") := ⟨RX11, TX11, 14, tyX11, rfl, by decide, tmem 390 (by decide +kernel) (by decide +kernel), inX11, tyX11_ok, nmX11, rfl, by decide +kernel⟩
