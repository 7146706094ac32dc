theorem yw_X11_status : YW yX11_status cX11_status 1 (some .int) 0 := ⟨tmem 425 (by decide +kernel) (by decide +kernel), tmem 1 (by decide +kernel) (by decide +kernel), by decide, by decide, by decide +kernel⟩
theorem yv_X11_status : YV yX11_status := ⟨tmem 423 (by decide +kernel) (by decide +kernel), tmem 424 (by decide +kernel) (by decide +kernel)⟩
theorem ml_RL_13 : Cond.methodLink RL 13 yX11_status ∈ gt := tmem 422 (by decide +kernel) (by decide +kernel)
theorem yw_X12_status : YW yX12_status cX12_status 1 (some .int) 0 := ⟨tmem 1219 (by decide +kernel) (by decide +kernel), tmem 13 (by decide +kernel) (by decide +kernel), by decide, by decide, by decide +kernel⟩
theorem yv_X12_status : YV yX12_status := ⟨tmem 1217 (by decide +kernel) (by decide +kernel), tmem 1218 (by decide +kernel) (by decide +kernel)⟩
theorem ml_RL_17 : Cond.methodLink RL 17 yX12_status ∈ gt := tmem 1216 (by decide +kernel) (by decide +kernel)
theorem yw_X11_board : YW yX11_board cX11_board 6 (some .int) 5 := ⟨tmem 429 (by decide +kernel) (by decide +kernel), tmem 1 (by decide +kernel) (by decide +kernel), by decide, by decide, by decide +kernel⟩
theorem yv_X11_board : YV yX11_board := ⟨tmem 427 (by decide +kernel) (by decide +kernel), tmem 428 (by decide +kernel) (by decide +kernel)⟩
theorem ml_RL_18 : Cond.methodLink RL 18 yX11_board ∈ gt := tmem 426 (by decide +kernel) (by decide +kernel)
theorem yw_X12_board : YW yX12_board cX12_board 6 (some .int) 5 := ⟨tmem 1223 (by decide +kernel) (by decide +kernel), tmem 13 (by decide +kernel) (by decide +kernel), by decide, by decide, by decide +kernel⟩
theorem yv_X12_board : YV yX12_board := ⟨tmem 1221 (by decide +kernel) (by decide +kernel), tmem 1222 (by decide +kernel) (by decide +kernel)⟩
theorem ml_RL_22 : Cond.methodLink RL 22 yX12_board ∈ gt := tmem 1220 (by decide +kernel) (by decide +kernel)
theorem yw_X11_judge : YW yX11_judge cX11_judge 4 (some .int) 3 := ⟨tmem 448 (by decide +kernel) (by decide +kernel), tmem 1 (by decide +kernel) (by decide +kernel), by decide, by decide, by decide +kernel⟩
theorem yv_X11_judge : YV yX11_judge := ⟨tmem 446 (by decide +kernel) (by decide +kernel), tmem 447 (by decide +kernel) (by decide +kernel)⟩
theorem ml_RL_23 : Cond.methodLink RL 23 yX11_judge ∈ gt := tmem 445 (by decide +kernel) (by decide +kernel)
theorem yw_X12_judge : YW yX12_judge cX12_judge 4 (some .int) 3 := ⟨tmem 1231 (by decide +kernel) (by decide +kernel), tmem 13 (by decide +kernel) (by decide +kernel), by decide, by decide, by decide +kernel⟩
theorem yv_X12_judge : YV yX12_judge := ⟨tmem 1229 (by decide +kernel) (by decide +kernel), tmem 1230 (by decide +kernel) (by decide +kernel)⟩
theorem ml_RL_27 : Cond.methodLink RL 27 yX12_judge ∈ gt := tmem 1228 (by decide +kernel) (by decide +kernel)
theorem yw_X11_told : YW yX11_told cX11_told 3 (some .int) 2 := ⟨tmem 456 (by decide +kernel) (by decide +kernel), tmem 1 (by decide +kernel) (by decide +kernel), by decide, by decide, by decide +kernel⟩
theorem yv_X11_told : YV yX11_told := ⟨tmem 454 (by decide +kernel) (by decide +kernel), tmem 455 (by decide +kernel) (by decide +kernel)⟩
theorem ml_RL_28 : Cond.methodLink RL 28 yX11_told ∈ gt := tmem 453 (by decide +kernel) (by decide +kernel)
theorem yw_X12_told : YW yX12_told cX12_told 5 (some .int) 2 := ⟨tmem 1235 (by decide +kernel) (by decide +kernel), tmem 13 (by decide +kernel) (by decide +kernel), by decide, by decide, by decide +kernel⟩
theorem yv_X12_told : YV yX12_told := ⟨tmem 1233 (by decide +kernel) (by decide +kernel), tmem 1234 (by decide +kernel) (by decide +kernel)⟩
theorem ml_RL_32 : Cond.methodLink RL 32 yX12_told ∈ gt := tmem 1232 (by decide +kernel) (by decide +kernel)
theorem yw_X11_may : YW yX11_may cX11_may 3 (some .int) 2 := ⟨tmem 482 (by decide +kernel) (by decide +kernel), tmem 1 (by decide +kernel) (by decide +kernel), by decide, by decide, by decide +kernel⟩
theorem yv_X11_may : YV yX11_may := ⟨tmem 480 (by decide +kernel) (by decide +kernel), tmem 481 (by decide +kernel) (by decide +kernel)⟩
theorem ml_RL_33 : Cond.methodLink RL 33 yX11_may ∈ gt := tmem 479 (by decide +kernel) (by decide +kernel)
theorem yw_X12_may : YW yX12_may cX12_may 3 (some .int) 2 := ⟨tmem 1247 (by decide +kernel) (by decide +kernel), tmem 13 (by decide +kernel) (by decide +kernel), by decide, by decide, by decide +kernel⟩
theorem yv_X12_may : YV yX12_may := ⟨tmem 1245 (by decide +kernel) (by decide +kernel), tmem 1246 (by decide +kernel) (by decide +kernel)⟩
theorem ml_RL_36 : Cond.methodLink RL 36 yX12_may ∈ gt := tmem 1244 (by decide +kernel) (by decide +kernel)
theorem yw_X11_looks : YW yX11_looks cX11_looks 2 (some .boolean) 1 := ⟨tmem 491 (by decide +kernel) (by decide +kernel), tmem 1 (by decide +kernel) (by decide +kernel), by decide, by decide, by decide +kernel⟩
theorem yv_X11_looks : YV yX11_looks := ⟨tmem 489 (by decide +kernel) (by decide +kernel), tmem 490 (by decide +kernel) (by decide +kernel)⟩
theorem ml_RL_37 : Cond.methodLink RL 37 yX11_looks ∈ gt := tmem 488 (by decide +kernel) (by decide +kernel)
theorem yw_X12_looks : YW yX12_looks cX12_looks 2 (some .boolean) 1 := ⟨tmem 1255 (by decide +kernel) (by decide +kernel), tmem 13 (by decide +kernel) (by decide +kernel), by decide, by decide, by decide +kernel⟩
theorem yv_X12_looks : YV yX12_looks := ⟨tmem 1253 (by decide +kernel) (by decide +kernel), tmem 1254 (by decide +kernel) (by decide +kernel)⟩
theorem ml_RL_41 : Cond.methodLink RL 41 yX12_looks ∈ gt := tmem 1252 (by decide +kernel) (by decide +kernel)
theorem yw_X11_plan : YW yX11_plan cX11_plan 1 (some .int) 0 := ⟨tmem 503 (by decide +kernel) (by decide +kernel), tmem 1 (by decide +kernel) (by decide +kernel), by decide, by decide, by decide +kernel⟩
theorem yv_X11_plan : YV yX11_plan := ⟨tmem 501 (by decide +kernel) (by decide +kernel), tmem 502 (by decide +kernel) (by decide +kernel)⟩
theorem ml_RL_42 : Cond.methodLink RL 42 yX11_plan ∈ gt := tmem 500 (by decide +kernel) (by decide +kernel)
theorem yw_X12_plan : YW yX12_plan cX12_plan 6 (some .int) 0 := ⟨tmem 1263 (by decide +kernel) (by decide +kernel), tmem 13 (by decide +kernel) (by decide +kernel), by decide, by decide, by decide +kernel⟩
theorem yv_X12_plan : YV yX12_plan := ⟨tmem 1261 (by decide +kernel) (by decide +kernel), tmem 1262 (by decide +kernel) (by decide +kernel)⟩
theorem ml_RL_45 : Cond.methodLink RL 45 yX12_plan ∈ gt := tmem 1260 (by decide +kernel) (by decide +kernel)
theorem yw_X11_sees : YW yX11_sees cX11_sees 3 (some .int) 2 := ⟨tmem 580 (by decide +kernel) (by decide +kernel), tmem 1 (by decide +kernel) (by decide +kernel), by decide, by decide, by decide +kernel⟩
theorem yv_X11_sees : YV yX11_sees := ⟨tmem 578 (by decide +kernel) (by decide +kernel), tmem 579 (by decide +kernel) (by decide +kernel)⟩
theorem ml_RL_46 : Cond.methodLink RL 46 yX11_sees ∈ gt := tmem 577 (by decide +kernel) (by decide +kernel)
theorem yw_X12_sees : YW yX12_sees cX12_sees 3 (some .int) 2 := ⟨tmem 1286 (by decide +kernel) (by decide +kernel), tmem 13 (by decide +kernel) (by decide +kernel), by decide, by decide, by decide +kernel⟩
theorem yv_X12_sees : YV yX12_sees := ⟨tmem 1284 (by decide +kernel) (by decide +kernel), tmem 1285 (by decide +kernel) (by decide +kernel)⟩
theorem ml_RL_49 : Cond.methodLink RL 49 yX12_sees ∈ gt := tmem 1283 (by decide +kernel) (by decide +kernel)
theorem yw_X11_holds : YW yX11_holds cX11_holds 2 (some .int) 1 := ⟨tmem 592 (by decide +kernel) (by decide +kernel), tmem 1 (by decide +kernel) (by decide +kernel), by decide, by decide, by decide +kernel⟩
theorem yv_X11_holds : YV yX11_holds := ⟨tmem 590 (by decide +kernel) (by decide +kernel), tmem 591 (by decide +kernel) (by decide +kernel)⟩
theorem ml_RL_50 : Cond.methodLink RL 50 yX11_holds ∈ gt := tmem 589 (by decide +kernel) (by decide +kernel)
theorem yw_X12_holds : YW yX12_holds cX12_holds 2 (some .int) 1 := ⟨tmem 1290 (by decide +kernel) (by decide +kernel), tmem 13 (by decide +kernel) (by decide +kernel), by decide, by decide, by decide +kernel⟩
theorem yv_X12_holds : YV yX12_holds := ⟨tmem 1288 (by decide +kernel) (by decide +kernel), tmem 1289 (by decide +kernel) (by decide +kernel)⟩
theorem ml_RL_54 : Cond.methodLink RL 54 yX12_holds ∈ gt := tmem 1287 (by decide +kernel) (by decide +kernel)
theorem yw_X11_mark : YW yX11_mark cX11_mark 5 (some .int) 4 := ⟨tmem 596 (by decide +kernel) (by decide +kernel), tmem 1 (by decide +kernel) (by decide +kernel), by decide, by decide, by decide +kernel⟩
theorem yv_X11_mark : YV yX11_mark := ⟨tmem 594 (by decide +kernel) (by decide +kernel), tmem 595 (by decide +kernel) (by decide +kernel)⟩
theorem ml_RL_55 : Cond.methodLink RL 55 yX11_mark ∈ gt := tmem 593 (by decide +kernel) (by decide +kernel)
theorem yw_X12_mark : YW yX12_mark cX12_mark 5 (some .int) 4 := ⟨tmem 1294 (by decide +kernel) (by decide +kernel), tmem 13 (by decide +kernel) (by decide +kernel), by decide, by decide, by decide +kernel⟩
theorem yv_X12_mark : YV yX12_mark := ⟨tmem 1292 (by decide +kernel) (by decide +kernel), tmem 1293 (by decide +kernel) (by decide +kernel)⟩
theorem ml_RL_59 : Cond.methodLink RL 59 yX12_mark ∈ gt := tmem 1291 (by decide +kernel) (by decide +kernel)
theorem yw_X11_lose : YW yX11_lose cX11_lose 3 (some .boolean) 2 := ⟨tmem 607 (by decide +kernel) (by decide +kernel), tmem 1 (by decide +kernel) (by decide +kernel), by decide, by decide, by decide +kernel⟩
theorem yv_X11_lose : YV yX11_lose := ⟨tmem 605 (by decide +kernel) (by decide +kernel), tmem 606 (by decide +kernel) (by decide +kernel)⟩
theorem ml_RL_60 : Cond.methodLink RL 60 yX11_lose ∈ gt := tmem 604 (by decide +kernel) (by decide +kernel)
theorem yw_X12_lose : YW yX12_lose cX12_lose 3 (some .boolean) 2 := ⟨tmem 1301 (by decide +kernel) (by decide +kernel), tmem 13 (by decide +kernel) (by decide +kernel), by decide, by decide, by decide +kernel⟩
theorem yv_X12_lose : YV yX12_lose := ⟨tmem 1299 (by decide +kernel) (by decide +kernel), tmem 1300 (by decide +kernel) (by decide +kernel)⟩
theorem ml_RL_64 : Cond.methodLink RL 64 yX12_lose ∈ gt := tmem 1298 (by decide +kernel) (by decide +kernel)
theorem yw_X11_seen : YW yX11_seen cX11_seen 3 (some .int) 2 := ⟨tmem 615 (by decide +kernel) (by decide +kernel), tmem 1 (by decide +kernel) (by decide +kernel), by decide, by decide, by decide +kernel⟩
theorem yv_X11_seen : YV yX11_seen := ⟨tmem 613 (by decide +kernel) (by decide +kernel), tmem 614 (by decide +kernel) (by decide +kernel)⟩
theorem ml_RL_65 : Cond.methodLink RL 65 yX11_seen ∈ gt := tmem 612 (by decide +kernel) (by decide +kernel)
theorem yw_X12_seen : YW yX12_seen cX12_seen 3 (some .int) 2 := ⟨tmem 1305 (by decide +kernel) (by decide +kernel), tmem 13 (by decide +kernel) (by decide +kernel), by decide, by decide, by decide +kernel⟩
theorem yv_X12_seen : YV yX12_seen := ⟨tmem 1303 (by decide +kernel) (by decide +kernel), tmem 1304 (by decide +kernel) (by decide +kernel)⟩
theorem ml_RL_68 : Cond.methodLink RL 68 yX12_seen ∈ gt := tmem 1302 (by decide +kernel) (by decide +kernel)
theorem yw_X11_heap : YW yX11_heap cX11_heap 4 (some .int) 2 := ⟨tmem 653 (by decide +kernel) (by decide +kernel), tmem 1 (by decide +kernel) (by decide +kernel), by decide, by decide, by decide +kernel⟩
theorem yv_X11_heap : YV yX11_heap := ⟨tmem 651 (by decide +kernel) (by decide +kernel), tmem 652 (by decide +kernel) (by decide +kernel)⟩
theorem ml_RL_69 : Cond.methodLink RL 69 yX11_heap ∈ gt := tmem 650 (by decide +kernel) (by decide +kernel)
theorem yw_X12_heap : YW yX12_heap cX12_heap 3 (some .int) 2 := ⟨tmem 1318 (by decide +kernel) (by decide +kernel), tmem 13 (by decide +kernel) (by decide +kernel), by decide, by decide, by decide +kernel⟩
theorem yv_X12_heap : YV yX12_heap := ⟨tmem 1316 (by decide +kernel) (by decide +kernel), tmem 1317 (by decide +kernel) (by decide +kernel)⟩
theorem ml_RL_72 : Cond.methodLink RL 72 yX12_heap ∈ gt := tmem 1315 (by decide +kernel) (by decide +kernel)
theorem yw_X11_hardness : YW yX11_hardness cX11_hardness 5 (some .boolean) 2 := ⟨tmem 661 (by decide +kernel) (by decide +kernel), tmem 1 (by decide +kernel) (by decide +kernel), by decide, by decide, by decide +kernel⟩
theorem yv_X11_hardness : YV yX11_hardness := ⟨tmem 659 (by decide +kernel) (by decide +kernel), tmem 660 (by decide +kernel) (by decide +kernel)⟩
theorem ml_RL_73 : Cond.methodLink RL 73 yX11_hardness ∈ gt := tmem 658 (by decide +kernel) (by decide +kernel)
theorem yw_X12_hardness : YW yX12_hardness cX12_hardness 4 (some .boolean) 2 := ⟨tmem 1322 (by decide +kernel) (by decide +kernel), tmem 13 (by decide +kernel) (by decide +kernel), by decide, by decide, by decide +kernel⟩
theorem yv_X12_hardness : YV yX12_hardness := ⟨tmem 1320 (by decide +kernel) (by decide +kernel), tmem 1321 (by decide +kernel) (by decide +kernel)⟩
theorem ml_RL_76 : Cond.methodLink RL 76 yX12_hardness ∈ gt := tmem 1319 (by decide +kernel) (by decide +kernel)
theorem yw_X11_fair : YW yX11_fair cX11_fair 4 (some .boolean) 2 := ⟨tmem 711 (by decide +kernel) (by decide +kernel), tmem 1 (by decide +kernel) (by decide +kernel), by decide, by decide, by decide +kernel⟩
theorem yv_X11_fair : YV yX11_fair := ⟨tmem 709 (by decide +kernel) (by decide +kernel), tmem 710 (by decide +kernel) (by decide +kernel)⟩
theorem ml_RL_77 : Cond.methodLink RL 77 yX11_fair ∈ gt := tmem 708 (by decide +kernel) (by decide +kernel)
theorem yw_X12_fair : YW yX12_fair cX12_fair 4 (some .boolean) 2 := ⟨tmem 1348 (by decide +kernel) (by decide +kernel), tmem 13 (by decide +kernel) (by decide +kernel), by decide, by decide, by decide +kernel⟩
theorem yv_X12_fair : YV yX12_fair := ⟨tmem 1346 (by decide +kernel) (by decide +kernel), tmem 1347 (by decide +kernel) (by decide +kernel)⟩
theorem ml_RL_80 : Cond.methodLink RL 80 yX12_fair ∈ gt := tmem 1345 (by decide +kernel) (by decide +kernel)
theorem yw_X11_upper : YW yX11_upper cX11_upper 1 (some .long) 0 := ⟨tmem 724 (by decide +kernel) (by decide +kernel), tmem 1 (by decide +kernel) (by decide +kernel), by decide, by decide, by decide +kernel⟩
theorem yv_X11_upper : YV yX11_upper := ⟨tmem 722 (by decide +kernel) (by decide +kernel), tmem 723 (by decide +kernel) (by decide +kernel)⟩
theorem ml_RL_81 : Cond.methodLink RL 81 yX11_upper ∈ gt := tmem 721 (by decide +kernel) (by decide +kernel)
theorem yw_X12_upper : YW yX12_upper cX12_upper 1 (some .long) 0 := ⟨tmem 1356 (by decide +kernel) (by decide +kernel), tmem 13 (by decide +kernel) (by decide +kernel), by decide, by decide, by decide +kernel⟩
theorem yv_X12_upper : YV yX12_upper := ⟨tmem 1354 (by decide +kernel) (by decide +kernel), tmem 1355 (by decide +kernel) (by decide +kernel)⟩
theorem ml_RL_85 : Cond.methodLink RL 85 yX12_upper ∈ gt := tmem 1353 (by decide +kernel) (by decide +kernel)
theorem yw_X11_lower : YW yX11_lower cX11_lower 1 (some .long) 0 := ⟨tmem 728 (by decide +kernel) (by decide +kernel), tmem 1 (by decide +kernel) (by decide +kernel), by decide, by decide, by decide +kernel⟩
theorem yv_X11_lower : YV yX11_lower := ⟨tmem 726 (by decide +kernel) (by decide +kernel), tmem 727 (by decide +kernel) (by decide +kernel)⟩
theorem ml_RL_86 : Cond.methodLink RL 86 yX11_lower ∈ gt := tmem 725 (by decide +kernel) (by decide +kernel)
theorem yw_X12_lower : YW yX12_lower cX12_lower 1 (some .long) 0 := ⟨tmem 1360 (by decide +kernel) (by decide +kernel), tmem 13 (by decide +kernel) (by decide +kernel), by decide, by decide, by decide +kernel⟩
theorem yv_X12_lower : YV yX12_lower := ⟨tmem 1358 (by decide +kernel) (by decide +kernel), tmem 1359 (by decide +kernel) (by decide +kernel)⟩
theorem ml_RL_89 : Cond.methodLink RL 89 yX12_lower ∈ gt := tmem 1357 (by decide +kernel) (by decide +kernel)
theorem yw_X11_feed : YW yX11_feed cX11_feed 6 (some .int) 5 := ⟨tmem 732 (by decide +kernel) (by decide +kernel), tmem 1 (by decide +kernel) (by decide +kernel), by decide, by decide, by decide +kernel⟩
theorem yv_X11_feed : YV yX11_feed := ⟨tmem 730 (by decide +kernel) (by decide +kernel), tmem 731 (by decide +kernel) (by decide +kernel)⟩
theorem ml_RL_90 : Cond.methodLink RL 90 yX11_feed ∈ gt := tmem 729 (by decide +kernel) (by decide +kernel)
theorem yw_X12_feed : YW yX12_feed cX12_feed 6 (some .int) 5 := ⟨tmem 1364 (by decide +kernel) (by decide +kernel), tmem 13 (by decide +kernel) (by decide +kernel), by decide, by decide, by decide +kernel⟩
theorem yv_X12_feed : YV yX12_feed := ⟨tmem 1362 (by decide +kernel) (by decide +kernel), tmem 1363 (by decide +kernel) (by decide +kernel)⟩
theorem ml_RL_94 : Cond.methodLink RL 94 yX12_feed ∈ gt := tmem 1361 (by decide +kernel) (by decide +kernel)
theorem yw_X11_prizes : YW yX11_prizes cX11_prizes 3 (some .int) 1 := ⟨tmem 740 (by decide +kernel) (by decide +kernel), tmem 1 (by decide +kernel) (by decide +kernel), by decide, by decide, by decide +kernel⟩
theorem yv_X11_prizes : YV yX11_prizes := ⟨tmem 738 (by decide +kernel) (by decide +kernel), tmem 739 (by decide +kernel) (by decide +kernel)⟩
theorem ml_RL_95 : Cond.methodLink RL 95 yX11_prizes ∈ gt := tmem 737 (by decide +kernel) (by decide +kernel)
theorem yw_X12_prizes : YW yX12_prizes cX12_prizes 3 (some .int) 1 := ⟨tmem 1372 (by decide +kernel) (by decide +kernel), tmem 13 (by decide +kernel) (by decide +kernel), by decide, by decide, by decide +kernel⟩
theorem yv_X12_prizes : YV yX12_prizes := ⟨tmem 1370 (by decide +kernel) (by decide +kernel), tmem 1371 (by decide +kernel) (by decide +kernel)⟩
theorem ml_RL_98 : Cond.methodLink RL 98 yX12_prizes ∈ gt := tmem 1369 (by decide +kernel) (by decide +kernel)
theorem yw_X11_fault : YW yX11_fault cX11_fault 2 (some .int) 1 := ⟨tmem 853 (by decide +kernel) (by decide +kernel), tmem 1 (by decide +kernel) (by decide +kernel), by decide, by decide, by decide +kernel⟩
theorem yv_X11_fault : YV yX11_fault := ⟨tmem 851 (by decide +kernel) (by decide +kernel), tmem 852 (by decide +kernel) (by decide +kernel)⟩
theorem ml_RL_99 : Cond.methodLink RL 99 yX11_fault ∈ gt := tmem 850 (by decide +kernel) (by decide +kernel)
theorem yw_X12_fault : YW yX12_fault cX12_fault 2 (some .int) 1 := ⟨tmem 1419 (by decide +kernel) (by decide +kernel), tmem 13 (by decide +kernel) (by decide +kernel), by decide, by decide, by decide +kernel⟩
theorem yv_X12_fault : YV yX12_fault := ⟨tmem 1417 (by decide +kernel) (by decide +kernel), tmem 1418 (by decide +kernel) (by decide +kernel)⟩
theorem ml_RL_102 : Cond.methodLink RL 102 yX12_fault ∈ gt := tmem 1416 (by decide +kernel) (by decide +kernel)
theorem yw_X11_given : YW yX11_given cX11_given 4 (some .int) 3 := ⟨tmem 857 (by decide +kernel) (by decide +kernel), tmem 1 (by decide +kernel) (by decide +kernel), by decide, by decide, by decide +kernel⟩
theorem yv_X11_given : YV yX11_given := ⟨tmem 855 (by decide +kernel) (by decide +kernel), tmem 856 (by decide +kernel) (by decide +kernel)⟩
theorem ml_RL_103 : Cond.methodLink RL 103 yX11_given ∈ gt := tmem 854 (by decide +kernel) (by decide +kernel)
theorem yw_X12_given : YW yX12_given cX12_given 8 (some .int) 3 := ⟨tmem 1423 (by decide +kernel) (by decide +kernel), tmem 13 (by decide +kernel) (by decide +kernel), by decide, by decide, by decide +kernel⟩
theorem yv_X12_given : YV yX12_given := ⟨tmem 1421 (by decide +kernel) (by decide +kernel), tmem 1422 (by decide +kernel) (by decide +kernel)⟩
theorem ml_RL_106 : Cond.methodLink RL 106 yX12_given ∈ gt := tmem 1420 (by decide +kernel) (by decide +kernel)
theorem yw_X11_hall : YW yX11_hall cX11_hall 4 (some .int) 3 := ⟨tmem 909 (by decide +kernel) (by decide +kernel), tmem 1 (by decide +kernel) (by decide +kernel), by decide, by decide, by decide +kernel⟩
theorem yv_X11_hall : YV yX11_hall := ⟨tmem 907 (by decide +kernel) (by decide +kernel), tmem 908 (by decide +kernel) (by decide +kernel)⟩
theorem ml_RL_107 : Cond.methodLink RL 107 yX11_hall ∈ gt := tmem 906 (by decide +kernel) (by decide +kernel)
theorem yw_X12_hall : YW yX12_hall cX12_hall 4 (some .int) 3 := ⟨tmem 1438 (by decide +kernel) (by decide +kernel), tmem 13 (by decide +kernel) (by decide +kernel), by decide, by decide, by decide +kernel⟩
theorem yv_X12_hall : YV yX12_hall := ⟨tmem 1436 (by decide +kernel) (by decide +kernel), tmem 1437 (by decide +kernel) (by decide +kernel)⟩
theorem ml_RL_110 : Cond.methodLink RL 110 yX12_hall ∈ gt := tmem 1435 (by decide +kernel) (by decide +kernel)
theorem yw_X11_clear : YW yX11_clear cX11_clear 1 (some .boolean) 0 := ⟨tmem 917 (by decide +kernel) (by decide +kernel), tmem 1 (by decide +kernel) (by decide +kernel), by decide, by decide, by decide +kernel⟩
theorem yv_X11_clear : YV yX11_clear := ⟨tmem 915 (by decide +kernel) (by decide +kernel), tmem 916 (by decide +kernel) (by decide +kernel)⟩
theorem ml_RL_111 : Cond.methodLink RL 111 yX11_clear ∈ gt := tmem 914 (by decide +kernel) (by decide +kernel)
theorem yw_X12_clear : YW yX12_clear cX12_clear 1 (some .boolean) 0 := ⟨tmem 1442 (by decide +kernel) (by decide +kernel), tmem 13 (by decide +kernel) (by decide +kernel), by decide, by decide, by decide +kernel⟩
theorem yv_X12_clear : YV yX12_clear := ⟨tmem 1440 (by decide +kernel) (by decide +kernel), tmem 1441 (by decide +kernel) (by decide +kernel)⟩
theorem ml_RL_115 : Cond.methodLink RL 115 yX12_clear ∈ gt := tmem 1439 (by decide +kernel) (by decide +kernel)
theorem yw_X11_laid : YW yX11_laid cX11_laid 3 (some .int) 1 := ⟨tmem 925 (by decide +kernel) (by decide +kernel), tmem 1 (by decide +kernel) (by decide +kernel), by decide, by decide, by decide +kernel⟩
theorem yv_X11_laid : YV yX11_laid := ⟨tmem 923 (by decide +kernel) (by decide +kernel), tmem 924 (by decide +kernel) (by decide +kernel)⟩
theorem ml_RL_116 : Cond.methodLink RL 116 yX11_laid ∈ gt := tmem 922 (by decide +kernel) (by decide +kernel)
theorem yw_X12_laid : YW yX12_laid cX12_laid 3 (some .int) 1 := ⟨tmem 1446 (by decide +kernel) (by decide +kernel), tmem 13 (by decide +kernel) (by decide +kernel), by decide, by decide, by decide +kernel⟩
theorem yv_X12_laid : YV yX12_laid := ⟨tmem 1444 (by decide +kernel) (by decide +kernel), tmem 1445 (by decide +kernel) (by decide +kernel)⟩
theorem ml_RL_119 : Cond.methodLink RL 119 yX12_laid ∈ gt := tmem 1443 (by decide +kernel) (by decide +kernel)
theorem yw_X11_tries : YW yX11_tries cX11_tries 2 (some .int) 0 := ⟨tmem 950 (by decide +kernel) (by decide +kernel), tmem 1 (by decide +kernel) (by decide +kernel), by decide, by decide, by decide +kernel⟩
theorem yv_X11_tries : YV yX11_tries := ⟨tmem 948 (by decide +kernel) (by decide +kernel), tmem 949 (by decide +kernel) (by decide +kernel)⟩
theorem ml_RL_120 : Cond.methodLink RL 120 yX11_tries ∈ gt := tmem 947 (by decide +kernel) (by decide +kernel)
theorem yw_X12_tries : YW yX12_tries cX12_tries 2 (some .int) 0 := ⟨tmem 1462 (by decide +kernel) (by decide +kernel), tmem 13 (by decide +kernel) (by decide +kernel), by decide, by decide, by decide +kernel⟩
theorem yv_X12_tries : YV yX12_tries := ⟨tmem 1460 (by decide +kernel) (by decide +kernel), tmem 1461 (by decide +kernel) (by decide +kernel)⟩
theorem ml_RL_123 : Cond.methodLink RL 123 yX12_tries ∈ gt := tmem 1459 (by decide +kernel) (by decide +kernel)
def st_status (F : Nat) (INV : St → St → Prop) : Prop := ∀ sx sm, INV sx sm → ∃ q1 q2, f_H_status sx = some q1 ∧ f_M_status sm = some q2 ∧ w32 q1.1 = w32 q2.1 ∧ INV q1.2 q2.2
def st_board (F : Nat) (INV : St → St → Prop) : Prop := ∀ sx sm, INV sx sm → ∀ a1 a2 a3 a4 a5 : Int, i32 a1 → i32 a2 → i32 a3 → i32 a4 → (a5 = 0 ∨ a5 = 1) → ∃ q1 q2, f_H_board sx a1 a2 a3 a4 a5 = some q1 ∧ f_M_board sm a1 a2 a3 a4 a5 = some q2 ∧ w32 q1.1 = w32 q2.1 ∧ INV q1.2 q2.2
def st_judge (F : Nat) (INV : St → St → Prop) : Prop := ∀ sx sm, INV sx sm → ∀ a1 a2 a3 : Int, i32 a1 → i32 a2 → i32 a3 → ∃ q1 q2, f_H_judge sx a1 a2 a3 = some q1 ∧ f_M_judge sm a1 a2 a3 = some q2 ∧ w32 q1.1 = w32 q2.1 ∧ INV q1.2 q2.2
def st_told (F : Nat) (INV : St → St → Prop) : Prop := ∀ sx sm, INV sx sm → ∀ a1 a2 : Int, i32 a1 → i32 a2 → ∃ q1 q2, f_H_told F sx a1 a2 = some q1 ∧ f_M_told F sm a1 a2 = some q2 ∧ w32 q1.1 = w32 q2.1 ∧ INV q1.2 q2.2
def st_may (F : Nat) (INV : St → St → Prop) : Prop := ∀ sx sm, INV sx sm → ∀ a1 a2 : Int, i32 a1 → i32 a2 → ∃ q1 q2, f_H_may sx a1 a2 = some q1 ∧ f_M_may sm a1 a2 = some q2 ∧ w32 q1.1 = w32 q2.1 ∧ INV q1.2 q2.2
def st_looks (F : Nat) (INV : St → St → Prop) : Prop := ∀ sx sm, INV sx sm → ∀ a1 : Int, i32 a1 → ∃ q1 q2, f_H_looks sx a1 = some q1 ∧ f_M_looks sm a1 = some q2 ∧ w32 q1.1 = w32 q2.1 ∧ INV q1.2 q2.2
def st_plan (F : Nat) (INV : St → St → Prop) : Prop := ∀ sx sm, INV sx sm → ∃ q1 q2, f_H_plan F sx = some q1 ∧ f_M_plan F sm = some q2 ∧ w32 q1.1 = w32 q2.1 ∧ INV q1.2 q2.2
def st_sees (F : Nat) (INV : St → St → Prop) : Prop := ∀ sx sm, INV sx sm → ∀ a1 a2 : Int, i32 a1 → i32 a2 → ∃ q1 q2, f_H_sees sx a1 a2 = some q1 ∧ f_M_sees sm a1 a2 = some q2 ∧ w32 q1.1 = w32 q2.1 ∧ INV q1.2 q2.2
def st_holds (F : Nat) (INV : St → St → Prop) : Prop := ∀ sx sm, INV sx sm → ∀ a1 : Int, i32 a1 → ∃ q1 q2, f_H_holds sx a1 = some q1 ∧ f_M_holds sm a1 = some q2 ∧ w32 q1.1 = w32 q2.1 ∧ INV q1.2 q2.2
def st_mark (F : Nat) (INV : St → St → Prop) : Prop := ∀ sx sm, INV sx sm → ∀ a1 a2 a3 a4 : Int, i32 a1 → i32 a2 → i32 a3 → i32 a4 → ∃ q1 q2, f_H_mark sx a1 a2 a3 a4 = some q1 ∧ f_M_mark sm a1 a2 a3 a4 = some q2 ∧ w32 q1.1 = w32 q2.1 ∧ INV q1.2 q2.2
def st_lose (F : Nat) (INV : St → St → Prop) : Prop := ∀ sx sm, INV sx sm → ∀ a1 a2 : Int, i32 a1 → i32 a2 → ∃ q1 q2, f_H_lose sx a1 a2 = some q1 ∧ f_M_lose sm a1 a2 = some q2 ∧ w32 q1.1 = w32 q2.1 ∧ INV q1.2 q2.2
def st_seen (F : Nat) (INV : St → St → Prop) : Prop := ∀ sx sm, INV sx sm → ∀ a1 a2 : Int, i32 a1 → i32 a2 → ∃ q1 q2, f_H_seen F sx a1 a2 = some q1 ∧ f_M_seen F sm a1 a2 = some q2 ∧ w32 q1.1 = w32 q2.1 ∧ INV q1.2 q2.2
def st_heap (F : Nat) (INV : St → St → Prop) : Prop := ∀ sx sm, INV sx sm → ∀ a1 a2 : Int, i32 a1 → i32 a2 → ∃ q1 q2, f_H_heap F sx a1 a2 = some q1 ∧ f_M_heap F sm a1 a2 = some q2 ∧ w32 q1.1 = w32 q2.1 ∧ INV q1.2 q2.2
def st_hardness (F : Nat) (INV : St → St → Prop) : Prop := ∀ sx sm, INV sx sm → ∀ a1 a2 : Int, i32 a1 → i32 a2 → ∃ q1 q2, f_H_hardness F sx a1 a2 = some q1 ∧ f_M_hardness F sm a1 a2 = some q2 ∧ w32 q1.1 = w32 q2.1 ∧ INV q1.2 q2.2
def st_fair (F : Nat) (INV : St → St → Prop) : Prop := ∀ sx sm, INV sx sm → ∀ a1 a2 : Int, i32 a1 → i32 a2 → ∃ q1 q2, f_H_fair F sx a1 a2 = some q1 ∧ f_M_fair F sm a1 a2 = some q2 ∧ w32 q1.1 = w32 q2.1 ∧ INV q1.2 q2.2
def st_upper (F : Nat) (INV : St → St → Prop) : Prop := ∀ sx sm, INV sx sm → ∃ q1 q2, f_H_upper sx = some q1 ∧ f_M_upper sm = some q2 ∧ w64 q1.1 = w64 q2.1 ∧ INV q1.2 q2.2
def st_lower (F : Nat) (INV : St → St → Prop) : Prop := ∀ sx sm, INV sx sm → ∃ q1 q2, f_H_lower sx = some q1 ∧ f_M_lower sm = some q2 ∧ w64 q1.1 = w64 q2.1 ∧ INV q1.2 q2.2
def st_feed (F : Nat) (INV : St → St → Prop) : Prop := ∀ sx sm, INV sx sm → ∀ a1 a2 a3 a4 a5 : Int, i32 a1 → i32 a2 → i32 a3 → i32 a4 → i32 a5 → ∃ q1 q2, f_H_feed F sx a1 a2 a3 a4 a5 = some q1 ∧ f_M_feed F sm a1 a2 a3 a4 a5 = some q2 ∧ w32 q1.1 = w32 q2.1 ∧ INV q1.2 q2.2
def st_prizes (F : Nat) (INV : St → St → Prop) : Prop := ∀ sx sm, INV sx sm → ∀ a1 : Int, i32 a1 → ∃ q1 q2, f_H_prizes F sx a1 = some q1 ∧ f_M_prizes F sm a1 = some q2 ∧ w32 q1.1 = w32 q2.1 ∧ INV q1.2 q2.2
def st_fault (F : Nat) (INV : St → St → Prop) : Prop := ∀ sx sm, INV sx sm → ∀ a1 : Int, i32 a1 → ∃ q1 q2, f_H_fault sx a1 = some q1 ∧ f_M_fault sm a1 = some q2 ∧ w32 q1.1 = w32 q2.1 ∧ INV q1.2 q2.2
def st_given (F : Nat) (INV : St → St → Prop) : Prop := ∀ sx sm, INV sx sm → ∀ a1 a2 a3 : Int, i32 a1 → i32 a2 → i32 a3 → ∃ q1 q2, f_H_given F sx a1 a2 a3 = some q1 ∧ f_M_given F sm a1 a2 a3 = some q2 ∧ w32 q1.1 = w32 q2.1 ∧ INV q1.2 q2.2
def st_hall (F : Nat) (INV : St → St → Prop) : Prop := ∀ sx sm, INV sx sm → ∀ a1 a2 a3 : Int, i32 a1 → i32 a2 → i32 a3 → ∃ q1 q2, f_H_hall sx a1 a2 a3 = some q1 ∧ f_M_hall sm a1 a2 a3 = some q2 ∧ w32 q1.1 = w32 q2.1 ∧ INV q1.2 q2.2
def st_clear (F : Nat) (INV : St → St → Prop) : Prop := ∀ sx sm, INV sx sm → ∃ q1 q2, f_H_clear sx = some q1 ∧ f_M_clear sm = some q2 ∧ w32 q1.1 = w32 q2.1 ∧ INV q1.2 q2.2
def st_laid (F : Nat) (INV : St → St → Prop) : Prop := ∀ sx sm, INV sx sm → ∀ a1 : Int, i32 a1 → ∃ q1 q2, f_H_laid F sx a1 = some q1 ∧ f_M_laid F sm a1 = some q2 ∧ w32 q1.1 = w32 q2.1 ∧ INV q1.2 q2.2
def st_tries (F : Nat) (INV : St → St → Prop) : Prop := ∀ sx sm, INV sx sm → ∃ q1 q2, f_H_tries F sx = some q1 ∧ f_M_tries F sm = some q2 ∧ w32 q1.1 = w32 q2.1 ∧ INV q1.2 q2.2
set_option maxRecDepth 100000 in
set_option maxHeartbeats 4000000 in
theorem case_status {p : Program} {l : Launch} {e : Env} {s : State} {m : MethodId} {below : List Frame} {meth : Method} {c : Code} {D : va_G} {cy : Nat → ClassId} {ax am : Nat → Nat} {b L : Nat} {xs : Nat → Int32} (X : LX p s m meth c D cy ax am b L xs) (hL : L ≤ 3072) {F : Nat} {INV : St → St → Prop} (hst : st_status F INV) {n : Nat} (hn : n + 6 ≤ L) (hk : ∀ sx sm, INV sx sm → GL p l e s m below meth c D cy ax am b 931 [(0, .ref b), (1, .ref (ax 0)), (2, .ref (am 0)), (3, mI (n : Int))] [] sx sm) {sx sm : St} (hI : INV sx sm) : GL p l e s m below meth c D cy ax am b 148 [(0, .ref b), (1, .ref (ax 0)), (2, .ref (am 0)), (3, mI (n : Int))] [] sx sm := by
  obtain ⟨q1, q2, h1, h2, he, hI⟩ := hst sx sm hI 
  refine g_aload_n X 1 dL_law_148 rfl rfl ?_
  refine g_callXI X (As := []) (st := []) (as := fun ad => [.ref (ad 0)]) (c_H_status h1) rfl yw_X11_status yv_X11_status ml_RL_13 o_X_0 rfl rfl ⟨rfl, rfl⟩ ⟨Nat.le_of_ble_eq_true rfl, Nat.le_of_ble_eq_true rfl⟩ rfl rfl (Nat.le_of_ble_eq_true rfl) dL_law_149 ?_
  refine g_aload_n X 2 dL_law_152 rfl rfl ?_
  refine g_callMI X (As := []) (st := [mI q1.1]) (as := fun ad => [.ref (ad 0)]) (c_M_status h2) rfl yw_X12_status yv_X12_status ml_RL_17 o_M_0 rfl rfl ⟨rfl, rfl⟩ ⟨Nat.le_of_ble_eq_true rfl, Nat.le_of_ble_eq_true rfl⟩ rfl rfl (Nat.le_of_ble_eq_true rfl) dL_law_153 ?_
  refine g_icmp_eq (tgt := 931) X dL_law_156 (by decide) (fun _ => hk _ _ hI) (fun hh => absurd he hh)
set_option maxRecDepth 100000 in
set_option maxHeartbeats 4000000 in
theorem case_board {p : Program} {l : Launch} {e : Env} {s : State} {m : MethodId} {below : List Frame} {meth : Method} {c : Code} {D : va_G} {cy : Nat → ClassId} {ax am : Nat → Nat} {b L : Nat} {xs : Nat → Int32} (X : LX p s m meth c D cy ax am b L xs) (hL : L ≤ 3072) {F : Nat} {INV : St → St → Prop} (hst : st_board F INV) {n : Nat} (hn : n + 6 ≤ L) (hk : ∀ sx sm, INV sx sm → GL p l e s m below meth c D cy ax am b 931 [(0, .ref b), (1, .ref (ax 0)), (2, .ref (am 0)), (3, mI (n : Int))] [] sx sm) {sx sm : St} (hI : INV sx sm) : GL p l e s m below meth c D cy ax am b 161 [(0, .ref b), (1, .ref (ax 0)), (2, .ref (am 0)), (3, mI (n : Int))] [] sx sm := by
  by_cases hz : w32 ((xs (n + 5)).toInt) = 0
  · obtain ⟨q1, q2, h1, h2, he, hI⟩ := hst sx sm hI ((xs (n + 1)).toInt) ((xs (n + 2)).toInt) ((xs (n + 3)).toInt) ((xs (n + 4)).toInt) 0 (i32_of _) (i32_of _) (i32_of _) (i32_of _) (by omega)
    refine g_aload_n X 1 dL_law_161 rfl rfl ?_
    refine g_aload_n X 0 dL_law_162 rfl rfl ?_
    refine g_iload_n X 3 dL_law_163 rfl rfl ?_
    refine g_iconst X dL_law_164 ?_
    refine g_iadd X dL_law_165 ?_
    refine g_sld (n := n + 1) X (by rw [show ((n : Int) + 1) = ((n + 1 : Nat) : Int) by omega]; exact w32_nat (by omega)) (by omega) dL_law_166 ?_
    refine g_aload_n X 0 dL_law_167 rfl rfl ?_
    refine g_iload_n X 3 dL_law_168 rfl rfl ?_
    refine g_iconst X dL_law_169 ?_
    refine g_iadd X dL_law_170 ?_
    refine g_sld (n := n + 2) X (by rw [show ((n : Int) + 2) = ((n + 2 : Nat) : Int) by omega]; exact w32_nat (by omega)) (by omega) dL_law_171 ?_
    refine g_aload_n X 0 dL_law_172 rfl rfl ?_
    refine g_iload_n X 3 dL_law_173 rfl rfl ?_
    refine g_iconst X dL_law_174 ?_
    refine g_iadd X dL_law_175 ?_
    refine g_sld (n := n + 3) X (by rw [show ((n : Int) + 3) = ((n + 3 : Nat) : Int) by omega]; exact w32_nat (by omega)) (by omega) dL_law_176 ?_
    refine g_aload_n X 0 dL_law_177 rfl rfl ?_
    refine g_iload_n X 3 dL_law_178 rfl rfl ?_
    refine g_iconst X dL_law_179 ?_
    refine g_iadd X dL_law_180 ?_
    refine g_sld (n := n + 4) X (by rw [show ((n : Int) + 4) = ((n + 4 : Nat) : Int) by omega]; exact w32_nat (by omega)) (by omega) dL_law_181 ?_
    refine g_aload_n X 0 dL_law_182 rfl rfl ?_
    refine g_iload_n X 3 dL_law_183 rfl rfl ?_
    refine g_iconst X dL_law_184 ?_
    refine g_iadd X dL_law_185 ?_
    refine g_sld (n := n + 5) X (by rw [show ((n : Int) + 5) = ((n + 5 : Nat) : Int) by omega]; exact w32_nat (by omega)) (by omega) dL_law_186 ?_
    refine g_if_eq (tgt := 194) X dL_law_187 (by decide) (fun _ => ?_) (fun h9 => absurd hz h9)
    refine g_iconst X dL_law_194 ?_
    refine g_callXI X (As := [mI ((xs (n + 1)).toInt), mI ((xs (n + 2)).toInt), mI ((xs (n + 3)).toInt), mI ((xs (n + 4)).toInt), mI 0]) (st := []) (as := fun ad => [.ref (ad 0), mI ((xs (n + 1)).toInt), mI ((xs (n + 2)).toInt), mI ((xs (n + 3)).toInt), mI ((xs (n + 4)).toInt), mI 0]) (c_H_board h1) rfl yw_X11_board yv_X11_board ml_RL_18 o_X_0 rfl rfl ⟨rfl, rfl⟩ ⟨Nat.le_of_ble_eq_true rfl, Nat.le_of_ble_eq_true rfl⟩ rfl rfl (Nat.le_of_ble_eq_true rfl) dL_law_195 ?_
    refine g_aload_n X 2 dL_law_198 rfl rfl ?_
    refine g_aload_n X 0 dL_law_199 rfl rfl ?_
    refine g_iload_n X 3 dL_law_200 rfl rfl ?_
    refine g_iconst X dL_law_201 ?_
    refine g_iadd X dL_law_202 ?_
    refine g_sld (n := n + 1) X (by rw [show ((n : Int) + 1) = ((n + 1 : Nat) : Int) by omega]; exact w32_nat (by omega)) (by omega) dL_law_203 ?_
    refine g_aload_n X 0 dL_law_204 rfl rfl ?_
    refine g_iload_n X 3 dL_law_205 rfl rfl ?_
    refine g_iconst X dL_law_206 ?_
    refine g_iadd X dL_law_207 ?_
    refine g_sld (n := n + 2) X (by rw [show ((n : Int) + 2) = ((n + 2 : Nat) : Int) by omega]; exact w32_nat (by omega)) (by omega) dL_law_208 ?_
    refine g_aload_n X 0 dL_law_209 rfl rfl ?_
    refine g_iload_n X 3 dL_law_210 rfl rfl ?_
    refine g_iconst X dL_law_211 ?_
    refine g_iadd X dL_law_212 ?_
    refine g_sld (n := n + 3) X (by rw [show ((n : Int) + 3) = ((n + 3 : Nat) : Int) by omega]; exact w32_nat (by omega)) (by omega) dL_law_213 ?_
    refine g_aload_n X 0 dL_law_214 rfl rfl ?_
    refine g_iload_n X 3 dL_law_215 rfl rfl ?_
    refine g_iconst X dL_law_216 ?_
    refine g_iadd X dL_law_217 ?_
    refine g_sld (n := n + 4) X (by rw [show ((n : Int) + 4) = ((n + 4 : Nat) : Int) by omega]; exact w32_nat (by omega)) (by omega) dL_law_218 ?_
    refine g_aload_n X 0 dL_law_219 rfl rfl ?_
    refine g_iload_n X 3 dL_law_220 rfl rfl ?_
    refine g_iconst X dL_law_221 ?_
    refine g_iadd X dL_law_222 ?_
    refine g_sld (n := n + 5) X (by rw [show ((n : Int) + 5) = ((n + 5 : Nat) : Int) by omega]; exact w32_nat (by omega)) (by omega) dL_law_223 ?_
    refine g_if_eq (tgt := 231) X dL_law_224 (by decide) (fun _ => ?_) (fun h9 => absurd hz h9)
    refine g_iconst X dL_law_231 ?_
    refine g_callMI X (As := [mI ((xs (n + 1)).toInt), mI ((xs (n + 2)).toInt), mI ((xs (n + 3)).toInt), mI ((xs (n + 4)).toInt), mI 0]) (st := [mI q1.1]) (as := fun ad => [.ref (ad 0), mI ((xs (n + 1)).toInt), mI ((xs (n + 2)).toInt), mI ((xs (n + 3)).toInt), mI ((xs (n + 4)).toInt), mI 0]) (c_M_board h2) rfl yw_X12_board yv_X12_board ml_RL_22 o_M_0 rfl rfl ⟨rfl, rfl⟩ ⟨Nat.le_of_ble_eq_true rfl, Nat.le_of_ble_eq_true rfl⟩ rfl rfl (Nat.le_of_ble_eq_true rfl) dL_law_232 ?_
    refine g_icmp_eq (tgt := 931) X dL_law_235 (by decide) (fun _ => hk _ _ hI) (fun hh => absurd he hh)
  · obtain ⟨q1, q2, h1, h2, he, hI⟩ := hst sx sm hI ((xs (n + 1)).toInt) ((xs (n + 2)).toInt) ((xs (n + 3)).toInt) ((xs (n + 4)).toInt) 1 (i32_of _) (i32_of _) (i32_of _) (i32_of _) (by omega)
    refine g_aload_n X 1 dL_law_161 rfl rfl ?_
    refine g_aload_n X 0 dL_law_162 rfl rfl ?_
    refine g_iload_n X 3 dL_law_163 rfl rfl ?_
    refine g_iconst X dL_law_164 ?_
    refine g_iadd X dL_law_165 ?_
    refine g_sld (n := n + 1) X (by rw [show ((n : Int) + 1) = ((n + 1 : Nat) : Int) by omega]; exact w32_nat (by omega)) (by omega) dL_law_166 ?_
    refine g_aload_n X 0 dL_law_167 rfl rfl ?_
    refine g_iload_n X 3 dL_law_168 rfl rfl ?_
    refine g_iconst X dL_law_169 ?_
    refine g_iadd X dL_law_170 ?_
    refine g_sld (n := n + 2) X (by rw [show ((n : Int) + 2) = ((n + 2 : Nat) : Int) by omega]; exact w32_nat (by omega)) (by omega) dL_law_171 ?_
    refine g_aload_n X 0 dL_law_172 rfl rfl ?_
    refine g_iload_n X 3 dL_law_173 rfl rfl ?_
    refine g_iconst X dL_law_174 ?_
    refine g_iadd X dL_law_175 ?_
    refine g_sld (n := n + 3) X (by rw [show ((n : Int) + 3) = ((n + 3 : Nat) : Int) by omega]; exact w32_nat (by omega)) (by omega) dL_law_176 ?_
    refine g_aload_n X 0 dL_law_177 rfl rfl ?_
    refine g_iload_n X 3 dL_law_178 rfl rfl ?_
    refine g_iconst X dL_law_179 ?_
    refine g_iadd X dL_law_180 ?_
    refine g_sld (n := n + 4) X (by rw [show ((n : Int) + 4) = ((n + 4 : Nat) : Int) by omega]; exact w32_nat (by omega)) (by omega) dL_law_181 ?_
    refine g_aload_n X 0 dL_law_182 rfl rfl ?_
    refine g_iload_n X 3 dL_law_183 rfl rfl ?_
    refine g_iconst X dL_law_184 ?_
    refine g_iadd X dL_law_185 ?_
    refine g_sld (n := n + 5) X (by rw [show ((n : Int) + 5) = ((n + 5 : Nat) : Int) by omega]; exact w32_nat (by omega)) (by omega) dL_law_186 ?_
    refine g_if_eq (tgt := 194) X dL_law_187 (by decide) (fun h9 => absurd h9 hz) (fun _ => ?_)
    refine g_iconst X dL_law_190 ?_
    refine g_goto (tgt := 195) X dL_law_191 (by decide) ?_
    refine g_callXI X (As := [mI ((xs (n + 1)).toInt), mI ((xs (n + 2)).toInt), mI ((xs (n + 3)).toInt), mI ((xs (n + 4)).toInt), mI 1]) (st := []) (as := fun ad => [.ref (ad 0), mI ((xs (n + 1)).toInt), mI ((xs (n + 2)).toInt), mI ((xs (n + 3)).toInt), mI ((xs (n + 4)).toInt), mI 1]) (c_H_board h1) rfl yw_X11_board yv_X11_board ml_RL_18 o_X_0 rfl rfl ⟨rfl, rfl⟩ ⟨Nat.le_of_ble_eq_true rfl, Nat.le_of_ble_eq_true rfl⟩ rfl rfl (Nat.le_of_ble_eq_true rfl) dL_law_195 ?_
    refine g_aload_n X 2 dL_law_198 rfl rfl ?_
    refine g_aload_n X 0 dL_law_199 rfl rfl ?_
    refine g_iload_n X 3 dL_law_200 rfl rfl ?_
    refine g_iconst X dL_law_201 ?_
    refine g_iadd X dL_law_202 ?_
    refine g_sld (n := n + 1) X (by rw [show ((n : Int) + 1) = ((n + 1 : Nat) : Int) by omega]; exact w32_nat (by omega)) (by omega) dL_law_203 ?_
    refine g_aload_n X 0 dL_law_204 rfl rfl ?_
    refine g_iload_n X 3 dL_law_205 rfl rfl ?_
    refine g_iconst X dL_law_206 ?_
    refine g_iadd X dL_law_207 ?_
    refine g_sld (n := n + 2) X (by rw [show ((n : Int) + 2) = ((n + 2 : Nat) : Int) by omega]; exact w32_nat (by omega)) (by omega) dL_law_208 ?_
    refine g_aload_n X 0 dL_law_209 rfl rfl ?_
    refine g_iload_n X 3 dL_law_210 rfl rfl ?_
    refine g_iconst X dL_law_211 ?_
    refine g_iadd X dL_law_212 ?_
    refine g_sld (n := n + 3) X (by rw [show ((n : Int) + 3) = ((n + 3 : Nat) : Int) by omega]; exact w32_nat (by omega)) (by omega) dL_law_213 ?_
    refine g_aload_n X 0 dL_law_214 rfl rfl ?_
    refine g_iload_n X 3 dL_law_215 rfl rfl ?_
    refine g_iconst X dL_law_216 ?_
    refine g_iadd X dL_law_217 ?_
    refine g_sld (n := n + 4) X (by rw [show ((n : Int) + 4) = ((n + 4 : Nat) : Int) by omega]; exact w32_nat (by omega)) (by omega) dL_law_218 ?_
    refine g_aload_n X 0 dL_law_219 rfl rfl ?_
    refine g_iload_n X 3 dL_law_220 rfl rfl ?_
    refine g_iconst X dL_law_221 ?_
    refine g_iadd X dL_law_222 ?_
    refine g_sld (n := n + 5) X (by rw [show ((n : Int) + 5) = ((n + 5 : Nat) : Int) by omega]; exact w32_nat (by omega)) (by omega) dL_law_223 ?_
    refine g_if_eq (tgt := 231) X dL_law_224 (by decide) (fun h9 => absurd h9 hz) (fun _ => ?_)
    refine g_iconst X dL_law_227 ?_
    refine g_goto (tgt := 232) X dL_law_228 (by decide) ?_
    refine g_callMI X (As := [mI ((xs (n + 1)).toInt), mI ((xs (n + 2)).toInt), mI ((xs (n + 3)).toInt), mI ((xs (n + 4)).toInt), mI 1]) (st := [mI q1.1]) (as := fun ad => [.ref (ad 0), mI ((xs (n + 1)).toInt), mI ((xs (n + 2)).toInt), mI ((xs (n + 3)).toInt), mI ((xs (n + 4)).toInt), mI 1]) (c_M_board h2) rfl yw_X12_board yv_X12_board ml_RL_22 o_M_0 rfl rfl ⟨rfl, rfl⟩ ⟨Nat.le_of_ble_eq_true rfl, Nat.le_of_ble_eq_true rfl⟩ rfl rfl (Nat.le_of_ble_eq_true rfl) dL_law_232 ?_
    refine g_icmp_eq (tgt := 931) X dL_law_235 (by decide) (fun _ => hk _ _ hI) (fun hh => absurd he hh)
set_option maxRecDepth 100000 in
set_option maxHeartbeats 4000000 in
theorem case_judge {p : Program} {l : Launch} {e : Env} {s : State} {m : MethodId} {below : List Frame} {meth : Method} {c : Code} {D : va_G} {cy : Nat → ClassId} {ax am : Nat → Nat} {b L : Nat} {xs : Nat → Int32} (X : LX p s m meth c D cy ax am b L xs) (hL : L ≤ 3072) {F : Nat} {INV : St → St → Prop} (hst : st_judge F INV) {n : Nat} (hn : n + 6 ≤ L) (hk : ∀ sx sm, INV sx sm → GL p l e s m below meth c D cy ax am b 931 [(0, .ref b), (1, .ref (ax 0)), (2, .ref (am 0)), (3, mI (n : Int))] [] sx sm) {sx sm : St} (hI : INV sx sm) : GL p l e s m below meth c D cy ax am b 240 [(0, .ref b), (1, .ref (ax 0)), (2, .ref (am 0)), (3, mI (n : Int))] [] sx sm := by
  obtain ⟨q1, q2, h1, h2, he, hI⟩ := hst sx sm hI ((xs (n + 1)).toInt) ((xs (n + 2)).toInt) ((xs (n + 3)).toInt) (i32_of _) (i32_of _) (i32_of _)
  refine g_aload_n X 1 dL_law_240 rfl rfl ?_
  refine g_aload_n X 0 dL_law_241 rfl rfl ?_
  refine g_iload_n X 3 dL_law_242 rfl rfl ?_
  refine g_iconst X dL_law_243 ?_
  refine g_iadd X dL_law_244 ?_
  refine g_sld (n := n + 1) X (by rw [show ((n : Int) + 1) = ((n + 1 : Nat) : Int) by omega]; exact w32_nat (by omega)) (by omega) dL_law_245 ?_
  refine g_aload_n X 0 dL_law_246 rfl rfl ?_
  refine g_iload_n X 3 dL_law_247 rfl rfl ?_
  refine g_iconst X dL_law_248 ?_
  refine g_iadd X dL_law_249 ?_
  refine g_sld (n := n + 2) X (by rw [show ((n : Int) + 2) = ((n + 2 : Nat) : Int) by omega]; exact w32_nat (by omega)) (by omega) dL_law_250 ?_
  refine g_aload_n X 0 dL_law_251 rfl rfl ?_
  refine g_iload_n X 3 dL_law_252 rfl rfl ?_
  refine g_iconst X dL_law_253 ?_
  refine g_iadd X dL_law_254 ?_
  refine g_sld (n := n + 3) X (by rw [show ((n : Int) + 3) = ((n + 3 : Nat) : Int) by omega]; exact w32_nat (by omega)) (by omega) dL_law_255 ?_
  refine g_callXI X (As := [mI ((xs (n + 1)).toInt), mI ((xs (n + 2)).toInt), mI ((xs (n + 3)).toInt)]) (st := []) (as := fun ad => [.ref (ad 0), mI ((xs (n + 1)).toInt), mI ((xs (n + 2)).toInt), mI ((xs (n + 3)).toInt)]) (c_H_judge h1) rfl yw_X11_judge yv_X11_judge ml_RL_23 o_X_0 rfl rfl ⟨rfl, rfl⟩ ⟨Nat.le_of_ble_eq_true rfl, Nat.le_of_ble_eq_true rfl⟩ rfl rfl (Nat.le_of_ble_eq_true rfl) dL_law_256 ?_
  refine g_aload_n X 2 dL_law_259 rfl rfl ?_
  refine g_aload_n X 0 dL_law_260 rfl rfl ?_
  refine g_iload_n X 3 dL_law_261 rfl rfl ?_
  refine g_iconst X dL_law_262 ?_
  refine g_iadd X dL_law_263 ?_
  refine g_sld (n := n + 1) X (by rw [show ((n : Int) + 1) = ((n + 1 : Nat) : Int) by omega]; exact w32_nat (by omega)) (by omega) dL_law_264 ?_
  refine g_aload_n X 0 dL_law_265 rfl rfl ?_
  refine g_iload_n X 3 dL_law_266 rfl rfl ?_
  refine g_iconst X dL_law_267 ?_
  refine g_iadd X dL_law_268 ?_
  refine g_sld (n := n + 2) X (by rw [show ((n : Int) + 2) = ((n + 2 : Nat) : Int) by omega]; exact w32_nat (by omega)) (by omega) dL_law_269 ?_
  refine g_aload_n X 0 dL_law_270 rfl rfl ?_
  refine g_iload_n X 3 dL_law_271 rfl rfl ?_
  refine g_iconst X dL_law_272 ?_
  refine g_iadd X dL_law_273 ?_
  refine g_sld (n := n + 3) X (by rw [show ((n : Int) + 3) = ((n + 3 : Nat) : Int) by omega]; exact w32_nat (by omega)) (by omega) dL_law_274 ?_
  refine g_callMI X (As := [mI ((xs (n + 1)).toInt), mI ((xs (n + 2)).toInt), mI ((xs (n + 3)).toInt)]) (st := [mI q1.1]) (as := fun ad => [.ref (ad 0), mI ((xs (n + 1)).toInt), mI ((xs (n + 2)).toInt), mI ((xs (n + 3)).toInt)]) (c_M_judge h2) rfl yw_X12_judge yv_X12_judge ml_RL_27 o_M_0 rfl rfl ⟨rfl, rfl⟩ ⟨Nat.le_of_ble_eq_true rfl, Nat.le_of_ble_eq_true rfl⟩ rfl rfl (Nat.le_of_ble_eq_true rfl) dL_law_275 ?_
  refine g_icmp_eq (tgt := 931) X dL_law_278 (by decide) (fun _ => hk _ _ hI) (fun hh => absurd he hh)
set_option maxRecDepth 100000 in
set_option maxHeartbeats 4000000 in
theorem case_told {p : Program} {l : Launch} {e : Env} {s : State} {m : MethodId} {below : List Frame} {meth : Method} {c : Code} {D : va_G} {cy : Nat → ClassId} {ax am : Nat → Nat} {b L : Nat} {xs : Nat → Int32} (X : LX p s m meth c D cy ax am b L xs) (hL : L ≤ 3072) {F : Nat} {INV : St → St → Prop} (hst : st_told F INV) {n : Nat} (hn : n + 6 ≤ L) (hk : ∀ sx sm, INV sx sm → GL p l e s m below meth c D cy ax am b 931 [(0, .ref b), (1, .ref (ax 0)), (2, .ref (am 0)), (3, mI (n : Int))] [] sx sm) {sx sm : St} (hI : INV sx sm) : GL p l e s m below meth c D cy ax am b 283 [(0, .ref b), (1, .ref (ax 0)), (2, .ref (am 0)), (3, mI (n : Int))] [] sx sm := by
  obtain ⟨q1, q2, h1, h2, he, hI⟩ := hst sx sm hI ((xs (n + 1)).toInt) ((xs (n + 2)).toInt) (i32_of _) (i32_of _)
  refine g_aload_n X 1 dL_law_283 rfl rfl ?_
  refine g_aload_n X 0 dL_law_284 rfl rfl ?_
  refine g_iload_n X 3 dL_law_285 rfl rfl ?_
  refine g_iconst X dL_law_286 ?_
  refine g_iadd X dL_law_287 ?_
  refine g_sld (n := n + 1) X (by rw [show ((n : Int) + 1) = ((n + 1 : Nat) : Int) by omega]; exact w32_nat (by omega)) (by omega) dL_law_288 ?_
  refine g_aload_n X 0 dL_law_289 rfl rfl ?_
  refine g_iload_n X 3 dL_law_290 rfl rfl ?_
  refine g_iconst X dL_law_291 ?_
  refine g_iadd X dL_law_292 ?_
  refine g_sld (n := n + 2) X (by rw [show ((n : Int) + 2) = ((n + 2 : Nat) : Int) by omega]; exact w32_nat (by omega)) (by omega) dL_law_293 ?_
  refine g_callXI X (As := [mI ((xs (n + 1)).toInt), mI ((xs (n + 2)).toInt)]) (st := []) (as := fun ad => [.ref (ad 0), mI ((xs (n + 1)).toInt), mI ((xs (n + 2)).toInt)]) (c_H_told h1) rfl yw_X11_told yv_X11_told ml_RL_28 o_X_0 rfl rfl ⟨rfl, rfl⟩ ⟨Nat.le_of_ble_eq_true rfl, Nat.le_of_ble_eq_true rfl⟩ rfl rfl (Nat.le_of_ble_eq_true rfl) dL_law_294 ?_
  refine g_aload_n X 2 dL_law_297 rfl rfl ?_
  refine g_aload_n X 0 dL_law_298 rfl rfl ?_
  refine g_iload_n X 3 dL_law_299 rfl rfl ?_
  refine g_iconst X dL_law_300 ?_
  refine g_iadd X dL_law_301 ?_
  refine g_sld (n := n + 1) X (by rw [show ((n : Int) + 1) = ((n + 1 : Nat) : Int) by omega]; exact w32_nat (by omega)) (by omega) dL_law_302 ?_
  refine g_aload_n X 0 dL_law_303 rfl rfl ?_
  refine g_iload_n X 3 dL_law_304 rfl rfl ?_
  refine g_iconst X dL_law_305 ?_
  refine g_iadd X dL_law_306 ?_
  refine g_sld (n := n + 2) X (by rw [show ((n : Int) + 2) = ((n + 2 : Nat) : Int) by omega]; exact w32_nat (by omega)) (by omega) dL_law_307 ?_
  refine g_callMI X (As := [mI ((xs (n + 1)).toInt), mI ((xs (n + 2)).toInt)]) (st := [mI q1.1]) (as := fun ad => [.ref (ad 0), mI ((xs (n + 1)).toInt), mI ((xs (n + 2)).toInt)]) (c_M_told h2) rfl yw_X12_told yv_X12_told ml_RL_32 o_M_0 rfl rfl ⟨rfl, rfl⟩ ⟨Nat.le_of_ble_eq_true rfl, Nat.le_of_ble_eq_true rfl⟩ rfl rfl (Nat.le_of_ble_eq_true rfl) dL_law_308 ?_
  refine g_icmp_eq (tgt := 931) X dL_law_311 (by decide) (fun _ => hk _ _ hI) (fun hh => absurd he hh)
set_option maxRecDepth 100000 in
set_option maxHeartbeats 4000000 in
theorem case_may {p : Program} {l : Launch} {e : Env} {s : State} {m : MethodId} {below : List Frame} {meth : Method} {c : Code} {D : va_G} {cy : Nat → ClassId} {ax am : Nat → Nat} {b L : Nat} {xs : Nat → Int32} (X : LX p s m meth c D cy ax am b L xs) (hL : L ≤ 3072) {F : Nat} {INV : St → St → Prop} (hst : st_may F INV) {n : Nat} (hn : n + 6 ≤ L) (hk : ∀ sx sm, INV sx sm → GL p l e s m below meth c D cy ax am b 931 [(0, .ref b), (1, .ref (ax 0)), (2, .ref (am 0)), (3, mI (n : Int))] [] sx sm) {sx sm : St} (hI : INV sx sm) : GL p l e s m below meth c D cy ax am b 316 [(0, .ref b), (1, .ref (ax 0)), (2, .ref (am 0)), (3, mI (n : Int))] [] sx sm := by
  obtain ⟨q1, q2, h1, h2, he, hI⟩ := hst sx sm hI ((xs (n + 1)).toInt) ((xs (n + 2)).toInt) (i32_of _) (i32_of _)
  refine g_aload_n X 1 dL_law_316 rfl rfl ?_
  refine g_aload_n X 0 dL_law_317 rfl rfl ?_
  refine g_iload_n X 3 dL_law_318 rfl rfl ?_
  refine g_iconst X dL_law_319 ?_
  refine g_iadd X dL_law_320 ?_
  refine g_sld (n := n + 1) X (by rw [show ((n : Int) + 1) = ((n + 1 : Nat) : Int) by omega]; exact w32_nat (by omega)) (by omega) dL_law_321 ?_
  refine g_aload_n X 0 dL_law_322 rfl rfl ?_
  refine g_iload_n X 3 dL_law_323 rfl rfl ?_
  refine g_iconst X dL_law_324 ?_
  refine g_iadd X dL_law_325 ?_
  refine g_sld (n := n + 2) X (by rw [show ((n : Int) + 2) = ((n + 2 : Nat) : Int) by omega]; exact w32_nat (by omega)) (by omega) dL_law_326 ?_
  refine g_callXI X (As := [mI ((xs (n + 1)).toInt), mI ((xs (n + 2)).toInt)]) (st := []) (as := fun ad => [.ref (ad 0), mI ((xs (n + 1)).toInt), mI ((xs (n + 2)).toInt)]) (c_H_may h1) rfl yw_X11_may yv_X11_may ml_RL_33 o_X_0 rfl rfl ⟨rfl, rfl⟩ ⟨Nat.le_of_ble_eq_true rfl, Nat.le_of_ble_eq_true rfl⟩ rfl rfl (Nat.le_of_ble_eq_true rfl) dL_law_327 ?_
  refine g_aload_n X 2 dL_law_330 rfl rfl ?_
  refine g_aload_n X 0 dL_law_331 rfl rfl ?_
  refine g_iload_n X 3 dL_law_332 rfl rfl ?_
  refine g_iconst X dL_law_333 ?_
  refine g_iadd X dL_law_334 ?_
  refine g_sld (n := n + 1) X (by rw [show ((n : Int) + 1) = ((n + 1 : Nat) : Int) by omega]; exact w32_nat (by omega)) (by omega) dL_law_335 ?_
  refine g_aload_n X 0 dL_law_336 rfl rfl ?_
  refine g_iload_n X 3 dL_law_337 rfl rfl ?_
  refine g_iconst X dL_law_338 ?_
  refine g_iadd X dL_law_339 ?_
  refine g_sld (n := n + 2) X (by rw [show ((n : Int) + 2) = ((n + 2 : Nat) : Int) by omega]; exact w32_nat (by omega)) (by omega) dL_law_340 ?_
  refine g_callMI X (As := [mI ((xs (n + 1)).toInt), mI ((xs (n + 2)).toInt)]) (st := [mI q1.1]) (as := fun ad => [.ref (ad 0), mI ((xs (n + 1)).toInt), mI ((xs (n + 2)).toInt)]) (c_M_may h2) rfl yw_X12_may yv_X12_may ml_RL_36 o_M_0 rfl rfl ⟨rfl, rfl⟩ ⟨Nat.le_of_ble_eq_true rfl, Nat.le_of_ble_eq_true rfl⟩ rfl rfl (Nat.le_of_ble_eq_true rfl) dL_law_341 ?_
  refine g_icmp_eq (tgt := 931) X dL_law_344 (by decide) (fun _ => hk _ _ hI) (fun hh => absurd he hh)
set_option maxRecDepth 100000 in
set_option maxHeartbeats 4000000 in
theorem case_looks {p : Program} {l : Launch} {e : Env} {s : State} {m : MethodId} {below : List Frame} {meth : Method} {c : Code} {D : va_G} {cy : Nat → ClassId} {ax am : Nat → Nat} {b L : Nat} {xs : Nat → Int32} (X : LX p s m meth c D cy ax am b L xs) (hL : L ≤ 3072) {F : Nat} {INV : St → St → Prop} (hst : st_looks F INV) {n : Nat} (hn : n + 6 ≤ L) (hk : ∀ sx sm, INV sx sm → GL p l e s m below meth c D cy ax am b 931 [(0, .ref b), (1, .ref (ax 0)), (2, .ref (am 0)), (3, mI (n : Int))] [] sx sm) {sx sm : St} (hI : INV sx sm) : GL p l e s m below meth c D cy ax am b 349 [(0, .ref b), (1, .ref (ax 0)), (2, .ref (am 0)), (3, mI (n : Int))] [] sx sm := by
  obtain ⟨q1, q2, h1, h2, he, hI⟩ := hst sx sm hI ((xs (n + 1)).toInt) (i32_of _)
  refine g_aload_n X 1 dL_law_349 rfl rfl ?_
  refine g_aload_n X 0 dL_law_350 rfl rfl ?_
  refine g_iload_n X 3 dL_law_351 rfl rfl ?_
  refine g_iconst X dL_law_352 ?_
  refine g_iadd X dL_law_353 ?_
  refine g_sld (n := n + 1) X (by rw [show ((n : Int) + 1) = ((n + 1 : Nat) : Int) by omega]; exact w32_nat (by omega)) (by omega) dL_law_354 ?_
  refine g_callXI X (As := [mI ((xs (n + 1)).toInt)]) (st := []) (as := fun ad => [.ref (ad 0), mI ((xs (n + 1)).toInt)]) (c_H_looks h1) rfl yw_X11_looks yv_X11_looks ml_RL_37 o_X_0 rfl rfl ⟨rfl, rfl⟩ ⟨Nat.le_of_ble_eq_true rfl, Nat.le_of_ble_eq_true rfl⟩ rfl rfl (Nat.le_of_ble_eq_true rfl) dL_law_355 ?_
  refine g_aload_n X 2 dL_law_358 rfl rfl ?_
  refine g_aload_n X 0 dL_law_359 rfl rfl ?_
  refine g_iload_n X 3 dL_law_360 rfl rfl ?_
  refine g_iconst X dL_law_361 ?_
  refine g_iadd X dL_law_362 ?_
  refine g_sld (n := n + 1) X (by rw [show ((n : Int) + 1) = ((n + 1 : Nat) : Int) by omega]; exact w32_nat (by omega)) (by omega) dL_law_363 ?_
  refine g_callMI X (As := [mI ((xs (n + 1)).toInt)]) (st := [mI q1.1]) (as := fun ad => [.ref (ad 0), mI ((xs (n + 1)).toInt)]) (c_M_looks h2) rfl yw_X12_looks yv_X12_looks ml_RL_41 o_M_0 rfl rfl ⟨rfl, rfl⟩ ⟨Nat.le_of_ble_eq_true rfl, Nat.le_of_ble_eq_true rfl⟩ rfl rfl (Nat.le_of_ble_eq_true rfl) dL_law_364 ?_
  refine g_icmp_eq (tgt := 931) X dL_law_367 (by decide) (fun _ => hk _ _ hI) (fun hh => absurd he hh)
set_option maxRecDepth 100000 in
set_option maxHeartbeats 4000000 in
theorem case_plan {p : Program} {l : Launch} {e : Env} {s : State} {m : MethodId} {below : List Frame} {meth : Method} {c : Code} {D : va_G} {cy : Nat → ClassId} {ax am : Nat → Nat} {b L : Nat} {xs : Nat → Int32} (X : LX p s m meth c D cy ax am b L xs) (hL : L ≤ 3072) {F : Nat} {INV : St → St → Prop} (hst : st_plan F INV) {n : Nat} (hn : n + 6 ≤ L) (hk : ∀ sx sm, INV sx sm → GL p l e s m below meth c D cy ax am b 931 [(0, .ref b), (1, .ref (ax 0)), (2, .ref (am 0)), (3, mI (n : Int))] [] sx sm) {sx sm : St} (hI : INV sx sm) : GL p l e s m below meth c D cy ax am b 372 [(0, .ref b), (1, .ref (ax 0)), (2, .ref (am 0)), (3, mI (n : Int))] [] sx sm := by
  obtain ⟨q1, q2, h1, h2, he, hI⟩ := hst sx sm hI 
  refine g_aload_n X 1 dL_law_372 rfl rfl ?_
  refine g_callXI X (As := []) (st := []) (as := fun ad => [.ref (ad 0)]) (c_H_plan h1) rfl yw_X11_plan yv_X11_plan ml_RL_42 o_X_0 rfl rfl ⟨rfl, rfl⟩ ⟨Nat.le_of_ble_eq_true rfl, Nat.le_of_ble_eq_true rfl⟩ rfl rfl (Nat.le_of_ble_eq_true rfl) dL_law_373 ?_
  refine g_aload_n X 2 dL_law_376 rfl rfl ?_
  refine g_callMI X (As := []) (st := [mI q1.1]) (as := fun ad => [.ref (ad 0)]) (c_M_plan h2) rfl yw_X12_plan yv_X12_plan ml_RL_45 o_M_0 rfl rfl ⟨rfl, rfl⟩ ⟨Nat.le_of_ble_eq_true rfl, Nat.le_of_ble_eq_true rfl⟩ rfl rfl (Nat.le_of_ble_eq_true rfl) dL_law_377 ?_
  refine g_icmp_eq (tgt := 931) X dL_law_380 (by decide) (fun _ => hk _ _ hI) (fun hh => absurd he hh)
set_option maxRecDepth 100000 in
set_option maxHeartbeats 4000000 in
theorem case_sees {p : Program} {l : Launch} {e : Env} {s : State} {m : MethodId} {below : List Frame} {meth : Method} {c : Code} {D : va_G} {cy : Nat → ClassId} {ax am : Nat → Nat} {b L : Nat} {xs : Nat → Int32} (X : LX p s m meth c D cy ax am b L xs) (hL : L ≤ 3072) {F : Nat} {INV : St → St → Prop} (hst : st_sees F INV) {n : Nat} (hn : n + 6 ≤ L) (hk : ∀ sx sm, INV sx sm → GL p l e s m below meth c D cy ax am b 931 [(0, .ref b), (1, .ref (ax 0)), (2, .ref (am 0)), (3, mI (n : Int))] [] sx sm) {sx sm : St} (hI : INV sx sm) : GL p l e s m below meth c D cy ax am b 385 [(0, .ref b), (1, .ref (ax 0)), (2, .ref (am 0)), (3, mI (n : Int))] [] sx sm := by
  obtain ⟨q1, q2, h1, h2, he, hI⟩ := hst sx sm hI ((xs (n + 1)).toInt) ((xs (n + 2)).toInt) (i32_of _) (i32_of _)
  refine g_aload_n X 1 dL_law_385 rfl rfl ?_
  refine g_aload_n X 0 dL_law_386 rfl rfl ?_
  refine g_iload_n X 3 dL_law_387 rfl rfl ?_
  refine g_iconst X dL_law_388 ?_
  refine g_iadd X dL_law_389 ?_
  refine g_sld (n := n + 1) X (by rw [show ((n : Int) + 1) = ((n + 1 : Nat) : Int) by omega]; exact w32_nat (by omega)) (by omega) dL_law_390 ?_
  refine g_aload_n X 0 dL_law_391 rfl rfl ?_
  refine g_iload_n X 3 dL_law_392 rfl rfl ?_
  refine g_iconst X dL_law_393 ?_
  refine g_iadd X dL_law_394 ?_
  refine g_sld (n := n + 2) X (by rw [show ((n : Int) + 2) = ((n + 2 : Nat) : Int) by omega]; exact w32_nat (by omega)) (by omega) dL_law_395 ?_
  refine g_callXI X (As := [mI ((xs (n + 1)).toInt), mI ((xs (n + 2)).toInt)]) (st := []) (as := fun ad => [.ref (ad 0), mI ((xs (n + 1)).toInt), mI ((xs (n + 2)).toInt)]) (c_H_sees h1) rfl yw_X11_sees yv_X11_sees ml_RL_46 o_X_0 rfl rfl ⟨rfl, rfl⟩ ⟨Nat.le_of_ble_eq_true rfl, Nat.le_of_ble_eq_true rfl⟩ rfl rfl (Nat.le_of_ble_eq_true rfl) dL_law_396 ?_
  refine g_aload_n X 2 dL_law_399 rfl rfl ?_
  refine g_aload_n X 0 dL_law_400 rfl rfl ?_
  refine g_iload_n X 3 dL_law_401 rfl rfl ?_
  refine g_iconst X dL_law_402 ?_
  refine g_iadd X dL_law_403 ?_
  refine g_sld (n := n + 1) X (by rw [show ((n : Int) + 1) = ((n + 1 : Nat) : Int) by omega]; exact w32_nat (by omega)) (by omega) dL_law_404 ?_
  refine g_aload_n X 0 dL_law_405 rfl rfl ?_
  refine g_iload_n X 3 dL_law_406 rfl rfl ?_
  refine g_iconst X dL_law_407 ?_
  refine g_iadd X dL_law_408 ?_
  refine g_sld (n := n + 2) X (by rw [show ((n : Int) + 2) = ((n + 2 : Nat) : Int) by omega]; exact w32_nat (by omega)) (by omega) dL_law_409 ?_
  refine g_callMI X (As := [mI ((xs (n + 1)).toInt), mI ((xs (n + 2)).toInt)]) (st := [mI q1.1]) (as := fun ad => [.ref (ad 0), mI ((xs (n + 1)).toInt), mI ((xs (n + 2)).toInt)]) (c_M_sees h2) rfl yw_X12_sees yv_X12_sees ml_RL_49 o_M_0 rfl rfl ⟨rfl, rfl⟩ ⟨Nat.le_of_ble_eq_true rfl, Nat.le_of_ble_eq_true rfl⟩ rfl rfl (Nat.le_of_ble_eq_true rfl) dL_law_410 ?_
  refine g_icmp_eq (tgt := 931) X dL_law_413 (by decide) (fun _ => hk _ _ hI) (fun hh => absurd he hh)
set_option maxRecDepth 100000 in
set_option maxHeartbeats 4000000 in
theorem case_holds {p : Program} {l : Launch} {e : Env} {s : State} {m : MethodId} {below : List Frame} {meth : Method} {c : Code} {D : va_G} {cy : Nat → ClassId} {ax am : Nat → Nat} {b L : Nat} {xs : Nat → Int32} (X : LX p s m meth c D cy ax am b L xs) (hL : L ≤ 3072) {F : Nat} {INV : St → St → Prop} (hst : st_holds F INV) {n : Nat} (hn : n + 6 ≤ L) (hk : ∀ sx sm, INV sx sm → GL p l e s m below meth c D cy ax am b 931 [(0, .ref b), (1, .ref (ax 0)), (2, .ref (am 0)), (3, mI (n : Int))] [] sx sm) {sx sm : St} (hI : INV sx sm) : GL p l e s m below meth c D cy ax am b 418 [(0, .ref b), (1, .ref (ax 0)), (2, .ref (am 0)), (3, mI (n : Int))] [] sx sm := by
  obtain ⟨q1, q2, h1, h2, he, hI⟩ := hst sx sm hI ((xs (n + 1)).toInt) (i32_of _)
  refine g_aload_n X 1 dL_law_418 rfl rfl ?_
  refine g_aload_n X 0 dL_law_419 rfl rfl ?_
  refine g_iload_n X 3 dL_law_420 rfl rfl ?_
  refine g_iconst X dL_law_421 ?_
  refine g_iadd X dL_law_422 ?_
  refine g_sld (n := n + 1) X (by rw [show ((n : Int) + 1) = ((n + 1 : Nat) : Int) by omega]; exact w32_nat (by omega)) (by omega) dL_law_423 ?_
  refine g_callXI X (As := [mI ((xs (n + 1)).toInt)]) (st := []) (as := fun ad => [.ref (ad 0), mI ((xs (n + 1)).toInt)]) (c_H_holds h1) rfl yw_X11_holds yv_X11_holds ml_RL_50 o_X_0 rfl rfl ⟨rfl, rfl⟩ ⟨Nat.le_of_ble_eq_true rfl, Nat.le_of_ble_eq_true rfl⟩ rfl rfl (Nat.le_of_ble_eq_true rfl) dL_law_424 ?_
  refine g_aload_n X 2 dL_law_427 rfl rfl ?_
  refine g_aload_n X 0 dL_law_428 rfl rfl ?_
  refine g_iload_n X 3 dL_law_429 rfl rfl ?_
  refine g_iconst X dL_law_430 ?_
  refine g_iadd X dL_law_431 ?_
  refine g_sld (n := n + 1) X (by rw [show ((n : Int) + 1) = ((n + 1 : Nat) : Int) by omega]; exact w32_nat (by omega)) (by omega) dL_law_432 ?_
  refine g_callMI X (As := [mI ((xs (n + 1)).toInt)]) (st := [mI q1.1]) (as := fun ad => [.ref (ad 0), mI ((xs (n + 1)).toInt)]) (c_M_holds h2) rfl yw_X12_holds yv_X12_holds ml_RL_54 o_M_0 rfl rfl ⟨rfl, rfl⟩ ⟨Nat.le_of_ble_eq_true rfl, Nat.le_of_ble_eq_true rfl⟩ rfl rfl (Nat.le_of_ble_eq_true rfl) dL_law_433 ?_
  refine g_icmp_eq (tgt := 931) X dL_law_436 (by decide) (fun _ => hk _ _ hI) (fun hh => absurd he hh)
set_option maxRecDepth 100000 in
set_option maxHeartbeats 4000000 in
theorem case_mark {p : Program} {l : Launch} {e : Env} {s : State} {m : MethodId} {below : List Frame} {meth : Method} {c : Code} {D : va_G} {cy : Nat → ClassId} {ax am : Nat → Nat} {b L : Nat} {xs : Nat → Int32} (X : LX p s m meth c D cy ax am b L xs) (hL : L ≤ 3072) {F : Nat} {INV : St → St → Prop} (hst : st_mark F INV) {n : Nat} (hn : n + 6 ≤ L) (hk : ∀ sx sm, INV sx sm → GL p l e s m below meth c D cy ax am b 931 [(0, .ref b), (1, .ref (ax 0)), (2, .ref (am 0)), (3, mI (n : Int))] [] sx sm) {sx sm : St} (hI : INV sx sm) : GL p l e s m below meth c D cy ax am b 441 [(0, .ref b), (1, .ref (ax 0)), (2, .ref (am 0)), (3, mI (n : Int))] [] sx sm := by
  obtain ⟨q1, q2, h1, h2, he, hI⟩ := hst sx sm hI ((xs (n + 1)).toInt) ((xs (n + 2)).toInt) ((xs (n + 3)).toInt) ((xs (n + 4)).toInt) (i32_of _) (i32_of _) (i32_of _) (i32_of _)
  refine g_aload_n X 1 dL_law_441 rfl rfl ?_
  refine g_aload_n X 0 dL_law_442 rfl rfl ?_
  refine g_iload_n X 3 dL_law_443 rfl rfl ?_
  refine g_iconst X dL_law_444 ?_
  refine g_iadd X dL_law_445 ?_
  refine g_sld (n := n + 1) X (by rw [show ((n : Int) + 1) = ((n + 1 : Nat) : Int) by omega]; exact w32_nat (by omega)) (by omega) dL_law_446 ?_
  refine g_aload_n X 0 dL_law_447 rfl rfl ?_
  refine g_iload_n X 3 dL_law_448 rfl rfl ?_
  refine g_iconst X dL_law_449 ?_
  refine g_iadd X dL_law_450 ?_
  refine g_sld (n := n + 2) X (by rw [show ((n : Int) + 2) = ((n + 2 : Nat) : Int) by omega]; exact w32_nat (by omega)) (by omega) dL_law_451 ?_
  refine g_aload_n X 0 dL_law_452 rfl rfl ?_
  refine g_iload_n X 3 dL_law_453 rfl rfl ?_
  refine g_iconst X dL_law_454 ?_
  refine g_iadd X dL_law_455 ?_
  refine g_sld (n := n + 3) X (by rw [show ((n : Int) + 3) = ((n + 3 : Nat) : Int) by omega]; exact w32_nat (by omega)) (by omega) dL_law_456 ?_
  refine g_aload_n X 0 dL_law_457 rfl rfl ?_
  refine g_iload_n X 3 dL_law_458 rfl rfl ?_
  refine g_iconst X dL_law_459 ?_
  refine g_iadd X dL_law_460 ?_
  refine g_sld (n := n + 4) X (by rw [show ((n : Int) + 4) = ((n + 4 : Nat) : Int) by omega]; exact w32_nat (by omega)) (by omega) dL_law_461 ?_
  refine g_callXI X (As := [mI ((xs (n + 1)).toInt), mI ((xs (n + 2)).toInt), mI ((xs (n + 3)).toInt), mI ((xs (n + 4)).toInt)]) (st := []) (as := fun ad => [.ref (ad 0), mI ((xs (n + 1)).toInt), mI ((xs (n + 2)).toInt), mI ((xs (n + 3)).toInt), mI ((xs (n + 4)).toInt)]) (c_H_mark h1) rfl yw_X11_mark yv_X11_mark ml_RL_55 o_X_0 rfl rfl ⟨rfl, rfl⟩ ⟨Nat.le_of_ble_eq_true rfl, Nat.le_of_ble_eq_true rfl⟩ rfl rfl (Nat.le_of_ble_eq_true rfl) dL_law_462 ?_
  refine g_aload_n X 2 dL_law_465 rfl rfl ?_
  refine g_aload_n X 0 dL_law_466 rfl rfl ?_
  refine g_iload_n X 3 dL_law_467 rfl rfl ?_
  refine g_iconst X dL_law_468 ?_
  refine g_iadd X dL_law_469 ?_
  refine g_sld (n := n + 1) X (by rw [show ((n : Int) + 1) = ((n + 1 : Nat) : Int) by omega]; exact w32_nat (by omega)) (by omega) dL_law_470 ?_
  refine g_aload_n X 0 dL_law_471 rfl rfl ?_
  refine g_iload_n X 3 dL_law_472 rfl rfl ?_
  refine g_iconst X dL_law_473 ?_
  refine g_iadd X dL_law_474 ?_
  refine g_sld (n := n + 2) X (by rw [show ((n : Int) + 2) = ((n + 2 : Nat) : Int) by omega]; exact w32_nat (by omega)) (by omega) dL_law_475 ?_
  refine g_aload_n X 0 dL_law_476 rfl rfl ?_
  refine g_iload_n X 3 dL_law_477 rfl rfl ?_
  refine g_iconst X dL_law_478 ?_
  refine g_iadd X dL_law_479 ?_
  refine g_sld (n := n + 3) X (by rw [show ((n : Int) + 3) = ((n + 3 : Nat) : Int) by omega]; exact w32_nat (by omega)) (by omega) dL_law_480 ?_
  refine g_aload_n X 0 dL_law_481 rfl rfl ?_
  refine g_iload_n X 3 dL_law_482 rfl rfl ?_
  refine g_iconst X dL_law_483 ?_
  refine g_iadd X dL_law_484 ?_
  refine g_sld (n := n + 4) X (by rw [show ((n : Int) + 4) = ((n + 4 : Nat) : Int) by omega]; exact w32_nat (by omega)) (by omega) dL_law_485 ?_
  refine g_callMI X (As := [mI ((xs (n + 1)).toInt), mI ((xs (n + 2)).toInt), mI ((xs (n + 3)).toInt), mI ((xs (n + 4)).toInt)]) (st := [mI q1.1]) (as := fun ad => [.ref (ad 0), mI ((xs (n + 1)).toInt), mI ((xs (n + 2)).toInt), mI ((xs (n + 3)).toInt), mI ((xs (n + 4)).toInt)]) (c_M_mark h2) rfl yw_X12_mark yv_X12_mark ml_RL_59 o_M_0 rfl rfl ⟨rfl, rfl⟩ ⟨Nat.le_of_ble_eq_true rfl, Nat.le_of_ble_eq_true rfl⟩ rfl rfl (Nat.le_of_ble_eq_true rfl) dL_law_486 ?_
  refine g_icmp_eq (tgt := 931) X dL_law_489 (by decide) (fun _ => hk _ _ hI) (fun hh => absurd he hh)
set_option maxRecDepth 100000 in
set_option maxHeartbeats 4000000 in
theorem case_lose {p : Program} {l : Launch} {e : Env} {s : State} {m : MethodId} {below : List Frame} {meth : Method} {c : Code} {D : va_G} {cy : Nat → ClassId} {ax am : Nat → Nat} {b L : Nat} {xs : Nat → Int32} (X : LX p s m meth c D cy ax am b L xs) (hL : L ≤ 3072) {F : Nat} {INV : St → St → Prop} (hst : st_lose F INV) {n : Nat} (hn : n + 6 ≤ L) (hk : ∀ sx sm, INV sx sm → GL p l e s m below meth c D cy ax am b 931 [(0, .ref b), (1, .ref (ax 0)), (2, .ref (am 0)), (3, mI (n : Int))] [] sx sm) {sx sm : St} (hI : INV sx sm) : GL p l e s m below meth c D cy ax am b 494 [(0, .ref b), (1, .ref (ax 0)), (2, .ref (am 0)), (3, mI (n : Int))] [] sx sm := by
  obtain ⟨q1, q2, h1, h2, he, hI⟩ := hst sx sm hI ((xs (n + 1)).toInt) ((xs (n + 2)).toInt) (i32_of _) (i32_of _)
  refine g_aload_n X 1 dL_law_494 rfl rfl ?_
  refine g_aload_n X 0 dL_law_495 rfl rfl ?_
  refine g_iload_n X 3 dL_law_496 rfl rfl ?_
  refine g_iconst X dL_law_497 ?_
  refine g_iadd X dL_law_498 ?_
  refine g_sld (n := n + 1) X (by rw [show ((n : Int) + 1) = ((n + 1 : Nat) : Int) by omega]; exact w32_nat (by omega)) (by omega) dL_law_499 ?_
  refine g_aload_n X 0 dL_law_500 rfl rfl ?_
  refine g_iload_n X 3 dL_law_501 rfl rfl ?_
  refine g_iconst X dL_law_502 ?_
  refine g_iadd X dL_law_503 ?_
  refine g_sld (n := n + 2) X (by rw [show ((n : Int) + 2) = ((n + 2 : Nat) : Int) by omega]; exact w32_nat (by omega)) (by omega) dL_law_504 ?_
  refine g_callXI X (As := [mI ((xs (n + 1)).toInt), mI ((xs (n + 2)).toInt)]) (st := []) (as := fun ad => [.ref (ad 0), mI ((xs (n + 1)).toInt), mI ((xs (n + 2)).toInt)]) (c_H_lose h1) rfl yw_X11_lose yv_X11_lose ml_RL_60 o_X_0 rfl rfl ⟨rfl, rfl⟩ ⟨Nat.le_of_ble_eq_true rfl, Nat.le_of_ble_eq_true rfl⟩ rfl rfl (Nat.le_of_ble_eq_true rfl) dL_law_505 ?_
  refine g_aload_n X 2 dL_law_508 rfl rfl ?_
  refine g_aload_n X 0 dL_law_509 rfl rfl ?_
  refine g_iload_n X 3 dL_law_510 rfl rfl ?_
  refine g_iconst X dL_law_511 ?_
  refine g_iadd X dL_law_512 ?_
  refine g_sld (n := n + 1) X (by rw [show ((n : Int) + 1) = ((n + 1 : Nat) : Int) by omega]; exact w32_nat (by omega)) (by omega) dL_law_513 ?_
  refine g_aload_n X 0 dL_law_514 rfl rfl ?_
  refine g_iload_n X 3 dL_law_515 rfl rfl ?_
  refine g_iconst X dL_law_516 ?_
  refine g_iadd X dL_law_517 ?_
  refine g_sld (n := n + 2) X (by rw [show ((n : Int) + 2) = ((n + 2 : Nat) : Int) by omega]; exact w32_nat (by omega)) (by omega) dL_law_518 ?_
  refine g_callMI X (As := [mI ((xs (n + 1)).toInt), mI ((xs (n + 2)).toInt)]) (st := [mI q1.1]) (as := fun ad => [.ref (ad 0), mI ((xs (n + 1)).toInt), mI ((xs (n + 2)).toInt)]) (c_M_lose h2) rfl yw_X12_lose yv_X12_lose ml_RL_64 o_M_0 rfl rfl ⟨rfl, rfl⟩ ⟨Nat.le_of_ble_eq_true rfl, Nat.le_of_ble_eq_true rfl⟩ rfl rfl (Nat.le_of_ble_eq_true rfl) dL_law_519 ?_
  refine g_icmp_eq (tgt := 931) X dL_law_522 (by decide) (fun _ => hk _ _ hI) (fun hh => absurd he hh)
set_option maxRecDepth 100000 in
set_option maxHeartbeats 4000000 in
theorem case_seen {p : Program} {l : Launch} {e : Env} {s : State} {m : MethodId} {below : List Frame} {meth : Method} {c : Code} {D : va_G} {cy : Nat → ClassId} {ax am : Nat → Nat} {b L : Nat} {xs : Nat → Int32} (X : LX p s m meth c D cy ax am b L xs) (hL : L ≤ 3072) {F : Nat} {INV : St → St → Prop} (hst : st_seen F INV) {n : Nat} (hn : n + 6 ≤ L) (hk : ∀ sx sm, INV sx sm → GL p l e s m below meth c D cy ax am b 931 [(0, .ref b), (1, .ref (ax 0)), (2, .ref (am 0)), (3, mI (n : Int))] [] sx sm) {sx sm : St} (hI : INV sx sm) : GL p l e s m below meth c D cy ax am b 527 [(0, .ref b), (1, .ref (ax 0)), (2, .ref (am 0)), (3, mI (n : Int))] [] sx sm := by
  obtain ⟨q1, q2, h1, h2, he, hI⟩ := hst sx sm hI ((xs (n + 1)).toInt) ((xs (n + 2)).toInt) (i32_of _) (i32_of _)
  refine g_aload_n X 1 dL_law_527 rfl rfl ?_
  refine g_aload_n X 0 dL_law_528 rfl rfl ?_
  refine g_iload_n X 3 dL_law_529 rfl rfl ?_
  refine g_iconst X dL_law_530 ?_
  refine g_iadd X dL_law_531 ?_
  refine g_sld (n := n + 1) X (by rw [show ((n : Int) + 1) = ((n + 1 : Nat) : Int) by omega]; exact w32_nat (by omega)) (by omega) dL_law_532 ?_
  refine g_aload_n X 0 dL_law_533 rfl rfl ?_
  refine g_iload_n X 3 dL_law_534 rfl rfl ?_
  refine g_iconst X dL_law_535 ?_
  refine g_iadd X dL_law_536 ?_
  refine g_sld (n := n + 2) X (by rw [show ((n : Int) + 2) = ((n + 2 : Nat) : Int) by omega]; exact w32_nat (by omega)) (by omega) dL_law_537 ?_
  refine g_callXI X (As := [mI ((xs (n + 1)).toInt), mI ((xs (n + 2)).toInt)]) (st := []) (as := fun ad => [.ref (ad 0), mI ((xs (n + 1)).toInt), mI ((xs (n + 2)).toInt)]) (c_H_seen h1) rfl yw_X11_seen yv_X11_seen ml_RL_65 o_X_0 rfl rfl ⟨rfl, rfl⟩ ⟨Nat.le_of_ble_eq_true rfl, Nat.le_of_ble_eq_true rfl⟩ rfl rfl (Nat.le_of_ble_eq_true rfl) dL_law_538 ?_
  refine g_aload_n X 2 dL_law_541 rfl rfl ?_
  refine g_aload_n X 0 dL_law_542 rfl rfl ?_
  refine g_iload_n X 3 dL_law_543 rfl rfl ?_
  refine g_iconst X dL_law_544 ?_
  refine g_iadd X dL_law_545 ?_
  refine g_sld (n := n + 1) X (by rw [show ((n : Int) + 1) = ((n + 1 : Nat) : Int) by omega]; exact w32_nat (by omega)) (by omega) dL_law_546 ?_
  refine g_aload_n X 0 dL_law_547 rfl rfl ?_
  refine g_iload_n X 3 dL_law_548 rfl rfl ?_
  refine g_iconst X dL_law_549 ?_
  refine g_iadd X dL_law_550 ?_
  refine g_sld (n := n + 2) X (by rw [show ((n : Int) + 2) = ((n + 2 : Nat) : Int) by omega]; exact w32_nat (by omega)) (by omega) dL_law_551 ?_
  refine g_callMI X (As := [mI ((xs (n + 1)).toInt), mI ((xs (n + 2)).toInt)]) (st := [mI q1.1]) (as := fun ad => [.ref (ad 0), mI ((xs (n + 1)).toInt), mI ((xs (n + 2)).toInt)]) (c_M_seen h2) rfl yw_X12_seen yv_X12_seen ml_RL_68 o_M_0 rfl rfl ⟨rfl, rfl⟩ ⟨Nat.le_of_ble_eq_true rfl, Nat.le_of_ble_eq_true rfl⟩ rfl rfl (Nat.le_of_ble_eq_true rfl) dL_law_552 ?_
  refine g_icmp_eq (tgt := 931) X dL_law_555 (by decide) (fun _ => hk _ _ hI) (fun hh => absurd he hh)
set_option maxRecDepth 100000 in
set_option maxHeartbeats 4000000 in
theorem case_heap {p : Program} {l : Launch} {e : Env} {s : State} {m : MethodId} {below : List Frame} {meth : Method} {c : Code} {D : va_G} {cy : Nat → ClassId} {ax am : Nat → Nat} {b L : Nat} {xs : Nat → Int32} (X : LX p s m meth c D cy ax am b L xs) (hL : L ≤ 3072) {F : Nat} {INV : St → St → Prop} (hst : st_heap F INV) {n : Nat} (hn : n + 6 ≤ L) (hk : ∀ sx sm, INV sx sm → GL p l e s m below meth c D cy ax am b 931 [(0, .ref b), (1, .ref (ax 0)), (2, .ref (am 0)), (3, mI (n : Int))] [] sx sm) {sx sm : St} (hI : INV sx sm) : GL p l e s m below meth c D cy ax am b 560 [(0, .ref b), (1, .ref (ax 0)), (2, .ref (am 0)), (3, mI (n : Int))] [] sx sm := by
  obtain ⟨q1, q2, h1, h2, he, hI⟩ := hst sx sm hI ((xs (n + 1)).toInt) ((xs (n + 2)).toInt) (i32_of _) (i32_of _)
  refine g_aload_n X 1 dL_law_560 rfl rfl ?_
  refine g_aload_n X 0 dL_law_561 rfl rfl ?_
  refine g_iload_n X 3 dL_law_562 rfl rfl ?_
  refine g_iconst X dL_law_563 ?_
  refine g_iadd X dL_law_564 ?_
  refine g_sld (n := n + 1) X (by rw [show ((n : Int) + 1) = ((n + 1 : Nat) : Int) by omega]; exact w32_nat (by omega)) (by omega) dL_law_565 ?_
  refine g_aload_n X 0 dL_law_566 rfl rfl ?_
  refine g_iload_n X 3 dL_law_567 rfl rfl ?_
  refine g_iconst X dL_law_568 ?_
  refine g_iadd X dL_law_569 ?_
  refine g_sld (n := n + 2) X (by rw [show ((n : Int) + 2) = ((n + 2 : Nat) : Int) by omega]; exact w32_nat (by omega)) (by omega) dL_law_570 ?_
  refine g_callXI X (As := [mI ((xs (n + 1)).toInt), mI ((xs (n + 2)).toInt)]) (st := []) (as := fun ad => [.ref (ad 0), mI ((xs (n + 1)).toInt), mI ((xs (n + 2)).toInt)]) (c_H_heap h1) rfl yw_X11_heap yv_X11_heap ml_RL_69 o_X_0 rfl rfl ⟨rfl, rfl⟩ ⟨Nat.le_of_ble_eq_true rfl, Nat.le_of_ble_eq_true rfl⟩ rfl rfl (Nat.le_of_ble_eq_true rfl) dL_law_571 ?_
  refine g_aload_n X 2 dL_law_574 rfl rfl ?_
  refine g_aload_n X 0 dL_law_575 rfl rfl ?_
  refine g_iload_n X 3 dL_law_576 rfl rfl ?_
  refine g_iconst X dL_law_577 ?_
  refine g_iadd X dL_law_578 ?_
  refine g_sld (n := n + 1) X (by rw [show ((n : Int) + 1) = ((n + 1 : Nat) : Int) by omega]; exact w32_nat (by omega)) (by omega) dL_law_579 ?_
  refine g_aload_n X 0 dL_law_580 rfl rfl ?_
  refine g_iload_n X 3 dL_law_581 rfl rfl ?_
  refine g_iconst X dL_law_582 ?_
  refine g_iadd X dL_law_583 ?_
  refine g_sld (n := n + 2) X (by rw [show ((n : Int) + 2) = ((n + 2 : Nat) : Int) by omega]; exact w32_nat (by omega)) (by omega) dL_law_584 ?_
  refine g_callMI X (As := [mI ((xs (n + 1)).toInt), mI ((xs (n + 2)).toInt)]) (st := [mI q1.1]) (as := fun ad => [.ref (ad 0), mI ((xs (n + 1)).toInt), mI ((xs (n + 2)).toInt)]) (c_M_heap h2) rfl yw_X12_heap yv_X12_heap ml_RL_72 o_M_0 rfl rfl ⟨rfl, rfl⟩ ⟨Nat.le_of_ble_eq_true rfl, Nat.le_of_ble_eq_true rfl⟩ rfl rfl (Nat.le_of_ble_eq_true rfl) dL_law_585 ?_
  refine g_icmp_eq (tgt := 931) X dL_law_588 (by decide) (fun _ => hk _ _ hI) (fun hh => absurd he hh)
set_option maxRecDepth 100000 in
set_option maxHeartbeats 4000000 in
theorem case_hardness {p : Program} {l : Launch} {e : Env} {s : State} {m : MethodId} {below : List Frame} {meth : Method} {c : Code} {D : va_G} {cy : Nat → ClassId} {ax am : Nat → Nat} {b L : Nat} {xs : Nat → Int32} (X : LX p s m meth c D cy ax am b L xs) (hL : L ≤ 3072) {F : Nat} {INV : St → St → Prop} (hst : st_hardness F INV) {n : Nat} (hn : n + 6 ≤ L) (hk : ∀ sx sm, INV sx sm → GL p l e s m below meth c D cy ax am b 931 [(0, .ref b), (1, .ref (ax 0)), (2, .ref (am 0)), (3, mI (n : Int))] [] sx sm) {sx sm : St} (hI : INV sx sm) : GL p l e s m below meth c D cy ax am b 593 [(0, .ref b), (1, .ref (ax 0)), (2, .ref (am 0)), (3, mI (n : Int))] [] sx sm := by
  obtain ⟨q1, q2, h1, h2, he, hI⟩ := hst sx sm hI ((xs (n + 1)).toInt) ((xs (n + 2)).toInt) (i32_of _) (i32_of _)
  refine g_aload_n X 1 dL_law_593 rfl rfl ?_
  refine g_aload_n X 0 dL_law_594 rfl rfl ?_
  refine g_iload_n X 3 dL_law_595 rfl rfl ?_
  refine g_iconst X dL_law_596 ?_
  refine g_iadd X dL_law_597 ?_
  refine g_sld (n := n + 1) X (by rw [show ((n : Int) + 1) = ((n + 1 : Nat) : Int) by omega]; exact w32_nat (by omega)) (by omega) dL_law_598 ?_
  refine g_aload_n X 0 dL_law_599 rfl rfl ?_
  refine g_iload_n X 3 dL_law_600 rfl rfl ?_
  refine g_iconst X dL_law_601 ?_
  refine g_iadd X dL_law_602 ?_
  refine g_sld (n := n + 2) X (by rw [show ((n : Int) + 2) = ((n + 2 : Nat) : Int) by omega]; exact w32_nat (by omega)) (by omega) dL_law_603 ?_
  refine g_callXI X (As := [mI ((xs (n + 1)).toInt), mI ((xs (n + 2)).toInt)]) (st := []) (as := fun ad => [.ref (ad 0), mI ((xs (n + 1)).toInt), mI ((xs (n + 2)).toInt)]) (c_H_hardness h1) rfl yw_X11_hardness yv_X11_hardness ml_RL_73 o_X_0 rfl rfl ⟨rfl, rfl⟩ ⟨Nat.le_of_ble_eq_true rfl, Nat.le_of_ble_eq_true rfl⟩ rfl rfl (Nat.le_of_ble_eq_true rfl) dL_law_604 ?_
  refine g_aload_n X 2 dL_law_607 rfl rfl ?_
  refine g_aload_n X 0 dL_law_608 rfl rfl ?_
  refine g_iload_n X 3 dL_law_609 rfl rfl ?_
  refine g_iconst X dL_law_610 ?_
  refine g_iadd X dL_law_611 ?_
  refine g_sld (n := n + 1) X (by rw [show ((n : Int) + 1) = ((n + 1 : Nat) : Int) by omega]; exact w32_nat (by omega)) (by omega) dL_law_612 ?_
  refine g_aload_n X 0 dL_law_613 rfl rfl ?_
  refine g_iload_n X 3 dL_law_614 rfl rfl ?_
  refine g_iconst X dL_law_615 ?_
  refine g_iadd X dL_law_616 ?_
  refine g_sld (n := n + 2) X (by rw [show ((n : Int) + 2) = ((n + 2 : Nat) : Int) by omega]; exact w32_nat (by omega)) (by omega) dL_law_617 ?_
  refine g_callMI X (As := [mI ((xs (n + 1)).toInt), mI ((xs (n + 2)).toInt)]) (st := [mI q1.1]) (as := fun ad => [.ref (ad 0), mI ((xs (n + 1)).toInt), mI ((xs (n + 2)).toInt)]) (c_M_hardness h2) rfl yw_X12_hardness yv_X12_hardness ml_RL_76 o_M_0 rfl rfl ⟨rfl, rfl⟩ ⟨Nat.le_of_ble_eq_true rfl, Nat.le_of_ble_eq_true rfl⟩ rfl rfl (Nat.le_of_ble_eq_true rfl) dL_law_618 ?_
  refine g_icmp_eq (tgt := 931) X dL_law_621 (by decide) (fun _ => hk _ _ hI) (fun hh => absurd he hh)
set_option maxRecDepth 100000 in
set_option maxHeartbeats 4000000 in
theorem case_fair {p : Program} {l : Launch} {e : Env} {s : State} {m : MethodId} {below : List Frame} {meth : Method} {c : Code} {D : va_G} {cy : Nat → ClassId} {ax am : Nat → Nat} {b L : Nat} {xs : Nat → Int32} (X : LX p s m meth c D cy ax am b L xs) (hL : L ≤ 3072) {F : Nat} {INV : St → St → Prop} (hst : st_fair F INV) {n : Nat} (hn : n + 6 ≤ L) (hk : ∀ sx sm, INV sx sm → GL p l e s m below meth c D cy ax am b 931 [(0, .ref b), (1, .ref (ax 0)), (2, .ref (am 0)), (3, mI (n : Int))] [] sx sm) {sx sm : St} (hI : INV sx sm) : GL p l e s m below meth c D cy ax am b 626 [(0, .ref b), (1, .ref (ax 0)), (2, .ref (am 0)), (3, mI (n : Int))] [] sx sm := by
  obtain ⟨q1, q2, h1, h2, he, hI⟩ := hst sx sm hI ((xs (n + 1)).toInt) ((xs (n + 2)).toInt) (i32_of _) (i32_of _)
  refine g_aload_n X 1 dL_law_626 rfl rfl ?_
  refine g_aload_n X 0 dL_law_627 rfl rfl ?_
  refine g_iload_n X 3 dL_law_628 rfl rfl ?_
  refine g_iconst X dL_law_629 ?_
  refine g_iadd X dL_law_630 ?_
  refine g_sld (n := n + 1) X (by rw [show ((n : Int) + 1) = ((n + 1 : Nat) : Int) by omega]; exact w32_nat (by omega)) (by omega) dL_law_631 ?_
  refine g_aload_n X 0 dL_law_632 rfl rfl ?_
  refine g_iload_n X 3 dL_law_633 rfl rfl ?_
  refine g_iconst X dL_law_634 ?_
  refine g_iadd X dL_law_635 ?_
  refine g_sld (n := n + 2) X (by rw [show ((n : Int) + 2) = ((n + 2 : Nat) : Int) by omega]; exact w32_nat (by omega)) (by omega) dL_law_636 ?_
  refine g_callXI X (As := [mI ((xs (n + 1)).toInt), mI ((xs (n + 2)).toInt)]) (st := []) (as := fun ad => [.ref (ad 0), mI ((xs (n + 1)).toInt), mI ((xs (n + 2)).toInt)]) (c_H_fair h1) rfl yw_X11_fair yv_X11_fair ml_RL_77 o_X_0 rfl rfl ⟨rfl, rfl⟩ ⟨Nat.le_of_ble_eq_true rfl, Nat.le_of_ble_eq_true rfl⟩ rfl rfl (Nat.le_of_ble_eq_true rfl) dL_law_637 ?_
  refine g_aload_n X 2 dL_law_640 rfl rfl ?_
  refine g_aload_n X 0 dL_law_641 rfl rfl ?_
  refine g_iload_n X 3 dL_law_642 rfl rfl ?_
  refine g_iconst X dL_law_643 ?_
  refine g_iadd X dL_law_644 ?_
  refine g_sld (n := n + 1) X (by rw [show ((n : Int) + 1) = ((n + 1 : Nat) : Int) by omega]; exact w32_nat (by omega)) (by omega) dL_law_645 ?_
  refine g_aload_n X 0 dL_law_646 rfl rfl ?_
  refine g_iload_n X 3 dL_law_647 rfl rfl ?_
  refine g_iconst X dL_law_648 ?_
  refine g_iadd X dL_law_649 ?_
  refine g_sld (n := n + 2) X (by rw [show ((n : Int) + 2) = ((n + 2 : Nat) : Int) by omega]; exact w32_nat (by omega)) (by omega) dL_law_650 ?_
  refine g_callMI X (As := [mI ((xs (n + 1)).toInt), mI ((xs (n + 2)).toInt)]) (st := [mI q1.1]) (as := fun ad => [.ref (ad 0), mI ((xs (n + 1)).toInt), mI ((xs (n + 2)).toInt)]) (c_M_fair h2) rfl yw_X12_fair yv_X12_fair ml_RL_80 o_M_0 rfl rfl ⟨rfl, rfl⟩ ⟨Nat.le_of_ble_eq_true rfl, Nat.le_of_ble_eq_true rfl⟩ rfl rfl (Nat.le_of_ble_eq_true rfl) dL_law_651 ?_
  refine g_icmp_eq (tgt := 931) X dL_law_654 (by decide) (fun _ => hk _ _ hI) (fun hh => absurd he hh)
set_option maxRecDepth 100000 in
set_option maxHeartbeats 4000000 in
theorem case_upper {p : Program} {l : Launch} {e : Env} {s : State} {m : MethodId} {below : List Frame} {meth : Method} {c : Code} {D : va_G} {cy : Nat → ClassId} {ax am : Nat → Nat} {b L : Nat} {xs : Nat → Int32} (X : LX p s m meth c D cy ax am b L xs) (hL : L ≤ 3072) {F : Nat} {INV : St → St → Prop} (hst : st_upper F INV) {n : Nat} (hn : n + 6 ≤ L) (hk : ∀ sx sm, INV sx sm → GL p l e s m below meth c D cy ax am b 931 [(0, .ref b), (1, .ref (ax 0)), (2, .ref (am 0)), (3, mI (n : Int))] [] sx sm) {sx sm : St} (hI : INV sx sm) : GL p l e s m below meth c D cy ax am b 659 [(0, .ref b), (1, .ref (ax 0)), (2, .ref (am 0)), (3, mI (n : Int))] [] sx sm := by
  obtain ⟨q1, q2, h1, h2, he, hI⟩ := hst sx sm hI 
  refine g_aload_n X 1 dL_law_659 rfl rfl ?_
  refine g_callXL X (As := []) (st := []) (as := fun ad => [.ref (ad 0)]) (c_H_upper h1) rfl yw_X11_upper yv_X11_upper ml_RL_81 o_X_0 rfl rfl ⟨rfl, rfl⟩ ⟨Nat.le_of_ble_eq_true rfl, Nat.le_of_ble_eq_true rfl⟩ rfl rfl (Nat.le_of_ble_eq_true rfl) dL_law_660 ?_
  refine g_aload_n X 2 dL_law_663 rfl rfl ?_
  refine g_callML X (As := []) (st := [mL q1.1]) (as := fun ad => [.ref (ad 0)]) (c_M_upper h2) rfl yw_X12_upper yv_X12_upper ml_RL_85 o_M_0 rfl rfl ⟨rfl, rfl⟩ ⟨Nat.le_of_ble_eq_true rfl, Nat.le_of_ble_eq_true rfl⟩ rfl rfl (Nat.le_of_ble_eq_true rfl) dL_law_664 ?_
  refine g_lc_eq (tgt := 931) X dL_law_667 dL_law_668 (by decide) (fun _ => hk _ _ hI) (fun hh => absurd he hh)
set_option maxRecDepth 100000 in
set_option maxHeartbeats 4000000 in
theorem case_lower {p : Program} {l : Launch} {e : Env} {s : State} {m : MethodId} {below : List Frame} {meth : Method} {c : Code} {D : va_G} {cy : Nat → ClassId} {ax am : Nat → Nat} {b L : Nat} {xs : Nat → Int32} (X : LX p s m meth c D cy ax am b L xs) (hL : L ≤ 3072) {F : Nat} {INV : St → St → Prop} (hst : st_lower F INV) {n : Nat} (hn : n + 6 ≤ L) (hk : ∀ sx sm, INV sx sm → GL p l e s m below meth c D cy ax am b 931 [(0, .ref b), (1, .ref (ax 0)), (2, .ref (am 0)), (3, mI (n : Int))] [] sx sm) {sx sm : St} (hI : INV sx sm) : GL p l e s m below meth c D cy ax am b 673 [(0, .ref b), (1, .ref (ax 0)), (2, .ref (am 0)), (3, mI (n : Int))] [] sx sm := by
  obtain ⟨q1, q2, h1, h2, he, hI⟩ := hst sx sm hI 
  refine g_aload_n X 1 dL_law_673 rfl rfl ?_
  refine g_callXL X (As := []) (st := []) (as := fun ad => [.ref (ad 0)]) (c_H_lower h1) rfl yw_X11_lower yv_X11_lower ml_RL_86 o_X_0 rfl rfl ⟨rfl, rfl⟩ ⟨Nat.le_of_ble_eq_true rfl, Nat.le_of_ble_eq_true rfl⟩ rfl rfl (Nat.le_of_ble_eq_true rfl) dL_law_674 ?_
  refine g_aload_n X 2 dL_law_677 rfl rfl ?_
  refine g_callML X (As := []) (st := [mL q1.1]) (as := fun ad => [.ref (ad 0)]) (c_M_lower h2) rfl yw_X12_lower yv_X12_lower ml_RL_89 o_M_0 rfl rfl ⟨rfl, rfl⟩ ⟨Nat.le_of_ble_eq_true rfl, Nat.le_of_ble_eq_true rfl⟩ rfl rfl (Nat.le_of_ble_eq_true rfl) dL_law_678 ?_
  refine g_lc_eq (tgt := 931) X dL_law_681 dL_law_682 (by decide) (fun _ => hk _ _ hI) (fun hh => absurd he hh)
set_option maxRecDepth 100000 in
set_option maxHeartbeats 4000000 in
theorem case_feed {p : Program} {l : Launch} {e : Env} {s : State} {m : MethodId} {below : List Frame} {meth : Method} {c : Code} {D : va_G} {cy : Nat → ClassId} {ax am : Nat → Nat} {b L : Nat} {xs : Nat → Int32} (X : LX p s m meth c D cy ax am b L xs) (hL : L ≤ 3072) {F : Nat} {INV : St → St → Prop} (hst : st_feed F INV) {n : Nat} (hn : n + 6 ≤ L) (hk : ∀ sx sm, INV sx sm → GL p l e s m below meth c D cy ax am b 931 [(0, .ref b), (1, .ref (ax 0)), (2, .ref (am 0)), (3, mI (n : Int))] [] sx sm) {sx sm : St} (hI : INV sx sm) : GL p l e s m below meth c D cy ax am b 687 [(0, .ref b), (1, .ref (ax 0)), (2, .ref (am 0)), (3, mI (n : Int))] [] sx sm := by
  obtain ⟨q1, q2, h1, h2, he, hI⟩ := hst sx sm hI ((xs (n + 1)).toInt) ((xs (n + 2)).toInt) ((xs (n + 3)).toInt) ((xs (n + 4)).toInt) ((xs (n + 5)).toInt) (i32_of _) (i32_of _) (i32_of _) (i32_of _) (i32_of _)
  refine g_aload_n X 1 dL_law_687 rfl rfl ?_
  refine g_aload_n X 0 dL_law_688 rfl rfl ?_
  refine g_iload_n X 3 dL_law_689 rfl rfl ?_
  refine g_iconst X dL_law_690 ?_
  refine g_iadd X dL_law_691 ?_
  refine g_sld (n := n + 1) X (by rw [show ((n : Int) + 1) = ((n + 1 : Nat) : Int) by omega]; exact w32_nat (by omega)) (by omega) dL_law_692 ?_
  refine g_aload_n X 0 dL_law_693 rfl rfl ?_
  refine g_iload_n X 3 dL_law_694 rfl rfl ?_
  refine g_iconst X dL_law_695 ?_
  refine g_iadd X dL_law_696 ?_
  refine g_sld (n := n + 2) X (by rw [show ((n : Int) + 2) = ((n + 2 : Nat) : Int) by omega]; exact w32_nat (by omega)) (by omega) dL_law_697 ?_
  refine g_aload_n X 0 dL_law_698 rfl rfl ?_
  refine g_iload_n X 3 dL_law_699 rfl rfl ?_
  refine g_iconst X dL_law_700 ?_
  refine g_iadd X dL_law_701 ?_
  refine g_sld (n := n + 3) X (by rw [show ((n : Int) + 3) = ((n + 3 : Nat) : Int) by omega]; exact w32_nat (by omega)) (by omega) dL_law_702 ?_
  refine g_aload_n X 0 dL_law_703 rfl rfl ?_
  refine g_iload_n X 3 dL_law_704 rfl rfl ?_
  refine g_iconst X dL_law_705 ?_
  refine g_iadd X dL_law_706 ?_
  refine g_sld (n := n + 4) X (by rw [show ((n : Int) + 4) = ((n + 4 : Nat) : Int) by omega]; exact w32_nat (by omega)) (by omega) dL_law_707 ?_
  refine g_aload_n X 0 dL_law_708 rfl rfl ?_
  refine g_iload_n X 3 dL_law_709 rfl rfl ?_
  refine g_iconst X dL_law_710 ?_
  refine g_iadd X dL_law_711 ?_
  refine g_sld (n := n + 5) X (by rw [show ((n : Int) + 5) = ((n + 5 : Nat) : Int) by omega]; exact w32_nat (by omega)) (by omega) dL_law_712 ?_
  refine g_callXI X (As := [mI ((xs (n + 1)).toInt), mI ((xs (n + 2)).toInt), mI ((xs (n + 3)).toInt), mI ((xs (n + 4)).toInt), mI ((xs (n + 5)).toInt)]) (st := []) (as := fun ad => [.ref (ad 0), mI ((xs (n + 1)).toInt), mI ((xs (n + 2)).toInt), mI ((xs (n + 3)).toInt), mI ((xs (n + 4)).toInt), mI ((xs (n + 5)).toInt)]) (c_H_feed h1) rfl yw_X11_feed yv_X11_feed ml_RL_90 o_X_0 rfl rfl ⟨rfl, rfl⟩ ⟨Nat.le_of_ble_eq_true rfl, Nat.le_of_ble_eq_true rfl⟩ rfl rfl (Nat.le_of_ble_eq_true rfl) dL_law_713 ?_
  refine g_aload_n X 2 dL_law_716 rfl rfl ?_
  refine g_aload_n X 0 dL_law_717 rfl rfl ?_
  refine g_iload_n X 3 dL_law_718 rfl rfl ?_
  refine g_iconst X dL_law_719 ?_
  refine g_iadd X dL_law_720 ?_
  refine g_sld (n := n + 1) X (by rw [show ((n : Int) + 1) = ((n + 1 : Nat) : Int) by omega]; exact w32_nat (by omega)) (by omega) dL_law_721 ?_
  refine g_aload_n X 0 dL_law_722 rfl rfl ?_
  refine g_iload_n X 3 dL_law_723 rfl rfl ?_
  refine g_iconst X dL_law_724 ?_
  refine g_iadd X dL_law_725 ?_
  refine g_sld (n := n + 2) X (by rw [show ((n : Int) + 2) = ((n + 2 : Nat) : Int) by omega]; exact w32_nat (by omega)) (by omega) dL_law_726 ?_
  refine g_aload_n X 0 dL_law_727 rfl rfl ?_
  refine g_iload_n X 3 dL_law_728 rfl rfl ?_
  refine g_iconst X dL_law_729 ?_
  refine g_iadd X dL_law_730 ?_
  refine g_sld (n := n + 3) X (by rw [show ((n : Int) + 3) = ((n + 3 : Nat) : Int) by omega]; exact w32_nat (by omega)) (by omega) dL_law_731 ?_
  refine g_aload_n X 0 dL_law_732 rfl rfl ?_
  refine g_iload_n X 3 dL_law_733 rfl rfl ?_
  refine g_iconst X dL_law_734 ?_
  refine g_iadd X dL_law_735 ?_
  refine g_sld (n := n + 4) X (by rw [show ((n : Int) + 4) = ((n + 4 : Nat) : Int) by omega]; exact w32_nat (by omega)) (by omega) dL_law_736 ?_
  refine g_aload_n X 0 dL_law_737 rfl rfl ?_
  refine g_iload_n X 3 dL_law_738 rfl rfl ?_
  refine g_iconst X dL_law_739 ?_
  refine g_iadd X dL_law_740 ?_
  refine g_sld (n := n + 5) X (by rw [show ((n : Int) + 5) = ((n + 5 : Nat) : Int) by omega]; exact w32_nat (by omega)) (by omega) dL_law_741 ?_
  refine g_callMI X (As := [mI ((xs (n + 1)).toInt), mI ((xs (n + 2)).toInt), mI ((xs (n + 3)).toInt), mI ((xs (n + 4)).toInt), mI ((xs (n + 5)).toInt)]) (st := [mI q1.1]) (as := fun ad => [.ref (ad 0), mI ((xs (n + 1)).toInt), mI ((xs (n + 2)).toInt), mI ((xs (n + 3)).toInt), mI ((xs (n + 4)).toInt), mI ((xs (n + 5)).toInt)]) (c_M_feed h2) rfl yw_X12_feed yv_X12_feed ml_RL_94 o_M_0 rfl rfl ⟨rfl, rfl⟩ ⟨Nat.le_of_ble_eq_true rfl, Nat.le_of_ble_eq_true rfl⟩ rfl rfl (Nat.le_of_ble_eq_true rfl) dL_law_742 ?_
  refine g_icmp_eq (tgt := 931) X dL_law_745 (by decide) (fun _ => hk _ _ hI) (fun hh => absurd he hh)
set_option maxRecDepth 100000 in
set_option maxHeartbeats 4000000 in
theorem case_prizes {p : Program} {l : Launch} {e : Env} {s : State} {m : MethodId} {below : List Frame} {meth : Method} {c : Code} {D : va_G} {cy : Nat → ClassId} {ax am : Nat → Nat} {b L : Nat} {xs : Nat → Int32} (X : LX p s m meth c D cy ax am b L xs) (hL : L ≤ 3072) {F : Nat} {INV : St → St → Prop} (hst : st_prizes F INV) {n : Nat} (hn : n + 6 ≤ L) (hk : ∀ sx sm, INV sx sm → GL p l e s m below meth c D cy ax am b 931 [(0, .ref b), (1, .ref (ax 0)), (2, .ref (am 0)), (3, mI (n : Int))] [] sx sm) {sx sm : St} (hI : INV sx sm) : GL p l e s m below meth c D cy ax am b 750 [(0, .ref b), (1, .ref (ax 0)), (2, .ref (am 0)), (3, mI (n : Int))] [] sx sm := by
  obtain ⟨q1, q2, h1, h2, he, hI⟩ := hst sx sm hI ((xs (n + 1)).toInt) (i32_of _)
  refine g_aload_n X 1 dL_law_750 rfl rfl ?_
  refine g_aload_n X 0 dL_law_751 rfl rfl ?_
  refine g_iload_n X 3 dL_law_752 rfl rfl ?_
  refine g_iconst X dL_law_753 ?_
  refine g_iadd X dL_law_754 ?_
  refine g_sld (n := n + 1) X (by rw [show ((n : Int) + 1) = ((n + 1 : Nat) : Int) by omega]; exact w32_nat (by omega)) (by omega) dL_law_755 ?_
  refine g_callXI X (As := [mI ((xs (n + 1)).toInt)]) (st := []) (as := fun ad => [.ref (ad 0), mI ((xs (n + 1)).toInt)]) (c_H_prizes h1) rfl yw_X11_prizes yv_X11_prizes ml_RL_95 o_X_0 rfl rfl ⟨rfl, rfl⟩ ⟨Nat.le_of_ble_eq_true rfl, Nat.le_of_ble_eq_true rfl⟩ rfl rfl (Nat.le_of_ble_eq_true rfl) dL_law_756 ?_
  refine g_aload_n X 2 dL_law_759 rfl rfl ?_
  refine g_aload_n X 0 dL_law_760 rfl rfl ?_
  refine g_iload_n X 3 dL_law_761 rfl rfl ?_
  refine g_iconst X dL_law_762 ?_
  refine g_iadd X dL_law_763 ?_
  refine g_sld (n := n + 1) X (by rw [show ((n : Int) + 1) = ((n + 1 : Nat) : Int) by omega]; exact w32_nat (by omega)) (by omega) dL_law_764 ?_
  refine g_callMI X (As := [mI ((xs (n + 1)).toInt)]) (st := [mI q1.1]) (as := fun ad => [.ref (ad 0), mI ((xs (n + 1)).toInt)]) (c_M_prizes h2) rfl yw_X12_prizes yv_X12_prizes ml_RL_98 o_M_0 rfl rfl ⟨rfl, rfl⟩ ⟨Nat.le_of_ble_eq_true rfl, Nat.le_of_ble_eq_true rfl⟩ rfl rfl (Nat.le_of_ble_eq_true rfl) dL_law_765 ?_
  refine g_icmp_eq (tgt := 931) X dL_law_768 (by decide) (fun _ => hk _ _ hI) (fun hh => absurd he hh)
set_option maxRecDepth 100000 in
set_option maxHeartbeats 4000000 in
theorem case_fault {p : Program} {l : Launch} {e : Env} {s : State} {m : MethodId} {below : List Frame} {meth : Method} {c : Code} {D : va_G} {cy : Nat → ClassId} {ax am : Nat → Nat} {b L : Nat} {xs : Nat → Int32} (X : LX p s m meth c D cy ax am b L xs) (hL : L ≤ 3072) {F : Nat} {INV : St → St → Prop} (hst : st_fault F INV) {n : Nat} (hn : n + 6 ≤ L) (hk : ∀ sx sm, INV sx sm → GL p l e s m below meth c D cy ax am b 931 [(0, .ref b), (1, .ref (ax 0)), (2, .ref (am 0)), (3, mI (n : Int))] [] sx sm) {sx sm : St} (hI : INV sx sm) : GL p l e s m below meth c D cy ax am b 773 [(0, .ref b), (1, .ref (ax 0)), (2, .ref (am 0)), (3, mI (n : Int))] [] sx sm := by
  obtain ⟨q1, q2, h1, h2, he, hI⟩ := hst sx sm hI ((xs (n + 1)).toInt) (i32_of _)
  refine g_aload_n X 1 dL_law_773 rfl rfl ?_
  refine g_aload_n X 0 dL_law_774 rfl rfl ?_
  refine g_iload_n X 3 dL_law_775 rfl rfl ?_
  refine g_iconst X dL_law_776 ?_
  refine g_iadd X dL_law_777 ?_
  refine g_sld (n := n + 1) X (by rw [show ((n : Int) + 1) = ((n + 1 : Nat) : Int) by omega]; exact w32_nat (by omega)) (by omega) dL_law_778 ?_
  refine g_callXI X (As := [mI ((xs (n + 1)).toInt)]) (st := []) (as := fun ad => [.ref (ad 0), mI ((xs (n + 1)).toInt)]) (c_H_fault h1) rfl yw_X11_fault yv_X11_fault ml_RL_99 o_X_0 rfl rfl ⟨rfl, rfl⟩ ⟨Nat.le_of_ble_eq_true rfl, Nat.le_of_ble_eq_true rfl⟩ rfl rfl (Nat.le_of_ble_eq_true rfl) dL_law_779 ?_
  refine g_aload_n X 2 dL_law_782 rfl rfl ?_
  refine g_aload_n X 0 dL_law_783 rfl rfl ?_
  refine g_iload_n X 3 dL_law_784 rfl rfl ?_
  refine g_iconst X dL_law_785 ?_
  refine g_iadd X dL_law_786 ?_
  refine g_sld (n := n + 1) X (by rw [show ((n : Int) + 1) = ((n + 1 : Nat) : Int) by omega]; exact w32_nat (by omega)) (by omega) dL_law_787 ?_
  refine g_callMI X (As := [mI ((xs (n + 1)).toInt)]) (st := [mI q1.1]) (as := fun ad => [.ref (ad 0), mI ((xs (n + 1)).toInt)]) (c_M_fault h2) rfl yw_X12_fault yv_X12_fault ml_RL_102 o_M_0 rfl rfl ⟨rfl, rfl⟩ ⟨Nat.le_of_ble_eq_true rfl, Nat.le_of_ble_eq_true rfl⟩ rfl rfl (Nat.le_of_ble_eq_true rfl) dL_law_788 ?_
  refine g_icmp_eq (tgt := 931) X dL_law_791 (by decide) (fun _ => hk _ _ hI) (fun hh => absurd he hh)
set_option maxRecDepth 100000 in
set_option maxHeartbeats 4000000 in
theorem case_given {p : Program} {l : Launch} {e : Env} {s : State} {m : MethodId} {below : List Frame} {meth : Method} {c : Code} {D : va_G} {cy : Nat → ClassId} {ax am : Nat → Nat} {b L : Nat} {xs : Nat → Int32} (X : LX p s m meth c D cy ax am b L xs) (hL : L ≤ 3072) {F : Nat} {INV : St → St → Prop} (hst : st_given F INV) {n : Nat} (hn : n + 6 ≤ L) (hk : ∀ sx sm, INV sx sm → GL p l e s m below meth c D cy ax am b 931 [(0, .ref b), (1, .ref (ax 0)), (2, .ref (am 0)), (3, mI (n : Int))] [] sx sm) {sx sm : St} (hI : INV sx sm) : GL p l e s m below meth c D cy ax am b 796 [(0, .ref b), (1, .ref (ax 0)), (2, .ref (am 0)), (3, mI (n : Int))] [] sx sm := by
  obtain ⟨q1, q2, h1, h2, he, hI⟩ := hst sx sm hI ((xs (n + 1)).toInt) ((xs (n + 2)).toInt) ((xs (n + 3)).toInt) (i32_of _) (i32_of _) (i32_of _)
  refine g_aload_n X 1 dL_law_796 rfl rfl ?_
  refine g_aload_n X 0 dL_law_797 rfl rfl ?_
  refine g_iload_n X 3 dL_law_798 rfl rfl ?_
  refine g_iconst X dL_law_799 ?_
  refine g_iadd X dL_law_800 ?_
  refine g_sld (n := n + 1) X (by rw [show ((n : Int) + 1) = ((n + 1 : Nat) : Int) by omega]; exact w32_nat (by omega)) (by omega) dL_law_801 ?_
  refine g_aload_n X 0 dL_law_802 rfl rfl ?_
  refine g_iload_n X 3 dL_law_803 rfl rfl ?_
  refine g_iconst X dL_law_804 ?_
  refine g_iadd X dL_law_805 ?_
  refine g_sld (n := n + 2) X (by rw [show ((n : Int) + 2) = ((n + 2 : Nat) : Int) by omega]; exact w32_nat (by omega)) (by omega) dL_law_806 ?_
  refine g_aload_n X 0 dL_law_807 rfl rfl ?_
  refine g_iload_n X 3 dL_law_808 rfl rfl ?_
  refine g_iconst X dL_law_809 ?_
  refine g_iadd X dL_law_810 ?_
  refine g_sld (n := n + 3) X (by rw [show ((n : Int) + 3) = ((n + 3 : Nat) : Int) by omega]; exact w32_nat (by omega)) (by omega) dL_law_811 ?_
  refine g_callXI X (As := [mI ((xs (n + 1)).toInt), mI ((xs (n + 2)).toInt), mI ((xs (n + 3)).toInt)]) (st := []) (as := fun ad => [.ref (ad 0), mI ((xs (n + 1)).toInt), mI ((xs (n + 2)).toInt), mI ((xs (n + 3)).toInt)]) (c_H_given h1) rfl yw_X11_given yv_X11_given ml_RL_103 o_X_0 rfl rfl ⟨rfl, rfl⟩ ⟨Nat.le_of_ble_eq_true rfl, Nat.le_of_ble_eq_true rfl⟩ rfl rfl (Nat.le_of_ble_eq_true rfl) dL_law_812 ?_
  refine g_aload_n X 2 dL_law_815 rfl rfl ?_
  refine g_aload_n X 0 dL_law_816 rfl rfl ?_
  refine g_iload_n X 3 dL_law_817 rfl rfl ?_
  refine g_iconst X dL_law_818 ?_
  refine g_iadd X dL_law_819 ?_
  refine g_sld (n := n + 1) X (by rw [show ((n : Int) + 1) = ((n + 1 : Nat) : Int) by omega]; exact w32_nat (by omega)) (by omega) dL_law_820 ?_
  refine g_aload_n X 0 dL_law_821 rfl rfl ?_
  refine g_iload_n X 3 dL_law_822 rfl rfl ?_
  refine g_iconst X dL_law_823 ?_
  refine g_iadd X dL_law_824 ?_
  refine g_sld (n := n + 2) X (by rw [show ((n : Int) + 2) = ((n + 2 : Nat) : Int) by omega]; exact w32_nat (by omega)) (by omega) dL_law_825 ?_
  refine g_aload_n X 0 dL_law_826 rfl rfl ?_
  refine g_iload_n X 3 dL_law_827 rfl rfl ?_
  refine g_iconst X dL_law_828 ?_
  refine g_iadd X dL_law_829 ?_
  refine g_sld (n := n + 3) X (by rw [show ((n : Int) + 3) = ((n + 3 : Nat) : Int) by omega]; exact w32_nat (by omega)) (by omega) dL_law_830 ?_
  refine g_callMI X (As := [mI ((xs (n + 1)).toInt), mI ((xs (n + 2)).toInt), mI ((xs (n + 3)).toInt)]) (st := [mI q1.1]) (as := fun ad => [.ref (ad 0), mI ((xs (n + 1)).toInt), mI ((xs (n + 2)).toInt), mI ((xs (n + 3)).toInt)]) (c_M_given h2) rfl yw_X12_given yv_X12_given ml_RL_106 o_M_0 rfl rfl ⟨rfl, rfl⟩ ⟨Nat.le_of_ble_eq_true rfl, Nat.le_of_ble_eq_true rfl⟩ rfl rfl (Nat.le_of_ble_eq_true rfl) dL_law_831 ?_
  refine g_icmp_eq (tgt := 931) X dL_law_834 (by decide) (fun _ => hk _ _ hI) (fun hh => absurd he hh)
set_option maxRecDepth 100000 in
set_option maxHeartbeats 4000000 in
theorem case_hall {p : Program} {l : Launch} {e : Env} {s : State} {m : MethodId} {below : List Frame} {meth : Method} {c : Code} {D : va_G} {cy : Nat → ClassId} {ax am : Nat → Nat} {b L : Nat} {xs : Nat → Int32} (X : LX p s m meth c D cy ax am b L xs) (hL : L ≤ 3072) {F : Nat} {INV : St → St → Prop} (hst : st_hall F INV) {n : Nat} (hn : n + 6 ≤ L) (hk : ∀ sx sm, INV sx sm → GL p l e s m below meth c D cy ax am b 931 [(0, .ref b), (1, .ref (ax 0)), (2, .ref (am 0)), (3, mI (n : Int))] [] sx sm) {sx sm : St} (hI : INV sx sm) : GL p l e s m below meth c D cy ax am b 839 [(0, .ref b), (1, .ref (ax 0)), (2, .ref (am 0)), (3, mI (n : Int))] [] sx sm := by
  obtain ⟨q1, q2, h1, h2, he, hI⟩ := hst sx sm hI ((xs (n + 1)).toInt) ((xs (n + 2)).toInt) ((xs (n + 3)).toInt) (i32_of _) (i32_of _) (i32_of _)
  refine g_aload_n X 1 dL_law_839 rfl rfl ?_
  refine g_aload_n X 0 dL_law_840 rfl rfl ?_
  refine g_iload_n X 3 dL_law_841 rfl rfl ?_
  refine g_iconst X dL_law_842 ?_
  refine g_iadd X dL_law_843 ?_
  refine g_sld (n := n + 1) X (by rw [show ((n : Int) + 1) = ((n + 1 : Nat) : Int) by omega]; exact w32_nat (by omega)) (by omega) dL_law_844 ?_
  refine g_aload_n X 0 dL_law_845 rfl rfl ?_
  refine g_iload_n X 3 dL_law_846 rfl rfl ?_
  refine g_iconst X dL_law_847 ?_
  refine g_iadd X dL_law_848 ?_
  refine g_sld (n := n + 2) X (by rw [show ((n : Int) + 2) = ((n + 2 : Nat) : Int) by omega]; exact w32_nat (by omega)) (by omega) dL_law_849 ?_
  refine g_aload_n X 0 dL_law_850 rfl rfl ?_
  refine g_iload_n X 3 dL_law_851 rfl rfl ?_
  refine g_iconst X dL_law_852 ?_
  refine g_iadd X dL_law_853 ?_
  refine g_sld (n := n + 3) X (by rw [show ((n : Int) + 3) = ((n + 3 : Nat) : Int) by omega]; exact w32_nat (by omega)) (by omega) dL_law_854 ?_
  refine g_callXI X (As := [mI ((xs (n + 1)).toInt), mI ((xs (n + 2)).toInt), mI ((xs (n + 3)).toInt)]) (st := []) (as := fun ad => [.ref (ad 0), mI ((xs (n + 1)).toInt), mI ((xs (n + 2)).toInt), mI ((xs (n + 3)).toInt)]) (c_H_hall h1) rfl yw_X11_hall yv_X11_hall ml_RL_107 o_X_0 rfl rfl ⟨rfl, rfl⟩ ⟨Nat.le_of_ble_eq_true rfl, Nat.le_of_ble_eq_true rfl⟩ rfl rfl (Nat.le_of_ble_eq_true rfl) dL_law_855 ?_
  refine g_aload_n X 2 dL_law_858 rfl rfl ?_
  refine g_aload_n X 0 dL_law_859 rfl rfl ?_
  refine g_iload_n X 3 dL_law_860 rfl rfl ?_
  refine g_iconst X dL_law_861 ?_
  refine g_iadd X dL_law_862 ?_
  refine g_sld (n := n + 1) X (by rw [show ((n : Int) + 1) = ((n + 1 : Nat) : Int) by omega]; exact w32_nat (by omega)) (by omega) dL_law_863 ?_
  refine g_aload_n X 0 dL_law_864 rfl rfl ?_
  refine g_iload_n X 3 dL_law_865 rfl rfl ?_
  refine g_iconst X dL_law_866 ?_
  refine g_iadd X dL_law_867 ?_
  refine g_sld (n := n + 2) X (by rw [show ((n : Int) + 2) = ((n + 2 : Nat) : Int) by omega]; exact w32_nat (by omega)) (by omega) dL_law_868 ?_
  refine g_aload_n X 0 dL_law_869 rfl rfl ?_
  refine g_iload_n X 3 dL_law_870 rfl rfl ?_
  refine g_iconst X dL_law_871 ?_
  refine g_iadd X dL_law_872 ?_
  refine g_sld (n := n + 3) X (by rw [show ((n : Int) + 3) = ((n + 3 : Nat) : Int) by omega]; exact w32_nat (by omega)) (by omega) dL_law_873 ?_
  refine g_callMI X (As := [mI ((xs (n + 1)).toInt), mI ((xs (n + 2)).toInt), mI ((xs (n + 3)).toInt)]) (st := [mI q1.1]) (as := fun ad => [.ref (ad 0), mI ((xs (n + 1)).toInt), mI ((xs (n + 2)).toInt), mI ((xs (n + 3)).toInt)]) (c_M_hall h2) rfl yw_X12_hall yv_X12_hall ml_RL_110 o_M_0 rfl rfl ⟨rfl, rfl⟩ ⟨Nat.le_of_ble_eq_true rfl, Nat.le_of_ble_eq_true rfl⟩ rfl rfl (Nat.le_of_ble_eq_true rfl) dL_law_874 ?_
  refine g_icmp_eq (tgt := 931) X dL_law_877 (by decide) (fun _ => hk _ _ hI) (fun hh => absurd he hh)
set_option maxRecDepth 100000 in
set_option maxHeartbeats 4000000 in
theorem case_clear {p : Program} {l : Launch} {e : Env} {s : State} {m : MethodId} {below : List Frame} {meth : Method} {c : Code} {D : va_G} {cy : Nat → ClassId} {ax am : Nat → Nat} {b L : Nat} {xs : Nat → Int32} (X : LX p s m meth c D cy ax am b L xs) (hL : L ≤ 3072) {F : Nat} {INV : St → St → Prop} (hst : st_clear F INV) {n : Nat} (hn : n + 6 ≤ L) (hk : ∀ sx sm, INV sx sm → GL p l e s m below meth c D cy ax am b 931 [(0, .ref b), (1, .ref (ax 0)), (2, .ref (am 0)), (3, mI (n : Int))] [] sx sm) {sx sm : St} (hI : INV sx sm) : GL p l e s m below meth c D cy ax am b 882 [(0, .ref b), (1, .ref (ax 0)), (2, .ref (am 0)), (3, mI (n : Int))] [] sx sm := by
  obtain ⟨q1, q2, h1, h2, he, hI⟩ := hst sx sm hI 
  refine g_aload_n X 1 dL_law_882 rfl rfl ?_
  refine g_callXI X (As := []) (st := []) (as := fun ad => [.ref (ad 0)]) (c_H_clear h1) rfl yw_X11_clear yv_X11_clear ml_RL_111 o_X_0 rfl rfl ⟨rfl, rfl⟩ ⟨Nat.le_of_ble_eq_true rfl, Nat.le_of_ble_eq_true rfl⟩ rfl rfl (Nat.le_of_ble_eq_true rfl) dL_law_883 ?_
  refine g_aload_n X 2 dL_law_886 rfl rfl ?_
  refine g_callMI X (As := []) (st := [mI q1.1]) (as := fun ad => [.ref (ad 0)]) (c_M_clear h2) rfl yw_X12_clear yv_X12_clear ml_RL_115 o_M_0 rfl rfl ⟨rfl, rfl⟩ ⟨Nat.le_of_ble_eq_true rfl, Nat.le_of_ble_eq_true rfl⟩ rfl rfl (Nat.le_of_ble_eq_true rfl) dL_law_887 ?_
  refine g_icmp_eq (tgt := 931) X dL_law_890 (by decide) (fun _ => hk _ _ hI) (fun hh => absurd he hh)
set_option maxRecDepth 100000 in
set_option maxHeartbeats 4000000 in
theorem case_laid {p : Program} {l : Launch} {e : Env} {s : State} {m : MethodId} {below : List Frame} {meth : Method} {c : Code} {D : va_G} {cy : Nat → ClassId} {ax am : Nat → Nat} {b L : Nat} {xs : Nat → Int32} (X : LX p s m meth c D cy ax am b L xs) (hL : L ≤ 3072) {F : Nat} {INV : St → St → Prop} (hst : st_laid F INV) {n : Nat} (hn : n + 6 ≤ L) (hk : ∀ sx sm, INV sx sm → GL p l e s m below meth c D cy ax am b 931 [(0, .ref b), (1, .ref (ax 0)), (2, .ref (am 0)), (3, mI (n : Int))] [] sx sm) {sx sm : St} (hI : INV sx sm) : GL p l e s m below meth c D cy ax am b 895 [(0, .ref b), (1, .ref (ax 0)), (2, .ref (am 0)), (3, mI (n : Int))] [] sx sm := by
  obtain ⟨q1, q2, h1, h2, he, hI⟩ := hst sx sm hI ((xs (n + 1)).toInt) (i32_of _)
  refine g_aload_n X 1 dL_law_895 rfl rfl ?_
  refine g_aload_n X 0 dL_law_896 rfl rfl ?_
  refine g_iload_n X 3 dL_law_897 rfl rfl ?_
  refine g_iconst X dL_law_898 ?_
  refine g_iadd X dL_law_899 ?_
  refine g_sld (n := n + 1) X (by rw [show ((n : Int) + 1) = ((n + 1 : Nat) : Int) by omega]; exact w32_nat (by omega)) (by omega) dL_law_900 ?_
  refine g_callXI X (As := [mI ((xs (n + 1)).toInt)]) (st := []) (as := fun ad => [.ref (ad 0), mI ((xs (n + 1)).toInt)]) (c_H_laid h1) rfl yw_X11_laid yv_X11_laid ml_RL_116 o_X_0 rfl rfl ⟨rfl, rfl⟩ ⟨Nat.le_of_ble_eq_true rfl, Nat.le_of_ble_eq_true rfl⟩ rfl rfl (Nat.le_of_ble_eq_true rfl) dL_law_901 ?_
  refine g_aload_n X 2 dL_law_904 rfl rfl ?_
  refine g_aload_n X 0 dL_law_905 rfl rfl ?_
  refine g_iload_n X 3 dL_law_906 rfl rfl ?_
  refine g_iconst X dL_law_907 ?_
  refine g_iadd X dL_law_908 ?_
  refine g_sld (n := n + 1) X (by rw [show ((n : Int) + 1) = ((n + 1 : Nat) : Int) by omega]; exact w32_nat (by omega)) (by omega) dL_law_909 ?_
  refine g_callMI X (As := [mI ((xs (n + 1)).toInt)]) (st := [mI q1.1]) (as := fun ad => [.ref (ad 0), mI ((xs (n + 1)).toInt)]) (c_M_laid h2) rfl yw_X12_laid yv_X12_laid ml_RL_119 o_M_0 rfl rfl ⟨rfl, rfl⟩ ⟨Nat.le_of_ble_eq_true rfl, Nat.le_of_ble_eq_true rfl⟩ rfl rfl (Nat.le_of_ble_eq_true rfl) dL_law_910 ?_
  refine g_icmp_eq (tgt := 931) X dL_law_913 (by decide) (fun _ => hk _ _ hI) (fun hh => absurd he hh)
set_option maxRecDepth 100000 in
set_option maxHeartbeats 4000000 in
theorem case_tries {p : Program} {l : Launch} {e : Env} {s : State} {m : MethodId} {below : List Frame} {meth : Method} {c : Code} {D : va_G} {cy : Nat → ClassId} {ax am : Nat → Nat} {b L : Nat} {xs : Nat → Int32} (X : LX p s m meth c D cy ax am b L xs) (hL : L ≤ 3072) {F : Nat} {INV : St → St → Prop} (hst : st_tries F INV) {n : Nat} (hn : n + 6 ≤ L) (hk : ∀ sx sm, INV sx sm → GL p l e s m below meth c D cy ax am b 931 [(0, .ref b), (1, .ref (ax 0)), (2, .ref (am 0)), (3, mI (n : Int))] [] sx sm) {sx sm : St} (hI : INV sx sm) : GL p l e s m below meth c D cy ax am b 918 [(0, .ref b), (1, .ref (ax 0)), (2, .ref (am 0)), (3, mI (n : Int))] [] sx sm := by
  obtain ⟨q1, q2, h1, h2, he, hI⟩ := hst sx sm hI 
  refine g_aload_n X 1 dL_law_918 rfl rfl ?_
  refine g_callXI X (As := []) (st := []) (as := fun ad => [.ref (ad 0)]) (c_H_tries h1) rfl yw_X11_tries yv_X11_tries ml_RL_120 o_X_0 rfl rfl ⟨rfl, rfl⟩ ⟨Nat.le_of_ble_eq_true rfl, Nat.le_of_ble_eq_true rfl⟩ rfl rfl (Nat.le_of_ble_eq_true rfl) dL_law_919 ?_
  refine g_aload_n X 2 dL_law_922 rfl rfl ?_
  refine g_callMI X (As := []) (st := [mI q1.1]) (as := fun ad => [.ref (ad 0)]) (c_M_tries h2) rfl yw_X12_tries yv_X12_tries ml_RL_123 o_M_0 rfl rfl ⟨rfl, rfl⟩ ⟨Nat.le_of_ble_eq_true rfl, Nat.le_of_ble_eq_true rfl⟩ rfl rfl (Nat.le_of_ble_eq_true rfl) dL_law_923 ?_
  refine g_icmp_eq (tgt := 931) X dL_law_926 (by decide) (fun _ => hk _ _ hI) (fun hh => absurd he hh)
