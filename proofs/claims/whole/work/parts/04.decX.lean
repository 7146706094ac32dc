theorem dX0_init_0 : decode cX0_init 0 = .ok (.aload_n 0, 1) := by decide +kernel
theorem dX0_init_1 : decode cX0_init 1 = .ok (.invokespecial 3, 3) := by decide +kernel
theorem dX0_init_4 : decode cX0_init 4 = .ok (.aload_n 0, 1) := by decide +kernel
theorem dX0_init_5 : decode cX0_init 5 = .ok (.bipush 24, 2) := by decide +kernel
theorem dX0_init_7 : decode cX0_init 7 = .ok (.newarray .int, 2) := by decide +kernel
theorem dX0_init_9 : decode cX0_init 9 = .ok (.putfield 9, 3) := by decide +kernel
theorem dX0_init_12 : decode cX0_init 12 = .ok (.aload_n 0, 1) := by decide +kernel
theorem dX0_init_13 : decode cX0_init 13 = .ok (.bipush 24, 2) := by decide +kernel
theorem dX0_init_15 : decode cX0_init 15 = .ok (.newarray .int, 2) := by decide +kernel
theorem dX0_init_17 : decode cX0_init 17 = .ok (.putfield 15, 3) := by decide +kernel
theorem dX0_init_20 : decode cX0_init 20 = .ok (.aload_n 0, 1) := by decide +kernel
theorem dX0_init_21 : decode cX0_init 21 = .ok (.bipush 24, 2) := by decide +kernel
theorem dX0_init_23 : decode cX0_init 23 = .ok (.newarray .int, 2) := by decide +kernel
theorem dX0_init_25 : decode cX0_init 25 = .ok (.putfield 18, 3) := by decide +kernel
theorem dX0_init_28 : decode cX0_init 28 = .ok (.aload_n 0, 1) := by decide +kernel
theorem dX0_init_29 : decode cX0_init 29 = .ok (.bipush 24, 2) := by decide +kernel
theorem dX0_init_31 : decode cX0_init 31 = .ok (.newarray .int, 2) := by decide +kernel
theorem dX0_init_33 : decode cX0_init 33 = .ok (.putfield 21, 3) := by decide +kernel
theorem dX0_init_36 : decode cX0_init 36 = .ok (.aload_n 0, 1) := by decide +kernel
theorem dX0_init_37 : decode cX0_init 37 = .ok (.bipush 24, 2) := by decide +kernel
theorem dX0_init_39 : decode cX0_init 39 = .ok (.newarray .int, 2) := by decide +kernel
theorem dX0_init_41 : decode cX0_init 41 = .ok (.putfield 24, 3) := by decide +kernel
theorem dX0_init_44 : decode cX0_init 44 = .ok (.return_, 1) := by decide +kernel
theorem dX0_has_0 : decode cX0_has 0 = .ok (.iload_n 1, 1) := by decide +kernel
theorem dX0_has_1 : decode cX0_has 1 = .ok (.ifCond .lt 15, 3) := by decide +kernel
theorem dX0_has_4 : decode cX0_has 4 = .ok (.iload_n 1, 1) := by decide +kernel
theorem dX0_has_5 : decode cX0_has 5 = .ok (.aload_n 0, 1) := by decide +kernel
theorem dX0_has_6 : decode cX0_has 6 = .ok (.getfield 27, 3) := by decide +kernel
theorem dX0_has_9 : decode cX0_has 9 = .ok (.if_icmp .ge 7, 3) := by decide +kernel
theorem dX0_has_12 : decode cX0_has 12 = .ok (.iconst 1, 1) := by decide +kernel
theorem dX0_has_13 : decode cX0_has 13 = .ok (.goto 4, 3) := by decide +kernel
theorem dX0_has_16 : decode cX0_has 16 = .ok (.iconst 0, 1) := by decide +kernel
theorem dX0_has_17 : decode cX0_has 17 = .ok (.ireturn, 1) := by decide +kernel
theorem dX0_add_0 : decode cX0_add 0 = .ok (.aload_n 0, 1) := by decide +kernel
theorem dX0_add_1 : decode cX0_add 1 = .ok (.getfield 27, 3) := by decide +kernel
theorem dX0_add_4 : decode cX0_add 4 = .ok (.istore 6, 2) := by decide +kernel
theorem dX0_add_6 : decode cX0_add 6 = .ok (.aload_n 0, 1) := by decide +kernel
theorem dX0_add_7 : decode cX0_add 7 = .ok (.getfield 9, 3) := by decide +kernel
theorem dX0_add_10 : decode cX0_add 10 = .ok (.iload 6, 2) := by decide +kernel
theorem dX0_add_12 : decode cX0_add 12 = .ok (.iload_n 1, 1) := by decide +kernel
theorem dX0_add_13 : decode cX0_add 13 = .ok (.iastore, 1) := by decide +kernel
theorem dX0_add_14 : decode cX0_add 14 = .ok (.aload_n 0, 1) := by decide +kernel
theorem dX0_add_15 : decode cX0_add 15 = .ok (.getfield 15, 3) := by decide +kernel
theorem dX0_add_18 : decode cX0_add 18 = .ok (.iload 6, 2) := by decide +kernel
theorem dX0_add_20 : decode cX0_add 20 = .ok (.iload_n 2, 1) := by decide +kernel
theorem dX0_add_21 : decode cX0_add 21 = .ok (.iastore, 1) := by decide +kernel
theorem dX0_add_22 : decode cX0_add 22 = .ok (.aload_n 0, 1) := by decide +kernel
theorem dX0_add_23 : decode cX0_add 23 = .ok (.getfield 18, 3) := by decide +kernel
theorem dX0_add_26 : decode cX0_add 26 = .ok (.iload 6, 2) := by decide +kernel
theorem dX0_add_28 : decode cX0_add 28 = .ok (.iload_n 3, 1) := by decide +kernel
theorem dX0_add_29 : decode cX0_add 29 = .ok (.iastore, 1) := by decide +kernel
theorem dX0_add_30 : decode cX0_add 30 = .ok (.aload_n 0, 1) := by decide +kernel
theorem dX0_add_31 : decode cX0_add 31 = .ok (.getfield 21, 3) := by decide +kernel
theorem dX0_add_34 : decode cX0_add 34 = .ok (.iload 6, 2) := by decide +kernel
theorem dX0_add_36 : decode cX0_add 36 = .ok (.iload 4, 2) := by decide +kernel
theorem dX0_add_38 : decode cX0_add 38 = .ok (.iastore, 1) := by decide +kernel
theorem dX0_add_39 : decode cX0_add 39 = .ok (.aload_n 0, 1) := by decide +kernel
theorem dX0_add_40 : decode cX0_add 40 = .ok (.getfield 24, 3) := by decide +kernel
theorem dX0_add_43 : decode cX0_add 43 = .ok (.iload 6, 2) := by decide +kernel
theorem dX0_add_45 : decode cX0_add 45 = .ok (.iload 5, 2) := by decide +kernel
theorem dX0_add_47 : decode cX0_add 47 = .ok (.ifCond .eq 7, 3) := by decide +kernel
theorem dX0_add_50 : decode cX0_add 50 = .ok (.iconst 1, 1) := by decide +kernel
theorem dX0_add_51 : decode cX0_add 51 = .ok (.goto 4, 3) := by decide +kernel
theorem dX0_add_54 : decode cX0_add 54 = .ok (.iconst 0, 1) := by decide +kernel
theorem dX0_add_55 : decode cX0_add 55 = .ok (.iastore, 1) := by decide +kernel
theorem dX0_add_56 : decode cX0_add 56 = .ok (.aload_n 0, 1) := by decide +kernel
theorem dX0_add_57 : decode cX0_add 57 = .ok (.dup, 1) := by decide +kernel
theorem dX0_add_58 : decode cX0_add 58 = .ok (.getfield 27, 3) := by decide +kernel
theorem dX0_add_61 : decode cX0_add 61 = .ok (.iconst 1, 1) := by decide +kernel
theorem dX0_add_62 : decode cX0_add 62 = .ok (.iadd, 1) := by decide +kernel
theorem dX0_add_63 : decode cX0_add 63 = .ok (.putfield 27, 3) := by decide +kernel
theorem dX0_add_66 : decode cX0_add 66 = .ok (.iload 6, 2) := by decide +kernel
theorem dX0_add_68 : decode cX0_add 68 = .ok (.ireturn, 1) := by decide +kernel
theorem dX0_trait_0 : decode cX0_trait 0 = .ok (.iload_n 2, 1) := by decide +kernel
theorem dX0_trait_1 : decode cX0_trait 1 = .ok (.tableswitch 59 0 3 #[31, 38, 45, 52], 31) := by decide +kernel
theorem dX0_trait_32 : decode cX0_trait 32 = .ok (.aload_n 0, 1) := by decide +kernel
theorem dX0_trait_33 : decode cX0_trait 33 = .ok (.getfield 9, 3) := by decide +kernel
theorem dX0_trait_36 : decode cX0_trait 36 = .ok (.iload_n 1, 1) := by decide +kernel
theorem dX0_trait_37 : decode cX0_trait 37 = .ok (.iaload, 1) := by decide +kernel
theorem dX0_trait_38 : decode cX0_trait 38 = .ok (.ireturn, 1) := by decide +kernel
theorem dX0_trait_39 : decode cX0_trait 39 = .ok (.aload_n 0, 1) := by decide +kernel
theorem dX0_trait_40 : decode cX0_trait 40 = .ok (.getfield 15, 3) := by decide +kernel
theorem dX0_trait_43 : decode cX0_trait 43 = .ok (.iload_n 1, 1) := by decide +kernel
theorem dX0_trait_44 : decode cX0_trait 44 = .ok (.iaload, 1) := by decide +kernel
theorem dX0_trait_45 : decode cX0_trait 45 = .ok (.ireturn, 1) := by decide +kernel
theorem dX0_trait_46 : decode cX0_trait 46 = .ok (.aload_n 0, 1) := by decide +kernel
theorem dX0_trait_47 : decode cX0_trait 47 = .ok (.getfield 18, 3) := by decide +kernel
theorem dX0_trait_50 : decode cX0_trait 50 = .ok (.iload_n 1, 1) := by decide +kernel
theorem dX0_trait_51 : decode cX0_trait 51 = .ok (.iaload, 1) := by decide +kernel
theorem dX0_trait_52 : decode cX0_trait 52 = .ok (.ireturn, 1) := by decide +kernel
theorem dX0_trait_53 : decode cX0_trait 53 = .ok (.aload_n 0, 1) := by decide +kernel
theorem dX0_trait_54 : decode cX0_trait 54 = .ok (.getfield 21, 3) := by decide +kernel
theorem dX0_trait_57 : decode cX0_trait 57 = .ok (.iload_n 1, 1) := by decide +kernel
theorem dX0_trait_58 : decode cX0_trait 58 = .ok (.iaload, 1) := by decide +kernel
theorem dX0_trait_59 : decode cX0_trait 59 = .ok (.ireturn, 1) := by decide +kernel
theorem dX0_trait_60 : decode cX0_trait 60 = .ok (.aload_n 0, 1) := by decide +kernel
theorem dX0_trait_61 : decode cX0_trait 61 = .ok (.getfield 24, 3) := by decide +kernel
theorem dX0_trait_64 : decode cX0_trait 64 = .ok (.iload_n 1, 1) := by decide +kernel
theorem dX0_trait_65 : decode cX0_trait 65 = .ok (.iaload, 1) := by decide +kernel
theorem dX0_trait_66 : decode cX0_trait 66 = .ok (.ireturn, 1) := by decide +kernel
theorem dX1_init_0 : decode cX1_init 0 = .ok (.aload_n 0, 1) := by decide +kernel
theorem dX1_init_1 : decode cX1_init 1 = .ok (.invokespecial 1, 3) := by decide +kernel
theorem dX1_init_4 : decode cX1_init 4 = .ok (.aload_n 0, 1) := by decide +kernel
theorem dX1_init_5 : decode cX1_init 5 = .ok (.lconst 0, 1) := by decide +kernel
theorem dX1_init_6 : decode cX1_init 6 = .ok (.putfield 7, 3) := by decide +kernel
theorem dX1_init_9 : decode cX1_init 9 = .ok (.aload_n 0, 1) := by decide +kernel
theorem dX1_init_10 : decode cX1_init 10 = .ok (.lconst 1, 1) := by decide +kernel
theorem dX1_init_11 : decode cX1_init 11 = .ok (.putfield 13, 3) := by decide +kernel
theorem dX1_init_14 : decode cX1_init 14 = .ok (.return_, 1) := by decide +kernel
theorem dX1_become_0 : decode cX1_become 0 = .ok (.lload_n 1, 1) := by decide +kernel
theorem dX1_become_1 : decode cX1_become 1 = .ok (.invokestatic 16, 3) := by decide +kernel
theorem dX1_become_4 : decode cX1_become 4 = .ok (.lload_n 3, 1) := by decide +kernel
theorem dX1_become_5 : decode cX1_become 5 = .ok (.invokestatic 22, 3) := by decide +kernel
theorem dX1_become_8 : decode cX1_become 8 = .ok (.lstore 5, 2) := by decide +kernel
theorem dX1_become_10 : decode cX1_become 10 = .ok (.lload_n 3, 1) := by decide +kernel
theorem dX1_become_11 : decode cX1_become 11 = .ok (.lconst 0, 1) := by decide +kernel
theorem dX1_become_12 : decode cX1_become 12 = .ok (.lcmp, 1) := by decide +kernel
theorem dX1_become_13 : decode cX1_become 13 = .ok (.ifCond .le 26, 3) := by decide +kernel
theorem dX1_become_16 : decode cX1_become 16 = .ok (.lload 5, 2) := by decide +kernel
theorem dX1_become_18 : decode cX1_become 18 = .ok (.lconst 0, 1) := by decide +kernel
theorem dX1_become_19 : decode cX1_become 19 = .ok (.lcmp, 1) := by decide +kernel
theorem dX1_become_20 : decode cX1_become 20 = .ok (.ifCond .le 19, 3) := by decide +kernel
theorem dX1_become_23 : decode cX1_become 23 = .ok (.aload_n 0, 1) := by decide +kernel
theorem dX1_become_24 : decode cX1_become 24 = .ok (.lload_n 1, 1) := by decide +kernel
theorem dX1_become_25 : decode cX1_become 25 = .ok (.lload 5, 2) := by decide +kernel
theorem dX1_become_27 : decode cX1_become 27 = .ok (.ldiv, 1) := by decide +kernel
theorem dX1_become_28 : decode cX1_become 28 = .ok (.putfield 7, 3) := by decide +kernel
theorem dX1_become_31 : decode cX1_become 31 = .ok (.aload_n 0, 1) := by decide +kernel
theorem dX1_become_32 : decode cX1_become 32 = .ok (.lload_n 3, 1) := by decide +kernel
theorem dX1_become_33 : decode cX1_become 33 = .ok (.lload 5, 2) := by decide +kernel
theorem dX1_become_35 : decode cX1_become 35 = .ok (.ldiv, 1) := by decide +kernel
theorem dX1_become_36 : decode cX1_become 36 = .ok (.putfield 13, 3) := by decide +kernel
theorem dX1_become_39 : decode cX1_become 39 = .ok (.return_, 1) := by decide +kernel
theorem dX1_isAbove_0 : decode cX1_isAbove 0 = .ok (.aload_n 0, 1) := by decide +kernel
theorem dX1_isAbove_1 : decode cX1_isAbove 1 = .ok (.getfield 7, 3) := by decide +kernel
theorem dX1_isAbove_4 : decode cX1_isAbove 4 = .ok (.lstore_n 2, 1) := by decide +kernel
theorem dX1_isAbove_5 : decode cX1_isAbove 5 = .ok (.aload_n 0, 1) := by decide +kernel
theorem dX1_isAbove_6 : decode cX1_isAbove 6 = .ok (.getfield 13, 3) := by decide +kernel
theorem dX1_isAbove_9 : decode cX1_isAbove 9 = .ok (.lstore 4, 2) := by decide +kernel
theorem dX1_isAbove_11 : decode cX1_isAbove 11 = .ok (.aload_n 1, 1) := by decide +kernel
theorem dX1_isAbove_12 : decode cX1_isAbove 12 = .ok (.getfield 7, 3) := by decide +kernel
theorem dX1_isAbove_15 : decode cX1_isAbove 15 = .ok (.lstore 6, 2) := by decide +kernel
theorem dX1_isAbove_17 : decode cX1_isAbove 17 = .ok (.aload_n 1, 1) := by decide +kernel
theorem dX1_isAbove_18 : decode cX1_isAbove 18 = .ok (.getfield 13, 3) := by decide +kernel
theorem dX1_isAbove_21 : decode cX1_isAbove 21 = .ok (.lstore 8, 2) := by decide +kernel
theorem dX1_isAbove_23 : decode cX1_isAbove 23 = .ok (.iconst 0, 1) := by decide +kernel
theorem dX1_isAbove_24 : decode cX1_isAbove 24 = .ok (.istore 10, 2) := by decide +kernel
theorem dX1_isAbove_26 : decode cX1_isAbove 26 = .ok (.iconst 0, 1) := by decide +kernel
theorem dX1_isAbove_27 : decode cX1_isAbove 27 = .ok (.istore 11, 2) := by decide +kernel
theorem dX1_isAbove_29 : decode cX1_isAbove 29 = .ok (.iload 11, 2) := by decide +kernel
theorem dX1_isAbove_31 : decode cX1_isAbove 31 = .ok (.sipush 200, 3) := by decide +kernel
theorem dX1_isAbove_34 : decode cX1_isAbove 34 = .ok (.if_icmp .ge 118, 3) := by decide +kernel
theorem dX1_isAbove_37 : decode cX1_isAbove 37 = .ok (.lload 4, 2) := by decide +kernel
theorem dX1_isAbove_39 : decode cX1_isAbove 39 = .ok (.lconst 0, 1) := by decide +kernel
theorem dX1_isAbove_40 : decode cX1_isAbove 40 = .ok (.lcmp, 1) := by decide +kernel
theorem dX1_isAbove_41 : decode cX1_isAbove 41 = .ok (.ifCond .le 111, 3) := by decide +kernel
theorem dX1_isAbove_44 : decode cX1_isAbove 44 = .ok (.lload 8, 2) := by decide +kernel
theorem dX1_isAbove_46 : decode cX1_isAbove 46 = .ok (.lconst 0, 1) := by decide +kernel
theorem dX1_isAbove_47 : decode cX1_isAbove 47 = .ok (.lcmp, 1) := by decide +kernel
theorem dX1_isAbove_48 : decode cX1_isAbove 48 = .ok (.ifCond .le 104, 3) := by decide +kernel
theorem dX1_isAbove_51 : decode cX1_isAbove 51 = .ok (.lload_n 2, 1) := by decide +kernel
theorem dX1_isAbove_52 : decode cX1_isAbove 52 = .ok (.lload 4, 2) := by decide +kernel
theorem dX1_isAbove_54 : decode cX1_isAbove 54 = .ok (.invokestatic 26, 3) := by decide +kernel
theorem dX1_isAbove_57 : decode cX1_isAbove 57 = .ok (.lstore 12, 2) := by decide +kernel
theorem dX1_isAbove_59 : decode cX1_isAbove 59 = .ok (.lload 6, 2) := by decide +kernel
theorem dX1_isAbove_61 : decode cX1_isAbove 61 = .ok (.lload 8, 2) := by decide +kernel
theorem dX1_isAbove_63 : decode cX1_isAbove 63 = .ok (.invokestatic 26, 3) := by decide +kernel
theorem dX1_isAbove_66 : decode cX1_isAbove 66 = .ok (.lstore 14, 2) := by decide +kernel
theorem dX1_isAbove_68 : decode cX1_isAbove 68 = .ok (.lload 12, 2) := by decide +kernel
theorem dX1_isAbove_70 : decode cX1_isAbove 70 = .ok (.lload 14, 2) := by decide +kernel
theorem dX1_isAbove_72 : decode cX1_isAbove 72 = .ok (.lcmp, 1) := by decide +kernel
theorem dX1_isAbove_73 : decode cX1_isAbove 73 = .ok (.ifCond .eq 27, 3) := by decide +kernel
theorem dX1_isAbove_76 : decode cX1_isAbove 76 = .ok (.lload 12, 2) := by decide +kernel
theorem dX1_isAbove_78 : decode cX1_isAbove 78 = .ok (.lload 14, 2) := by decide +kernel
theorem dX1_isAbove_80 : decode cX1_isAbove 80 = .ok (.lcmp, 1) := by decide +kernel
theorem dX1_isAbove_81 : decode cX1_isAbove 81 = .ok (.ifCond .le 7, 3) := by decide +kernel
theorem dX1_isAbove_84 : decode cX1_isAbove 84 = .ok (.iconst 1, 1) := by decide +kernel
theorem dX1_isAbove_85 : decode cX1_isAbove 85 = .ok (.goto 4, 3) := by decide +kernel
theorem dX1_isAbove_88 : decode cX1_isAbove 88 = .ok (.iconst 0, 1) := by decide +kernel
theorem dX1_isAbove_89 : decode cX1_isAbove 89 = .ok (.iload 10, 2) := by decide +kernel
theorem dX1_isAbove_91 : decode cX1_isAbove 91 = .ok (.if_icmp .eq 7, 3) := by decide +kernel
theorem dX1_isAbove_94 : decode cX1_isAbove 94 = .ok (.iconst 1, 1) := by decide +kernel
theorem dX1_isAbove_95 : decode cX1_isAbove 95 = .ok (.goto 4, 3) := by decide +kernel
theorem dX1_isAbove_98 : decode cX1_isAbove 98 = .ok (.iconst 0, 1) := by decide +kernel
theorem dX1_isAbove_99 : decode cX1_isAbove 99 = .ok (.ireturn, 1) := by decide +kernel
theorem dX1_isAbove_100 : decode cX1_isAbove 100 = .ok (.lload_n 2, 1) := by decide +kernel
theorem dX1_isAbove_101 : decode cX1_isAbove 101 = .ok (.lload 12, 2) := by decide +kernel
theorem dX1_isAbove_103 : decode cX1_isAbove 103 = .ok (.lload 4, 2) := by decide +kernel
theorem dX1_isAbove_105 : decode cX1_isAbove 105 = .ok (.lmul, 1) := by decide +kernel
theorem dX1_isAbove_106 : decode cX1_isAbove 106 = .ok (.lsub, 1) := by decide +kernel
theorem dX1_isAbove_107 : decode cX1_isAbove 107 = .ok (.lstore 16, 2) := by decide +kernel
theorem dX1_isAbove_109 : decode cX1_isAbove 109 = .ok (.lload 6, 2) := by decide +kernel
theorem dX1_isAbove_111 : decode cX1_isAbove 111 = .ok (.lload 14, 2) := by decide +kernel
theorem dX1_isAbove_113 : decode cX1_isAbove 113 = .ok (.lload 8, 2) := by decide +kernel
theorem dX1_isAbove_115 : decode cX1_isAbove 115 = .ok (.lmul, 1) := by decide +kernel
theorem dX1_isAbove_116 : decode cX1_isAbove 116 = .ok (.lsub, 1) := by decide +kernel
theorem dX1_isAbove_117 : decode cX1_isAbove 117 = .ok (.lstore 18, 2) := by decide +kernel
theorem dX1_isAbove_119 : decode cX1_isAbove 119 = .ok (.lload 4, 2) := by decide +kernel
theorem dX1_isAbove_121 : decode cX1_isAbove 121 = .ok (.lstore_n 2, 1) := by decide +kernel
theorem dX1_isAbove_122 : decode cX1_isAbove 122 = .ok (.lload 16, 2) := by decide +kernel
theorem dX1_isAbove_124 : decode cX1_isAbove 124 = .ok (.lstore 4, 2) := by decide +kernel
theorem dX1_isAbove_126 : decode cX1_isAbove 126 = .ok (.lload 8, 2) := by decide +kernel
theorem dX1_isAbove_128 : decode cX1_isAbove 128 = .ok (.lstore 6, 2) := by decide +kernel
theorem dX1_isAbove_130 : decode cX1_isAbove 130 = .ok (.lload 18, 2) := by decide +kernel
theorem dX1_isAbove_132 : decode cX1_isAbove 132 = .ok (.lstore 8, 2) := by decide +kernel
theorem dX1_isAbove_134 : decode cX1_isAbove 134 = .ok (.iload 10, 2) := by decide +kernel
theorem dX1_isAbove_136 : decode cX1_isAbove 136 = .ok (.ifCond .ne 7, 3) := by decide +kernel
theorem dX1_isAbove_139 : decode cX1_isAbove 139 = .ok (.iconst 1, 1) := by decide +kernel
theorem dX1_isAbove_140 : decode cX1_isAbove 140 = .ok (.goto 4, 3) := by decide +kernel
theorem dX1_isAbove_143 : decode cX1_isAbove 143 = .ok (.iconst 0, 1) := by decide +kernel
theorem dX1_isAbove_144 : decode cX1_isAbove 144 = .ok (.istore 10, 2) := by decide +kernel
theorem dX1_isAbove_146 : decode cX1_isAbove 146 = .ok (.iinc 11 1, 3) := by decide +kernel
theorem dX1_isAbove_149 : decode cX1_isAbove 149 = .ok (.goto (-120), 3) := by decide +kernel
theorem dX1_isAbove_152 : decode cX1_isAbove 152 = .ok (.lload 4, 2) := by decide +kernel
theorem dX1_isAbove_154 : decode cX1_isAbove 154 = .ok (.lload 8, 2) := by decide +kernel
theorem dX1_isAbove_156 : decode cX1_isAbove 156 = .ok (.lcmp, 1) := by decide +kernel
theorem dX1_isAbove_157 : decode cX1_isAbove 157 = .ok (.ifCond .eq 24, 3) := by decide +kernel
theorem dX1_isAbove_160 : decode cX1_isAbove 160 = .ok (.lload 4, 2) := by decide +kernel
theorem dX1_isAbove_162 : decode cX1_isAbove 162 = .ok (.lconst 0, 1) := by decide +kernel
theorem dX1_isAbove_163 : decode cX1_isAbove 163 = .ok (.lcmp, 1) := by decide +kernel
theorem dX1_isAbove_164 : decode cX1_isAbove 164 = .ok (.ifCond .ne 7, 3) := by decide +kernel
theorem dX1_isAbove_167 : decode cX1_isAbove 167 = .ok (.iconst 1, 1) := by decide +kernel
theorem dX1_isAbove_168 : decode cX1_isAbove 168 = .ok (.goto 4, 3) := by decide +kernel
theorem dX1_isAbove_171 : decode cX1_isAbove 171 = .ok (.iconst 0, 1) := by decide +kernel
theorem dX1_isAbove_172 : decode cX1_isAbove 172 = .ok (.iload 10, 2) := by decide +kernel
theorem dX1_isAbove_174 : decode cX1_isAbove 174 = .ok (.if_icmp .eq 7, 3) := by decide +kernel
theorem dX1_isAbove_177 : decode cX1_isAbove 177 = .ok (.iconst 1, 1) := by decide +kernel
theorem dX1_isAbove_178 : decode cX1_isAbove 178 = .ok (.goto 4, 3) := by decide +kernel
theorem dX1_isAbove_181 : decode cX1_isAbove 181 = .ok (.iconst 0, 1) := by decide +kernel
theorem dX1_isAbove_182 : decode cX1_isAbove 182 = .ok (.ireturn, 1) := by decide +kernel
theorem dX1_commonDivisor_0 : decode cX1_commonDivisor 0 = .ok (.lload_n 0, 1) := by decide +kernel
theorem dX1_commonDivisor_1 : decode cX1_commonDivisor 1 = .ok (.lstore 4, 2) := by decide +kernel
theorem dX1_commonDivisor_3 : decode cX1_commonDivisor 3 = .ok (.lload_n 2, 1) := by decide +kernel
theorem dX1_commonDivisor_4 : decode cX1_commonDivisor 4 = .ok (.lstore 6, 2) := by decide +kernel
theorem dX1_commonDivisor_6 : decode cX1_commonDivisor 6 = .ok (.iconst 0, 1) := by decide +kernel
theorem dX1_commonDivisor_7 : decode cX1_commonDivisor 7 = .ok (.istore 8, 2) := by decide +kernel
theorem dX1_commonDivisor_9 : decode cX1_commonDivisor 9 = .ok (.iload 8, 2) := by decide +kernel
theorem dX1_commonDivisor_11 : decode cX1_commonDivisor 11 = .ok (.sipush 200, 3) := by decide +kernel
theorem dX1_commonDivisor_14 : decode cX1_commonDivisor 14 = .ok (.if_icmp .ge 31, 3) := by decide +kernel
theorem dX1_commonDivisor_17 : decode cX1_commonDivisor 17 = .ok (.lload 6, 2) := by decide +kernel
theorem dX1_commonDivisor_19 : decode cX1_commonDivisor 19 = .ok (.lconst 0, 1) := by decide +kernel
theorem dX1_commonDivisor_20 : decode cX1_commonDivisor 20 = .ok (.lcmp, 1) := by decide +kernel
theorem dX1_commonDivisor_21 : decode cX1_commonDivisor 21 = .ok (.ifCond .le 24, 3) := by decide +kernel
theorem dX1_commonDivisor_24 : decode cX1_commonDivisor 24 = .ok (.lload 4, 2) := by decide +kernel
theorem dX1_commonDivisor_26 : decode cX1_commonDivisor 26 = .ok (.lload 6, 2) := by decide +kernel
theorem dX1_commonDivisor_28 : decode cX1_commonDivisor 28 = .ok (.lrem, 1) := by decide +kernel
theorem dX1_commonDivisor_29 : decode cX1_commonDivisor 29 = .ok (.lstore 9, 2) := by decide +kernel
theorem dX1_commonDivisor_31 : decode cX1_commonDivisor 31 = .ok (.lload 6, 2) := by decide +kernel
theorem dX1_commonDivisor_33 : decode cX1_commonDivisor 33 = .ok (.lstore 4, 2) := by decide +kernel
theorem dX1_commonDivisor_35 : decode cX1_commonDivisor 35 = .ok (.lload 9, 2) := by decide +kernel
theorem dX1_commonDivisor_37 : decode cX1_commonDivisor 37 = .ok (.lstore 6, 2) := by decide +kernel
theorem dX1_commonDivisor_39 : decode cX1_commonDivisor 39 = .ok (.iinc 8 1, 3) := by decide +kernel
theorem dX1_commonDivisor_42 : decode cX1_commonDivisor 42 = .ok (.goto (-33), 3) := by decide +kernel
theorem dX1_commonDivisor_45 : decode cX1_commonDivisor 45 = .ok (.lload 4, 2) := by decide +kernel
theorem dX1_commonDivisor_47 : decode cX1_commonDivisor 47 = .ok (.lreturn, 1) := by decide +kernel
theorem dX2_init_0 : decode cX2_init 0 = .ok (.aload_n 0, 1) := by decide +kernel
theorem dX2_init_1 : decode cX2_init 1 = .ok (.invokespecial 3, 3) := by decide +kernel
theorem dX2_init_4 : decode cX2_init 4 = .ok (.aload_n 0, 1) := by decide +kernel
theorem dX2_init_5 : decode cX2_init 5 = .ok (.bipush 24, 2) := by decide +kernel
theorem dX2_init_7 : decode cX2_init 7 = .ok (.newarray .int, 2) := by decide +kernel
theorem dX2_init_9 : decode cX2_init 9 = .ok (.putfield 9, 3) := by decide +kernel
theorem dX2_init_12 : decode cX2_init 12 = .ok (.aload_n 0, 1) := by decide +kernel
theorem dX2_init_13 : decode cX2_init 13 = .ok (.bipush 24, 2) := by decide +kernel
theorem dX2_init_15 : decode cX2_init 15 = .ok (.anewarray 15, 3) := by decide +kernel
theorem dX2_init_18 : decode cX2_init 18 = .ok (.putfield 17, 3) := by decide +kernel
theorem dX2_init_21 : decode cX2_init 21 = .ok (.aload_n 0, 1) := by decide +kernel
theorem dX2_init_22 : decode cX2_init 22 = .ok (.bipush 24, 2) := by decide +kernel
theorem dX2_init_24 : decode cX2_init 24 = .ok (.newarray .int, 2) := by decide +kernel
theorem dX2_init_26 : decode cX2_init 26 = .ok (.putfield 21, 3) := by decide +kernel
theorem dX2_init_29 : decode cX2_init 29 = .ok (.aload_n 0, 1) := by decide +kernel
theorem dX2_init_30 : decode cX2_init 30 = .ok (.bipush 24, 2) := by decide +kernel
theorem dX2_init_32 : decode cX2_init 32 = .ok (.newarray .boolean, 2) := by decide +kernel
theorem dX2_init_34 : decode cX2_init 34 = .ok (.putfield 24, 3) := by decide +kernel
theorem dX2_init_37 : decode cX2_init 37 = .ok (.iconst 0, 1) := by decide +kernel
theorem dX2_init_38 : decode cX2_init 38 = .ok (.istore_n 1, 1) := by decide +kernel
theorem dX2_init_39 : decode cX2_init 39 = .ok (.iload_n 1, 1) := by decide +kernel
theorem dX2_init_40 : decode cX2_init 40 = .ok (.bipush 24, 2) := by decide +kernel
theorem dX2_init_42 : decode cX2_init 42 = .ok (.if_icmp .ge 22, 3) := by decide +kernel
theorem dX2_init_45 : decode cX2_init 45 = .ok (.aload_n 0, 1) := by decide +kernel
theorem dX2_init_46 : decode cX2_init 46 = .ok (.getfield 17, 3) := by decide +kernel
theorem dX2_init_49 : decode cX2_init 49 = .ok (.iload_n 1, 1) := by decide +kernel
theorem dX2_init_50 : decode cX2_init 50 = .ok (.new 15, 3) := by decide +kernel
theorem dX2_init_53 : decode cX2_init 53 = .ok (.dup, 1) := by decide +kernel
theorem dX2_init_54 : decode cX2_init 54 = .ok (.invokespecial 28, 3) := by decide +kernel
theorem dX2_init_57 : decode cX2_init 57 = .ok (.aastore, 1) := by decide +kernel
theorem dX2_init_58 : decode cX2_init 58 = .ok (.iinc 1 1, 3) := by decide +kernel
theorem dX2_init_61 : decode cX2_init 61 = .ok (.goto (-22), 3) := by decide +kernel
theorem dX2_init_64 : decode cX2_init 64 = .ok (.return_, 1) := by decide +kernel
theorem dX2_rank_0 : decode cX2_rank 0 = .ok (.aload_n 0, 1) := by decide +kernel
theorem dX2_rank_1 : decode cX2_rank 1 = .ok (.iconst 0, 1) := by decide +kernel
theorem dX2_rank_2 : decode cX2_rank 2 = .ok (.putfield 29, 3) := by decide +kernel
theorem dX2_rank_5 : decode cX2_rank 5 = .ok (.iconst 0, 1) := by decide +kernel
theorem dX2_rank_6 : decode cX2_rank 6 = .ok (.istore_n 3, 1) := by decide +kernel
theorem dX2_rank_7 : decode cX2_rank 7 = .ok (.iload_n 3, 1) := by decide +kernel
theorem dX2_rank_8 : decode cX2_rank 8 = .ok (.bipush 24, 2) := by decide +kernel
theorem dX2_rank_10 : decode cX2_rank 10 = .ok (.if_icmp .ge 34, 3) := by decide +kernel
theorem dX2_rank_13 : decode cX2_rank 13 = .ok (.aload_n 1, 1) := by decide +kernel
theorem dX2_rank_14 : decode cX2_rank 14 = .ok (.iload_n 3, 1) := by decide +kernel
theorem dX2_rank_15 : decode cX2_rank 15 = .ok (.invokevirtual 33, 3) := by decide +kernel
theorem dX2_rank_18 : decode cX2_rank 18 = .ok (.ifCond .le 20, 3) := by decide +kernel
theorem dX2_rank_21 : decode cX2_rank 21 = .ok (.aload_n 2, 1) := by decide +kernel
theorem dX2_rank_22 : decode cX2_rank 22 = .ok (.aload_n 1, 1) := by decide +kernel
theorem dX2_rank_23 : decode cX2_rank 23 = .ok (.iload_n 3, 1) := by decide +kernel
theorem dX2_rank_24 : decode cX2_rank 24 = .ok (.aload_n 0, 1) := by decide +kernel
theorem dX2_rank_25 : decode cX2_rank 25 = .ok (.getfield 17, 3) := by decide +kernel
theorem dX2_rank_28 : decode cX2_rank 28 = .ok (.iload_n 3, 1) := by decide +kernel
theorem dX2_rank_29 : decode cX2_rank 29 = .ok (.aaload, 1) := by decide +kernel
theorem dX2_rank_30 : decode cX2_rank 30 = .ok (.invokevirtual 39, 3) := by decide +kernel
theorem dX2_rank_33 : decode cX2_rank 33 = .ok (.aload_n 0, 1) := by decide +kernel
theorem dX2_rank_34 : decode cX2_rank 34 = .ok (.iload_n 3, 1) := by decide +kernel
theorem dX2_rank_35 : decode cX2_rank 35 = .ok (.invokevirtual 45, 3) := by decide +kernel
theorem dX2_rank_38 : decode cX2_rank 38 = .ok (.iinc 3 1, 3) := by decide +kernel
theorem dX2_rank_41 : decode cX2_rank 41 = .ok (.goto (-34), 3) := by decide +kernel
theorem dX2_rank_44 : decode cX2_rank 44 = .ok (.return_, 1) := by decide +kernel
theorem dX2_give_0 : decode cX2_give 0 = .ok (.iconst 0, 1) := by decide +kernel
theorem dX2_give_1 : decode cX2_give 1 = .ok (.istore 5, 2) := by decide +kernel
theorem dX2_give_3 : decode cX2_give 3 = .ok (.iload 5, 2) := by decide +kernel
theorem dX2_give_5 : decode cX2_give 5 = .ok (.bipush 24, 2) := by decide +kernel
theorem dX2_give_7 : decode cX2_give 7 = .ok (.if_icmp .ge 17, 3) := by decide +kernel
theorem dX2_give_10 : decode cX2_give 10 = .ok (.aload_n 0, 1) := by decide +kernel
theorem dX2_give_11 : decode cX2_give 11 = .ok (.getfield 24, 3) := by decide +kernel
theorem dX2_give_14 : decode cX2_give 14 = .ok (.iload 5, 2) := by decide +kernel
theorem dX2_give_16 : decode cX2_give 16 = .ok (.iconst 0, 1) := by decide +kernel
theorem dX2_give_17 : decode cX2_give 17 = .ok (.bastore, 1) := by decide +kernel
theorem dX2_give_18 : decode cX2_give 18 = .ok (.iinc 5 1, 3) := by decide +kernel
theorem dX2_give_21 : decode cX2_give 21 = .ok (.goto (-18), 3) := by decide +kernel
theorem dX2_give_24 : decode cX2_give 24 = .ok (.iconst 0, 1) := by decide +kernel
theorem dX2_give_25 : decode cX2_give 25 = .ok (.istore 5, 2) := by decide +kernel
theorem dX2_give_27 : decode cX2_give 27 = .ok (.iload 5, 2) := by decide +kernel
theorem dX2_give_29 : decode cX2_give 29 = .ok (.iload_n 2, 1) := by decide +kernel
theorem dX2_give_30 : decode cX2_give 30 = .ok (.if_icmp .gt 26, 3) := by decide +kernel
theorem dX2_give_33 : decode cX2_give 33 = .ok (.iload 5, 2) := by decide +kernel
theorem dX2_give_35 : decode cX2_give 35 = .ok (.bipush 8, 2) := by decide +kernel
theorem dX2_give_37 : decode cX2_give 37 = .ok (.if_icmp .ge 19, 3) := by decide +kernel
theorem dX2_give_40 : decode cX2_give 40 = .ok (.aload_n 0, 1) := by decide +kernel
theorem dX2_give_41 : decode cX2_give 41 = .ok (.aload_n 1, 1) := by decide +kernel
theorem dX2_give_42 : decode cX2_give 42 = .ok (.iload 5, 2) := by decide +kernel
theorem dX2_give_44 : decode cX2_give 44 = .ok (.aload_n 3, 1) := by decide +kernel
theorem dX2_give_45 : decode cX2_give 45 = .ok (.aload 4, 2) := by decide +kernel
theorem dX2_give_47 : decode cX2_give 47 = .ok (.invokevirtual 49, 3) := by decide +kernel
theorem dX2_give_50 : decode cX2_give 50 = .ok (.iinc 5 1, 3) := by decide +kernel
theorem dX2_give_53 : decode cX2_give 53 = .ok (.goto (-26), 3) := by decide +kernel
theorem dX2_give_56 : decode cX2_give 56 = .ok (.return_, 1) := by decide +kernel
theorem dX2_giveOne_0 : decode cX2_giveOne 0 = .ok (.aload_n 0, 1) := by decide +kernel
theorem dX2_giveOne_1 : decode cX2_giveOne 1 = .ok (.iconst 0, 1) := by decide +kernel
theorem dX2_giveOne_2 : decode cX2_giveOne 2 = .ok (.putfield 53, 3) := by decide +kernel
theorem dX2_giveOne_5 : decode cX2_giveOne 5 = .ok (.iconst 0, 1) := by decide +kernel
theorem dX2_giveOne_6 : decode cX2_giveOne 6 = .ok (.istore 5, 2) := by decide +kernel
theorem dX2_giveOne_8 : decode cX2_giveOne 8 = .ok (.iload 5, 2) := by decide +kernel
theorem dX2_giveOne_10 : decode cX2_giveOne 10 = .ok (.aload_n 0, 1) := by decide +kernel
theorem dX2_giveOne_11 : decode cX2_giveOne 11 = .ok (.getfield 29, 3) := by decide +kernel
theorem dX2_giveOne_14 : decode cX2_giveOne 14 = .ok (.if_icmp .ge 109, 3) := by decide +kernel
theorem dX2_giveOne_17 : decode cX2_giveOne 17 = .ok (.aload_n 0, 1) := by decide +kernel
theorem dX2_giveOne_18 : decode cX2_giveOne 18 = .ok (.getfield 53, 3) := by decide +kernel
theorem dX2_giveOne_21 : decode cX2_giveOne 21 = .ok (.aload_n 1, 1) := by decide +kernel
theorem dX2_giveOne_22 : decode cX2_giveOne 22 = .ok (.getfield 56, 3) := by decide +kernel
theorem dX2_giveOne_25 : decode cX2_giveOne 25 = .ok (.iload_n 2, 1) := by decide +kernel
theorem dX2_giveOne_26 : decode cX2_giveOne 26 = .ok (.iaload, 1) := by decide +kernel
theorem dX2_giveOne_27 : decode cX2_giveOne 27 = .ok (.if_icmp .ge 96, 3) := by decide +kernel
theorem dX2_giveOne_30 : decode cX2_giveOne 30 = .ok (.aload_n 0, 1) := by decide +kernel
theorem dX2_giveOne_31 : decode cX2_giveOne 31 = .ok (.getfield 21, 3) := by decide +kernel
theorem dX2_giveOne_34 : decode cX2_giveOne 34 = .ok (.iload 5, 2) := by decide +kernel
theorem dX2_giveOne_36 : decode cX2_giveOne 36 = .ok (.iaload, 1) := by decide +kernel
theorem dX2_giveOne_37 : decode cX2_giveOne 37 = .ok (.istore 6, 2) := by decide +kernel
theorem dX2_giveOne_39 : decode cX2_giveOne 39 = .ok (.aload_n 1, 1) := by decide +kernel
theorem dX2_giveOne_40 : decode cX2_giveOne 40 = .ok (.getfield 61, 3) := by decide +kernel
theorem dX2_giveOne_43 : decode cX2_giveOne 43 = .ok (.iload_n 2, 1) := by decide +kernel
theorem dX2_giveOne_44 : decode cX2_giveOne 44 = .ok (.baload, 1) := by decide +kernel
theorem dX2_giveOne_45 : decode cX2_giveOne 45 = .ok (.ifCond .eq 17, 3) := by decide +kernel
theorem dX2_giveOne_48 : decode cX2_giveOne 48 = .ok (.aload_n 0, 1) := by decide +kernel
theorem dX2_giveOne_49 : decode cX2_giveOne 49 = .ok (.getfield 24, 3) := by decide +kernel
theorem dX2_giveOne_52 : decode cX2_giveOne 52 = .ok (.iload 6, 2) := by decide +kernel
theorem dX2_giveOne_54 : decode cX2_giveOne 54 = .ok (.baload, 1) := by decide +kernel
theorem dX2_giveOne_55 : decode cX2_giveOne 55 = .ok (.ifCond .eq 7, 3) := by decide +kernel
theorem dX2_giveOne_58 : decode cX2_giveOne 58 = .ok (.iconst 1, 1) := by decide +kernel
theorem dX2_giveOne_59 : decode cX2_giveOne 59 = .ok (.goto 4, 3) := by decide +kernel
theorem dX2_giveOne_62 : decode cX2_giveOne 62 = .ok (.iconst 0, 1) := by decide +kernel
theorem dX2_giveOne_63 : decode cX2_giveOne 63 = .ok (.istore 7, 2) := by decide +kernel
theorem dX2_giveOne_65 : decode cX2_giveOne 65 = .ok (.iload 7, 2) := by decide +kernel
theorem dX2_giveOne_67 : decode cX2_giveOne 67 = .ok (.ifCond .ne 50, 3) := by decide +kernel
theorem dX2_giveOne_70 : decode cX2_giveOne 70 = .ok (.aload_n 1, 1) := by decide +kernel
theorem dX2_giveOne_71 : decode cX2_giveOne 71 = .ok (.iload_n 2, 1) := by decide +kernel
theorem dX2_giveOne_72 : decode cX2_giveOne 72 = .ok (.aload_n 3, 1) := by decide +kernel
theorem dX2_giveOne_73 : decode cX2_giveOne 73 = .ok (.iload 6, 2) := by decide +kernel
theorem dX2_giveOne_75 : decode cX2_giveOne 75 = .ok (.aload 4, 2) := by decide +kernel
theorem dX2_giveOne_77 : decode cX2_giveOne 77 = .ok (.iload 6, 2) := by decide +kernel
theorem dX2_giveOne_79 : decode cX2_giveOne 79 = .ok (.invokevirtual 33, 3) := by decide +kernel
theorem dX2_giveOne_82 : decode cX2_giveOne 82 = .ok (.invokevirtual 64, 3) := by decide +kernel
theorem dX2_giveOne_85 : decode cX2_giveOne 85 = .ok (.ifCond .eq 32, 3) := by decide +kernel
theorem dX2_giveOne_88 : decode cX2_giveOne 88 = .ok (.aload_n 0, 1) := by decide +kernel
theorem dX2_giveOne_89 : decode cX2_giveOne 89 = .ok (.getfield 24, 3) := by decide +kernel
theorem dX2_giveOne_92 : decode cX2_giveOne 92 = .ok (.iload 6, 2) := by decide +kernel
theorem dX2_giveOne_94 : decode cX2_giveOne 94 = .ok (.iconst 1, 1) := by decide +kernel
theorem dX2_giveOne_95 : decode cX2_giveOne 95 = .ok (.bastore, 1) := by decide +kernel
theorem dX2_giveOne_96 : decode cX2_giveOne 96 = .ok (.aload_n 0, 1) := by decide +kernel
theorem dX2_giveOne_97 : decode cX2_giveOne 97 = .ok (.getfield 9, 3) := by decide +kernel
theorem dX2_giveOne_100 : decode cX2_giveOne 100 = .ok (.aload_n 0, 1) := by decide +kernel
theorem dX2_giveOne_101 : decode cX2_giveOne 101 = .ok (.getfield 53, 3) := by decide +kernel
theorem dX2_giveOne_104 : decode cX2_giveOne 104 = .ok (.iload 6, 2) := by decide +kernel
theorem dX2_giveOne_106 : decode cX2_giveOne 106 = .ok (.iastore, 1) := by decide +kernel
theorem dX2_giveOne_107 : decode cX2_giveOne 107 = .ok (.aload_n 0, 1) := by decide +kernel
theorem dX2_giveOne_108 : decode cX2_giveOne 108 = .ok (.dup, 1) := by decide +kernel
theorem dX2_giveOne_109 : decode cX2_giveOne 109 = .ok (.getfield 53, 3) := by decide +kernel
theorem dX2_giveOne_112 : decode cX2_giveOne 112 = .ok (.iconst 1, 1) := by decide +kernel
theorem dX2_giveOne_113 : decode cX2_giveOne 113 = .ok (.iadd, 1) := by decide +kernel
theorem dX2_giveOne_114 : decode cX2_giveOne 114 = .ok (.putfield 53, 3) := by decide +kernel
theorem dX2_giveOne_117 : decode cX2_giveOne 117 = .ok (.iinc 5 1, 3) := by decide +kernel
theorem dX2_giveOne_120 : decode cX2_giveOne 120 = .ok (.goto (-112), 3) := by decide +kernel
theorem dX2_giveOne_123 : decode cX2_giveOne 123 = .ok (.return_, 1) := by decide +kernel
theorem dX2_insert_0 : decode cX2_insert 0 = .ok (.aload_n 0, 1) := by decide +kernel
theorem dX2_insert_1 : decode cX2_insert 1 = .ok (.getfield 29, 3) := by decide +kernel
theorem dX2_insert_4 : decode cX2_insert 4 = .ok (.istore_n 2, 1) := by decide +kernel
theorem dX2_insert_5 : decode cX2_insert 5 = .ok (.iload_n 2, 1) := by decide +kernel
theorem dX2_insert_6 : decode cX2_insert 6 = .ok (.ifCond .le 48, 3) := by decide +kernel
theorem dX2_insert_9 : decode cX2_insert 9 = .ok (.aload_n 0, 1) := by decide +kernel
theorem dX2_insert_10 : decode cX2_insert 10 = .ok (.getfield 17, 3) := by decide +kernel
theorem dX2_insert_13 : decode cX2_insert 13 = .ok (.iload_n 1, 1) := by decide +kernel
theorem dX2_insert_14 : decode cX2_insert 14 = .ok (.aaload, 1) := by decide +kernel
theorem dX2_insert_15 : decode cX2_insert 15 = .ok (.aload_n 0, 1) := by decide +kernel
theorem dX2_insert_16 : decode cX2_insert 16 = .ok (.getfield 17, 3) := by decide +kernel
theorem dX2_insert_19 : decode cX2_insert 19 = .ok (.aload_n 0, 1) := by decide +kernel
theorem dX2_insert_20 : decode cX2_insert 20 = .ok (.getfield 21, 3) := by decide +kernel
theorem dX2_insert_23 : decode cX2_insert 23 = .ok (.iload_n 2, 1) := by decide +kernel
theorem dX2_insert_24 : decode cX2_insert 24 = .ok (.iconst 1, 1) := by decide +kernel
theorem dX2_insert_25 : decode cX2_insert 25 = .ok (.isub, 1) := by decide +kernel
theorem dX2_insert_26 : decode cX2_insert 26 = .ok (.iaload, 1) := by decide +kernel
theorem dX2_insert_27 : decode cX2_insert 27 = .ok (.aaload, 1) := by decide +kernel
theorem dX2_insert_28 : decode cX2_insert 28 = .ok (.invokevirtual 68, 3) := by decide +kernel
theorem dX2_insert_31 : decode cX2_insert 31 = .ok (.ifCond .eq 23, 3) := by decide +kernel
theorem dX2_insert_34 : decode cX2_insert 34 = .ok (.aload_n 0, 1) := by decide +kernel
theorem dX2_insert_35 : decode cX2_insert 35 = .ok (.getfield 21, 3) := by decide +kernel
theorem dX2_insert_38 : decode cX2_insert 38 = .ok (.iload_n 2, 1) := by decide +kernel
theorem dX2_insert_39 : decode cX2_insert 39 = .ok (.aload_n 0, 1) := by decide +kernel
theorem dX2_insert_40 : decode cX2_insert 40 = .ok (.getfield 21, 3) := by decide +kernel
theorem dX2_insert_43 : decode cX2_insert 43 = .ok (.iload_n 2, 1) := by decide +kernel
theorem dX2_insert_44 : decode cX2_insert 44 = .ok (.iconst 1, 1) := by decide +kernel
theorem dX2_insert_45 : decode cX2_insert 45 = .ok (.isub, 1) := by decide +kernel
theorem dX2_insert_46 : decode cX2_insert 46 = .ok (.iaload, 1) := by decide +kernel
theorem dX2_insert_47 : decode cX2_insert 47 = .ok (.iastore, 1) := by decide +kernel
theorem dX2_insert_48 : decode cX2_insert 48 = .ok (.iinc 2 (-1), 3) := by decide +kernel
theorem dX2_insert_51 : decode cX2_insert 51 = .ok (.goto (-46), 3) := by decide +kernel
theorem dX2_insert_54 : decode cX2_insert 54 = .ok (.aload_n 0, 1) := by decide +kernel
theorem dX2_insert_55 : decode cX2_insert 55 = .ok (.getfield 21, 3) := by decide +kernel
theorem dX2_insert_58 : decode cX2_insert 58 = .ok (.iload_n 2, 1) := by decide +kernel
theorem dX2_insert_59 : decode cX2_insert 59 = .ok (.iload_n 1, 1) := by decide +kernel
theorem dX2_insert_60 : decode cX2_insert 60 = .ok (.iastore, 1) := by decide +kernel
theorem dX2_insert_61 : decode cX2_insert 61 = .ok (.aload_n 0, 1) := by decide +kernel
theorem dX2_insert_62 : decode cX2_insert 62 = .ok (.dup, 1) := by decide +kernel
theorem dX2_insert_63 : decode cX2_insert 63 = .ok (.getfield 29, 3) := by decide +kernel
theorem dX2_insert_66 : decode cX2_insert 66 = .ok (.iconst 1, 1) := by decide +kernel
theorem dX2_insert_67 : decode cX2_insert 67 = .ok (.iadd, 1) := by decide +kernel
theorem dX2_insert_68 : decode cX2_insert 68 = .ok (.putfield 29, 3) := by decide +kernel
theorem dX2_insert_71 : decode cX2_insert 71 = .ok (.return_, 1) := by decide +kernel
theorem dX3_init_0 : decode cX3_init 0 = .ok (.aload_n 0, 1) := by decide +kernel
theorem dX3_init_1 : decode cX3_init 1 = .ok (.invokespecial 5, 3) := by decide +kernel
theorem dX3_init_4 : decode cX3_init 4 = .ok (.aload_n 0, 1) := by decide +kernel
theorem dX3_init_5 : decode cX3_init 5 = .ok (.bipush 24, 2) := by decide +kernel
theorem dX3_init_7 : decode cX3_init 7 = .ok (.newarray .int, 2) := by decide +kernel
theorem dX3_init_9 : decode cX3_init 9 = .ok (.putfield 11, 3) := by decide +kernel
theorem dX3_init_12 : decode cX3_init 12 = .ok (.aload_n 0, 1) := by decide +kernel
theorem dX3_init_13 : decode cX3_init 13 = .ok (.iconst 4, 1) := by decide +kernel
theorem dX3_init_14 : decode cX3_init 14 = .ok (.newarray .int, 2) := by decide +kernel
theorem dX3_init_16 : decode cX3_init 16 = .ok (.putfield 15, 3) := by decide +kernel
theorem dX3_init_19 : decode cX3_init 19 = .ok (.aload_n 0, 1) := by decide +kernel
theorem dX3_init_20 : decode cX3_init 20 = .ok (.iconst 4, 1) := by decide +kernel
theorem dX3_init_21 : decode cX3_init 21 = .ok (.newarray .int, 2) := by decide +kernel
theorem dX3_init_23 : decode cX3_init 23 = .ok (.putfield 18, 3) := by decide +kernel
theorem dX3_init_26 : decode cX3_init 26 = .ok (.aload_n 0, 1) := by decide +kernel
theorem dX3_init_27 : decode cX3_init 27 = .ok (.iconst 4, 1) := by decide +kernel
theorem dX3_init_28 : decode cX3_init 28 = .ok (.newarray .int, 2) := by decide +kernel
theorem dX3_init_30 : decode cX3_init 30 = .ok (.putfield 21, 3) := by decide +kernel
theorem dX3_init_33 : decode cX3_init 33 = .ok (.aload_n 0, 1) := by decide +kernel
theorem dX3_init_34 : decode cX3_init 34 = .ok (.iconst 4, 1) := by decide +kernel
theorem dX3_init_35 : decode cX3_init 35 = .ok (.newarray .int, 2) := by decide +kernel
theorem dX3_init_37 : decode cX3_init 37 = .ok (.putfield 24, 3) := by decide +kernel
theorem dX3_init_40 : decode cX3_init 40 = .ok (.aload_n 0, 1) := by decide +kernel
theorem dX3_init_41 : decode cX3_init 41 = .ok (.iconst 4, 1) := by decide +kernel
theorem dX3_init_42 : decode cX3_init 42 = .ok (.newarray .int, 2) := by decide +kernel
theorem dX3_init_44 : decode cX3_init 44 = .ok (.putfield 27, 3) := by decide +kernel
theorem dX3_init_47 : decode cX3_init 47 = .ok (.aload_n 0, 1) := by decide +kernel
theorem dX3_init_48 : decode cX3_init 48 = .ok (.iconst 4, 1) := by decide +kernel
theorem dX3_init_49 : decode cX3_init 49 = .ok (.newarray .int, 2) := by decide +kernel
theorem dX3_init_51 : decode cX3_init 51 = .ok (.putfield 30, 3) := by decide +kernel
theorem dX3_init_54 : decode cX3_init 54 = .ok (.aload_n 0, 1) := by decide +kernel
theorem dX3_init_55 : decode cX3_init 55 = .ok (.iconst (-1), 1) := by decide +kernel
theorem dX3_init_56 : decode cX3_init 56 = .ok (.putfield 33, 3) := by decide +kernel
theorem dX3_init_59 : decode cX3_init 59 = .ok (.return_, 1) := by decide +kernel
theorem dX3_add_0 : decode cX3_add 0 = .ok (.aload_n 0, 1) := by decide +kernel
theorem dX3_add_1 : decode cX3_add 1 = .ok (.getfield 37, 3) := by decide +kernel
theorem dX3_add_4 : decode cX3_add 4 = .ok (.istore 4, 2) := by decide +kernel
theorem dX3_add_6 : decode cX3_add 6 = .ok (.aload_n 0, 1) := by decide +kernel
theorem dX3_add_7 : decode cX3_add 7 = .ok (.getfield 15, 3) := by decide +kernel
theorem dX3_add_10 : decode cX3_add 10 = .ok (.iload 4, 2) := by decide +kernel
theorem dX3_add_12 : decode cX3_add 12 = .ok (.iload_n 1, 1) := by decide +kernel
theorem dX3_add_13 : decode cX3_add 13 = .ok (.iastore, 1) := by decide +kernel
theorem dX3_add_14 : decode cX3_add 14 = .ok (.aload_n 0, 1) := by decide +kernel
theorem dX3_add_15 : decode cX3_add 15 = .ok (.getfield 18, 3) := by decide +kernel
theorem dX3_add_18 : decode cX3_add 18 = .ok (.iload 4, 2) := by decide +kernel
theorem dX3_add_20 : decode cX3_add 20 = .ok (.iload_n 2, 1) := by decide +kernel
theorem dX3_add_21 : decode cX3_add 21 = .ok (.iastore, 1) := by decide +kernel
theorem dX3_add_22 : decode cX3_add 22 = .ok (.aload_n 0, 1) := by decide +kernel
theorem dX3_add_23 : decode cX3_add 23 = .ok (.getfield 21, 3) := by decide +kernel
theorem dX3_add_26 : decode cX3_add 26 = .ok (.iload 4, 2) := by decide +kernel
theorem dX3_add_28 : decode cX3_add 28 = .ok (.iload_n 3, 1) := by decide +kernel
theorem dX3_add_29 : decode cX3_add 29 = .ok (.iastore, 1) := by decide +kernel
theorem dX3_add_30 : decode cX3_add 30 = .ok (.aload_n 0, 1) := by decide +kernel
theorem dX3_add_31 : decode cX3_add 31 = .ok (.dup, 1) := by decide +kernel
theorem dX3_add_32 : decode cX3_add 32 = .ok (.getfield 37, 3) := by decide +kernel
theorem dX3_add_35 : decode cX3_add 35 = .ok (.iconst 1, 1) := by decide +kernel
theorem dX3_add_36 : decode cX3_add 36 = .ok (.iadd, 1) := by decide +kernel
theorem dX3_add_37 : decode cX3_add 37 = .ok (.putfield 37, 3) := by decide +kernel
theorem dX3_add_40 : decode cX3_add 40 = .ok (.aload_n 0, 1) := by decide +kernel
theorem dX3_add_41 : decode cX3_add 41 = .ok (.iconst (-1), 1) := by decide +kernel
theorem dX3_add_42 : decode cX3_add 42 = .ok (.putfield 33, 3) := by decide +kernel
theorem dX3_add_45 : decode cX3_add 45 = .ok (.iload 4, 2) := by decide +kernel
theorem dX3_add_47 : decode cX3_add 47 = .ok (.ireturn, 1) := by decide +kernel
theorem dX3_removeAll_0 : decode cX3_removeAll 0 = .ok (.aload_n 0, 1) := by decide +kernel
theorem dX3_removeAll_1 : decode cX3_removeAll 1 = .ok (.iconst 0, 1) := by decide +kernel
theorem dX3_removeAll_2 : decode cX3_removeAll 2 = .ok (.putfield 37, 3) := by decide +kernel
theorem dX3_removeAll_5 : decode cX3_removeAll 5 = .ok (.aload_n 0, 1) := by decide +kernel
theorem dX3_removeAll_6 : decode cX3_removeAll 6 = .ok (.iconst (-1), 1) := by decide +kernel
theorem dX3_removeAll_7 : decode cX3_removeAll 7 = .ok (.putfield 33, 3) := by decide +kernel
theorem dX3_removeAll_10 : decode cX3_removeAll 10 = .ok (.return_, 1) := by decide +kernel
theorem dX3_lay_0 : decode cX3_lay 0 = .ok (.aload_n 0, 1) := by decide +kernel
theorem dX3_lay_1 : decode cX3_lay 1 = .ok (.getfield 33, 3) := by decide +kernel
theorem dX3_lay_4 : decode cX3_lay 4 = .ok (.aload_n 1, 1) := by decide +kernel
theorem dX3_lay_5 : decode cX3_lay 5 = .ok (.getfield 40, 3) := by decide +kernel
theorem dX3_lay_8 : decode cX3_lay 8 = .ok (.if_icmp .eq 24, 3) := by decide +kernel
theorem dX3_lay_11 : decode cX3_lay 11 = .ok (.aload_n 0, 1) := by decide +kernel
theorem dX3_lay_12 : decode cX3_lay 12 = .ok (.aload_n 1, 1) := by decide +kernel
theorem dX3_lay_13 : decode cX3_lay 13 = .ok (.getfield 40, 3) := by decide +kernel
theorem dX3_lay_16 : decode cX3_lay 16 = .ok (.putfield 33, 3) := by decide +kernel
theorem dX3_lay_19 : decode cX3_lay 19 = .ok (.aload_n 0, 1) := by decide +kernel
theorem dX3_lay_20 : decode cX3_lay 20 = .ok (.invokevirtual 43, 3) := by decide +kernel
theorem dX3_lay_23 : decode cX3_lay 23 = .ok (.aload_n 0, 1) := by decide +kernel
theorem dX3_lay_24 : decode cX3_lay 24 = .ok (.aload_n 0, 1) := by decide +kernel
theorem dX3_lay_25 : decode cX3_lay 25 = .ok (.aload_n 1, 1) := by decide +kernel
theorem dX3_lay_26 : decode cX3_lay 26 = .ok (.invokevirtual 46, 3) := by decide +kernel
theorem dX3_lay_29 : decode cX3_lay 29 = .ok (.putfield 50, 3) := by decide +kernel
theorem dX3_lay_32 : decode cX3_lay 32 = .ok (.aload_n 0, 1) := by decide +kernel
theorem dX3_lay_33 : decode cX3_lay 33 = .ok (.getfield 50, 3) := by decide +kernel
theorem dX3_lay_36 : decode cX3_lay 36 = .ok (.ireturn, 1) := by decide +kernel
theorem dX3_emptyAll_0 : decode cX3_emptyAll 0 = .ok (.aload_n 0, 1) := by decide +kernel
theorem dX3_emptyAll_1 : decode cX3_emptyAll 1 = .ok (.iconst 0, 1) := by decide +kernel
theorem dX3_emptyAll_2 : decode cX3_emptyAll 2 = .ok (.putfield 53, 3) := by decide +kernel
theorem dX3_emptyAll_5 : decode cX3_emptyAll 5 = .ok (.aload_n 0, 1) := by decide +kernel
theorem dX3_emptyAll_6 : decode cX3_emptyAll 6 = .ok (.getfield 11, 3) := by decide +kernel
theorem dX3_emptyAll_9 : decode cX3_emptyAll 9 = .ok (.iconst 0, 1) := by decide +kernel
theorem dX3_emptyAll_10 : decode cX3_emptyAll 10 = .ok (.iconst 0, 1) := by decide +kernel
theorem dX3_emptyAll_11 : decode cX3_emptyAll 11 = .ok (.iastore, 1) := by decide +kernel
theorem dX3_emptyAll_12 : decode cX3_emptyAll 12 = .ok (.iconst 0, 1) := by decide +kernel
theorem dX3_emptyAll_13 : decode cX3_emptyAll 13 = .ok (.istore_n 1, 1) := by decide +kernel
theorem dX3_emptyAll_14 : decode cX3_emptyAll 14 = .ok (.iload_n 1, 1) := by decide +kernel
theorem dX3_emptyAll_15 : decode cX3_emptyAll 15 = .ok (.aload_n 0, 1) := by decide +kernel
theorem dX3_emptyAll_16 : decode cX3_emptyAll 16 = .ok (.getfield 37, 3) := by decide +kernel
theorem dX3_emptyAll_19 : decode cX3_emptyAll 19 = .ok (.if_icmp .ge 45, 3) := by decide +kernel
theorem dX3_emptyAll_22 : decode cX3_emptyAll 22 = .ok (.aload_n 0, 1) := by decide +kernel
theorem dX3_emptyAll_23 : decode cX3_emptyAll 23 = .ok (.getfield 24, 3) := by decide +kernel
theorem dX3_emptyAll_26 : decode cX3_emptyAll 26 = .ok (.iload_n 1, 1) := by decide +kernel
theorem dX3_emptyAll_27 : decode cX3_emptyAll 27 = .ok (.aload_n 0, 1) := by decide +kernel
theorem dX3_emptyAll_28 : decode cX3_emptyAll 28 = .ok (.getfield 15, 3) := by decide +kernel
theorem dX3_emptyAll_31 : decode cX3_emptyAll 31 = .ok (.iload_n 1, 1) := by decide +kernel
theorem dX3_emptyAll_32 : decode cX3_emptyAll 32 = .ok (.iaload, 1) := by decide +kernel
theorem dX3_emptyAll_33 : decode cX3_emptyAll 33 = .ok (.iastore, 1) := by decide +kernel
theorem dX3_emptyAll_34 : decode cX3_emptyAll 34 = .ok (.aload_n 0, 1) := by decide +kernel
theorem dX3_emptyAll_35 : decode cX3_emptyAll 35 = .ok (.getfield 27, 3) := by decide +kernel
theorem dX3_emptyAll_38 : decode cX3_emptyAll 38 = .ok (.iload_n 1, 1) := by decide +kernel
theorem dX3_emptyAll_39 : decode cX3_emptyAll 39 = .ok (.aload_n 0, 1) := by decide +kernel
theorem dX3_emptyAll_40 : decode cX3_emptyAll 40 = .ok (.getfield 18, 3) := by decide +kernel
theorem dX3_emptyAll_43 : decode cX3_emptyAll 43 = .ok (.iload_n 1, 1) := by decide +kernel
theorem dX3_emptyAll_44 : decode cX3_emptyAll 44 = .ok (.iaload, 1) := by decide +kernel
theorem dX3_emptyAll_45 : decode cX3_emptyAll 45 = .ok (.iastore, 1) := by decide +kernel
theorem dX3_emptyAll_46 : decode cX3_emptyAll 46 = .ok (.aload_n 0, 1) := by decide +kernel
theorem dX3_emptyAll_47 : decode cX3_emptyAll 47 = .ok (.getfield 30, 3) := by decide +kernel
theorem dX3_emptyAll_50 : decode cX3_emptyAll 50 = .ok (.iload_n 1, 1) := by decide +kernel
theorem dX3_emptyAll_51 : decode cX3_emptyAll 51 = .ok (.aload_n 0, 1) := by decide +kernel
theorem dX3_emptyAll_52 : decode cX3_emptyAll 52 = .ok (.getfield 21, 3) := by decide +kernel
theorem dX3_emptyAll_55 : decode cX3_emptyAll 55 = .ok (.iload_n 1, 1) := by decide +kernel
theorem dX3_emptyAll_56 : decode cX3_emptyAll 56 = .ok (.iaload, 1) := by decide +kernel
theorem dX3_emptyAll_57 : decode cX3_emptyAll 57 = .ok (.iastore, 1) := by decide +kernel
theorem dX3_emptyAll_58 : decode cX3_emptyAll 58 = .ok (.iinc 1 1, 3) := by decide +kernel
theorem dX3_emptyAll_61 : decode cX3_emptyAll 61 = .ok (.goto (-47), 3) := by decide +kernel
theorem dX3_emptyAll_64 : decode cX3_emptyAll 64 = .ok (.return_, 1) := by decide +kernel
theorem dX3_search_0 : decode cX3_search 0 = .ok (.iconst 0, 1) := by decide +kernel
theorem dX3_search_1 : decode cX3_search 1 = .ok (.istore_n 2, 1) := by decide +kernel
theorem dX3_search_2 : decode cX3_search 2 = .ok (.iconst 0, 1) := by decide +kernel
theorem dX3_search_3 : decode cX3_search 3 = .ok (.istore_n 3, 1) := by decide +kernel
theorem dX3_search_4 : decode cX3_search 4 = .ok (.iload_n 3, 1) := by decide +kernel
theorem dX3_search_5 : decode cX3_search 5 = .ok (.ldc 56, 2) := by decide +kernel
theorem dX3_search_7 : decode cX3_search 7 = .ok (.if_icmp .ge 97, 3) := by decide +kernel
theorem dX3_search_10 : decode cX3_search 10 = .ok (.iload_n 2, 1) := by decide +kernel
theorem dX3_search_11 : decode cX3_search 11 = .ok (.ifCond .lt 93, 3) := by decide +kernel
theorem dX3_search_14 : decode cX3_search 14 = .ok (.iload_n 2, 1) := by decide +kernel
theorem dX3_search_15 : decode cX3_search 15 = .ok (.aload_n 1, 1) := by decide +kernel
theorem dX3_search_16 : decode cX3_search 16 = .ok (.getfield 40, 3) := by decide +kernel
theorem dX3_search_19 : decode cX3_search 19 = .ok (.if_icmp .ge 85, 3) := by decide +kernel
theorem dX3_search_22 : decode cX3_search 22 = .ok (.aload_n 0, 1) := by decide +kernel
theorem dX3_search_23 : decode cX3_search 23 = .ok (.getfield 11, 3) := by decide +kernel
theorem dX3_search_26 : decode cX3_search 26 = .ok (.iload_n 2, 1) := by decide +kernel
theorem dX3_search_27 : decode cX3_search 27 = .ok (.iaload, 1) := by decide +kernel
theorem dX3_search_28 : decode cX3_search 28 = .ok (.istore 4, 2) := by decide +kernel
theorem dX3_search_30 : decode cX3_search 30 = .ok (.iload 4, 2) := by decide +kernel
theorem dX3_search_32 : decode cX3_search 32 = .ok (.aload_n 0, 1) := by decide +kernel
theorem dX3_search_33 : decode cX3_search 33 = .ok (.getfield 37, 3) := by decide +kernel
theorem dX3_search_36 : decode cX3_search 36 = .ok (.if_icmp .lt 30, 3) := by decide +kernel
theorem dX3_search_39 : decode cX3_search 39 = .ok (.iinc 2 (-1), 3) := by decide +kernel
theorem dX3_search_42 : decode cX3_search 42 = .ok (.iload_n 2, 1) := by decide +kernel
theorem dX3_search_43 : decode cX3_search 43 = .ok (.ifCond .lt 55, 3) := by decide +kernel
theorem dX3_search_46 : decode cX3_search 46 = .ok (.aload_n 0, 1) := by decide +kernel
theorem dX3_search_47 : decode cX3_search 47 = .ok (.aload_n 1, 1) := by decide +kernel
theorem dX3_search_48 : decode cX3_search 48 = .ok (.iload_n 2, 1) := by decide +kernel
theorem dX3_search_49 : decode cX3_search 49 = .ok (.iconst 1, 1) := by decide +kernel
theorem dX3_search_50 : decode cX3_search 50 = .ok (.invokevirtual 57, 3) := by decide +kernel
theorem dX3_search_53 : decode cX3_search 53 = .ok (.aload_n 0, 1) := by decide +kernel
theorem dX3_search_54 : decode cX3_search 54 = .ok (.getfield 11, 3) := by decide +kernel
theorem dX3_search_57 : decode cX3_search 57 = .ok (.iload_n 2, 1) := by decide +kernel
theorem dX3_search_58 : decode cX3_search 58 = .ok (.dup2, 1) := by decide +kernel
theorem dX3_search_59 : decode cX3_search 59 = .ok (.iaload, 1) := by decide +kernel
theorem dX3_search_60 : decode cX3_search 60 = .ok (.iconst 1, 1) := by decide +kernel
theorem dX3_search_61 : decode cX3_search 61 = .ok (.iadd, 1) := by decide +kernel
theorem dX3_search_62 : decode cX3_search 62 = .ok (.iastore, 1) := by decide +kernel
theorem dX3_search_63 : decode cX3_search 63 = .ok (.goto 35, 3) := by decide +kernel
theorem dX3_search_66 : decode cX3_search 66 = .ok (.aload_n 0, 1) := by decide +kernel
theorem dX3_search_67 : decode cX3_search 67 = .ok (.getfield 53, 3) := by decide +kernel
theorem dX3_search_70 : decode cX3_search 70 = .ok (.sipush 20000, 3) := by decide +kernel
theorem dX3_search_73 : decode cX3_search 73 = .ok (.if_icmp .lt 6, 3) := by decide +kernel
theorem dX3_search_76 : decode cX3_search 76 = .ok (.bipush 10, 2) := by decide +kernel
theorem dX3_search_78 : decode cX3_search 78 = .ok (.ireturn, 1) := by decide +kernel
theorem dX3_search_79 : decode cX3_search 79 = .ok (.aload_n 0, 1) := by decide +kernel
theorem dX3_search_80 : decode cX3_search 80 = .ok (.dup, 1) := by decide +kernel
theorem dX3_search_81 : decode cX3_search 81 = .ok (.getfield 53, 3) := by decide +kernel
theorem dX3_search_84 : decode cX3_search 84 = .ok (.iconst 1, 1) := by decide +kernel
theorem dX3_search_85 : decode cX3_search 85 = .ok (.iadd, 1) := by decide +kernel
theorem dX3_search_86 : decode cX3_search 86 = .ok (.putfield 53, 3) := by decide +kernel
theorem dX3_search_89 : decode cX3_search 89 = .ok (.aload_n 0, 1) := by decide +kernel
theorem dX3_search_90 : decode cX3_search 90 = .ok (.aload_n 1, 1) := by decide +kernel
theorem dX3_search_91 : decode cX3_search 91 = .ok (.iload_n 2, 1) := by decide +kernel
theorem dX3_search_92 : decode cX3_search 92 = .ok (.iload 4, 2) := by decide +kernel
theorem dX3_search_94 : decode cX3_search 94 = .ok (.invokevirtual 61, 3) := by decide +kernel
theorem dX3_search_97 : decode cX3_search 97 = .ok (.istore_n 2, 1) := by decide +kernel
theorem dX3_search_98 : decode cX3_search 98 = .ok (.iinc 3 1, 3) := by decide +kernel
theorem dX3_search_101 : decode cX3_search 101 = .ok (.goto (-97), 3) := by decide +kernel
theorem dX3_search_104 : decode cX3_search 104 = .ok (.iload_n 2, 1) := by decide +kernel
theorem dX3_search_105 : decode cX3_search 105 = .ok (.ifCond .ge 8, 3) := by decide +kernel
theorem dX3_search_108 : decode cX3_search 108 = .ok (.bipush 8, 2) := by decide +kernel
theorem dX3_search_110 : decode cX3_search 110 = .ok (.goto 4, 3) := by decide +kernel
theorem dX3_search_113 : decode cX3_search 113 = .ok (.iconst 0, 1) := by decide +kernel
theorem dX3_search_114 : decode cX3_search 114 = .ok (.ireturn, 1) := by decide +kernel
theorem dX3_place_0 : decode cX3_place 0 = .ok (.aload_n 0, 1) := by decide +kernel
theorem dX3_place_1 : decode cX3_place 1 = .ok (.getfield 24, 3) := by decide +kernel
theorem dX3_place_4 : decode cX3_place 4 = .ok (.iload_n 3, 1) := by decide +kernel
theorem dX3_place_5 : decode cX3_place 5 = .ok (.iaload, 1) := by decide +kernel
theorem dX3_place_6 : decode cX3_place 6 = .ok (.iconst 1, 1) := by decide +kernel
theorem dX3_place_7 : decode cX3_place 7 = .ok (.if_icmp .lt 37, 3) := by decide +kernel
theorem dX3_place_10 : decode cX3_place 10 = .ok (.aload_n 0, 1) := by decide +kernel
theorem dX3_place_11 : decode cX3_place 11 = .ok (.getfield 27, 3) := by decide +kernel
theorem dX3_place_14 : decode cX3_place 14 = .ok (.iload_n 3, 1) := by decide +kernel
theorem dX3_place_15 : decode cX3_place 15 = .ok (.iaload, 1) := by decide +kernel
theorem dX3_place_16 : decode cX3_place 16 = .ok (.aload_n 1, 1) := by decide +kernel
theorem dX3_place_17 : decode cX3_place 17 = .ok (.getfield 65, 3) := by decide +kernel
theorem dX3_place_20 : decode cX3_place 20 = .ok (.iload_n 2, 1) := by decide +kernel
theorem dX3_place_21 : decode cX3_place 21 = .ok (.iaload, 1) := by decide +kernel
theorem dX3_place_22 : decode cX3_place 22 = .ok (.if_icmp .lt 22, 3) := by decide +kernel
theorem dX3_place_25 : decode cX3_place 25 = .ok (.aload_n 0, 1) := by decide +kernel
theorem dX3_place_26 : decode cX3_place 26 = .ok (.getfield 30, 3) := by decide +kernel
theorem dX3_place_29 : decode cX3_place 29 = .ok (.iload_n 3, 1) := by decide +kernel
theorem dX3_place_30 : decode cX3_place 30 = .ok (.iaload, 1) := by decide +kernel
theorem dX3_place_31 : decode cX3_place 31 = .ok (.aload_n 1, 1) := by decide +kernel
theorem dX3_place_32 : decode cX3_place 32 = .ok (.getfield 66, 3) := by decide +kernel
theorem dX3_place_35 : decode cX3_place 35 = .ok (.iload_n 2, 1) := by decide +kernel
theorem dX3_place_36 : decode cX3_place 36 = .ok (.iaload, 1) := by decide +kernel
theorem dX3_place_37 : decode cX3_place 37 = .ok (.if_icmp .lt 7, 3) := by decide +kernel
theorem dX3_place_40 : decode cX3_place 40 = .ok (.iconst 1, 1) := by decide +kernel
theorem dX3_place_41 : decode cX3_place 41 = .ok (.goto 4, 3) := by decide +kernel
theorem dX3_place_44 : decode cX3_place 44 = .ok (.iconst 0, 1) := by decide +kernel
theorem dX3_place_45 : decode cX3_place 45 = .ok (.istore 4, 2) := by decide +kernel
theorem dX3_place_47 : decode cX3_place 47 = .ok (.iload 4, 2) := by decide +kernel
theorem dX3_place_49 : decode cX3_place 49 = .ok (.ifCond .ne 15, 3) := by decide +kernel
theorem dX3_place_52 : decode cX3_place 52 = .ok (.aload_n 0, 1) := by decide +kernel
theorem dX3_place_53 : decode cX3_place 53 = .ok (.getfield 11, 3) := by decide +kernel
theorem dX3_place_56 : decode cX3_place 56 = .ok (.iload_n 2, 1) := by decide +kernel
theorem dX3_place_57 : decode cX3_place 57 = .ok (.dup2, 1) := by decide +kernel
theorem dX3_place_58 : decode cX3_place 58 = .ok (.iaload, 1) := by decide +kernel
theorem dX3_place_59 : decode cX3_place 59 = .ok (.iconst 1, 1) := by decide +kernel
theorem dX3_place_60 : decode cX3_place 60 = .ok (.iadd, 1) := by decide +kernel
theorem dX3_place_61 : decode cX3_place 61 = .ok (.iastore, 1) := by decide +kernel
theorem dX3_place_62 : decode cX3_place 62 = .ok (.iload_n 2, 1) := by decide +kernel
theorem dX3_place_63 : decode cX3_place 63 = .ok (.ireturn, 1) := by decide +kernel
theorem dX3_place_64 : decode cX3_place 64 = .ok (.aload_n 0, 1) := by decide +kernel
theorem dX3_place_65 : decode cX3_place 65 = .ok (.aload_n 1, 1) := by decide +kernel
theorem dX3_place_66 : decode cX3_place 66 = .ok (.iload_n 2, 1) := by decide +kernel
theorem dX3_place_67 : decode cX3_place 67 = .ok (.iconst (-1), 1) := by decide +kernel
theorem dX3_place_68 : decode cX3_place 68 = .ok (.invokevirtual 57, 3) := by decide +kernel
theorem dX3_place_71 : decode cX3_place 71 = .ok (.iload_n 2, 1) := by decide +kernel
theorem dX3_place_72 : decode cX3_place 72 = .ok (.iconst 1, 1) := by decide +kernel
theorem dX3_place_73 : decode cX3_place 73 = .ok (.iadd, 1) := by decide +kernel
theorem dX3_place_74 : decode cX3_place 74 = .ok (.bipush 24, 2) := by decide +kernel
theorem dX3_place_76 : decode cX3_place 76 = .ok (.if_icmp .ge 12, 3) := by decide +kernel
theorem dX3_place_79 : decode cX3_place 79 = .ok (.aload_n 0, 1) := by decide +kernel
theorem dX3_place_80 : decode cX3_place 80 = .ok (.getfield 11, 3) := by decide +kernel
theorem dX3_place_83 : decode cX3_place 83 = .ok (.iload_n 2, 1) := by decide +kernel
theorem dX3_place_84 : decode cX3_place 84 = .ok (.iconst 1, 1) := by decide +kernel
theorem dX3_place_85 : decode cX3_place 85 = .ok (.iadd, 1) := by decide +kernel
theorem dX3_place_86 : decode cX3_place 86 = .ok (.iconst 0, 1) := by decide +kernel
theorem dX3_place_87 : decode cX3_place 87 = .ok (.iastore, 1) := by decide +kernel
theorem dX3_place_88 : decode cX3_place 88 = .ok (.iload_n 2, 1) := by decide +kernel
theorem dX3_place_89 : decode cX3_place 89 = .ok (.iconst 1, 1) := by decide +kernel
theorem dX3_place_90 : decode cX3_place 90 = .ok (.iadd, 1) := by decide +kernel
theorem dX3_place_91 : decode cX3_place 91 = .ok (.ireturn, 1) := by decide +kernel
theorem dX3_move_0 : decode cX3_move 0 = .ok (.aload_n 0, 1) := by decide +kernel
theorem dX3_move_1 : decode cX3_move 1 = .ok (.getfield 11, 3) := by decide +kernel
theorem dX3_move_4 : decode cX3_move 4 = .ok (.iload_n 2, 1) := by decide +kernel
theorem dX3_move_5 : decode cX3_move 5 = .ok (.iaload, 1) := by decide +kernel
theorem dX3_move_6 : decode cX3_move 6 = .ok (.istore 4, 2) := by decide +kernel
theorem dX3_move_8 : decode cX3_move 8 = .ok (.aload_n 0, 1) := by decide +kernel
theorem dX3_move_9 : decode cX3_move 9 = .ok (.getfield 24, 3) := by decide +kernel
theorem dX3_move_12 : decode cX3_move 12 = .ok (.iload 4, 2) := by decide +kernel
theorem dX3_move_14 : decode cX3_move 14 = .ok (.dup2, 1) := by decide +kernel
theorem dX3_move_15 : decode cX3_move 15 = .ok (.iaload, 1) := by decide +kernel
theorem dX3_move_16 : decode cX3_move 16 = .ok (.iload_n 3, 1) := by decide +kernel
theorem dX3_move_17 : decode cX3_move 17 = .ok (.iadd, 1) := by decide +kernel
theorem dX3_move_18 : decode cX3_move 18 = .ok (.iastore, 1) := by decide +kernel
theorem dX3_move_19 : decode cX3_move 19 = .ok (.aload_n 0, 1) := by decide +kernel
theorem dX3_move_20 : decode cX3_move 20 = .ok (.getfield 27, 3) := by decide +kernel
theorem dX3_move_23 : decode cX3_move 23 = .ok (.iload 4, 2) := by decide +kernel
theorem dX3_move_25 : decode cX3_move 25 = .ok (.dup2, 1) := by decide +kernel
theorem dX3_move_26 : decode cX3_move 26 = .ok (.iaload, 1) := by decide +kernel
theorem dX3_move_27 : decode cX3_move 27 = .ok (.iload_n 3, 1) := by decide +kernel
theorem dX3_move_28 : decode cX3_move 28 = .ok (.aload_n 1, 1) := by decide +kernel
theorem dX3_move_29 : decode cX3_move 29 = .ok (.getfield 65, 3) := by decide +kernel
theorem dX3_move_32 : decode cX3_move 32 = .ok (.iload_n 2, 1) := by decide +kernel
theorem dX3_move_33 : decode cX3_move 33 = .ok (.iaload, 1) := by decide +kernel
theorem dX3_move_34 : decode cX3_move 34 = .ok (.imul, 1) := by decide +kernel
theorem dX3_move_35 : decode cX3_move 35 = .ok (.iadd, 1) := by decide +kernel
theorem dX3_move_36 : decode cX3_move 36 = .ok (.iastore, 1) := by decide +kernel
theorem dX3_move_37 : decode cX3_move 37 = .ok (.aload_n 0, 1) := by decide +kernel
theorem dX3_move_38 : decode cX3_move 38 = .ok (.getfield 30, 3) := by decide +kernel
theorem dX3_move_41 : decode cX3_move 41 = .ok (.iload 4, 2) := by decide +kernel
theorem dX3_move_43 : decode cX3_move 43 = .ok (.dup2, 1) := by decide +kernel
theorem dX3_move_44 : decode cX3_move 44 = .ok (.iaload, 1) := by decide +kernel
theorem dX3_move_45 : decode cX3_move 45 = .ok (.iload_n 3, 1) := by decide +kernel
theorem dX3_move_46 : decode cX3_move 46 = .ok (.aload_n 1, 1) := by decide +kernel
theorem dX3_move_47 : decode cX3_move 47 = .ok (.getfield 66, 3) := by decide +kernel
theorem dX3_move_50 : decode cX3_move 50 = .ok (.iload_n 2, 1) := by decide +kernel
theorem dX3_move_51 : decode cX3_move 51 = .ok (.iaload, 1) := by decide +kernel
theorem dX3_move_52 : decode cX3_move 52 = .ok (.imul, 1) := by decide +kernel
theorem dX3_move_53 : decode cX3_move 53 = .ok (.iadd, 1) := by decide +kernel
theorem dX3_move_54 : decode cX3_move 54 = .ok (.iastore, 1) := by decide +kernel
theorem dX3_move_55 : decode cX3_move 55 = .ok (.return_, 1) := by decide +kernel
theorem dX4_init_0 : decode cX4_init 0 = .ok (.aload_n 0, 1) := by decide +kernel
theorem dX4_init_1 : decode cX4_init 1 = .ok (.invokespecial 3, 3) := by decide +kernel
theorem dX4_init_4 : decode cX4_init 4 = .ok (.aload_n 0, 1) := by decide +kernel
theorem dX4_init_5 : decode cX4_init 5 = .ok (.bipush 12, 2) := by decide +kernel
theorem dX4_init_7 : decode cX4_init 7 = .ok (.newarray .int, 2) := by decide +kernel
theorem dX4_init_9 : decode cX4_init 9 = .ok (.putfield 9, 3) := by decide +kernel
theorem dX4_init_12 : decode cX4_init 12 = .ok (.aload_n 0, 1) := by decide +kernel
theorem dX4_init_13 : decode cX4_init 13 = .ok (.bipush 12, 2) := by decide +kernel
theorem dX4_init_15 : decode cX4_init 15 = .ok (.newarray .int, 2) := by decide +kernel
theorem dX4_init_17 : decode cX4_init 17 = .ok (.putfield 15, 3) := by decide +kernel
theorem dX4_init_20 : decode cX4_init 20 = .ok (.aload_n 0, 1) := by decide +kernel
theorem dX4_init_21 : decode cX4_init 21 = .ok (.bipush 12, 2) := by decide +kernel
theorem dX4_init_23 : decode cX4_init 23 = .ok (.newarray .int, 2) := by decide +kernel
theorem dX4_init_25 : decode cX4_init 25 = .ok (.putfield 18, 3) := by decide +kernel
theorem dX4_init_28 : decode cX4_init 28 = .ok (.return_, 1) := by decide +kernel
theorem dX4_has_0 : decode cX4_has 0 = .ok (.iload_n 1, 1) := by decide +kernel
theorem dX4_has_1 : decode cX4_has 1 = .ok (.ifCond .lt 15, 3) := by decide +kernel
theorem dX4_has_4 : decode cX4_has 4 = .ok (.iload_n 1, 1) := by decide +kernel
theorem dX4_has_5 : decode cX4_has 5 = .ok (.aload_n 0, 1) := by decide +kernel
theorem dX4_has_6 : decode cX4_has 6 = .ok (.getfield 21, 3) := by decide +kernel
theorem dX4_has_9 : decode cX4_has 9 = .ok (.if_icmp .ge 7, 3) := by decide +kernel
theorem dX4_has_12 : decode cX4_has 12 = .ok (.iconst 1, 1) := by decide +kernel
theorem dX4_has_13 : decode cX4_has 13 = .ok (.goto 4, 3) := by decide +kernel
theorem dX4_has_16 : decode cX4_has 16 = .ok (.iconst 0, 1) := by decide +kernel
theorem dX4_has_17 : decode cX4_has 17 = .ok (.ireturn, 1) := by decide +kernel
theorem dX4_add_0 : decode cX4_add 0 = .ok (.aload_n 0, 1) := by decide +kernel
theorem dX4_add_1 : decode cX4_add 1 = .ok (.getfield 21, 3) := by decide +kernel
theorem dX4_add_4 : decode cX4_add 4 = .ok (.istore 4, 2) := by decide +kernel
theorem dX4_add_6 : decode cX4_add 6 = .ok (.aload_n 0, 1) := by decide +kernel
theorem dX4_add_7 : decode cX4_add 7 = .ok (.getfield 9, 3) := by decide +kernel
theorem dX4_add_10 : decode cX4_add 10 = .ok (.iload 4, 2) := by decide +kernel
theorem dX4_add_12 : decode cX4_add 12 = .ok (.iload_n 1, 1) := by decide +kernel
theorem dX4_add_13 : decode cX4_add 13 = .ok (.iastore, 1) := by decide +kernel
theorem dX4_add_14 : decode cX4_add 14 = .ok (.aload_n 0, 1) := by decide +kernel
theorem dX4_add_15 : decode cX4_add 15 = .ok (.getfield 15, 3) := by decide +kernel
theorem dX4_add_18 : decode cX4_add 18 = .ok (.iload 4, 2) := by decide +kernel
theorem dX4_add_20 : decode cX4_add 20 = .ok (.iload_n 2, 1) := by decide +kernel
theorem dX4_add_21 : decode cX4_add 21 = .ok (.iastore, 1) := by decide +kernel
theorem dX4_add_22 : decode cX4_add 22 = .ok (.aload_n 0, 1) := by decide +kernel
theorem dX4_add_23 : decode cX4_add 23 = .ok (.getfield 18, 3) := by decide +kernel
theorem dX4_add_26 : decode cX4_add 26 = .ok (.iload 4, 2) := by decide +kernel
theorem dX4_add_28 : decode cX4_add 28 = .ok (.iload_n 3, 1) := by decide +kernel
theorem dX4_add_29 : decode cX4_add 29 = .ok (.iastore, 1) := by decide +kernel
theorem dX4_add_30 : decode cX4_add 30 = .ok (.aload_n 0, 1) := by decide +kernel
theorem dX4_add_31 : decode cX4_add 31 = .ok (.dup, 1) := by decide +kernel
theorem dX4_add_32 : decode cX4_add 32 = .ok (.getfield 21, 3) := by decide +kernel
theorem dX4_add_35 : decode cX4_add 35 = .ok (.iconst 1, 1) := by decide +kernel
theorem dX4_add_36 : decode cX4_add 36 = .ok (.iadd, 1) := by decide +kernel
theorem dX4_add_37 : decode cX4_add 37 = .ok (.putfield 21, 3) := by decide +kernel
theorem dX4_add_40 : decode cX4_add 40 = .ok (.iload 4, 2) := by decide +kernel
theorem dX4_add_42 : decode cX4_add 42 = .ok (.ireturn, 1) := by decide +kernel
theorem dX4_isAllowed_0 : decode cX4_isAllowed 0 = .ok (.aload_n 0, 1) := by decide +kernel
theorem dX4_isAllowed_1 : decode cX4_isAllowed 1 = .ok (.getfield 9, 3) := by decide +kernel
theorem dX4_isAllowed_4 : decode cX4_isAllowed 4 = .ok (.iload_n 1, 1) := by decide +kernel
theorem dX4_isAllowed_5 : decode cX4_isAllowed 5 = .ok (.iaload, 1) := by decide +kernel
theorem dX4_isAllowed_6 : decode cX4_isAllowed 6 = .ok (.aload_n 2, 1) := by decide +kernel
theorem dX4_isAllowed_7 : decode cX4_isAllowed 7 = .ok (.getfield 25, 3) := by decide +kernel
theorem dX4_isAllowed_10 : decode cX4_isAllowed 10 = .ok (.iload_n 3, 1) := by decide +kernel
theorem dX4_isAllowed_11 : decode cX4_isAllowed 11 = .ok (.iaload, 1) := by decide +kernel
theorem dX4_isAllowed_12 : decode cX4_isAllowed 12 = .ok (.ishr, 1) := by decide +kernel
theorem dX4_isAllowed_13 : decode cX4_isAllowed 13 = .ok (.iconst 1, 1) := by decide +kernel
theorem dX4_isAllowed_14 : decode cX4_isAllowed 14 = .ok (.iand, 1) := by decide +kernel
theorem dX4_isAllowed_15 : decode cX4_isAllowed 15 = .ok (.iconst 1, 1) := by decide +kernel
theorem dX4_isAllowed_16 : decode cX4_isAllowed 16 = .ok (.if_icmp .ne 7, 3) := by decide +kernel
theorem dX4_isAllowed_19 : decode cX4_isAllowed 19 = .ok (.iconst 1, 1) := by decide +kernel
theorem dX4_isAllowed_20 : decode cX4_isAllowed 20 = .ok (.goto 4, 3) := by decide +kernel
theorem dX4_isAllowed_23 : decode cX4_isAllowed 23 = .ok (.iconst 0, 1) := by decide +kernel
theorem dX4_isAllowed_24 : decode cX4_isAllowed 24 = .ok (.istore 4, 2) := by decide +kernel
theorem dX4_isAllowed_26 : decode cX4_isAllowed 26 = .ok (.iload 4, 2) := by decide +kernel
theorem dX4_isAllowed_28 : decode cX4_isAllowed 28 = .ok (.ifCond .eq 22, 3) := by decide +kernel
theorem dX4_isAllowed_31 : decode cX4_isAllowed 31 = .ok (.aload_n 0, 1) := by decide +kernel
theorem dX4_isAllowed_32 : decode cX4_isAllowed 32 = .ok (.getfield 15, 3) := by decide +kernel
theorem dX4_isAllowed_35 : decode cX4_isAllowed 35 = .ok (.iload_n 1, 1) := by decide +kernel
theorem dX4_isAllowed_36 : decode cX4_isAllowed 36 = .ok (.iaload, 1) := by decide +kernel
theorem dX4_isAllowed_37 : decode cX4_isAllowed 37 = .ok (.aload_n 2, 1) := by decide +kernel
theorem dX4_isAllowed_38 : decode cX4_isAllowed 38 = .ok (.getfield 30, 3) := by decide +kernel
theorem dX4_isAllowed_41 : decode cX4_isAllowed 41 = .ok (.iload_n 3, 1) := by decide +kernel
theorem dX4_isAllowed_42 : decode cX4_isAllowed 42 = .ok (.iaload, 1) := by decide +kernel
theorem dX4_isAllowed_43 : decode cX4_isAllowed 43 = .ok (.if_icmp .eq 7, 3) := by decide +kernel
theorem dX4_isAllowed_46 : decode cX4_isAllowed 46 = .ok (.iconst 1, 1) := by decide +kernel
theorem dX4_isAllowed_47 : decode cX4_isAllowed 47 = .ok (.goto 4, 3) := by decide +kernel
theorem dX4_isAllowed_50 : decode cX4_isAllowed 50 = .ok (.iconst 0, 1) := by decide +kernel
theorem dX4_isAllowed_51 : decode cX4_isAllowed 51 = .ok (.ireturn, 1) := by decide +kernel
theorem dX4_allowedFor_0 : decode cX4_allowedFor 0 = .ok (.iconst 0, 1) := by decide +kernel
theorem dX4_allowedFor_1 : decode cX4_allowedFor 1 = .ok (.istore_n 3, 1) := by decide +kernel
theorem dX4_allowedFor_2 : decode cX4_allowedFor 2 = .ok (.iconst 0, 1) := by decide +kernel
theorem dX4_allowedFor_3 : decode cX4_allowedFor 3 = .ok (.istore 4, 2) := by decide +kernel
theorem dX4_allowedFor_5 : decode cX4_allowedFor 5 = .ok (.iload 4, 2) := by decide +kernel
theorem dX4_allowedFor_7 : decode cX4_allowedFor 7 = .ok (.aload_n 0, 1) := by decide +kernel
theorem dX4_allowedFor_8 : decode cX4_allowedFor 8 = .ok (.getfield 21, 3) := by decide +kernel
theorem dX4_allowedFor_11 : decode cX4_allowedFor 11 = .ok (.if_icmp .ge 27, 3) := by decide +kernel
theorem dX4_allowedFor_14 : decode cX4_allowedFor 14 = .ok (.aload_n 0, 1) := by decide +kernel
theorem dX4_allowedFor_15 : decode cX4_allowedFor 15 = .ok (.iload 4, 2) := by decide +kernel
theorem dX4_allowedFor_17 : decode cX4_allowedFor 17 = .ok (.aload_n 1, 1) := by decide +kernel
theorem dX4_allowedFor_18 : decode cX4_allowedFor 18 = .ok (.iload_n 2, 1) := by decide +kernel
theorem dX4_allowedFor_19 : decode cX4_allowedFor 19 = .ok (.invokevirtual 31, 3) := by decide +kernel
theorem dX4_allowedFor_22 : decode cX4_allowedFor 22 = .ok (.ifCond .eq 10, 3) := by decide +kernel
theorem dX4_allowedFor_25 : decode cX4_allowedFor 25 = .ok (.iload_n 3, 1) := by decide +kernel
theorem dX4_allowedFor_26 : decode cX4_allowedFor 26 = .ok (.iconst 1, 1) := by decide +kernel
theorem dX4_allowedFor_27 : decode cX4_allowedFor 27 = .ok (.iload 4, 2) := by decide +kernel
theorem dX4_allowedFor_29 : decode cX4_allowedFor 29 = .ok (.ishl, 1) := by decide +kernel
theorem dX4_allowedFor_30 : decode cX4_allowedFor 30 = .ok (.ior, 1) := by decide +kernel
theorem dX4_allowedFor_31 : decode cX4_allowedFor 31 = .ok (.istore_n 3, 1) := by decide +kernel
theorem dX4_allowedFor_32 : decode cX4_allowedFor 32 = .ok (.iinc 4 1, 3) := by decide +kernel
theorem dX4_allowedFor_35 : decode cX4_allowedFor 35 = .ok (.goto (-30), 3) := by decide +kernel
theorem dX4_allowedFor_38 : decode cX4_allowedFor 38 = .ok (.iload_n 3, 1) := by decide +kernel
theorem dX4_allowedFor_39 : decode cX4_allowedFor 39 = .ok (.ireturn, 1) := by decide +kernel
theorem dX5_init_0 : decode cX5_init 0 = .ok (.aload_n 0, 1) := by decide +kernel
theorem dX5_init_1 : decode cX5_init 1 = .ok (.invokespecial 3, 3) := by decide +kernel
theorem dX5_init_4 : decode cX5_init 4 = .ok (.aload_n 0, 1) := by decide +kernel
theorem dX5_init_5 : decode cX5_init 5 = .ok (.bipush 12, 2) := by decide +kernel
theorem dX5_init_7 : decode cX5_init 7 = .ok (.newarray .int, 2) := by decide +kernel
theorem dX5_init_9 : decode cX5_init 9 = .ok (.putfield 9, 3) := by decide +kernel
theorem dX5_init_12 : decode cX5_init 12 = .ok (.aload_n 0, 1) := by decide +kernel
theorem dX5_init_13 : decode cX5_init 13 = .ok (.sipush 288, 3) := by decide +kernel
theorem dX5_init_16 : decode cX5_init 16 = .ok (.newarray .int, 2) := by decide +kernel
theorem dX5_init_18 : decode cX5_init 18 = .ok (.putfield 15, 3) := by decide +kernel
theorem dX5_init_21 : decode cX5_init 21 = .ok (.aload_n 0, 1) := by decide +kernel
theorem dX5_init_22 : decode cX5_init 22 = .ok (.sipush 288, 3) := by decide +kernel
theorem dX5_init_25 : decode cX5_init 25 = .ok (.newarray .int, 2) := by decide +kernel
theorem dX5_init_27 : decode cX5_init 27 = .ok (.putfield 18, 3) := by decide +kernel
theorem dX5_init_30 : decode cX5_init 30 = .ok (.return_, 1) := by decide +kernel
theorem dX5_lookBack_0 : decode cX5_lookBack 0 = .ok (.aload_n 0, 1) := by decide +kernel
theorem dX5_lookBack_1 : decode cX5_lookBack 1 = .ok (.aload_n 1, 1) := by decide +kernel
theorem dX5_lookBack_2 : decode cX5_lookBack 2 = .ok (.iload_n 2, 1) := by decide +kernel
theorem dX5_lookBack_3 : decode cX5_lookBack 3 = .ok (.invokevirtual 21, 3) := by decide +kernel
theorem dX5_lookBack_6 : decode cX5_lookBack 6 = .ok (.aload_n 0, 1) := by decide +kernel
theorem dX5_lookBack_7 : decode cX5_lookBack 7 = .ok (.invokevirtual 25, 3) := by decide +kernel
theorem dX5_lookBack_10 : decode cX5_lookBack 10 = .ok (.return_, 1) := by decide +kernel
theorem dX5_pointsOf_0 : decode cX5_pointsOf 0 = .ok (.aload_n 0, 1) := by decide +kernel
theorem dX5_pointsOf_1 : decode cX5_pointsOf 1 = .ok (.getfield 15, 3) := by decide +kernel
theorem dX5_pointsOf_4 : decode cX5_pointsOf 4 = .ok (.iload_n 1, 1) := by decide +kernel
theorem dX5_pointsOf_5 : decode cX5_pointsOf 5 = .ok (.bipush 24, 2) := by decide +kernel
theorem dX5_pointsOf_7 : decode cX5_pointsOf 7 = .ok (.imul, 1) := by decide +kernel
theorem dX5_pointsOf_8 : decode cX5_pointsOf 8 = .ok (.iload_n 2, 1) := by decide +kernel
theorem dX5_pointsOf_9 : decode cX5_pointsOf 9 = .ok (.iadd, 1) := by decide +kernel
theorem dX5_pointsOf_10 : decode cX5_pointsOf 10 = .ok (.iaload, 1) := by decide +kernel
theorem dX5_pointsOf_11 : decode cX5_pointsOf 11 = .ok (.ireturn, 1) := by decide +kernel
theorem dX5_marksOf_0 : decode cX5_marksOf 0 = .ok (.iconst 0, 1) := by decide +kernel
theorem dX5_marksOf_1 : decode cX5_marksOf 1 = .ok (.istore_n 2, 1) := by decide +kernel
theorem dX5_marksOf_2 : decode cX5_marksOf 2 = .ok (.iconst 0, 1) := by decide +kernel
theorem dX5_marksOf_3 : decode cX5_marksOf 3 = .ok (.istore_n 3, 1) := by decide +kernel
theorem dX5_marksOf_4 : decode cX5_marksOf 4 = .ok (.iload_n 3, 1) := by decide +kernel
theorem dX5_marksOf_5 : decode cX5_marksOf 5 = .ok (.bipush 12, 2) := by decide +kernel
theorem dX5_marksOf_7 : decode cX5_marksOf 7 = .ok (.if_icmp .ge 22, 3) := by decide +kernel
theorem dX5_marksOf_10 : decode cX5_marksOf 10 = .ok (.aload_n 0, 1) := by decide +kernel
theorem dX5_marksOf_11 : decode cX5_marksOf 11 = .ok (.iload_n 3, 1) := by decide +kernel
theorem dX5_marksOf_12 : decode cX5_marksOf 12 = .ok (.iload_n 1, 1) := by decide +kernel
theorem dX5_marksOf_13 : decode cX5_marksOf 13 = .ok (.invokevirtual 28, 3) := by decide +kernel
theorem dX5_marksOf_16 : decode cX5_marksOf 16 = .ok (.iconst (-1), 1) := by decide +kernel
theorem dX5_marksOf_17 : decode cX5_marksOf 17 = .ok (.if_icmp .eq 6, 3) := by decide +kernel
theorem dX5_marksOf_20 : decode cX5_marksOf 20 = .ok (.iinc 2 1, 3) := by decide +kernel
theorem dX5_marksOf_23 : decode cX5_marksOf 23 = .ok (.iinc 3 1, 3) := by decide +kernel
theorem dX5_marksOf_26 : decode cX5_marksOf 26 = .ok (.goto (-22), 3) := by decide +kernel
theorem dX5_marksOf_29 : decode cX5_marksOf 29 = .ok (.iload_n 2, 1) := by decide +kernel
theorem dX5_marksOf_30 : decode cX5_marksOf 30 = .ok (.ireturn, 1) := by decide +kernel
theorem dX5_heapAround_0 : decode cX5_heapAround 0 = .ok (.iconst 0, 1) := by decide +kernel
theorem dX5_heapAround_1 : decode cX5_heapAround 1 = .ok (.istore_n 2, 1) := by decide +kernel
theorem dX5_heapAround_2 : decode cX5_heapAround 2 = .ok (.iload_n 2, 1) := by decide +kernel
theorem dX5_heapAround_3 : decode cX5_heapAround 3 = .ok (.bipush 12, 2) := by decide +kernel
theorem dX5_heapAround_5 : decode cX5_heapAround 5 = .ok (.if_icmp .ge 26, 3) := by decide +kernel
theorem dX5_heapAround_8 : decode cX5_heapAround 8 = .ok (.aload_n 0, 1) := by decide +kernel
theorem dX5_heapAround_9 : decode cX5_heapAround 9 = .ok (.iload_n 2, 1) := by decide +kernel
theorem dX5_heapAround_10 : decode cX5_heapAround 10 = .ok (.iload_n 1, 1) := by decide +kernel
theorem dX5_heapAround_11 : decode cX5_heapAround 11 = .ok (.invokevirtual 28, 3) := by decide +kernel
theorem dX5_heapAround_14 : decode cX5_heapAround 14 = .ok (.iconst (-1), 1) := by decide +kernel
theorem dX5_heapAround_15 : decode cX5_heapAround 15 = .ok (.if_icmp .eq 10, 3) := by decide +kernel
theorem dX5_heapAround_18 : decode cX5_heapAround 18 = .ok (.aload_n 0, 1) := by decide +kernel
theorem dX5_heapAround_19 : decode cX5_heapAround 19 = .ok (.getfield 9, 3) := by decide +kernel
theorem dX5_heapAround_22 : decode cX5_heapAround 22 = .ok (.iload_n 2, 1) := by decide +kernel
theorem dX5_heapAround_23 : decode cX5_heapAround 23 = .ok (.iaload, 1) := by decide +kernel
theorem dX5_heapAround_24 : decode cX5_heapAround 24 = .ok (.ireturn, 1) := by decide +kernel
theorem dX5_heapAround_25 : decode cX5_heapAround 25 = .ok (.iinc 2 1, 3) := by decide +kernel
theorem dX5_heapAround_28 : decode cX5_heapAround 28 = .ok (.goto (-26), 3) := by decide +kernel
theorem dX5_heapAround_31 : decode cX5_heapAround 31 = .ok (.iconst (-1), 1) := by decide +kernel
theorem dX5_heapAround_32 : decode cX5_heapAround 32 = .ok (.ireturn, 1) := by decide +kernel
theorem dX5_isGreat_0 : decode cX5_isGreat 0 = .ok (.iconst 0, 1) := by decide +kernel
theorem dX5_isGreat_1 : decode cX5_isGreat 1 = .ok (.istore_n 2, 1) := by decide +kernel
theorem dX5_isGreat_2 : decode cX5_isGreat 2 = .ok (.iconst 0, 1) := by decide +kernel
theorem dX5_isGreat_3 : decode cX5_isGreat 3 = .ok (.istore_n 3, 1) := by decide +kernel
theorem dX5_isGreat_4 : decode cX5_isGreat 4 = .ok (.iload_n 3, 1) := by decide +kernel
theorem dX5_isGreat_5 : decode cX5_isGreat 5 = .ok (.bipush 12, 2) := by decide +kernel
theorem dX5_isGreat_7 : decode cX5_isGreat 7 = .ok (.if_icmp .ge 22, 3) := by decide +kernel
theorem dX5_isGreat_10 : decode cX5_isGreat 10 = .ok (.aload_n 0, 1) := by decide +kernel
theorem dX5_isGreat_11 : decode cX5_isGreat 11 = .ok (.getfield 9, 3) := by decide +kernel
theorem dX5_isGreat_14 : decode cX5_isGreat 14 = .ok (.iload_n 3, 1) := by decide +kernel
theorem dX5_isGreat_15 : decode cX5_isGreat 15 = .ok (.iaload, 1) := by decide +kernel
theorem dX5_isGreat_16 : decode cX5_isGreat 16 = .ok (.iload_n 1, 1) := by decide +kernel
theorem dX5_isGreat_17 : decode cX5_isGreat 17 = .ok (.if_icmp .ne 6, 3) := by decide +kernel
theorem dX5_isGreat_20 : decode cX5_isGreat 20 = .ok (.iinc 2 1, 3) := by decide +kernel
theorem dX5_isGreat_23 : decode cX5_isGreat 23 = .ok (.iinc 3 1, 3) := by decide +kernel
theorem dX5_isGreat_26 : decode cX5_isGreat 26 = .ok (.goto (-22), 3) := by decide +kernel
theorem dX5_isGreat_29 : decode cX5_isGreat 29 = .ok (.iload_n 2, 1) := by decide +kernel
theorem dX5_isGreat_30 : decode cX5_isGreat 30 = .ok (.iconst 5, 1) := by decide +kernel
theorem dX5_isGreat_31 : decode cX5_isGreat 31 = .ok (.if_icmp .le 7, 3) := by decide +kernel
theorem dX5_isGreat_34 : decode cX5_isGreat 34 = .ok (.iconst 1, 1) := by decide +kernel
theorem dX5_isGreat_35 : decode cX5_isGreat 35 = .ok (.goto 4, 3) := by decide +kernel
theorem dX5_isGreat_38 : decode cX5_isGreat 38 = .ok (.iconst 0, 1) := by decide +kernel
theorem dX5_isGreat_39 : decode cX5_isGreat 39 = .ok (.ireturn, 1) := by decide +kernel
theorem dX5_anyGreat_0 : decode cX5_anyGreat 0 = .ok (.iconst 0, 1) := by decide +kernel
theorem dX5_anyGreat_1 : decode cX5_anyGreat 1 = .ok (.istore_n 1, 1) := by decide +kernel
theorem dX5_anyGreat_2 : decode cX5_anyGreat 2 = .ok (.iload_n 1, 1) := by decide +kernel
theorem dX5_anyGreat_3 : decode cX5_anyGreat 3 = .ok (.bipush 12, 2) := by decide +kernel
theorem dX5_anyGreat_5 : decode cX5_anyGreat 5 = .ok (.if_icmp .ge 29, 3) := by decide +kernel
theorem dX5_anyGreat_8 : decode cX5_anyGreat 8 = .ok (.aload_n 0, 1) := by decide +kernel
theorem dX5_anyGreat_9 : decode cX5_anyGreat 9 = .ok (.getfield 9, 3) := by decide +kernel
theorem dX5_anyGreat_12 : decode cX5_anyGreat 12 = .ok (.iload_n 1, 1) := by decide +kernel
theorem dX5_anyGreat_13 : decode cX5_anyGreat 13 = .ok (.iaload, 1) := by decide +kernel
theorem dX5_anyGreat_14 : decode cX5_anyGreat 14 = .ok (.iload_n 1, 1) := by decide +kernel
theorem dX5_anyGreat_15 : decode cX5_anyGreat 15 = .ok (.if_icmp .ne 13, 3) := by decide +kernel
theorem dX5_anyGreat_18 : decode cX5_anyGreat 18 = .ok (.aload_n 0, 1) := by decide +kernel
theorem dX5_anyGreat_19 : decode cX5_anyGreat 19 = .ok (.iload_n 1, 1) := by decide +kernel
theorem dX5_anyGreat_20 : decode cX5_anyGreat 20 = .ok (.invokevirtual 32, 3) := by decide +kernel
theorem dX5_anyGreat_23 : decode cX5_anyGreat 23 = .ok (.ifCond .eq 5, 3) := by decide +kernel
theorem dX5_anyGreat_26 : decode cX5_anyGreat 26 = .ok (.iconst 1, 1) := by decide +kernel
theorem dX5_anyGreat_27 : decode cX5_anyGreat 27 = .ok (.ireturn, 1) := by decide +kernel
theorem dX5_anyGreat_28 : decode cX5_anyGreat 28 = .ok (.iinc 1 1, 3) := by decide +kernel
theorem dX5_anyGreat_31 : decode cX5_anyGreat 31 = .ok (.goto (-29), 3) := by decide +kernel
theorem dX5_anyGreat_34 : decode cX5_anyGreat 34 = .ok (.iconst 0, 1) := by decide +kernel
theorem dX5_anyGreat_35 : decode cX5_anyGreat 35 = .ok (.ireturn, 1) := by decide +kernel
theorem dX5_takeLatest_0 : decode cX5_takeLatest 0 = .ok (.iconst 0, 1) := by decide +kernel
theorem dX5_takeLatest_1 : decode cX5_takeLatest 1 = .ok (.istore_n 3, 1) := by decide +kernel
theorem dX5_takeLatest_2 : decode cX5_takeLatest 2 = .ok (.iload_n 3, 1) := by decide +kernel
theorem dX5_takeLatest_3 : decode cX5_takeLatest 3 = .ok (.sipush 288, 3) := by decide +kernel
theorem dX5_takeLatest_6 : decode cX5_takeLatest 6 = .ok (.if_icmp .ge 16, 3) := by decide +kernel
theorem dX5_takeLatest_9 : decode cX5_takeLatest 9 = .ok (.aload_n 0, 1) := by decide +kernel
theorem dX5_takeLatest_10 : decode cX5_takeLatest 10 = .ok (.getfield 15, 3) := by decide +kernel
theorem dX5_takeLatest_13 : decode cX5_takeLatest 13 = .ok (.iload_n 3, 1) := by decide +kernel
theorem dX5_takeLatest_14 : decode cX5_takeLatest 14 = .ok (.iconst (-1), 1) := by decide +kernel
theorem dX5_takeLatest_15 : decode cX5_takeLatest 15 = .ok (.iastore, 1) := by decide +kernel
theorem dX5_takeLatest_16 : decode cX5_takeLatest 16 = .ok (.iinc 3 1, 3) := by decide +kernel
theorem dX5_takeLatest_19 : decode cX5_takeLatest 19 = .ok (.goto (-17), 3) := by decide +kernel
theorem dX5_takeLatest_22 : decode cX5_takeLatest 22 = .ok (.iconst 0, 1) := by decide +kernel
theorem dX5_takeLatest_23 : decode cX5_takeLatest 23 = .ok (.istore_n 3, 1) := by decide +kernel
theorem dX5_takeLatest_24 : decode cX5_takeLatest 24 = .ok (.iload_n 3, 1) := by decide +kernel
theorem dX5_takeLatest_25 : decode cX5_takeLatest 25 = .ok (.aload_n 1, 1) := by decide +kernel
theorem dX5_takeLatest_26 : decode cX5_takeLatest 26 = .ok (.getfield 36, 3) := by decide +kernel
theorem dX5_takeLatest_29 : decode cX5_takeLatest 29 = .ok (.if_icmp .ge 101, 3) := by decide +kernel
theorem dX5_takeLatest_32 : decode cX5_takeLatest 32 = .ok (.aload_n 1, 1) := by decide +kernel
theorem dX5_takeLatest_33 : decode cX5_takeLatest 33 = .ok (.getfield 42, 3) := by decide +kernel
theorem dX5_takeLatest_36 : decode cX5_takeLatest 36 = .ok (.iload_n 3, 1) := by decide +kernel
theorem dX5_takeLatest_37 : decode cX5_takeLatest 37 = .ok (.iaload, 1) := by decide +kernel
theorem dX5_takeLatest_38 : decode cX5_takeLatest 38 = .ok (.bipush 24, 2) := by decide +kernel
theorem dX5_takeLatest_40 : decode cX5_takeLatest 40 = .ok (.imul, 1) := by decide +kernel
theorem dX5_takeLatest_41 : decode cX5_takeLatest 41 = .ok (.aload_n 1, 1) := by decide +kernel
theorem dX5_takeLatest_42 : decode cX5_takeLatest 42 = .ok (.getfield 45, 3) := by decide +kernel
theorem dX5_takeLatest_45 : decode cX5_takeLatest 45 = .ok (.iload_n 3, 1) := by decide +kernel
theorem dX5_takeLatest_46 : decode cX5_takeLatest 46 = .ok (.iaload, 1) := by decide +kernel
theorem dX5_takeLatest_47 : decode cX5_takeLatest 47 = .ok (.iadd, 1) := by decide +kernel
theorem dX5_takeLatest_48 : decode cX5_takeLatest 48 = .ok (.istore 4, 2) := by decide +kernel
theorem dX5_takeLatest_50 : decode cX5_takeLatest 50 = .ok (.aload_n 0, 1) := by decide +kernel
theorem dX5_takeLatest_51 : decode cX5_takeLatest 51 = .ok (.getfield 15, 3) := by decide +kernel
theorem dX5_takeLatest_54 : decode cX5_takeLatest 54 = .ok (.iload 4, 2) := by decide +kernel
theorem dX5_takeLatest_56 : decode cX5_takeLatest 56 = .ok (.iaload, 1) := by decide +kernel
theorem dX5_takeLatest_57 : decode cX5_takeLatest 57 = .ok (.iconst (-1), 1) := by decide +kernel
theorem dX5_takeLatest_58 : decode cX5_takeLatest 58 = .ok (.if_icmp .eq 19, 3) := by decide +kernel
theorem dX5_takeLatest_61 : decode cX5_takeLatest 61 = .ok (.aload_n 0, 1) := by decide +kernel
theorem dX5_takeLatest_62 : decode cX5_takeLatest 62 = .ok (.getfield 18, 3) := by decide +kernel
theorem dX5_takeLatest_65 : decode cX5_takeLatest 65 = .ok (.iload 4, 2) := by decide +kernel
theorem dX5_takeLatest_67 : decode cX5_takeLatest 67 = .ok (.iaload, 1) := by decide +kernel
theorem dX5_takeLatest_68 : decode cX5_takeLatest 68 = .ok (.aload_n 1, 1) := by decide +kernel
theorem dX5_takeLatest_69 : decode cX5_takeLatest 69 = .ok (.getfield 48, 3) := by decide +kernel
theorem dX5_takeLatest_72 : decode cX5_takeLatest 72 = .ok (.iload_n 3, 1) := by decide +kernel
theorem dX5_takeLatest_73 : decode cX5_takeLatest 73 = .ok (.iaload, 1) := by decide +kernel
theorem dX5_takeLatest_74 : decode cX5_takeLatest 74 = .ok (.if_icmp .gt 7, 3) := by decide +kernel
theorem dX5_takeLatest_77 : decode cX5_takeLatest 77 = .ok (.iconst 1, 1) := by decide +kernel
theorem dX5_takeLatest_78 : decode cX5_takeLatest 78 = .ok (.goto 4, 3) := by decide +kernel
theorem dX5_takeLatest_81 : decode cX5_takeLatest 81 = .ok (.iconst 0, 1) := by decide +kernel
theorem dX5_takeLatest_82 : decode cX5_takeLatest 82 = .ok (.istore 5, 2) := by decide +kernel
theorem dX5_takeLatest_84 : decode cX5_takeLatest 84 = .ok (.iload 5, 2) := by decide +kernel
theorem dX5_takeLatest_86 : decode cX5_takeLatest 86 = .ok (.ifCond .eq 38, 3) := by decide +kernel
theorem dX5_takeLatest_89 : decode cX5_takeLatest 89 = .ok (.aload_n 1, 1) := by decide +kernel
theorem dX5_takeLatest_90 : decode cX5_takeLatest 90 = .ok (.iload_n 3, 1) := by decide +kernel
theorem dX5_takeLatest_91 : decode cX5_takeLatest 91 = .ok (.iload_n 2, 1) := by decide +kernel
theorem dX5_takeLatest_92 : decode cX5_takeLatest 92 = .ok (.invokevirtual 49, 3) := by decide +kernel
theorem dX5_takeLatest_95 : decode cX5_takeLatest 95 = .ok (.ifCond .eq 29, 3) := by decide +kernel
theorem dX5_takeLatest_98 : decode cX5_takeLatest 98 = .ok (.aload_n 0, 1) := by decide +kernel
theorem dX5_takeLatest_99 : decode cX5_takeLatest 99 = .ok (.getfield 15, 3) := by decide +kernel
theorem dX5_takeLatest_102 : decode cX5_takeLatest 102 = .ok (.iload 4, 2) := by decide +kernel
theorem dX5_takeLatest_104 : decode cX5_takeLatest 104 = .ok (.aload_n 1, 1) := by decide +kernel
theorem dX5_takeLatest_105 : decode cX5_takeLatest 105 = .ok (.getfield 53, 3) := by decide +kernel
theorem dX5_takeLatest_108 : decode cX5_takeLatest 108 = .ok (.iload_n 3, 1) := by decide +kernel
theorem dX5_takeLatest_109 : decode cX5_takeLatest 109 = .ok (.iaload, 1) := by decide +kernel
theorem dX5_takeLatest_110 : decode cX5_takeLatest 110 = .ok (.iastore, 1) := by decide +kernel
theorem dX5_takeLatest_111 : decode cX5_takeLatest 111 = .ok (.aload_n 0, 1) := by decide +kernel
theorem dX5_takeLatest_112 : decode cX5_takeLatest 112 = .ok (.getfield 18, 3) := by decide +kernel
theorem dX5_takeLatest_115 : decode cX5_takeLatest 115 = .ok (.iload 4, 2) := by decide +kernel
theorem dX5_takeLatest_117 : decode cX5_takeLatest 117 = .ok (.aload_n 1, 1) := by decide +kernel
theorem dX5_takeLatest_118 : decode cX5_takeLatest 118 = .ok (.getfield 48, 3) := by decide +kernel
theorem dX5_takeLatest_121 : decode cX5_takeLatest 121 = .ok (.iload_n 3, 1) := by decide +kernel
theorem dX5_takeLatest_122 : decode cX5_takeLatest 122 = .ok (.iaload, 1) := by decide +kernel
theorem dX5_takeLatest_123 : decode cX5_takeLatest 123 = .ok (.iastore, 1) := by decide +kernel
theorem dX5_takeLatest_124 : decode cX5_takeLatest 124 = .ok (.iinc 3 1, 3) := by decide +kernel
theorem dX5_takeLatest_127 : decode cX5_takeLatest 127 = .ok (.goto (-103), 3) := by decide +kernel
theorem dX5_takeLatest_130 : decode cX5_takeLatest 130 = .ok (.return_, 1) := by decide +kernel
theorem dX5_formHeaps_0 : decode cX5_formHeaps 0 = .ok (.iconst 0, 1) := by decide +kernel
theorem dX5_formHeaps_1 : decode cX5_formHeaps 1 = .ok (.istore_n 1, 1) := by decide +kernel
theorem dX5_formHeaps_2 : decode cX5_formHeaps 2 = .ok (.iload_n 1, 1) := by decide +kernel
theorem dX5_formHeaps_3 : decode cX5_formHeaps 3 = .ok (.bipush 12, 2) := by decide +kernel
theorem dX5_formHeaps_5 : decode cX5_formHeaps 5 = .ok (.if_icmp .ge 16, 3) := by decide +kernel
theorem dX5_formHeaps_8 : decode cX5_formHeaps 8 = .ok (.aload_n 0, 1) := by decide +kernel
theorem dX5_formHeaps_9 : decode cX5_formHeaps 9 = .ok (.getfield 9, 3) := by decide +kernel
theorem dX5_formHeaps_12 : decode cX5_formHeaps 12 = .ok (.iload_n 1, 1) := by decide +kernel
theorem dX5_formHeaps_13 : decode cX5_formHeaps 13 = .ok (.iconst (-1), 1) := by decide +kernel
theorem dX5_formHeaps_14 : decode cX5_formHeaps 14 = .ok (.iastore, 1) := by decide +kernel
theorem dX5_formHeaps_15 : decode cX5_formHeaps 15 = .ok (.iinc 1 1, 3) := by decide +kernel
theorem dX5_formHeaps_18 : decode cX5_formHeaps 18 = .ok (.goto (-16), 3) := by decide +kernel
theorem dX5_formHeaps_21 : decode cX5_formHeaps 21 = .ok (.iconst 0, 1) := by decide +kernel
theorem dX5_formHeaps_22 : decode cX5_formHeaps 22 = .ok (.istore_n 1, 1) := by decide +kernel
theorem dX5_formHeaps_23 : decode cX5_formHeaps 23 = .ok (.iload_n 1, 1) := by decide +kernel
theorem dX5_formHeaps_24 : decode cX5_formHeaps 24 = .ok (.bipush 24, 2) := by decide +kernel
theorem dX5_formHeaps_26 : decode cX5_formHeaps 26 = .ok (.if_icmp .ge 79, 3) := by decide +kernel
theorem dX5_formHeaps_29 : decode cX5_formHeaps 29 = .ok (.iconst (-1), 1) := by decide +kernel
theorem dX5_formHeaps_30 : decode cX5_formHeaps 30 = .ok (.istore_n 2, 1) := by decide +kernel
theorem dX5_formHeaps_31 : decode cX5_formHeaps 31 = .ok (.iconst 0, 1) := by decide +kernel
theorem dX5_formHeaps_32 : decode cX5_formHeaps 32 = .ok (.istore_n 3, 1) := by decide +kernel
theorem dX5_formHeaps_33 : decode cX5_formHeaps 33 = .ok (.iload_n 3, 1) := by decide +kernel
theorem dX5_formHeaps_34 : decode cX5_formHeaps 34 = .ok (.bipush 12, 2) := by decide +kernel
theorem dX5_formHeaps_36 : decode cX5_formHeaps 36 = .ok (.if_icmp .ge 63, 3) := by decide +kernel
theorem dX5_formHeaps_39 : decode cX5_formHeaps 39 = .ok (.aload_n 0, 1) := by decide +kernel
theorem dX5_formHeaps_40 : decode cX5_formHeaps 40 = .ok (.iload_n 3, 1) := by decide +kernel
theorem dX5_formHeaps_41 : decode cX5_formHeaps 41 = .ok (.iload_n 1, 1) := by decide +kernel
theorem dX5_formHeaps_42 : decode cX5_formHeaps 42 = .ok (.invokevirtual 28, 3) := by decide +kernel
theorem dX5_formHeaps_45 : decode cX5_formHeaps 45 = .ok (.iconst (-1), 1) := by decide +kernel
theorem dX5_formHeaps_46 : decode cX5_formHeaps 46 = .ok (.if_icmp .eq 47, 3) := by decide +kernel
theorem dX5_formHeaps_49 : decode cX5_formHeaps 49 = .ok (.aload_n 0, 1) := by decide +kernel
theorem dX5_formHeaps_50 : decode cX5_formHeaps 50 = .ok (.getfield 9, 3) := by decide +kernel
theorem dX5_formHeaps_53 : decode cX5_formHeaps 53 = .ok (.iload_n 3, 1) := by decide +kernel
theorem dX5_formHeaps_54 : decode cX5_formHeaps 54 = .ok (.iaload, 1) := by decide +kernel
theorem dX5_formHeaps_55 : decode cX5_formHeaps 55 = .ok (.iconst (-1), 1) := by decide +kernel
theorem dX5_formHeaps_56 : decode cX5_formHeaps 56 = .ok (.if_icmp .ne 10, 3) := by decide +kernel
theorem dX5_formHeaps_59 : decode cX5_formHeaps 59 = .ok (.aload_n 0, 1) := by decide +kernel
theorem dX5_formHeaps_60 : decode cX5_formHeaps 60 = .ok (.getfield 9, 3) := by decide +kernel
theorem dX5_formHeaps_63 : decode cX5_formHeaps 63 = .ok (.iload_n 3, 1) := by decide +kernel
theorem dX5_formHeaps_64 : decode cX5_formHeaps 64 = .ok (.iload_n 3, 1) := by decide +kernel
theorem dX5_formHeaps_65 : decode cX5_formHeaps 65 = .ok (.iastore, 1) := by decide +kernel
theorem dX5_formHeaps_66 : decode cX5_formHeaps 66 = .ok (.iload_n 2, 1) := by decide +kernel
theorem dX5_formHeaps_67 : decode cX5_formHeaps 67 = .ok (.iconst (-1), 1) := by decide +kernel
theorem dX5_formHeaps_68 : decode cX5_formHeaps 68 = .ok (.if_icmp .ne 7, 3) := by decide +kernel
theorem dX5_formHeaps_71 : decode cX5_formHeaps 71 = .ok (.iload_n 3, 1) := by decide +kernel
theorem dX5_formHeaps_72 : decode cX5_formHeaps 72 = .ok (.goto 4, 3) := by decide +kernel
theorem dX5_formHeaps_75 : decode cX5_formHeaps 75 = .ok (.iload_n 2, 1) := by decide +kernel
theorem dX5_formHeaps_76 : decode cX5_formHeaps 76 = .ok (.istore_n 2, 1) := by decide +kernel
theorem dX5_formHeaps_77 : decode cX5_formHeaps 77 = .ok (.aload_n 0, 1) := by decide +kernel
theorem dX5_formHeaps_78 : decode cX5_formHeaps 78 = .ok (.aload_n 0, 1) := by decide +kernel
theorem dX5_formHeaps_79 : decode cX5_formHeaps 79 = .ok (.getfield 9, 3) := by decide +kernel
theorem dX5_formHeaps_82 : decode cX5_formHeaps 82 = .ok (.iload_n 2, 1) := by decide +kernel
theorem dX5_formHeaps_83 : decode cX5_formHeaps 83 = .ok (.iaload, 1) := by decide +kernel
theorem dX5_formHeaps_84 : decode cX5_formHeaps 84 = .ok (.aload_n 0, 1) := by decide +kernel
theorem dX5_formHeaps_85 : decode cX5_formHeaps 85 = .ok (.getfield 9, 3) := by decide +kernel
theorem dX5_formHeaps_88 : decode cX5_formHeaps 88 = .ok (.iload_n 3, 1) := by decide +kernel
theorem dX5_formHeaps_89 : decode cX5_formHeaps 89 = .ok (.iaload, 1) := by decide +kernel
theorem dX5_formHeaps_90 : decode cX5_formHeaps 90 = .ok (.invokevirtual 54, 3) := by decide +kernel
theorem dX5_formHeaps_93 : decode cX5_formHeaps 93 = .ok (.iinc 3 1, 3) := by decide +kernel
theorem dX5_formHeaps_96 : decode cX5_formHeaps 96 = .ok (.goto (-63), 3) := by decide +kernel
theorem dX5_formHeaps_99 : decode cX5_formHeaps 99 = .ok (.iinc 1 1, 3) := by decide +kernel
theorem dX5_formHeaps_102 : decode cX5_formHeaps 102 = .ok (.goto (-79), 3) := by decide +kernel
theorem dX5_formHeaps_105 : decode cX5_formHeaps 105 = .ok (.return_, 1) := by decide +kernel
theorem dX5_joinHeaps_0 : decode cX5_joinHeaps 0 = .ok (.iload_n 1, 1) := by decide +kernel
theorem dX5_joinHeaps_1 : decode cX5_joinHeaps 1 = .ok (.iload_n 2, 1) := by decide +kernel
theorem dX5_joinHeaps_2 : decode cX5_joinHeaps 2 = .ok (.invokestatic 58, 3) := by decide +kernel
theorem dX5_joinHeaps_5 : decode cX5_joinHeaps 5 = .ok (.istore_n 3, 1) := by decide +kernel
theorem dX5_joinHeaps_6 : decode cX5_joinHeaps 6 = .ok (.iload_n 1, 1) := by decide +kernel
theorem dX5_joinHeaps_7 : decode cX5_joinHeaps 7 = .ok (.iload_n 2, 1) := by decide +kernel
theorem dX5_joinHeaps_8 : decode cX5_joinHeaps 8 = .ok (.invokestatic 63, 3) := by decide +kernel
theorem dX5_joinHeaps_11 : decode cX5_joinHeaps 11 = .ok (.istore 4, 2) := by decide +kernel
theorem dX5_joinHeaps_13 : decode cX5_joinHeaps 13 = .ok (.iconst 0, 1) := by decide +kernel
theorem dX5_joinHeaps_14 : decode cX5_joinHeaps 14 = .ok (.istore 5, 2) := by decide +kernel
theorem dX5_joinHeaps_16 : decode cX5_joinHeaps 16 = .ok (.iload 5, 2) := by decide +kernel
theorem dX5_joinHeaps_18 : decode cX5_joinHeaps 18 = .ok (.bipush 12, 2) := by decide +kernel
theorem dX5_joinHeaps_20 : decode cX5_joinHeaps 20 = .ok (.if_icmp .ge 35, 3) := by decide +kernel
theorem dX5_joinHeaps_23 : decode cX5_joinHeaps 23 = .ok (.iload_n 3, 1) := by decide +kernel
theorem dX5_joinHeaps_24 : decode cX5_joinHeaps 24 = .ok (.iload 4, 2) := by decide +kernel
theorem dX5_joinHeaps_26 : decode cX5_joinHeaps 26 = .ok (.if_icmp .ge 29, 3) := by decide +kernel
theorem dX5_joinHeaps_29 : decode cX5_joinHeaps 29 = .ok (.aload_n 0, 1) := by decide +kernel
theorem dX5_joinHeaps_30 : decode cX5_joinHeaps 30 = .ok (.getfield 9, 3) := by decide +kernel
theorem dX5_joinHeaps_33 : decode cX5_joinHeaps 33 = .ok (.iload 5, 2) := by decide +kernel
theorem dX5_joinHeaps_35 : decode cX5_joinHeaps 35 = .ok (.iaload, 1) := by decide +kernel
theorem dX5_joinHeaps_36 : decode cX5_joinHeaps 36 = .ok (.iload 4, 2) := by decide +kernel
theorem dX5_joinHeaps_38 : decode cX5_joinHeaps 38 = .ok (.if_icmp .ne 11, 3) := by decide +kernel
theorem dX5_joinHeaps_41 : decode cX5_joinHeaps 41 = .ok (.aload_n 0, 1) := by decide +kernel
theorem dX5_joinHeaps_42 : decode cX5_joinHeaps 42 = .ok (.getfield 9, 3) := by decide +kernel
theorem dX5_joinHeaps_45 : decode cX5_joinHeaps 45 = .ok (.iload 5, 2) := by decide +kernel
theorem dX5_joinHeaps_47 : decode cX5_joinHeaps 47 = .ok (.iload_n 3, 1) := by decide +kernel
theorem dX5_joinHeaps_48 : decode cX5_joinHeaps 48 = .ok (.iastore, 1) := by decide +kernel
theorem dX5_joinHeaps_49 : decode cX5_joinHeaps 49 = .ok (.iinc 5 1, 3) := by decide +kernel
theorem dX5_joinHeaps_52 : decode cX5_joinHeaps 52 = .ok (.goto (-36), 3) := by decide +kernel
theorem dX5_joinHeaps_55 : decode cX5_joinHeaps 55 = .ok (.return_, 1) := by decide +kernel
theorem dX6_init_0 : decode cX6_init 0 = .ok (.aload_n 0, 1) := by decide +kernel
theorem dX6_init_1 : decode cX6_init 1 = .ok (.invokespecial 3, 3) := by decide +kernel
theorem dX6_init_4 : decode cX6_init 4 = .ok (.aload_n 0, 1) := by decide +kernel
theorem dX6_init_5 : decode cX6_init 5 = .ok (.sipush 200, 3) := by decide +kernel
theorem dX6_init_8 : decode cX6_init 8 = .ok (.newarray .int, 2) := by decide +kernel
theorem dX6_init_10 : decode cX6_init 10 = .ok (.putfield 9, 3) := by decide +kernel
theorem dX6_init_13 : decode cX6_init 13 = .ok (.aload_n 0, 1) := by decide +kernel
theorem dX6_init_14 : decode cX6_init 14 = .ok (.sipush 200, 3) := by decide +kernel
theorem dX6_init_17 : decode cX6_init 17 = .ok (.newarray .int, 2) := by decide +kernel
theorem dX6_init_19 : decode cX6_init 19 = .ok (.putfield 15, 3) := by decide +kernel
theorem dX6_init_22 : decode cX6_init 22 = .ok (.aload_n 0, 1) := by decide +kernel
theorem dX6_init_23 : decode cX6_init 23 = .ok (.sipush 200, 3) := by decide +kernel
theorem dX6_init_26 : decode cX6_init 26 = .ok (.newarray .int, 2) := by decide +kernel
theorem dX6_init_28 : decode cX6_init 28 = .ok (.putfield 18, 3) := by decide +kernel
theorem dX6_init_31 : decode cX6_init 31 = .ok (.aload_n 0, 1) := by decide +kernel
theorem dX6_init_32 : decode cX6_init 32 = .ok (.sipush 200, 3) := by decide +kernel
theorem dX6_init_35 : decode cX6_init 35 = .ok (.newarray .int, 2) := by decide +kernel
theorem dX6_init_37 : decode cX6_init 37 = .ok (.putfield 21, 3) := by decide +kernel
theorem dX6_init_40 : decode cX6_init 40 = .ok (.aload_n 0, 1) := by decide +kernel
theorem dX6_init_41 : decode cX6_init 41 = .ok (.sipush 200, 3) := by decide +kernel
theorem dX6_init_44 : decode cX6_init 44 = .ok (.newarray .int, 2) := by decide +kernel
theorem dX6_init_46 : decode cX6_init 46 = .ok (.putfield 24, 3) := by decide +kernel
theorem dX6_init_49 : decode cX6_init 49 = .ok (.return_, 1) := by decide +kernel
theorem dX6_has_0 : decode cX6_has 0 = .ok (.iload_n 1, 1) := by decide +kernel
theorem dX6_has_1 : decode cX6_has 1 = .ok (.ifCond .lt 15, 3) := by decide +kernel
theorem dX6_has_4 : decode cX6_has 4 = .ok (.iload_n 1, 1) := by decide +kernel
theorem dX6_has_5 : decode cX6_has 5 = .ok (.aload_n 0, 1) := by decide +kernel
theorem dX6_has_6 : decode cX6_has 6 = .ok (.getfield 27, 3) := by decide +kernel
theorem dX6_has_9 : decode cX6_has 9 = .ok (.if_icmp .ge 7, 3) := by decide +kernel
theorem dX6_has_12 : decode cX6_has 12 = .ok (.iconst 1, 1) := by decide +kernel
theorem dX6_has_13 : decode cX6_has 13 = .ok (.goto 4, 3) := by decide +kernel
theorem dX6_has_16 : decode cX6_has 16 = .ok (.iconst 0, 1) := by decide +kernel
theorem dX6_has_17 : decode cX6_has 17 = .ok (.ireturn, 1) := by decide +kernel
theorem dX6_add_0 : decode cX6_add 0 = .ok (.aload_n 0, 1) := by decide +kernel
theorem dX6_add_1 : decode cX6_add 1 = .ok (.getfield 27, 3) := by decide +kernel
theorem dX6_add_4 : decode cX6_add 4 = .ok (.istore 5, 2) := by decide +kernel
theorem dX6_add_6 : decode cX6_add 6 = .ok (.aload_n 0, 1) := by decide +kernel
theorem dX6_add_7 : decode cX6_add 7 = .ok (.getfield 9, 3) := by decide +kernel
theorem dX6_add_10 : decode cX6_add 10 = .ok (.iload 5, 2) := by decide +kernel
theorem dX6_add_12 : decode cX6_add 12 = .ok (.iload_n 1, 1) := by decide +kernel
theorem dX6_add_13 : decode cX6_add 13 = .ok (.iastore, 1) := by decide +kernel
theorem dX6_add_14 : decode cX6_add 14 = .ok (.aload_n 0, 1) := by decide +kernel
theorem dX6_add_15 : decode cX6_add 15 = .ok (.getfield 15, 3) := by decide +kernel
theorem dX6_add_18 : decode cX6_add 18 = .ok (.iload 5, 2) := by decide +kernel
theorem dX6_add_20 : decode cX6_add 20 = .ok (.iload_n 2, 1) := by decide +kernel
theorem dX6_add_21 : decode cX6_add 21 = .ok (.iastore, 1) := by decide +kernel
theorem dX6_add_22 : decode cX6_add 22 = .ok (.aload_n 0, 1) := by decide +kernel
theorem dX6_add_23 : decode cX6_add 23 = .ok (.getfield 18, 3) := by decide +kernel
theorem dX6_add_26 : decode cX6_add 26 = .ok (.iload 5, 2) := by decide +kernel
theorem dX6_add_28 : decode cX6_add 28 = .ok (.iload_n 3, 1) := by decide +kernel
theorem dX6_add_29 : decode cX6_add 29 = .ok (.iastore, 1) := by decide +kernel
theorem dX6_add_30 : decode cX6_add 30 = .ok (.aload_n 0, 1) := by decide +kernel
theorem dX6_add_31 : decode cX6_add 31 = .ok (.getfield 21, 3) := by decide +kernel
theorem dX6_add_34 : decode cX6_add 34 = .ok (.iload 5, 2) := by decide +kernel
theorem dX6_add_36 : decode cX6_add 36 = .ok (.iload 4, 2) := by decide +kernel
theorem dX6_add_38 : decode cX6_add 38 = .ok (.iastore, 1) := by decide +kernel
theorem dX6_add_39 : decode cX6_add 39 = .ok (.aload_n 0, 1) := by decide +kernel
theorem dX6_add_40 : decode cX6_add 40 = .ok (.getfield 24, 3) := by decide +kernel
theorem dX6_add_43 : decode cX6_add 43 = .ok (.iload 5, 2) := by decide +kernel
theorem dX6_add_45 : decode cX6_add 45 = .ok (.iconst (-1), 1) := by decide +kernel
theorem dX6_add_46 : decode cX6_add 46 = .ok (.iastore, 1) := by decide +kernel
theorem dX6_add_47 : decode cX6_add 47 = .ok (.aload_n 0, 1) := by decide +kernel
theorem dX6_add_48 : decode cX6_add 48 = .ok (.dup, 1) := by decide +kernel
theorem dX6_add_49 : decode cX6_add 49 = .ok (.getfield 27, 3) := by decide +kernel
theorem dX6_add_52 : decode cX6_add 52 = .ok (.iconst 1, 1) := by decide +kernel
theorem dX6_add_53 : decode cX6_add 53 = .ok (.iadd, 1) := by decide +kernel
theorem dX6_add_54 : decode cX6_add 54 = .ok (.putfield 27, 3) := by decide +kernel
theorem dX6_add_57 : decode cX6_add 57 = .ok (.iload 5, 2) := by decide +kernel
theorem dX6_add_59 : decode cX6_add 59 = .ok (.ireturn, 1) := by decide +kernel
theorem dX6_standsOn_0 : decode cX6_standsOn 0 = .ok (.aload_n 0, 1) := by decide +kernel
theorem dX6_standsOn_1 : decode cX6_standsOn 1 = .ok (.getfield 21, 3) := by decide +kernel
theorem dX6_standsOn_4 : decode cX6_standsOn 4 = .ok (.iload_n 1, 1) := by decide +kernel
theorem dX6_standsOn_5 : decode cX6_standsOn 5 = .ok (.iaload, 1) := by decide +kernel
theorem dX6_standsOn_6 : decode cX6_standsOn 6 = .ok (.iload_n 2, 1) := by decide +kernel
theorem dX6_standsOn_7 : decode cX6_standsOn 7 = .ok (.if_icmp .gt 27, 3) := by decide +kernel
theorem dX6_standsOn_10 : decode cX6_standsOn 10 = .ok (.aload_n 0, 1) := by decide +kernel
theorem dX6_standsOn_11 : decode cX6_standsOn 11 = .ok (.getfield 24, 3) := by decide +kernel
theorem dX6_standsOn_14 : decode cX6_standsOn 14 = .ok (.iload_n 1, 1) := by decide +kernel
theorem dX6_standsOn_15 : decode cX6_standsOn 15 = .ok (.iaload, 1) := by decide +kernel
theorem dX6_standsOn_16 : decode cX6_standsOn 16 = .ok (.iconst (-1), 1) := by decide +kernel
theorem dX6_standsOn_17 : decode cX6_standsOn 17 = .ok (.if_icmp .eq 13, 3) := by decide +kernel
theorem dX6_standsOn_20 : decode cX6_standsOn 20 = .ok (.aload_n 0, 1) := by decide +kernel
theorem dX6_standsOn_21 : decode cX6_standsOn 21 = .ok (.getfield 24, 3) := by decide +kernel
theorem dX6_standsOn_24 : decode cX6_standsOn 24 = .ok (.iload_n 1, 1) := by decide +kernel
theorem dX6_standsOn_25 : decode cX6_standsOn 25 = .ok (.iaload, 1) := by decide +kernel
theorem dX6_standsOn_26 : decode cX6_standsOn 26 = .ok (.iload_n 2, 1) := by decide +kernel
theorem dX6_standsOn_27 : decode cX6_standsOn 27 = .ok (.if_icmp .le 7, 3) := by decide +kernel
theorem dX6_standsOn_30 : decode cX6_standsOn 30 = .ok (.iconst 1, 1) := by decide +kernel
theorem dX6_standsOn_31 : decode cX6_standsOn 31 = .ok (.goto 4, 3) := by decide +kernel
theorem dX6_standsOn_34 : decode cX6_standsOn 34 = .ok (.iconst 0, 1) := by decide +kernel
theorem dX6_standsOn_35 : decode cX6_standsOn 35 = .ok (.ireturn, 1) := by decide +kernel
theorem dX7_init_0 : decode cX7_init 0 = .ok (.aload_n 0, 1) := by decide +kernel
theorem dX7_init_1 : decode cX7_init 1 = .ok (.invokespecial 3, 3) := by decide +kernel
theorem dX7_init_4 : decode cX7_init 4 = .ok (.aload_n 0, 1) := by decide +kernel
theorem dX7_init_5 : decode cX7_init 5 = .ok (.bipush 12, 2) := by decide +kernel
theorem dX7_init_7 : decode cX7_init 7 = .ok (.newarray .int, 2) := by decide +kernel
theorem dX7_init_9 : decode cX7_init 9 = .ok (.putfield 9, 3) := by decide +kernel
theorem dX7_init_12 : decode cX7_init 12 = .ok (.aload_n 0, 1) := by decide +kernel
theorem dX7_init_13 : decode cX7_init 13 = .ok (.bipush 24, 2) := by decide +kernel
theorem dX7_init_15 : decode cX7_init 15 = .ok (.newarray .int, 2) := by decide +kernel
theorem dX7_init_17 : decode cX7_init 17 = .ok (.putfield 15, 3) := by decide +kernel
theorem dX7_init_20 : decode cX7_init 20 = .ok (.aload_n 0, 1) := by decide +kernel
theorem dX7_init_21 : decode cX7_init 21 = .ok (.bipush 24, 2) := by decide +kernel
theorem dX7_init_23 : decode cX7_init 23 = .ok (.newarray .int, 2) := by decide +kernel
theorem dX7_init_25 : decode cX7_init 25 = .ok (.putfield 18, 3) := by decide +kernel
theorem dX7_init_28 : decode cX7_init 28 = .ok (.aload_n 0, 1) := by decide +kernel
theorem dX7_init_29 : decode cX7_init 29 = .ok (.bipush 12, 2) := by decide +kernel
theorem dX7_init_31 : decode cX7_init 31 = .ok (.newarray .int, 2) := by decide +kernel
theorem dX7_init_33 : decode cX7_init 33 = .ok (.putfield 21, 3) := by decide +kernel
theorem dX7_init_36 : decode cX7_init 36 = .ok (.aload_n 0, 1) := by decide +kernel
theorem dX7_init_37 : decode cX7_init 37 = .ok (.bipush 24, 2) := by decide +kernel
theorem dX7_init_39 : decode cX7_init 39 = .ok (.newarray .int, 2) := by decide +kernel
theorem dX7_init_41 : decode cX7_init 41 = .ok (.putfield 24, 3) := by decide +kernel
theorem dX7_init_44 : decode cX7_init 44 = .ok (.aload_n 0, 1) := by decide +kernel
theorem dX7_init_45 : decode cX7_init 45 = .ok (.bipush 24, 2) := by decide +kernel
theorem dX7_init_47 : decode cX7_init 47 = .ok (.newarray .int, 2) := by decide +kernel
theorem dX7_init_49 : decode cX7_init 49 = .ok (.putfield 27, 3) := by decide +kernel
theorem dX7_init_52 : decode cX7_init 52 = .ok (.aload_n 0, 1) := by decide +kernel
theorem dX7_init_53 : decode cX7_init 53 = .ok (.bipush 12, 2) := by decide +kernel
theorem dX7_init_55 : decode cX7_init 55 = .ok (.newarray .int, 2) := by decide +kernel
theorem dX7_init_57 : decode cX7_init 57 = .ok (.putfield 30, 3) := by decide +kernel
theorem dX7_init_60 : decode cX7_init 60 = .ok (.return_, 1) := by decide +kernel
theorem dX7_hasBoard_0 : decode cX7_hasBoard 0 = .ok (.iload_n 1, 1) := by decide +kernel
theorem dX7_hasBoard_1 : decode cX7_hasBoard 1 = .ok (.ifCond .lt 15, 3) := by decide +kernel
theorem dX7_hasBoard_4 : decode cX7_hasBoard 4 = .ok (.iload_n 1, 1) := by decide +kernel
theorem dX7_hasBoard_5 : decode cX7_hasBoard 5 = .ok (.aload_n 0, 1) := by decide +kernel
theorem dX7_hasBoard_6 : decode cX7_hasBoard 6 = .ok (.getfield 33, 3) := by decide +kernel
theorem dX7_hasBoard_9 : decode cX7_hasBoard 9 = .ok (.if_icmp .ge 7, 3) := by decide +kernel
theorem dX7_hasBoard_12 : decode cX7_hasBoard 12 = .ok (.iconst 1, 1) := by decide +kernel
theorem dX7_hasBoard_13 : decode cX7_hasBoard 13 = .ok (.goto 4, 3) := by decide +kernel
theorem dX7_hasBoard_16 : decode cX7_hasBoard 16 = .ok (.iconst 0, 1) := by decide +kernel
theorem dX7_hasBoard_17 : decode cX7_hasBoard 17 = .ok (.ireturn, 1) := by decide +kernel
theorem dX7_hasJudge_0 : decode cX7_hasJudge 0 = .ok (.iload_n 1, 1) := by decide +kernel
theorem dX7_hasJudge_1 : decode cX7_hasJudge 1 = .ok (.ifCond .lt 15, 3) := by decide +kernel
theorem dX7_hasJudge_4 : decode cX7_hasJudge 4 = .ok (.iload_n 1, 1) := by decide +kernel
theorem dX7_hasJudge_5 : decode cX7_hasJudge 5 = .ok (.aload_n 0, 1) := by decide +kernel
theorem dX7_hasJudge_6 : decode cX7_hasJudge 6 = .ok (.getfield 37, 3) := by decide +kernel
theorem dX7_hasJudge_9 : decode cX7_hasJudge 9 = .ok (.if_icmp .ge 7, 3) := by decide +kernel
theorem dX7_hasJudge_12 : decode cX7_hasJudge 12 = .ok (.iconst 1, 1) := by decide +kernel
theorem dX7_hasJudge_13 : decode cX7_hasJudge 13 = .ok (.goto 4, 3) := by decide +kernel
theorem dX7_hasJudge_16 : decode cX7_hasJudge 16 = .ok (.iconst 0, 1) := by decide +kernel
theorem dX7_hasJudge_17 : decode cX7_hasJudge 17 = .ok (.ireturn, 1) := by decide +kernel
theorem dX7_begin_0 : decode cX7_begin 0 = .ok (.aload_n 0, 1) := by decide +kernel
theorem dX7_begin_1 : decode cX7_begin 1 = .ok (.iconst 1, 1) := by decide +kernel
theorem dX7_begin_2 : decode cX7_begin 2 = .ok (.putfield 40, 3) := by decide +kernel
theorem dX7_begin_5 : decode cX7_begin 5 = .ok (.aload_n 0, 1) := by decide +kernel
theorem dX7_begin_6 : decode cX7_begin 6 = .ok (.aload_n 1, 1) := by decide +kernel
theorem dX7_begin_7 : decode cX7_begin 7 = .ok (.getfield 44, 3) := by decide +kernel
theorem dX7_begin_10 : decode cX7_begin 10 = .ok (.putfield 33, 3) := by decide +kernel
theorem dX7_begin_13 : decode cX7_begin 13 = .ok (.aload_n 0, 1) := by decide +kernel
theorem dX7_begin_14 : decode cX7_begin 14 = .ok (.aload_n 2, 1) := by decide +kernel
theorem dX7_begin_15 : decode cX7_begin 15 = .ok (.getfield 49, 3) := by decide +kernel
theorem dX7_begin_18 : decode cX7_begin 18 = .ok (.putfield 37, 3) := by decide +kernel
theorem dX7_begin_21 : decode cX7_begin 21 = .ok (.aload_n 0, 1) := by decide +kernel
theorem dX7_begin_22 : decode cX7_begin 22 = .ok (.iload_n 3, 1) := by decide +kernel
theorem dX7_begin_23 : decode cX7_begin 23 = .ok (.putfield 52, 3) := by decide +kernel
theorem dX7_begin_26 : decode cX7_begin 26 = .ok (.aload_n 0, 1) := by decide +kernel
theorem dX7_begin_27 : decode cX7_begin 27 = .ok (.iconst 0, 1) := by decide +kernel
theorem dX7_begin_28 : decode cX7_begin 28 = .ok (.putfield 55, 3) := by decide +kernel
theorem dX7_begin_31 : decode cX7_begin 31 = .ok (.aload_n 0, 1) := by decide +kernel
theorem dX7_begin_32 : decode cX7_begin 32 = .ok (.iconst 0, 1) := by decide +kernel
theorem dX7_begin_33 : decode cX7_begin 33 = .ok (.putfield 58, 3) := by decide +kernel
theorem dX7_begin_36 : decode cX7_begin 36 = .ok (.iconst 0, 1) := by decide +kernel
theorem dX7_begin_37 : decode cX7_begin 37 = .ok (.istore 4, 2) := by decide +kernel
theorem dX7_begin_39 : decode cX7_begin 39 = .ok (.iload 4, 2) := by decide +kernel
theorem dX7_begin_41 : decode cX7_begin 41 = .ok (.aload_n 0, 1) := by decide +kernel
theorem dX7_begin_42 : decode cX7_begin 42 = .ok (.getfield 33, 3) := by decide +kernel
theorem dX7_begin_45 : decode cX7_begin 45 = .ok (.if_icmp .ge 31, 3) := by decide +kernel
theorem dX7_begin_48 : decode cX7_begin 48 = .ok (.aload_n 0, 1) := by decide +kernel
theorem dX7_begin_49 : decode cX7_begin 49 = .ok (.getfield 15, 3) := by decide +kernel
theorem dX7_begin_52 : decode cX7_begin 52 = .ok (.iload 4, 2) := by decide +kernel
theorem dX7_begin_54 : decode cX7_begin 54 = .ok (.aload_n 2, 1) := by decide +kernel
theorem dX7_begin_55 : decode cX7_begin 55 = .ok (.aload_n 1, 1) := by decide +kernel
theorem dX7_begin_56 : decode cX7_begin 56 = .ok (.iload 4, 2) := by decide +kernel
theorem dX7_begin_58 : decode cX7_begin 58 = .ok (.invokevirtual 61, 3) := by decide +kernel
theorem dX7_begin_61 : decode cX7_begin 61 = .ok (.iastore, 1) := by decide +kernel
theorem dX7_begin_62 : decode cX7_begin 62 = .ok (.aload_n 0, 1) := by decide +kernel
theorem dX7_begin_63 : decode cX7_begin 63 = .ok (.getfield 18, 3) := by decide +kernel
theorem dX7_begin_66 : decode cX7_begin 66 = .ok (.iload 4, 2) := by decide +kernel
theorem dX7_begin_68 : decode cX7_begin 68 = .ok (.iconst 0, 1) := by decide +kernel
theorem dX7_begin_69 : decode cX7_begin 69 = .ok (.iastore, 1) := by decide +kernel
theorem dX7_begin_70 : decode cX7_begin 70 = .ok (.iinc 4 1, 3) := by decide +kernel
theorem dX7_begin_73 : decode cX7_begin 73 = .ok (.goto (-34), 3) := by decide +kernel
theorem dX7_begin_76 : decode cX7_begin 76 = .ok (.iconst 0, 1) := by decide +kernel
theorem dX7_begin_77 : decode cX7_begin 77 = .ok (.istore 4, 2) := by decide +kernel
theorem dX7_begin_79 : decode cX7_begin 79 = .ok (.iload 4, 2) := by decide +kernel
theorem dX7_begin_81 : decode cX7_begin 81 = .ok (.aload_n 0, 1) := by decide +kernel
theorem dX7_begin_82 : decode cX7_begin 82 = .ok (.getfield 37, 3) := by decide +kernel
theorem dX7_begin_85 : decode cX7_begin 85 = .ok (.if_icmp .ge 31, 3) := by decide +kernel
theorem dX7_begin_88 : decode cX7_begin 88 = .ok (.aload_n 0, 1) := by decide +kernel
theorem dX7_begin_89 : decode cX7_begin 89 = .ok (.getfield 9, 3) := by decide +kernel
theorem dX7_begin_92 : decode cX7_begin 92 = .ok (.iload 4, 2) := by decide +kernel
theorem dX7_begin_94 : decode cX7_begin 94 = .ok (.aload_n 2, 1) := by decide +kernel
theorem dX7_begin_95 : decode cX7_begin 95 = .ok (.getfield 65, 3) := by decide +kernel
theorem dX7_begin_98 : decode cX7_begin 98 = .ok (.iload 4, 2) := by decide +kernel
theorem dX7_begin_100 : decode cX7_begin 100 = .ok (.iaload, 1) := by decide +kernel
theorem dX7_begin_101 : decode cX7_begin 101 = .ok (.iastore, 1) := by decide +kernel
theorem dX7_begin_102 : decode cX7_begin 102 = .ok (.aload_n 0, 1) := by decide +kernel
theorem dX7_begin_103 : decode cX7_begin 103 = .ok (.getfield 21, 3) := by decide +kernel
theorem dX7_begin_106 : decode cX7_begin 106 = .ok (.iload 4, 2) := by decide +kernel
theorem dX7_begin_108 : decode cX7_begin 108 = .ok (.iconst 0, 1) := by decide +kernel
theorem dX7_begin_109 : decode cX7_begin 109 = .ok (.iastore, 1) := by decide +kernel
theorem dX7_begin_110 : decode cX7_begin 110 = .ok (.iinc 4 1, 3) := by decide +kernel
theorem dX7_begin_113 : decode cX7_begin 113 = .ok (.goto (-34), 3) := by decide +kernel
theorem dX7_begin_116 : decode cX7_begin 116 = .ok (.return_, 1) := by decide +kernel
theorem dX7_giveAllLooks_0 : decode cX7_giveAllLooks 0 = .ok (.iconst 1, 1) := by decide +kernel
theorem dX7_giveAllLooks_1 : decode cX7_giveAllLooks 1 = .ok (.istore_n 1, 1) := by decide +kernel
theorem dX7_giveAllLooks_2 : decode cX7_giveAllLooks 2 = .ok (.iconst 0, 1) := by decide +kernel
theorem dX7_giveAllLooks_3 : decode cX7_giveAllLooks 3 = .ok (.istore_n 2, 1) := by decide +kernel
theorem dX7_giveAllLooks_4 : decode cX7_giveAllLooks 4 = .ok (.iload_n 2, 1) := by decide +kernel
theorem dX7_giveAllLooks_5 : decode cX7_giveAllLooks 5 = .ok (.sipush 288, 3) := by decide +kernel
theorem dX7_giveAllLooks_8 : decode cX7_giveAllLooks 8 = .ok (.if_icmp .ge 18, 3) := by decide +kernel
theorem dX7_giveAllLooks_11 : decode cX7_giveAllLooks 11 = .ok (.iload_n 1, 1) := by decide +kernel
theorem dX7_giveAllLooks_12 : decode cX7_giveAllLooks 12 = .ok (.ifCond .eq 14, 3) := by decide +kernel
theorem dX7_giveAllLooks_15 : decode cX7_giveAllLooks 15 = .ok (.aload_n 0, 1) := by decide +kernel
theorem dX7_giveAllLooks_16 : decode cX7_giveAllLooks 16 = .ok (.invokevirtual 66, 3) := by decide +kernel
theorem dX7_giveAllLooks_19 : decode cX7_giveAllLooks 19 = .ok (.istore_n 1, 1) := by decide +kernel
theorem dX7_giveAllLooks_20 : decode cX7_giveAllLooks 20 = .ok (.iinc 2 1, 3) := by decide +kernel
theorem dX7_giveAllLooks_23 : decode cX7_giveAllLooks 23 = .ok (.goto (-19), 3) := by decide +kernel
theorem dX7_giveAllLooks_26 : decode cX7_giveAllLooks 26 = .ok (.return_, 1) := by decide +kernel
theorem dX7_turnToFirst_0 : decode cX7_turnToFirst 0 = .ok (.iconst 0, 1) := by decide +kernel
theorem dX7_turnToFirst_1 : decode cX7_turnToFirst 1 = .ok (.istore_n 1, 1) := by decide +kernel
theorem dX7_turnToFirst_2 : decode cX7_turnToFirst 2 = .ok (.iload_n 1, 1) := by decide +kernel
theorem dX7_turnToFirst_3 : decode cX7_turnToFirst 3 = .ok (.aload_n 0, 1) := by decide +kernel
theorem dX7_turnToFirst_4 : decode cX7_turnToFirst 4 = .ok (.getfield 33, 3) := by decide +kernel
theorem dX7_turnToFirst_7 : decode cX7_turnToFirst 7 = .ok (.if_icmp .ge 66, 3) := by decide +kernel
theorem dX7_turnToFirst_10 : decode cX7_turnToFirst 10 = .ok (.iconst 0, 1) := by decide +kernel
theorem dX7_turnToFirst_11 : decode cX7_turnToFirst 11 = .ok (.istore_n 2, 1) := by decide +kernel
theorem dX7_turnToFirst_12 : decode cX7_turnToFirst 12 = .ok (.iload_n 2, 1) := by decide +kernel
theorem dX7_turnToFirst_13 : decode cX7_turnToFirst 13 = .ok (.aload_n 0, 1) := by decide +kernel
theorem dX7_turnToFirst_14 : decode cX7_turnToFirst 14 = .ok (.getfield 37, 3) := by decide +kernel
theorem dX7_turnToFirst_17 : decode cX7_turnToFirst 17 = .ok (.if_icmp .ge 50, 3) := by decide +kernel
theorem dX7_turnToFirst_20 : decode cX7_turnToFirst 20 = .ok (.aload_n 0, 1) := by decide +kernel
theorem dX7_turnToFirst_21 : decode cX7_turnToFirst 21 = .ok (.iload_n 1, 1) := by decide +kernel
theorem dX7_turnToFirst_22 : decode cX7_turnToFirst 22 = .ok (.putfield 55, 3) := by decide +kernel
theorem dX7_turnToFirst_25 : decode cX7_turnToFirst 25 = .ok (.aload_n 0, 1) := by decide +kernel
theorem dX7_turnToFirst_26 : decode cX7_turnToFirst 26 = .ok (.iload_n 2, 1) := by decide +kernel
theorem dX7_turnToFirst_27 : decode cX7_turnToFirst 27 = .ok (.iconst 1, 1) := by decide +kernel
theorem dX7_turnToFirst_28 : decode cX7_turnToFirst 28 = .ok (.iadd, 1) := by decide +kernel
theorem dX7_turnToFirst_29 : decode cX7_turnToFirst 29 = .ok (.putfield 58, 3) := by decide +kernel
theorem dX7_turnToFirst_32 : decode cX7_turnToFirst 32 = .ok (.aload_n 0, 1) := by decide +kernel
theorem dX7_turnToFirst_33 : decode cX7_turnToFirst 33 = .ok (.getfield 15, 3) := by decide +kernel
theorem dX7_turnToFirst_36 : decode cX7_turnToFirst 36 = .ok (.iload_n 1, 1) := by decide +kernel
theorem dX7_turnToFirst_37 : decode cX7_turnToFirst 37 = .ok (.iaload, 1) := by decide +kernel
theorem dX7_turnToFirst_38 : decode cX7_turnToFirst 38 = .ok (.aload_n 0, 1) := by decide +kernel
theorem dX7_turnToFirst_39 : decode cX7_turnToFirst 39 = .ok (.getfield 18, 3) := by decide +kernel
theorem dX7_turnToFirst_42 : decode cX7_turnToFirst 42 = .ok (.iload_n 1, 1) := by decide +kernel
theorem dX7_turnToFirst_43 : decode cX7_turnToFirst 43 = .ok (.iaload, 1) := by decide +kernel
theorem dX7_turnToFirst_44 : decode cX7_turnToFirst 44 = .ok (.iconst (-1), 1) := by decide +kernel
theorem dX7_turnToFirst_45 : decode cX7_turnToFirst 45 = .ok (.ixor, 1) := by decide +kernel
theorem dX7_turnToFirst_46 : decode cX7_turnToFirst 46 = .ok (.iand, 1) := by decide +kernel
theorem dX7_turnToFirst_47 : decode cX7_turnToFirst 47 = .ok (.iload_n 2, 1) := by decide +kernel
theorem dX7_turnToFirst_48 : decode cX7_turnToFirst 48 = .ok (.ishr, 1) := by decide +kernel
theorem dX7_turnToFirst_49 : decode cX7_turnToFirst 49 = .ok (.iconst 1, 1) := by decide +kernel
theorem dX7_turnToFirst_50 : decode cX7_turnToFirst 50 = .ok (.iand, 1) := by decide +kernel
theorem dX7_turnToFirst_51 : decode cX7_turnToFirst 51 = .ok (.iconst 1, 1) := by decide +kernel
theorem dX7_turnToFirst_52 : decode cX7_turnToFirst 52 = .ok (.if_icmp .ne 9, 3) := by decide +kernel
theorem dX7_turnToFirst_55 : decode cX7_turnToFirst 55 = .ok (.aload_n 0, 1) := by decide +kernel
theorem dX7_turnToFirst_56 : decode cX7_turnToFirst 56 = .ok (.iload_n 1, 1) := by decide +kernel
theorem dX7_turnToFirst_57 : decode cX7_turnToFirst 57 = .ok (.iload_n 2, 1) := by decide +kernel
theorem dX7_turnToFirst_58 : decode cX7_turnToFirst 58 = .ok (.invokevirtual 70, 3) := by decide +kernel
theorem dX7_turnToFirst_61 : decode cX7_turnToFirst 61 = .ok (.iinc 2 1, 3) := by decide +kernel
theorem dX7_turnToFirst_64 : decode cX7_turnToFirst 64 = .ok (.goto (-52), 3) := by decide +kernel
theorem dX7_turnToFirst_67 : decode cX7_turnToFirst 67 = .ok (.iinc 1 1, 3) := by decide +kernel
theorem dX7_turnToFirst_70 : decode cX7_turnToFirst 70 = .ok (.goto (-68), 3) := by decide +kernel
theorem dX7_turnToFirst_73 : decode cX7_turnToFirst 73 = .ok (.return_, 1) := by decide +kernel
theorem dX7_findHolding_0 : decode cX7_findHolding 0 = .ok (.aload_n 0, 1) := by decide +kernel
theorem dX7_findHolding_1 : decode cX7_findHolding 1 = .ok (.iconst 0, 1) := by decide +kernel
theorem dX7_findHolding_2 : decode cX7_findHolding 2 = .ok (.putfield 55, 3) := by decide +kernel
theorem dX7_findHolding_5 : decode cX7_findHolding 5 = .ok (.aload_n 0, 1) := by decide +kernel
theorem dX7_findHolding_6 : decode cX7_findHolding 6 = .ok (.iconst 0, 1) := by decide +kernel
theorem dX7_findHolding_7 : decode cX7_findHolding 7 = .ok (.putfield 58, 3) := by decide +kernel
theorem dX7_findHolding_10 : decode cX7_findHolding 10 = .ok (.aload_n 0, 1) := by decide +kernel
theorem dX7_findHolding_11 : decode cX7_findHolding 11 = .ok (.invokevirtual 74, 3) := by decide +kernel
theorem dX7_findHolding_14 : decode cX7_findHolding 14 = .ok (.pop, 1) := by decide +kernel
theorem dX7_findHolding_15 : decode cX7_findHolding 15 = .ok (.aload_n 0, 1) := by decide +kernel
theorem dX7_findHolding_16 : decode cX7_findHolding 16 = .ok (.aload_n 0, 1) := by decide +kernel
theorem dX7_findHolding_17 : decode cX7_findHolding 17 = .ok (.getfield 78, 3) := by decide +kernel
theorem dX7_findHolding_20 : decode cX7_findHolding 20 = .ok (.putfield 81, 3) := by decide +kernel
theorem dX7_findHolding_23 : decode cX7_findHolding 23 = .ok (.return_, 1) := by decide +kernel
theorem dX7_lackInAll_0 : decode cX7_lackInAll 0 = .ok (.iconst 0, 1) := by decide +kernel
theorem dX7_lackInAll_1 : decode cX7_lackInAll 1 = .ok (.istore_n 1, 1) := by decide +kernel
theorem dX7_lackInAll_2 : decode cX7_lackInAll 2 = .ok (.iconst 0, 1) := by decide +kernel
theorem dX7_lackInAll_3 : decode cX7_lackInAll 3 = .ok (.istore_n 2, 1) := by decide +kernel
theorem dX7_lackInAll_4 : decode cX7_lackInAll 4 = .ok (.iload_n 2, 1) := by decide +kernel
theorem dX7_lackInAll_5 : decode cX7_lackInAll 5 = .ok (.aload_n 0, 1) := by decide +kernel
theorem dX7_lackInAll_6 : decode cX7_lackInAll 6 = .ok (.getfield 33, 3) := by decide +kernel
theorem dX7_lackInAll_9 : decode cX7_lackInAll 9 = .ok (.if_icmp .ge 26, 3) := by decide +kernel
theorem dX7_lackInAll_12 : decode cX7_lackInAll 12 = .ok (.iload_n 1, 1) := by decide +kernel
theorem dX7_lackInAll_13 : decode cX7_lackInAll 13 = .ok (.aload_n 0, 1) := by decide +kernel
theorem dX7_lackInAll_14 : decode cX7_lackInAll 14 = .ok (.getfield 52, 3) := by decide +kernel
theorem dX7_lackInAll_17 : decode cX7_lackInAll 17 = .ok (.aload_n 0, 1) := by decide +kernel
theorem dX7_lackInAll_18 : decode cX7_lackInAll 18 = .ok (.getfield 18, 3) := by decide +kernel
theorem dX7_lackInAll_21 : decode cX7_lackInAll 21 = .ok (.iload_n 2, 1) := by decide +kernel
theorem dX7_lackInAll_22 : decode cX7_lackInAll 22 = .ok (.iaload, 1) := by decide +kernel
theorem dX7_lackInAll_23 : decode cX7_lackInAll 23 = .ok (.invokestatic 84, 3) := by decide +kernel
theorem dX7_lackInAll_26 : decode cX7_lackInAll 26 = .ok (.isub, 1) := by decide +kernel
theorem dX7_lackInAll_27 : decode cX7_lackInAll 27 = .ok (.iadd, 1) := by decide +kernel
theorem dX7_lackInAll_28 : decode cX7_lackInAll 28 = .ok (.istore_n 1, 1) := by decide +kernel
theorem dX7_lackInAll_29 : decode cX7_lackInAll 29 = .ok (.iinc 2 1, 3) := by decide +kernel
theorem dX7_lackInAll_32 : decode cX7_lackInAll 32 = .ok (.goto (-28), 3) := by decide +kernel
theorem dX7_lackInAll_35 : decode cX7_lackInAll 35 = .ok (.iload_n 1, 1) := by decide +kernel
theorem dX7_lackInAll_36 : decode cX7_lackInAll 36 = .ok (.ireturn, 1) := by decide +kernel
theorem dX7_prefer_0 : decode cX7_prefer 0 = .ok (.aload_n 0, 1) := by decide +kernel
theorem dX7_prefer_1 : decode cX7_prefer 1 = .ok (.iload_n 1, 1) := by decide +kernel
theorem dX7_prefer_2 : decode cX7_prefer 2 = .ok (.invokevirtual 90, 3) := by decide +kernel
theorem dX7_prefer_5 : decode cX7_prefer 5 = .ok (.ifCond .ne 7, 3) := by decide +kernel
theorem dX7_prefer_8 : decode cX7_prefer 8 = .ok (.iconst 1, 1) := by decide +kernel
theorem dX7_prefer_9 : decode cX7_prefer 9 = .ok (.goto 4, 3) := by decide +kernel
theorem dX7_prefer_12 : decode cX7_prefer 12 = .ok (.iconst 0, 1) := by decide +kernel
theorem dX7_prefer_13 : decode cX7_prefer 13 = .ok (.istore_n 3, 1) := by decide +kernel
theorem dX7_prefer_14 : decode cX7_prefer 14 = .ok (.aload_n 0, 1) := by decide +kernel
theorem dX7_prefer_15 : decode cX7_prefer 15 = .ok (.iload_n 2, 1) := by decide +kernel
theorem dX7_prefer_16 : decode cX7_prefer 16 = .ok (.invokevirtual 94, 3) := by decide +kernel
theorem dX7_prefer_19 : decode cX7_prefer 19 = .ok (.ifCond .ne 7, 3) := by decide +kernel
theorem dX7_prefer_22 : decode cX7_prefer 22 = .ok (.iconst 1, 1) := by decide +kernel
theorem dX7_prefer_23 : decode cX7_prefer 23 = .ok (.goto 4, 3) := by decide +kernel
theorem dX7_prefer_26 : decode cX7_prefer 26 = .ok (.iconst 0, 1) := by decide +kernel
theorem dX7_prefer_27 : decode cX7_prefer 27 = .ok (.istore 4, 2) := by decide +kernel
theorem dX7_prefer_29 : decode cX7_prefer 29 = .ok (.aload_n 0, 1) := by decide +kernel
theorem dX7_prefer_30 : decode cX7_prefer 30 = .ok (.getfield 18, 3) := by decide +kernel
theorem dX7_prefer_33 : decode cX7_prefer 33 = .ok (.iload_n 1, 1) := by decide +kernel
theorem dX7_prefer_34 : decode cX7_prefer 34 = .ok (.iaload, 1) := by decide +kernel
theorem dX7_prefer_35 : decode cX7_prefer 35 = .ok (.aload_n 0, 1) := by decide +kernel
theorem dX7_prefer_36 : decode cX7_prefer 36 = .ok (.iload_n 1, 1) := by decide +kernel
theorem dX7_prefer_37 : decode cX7_prefer 37 = .ok (.invokevirtual 97, 3) := by decide +kernel
theorem dX7_prefer_40 : decode cX7_prefer 40 = .ok (.iand, 1) := by decide +kernel
theorem dX7_prefer_41 : decode cX7_prefer 41 = .ok (.invokestatic 100, 3) := by decide +kernel
theorem dX7_prefer_44 : decode cX7_prefer 44 = .ok (.istore 5, 2) := by decide +kernel
theorem dX7_prefer_46 : decode cX7_prefer 46 = .ok (.aload_n 0, 1) := by decide +kernel
theorem dX7_prefer_47 : decode cX7_prefer 47 = .ok (.getfield 21, 3) := by decide +kernel
theorem dX7_prefer_50 : decode cX7_prefer 50 = .ok (.iload_n 2, 1) := by decide +kernel
theorem dX7_prefer_51 : decode cX7_prefer 51 = .ok (.iaload, 1) := by decide +kernel
theorem dX7_prefer_52 : decode cX7_prefer 52 = .ok (.aload_n 0, 1) := by decide +kernel
theorem dX7_prefer_53 : decode cX7_prefer 53 = .ok (.iload_n 2, 1) := by decide +kernel
theorem dX7_prefer_54 : decode cX7_prefer 54 = .ok (.invokevirtual 103, 3) := by decide +kernel
theorem dX7_prefer_57 : decode cX7_prefer 57 = .ok (.iand, 1) := by decide +kernel
theorem dX7_prefer_58 : decode cX7_prefer 58 = .ok (.invokestatic 100, 3) := by decide +kernel
theorem dX7_prefer_61 : decode cX7_prefer 61 = .ok (.istore 6, 2) := by decide +kernel
theorem dX7_prefer_63 : decode cX7_prefer 63 = .ok (.iload_n 3, 1) := by decide +kernel
theorem dX7_prefer_64 : decode cX7_prefer 64 = .ok (.ifCond .eq 9, 3) := by decide +kernel
theorem dX7_prefer_67 : decode cX7_prefer 67 = .ok (.iload 5, 2) := by decide +kernel
theorem dX7_prefer_69 : decode cX7_prefer 69 = .ok (.iconst (-1), 1) := by decide +kernel
theorem dX7_prefer_70 : decode cX7_prefer 70 = .ok (.if_icmp .eq 14, 3) := by decide +kernel
theorem dX7_prefer_73 : decode cX7_prefer 73 = .ok (.iload 4, 2) := by decide +kernel
theorem dX7_prefer_75 : decode cX7_prefer 75 = .ok (.ifCond .eq 10, 3) := by decide +kernel
theorem dX7_prefer_78 : decode cX7_prefer 78 = .ok (.iload 6, 2) := by decide +kernel
theorem dX7_prefer_80 : decode cX7_prefer 80 = .ok (.iconst (-1), 1) := by decide +kernel
theorem dX7_prefer_81 : decode cX7_prefer 81 = .ok (.if_icmp .ne 4, 3) := by decide +kernel
theorem dX7_prefer_84 : decode cX7_prefer 84 = .ok (.return_, 1) := by decide +kernel
theorem dX7_prefer_85 : decode cX7_prefer 85 = .ok (.iload_n 3, 1) := by decide +kernel
theorem dX7_prefer_86 : decode cX7_prefer 86 = .ok (.ifCond .eq 10, 3) := by decide +kernel
theorem dX7_prefer_89 : decode cX7_prefer 89 = .ok (.aload_n 0, 1) := by decide +kernel
theorem dX7_prefer_90 : decode cX7_prefer 90 = .ok (.iload_n 1, 1) := by decide +kernel
theorem dX7_prefer_91 : decode cX7_prefer 91 = .ok (.iload 5, 2) := by decide +kernel
theorem dX7_prefer_93 : decode cX7_prefer 93 = .ok (.invokevirtual 106, 3) := by decide +kernel
theorem dX7_prefer_96 : decode cX7_prefer 96 = .ok (.iload 4, 2) := by decide +kernel
theorem dX7_prefer_98 : decode cX7_prefer 98 = .ok (.ifCond .eq 10, 3) := by decide +kernel
theorem dX7_prefer_101 : decode cX7_prefer 101 = .ok (.aload_n 0, 1) := by decide +kernel
theorem dX7_prefer_102 : decode cX7_prefer 102 = .ok (.iload 6, 2) := by decide +kernel
theorem dX7_prefer_104 : decode cX7_prefer 104 = .ok (.iload_n 2, 1) := by decide +kernel
theorem dX7_prefer_105 : decode cX7_prefer 105 = .ok (.invokevirtual 106, 3) := by decide +kernel
theorem dX7_prefer_108 : decode cX7_prefer 108 = .ok (.aload_n 0, 1) := by decide +kernel
theorem dX7_prefer_109 : decode cX7_prefer 109 = .ok (.iload_n 1, 1) := by decide +kernel
theorem dX7_prefer_110 : decode cX7_prefer 110 = .ok (.iload_n 2, 1) := by decide +kernel
theorem dX7_prefer_111 : decode cX7_prefer 111 = .ok (.invokevirtual 109, 3) := by decide +kernel
theorem dX7_prefer_114 : decode cX7_prefer 114 = .ok (.iload_n 3, 1) := by decide +kernel
theorem dX7_prefer_115 : decode cX7_prefer 115 = .ok (.ifCond .eq 35, 3) := by decide +kernel
theorem dX7_prefer_118 : decode cX7_prefer 118 = .ok (.iload 4, 2) := by decide +kernel
theorem dX7_prefer_120 : decode cX7_prefer 120 = .ok (.ifCond .eq 30, 3) := by decide +kernel
theorem dX7_prefer_123 : decode cX7_prefer 123 = .ok (.aload_n 0, 1) := by decide +kernel
theorem dX7_prefer_124 : decode cX7_prefer 124 = .ok (.invokevirtual 66, 3) := by decide +kernel
theorem dX7_prefer_127 : decode cX7_prefer 127 = .ok (.ifCond .ne 23, 3) := by decide +kernel
theorem dX7_prefer_130 : decode cX7_prefer 130 = .ok (.aload_n 0, 1) := by decide +kernel
theorem dX7_prefer_131 : decode cX7_prefer 131 = .ok (.iload_n 1, 1) := by decide +kernel
theorem dX7_prefer_132 : decode cX7_prefer 132 = .ok (.iload_n 2, 1) := by decide +kernel
theorem dX7_prefer_133 : decode cX7_prefer 133 = .ok (.invokevirtual 106, 3) := by decide +kernel
theorem dX7_prefer_136 : decode cX7_prefer 136 = .ok (.aload_n 0, 1) := by decide +kernel
theorem dX7_prefer_137 : decode cX7_prefer 137 = .ok (.iload_n 1, 1) := by decide +kernel
theorem dX7_prefer_138 : decode cX7_prefer 138 = .ok (.iload 5, 2) := by decide +kernel
theorem dX7_prefer_140 : decode cX7_prefer 140 = .ok (.invokevirtual 109, 3) := by decide +kernel
theorem dX7_prefer_143 : decode cX7_prefer 143 = .ok (.aload_n 0, 1) := by decide +kernel
theorem dX7_prefer_144 : decode cX7_prefer 144 = .ok (.iload 6, 2) := by decide +kernel
theorem dX7_prefer_146 : decode cX7_prefer 146 = .ok (.iload_n 2, 1) := by decide +kernel
theorem dX7_prefer_147 : decode cX7_prefer 147 = .ok (.invokevirtual 109, 3) := by decide +kernel
theorem dX7_prefer_150 : decode cX7_prefer 150 = .ok (.return_, 1) := by decide +kernel
theorem dX7_addLook_0 : decode cX7_addLook 0 = .ok (.aload_n 0, 1) := by decide +kernel
theorem dX7_addLook_1 : decode cX7_addLook 1 = .ok (.invokevirtual 74, 3) := by decide +kernel
theorem dX7_addLook_4 : decode cX7_addLook 4 = .ok (.istore_n 1, 1) := by decide +kernel
theorem dX7_addLook_5 : decode cX7_addLook 5 = .ok (.iload_n 1, 1) := by decide +kernel
theorem dX7_addLook_6 : decode cX7_addLook 6 = .ok (.iconst (-1), 1) := by decide +kernel
theorem dX7_addLook_7 : decode cX7_addLook 7 = .ok (.if_icmp .ne 5, 3) := by decide +kernel
theorem dX7_addLook_10 : decode cX7_addLook 10 = .ok (.iconst 0, 1) := by decide +kernel
theorem dX7_addLook_11 : decode cX7_addLook 11 = .ok (.ireturn, 1) := by decide +kernel
theorem dX7_addLook_12 : decode cX7_addLook 12 = .ok (.iconst 0, 1) := by decide +kernel
theorem dX7_addLook_13 : decode cX7_addLook 13 = .ok (.istore_n 2, 1) := by decide +kernel
theorem dX7_addLook_14 : decode cX7_addLook 14 = .ok (.iload_n 2, 1) := by decide +kernel
theorem dX7_addLook_15 : decode cX7_addLook 15 = .ok (.bipush 12, 2) := by decide +kernel
theorem dX7_addLook_17 : decode cX7_addLook 17 = .ok (.if_icmp .ge 51, 3) := by decide +kernel
theorem dX7_addLook_20 : decode cX7_addLook 20 = .ok (.iload_n 1, 1) := by decide +kernel
theorem dX7_addLook_21 : decode cX7_addLook 21 = .ok (.iconst (-1), 1) := by decide +kernel
theorem dX7_addLook_22 : decode cX7_addLook 22 = .ok (.if_icmp .eq 46, 3) := by decide +kernel
theorem dX7_addLook_25 : decode cX7_addLook 25 = .ok (.aload_n 0, 1) := by decide +kernel
theorem dX7_addLook_26 : decode cX7_addLook 26 = .ok (.getfield 30, 3) := by decide +kernel
theorem dX7_addLook_29 : decode cX7_addLook 29 = .ok (.iload_n 1, 1) := by decide +kernel
theorem dX7_addLook_30 : decode cX7_addLook 30 = .ok (.iaload, 1) := by decide +kernel
theorem dX7_addLook_31 : decode cX7_addLook 31 = .ok (.istore_n 3, 1) := by decide +kernel
theorem dX7_addLook_32 : decode cX7_addLook 32 = .ok (.aload_n 0, 1) := by decide +kernel
theorem dX7_addLook_33 : decode cX7_addLook 33 = .ok (.getfield 27, 3) := by decide +kernel
theorem dX7_addLook_36 : decode cX7_addLook 36 = .ok (.iload_n 3, 1) := by decide +kernel
theorem dX7_addLook_37 : decode cX7_addLook 37 = .ok (.iaload, 1) := by decide +kernel
theorem dX7_addLook_38 : decode cX7_addLook 38 = .ok (.istore 4, 2) := by decide +kernel
theorem dX7_addLook_40 : decode cX7_addLook 40 = .ok (.iload 4, 2) := by decide +kernel
theorem dX7_addLook_42 : decode cX7_addLook 42 = .ok (.iconst (-1), 1) := by decide +kernel
theorem dX7_addLook_43 : decode cX7_addLook 43 = .ok (.if_icmp .eq 10, 3) := by decide +kernel
theorem dX7_addLook_46 : decode cX7_addLook 46 = .ok (.aload_n 0, 1) := by decide +kernel
theorem dX7_addLook_47 : decode cX7_addLook 47 = .ok (.iload_n 3, 1) := by decide +kernel
theorem dX7_addLook_48 : decode cX7_addLook 48 = .ok (.iload 4, 2) := by decide +kernel
theorem dX7_addLook_50 : decode cX7_addLook 50 = .ok (.invokevirtual 106, 3) := by decide +kernel
theorem dX7_addLook_53 : decode cX7_addLook 53 = .ok (.aload_n 0, 1) := by decide +kernel
theorem dX7_addLook_54 : decode cX7_addLook 54 = .ok (.iload_n 3, 1) := by decide +kernel
theorem dX7_addLook_55 : decode cX7_addLook 55 = .ok (.iload_n 1, 1) := by decide +kernel
theorem dX7_addLook_56 : decode cX7_addLook 56 = .ok (.invokevirtual 109, 3) := by decide +kernel
theorem dX7_addLook_59 : decode cX7_addLook 59 = .ok (.iload 4, 2) := by decide +kernel
theorem dX7_addLook_61 : decode cX7_addLook 61 = .ok (.istore_n 1, 1) := by decide +kernel
theorem dX7_addLook_62 : decode cX7_addLook 62 = .ok (.iinc 2 1, 3) := by decide +kernel
theorem dX7_addLook_65 : decode cX7_addLook 65 = .ok (.goto (-51), 3) := by decide +kernel
theorem dX7_addLook_68 : decode cX7_addLook 68 = .ok (.iconst 1, 1) := by decide +kernel
theorem dX7_addLook_69 : decode cX7_addLook 69 = .ok (.ireturn, 1) := by decide +kernel
theorem dX7_reachRoom_0 : decode cX7_reachRoom 0 = .ok (.aload_n 0, 1) := by decide +kernel
theorem dX7_reachRoom_1 : decode cX7_reachRoom 1 = .ok (.invokevirtual 112, 3) := by decide +kernel
theorem dX7_reachRoom_4 : decode cX7_reachRoom 4 = .ok (.iconst 0, 1) := by decide +kernel
theorem dX7_reachRoom_5 : decode cX7_reachRoom 5 = .ok (.istore_n 1, 1) := by decide +kernel
theorem dX7_reachRoom_6 : decode cX7_reachRoom 6 = .ok (.iload_n 1, 1) := by decide +kernel
theorem dX7_reachRoom_7 : decode cX7_reachRoom 7 = .ok (.aload_n 0, 1) := by decide +kernel
theorem dX7_reachRoom_8 : decode cX7_reachRoom 8 = .ok (.getfield 115, 3) := by decide +kernel
theorem dX7_reachRoom_11 : decode cX7_reachRoom 11 = .ok (.if_icmp .ge 122, 3) := by decide +kernel
theorem dX7_reachRoom_14 : decode cX7_reachRoom 14 = .ok (.iload_n 1, 1) := by decide +kernel
theorem dX7_reachRoom_15 : decode cX7_reachRoom 15 = .ok (.bipush 24, 2) := by decide +kernel
theorem dX7_reachRoom_17 : decode cX7_reachRoom 17 = .ok (.if_icmp .ge 116, 3) := by decide +kernel
theorem dX7_reachRoom_20 : decode cX7_reachRoom 20 = .ok (.aload_n 0, 1) := by decide +kernel
theorem dX7_reachRoom_21 : decode cX7_reachRoom 21 = .ok (.getfield 24, 3) := by decide +kernel
theorem dX7_reachRoom_24 : decode cX7_reachRoom 24 = .ok (.iload_n 1, 1) := by decide +kernel
theorem dX7_reachRoom_25 : decode cX7_reachRoom 25 = .ok (.iaload, 1) := by decide +kernel
theorem dX7_reachRoom_26 : decode cX7_reachRoom 26 = .ok (.istore_n 2, 1) := by decide +kernel
theorem dX7_reachRoom_27 : decode cX7_reachRoom 27 = .ok (.aload_n 0, 1) := by decide +kernel
theorem dX7_reachRoom_28 : decode cX7_reachRoom 28 = .ok (.getfield 15, 3) := by decide +kernel
theorem dX7_reachRoom_31 : decode cX7_reachRoom 31 = .ok (.iload_n 2, 1) := by decide +kernel
theorem dX7_reachRoom_32 : decode cX7_reachRoom 32 = .ok (.iaload, 1) := by decide +kernel
theorem dX7_reachRoom_33 : decode cX7_reachRoom 33 = .ok (.aload_n 0, 1) := by decide +kernel
theorem dX7_reachRoom_34 : decode cX7_reachRoom 34 = .ok (.getfield 18, 3) := by decide +kernel
theorem dX7_reachRoom_37 : decode cX7_reachRoom 37 = .ok (.iload_n 2, 1) := by decide +kernel
theorem dX7_reachRoom_38 : decode cX7_reachRoom 38 = .ok (.iaload, 1) := by decide +kernel
theorem dX7_reachRoom_39 : decode cX7_reachRoom 39 = .ok (.iconst (-1), 1) := by decide +kernel
theorem dX7_reachRoom_40 : decode cX7_reachRoom 40 = .ok (.ixor, 1) := by decide +kernel
theorem dX7_reachRoom_41 : decode cX7_reachRoom 41 = .ok (.iand, 1) := by decide +kernel
theorem dX7_reachRoom_42 : decode cX7_reachRoom 42 = .ok (.aload_n 0, 1) := by decide +kernel
theorem dX7_reachRoom_43 : decode cX7_reachRoom 43 = .ok (.iload_n 2, 1) := by decide +kernel
theorem dX7_reachRoom_44 : decode cX7_reachRoom 44 = .ok (.invokevirtual 97, 3) := by decide +kernel
theorem dX7_reachRoom_47 : decode cX7_reachRoom 47 = .ok (.iand, 1) := by decide +kernel
theorem dX7_reachRoom_48 : decode cX7_reachRoom 48 = .ok (.aload_n 0, 1) := by decide +kernel
theorem dX7_reachRoom_49 : decode cX7_reachRoom 49 = .ok (.getfield 118, 3) := by decide +kernel
theorem dX7_reachRoom_52 : decode cX7_reachRoom 52 = .ok (.iconst (-1), 1) := by decide +kernel
theorem dX7_reachRoom_53 : decode cX7_reachRoom 53 = .ok (.ixor, 1) := by decide +kernel
theorem dX7_reachRoom_54 : decode cX7_reachRoom 54 = .ok (.iand, 1) := by decide +kernel
theorem dX7_reachRoom_55 : decode cX7_reachRoom 55 = .ok (.istore_n 3, 1) := by decide +kernel
theorem dX7_reachRoom_56 : decode cX7_reachRoom 56 = .ok (.iconst 0, 1) := by decide +kernel
theorem dX7_reachRoom_57 : decode cX7_reachRoom 57 = .ok (.istore 4, 2) := by decide +kernel
theorem dX7_reachRoom_59 : decode cX7_reachRoom 59 = .ok (.iload 4, 2) := by decide +kernel
theorem dX7_reachRoom_61 : decode cX7_reachRoom 61 = .ok (.aload_n 0, 1) := by decide +kernel
theorem dX7_reachRoom_62 : decode cX7_reachRoom 62 = .ok (.getfield 37, 3) := by decide +kernel
theorem dX7_reachRoom_65 : decode cX7_reachRoom 65 = .ok (.if_icmp .ge 62, 3) := by decide +kernel
theorem dX7_reachRoom_68 : decode cX7_reachRoom 68 = .ok (.iload_n 3, 1) := by decide +kernel
theorem dX7_reachRoom_69 : decode cX7_reachRoom 69 = .ok (.ifCond .eq 58, 3) := by decide +kernel
theorem dX7_reachRoom_72 : decode cX7_reachRoom 72 = .ok (.iload_n 3, 1) := by decide +kernel
theorem dX7_reachRoom_73 : decode cX7_reachRoom 73 = .ok (.iload 4, 2) := by decide +kernel
theorem dX7_reachRoom_75 : decode cX7_reachRoom 75 = .ok (.ishr, 1) := by decide +kernel
theorem dX7_reachRoom_76 : decode cX7_reachRoom 76 = .ok (.iconst 1, 1) := by decide +kernel
theorem dX7_reachRoom_77 : decode cX7_reachRoom 77 = .ok (.iand, 1) := by decide +kernel
theorem dX7_reachRoom_78 : decode cX7_reachRoom 78 = .ok (.iconst 1, 1) := by decide +kernel
theorem dX7_reachRoom_79 : decode cX7_reachRoom 79 = .ok (.if_icmp .ne 42, 3) := by decide +kernel
theorem dX7_reachRoom_82 : decode cX7_reachRoom 82 = .ok (.aload_n 0, 1) := by decide +kernel
theorem dX7_reachRoom_83 : decode cX7_reachRoom 83 = .ok (.dup, 1) := by decide +kernel
theorem dX7_reachRoom_84 : decode cX7_reachRoom 84 = .ok (.getfield 118, 3) := by decide +kernel
theorem dX7_reachRoom_87 : decode cX7_reachRoom 87 = .ok (.iconst 1, 1) := by decide +kernel
theorem dX7_reachRoom_88 : decode cX7_reachRoom 88 = .ok (.iload 4, 2) := by decide +kernel
theorem dX7_reachRoom_90 : decode cX7_reachRoom 90 = .ok (.ishl, 1) := by decide +kernel
theorem dX7_reachRoom_91 : decode cX7_reachRoom 91 = .ok (.ior, 1) := by decide +kernel
theorem dX7_reachRoom_92 : decode cX7_reachRoom 92 = .ok (.putfield 118, 3) := by decide +kernel
theorem dX7_reachRoom_95 : decode cX7_reachRoom 95 = .ok (.aload_n 0, 1) := by decide +kernel
theorem dX7_reachRoom_96 : decode cX7_reachRoom 96 = .ok (.getfield 30, 3) := by decide +kernel
theorem dX7_reachRoom_99 : decode cX7_reachRoom 99 = .ok (.iload 4, 2) := by decide +kernel
theorem dX7_reachRoom_101 : decode cX7_reachRoom 101 = .ok (.iload_n 2, 1) := by decide +kernel
theorem dX7_reachRoom_102 : decode cX7_reachRoom 102 = .ok (.iastore, 1) := by decide +kernel
theorem dX7_reachRoom_103 : decode cX7_reachRoom 103 = .ok (.aload_n 0, 1) := by decide +kernel
theorem dX7_reachRoom_104 : decode cX7_reachRoom 104 = .ok (.iload 4, 2) := by decide +kernel
theorem dX7_reachRoom_106 : decode cX7_reachRoom 106 = .ok (.invokevirtual 94, 3) := by decide +kernel
theorem dX7_reachRoom_109 : decode cX7_reachRoom 109 = .ok (.ifCond .eq 6, 3) := by decide +kernel
theorem dX7_reachRoom_112 : decode cX7_reachRoom 112 = .ok (.iload 4, 2) := by decide +kernel
theorem dX7_reachRoom_114 : decode cX7_reachRoom 114 = .ok (.ireturn, 1) := by decide +kernel
theorem dX7_reachRoom_115 : decode cX7_reachRoom 115 = .ok (.aload_n 0, 1) := by decide +kernel
theorem dX7_reachRoom_116 : decode cX7_reachRoom 116 = .ok (.iload 4, 2) := by decide +kernel
theorem dX7_reachRoom_118 : decode cX7_reachRoom 118 = .ok (.invokevirtual 121, 3) := by decide +kernel
theorem dX7_reachRoom_121 : decode cX7_reachRoom 121 = .ok (.iinc 4 1, 3) := by decide +kernel
theorem dX7_reachRoom_124 : decode cX7_reachRoom 124 = .ok (.goto (-65), 3) := by decide +kernel
theorem dX7_reachRoom_127 : decode cX7_reachRoom 127 = .ok (.iinc 1 1, 3) := by decide +kernel
theorem dX7_reachRoom_130 : decode cX7_reachRoom 130 = .ok (.goto (-124), 3) := by decide +kernel
theorem dX7_reachRoom_133 : decode cX7_reachRoom 133 = .ok (.iconst (-1), 1) := by decide +kernel
theorem dX7_reachRoom_134 : decode cX7_reachRoom 134 = .ok (.ireturn, 1) := by decide +kernel
theorem dX7_startAtLacking_0 : decode cX7_startAtLacking 0 = .ok (.aload_n 0, 1) := by decide +kernel
theorem dX7_startAtLacking_1 : decode cX7_startAtLacking 1 = .ok (.iconst 0, 1) := by decide +kernel
theorem dX7_startAtLacking_2 : decode cX7_startAtLacking 2 = .ok (.putfield 78, 3) := by decide +kernel
theorem dX7_startAtLacking_5 : decode cX7_startAtLacking 5 = .ok (.aload_n 0, 1) := by decide +kernel
theorem dX7_startAtLacking_6 : decode cX7_startAtLacking 6 = .ok (.iconst 0, 1) := by decide +kernel
theorem dX7_startAtLacking_7 : decode cX7_startAtLacking 7 = .ok (.putfield 118, 3) := by decide +kernel
theorem dX7_startAtLacking_10 : decode cX7_startAtLacking 10 = .ok (.aload_n 0, 1) := by decide +kernel
theorem dX7_startAtLacking_11 : decode cX7_startAtLacking 11 = .ok (.iconst 0, 1) := by decide +kernel
theorem dX7_startAtLacking_12 : decode cX7_startAtLacking 12 = .ok (.putfield 115, 3) := by decide +kernel
theorem dX7_startAtLacking_15 : decode cX7_startAtLacking 15 = .ok (.iconst 0, 1) := by decide +kernel
theorem dX7_startAtLacking_16 : decode cX7_startAtLacking 16 = .ok (.istore_n 1, 1) := by decide +kernel
theorem dX7_startAtLacking_17 : decode cX7_startAtLacking 17 = .ok (.iload_n 1, 1) := by decide +kernel
theorem dX7_startAtLacking_18 : decode cX7_startAtLacking 18 = .ok (.aload_n 0, 1) := by decide +kernel
theorem dX7_startAtLacking_19 : decode cX7_startAtLacking 19 = .ok (.getfield 33, 3) := by decide +kernel
theorem dX7_startAtLacking_22 : decode cX7_startAtLacking 22 = .ok (.if_icmp .ge 23, 3) := by decide +kernel
theorem dX7_startAtLacking_25 : decode cX7_startAtLacking 25 = .ok (.aload_n 0, 1) := by decide +kernel
theorem dX7_startAtLacking_26 : decode cX7_startAtLacking 26 = .ok (.iload_n 1, 1) := by decide +kernel
theorem dX7_startAtLacking_27 : decode cX7_startAtLacking 27 = .ok (.invokevirtual 90, 3) := by decide +kernel
theorem dX7_startAtLacking_30 : decode cX7_startAtLacking 30 = .ok (.ifCond .eq 9, 3) := by decide +kernel
theorem dX7_startAtLacking_33 : decode cX7_startAtLacking 33 = .ok (.aload_n 0, 1) := by decide +kernel
theorem dX7_startAtLacking_34 : decode cX7_startAtLacking 34 = .ok (.iload_n 1, 1) := by decide +kernel
theorem dX7_startAtLacking_35 : decode cX7_startAtLacking 35 = .ok (.iconst (-1), 1) := by decide +kernel
theorem dX7_startAtLacking_36 : decode cX7_startAtLacking 36 = .ok (.invokevirtual 125, 3) := by decide +kernel
theorem dX7_startAtLacking_39 : decode cX7_startAtLacking 39 = .ok (.iinc 1 1, 3) := by decide +kernel
theorem dX7_startAtLacking_42 : decode cX7_startAtLacking 42 = .ok (.goto (-25), 3) := by decide +kernel
theorem dX7_startAtLacking_45 : decode cX7_startAtLacking 45 = .ok (.return_, 1) := by decide +kernel
theorem dX7_reachShown_0 : decode cX7_reachShown 0 = .ok (.aload_n 0, 1) := by decide +kernel
theorem dX7_reachShown_1 : decode cX7_reachShown 1 = .ok (.getfield 21, 3) := by decide +kernel
theorem dX7_reachShown_4 : decode cX7_reachShown 4 = .ok (.iload_n 1, 1) := by decide +kernel
theorem dX7_reachShown_5 : decode cX7_reachShown 5 = .ok (.iaload, 1) := by decide +kernel
theorem dX7_reachShown_6 : decode cX7_reachShown 6 = .ok (.aload_n 0, 1) := by decide +kernel
theorem dX7_reachShown_7 : decode cX7_reachShown 7 = .ok (.iload_n 1, 1) := by decide +kernel
theorem dX7_reachShown_8 : decode cX7_reachShown 8 = .ok (.invokevirtual 103, 3) := by decide +kernel
theorem dX7_reachShown_11 : decode cX7_reachShown 11 = .ok (.iand, 1) := by decide +kernel
theorem dX7_reachShown_12 : decode cX7_reachShown 12 = .ok (.aload_n 0, 1) := by decide +kernel
theorem dX7_reachShown_13 : decode cX7_reachShown 13 = .ok (.getfield 78, 3) := by decide +kernel
theorem dX7_reachShown_16 : decode cX7_reachShown 16 = .ok (.iconst (-1), 1) := by decide +kernel
theorem dX7_reachShown_17 : decode cX7_reachShown 17 = .ok (.ixor, 1) := by decide +kernel
theorem dX7_reachShown_18 : decode cX7_reachShown 18 = .ok (.iand, 1) := by decide +kernel
theorem dX7_reachShown_19 : decode cX7_reachShown 19 = .ok (.istore_n 2, 1) := by decide +kernel
theorem dX7_reachShown_20 : decode cX7_reachShown 20 = .ok (.iconst 0, 1) := by decide +kernel
theorem dX7_reachShown_21 : decode cX7_reachShown 21 = .ok (.istore_n 3, 1) := by decide +kernel
theorem dX7_reachShown_22 : decode cX7_reachShown 22 = .ok (.iload_n 3, 1) := by decide +kernel
theorem dX7_reachShown_23 : decode cX7_reachShown 23 = .ok (.aload_n 0, 1) := by decide +kernel
theorem dX7_reachShown_24 : decode cX7_reachShown 24 = .ok (.getfield 33, 3) := by decide +kernel
theorem dX7_reachShown_27 : decode cX7_reachShown 27 = .ok (.if_icmp .ge 28, 3) := by decide +kernel
theorem dX7_reachShown_30 : decode cX7_reachShown 30 = .ok (.iload_n 2, 1) := by decide +kernel
theorem dX7_reachShown_31 : decode cX7_reachShown 31 = .ok (.ifCond .eq 24, 3) := by decide +kernel
theorem dX7_reachShown_34 : decode cX7_reachShown 34 = .ok (.iload_n 2, 1) := by decide +kernel
theorem dX7_reachShown_35 : decode cX7_reachShown 35 = .ok (.iload_n 3, 1) := by decide +kernel
theorem dX7_reachShown_36 : decode cX7_reachShown 36 = .ok (.ishr, 1) := by decide +kernel
theorem dX7_reachShown_37 : decode cX7_reachShown 37 = .ok (.iconst 1, 1) := by decide +kernel
theorem dX7_reachShown_38 : decode cX7_reachShown 38 = .ok (.iand, 1) := by decide +kernel
theorem dX7_reachShown_39 : decode cX7_reachShown 39 = .ok (.iconst 1, 1) := by decide +kernel
theorem dX7_reachShown_40 : decode cX7_reachShown 40 = .ok (.if_icmp .ne 9, 3) := by decide +kernel
theorem dX7_reachShown_43 : decode cX7_reachShown 43 = .ok (.aload_n 0, 1) := by decide +kernel
theorem dX7_reachShown_44 : decode cX7_reachShown 44 = .ok (.iload_n 3, 1) := by decide +kernel
theorem dX7_reachShown_45 : decode cX7_reachShown 45 = .ok (.iload_n 1, 1) := by decide +kernel
theorem dX7_reachShown_46 : decode cX7_reachShown 46 = .ok (.invokevirtual 125, 3) := by decide +kernel
theorem dX7_reachShown_49 : decode cX7_reachShown 49 = .ok (.iinc 3 1, 3) := by decide +kernel
theorem dX7_reachShown_52 : decode cX7_reachShown 52 = .ok (.goto (-30), 3) := by decide +kernel
theorem dX7_reachShown_55 : decode cX7_reachShown 55 = .ok (.return_, 1) := by decide +kernel
theorem dX7_reach_0 : decode cX7_reach 0 = .ok (.aload_n 0, 1) := by decide +kernel
theorem dX7_reach_1 : decode cX7_reach 1 = .ok (.getfield 115, 3) := by decide +kernel
theorem dX7_reach_4 : decode cX7_reach 4 = .ok (.bipush 24, 2) := by decide +kernel
theorem dX7_reach_6 : decode cX7_reach 6 = .ok (.if_icmp .ge 42, 3) := by decide +kernel
theorem dX7_reach_9 : decode cX7_reach 9 = .ok (.aload_n 0, 1) := by decide +kernel
theorem dX7_reach_10 : decode cX7_reach 10 = .ok (.dup, 1) := by decide +kernel
theorem dX7_reach_11 : decode cX7_reach 11 = .ok (.getfield 78, 3) := by decide +kernel
theorem dX7_reach_14 : decode cX7_reach 14 = .ok (.iconst 1, 1) := by decide +kernel
theorem dX7_reach_15 : decode cX7_reach 15 = .ok (.iload_n 1, 1) := by decide +kernel
theorem dX7_reach_16 : decode cX7_reach 16 = .ok (.ishl, 1) := by decide +kernel
theorem dX7_reach_17 : decode cX7_reach 17 = .ok (.ior, 1) := by decide +kernel
theorem dX7_reach_18 : decode cX7_reach 18 = .ok (.putfield 78, 3) := by decide +kernel
theorem dX7_reach_21 : decode cX7_reach 21 = .ok (.aload_n 0, 1) := by decide +kernel
theorem dX7_reach_22 : decode cX7_reach 22 = .ok (.getfield 27, 3) := by decide +kernel
theorem dX7_reach_25 : decode cX7_reach 25 = .ok (.iload_n 1, 1) := by decide +kernel
theorem dX7_reach_26 : decode cX7_reach 26 = .ok (.iload_n 2, 1) := by decide +kernel
theorem dX7_reach_27 : decode cX7_reach 27 = .ok (.iastore, 1) := by decide +kernel
theorem dX7_reach_28 : decode cX7_reach 28 = .ok (.aload_n 0, 1) := by decide +kernel
theorem dX7_reach_29 : decode cX7_reach 29 = .ok (.getfield 24, 3) := by decide +kernel
theorem dX7_reach_32 : decode cX7_reach 32 = .ok (.aload_n 0, 1) := by decide +kernel
theorem dX7_reach_33 : decode cX7_reach 33 = .ok (.getfield 115, 3) := by decide +kernel
theorem dX7_reach_36 : decode cX7_reach 36 = .ok (.iload_n 1, 1) := by decide +kernel
theorem dX7_reach_37 : decode cX7_reach 37 = .ok (.iastore, 1) := by decide +kernel
theorem dX7_reach_38 : decode cX7_reach 38 = .ok (.aload_n 0, 1) := by decide +kernel
theorem dX7_reach_39 : decode cX7_reach 39 = .ok (.dup, 1) := by decide +kernel
theorem dX7_reach_40 : decode cX7_reach 40 = .ok (.getfield 115, 3) := by decide +kernel
theorem dX7_reach_43 : decode cX7_reach 43 = .ok (.iconst 1, 1) := by decide +kernel
theorem dX7_reach_44 : decode cX7_reach 44 = .ok (.iadd, 1) := by decide +kernel
theorem dX7_reach_45 : decode cX7_reach 45 = .ok (.putfield 115, 3) := by decide +kernel
theorem dX7_reach_48 : decode cX7_reach 48 = .ok (.return_, 1) := by decide +kernel
theorem dX7_lacks_0 : decode cX7_lacks 0 = .ok (.aload_n 0, 1) := by decide +kernel
theorem dX7_lacks_1 : decode cX7_lacks 1 = .ok (.getfield 18, 3) := by decide +kernel
theorem dX7_lacks_4 : decode cX7_lacks 4 = .ok (.iload_n 1, 1) := by decide +kernel
theorem dX7_lacks_5 : decode cX7_lacks 5 = .ok (.iaload, 1) := by decide +kernel
theorem dX7_lacks_6 : decode cX7_lacks 6 = .ok (.invokestatic 84, 3) := by decide +kernel
theorem dX7_lacks_9 : decode cX7_lacks 9 = .ok (.aload_n 0, 1) := by decide +kernel
theorem dX7_lacks_10 : decode cX7_lacks 10 = .ok (.getfield 52, 3) := by decide +kernel
theorem dX7_lacks_13 : decode cX7_lacks 13 = .ok (.if_icmp .ge 7, 3) := by decide +kernel
theorem dX7_lacks_16 : decode cX7_lacks 16 = .ok (.iconst 1, 1) := by decide +kernel
theorem dX7_lacks_17 : decode cX7_lacks 17 = .ok (.goto 4, 3) := by decide +kernel
theorem dX7_lacks_20 : decode cX7_lacks 20 = .ok (.iconst 0, 1) := by decide +kernel
theorem dX7_lacks_21 : decode cX7_lacks 21 = .ok (.ireturn, 1) := by decide +kernel
theorem dX7_hasRoom_0 : decode cX7_hasRoom 0 = .ok (.aload_n 0, 1) := by decide +kernel
theorem dX7_hasRoom_1 : decode cX7_hasRoom 1 = .ok (.getfield 21, 3) := by decide +kernel
theorem dX7_hasRoom_4 : decode cX7_hasRoom 4 = .ok (.iload_n 1, 1) := by decide +kernel
theorem dX7_hasRoom_5 : decode cX7_hasRoom 5 = .ok (.iaload, 1) := by decide +kernel
theorem dX7_hasRoom_6 : decode cX7_hasRoom 6 = .ok (.invokestatic 84, 3) := by decide +kernel
theorem dX7_hasRoom_9 : decode cX7_hasRoom 9 = .ok (.aload_n 0, 1) := by decide +kernel
theorem dX7_hasRoom_10 : decode cX7_hasRoom 10 = .ok (.getfield 9, 3) := by decide +kernel
theorem dX7_hasRoom_13 : decode cX7_hasRoom 13 = .ok (.iload_n 1, 1) := by decide +kernel
theorem dX7_hasRoom_14 : decode cX7_hasRoom 14 = .ok (.iaload, 1) := by decide +kernel
theorem dX7_hasRoom_15 : decode cX7_hasRoom 15 = .ok (.if_icmp .ge 7, 3) := by decide +kernel
theorem dX7_hasRoom_18 : decode cX7_hasRoom 18 = .ok (.iconst 1, 1) := by decide +kernel
theorem dX7_hasRoom_19 : decode cX7_hasRoom 19 = .ok (.goto 4, 3) := by decide +kernel
theorem dX7_hasRoom_22 : decode cX7_hasRoom 22 = .ok (.iconst 0, 1) := by decide +kernel
theorem dX7_hasRoom_23 : decode cX7_hasRoom 23 = .ok (.ireturn, 1) := by decide +kernel
theorem dX7_openJudges_0 : decode cX7_openJudges 0 = .ok (.iload_n 1, 1) := by decide +kernel
theorem dX7_openJudges_1 : decode cX7_openJudges 1 = .ok (.aload_n 0, 1) := by decide +kernel
theorem dX7_openJudges_2 : decode cX7_openJudges 2 = .ok (.getfield 55, 3) := by decide +kernel
theorem dX7_openJudges_5 : decode cX7_openJudges 5 = .ok (.if_icmp .ge 5, 3) := by decide +kernel
theorem dX7_openJudges_8 : decode cX7_openJudges 8 = .ok (.iconst 0, 1) := by decide +kernel
theorem dX7_openJudges_9 : decode cX7_openJudges 9 = .ok (.ireturn, 1) := by decide +kernel
theorem dX7_openJudges_10 : decode cX7_openJudges 10 = .ok (.iload_n 1, 1) := by decide +kernel
theorem dX7_openJudges_11 : decode cX7_openJudges 11 = .ok (.aload_n 0, 1) := by decide +kernel
theorem dX7_openJudges_12 : decode cX7_openJudges 12 = .ok (.getfield 55, 3) := by decide +kernel
theorem dX7_openJudges_15 : decode cX7_openJudges 15 = .ok (.if_icmp .le 7, 3) := by decide +kernel
theorem dX7_openJudges_18 : decode cX7_openJudges 18 = .ok (.iconst (-1), 1) := by decide +kernel
theorem dX7_openJudges_19 : decode cX7_openJudges 19 = .ok (.goto 9, 3) := by decide +kernel
theorem dX7_openJudges_22 : decode cX7_openJudges 22 = .ok (.iconst (-1), 1) := by decide +kernel
theorem dX7_openJudges_23 : decode cX7_openJudges 23 = .ok (.aload_n 0, 1) := by decide +kernel
theorem dX7_openJudges_24 : decode cX7_openJudges 24 = .ok (.getfield 58, 3) := by decide +kernel
theorem dX7_openJudges_27 : decode cX7_openJudges 27 = .ok (.ishl, 1) := by decide +kernel
theorem dX7_openJudges_28 : decode cX7_openJudges 28 = .ok (.ireturn, 1) := by decide +kernel
theorem dX7_openBoards_0 : decode cX7_openBoards 0 = .ok (.iload_n 1, 1) := by decide +kernel
theorem dX7_openBoards_1 : decode cX7_openBoards 1 = .ok (.aload_n 0, 1) := by decide +kernel
theorem dX7_openBoards_2 : decode cX7_openBoards 2 = .ok (.getfield 58, 3) := by decide +kernel
theorem dX7_openBoards_5 : decode cX7_openBoards 5 = .ok (.if_icmp .ge 14, 3) := by decide +kernel
theorem dX7_openBoards_8 : decode cX7_openBoards 8 = .ok (.iconst (-1), 1) := by decide +kernel
theorem dX7_openBoards_9 : decode cX7_openBoards 9 = .ok (.aload_n 0, 1) := by decide +kernel
theorem dX7_openBoards_10 : decode cX7_openBoards 10 = .ok (.getfield 55, 3) := by decide +kernel
theorem dX7_openBoards_13 : decode cX7_openBoards 13 = .ok (.iconst 1, 1) := by decide +kernel
theorem dX7_openBoards_14 : decode cX7_openBoards 14 = .ok (.iadd, 1) := by decide +kernel
theorem dX7_openBoards_15 : decode cX7_openBoards 15 = .ok (.ishl, 1) := by decide +kernel
theorem dX7_openBoards_16 : decode cX7_openBoards 16 = .ok (.goto 9, 3) := by decide +kernel
theorem dX7_openBoards_19 : decode cX7_openBoards 19 = .ok (.iconst (-1), 1) := by decide +kernel
theorem dX7_openBoards_20 : decode cX7_openBoards 20 = .ok (.aload_n 0, 1) := by decide +kernel
theorem dX7_openBoards_21 : decode cX7_openBoards 21 = .ok (.getfield 55, 3) := by decide +kernel
theorem dX7_openBoards_24 : decode cX7_openBoards 24 = .ok (.ishl, 1) := by decide +kernel
theorem dX7_openBoards_25 : decode cX7_openBoards 25 = .ok (.ireturn, 1) := by decide +kernel
theorem dX7_join_0 : decode cX7_join 0 = .ok (.aload_n 0, 1) := by decide +kernel
theorem dX7_join_1 : decode cX7_join 1 = .ok (.getfield 18, 3) := by decide +kernel
theorem dX7_join_4 : decode cX7_join 4 = .ok (.iload_n 1, 1) := by decide +kernel
theorem dX7_join_5 : decode cX7_join 5 = .ok (.dup2, 1) := by decide +kernel
theorem dX7_join_6 : decode cX7_join 6 = .ok (.iaload, 1) := by decide +kernel
theorem dX7_join_7 : decode cX7_join 7 = .ok (.iconst 1, 1) := by decide +kernel
theorem dX7_join_8 : decode cX7_join 8 = .ok (.iload_n 2, 1) := by decide +kernel
theorem dX7_join_9 : decode cX7_join 9 = .ok (.ishl, 1) := by decide +kernel
theorem dX7_join_10 : decode cX7_join 10 = .ok (.ior, 1) := by decide +kernel
theorem dX7_join_11 : decode cX7_join 11 = .ok (.iastore, 1) := by decide +kernel
theorem dX7_join_12 : decode cX7_join 12 = .ok (.aload_n 0, 1) := by decide +kernel
theorem dX7_join_13 : decode cX7_join 13 = .ok (.getfield 21, 3) := by decide +kernel
theorem dX7_join_16 : decode cX7_join 16 = .ok (.iload_n 2, 1) := by decide +kernel
theorem dX7_join_17 : decode cX7_join 17 = .ok (.dup2, 1) := by decide +kernel
theorem dX7_join_18 : decode cX7_join 18 = .ok (.iaload, 1) := by decide +kernel
theorem dX7_join_19 : decode cX7_join 19 = .ok (.iconst 1, 1) := by decide +kernel
theorem dX7_join_20 : decode cX7_join 20 = .ok (.iload_n 1, 1) := by decide +kernel
theorem dX7_join_21 : decode cX7_join 21 = .ok (.ishl, 1) := by decide +kernel
theorem dX7_join_22 : decode cX7_join 22 = .ok (.ior, 1) := by decide +kernel
theorem dX7_join_23 : decode cX7_join 23 = .ok (.iastore, 1) := by decide +kernel
theorem dX7_join_24 : decode cX7_join 24 = .ok (.return_, 1) := by decide +kernel
theorem dX7_part_0 : decode cX7_part 0 = .ok (.aload_n 0, 1) := by decide +kernel
theorem dX7_part_1 : decode cX7_part 1 = .ok (.getfield 18, 3) := by decide +kernel
theorem dX7_part_4 : decode cX7_part 4 = .ok (.iload_n 1, 1) := by decide +kernel
theorem dX7_part_5 : decode cX7_part 5 = .ok (.dup2, 1) := by decide +kernel
theorem dX7_part_6 : decode cX7_part 6 = .ok (.iaload, 1) := by decide +kernel
theorem dX7_part_7 : decode cX7_part 7 = .ok (.iconst 1, 1) := by decide +kernel
theorem dX7_part_8 : decode cX7_part 8 = .ok (.iload_n 2, 1) := by decide +kernel
theorem dX7_part_9 : decode cX7_part 9 = .ok (.ishl, 1) := by decide +kernel
theorem dX7_part_10 : decode cX7_part 10 = .ok (.iconst (-1), 1) := by decide +kernel
theorem dX7_part_11 : decode cX7_part 11 = .ok (.ixor, 1) := by decide +kernel
theorem dX7_part_12 : decode cX7_part 12 = .ok (.iand, 1) := by decide +kernel
theorem dX7_part_13 : decode cX7_part 13 = .ok (.iastore, 1) := by decide +kernel
theorem dX7_part_14 : decode cX7_part 14 = .ok (.aload_n 0, 1) := by decide +kernel
theorem dX7_part_15 : decode cX7_part 15 = .ok (.getfield 21, 3) := by decide +kernel
theorem dX7_part_18 : decode cX7_part 18 = .ok (.iload_n 2, 1) := by decide +kernel
theorem dX7_part_19 : decode cX7_part 19 = .ok (.dup2, 1) := by decide +kernel
theorem dX7_part_20 : decode cX7_part 20 = .ok (.iaload, 1) := by decide +kernel
theorem dX7_part_21 : decode cX7_part 21 = .ok (.iconst 1, 1) := by decide +kernel
theorem dX7_part_22 : decode cX7_part 22 = .ok (.iload_n 1, 1) := by decide +kernel
theorem dX7_part_23 : decode cX7_part 23 = .ok (.ishl, 1) := by decide +kernel
theorem dX7_part_24 : decode cX7_part 24 = .ok (.iconst (-1), 1) := by decide +kernel
theorem dX7_part_25 : decode cX7_part 25 = .ok (.ixor, 1) := by decide +kernel
theorem dX7_part_26 : decode cX7_part 26 = .ok (.iand, 1) := by decide +kernel
theorem dX7_part_27 : decode cX7_part 27 = .ok (.iastore, 1) := by decide +kernel
theorem dX7_part_28 : decode cX7_part 28 = .ok (.return_, 1) := by decide +kernel
theorem dX8_init_0 : decode cX8_init 0 = .ok (.aload_n 0, 1) := by decide +kernel
theorem dX8_init_1 : decode cX8_init 1 = .ok (.invokespecial 3, 3) := by decide +kernel
theorem dX8_init_4 : decode cX8_init 4 = .ok (.aload_n 0, 1) := by decide +kernel
theorem dX8_init_5 : decode cX8_init 5 = .ok (.bipush 8, 2) := by decide +kernel
theorem dX8_init_7 : decode cX8_init 7 = .ok (.newarray .int, 2) := by decide +kernel
theorem dX8_init_9 : decode cX8_init 9 = .ok (.putfield 9, 3) := by decide +kernel
theorem dX8_init_12 : decode cX8_init 12 = .ok (.aload_n 0, 1) := by decide +kernel
theorem dX8_init_13 : decode cX8_init 13 = .ok (.bipush 8, 2) := by decide +kernel
theorem dX8_init_15 : decode cX8_init 15 = .ok (.newarray .boolean, 2) := by decide +kernel
theorem dX8_init_17 : decode cX8_init 17 = .ok (.putfield 15, 3) := by decide +kernel
theorem dX8_init_20 : decode cX8_init 20 = .ok (.aload_n 0, 1) := by decide +kernel
theorem dX8_init_21 : decode cX8_init 21 = .ok (.iconst 4, 1) := by decide +kernel
theorem dX8_init_22 : decode cX8_init 22 = .ok (.bipush 8, 2) := by decide +kernel
theorem dX8_init_24 : decode cX8_init 24 = .ok (.multianewarray 19 2, 4) := by decide +kernel
theorem dX8_init_28 : decode cX8_init 28 = .ok (.putfield 21, 3) := by decide +kernel
theorem dX8_init_31 : decode cX8_init 31 = .ok (.return_, 1) := by decide +kernel
theorem dX8_has_0 : decode cX8_has 0 = .ok (.iload_n 1, 1) := by decide +kernel
theorem dX8_has_1 : decode cX8_has 1 = .ok (.ifCond .lt 15, 3) := by decide +kernel
theorem dX8_has_4 : decode cX8_has 4 = .ok (.iload_n 1, 1) := by decide +kernel
theorem dX8_has_5 : decode cX8_has 5 = .ok (.aload_n 0, 1) := by decide +kernel
theorem dX8_has_6 : decode cX8_has 6 = .ok (.getfield 24, 3) := by decide +kernel
theorem dX8_has_9 : decode cX8_has 9 = .ok (.if_icmp .ge 7, 3) := by decide +kernel
theorem dX8_has_12 : decode cX8_has 12 = .ok (.iconst 1, 1) := by decide +kernel
theorem dX8_has_13 : decode cX8_has 13 = .ok (.goto 4, 3) := by decide +kernel
theorem dX8_has_16 : decode cX8_has 16 = .ok (.iconst 0, 1) := by decide +kernel
theorem dX8_has_17 : decode cX8_has 17 = .ok (.ireturn, 1) := by decide +kernel
theorem dX8_addEmpty_0 : decode cX8_addEmpty 0 = .ok (.aload_n 0, 1) := by decide +kernel
theorem dX8_addEmpty_1 : decode cX8_addEmpty 1 = .ok (.getfield 24, 3) := by decide +kernel
theorem dX8_addEmpty_4 : decode cX8_addEmpty 4 = .ok (.bipush 8, 2) := by decide +kernel
theorem dX8_addEmpty_6 : decode cX8_addEmpty 6 = .ok (.if_icmp .ge 48, 3) := by decide +kernel
theorem dX8_addEmpty_9 : decode cX8_addEmpty 9 = .ok (.iconst 0, 1) := by decide +kernel
theorem dX8_addEmpty_10 : decode cX8_addEmpty 10 = .ok (.istore_n 1, 1) := by decide +kernel
theorem dX8_addEmpty_11 : decode cX8_addEmpty 11 = .ok (.iload_n 1, 1) := by decide +kernel
theorem dX8_addEmpty_12 : decode cX8_addEmpty 12 = .ok (.iconst 4, 1) := by decide +kernel
theorem dX8_addEmpty_13 : decode cX8_addEmpty 13 = .ok (.if_icmp .ge 21, 3) := by decide +kernel
theorem dX8_addEmpty_16 : decode cX8_addEmpty 16 = .ok (.aload_n 0, 1) := by decide +kernel
theorem dX8_addEmpty_17 : decode cX8_addEmpty 17 = .ok (.getfield 21, 3) := by decide +kernel
theorem dX8_addEmpty_20 : decode cX8_addEmpty 20 = .ok (.iload_n 1, 1) := by decide +kernel
theorem dX8_addEmpty_21 : decode cX8_addEmpty 21 = .ok (.aaload, 1) := by decide +kernel
theorem dX8_addEmpty_22 : decode cX8_addEmpty 22 = .ok (.aload_n 0, 1) := by decide +kernel
theorem dX8_addEmpty_23 : decode cX8_addEmpty 23 = .ok (.getfield 24, 3) := by decide +kernel
theorem dX8_addEmpty_26 : decode cX8_addEmpty 26 = .ok (.iconst (-1), 1) := by decide +kernel
theorem dX8_addEmpty_27 : decode cX8_addEmpty 27 = .ok (.iastore, 1) := by decide +kernel
theorem dX8_addEmpty_28 : decode cX8_addEmpty 28 = .ok (.iinc 1 1, 3) := by decide +kernel
theorem dX8_addEmpty_31 : decode cX8_addEmpty 31 = .ok (.goto (-20), 3) := by decide +kernel
theorem dX8_addEmpty_34 : decode cX8_addEmpty 34 = .ok (.aload_n 0, 1) := by decide +kernel
theorem dX8_addEmpty_35 : decode cX8_addEmpty 35 = .ok (.getfield 15, 3) := by decide +kernel
theorem dX8_addEmpty_38 : decode cX8_addEmpty 38 = .ok (.aload_n 0, 1) := by decide +kernel
theorem dX8_addEmpty_39 : decode cX8_addEmpty 39 = .ok (.getfield 24, 3) := by decide +kernel
theorem dX8_addEmpty_42 : decode cX8_addEmpty 42 = .ok (.iconst 0, 1) := by decide +kernel
theorem dX8_addEmpty_43 : decode cX8_addEmpty 43 = .ok (.bastore, 1) := by decide +kernel
theorem dX8_addEmpty_44 : decode cX8_addEmpty 44 = .ok (.aload_n 0, 1) := by decide +kernel
theorem dX8_addEmpty_45 : decode cX8_addEmpty 45 = .ok (.dup, 1) := by decide +kernel
theorem dX8_addEmpty_46 : decode cX8_addEmpty 46 = .ok (.getfield 24, 3) := by decide +kernel
theorem dX8_addEmpty_49 : decode cX8_addEmpty 49 = .ok (.iconst 1, 1) := by decide +kernel
theorem dX8_addEmpty_50 : decode cX8_addEmpty 50 = .ok (.iadd, 1) := by decide +kernel
theorem dX8_addEmpty_51 : decode cX8_addEmpty 51 = .ok (.putfield 24, 3) := by decide +kernel
theorem dX8_addEmpty_54 : decode cX8_addEmpty 54 = .ok (.return_, 1) := by decide +kernel
theorem dX8_isWished_0 : decode cX8_isWished 0 = .ok (.aload_n 0, 1) := by decide +kernel
theorem dX8_isWished_1 : decode cX8_isWished 1 = .ok (.iconst 0, 1) := by decide +kernel
theorem dX8_isWished_2 : decode cX8_isWished 2 = .ok (.iload_n 1, 1) := by decide +kernel
theorem dX8_isWished_3 : decode cX8_isWished 3 = .ok (.aload_n 2, 1) := by decide +kernel
theorem dX8_isWished_4 : decode cX8_isWished 4 = .ok (.getfield 28, 3) := by decide +kernel
theorem dX8_isWished_7 : decode cX8_isWished 7 = .ok (.iload_n 3, 1) := by decide +kernel
theorem dX8_isWished_8 : decode cX8_isWished 8 = .ok (.iaload, 1) := by decide +kernel
theorem dX8_isWished_9 : decode cX8_isWished 9 = .ok (.invokevirtual 33, 3) := by decide +kernel
theorem dX8_isWished_12 : decode cX8_isWished 12 = .ok (.ifCond .eq 54, 3) := by decide +kernel
theorem dX8_isWished_15 : decode cX8_isWished 15 = .ok (.aload_n 0, 1) := by decide +kernel
theorem dX8_isWished_16 : decode cX8_isWished 16 = .ok (.iconst 1, 1) := by decide +kernel
theorem dX8_isWished_17 : decode cX8_isWished 17 = .ok (.iload_n 1, 1) := by decide +kernel
theorem dX8_isWished_18 : decode cX8_isWished 18 = .ok (.aload_n 2, 1) := by decide +kernel
theorem dX8_isWished_19 : decode cX8_isWished 19 = .ok (.getfield 37, 3) := by decide +kernel
theorem dX8_isWished_22 : decode cX8_isWished 22 = .ok (.iload_n 3, 1) := by decide +kernel
theorem dX8_isWished_23 : decode cX8_isWished 23 = .ok (.iaload, 1) := by decide +kernel
theorem dX8_isWished_24 : decode cX8_isWished 24 = .ok (.invokevirtual 33, 3) := by decide +kernel
theorem dX8_isWished_27 : decode cX8_isWished 27 = .ok (.ifCond .eq 39, 3) := by decide +kernel
theorem dX8_isWished_30 : decode cX8_isWished 30 = .ok (.aload_n 0, 1) := by decide +kernel
theorem dX8_isWished_31 : decode cX8_isWished 31 = .ok (.iconst 2, 1) := by decide +kernel
theorem dX8_isWished_32 : decode cX8_isWished 32 = .ok (.iload_n 1, 1) := by decide +kernel
theorem dX8_isWished_33 : decode cX8_isWished 33 = .ok (.aload_n 2, 1) := by decide +kernel
theorem dX8_isWished_34 : decode cX8_isWished 34 = .ok (.getfield 40, 3) := by decide +kernel
theorem dX8_isWished_37 : decode cX8_isWished 37 = .ok (.iload_n 3, 1) := by decide +kernel
theorem dX8_isWished_38 : decode cX8_isWished 38 = .ok (.iaload, 1) := by decide +kernel
theorem dX8_isWished_39 : decode cX8_isWished 39 = .ok (.invokevirtual 33, 3) := by decide +kernel
theorem dX8_isWished_42 : decode cX8_isWished 42 = .ok (.ifCond .eq 24, 3) := by decide +kernel
theorem dX8_isWished_45 : decode cX8_isWished 45 = .ok (.iload 4, 2) := by decide +kernel
theorem dX8_isWished_47 : decode cX8_isWished 47 = .ok (.iconst 1, 1) := by decide +kernel
theorem dX8_isWished_48 : decode cX8_isWished 48 = .ok (.aload_n 0, 1) := by decide +kernel
theorem dX8_isWished_49 : decode cX8_isWished 49 = .ok (.getfield 21, 3) := by decide +kernel
theorem dX8_isWished_52 : decode cX8_isWished 52 = .ok (.iconst 3, 1) := by decide +kernel
theorem dX8_isWished_53 : decode cX8_isWished 53 = .ok (.aaload, 1) := by decide +kernel
theorem dX8_isWished_54 : decode cX8_isWished 54 = .ok (.iload_n 1, 1) := by decide +kernel
theorem dX8_isWished_55 : decode cX8_isWished 55 = .ok (.iaload, 1) := by decide +kernel
theorem dX8_isWished_56 : decode cX8_isWished 56 = .ok (.invokestatic 43, 3) := by decide +kernel
theorem dX8_isWished_59 : decode cX8_isWished 59 = .ok (.if_icmp .lt 7, 3) := by decide +kernel
theorem dX8_isWished_62 : decode cX8_isWished 62 = .ok (.iconst 1, 1) := by decide +kernel
theorem dX8_isWished_63 : decode cX8_isWished 63 = .ok (.goto 4, 3) := by decide +kernel
theorem dX8_isWished_66 : decode cX8_isWished 66 = .ok (.iconst 0, 1) := by decide +kernel
theorem dX8_isWished_67 : decode cX8_isWished 67 = .ok (.ireturn, 1) := by decide +kernel
theorem dX8_meets_0 : decode cX8_meets 0 = .ok (.aload_n 0, 1) := by decide +kernel
theorem dX8_meets_1 : decode cX8_meets 1 = .ok (.getfield 21, 3) := by decide +kernel
theorem dX8_meets_4 : decode cX8_meets 4 = .ok (.iload_n 1, 1) := by decide +kernel
theorem dX8_meets_5 : decode cX8_meets 5 = .ok (.aaload, 1) := by decide +kernel
theorem dX8_meets_6 : decode cX8_meets 6 = .ok (.iload_n 2, 1) := by decide +kernel
theorem dX8_meets_7 : decode cX8_meets 7 = .ok (.iaload, 1) := by decide +kernel
theorem dX8_meets_8 : decode cX8_meets 8 = .ok (.iconst (-1), 1) := by decide +kernel
theorem dX8_meets_9 : decode cX8_meets 9 = .ok (.if_icmp .eq 15, 3) := by decide +kernel
theorem dX8_meets_12 : decode cX8_meets 12 = .ok (.aload_n 0, 1) := by decide +kernel
theorem dX8_meets_13 : decode cX8_meets 13 = .ok (.getfield 21, 3) := by decide +kernel
theorem dX8_meets_16 : decode cX8_meets 16 = .ok (.iload_n 1, 1) := by decide +kernel
theorem dX8_meets_17 : decode cX8_meets 17 = .ok (.aaload, 1) := by decide +kernel
theorem dX8_meets_18 : decode cX8_meets 18 = .ok (.iload_n 2, 1) := by decide +kernel
theorem dX8_meets_19 : decode cX8_meets 19 = .ok (.iaload, 1) := by decide +kernel
theorem dX8_meets_20 : decode cX8_meets 20 = .ok (.iload_n 3, 1) := by decide +kernel
theorem dX8_meets_21 : decode cX8_meets 21 = .ok (.if_icmp .ne 7, 3) := by decide +kernel
theorem dX8_meets_24 : decode cX8_meets 24 = .ok (.iconst 1, 1) := by decide +kernel
theorem dX8_meets_25 : decode cX8_meets 25 = .ok (.goto 4, 3) := by decide +kernel
theorem dX8_meets_28 : decode cX8_meets 28 = .ok (.iconst 0, 1) := by decide +kernel
theorem dX8_meets_29 : decode cX8_meets 29 = .ok (.ireturn, 1) := by decide +kernel
theorem dX9_init_0 : decode cX9_init 0 = .ok (.aload_n 0, 1) := by decide +kernel
theorem dX9_init_1 : decode cX9_init 1 = .ok (.invokespecial 3, 3) := by decide +kernel
theorem dX9_init_4 : decode cX9_init 4 = .ok (.aload_n 0, 1) := by decide +kernel
theorem dX9_init_5 : decode cX9_init 5 = .ok (.bipush 12, 2) := by decide +kernel
theorem dX9_init_7 : decode cX9_init 7 = .ok (.newarray .long, 2) := by decide +kernel
theorem dX9_init_9 : decode cX9_init 9 = .ok (.putfield 9, 3) := by decide +kernel
theorem dX9_init_12 : decode cX9_init 12 = .ok (.aload_n 0, 1) := by decide +kernel
theorem dX9_init_13 : decode cX9_init 13 = .ok (.bipush 12, 2) := by decide +kernel
theorem dX9_init_15 : decode cX9_init 15 = .ok (.newarray .long, 2) := by decide +kernel
theorem dX9_init_17 : decode cX9_init 17 = .ok (.putfield 15, 3) := by decide +kernel
theorem dX9_init_20 : decode cX9_init 20 = .ok (.aload_n 0, 1) := by decide +kernel
theorem dX9_init_21 : decode cX9_init 21 = .ok (.iconst 5, 1) := by decide +kernel
theorem dX9_init_22 : decode cX9_init 22 = .ok (.newarray .int, 2) := by decide +kernel
theorem dX9_init_24 : decode cX9_init 24 = .ok (.putfield 18, 3) := by decide +kernel
theorem dX9_init_27 : decode cX9_init 27 = .ok (.aload_n 0, 1) := by decide +kernel
theorem dX9_init_28 : decode cX9_init 28 = .ok (.iconst 5, 1) := by decide +kernel
theorem dX9_init_29 : decode cX9_init 29 = .ok (.bipush 6, 2) := by decide +kernel
theorem dX9_init_31 : decode cX9_init 31 = .ok (.multianewarray 22 2, 4) := by decide +kernel
theorem dX9_init_35 : decode cX9_init 35 = .ok (.putfield 24, 3) := by decide +kernel
theorem dX9_init_38 : decode cX9_init 38 = .ok (.aload_n 0, 1) := by decide +kernel
theorem dX9_init_39 : decode cX9_init 39 = .ok (.bipush 32, 2) := by decide +kernel
theorem dX9_init_41 : decode cX9_init 41 = .ok (.newarray .long, 2) := by decide +kernel
theorem dX9_init_43 : decode cX9_init 43 = .ok (.putfield 27, 3) := by decide +kernel
theorem dX9_init_46 : decode cX9_init 46 = .ok (.return_, 1) := by decide +kernel
theorem dX9_weighAll_0 : decode cX9_weighAll 0 = .ok (.iconst 0, 1) := by decide +kernel
theorem dX9_weighAll_1 : decode cX9_weighAll 1 = .ok (.istore_n 2, 1) := by decide +kernel
theorem dX9_weighAll_2 : decode cX9_weighAll 2 = .ok (.iload_n 2, 1) := by decide +kernel
theorem dX9_weighAll_3 : decode cX9_weighAll 3 = .ok (.bipush 12, 2) := by decide +kernel
theorem dX9_weighAll_5 : decode cX9_weighAll 5 = .ok (.if_icmp .ge 25, 3) := by decide +kernel
theorem dX9_weighAll_8 : decode cX9_weighAll 8 = .ok (.aload_n 1, 1) := by decide +kernel
theorem dX9_weighAll_9 : decode cX9_weighAll 9 = .ok (.getfield 30, 3) := by decide +kernel
theorem dX9_weighAll_12 : decode cX9_weighAll 12 = .ok (.iload_n 2, 1) := by decide +kernel
theorem dX9_weighAll_13 : decode cX9_weighAll 13 = .ok (.iaload, 1) := by decide +kernel
theorem dX9_weighAll_14 : decode cX9_weighAll 14 = .ok (.iload_n 2, 1) := by decide +kernel
theorem dX9_weighAll_15 : decode cX9_weighAll 15 = .ok (.if_icmp .ne 9, 3) := by decide +kernel
theorem dX9_weighAll_18 : decode cX9_weighAll 18 = .ok (.aload_n 0, 1) := by decide +kernel
theorem dX9_weighAll_19 : decode cX9_weighAll 19 = .ok (.aload_n 1, 1) := by decide +kernel
theorem dX9_weighAll_20 : decode cX9_weighAll 20 = .ok (.iload_n 2, 1) := by decide +kernel
theorem dX9_weighAll_21 : decode cX9_weighAll 21 = .ok (.invokevirtual 35, 3) := by decide +kernel
theorem dX9_weighAll_24 : decode cX9_weighAll 24 = .ok (.iinc 2 1, 3) := by decide +kernel
theorem dX9_weighAll_27 : decode cX9_weighAll 27 = .ok (.goto (-25), 3) := by decide +kernel
theorem dX9_weighAll_30 : decode cX9_weighAll 30 = .ok (.return_, 1) := by decide +kernel
theorem dX9_weigh_0 : decode cX9_weigh 0 = .ok (.aload_n 0, 1) := by decide +kernel
theorem dX9_weigh_1 : decode cX9_weigh 1 = .ok (.aload_n 1, 1) := by decide +kernel
theorem dX9_weigh_2 : decode cX9_weigh 2 = .ok (.iload_n 2, 1) := by decide +kernel
theorem dX9_weigh_3 : decode cX9_weigh 3 = .ok (.invokevirtual 39, 3) := by decide +kernel
theorem dX9_weigh_6 : decode cX9_weigh 6 = .ok (.aload_n 0, 1) := by decide +kernel
theorem dX9_weigh_7 : decode cX9_weigh 7 = .ok (.aload_n 1, 1) := by decide +kernel
theorem dX9_weigh_8 : decode cX9_weigh 8 = .ok (.invokevirtual 42, 3) := by decide +kernel
theorem dX9_weigh_11 : decode cX9_weigh 11 = .ok (.aload_n 0, 1) := by decide +kernel
theorem dX9_weigh_12 : decode cX9_weigh 12 = .ok (.iconst (-1), 1) := by decide +kernel
theorem dX9_weigh_13 : decode cX9_weigh 13 = .ok (.invokevirtual 46, 3) := by decide +kernel
theorem dX9_weigh_16 : decode cX9_weigh 16 = .ok (.lstore_n 3, 1) := by decide +kernel
theorem dX9_weigh_17 : decode cX9_weigh 17 = .ok (.iconst 0, 1) := by decide +kernel
theorem dX9_weigh_18 : decode cX9_weigh 18 = .ok (.istore 5, 2) := by decide +kernel
theorem dX9_weigh_20 : decode cX9_weigh 20 = .ok (.iload 5, 2) := by decide +kernel
theorem dX9_weigh_22 : decode cX9_weigh 22 = .ok (.aload_n 0, 1) := by decide +kernel
theorem dX9_weigh_23 : decode cX9_weigh 23 = .ok (.getfield 50, 3) := by decide +kernel
theorem dX9_weigh_26 : decode cX9_weigh 26 = .ok (.if_icmp .ge 59, 3) := by decide +kernel
theorem dX9_weigh_29 : decode cX9_weigh 29 = .ok (.aload_n 0, 1) := by decide +kernel
theorem dX9_weigh_30 : decode cX9_weigh 30 = .ok (.iload 5, 2) := by decide +kernel
theorem dX9_weigh_32 : decode cX9_weigh 32 = .ok (.invokevirtual 46, 3) := by decide +kernel
theorem dX9_weigh_35 : decode cX9_weigh 35 = .ok (.lstore 6, 2) := by decide +kernel
theorem dX9_weigh_37 : decode cX9_weigh 37 = .ok (.aload_n 0, 1) := by decide +kernel
theorem dX9_weigh_38 : decode cX9_weigh 38 = .ok (.getfield 9, 3) := by decide +kernel
theorem dX9_weigh_41 : decode cX9_weigh 41 = .ok (.aload_n 0, 1) := by decide +kernel
theorem dX9_weigh_42 : decode cX9_weigh 42 = .ok (.getfield 18, 3) := by decide +kernel
theorem dX9_weigh_45 : decode cX9_weigh 45 = .ok (.iload 5, 2) := by decide +kernel
theorem dX9_weigh_47 : decode cX9_weigh 47 = .ok (.iaload, 1) := by decide +kernel
theorem dX9_weigh_48 : decode cX9_weigh 48 = .ok (.lload_n 3, 1) := by decide +kernel
theorem dX9_weigh_49 : decode cX9_weigh 49 = .ok (.lconst 0, 1) := by decide +kernel
theorem dX9_weigh_50 : decode cX9_weigh 50 = .ok (.lcmp, 1) := by decide +kernel
theorem dX9_weigh_51 : decode cX9_weigh 51 = .ok (.ifCond .ge 9, 3) := by decide +kernel
theorem dX9_weigh_54 : decode cX9_weigh 54 = .ok (.lload 6, 2) := by decide +kernel
theorem dX9_weigh_56 : decode cX9_weigh 56 = .ok (.lneg, 1) := by decide +kernel
theorem dX9_weigh_57 : decode cX9_weigh 57 = .ok (.goto 5, 3) := by decide +kernel
theorem dX9_weigh_60 : decode cX9_weigh 60 = .ok (.lload 6, 2) := by decide +kernel
theorem dX9_weigh_62 : decode cX9_weigh 62 = .ok (.lastore, 1) := by decide +kernel
theorem dX9_weigh_63 : decode cX9_weigh 63 = .ok (.aload_n 0, 1) := by decide +kernel
theorem dX9_weigh_64 : decode cX9_weigh 64 = .ok (.getfield 15, 3) := by decide +kernel
theorem dX9_weigh_67 : decode cX9_weigh 67 = .ok (.aload_n 0, 1) := by decide +kernel
theorem dX9_weigh_68 : decode cX9_weigh 68 = .ok (.getfield 18, 3) := by decide +kernel
theorem dX9_weigh_71 : decode cX9_weigh 71 = .ok (.iload 5, 2) := by decide +kernel
theorem dX9_weigh_73 : decode cX9_weigh 73 = .ok (.iaload, 1) := by decide +kernel
theorem dX9_weigh_74 : decode cX9_weigh 74 = .ok (.lload_n 3, 1) := by decide +kernel
theorem dX9_weigh_75 : decode cX9_weigh 75 = .ok (.invokestatic 54, 3) := by decide +kernel
theorem dX9_weigh_78 : decode cX9_weigh 78 = .ok (.lastore, 1) := by decide +kernel
theorem dX9_weigh_79 : decode cX9_weigh 79 = .ok (.iinc 5 1, 3) := by decide +kernel
theorem dX9_weigh_82 : decode cX9_weigh 82 = .ok (.goto (-62), 3) := by decide +kernel
theorem dX9_weigh_85 : decode cX9_weigh 85 = .ok (.return_, 1) := by decide +kernel
theorem dX9_rate_0 : decode cX9_rate 0 = .ok (.lconst 0, 1) := by decide +kernel
theorem dX9_rate_1 : decode cX9_rate 1 = .ok (.lstore 4, 2) := by decide +kernel
theorem dX9_rate_3 : decode cX9_rate 3 = .ok (.lconst 0, 1) := by decide +kernel
theorem dX9_rate_4 : decode cX9_rate 4 = .ok (.lstore 6, 2) := by decide +kernel
theorem dX9_rate_6 : decode cX9_rate 6 = .ok (.iconst 0, 1) := by decide +kernel
theorem dX9_rate_7 : decode cX9_rate 7 = .ok (.istore 8, 2) := by decide +kernel
theorem dX9_rate_9 : decode cX9_rate 9 = .ok (.iload 8, 2) := by decide +kernel
theorem dX9_rate_11 : decode cX9_rate 11 = .ok (.bipush 12, 2) := by decide +kernel
theorem dX9_rate_13 : decode cX9_rate 13 = .ok (.if_icmp .ge 60, 3) := by decide +kernel
theorem dX9_rate_16 : decode cX9_rate 16 = .ok (.aload_n 1, 1) := by decide +kernel
theorem dX9_rate_17 : decode cX9_rate 17 = .ok (.iload 8, 2) := by decide +kernel
theorem dX9_rate_19 : decode cX9_rate 19 = .ok (.iload_n 2, 1) := by decide +kernel
theorem dX9_rate_20 : decode cX9_rate 20 = .ok (.invokevirtual 60, 3) := by decide +kernel
theorem dX9_rate_23 : decode cX9_rate 23 = .ok (.istore 9, 2) := by decide +kernel
theorem dX9_rate_25 : decode cX9_rate 25 = .ok (.iload 9, 2) := by decide +kernel
theorem dX9_rate_27 : decode cX9_rate 27 = .ok (.iconst (-1), 1) := by decide +kernel
theorem dX9_rate_28 : decode cX9_rate 28 = .ok (.if_icmp .eq 39, 3) := by decide +kernel
theorem dX9_rate_31 : decode cX9_rate 31 = .ok (.lload 4, 2) := by decide +kernel
theorem dX9_rate_33 : decode cX9_rate 33 = .ok (.iload 9, 2) := by decide +kernel
theorem dX9_rate_35 : decode cX9_rate 35 = .ok (.i2l, 1) := by decide +kernel
theorem dX9_rate_36 : decode cX9_rate 36 = .ok (.aload_n 0, 1) := by decide +kernel
theorem dX9_rate_37 : decode cX9_rate 37 = .ok (.getfield 15, 3) := by decide +kernel
theorem dX9_rate_40 : decode cX9_rate 40 = .ok (.iload 8, 2) := by decide +kernel
theorem dX9_rate_42 : decode cX9_rate 42 = .ok (.laload, 1) := by decide +kernel
theorem dX9_rate_43 : decode cX9_rate 43 = .ok (.lmul, 1) := by decide +kernel
theorem dX9_rate_44 : decode cX9_rate 44 = .ok (.aload_n 0, 1) := by decide +kernel
theorem dX9_rate_45 : decode cX9_rate 45 = .ok (.getfield 9, 3) := by decide +kernel
theorem dX9_rate_48 : decode cX9_rate 48 = .ok (.iload 8, 2) := by decide +kernel
theorem dX9_rate_50 : decode cX9_rate 50 = .ok (.laload, 1) := by decide +kernel
theorem dX9_rate_51 : decode cX9_rate 51 = .ok (.lsub, 1) := by decide +kernel
theorem dX9_rate_52 : decode cX9_rate 52 = .ok (.ladd, 1) := by decide +kernel
theorem dX9_rate_53 : decode cX9_rate 53 = .ok (.lstore 4, 2) := by decide +kernel
theorem dX9_rate_55 : decode cX9_rate 55 = .ok (.lload 6, 2) := by decide +kernel
theorem dX9_rate_57 : decode cX9_rate 57 = .ok (.aload_n 0, 1) := by decide +kernel
theorem dX9_rate_58 : decode cX9_rate 58 = .ok (.getfield 15, 3) := by decide +kernel
theorem dX9_rate_61 : decode cX9_rate 61 = .ok (.iload 8, 2) := by decide +kernel
theorem dX9_rate_63 : decode cX9_rate 63 = .ok (.laload, 1) := by decide +kernel
theorem dX9_rate_64 : decode cX9_rate 64 = .ok (.ladd, 1) := by decide +kernel
theorem dX9_rate_65 : decode cX9_rate 65 = .ok (.lstore 6, 2) := by decide +kernel
theorem dX9_rate_67 : decode cX9_rate 67 = .ok (.iinc 8 1, 3) := by decide +kernel
theorem dX9_rate_70 : decode cX9_rate 70 = .ok (.goto (-61), 3) := by decide +kernel
theorem dX9_rate_73 : decode cX9_rate 73 = .ok (.aload_n 3, 1) := by decide +kernel
theorem dX9_rate_74 : decode cX9_rate 74 = .ok (.lload 4, 2) := by decide +kernel
theorem dX9_rate_76 : decode cX9_rate 76 = .ok (.lload 6, 2) := by decide +kernel
theorem dX9_rate_78 : decode cX9_rate 78 = .ok (.invokevirtual 64, 3) := by decide +kernel
theorem dX9_rate_81 : decode cX9_rate 81 = .ok (.return_, 1) := by decide +kernel
theorem dX9_gather_0 : decode cX9_gather 0 = .ok (.aload_n 0, 1) := by decide +kernel
theorem dX9_gather_1 : decode cX9_gather 1 = .ok (.iconst 0, 1) := by decide +kernel
theorem dX9_gather_2 : decode cX9_gather 2 = .ok (.putfield 50, 3) := by decide +kernel
theorem dX9_gather_5 : decode cX9_gather 5 = .ok (.iconst 0, 1) := by decide +kernel
theorem dX9_gather_6 : decode cX9_gather 6 = .ok (.istore_n 3, 1) := by decide +kernel
theorem dX9_gather_7 : decode cX9_gather 7 = .ok (.iload_n 3, 1) := by decide +kernel
theorem dX9_gather_8 : decode cX9_gather 8 = .ok (.bipush 12, 2) := by decide +kernel
theorem dX9_gather_10 : decode cX9_gather 10 = .ok (.if_icmp .ge 47, 3) := by decide +kernel
theorem dX9_gather_13 : decode cX9_gather 13 = .ok (.aload_n 1, 1) := by decide +kernel
theorem dX9_gather_14 : decode cX9_gather 14 = .ok (.getfield 30, 3) := by decide +kernel
theorem dX9_gather_17 : decode cX9_gather 17 = .ok (.iload_n 3, 1) := by decide +kernel
theorem dX9_gather_18 : decode cX9_gather 18 = .ok (.iaload, 1) := by decide +kernel
theorem dX9_gather_19 : decode cX9_gather 19 = .ok (.iload_n 2, 1) := by decide +kernel
theorem dX9_gather_20 : decode cX9_gather 20 = .ok (.if_icmp .ne 31, 3) := by decide +kernel
theorem dX9_gather_23 : decode cX9_gather 23 = .ok (.aload_n 0, 1) := by decide +kernel
theorem dX9_gather_24 : decode cX9_gather 24 = .ok (.getfield 50, 3) := by decide +kernel
theorem dX9_gather_27 : decode cX9_gather 27 = .ok (.iconst 5, 1) := by decide +kernel
theorem dX9_gather_28 : decode cX9_gather 28 = .ok (.if_icmp .ge 23, 3) := by decide +kernel
theorem dX9_gather_31 : decode cX9_gather 31 = .ok (.aload_n 0, 1) := by decide +kernel
theorem dX9_gather_32 : decode cX9_gather 32 = .ok (.getfield 18, 3) := by decide +kernel
theorem dX9_gather_35 : decode cX9_gather 35 = .ok (.aload_n 0, 1) := by decide +kernel
theorem dX9_gather_36 : decode cX9_gather 36 = .ok (.getfield 50, 3) := by decide +kernel
theorem dX9_gather_39 : decode cX9_gather 39 = .ok (.iload_n 3, 1) := by decide +kernel
theorem dX9_gather_40 : decode cX9_gather 40 = .ok (.iastore, 1) := by decide +kernel
theorem dX9_gather_41 : decode cX9_gather 41 = .ok (.aload_n 0, 1) := by decide +kernel
theorem dX9_gather_42 : decode cX9_gather 42 = .ok (.dup, 1) := by decide +kernel
theorem dX9_gather_43 : decode cX9_gather 43 = .ok (.getfield 50, 3) := by decide +kernel
theorem dX9_gather_46 : decode cX9_gather 46 = .ok (.iconst 1, 1) := by decide +kernel
theorem dX9_gather_47 : decode cX9_gather 47 = .ok (.iadd, 1) := by decide +kernel
theorem dX9_gather_48 : decode cX9_gather 48 = .ok (.putfield 50, 3) := by decide +kernel
theorem dX9_gather_51 : decode cX9_gather 51 = .ok (.iinc 3 1, 3) := by decide +kernel
theorem dX9_gather_54 : decode cX9_gather 54 = .ok (.goto (-47), 3) := by decide +kernel
theorem dX9_gather_57 : decode cX9_gather 57 = .ok (.return_, 1) := by decide +kernel
theorem dX9_setRows_0 : decode cX9_setRows 0 = .ok (.iconst 0, 1) := by decide +kernel
theorem dX9_setRows_1 : decode cX9_setRows 1 = .ok (.istore_n 2, 1) := by decide +kernel
theorem dX9_setRows_2 : decode cX9_setRows 2 = .ok (.iload_n 2, 1) := by decide +kernel
theorem dX9_setRows_3 : decode cX9_setRows 3 = .ok (.aload_n 0, 1) := by decide +kernel
theorem dX9_setRows_4 : decode cX9_setRows 4 = .ok (.getfield 50, 3) := by decide +kernel
theorem dX9_setRows_7 : decode cX9_setRows 7 = .ok (.if_icmp .ge 31, 3) := by decide +kernel
theorem dX9_setRows_10 : decode cX9_setRows 10 = .ok (.iconst 0, 1) := by decide +kernel
theorem dX9_setRows_11 : decode cX9_setRows 11 = .ok (.istore_n 3, 1) := by decide +kernel
theorem dX9_setRows_12 : decode cX9_setRows 12 = .ok (.iload_n 3, 1) := by decide +kernel
theorem dX9_setRows_13 : decode cX9_setRows 13 = .ok (.iconst 5, 1) := by decide +kernel
theorem dX9_setRows_14 : decode cX9_setRows 14 = .ok (.if_icmp .gt 18, 3) := by decide +kernel
theorem dX9_setRows_17 : decode cX9_setRows 17 = .ok (.aload_n 0, 1) := by decide +kernel
theorem dX9_setRows_18 : decode cX9_setRows 18 = .ok (.getfield 24, 3) := by decide +kernel
theorem dX9_setRows_21 : decode cX9_setRows 21 = .ok (.iload_n 2, 1) := by decide +kernel
theorem dX9_setRows_22 : decode cX9_setRows 22 = .ok (.aaload, 1) := by decide +kernel
theorem dX9_setRows_23 : decode cX9_setRows 23 = .ok (.iload_n 3, 1) := by decide +kernel
theorem dX9_setRows_24 : decode cX9_setRows 24 = .ok (.lconst 0, 1) := by decide +kernel
theorem dX9_setRows_25 : decode cX9_setRows 25 = .ok (.lastore, 1) := by decide +kernel
theorem dX9_setRows_26 : decode cX9_setRows 26 = .ok (.iinc 3 1, 3) := by decide +kernel
theorem dX9_setRows_29 : decode cX9_setRows 29 = .ok (.goto (-17), 3) := by decide +kernel
theorem dX9_setRows_32 : decode cX9_setRows 32 = .ok (.iinc 2 1, 3) := by decide +kernel
theorem dX9_setRows_35 : decode cX9_setRows 35 = .ok (.goto (-33), 3) := by decide +kernel
theorem dX9_setRows_38 : decode cX9_setRows 38 = .ok (.iconst 0, 1) := by decide +kernel
theorem dX9_setRows_39 : decode cX9_setRows 39 = .ok (.istore_n 2, 1) := by decide +kernel
theorem dX9_setRows_40 : decode cX9_setRows 40 = .ok (.iload_n 2, 1) := by decide +kernel
theorem dX9_setRows_41 : decode cX9_setRows 41 = .ok (.bipush 24, 2) := by decide +kernel
theorem dX9_setRows_43 : decode cX9_setRows 43 = .ok (.if_icmp .ge 15, 3) := by decide +kernel
theorem dX9_setRows_46 : decode cX9_setRows 46 = .ok (.aload_n 0, 1) := by decide +kernel
theorem dX9_setRows_47 : decode cX9_setRows 47 = .ok (.aload_n 1, 1) := by decide +kernel
theorem dX9_setRows_48 : decode cX9_setRows 48 = .ok (.iload_n 2, 1) := by decide +kernel
theorem dX9_setRows_49 : decode cX9_setRows 49 = .ok (.invokevirtual 70, 3) := by decide +kernel
theorem dX9_setRows_52 : decode cX9_setRows 52 = .ok (.iinc 2 1, 3) := by decide +kernel
theorem dX9_setRows_55 : decode cX9_setRows 55 = .ok (.goto (-15), 3) := by decide +kernel
theorem dX9_setRows_58 : decode cX9_setRows 58 = .ok (.aload_n 0, 1) := by decide +kernel
theorem dX9_setRows_59 : decode cX9_setRows 59 = .ok (.getfield 50, 3) := by decide +kernel
theorem dX9_setRows_62 : decode cX9_setRows 62 = .ok (.iconst 1, 1) := by decide +kernel
theorem dX9_setRows_63 : decode cX9_setRows 63 = .ok (.isub, 1) := by decide +kernel
theorem dX9_setRows_64 : decode cX9_setRows 64 = .ok (.istore_n 2, 1) := by decide +kernel
theorem dX9_setRows_65 : decode cX9_setRows 65 = .ok (.iconst 0, 1) := by decide +kernel
theorem dX9_setRows_66 : decode cX9_setRows 66 = .ok (.istore_n 3, 1) := by decide +kernel
theorem dX9_setRows_67 : decode cX9_setRows 67 = .ok (.iload_n 3, 1) := by decide +kernel
theorem dX9_setRows_68 : decode cX9_setRows 68 = .ok (.iconst 5, 1) := by decide +kernel
theorem dX9_setRows_69 : decode cX9_setRows 69 = .ok (.if_icmp .gt 31, 3) := by decide +kernel
theorem dX9_setRows_72 : decode cX9_setRows 72 = .ok (.iload_n 2, 1) := by decide +kernel
theorem dX9_setRows_73 : decode cX9_setRows 73 = .ok (.ifCond .lt 27, 3) := by decide +kernel
theorem dX9_setRows_76 : decode cX9_setRows 76 = .ok (.aload_n 0, 1) := by decide +kernel
theorem dX9_setRows_77 : decode cX9_setRows 77 = .ok (.getfield 24, 3) := by decide +kernel
theorem dX9_setRows_80 : decode cX9_setRows 80 = .ok (.iload_n 2, 1) := by decide +kernel
theorem dX9_setRows_81 : decode cX9_setRows 81 = .ok (.aaload, 1) := by decide +kernel
theorem dX9_setRows_82 : decode cX9_setRows 82 = .ok (.iload_n 3, 1) := by decide +kernel
theorem dX9_setRows_83 : decode cX9_setRows 83 = .ok (.iload_n 3, 1) := by decide +kernel
theorem dX9_setRows_84 : decode cX9_setRows 84 = .ok (.iconst 5, 1) := by decide +kernel
theorem dX9_setRows_85 : decode cX9_setRows 85 = .ok (.if_icmp .ne 7, 3) := by decide +kernel
theorem dX9_setRows_88 : decode cX9_setRows 88 = .ok (.lconst 0, 1) := by decide +kernel
theorem dX9_setRows_89 : decode cX9_setRows 89 = .ok (.goto 4, 3) := by decide +kernel
theorem dX9_setRows_92 : decode cX9_setRows 92 = .ok (.lconst 1, 1) := by decide +kernel
theorem dX9_setRows_93 : decode cX9_setRows 93 = .ok (.lastore, 1) := by decide +kernel
theorem dX9_setRows_94 : decode cX9_setRows 94 = .ok (.iinc 3 1, 3) := by decide +kernel
theorem dX9_setRows_97 : decode cX9_setRows 97 = .ok (.goto (-30), 3) := by decide +kernel
theorem dX9_setRows_100 : decode cX9_setRows 100 = .ok (.return_, 1) := by decide +kernel
theorem dX9_addBoard_0 : decode cX9_addBoard 0 = .ok (.iconst 0, 1) := by decide +kernel
theorem dX9_addBoard_1 : decode cX9_addBoard 1 = .ok (.istore_n 3, 1) := by decide +kernel
theorem dX9_addBoard_2 : decode cX9_addBoard 2 = .ok (.iconst 0, 1) := by decide +kernel
theorem dX9_addBoard_3 : decode cX9_addBoard 3 = .ok (.istore 4, 2) := by decide +kernel
theorem dX9_addBoard_5 : decode cX9_addBoard 5 = .ok (.iconst 0, 1) := by decide +kernel
theorem dX9_addBoard_6 : decode cX9_addBoard 6 = .ok (.istore 5, 2) := by decide +kernel
theorem dX9_addBoard_8 : decode cX9_addBoard 8 = .ok (.iload 5, 2) := by decide +kernel
theorem dX9_addBoard_10 : decode cX9_addBoard 10 = .ok (.aload_n 0, 1) := by decide +kernel
theorem dX9_addBoard_11 : decode cX9_addBoard 11 = .ok (.getfield 50, 3) := by decide +kernel
theorem dX9_addBoard_14 : decode cX9_addBoard 14 = .ok (.if_icmp .ge 39, 3) := by decide +kernel
theorem dX9_addBoard_17 : decode cX9_addBoard 17 = .ok (.aload_n 1, 1) := by decide +kernel
theorem dX9_addBoard_18 : decode cX9_addBoard 18 = .ok (.aload_n 0, 1) := by decide +kernel
theorem dX9_addBoard_19 : decode cX9_addBoard 19 = .ok (.getfield 18, 3) := by decide +kernel
theorem dX9_addBoard_22 : decode cX9_addBoard 22 = .ok (.iload 5, 2) := by decide +kernel
theorem dX9_addBoard_24 : decode cX9_addBoard 24 = .ok (.iaload, 1) := by decide +kernel
theorem dX9_addBoard_25 : decode cX9_addBoard 25 = .ok (.iload_n 2, 1) := by decide +kernel
theorem dX9_addBoard_26 : decode cX9_addBoard 26 = .ok (.invokevirtual 60, 3) := by decide +kernel
theorem dX9_addBoard_29 : decode cX9_addBoard 29 = .ok (.istore 6, 2) := by decide +kernel
theorem dX9_addBoard_31 : decode cX9_addBoard 31 = .ok (.iload 6, 2) := by decide +kernel
theorem dX9_addBoard_33 : decode cX9_addBoard 33 = .ok (.iconst (-1), 1) := by decide +kernel
theorem dX9_addBoard_34 : decode cX9_addBoard 34 = .ok (.if_icmp .eq 13, 3) := by decide +kernel
theorem dX9_addBoard_37 : decode cX9_addBoard 37 = .ok (.iinc 3 1, 3) := by decide +kernel
theorem dX9_addBoard_40 : decode cX9_addBoard 40 = .ok (.iload 4, 2) := by decide +kernel
theorem dX9_addBoard_42 : decode cX9_addBoard 42 = .ok (.iload 6, 2) := by decide +kernel
theorem dX9_addBoard_44 : decode cX9_addBoard 44 = .ok (.iadd, 1) := by decide +kernel
theorem dX9_addBoard_45 : decode cX9_addBoard 45 = .ok (.istore 4, 2) := by decide +kernel
theorem dX9_addBoard_47 : decode cX9_addBoard 47 = .ok (.iinc 5 1, 3) := by decide +kernel
theorem dX9_addBoard_50 : decode cX9_addBoard 50 = .ok (.goto (-42), 3) := by decide +kernel
theorem dX9_addBoard_53 : decode cX9_addBoard 53 = .ok (.iload_n 3, 1) := by decide +kernel
theorem dX9_addBoard_54 : decode cX9_addBoard 54 = .ok (.ifCond .ne 7, 3) := by decide +kernel
theorem dX9_addBoard_57 : decode cX9_addBoard 57 = .ok (.iconst 0, 1) := by decide +kernel
theorem dX9_addBoard_58 : decode cX9_addBoard 58 = .ok (.goto 7, 3) := by decide +kernel
theorem dX9_addBoard_61 : decode cX9_addBoard 61 = .ok (.bipush 60, 2) := by decide +kernel
theorem dX9_addBoard_63 : decode cX9_addBoard 63 = .ok (.iload_n 3, 1) := by decide +kernel
theorem dX9_addBoard_64 : decode cX9_addBoard 64 = .ok (.idiv, 1) := by decide +kernel
theorem dX9_addBoard_65 : decode cX9_addBoard 65 = .ok (.istore 5, 2) := by decide +kernel
theorem dX9_addBoard_67 : decode cX9_addBoard 67 = .ok (.iconst 0, 1) := by decide +kernel
theorem dX9_addBoard_68 : decode cX9_addBoard 68 = .ok (.istore 6, 2) := by decide +kernel
theorem dX9_addBoard_70 : decode cX9_addBoard 70 = .ok (.iload 6, 2) := by decide +kernel
theorem dX9_addBoard_72 : decode cX9_addBoard 72 = .ok (.aload_n 0, 1) := by decide +kernel
theorem dX9_addBoard_73 : decode cX9_addBoard 73 = .ok (.getfield 50, 3) := by decide +kernel
theorem dX9_addBoard_76 : decode cX9_addBoard 76 = .ok (.if_icmp .ge 84, 3) := by decide +kernel
theorem dX9_addBoard_79 : decode cX9_addBoard 79 = .ok (.iload_n 3, 1) := by decide +kernel
theorem dX9_addBoard_80 : decode cX9_addBoard 80 = .ok (.iconst 1, 1) := by decide +kernel
theorem dX9_addBoard_81 : decode cX9_addBoard 81 = .ok (.if_icmp .le 79, 3) := by decide +kernel
theorem dX9_addBoard_84 : decode cX9_addBoard 84 = .ok (.aload_n 1, 1) := by decide +kernel
theorem dX9_addBoard_85 : decode cX9_addBoard 85 = .ok (.aload_n 0, 1) := by decide +kernel
theorem dX9_addBoard_86 : decode cX9_addBoard 86 = .ok (.getfield 18, 3) := by decide +kernel
theorem dX9_addBoard_89 : decode cX9_addBoard 89 = .ok (.iload 6, 2) := by decide +kernel
theorem dX9_addBoard_91 : decode cX9_addBoard 91 = .ok (.iaload, 1) := by decide +kernel
theorem dX9_addBoard_92 : decode cX9_addBoard 92 = .ok (.iload_n 2, 1) := by decide +kernel
theorem dX9_addBoard_93 : decode cX9_addBoard 93 = .ok (.invokevirtual 60, 3) := by decide +kernel
theorem dX9_addBoard_96 : decode cX9_addBoard 96 = .ok (.istore 7, 2) := by decide +kernel
theorem dX9_addBoard_98 : decode cX9_addBoard 98 = .ok (.iload 7, 2) := by decide +kernel
theorem dX9_addBoard_100 : decode cX9_addBoard 100 = .ok (.iconst (-1), 1) := by decide +kernel
theorem dX9_addBoard_101 : decode cX9_addBoard 101 = .ok (.if_icmp .eq 53, 3) := by decide +kernel
theorem dX9_addBoard_104 : decode cX9_addBoard 104 = .ok (.aload_n 0, 1) := by decide +kernel
theorem dX9_addBoard_105 : decode cX9_addBoard 105 = .ok (.getfield 24, 3) := by decide +kernel
theorem dX9_addBoard_108 : decode cX9_addBoard 108 = .ok (.iload 6, 2) := by decide +kernel
theorem dX9_addBoard_110 : decode cX9_addBoard 110 = .ok (.aaload, 1) := by decide +kernel
theorem dX9_addBoard_111 : decode cX9_addBoard 111 = .ok (.iload 6, 2) := by decide +kernel
theorem dX9_addBoard_113 : decode cX9_addBoard 113 = .ok (.dup2, 1) := by decide +kernel
theorem dX9_addBoard_114 : decode cX9_addBoard 114 = .ok (.laload, 1) := by decide +kernel
theorem dX9_addBoard_115 : decode cX9_addBoard 115 = .ok (.ldc2_w 73, 3) := by decide +kernel
theorem dX9_addBoard_118 : decode cX9_addBoard 118 = .ok (.ladd, 1) := by decide +kernel
theorem dX9_addBoard_119 : decode cX9_addBoard 119 = .ok (.lastore, 1) := by decide +kernel
theorem dX9_addBoard_120 : decode cX9_addBoard 120 = .ok (.aload_n 0, 1) := by decide +kernel
theorem dX9_addBoard_121 : decode cX9_addBoard 121 = .ok (.getfield 24, 3) := by decide +kernel
theorem dX9_addBoard_124 : decode cX9_addBoard 124 = .ok (.iload 6, 2) := by decide +kernel
theorem dX9_addBoard_126 : decode cX9_addBoard 126 = .ok (.aaload, 1) := by decide +kernel
theorem dX9_addBoard_127 : decode cX9_addBoard 127 = .ok (.iconst 5, 1) := by decide +kernel
theorem dX9_addBoard_128 : decode cX9_addBoard 128 = .ok (.dup2, 1) := by decide +kernel
theorem dX9_addBoard_129 : decode cX9_addBoard 129 = .ok (.laload, 1) := by decide +kernel
theorem dX9_addBoard_130 : decode cX9_addBoard 130 = .ok (.bipush 60, 2) := by decide +kernel
theorem dX9_addBoard_132 : decode cX9_addBoard 132 = .ok (.iload 7, 2) := by decide +kernel
theorem dX9_addBoard_134 : decode cX9_addBoard 134 = .ok (.imul, 1) := by decide +kernel
theorem dX9_addBoard_135 : decode cX9_addBoard 135 = .ok (.iload 5, 2) := by decide +kernel
theorem dX9_addBoard_137 : decode cX9_addBoard 137 = .ok (.iload 4, 2) := by decide +kernel
theorem dX9_addBoard_139 : decode cX9_addBoard 139 = .ok (.imul, 1) := by decide +kernel
theorem dX9_addBoard_140 : decode cX9_addBoard 140 = .ok (.isub, 1) := by decide +kernel
theorem dX9_addBoard_141 : decode cX9_addBoard 141 = .ok (.i2l, 1) := by decide +kernel
theorem dX9_addBoard_142 : decode cX9_addBoard 142 = .ok (.ladd, 1) := by decide +kernel
theorem dX9_addBoard_143 : decode cX9_addBoard 143 = .ok (.lastore, 1) := by decide +kernel
theorem dX9_addBoard_144 : decode cX9_addBoard 144 = .ok (.aload_n 0, 1) := by decide +kernel
theorem dX9_addBoard_145 : decode cX9_addBoard 145 = .ok (.aload_n 1, 1) := by decide +kernel
theorem dX9_addBoard_146 : decode cX9_addBoard 146 = .ok (.iload_n 2, 1) := by decide +kernel
theorem dX9_addBoard_147 : decode cX9_addBoard 147 = .ok (.iload 6, 2) := by decide +kernel
theorem dX9_addBoard_149 : decode cX9_addBoard 149 = .ok (.iload 5, 2) := by decide +kernel
theorem dX9_addBoard_151 : decode cX9_addBoard 151 = .ok (.invokevirtual 75, 3) := by decide +kernel
theorem dX9_addBoard_154 : decode cX9_addBoard 154 = .ok (.iinc 6 1, 3) := by decide +kernel
theorem dX9_addBoard_157 : decode cX9_addBoard 157 = .ok (.goto (-87), 3) := by decide +kernel
theorem dX9_addBoard_160 : decode cX9_addBoard 160 = .ok (.return_, 1) := by decide +kernel
theorem dX9_takeShares_0 : decode cX9_takeShares 0 = .ok (.iconst 0, 1) := by decide +kernel
theorem dX9_takeShares_1 : decode cX9_takeShares 1 = .ok (.istore 5, 2) := by decide +kernel
theorem dX9_takeShares_3 : decode cX9_takeShares 3 = .ok (.iload 5, 2) := by decide +kernel
theorem dX9_takeShares_5 : decode cX9_takeShares 5 = .ok (.aload_n 0, 1) := by decide +kernel
theorem dX9_takeShares_6 : decode cX9_takeShares 6 = .ok (.getfield 50, 3) := by decide +kernel
theorem dX9_takeShares_9 : decode cX9_takeShares 9 = .ok (.if_icmp .ge 40, 3) := by decide +kernel
theorem dX9_takeShares_12 : decode cX9_takeShares 12 = .ok (.aload_n 1, 1) := by decide +kernel
theorem dX9_takeShares_13 : decode cX9_takeShares 13 = .ok (.aload_n 0, 1) := by decide +kernel
theorem dX9_takeShares_14 : decode cX9_takeShares 14 = .ok (.getfield 18, 3) := by decide +kernel
theorem dX9_takeShares_17 : decode cX9_takeShares 17 = .ok (.iload 5, 2) := by decide +kernel
theorem dX9_takeShares_19 : decode cX9_takeShares 19 = .ok (.iaload, 1) := by decide +kernel
theorem dX9_takeShares_20 : decode cX9_takeShares 20 = .ok (.iload_n 2, 1) := by decide +kernel
theorem dX9_takeShares_21 : decode cX9_takeShares 21 = .ok (.invokevirtual 60, 3) := by decide +kernel
theorem dX9_takeShares_24 : decode cX9_takeShares 24 = .ok (.iconst (-1), 1) := by decide +kernel
theorem dX9_takeShares_25 : decode cX9_takeShares 25 = .ok (.if_icmp .eq 18, 3) := by decide +kernel
theorem dX9_takeShares_28 : decode cX9_takeShares 28 = .ok (.aload_n 0, 1) := by decide +kernel
theorem dX9_takeShares_29 : decode cX9_takeShares 29 = .ok (.getfield 24, 3) := by decide +kernel
theorem dX9_takeShares_32 : decode cX9_takeShares 32 = .ok (.iload_n 3, 1) := by decide +kernel
theorem dX9_takeShares_33 : decode cX9_takeShares 33 = .ok (.aaload, 1) := by decide +kernel
theorem dX9_takeShares_34 : decode cX9_takeShares 34 = .ok (.iload 5, 2) := by decide +kernel
theorem dX9_takeShares_36 : decode cX9_takeShares 36 = .ok (.dup2, 1) := by decide +kernel
theorem dX9_takeShares_37 : decode cX9_takeShares 37 = .ok (.laload, 1) := by decide +kernel
theorem dX9_takeShares_38 : decode cX9_takeShares 38 = .ok (.iload 4, 2) := by decide +kernel
theorem dX9_takeShares_40 : decode cX9_takeShares 40 = .ok (.i2l, 1) := by decide +kernel
theorem dX9_takeShares_41 : decode cX9_takeShares 41 = .ok (.lsub, 1) := by decide +kernel
theorem dX9_takeShares_42 : decode cX9_takeShares 42 = .ok (.lastore, 1) := by decide +kernel
theorem dX9_takeShares_43 : decode cX9_takeShares 43 = .ok (.iinc 5 1, 3) := by decide +kernel
theorem dX9_takeShares_46 : decode cX9_takeShares 46 = .ok (.goto (-43), 3) := by decide +kernel
theorem dX9_takeShares_49 : decode cX9_takeShares 49 = .ok (.return_, 1) := by decide +kernel
theorem dX9_determinant_0 : decode cX9_determinant 0 = .ok (.iconst 1, 1) := by decide +kernel
theorem dX9_determinant_1 : decode cX9_determinant 1 = .ok (.aload_n 0, 1) := by decide +kernel
theorem dX9_determinant_2 : decode cX9_determinant 2 = .ok (.getfield 50, 3) := by decide +kernel
theorem dX9_determinant_5 : decode cX9_determinant 5 = .ok (.ishl, 1) := by decide +kernel
theorem dX9_determinant_6 : decode cX9_determinant 6 = .ok (.iconst 1, 1) := by decide +kernel
theorem dX9_determinant_7 : decode cX9_determinant 7 = .ok (.isub, 1) := by decide +kernel
theorem dX9_determinant_8 : decode cX9_determinant 8 = .ok (.istore_n 2, 1) := by decide +kernel
theorem dX9_determinant_9 : decode cX9_determinant 9 = .ok (.aload_n 0, 1) := by decide +kernel
theorem dX9_determinant_10 : decode cX9_determinant 10 = .ok (.getfield 27, 3) := by decide +kernel
theorem dX9_determinant_13 : decode cX9_determinant 13 = .ok (.iconst 0, 1) := by decide +kernel
theorem dX9_determinant_14 : decode cX9_determinant 14 = .ok (.lconst 1, 1) := by decide +kernel
theorem dX9_determinant_15 : decode cX9_determinant 15 = .ok (.lastore, 1) := by decide +kernel
theorem dX9_determinant_16 : decode cX9_determinant 16 = .ok (.iconst 1, 1) := by decide +kernel
theorem dX9_determinant_17 : decode cX9_determinant 17 = .ok (.istore_n 3, 1) := by decide +kernel
theorem dX9_determinant_18 : decode cX9_determinant 18 = .ok (.iload_n 3, 1) := by decide +kernel
theorem dX9_determinant_19 : decode cX9_determinant 19 = .ok (.iload_n 2, 1) := by decide +kernel
theorem dX9_determinant_20 : decode cX9_determinant 20 = .ok (.if_icmp .gt 21, 3) := by decide +kernel
theorem dX9_determinant_23 : decode cX9_determinant 23 = .ok (.aload_n 0, 1) := by decide +kernel
theorem dX9_determinant_24 : decode cX9_determinant 24 = .ok (.getfield 27, 3) := by decide +kernel
theorem dX9_determinant_27 : decode cX9_determinant 27 = .ok (.iload_n 3, 1) := by decide +kernel
theorem dX9_determinant_28 : decode cX9_determinant 28 = .ok (.aload_n 0, 1) := by decide +kernel
theorem dX9_determinant_29 : decode cX9_determinant 29 = .ok (.iload_n 3, 1) := by decide +kernel
theorem dX9_determinant_30 : decode cX9_determinant 30 = .ok (.iload_n 1, 1) := by decide +kernel
theorem dX9_determinant_31 : decode cX9_determinant 31 = .ok (.invokevirtual 79, 3) := by decide +kernel
theorem dX9_determinant_34 : decode cX9_determinant 34 = .ok (.lastore, 1) := by decide +kernel
theorem dX9_determinant_35 : decode cX9_determinant 35 = .ok (.iinc 3 1, 3) := by decide +kernel
theorem dX9_determinant_38 : decode cX9_determinant 38 = .ok (.goto (-20), 3) := by decide +kernel
theorem dX9_determinant_41 : decode cX9_determinant 41 = .ok (.aload_n 0, 1) := by decide +kernel
theorem dX9_determinant_42 : decode cX9_determinant 42 = .ok (.getfield 27, 3) := by decide +kernel
theorem dX9_determinant_45 : decode cX9_determinant 45 = .ok (.iload_n 2, 1) := by decide +kernel
theorem dX9_determinant_46 : decode cX9_determinant 46 = .ok (.laload, 1) := by decide +kernel
theorem dX9_determinant_47 : decode cX9_determinant 47 = .ok (.lreturn, 1) := by decide +kernel
theorem dX9_minor_0 : decode cX9_minor 0 = .ok (.iload_n 1, 1) := by decide +kernel
theorem dX9_minor_1 : decode cX9_minor 1 = .ok (.invokestatic 83, 3) := by decide +kernel
theorem dX9_minor_4 : decode cX9_minor 4 = .ok (.iconst 1, 1) := by decide +kernel
theorem dX9_minor_5 : decode cX9_minor 5 = .ok (.isub, 1) := by decide +kernel
theorem dX9_minor_6 : decode cX9_minor 6 = .ok (.istore_n 3, 1) := by decide +kernel
theorem dX9_minor_7 : decode cX9_minor 7 = .ok (.lconst 0, 1) := by decide +kernel
theorem dX9_minor_8 : decode cX9_minor 8 = .ok (.lstore 4, 2) := by decide +kernel
theorem dX9_minor_10 : decode cX9_minor 10 = .ok (.iconst 0, 1) := by decide +kernel
theorem dX9_minor_11 : decode cX9_minor 11 = .ok (.istore 6, 2) := by decide +kernel
theorem dX9_minor_13 : decode cX9_minor 13 = .ok (.iload 6, 2) := by decide +kernel
theorem dX9_minor_15 : decode cX9_minor 15 = .ok (.aload_n 0, 1) := by decide +kernel
theorem dX9_minor_16 : decode cX9_minor 16 = .ok (.getfield 50, 3) := by decide +kernel
theorem dX9_minor_19 : decode cX9_minor 19 = .ok (.if_icmp .ge 89, 3) := by decide +kernel
theorem dX9_minor_22 : decode cX9_minor 22 = .ok (.iload_n 1, 1) := by decide +kernel
theorem dX9_minor_23 : decode cX9_minor 23 = .ok (.iload 6, 2) := by decide +kernel
theorem dX9_minor_25 : decode cX9_minor 25 = .ok (.ishr, 1) := by decide +kernel
theorem dX9_minor_26 : decode cX9_minor 26 = .ok (.iconst 1, 1) := by decide +kernel
theorem dX9_minor_27 : decode cX9_minor 27 = .ok (.iand, 1) := by decide +kernel
theorem dX9_minor_28 : decode cX9_minor 28 = .ok (.iconst 1, 1) := by decide +kernel
theorem dX9_minor_29 : decode cX9_minor 29 = .ok (.if_icmp .ne 73, 3) := by decide +kernel
theorem dX9_minor_32 : decode cX9_minor 32 = .ok (.aload_n 0, 1) := by decide +kernel
theorem dX9_minor_33 : decode cX9_minor 33 = .ok (.getfield 24, 3) := by decide +kernel
theorem dX9_minor_36 : decode cX9_minor 36 = .ok (.iload_n 3, 1) := by decide +kernel
theorem dX9_minor_37 : decode cX9_minor 37 = .ok (.aaload, 1) := by decide +kernel
theorem dX9_minor_38 : decode cX9_minor 38 = .ok (.iload 6, 2) := by decide +kernel
theorem dX9_minor_40 : decode cX9_minor 40 = .ok (.iload_n 2, 1) := by decide +kernel
theorem dX9_minor_41 : decode cX9_minor 41 = .ok (.if_icmp .ne 7, 3) := by decide +kernel
theorem dX9_minor_44 : decode cX9_minor 44 = .ok (.iconst 5, 1) := by decide +kernel
theorem dX9_minor_45 : decode cX9_minor 45 = .ok (.goto 5, 3) := by decide +kernel
theorem dX9_minor_48 : decode cX9_minor 48 = .ok (.iload 6, 2) := by decide +kernel
theorem dX9_minor_50 : decode cX9_minor 50 = .ok (.laload, 1) := by decide +kernel
theorem dX9_minor_51 : decode cX9_minor 51 = .ok (.lstore 7, 2) := by decide +kernel
theorem dX9_minor_53 : decode cX9_minor 53 = .ok (.lload 7, 2) := by decide +kernel
theorem dX9_minor_55 : decode cX9_minor 55 = .ok (.aload_n 0, 1) := by decide +kernel
theorem dX9_minor_56 : decode cX9_minor 56 = .ok (.getfield 27, 3) := by decide +kernel
theorem dX9_minor_59 : decode cX9_minor 59 = .ok (.iload_n 1, 1) := by decide +kernel
theorem dX9_minor_60 : decode cX9_minor 60 = .ok (.iconst 1, 1) := by decide +kernel
theorem dX9_minor_61 : decode cX9_minor 61 = .ok (.iload 6, 2) := by decide +kernel
theorem dX9_minor_63 : decode cX9_minor 63 = .ok (.ishl, 1) := by decide +kernel
theorem dX9_minor_64 : decode cX9_minor 64 = .ok (.iconst (-1), 1) := by decide +kernel
theorem dX9_minor_65 : decode cX9_minor 65 = .ok (.ixor, 1) := by decide +kernel
theorem dX9_minor_66 : decode cX9_minor 66 = .ok (.iand, 1) := by decide +kernel
theorem dX9_minor_67 : decode cX9_minor 67 = .ok (.laload, 1) := by decide +kernel
theorem dX9_minor_68 : decode cX9_minor 68 = .ok (.lmul, 1) := by decide +kernel
theorem dX9_minor_69 : decode cX9_minor 69 = .ok (.lstore 9, 2) := by decide +kernel
theorem dX9_minor_71 : decode cX9_minor 71 = .ok (.iload_n 1, 1) := by decide +kernel
theorem dX9_minor_72 : decode cX9_minor 72 = .ok (.iload 6, 2) := by decide +kernel
theorem dX9_minor_74 : decode cX9_minor 74 = .ok (.iconst 1, 1) := by decide +kernel
theorem dX9_minor_75 : decode cX9_minor 75 = .ok (.iadd, 1) := by decide +kernel
theorem dX9_minor_76 : decode cX9_minor 76 = .ok (.ishr, 1) := by decide +kernel
theorem dX9_minor_77 : decode cX9_minor 77 = .ok (.invokestatic 83, 3) := by decide +kernel
theorem dX9_minor_80 : decode cX9_minor 80 = .ok (.istore 11, 2) := by decide +kernel
theorem dX9_minor_82 : decode cX9_minor 82 = .ok (.lload 4, 2) := by decide +kernel
theorem dX9_minor_84 : decode cX9_minor 84 = .ok (.iload 11, 2) := by decide +kernel
theorem dX9_minor_86 : decode cX9_minor 86 = .ok (.iconst 1, 1) := by decide +kernel
theorem dX9_minor_87 : decode cX9_minor 87 = .ok (.iand, 1) := by decide +kernel
theorem dX9_minor_88 : decode cX9_minor 88 = .ok (.ifCond .ne 8, 3) := by decide +kernel
theorem dX9_minor_91 : decode cX9_minor 91 = .ok (.lload 9, 2) := by decide +kernel
theorem dX9_minor_93 : decode cX9_minor 93 = .ok (.goto 6, 3) := by decide +kernel
theorem dX9_minor_96 : decode cX9_minor 96 = .ok (.lload 9, 2) := by decide +kernel
theorem dX9_minor_98 : decode cX9_minor 98 = .ok (.lneg, 1) := by decide +kernel
theorem dX9_minor_99 : decode cX9_minor 99 = .ok (.ladd, 1) := by decide +kernel
theorem dX9_minor_100 : decode cX9_minor 100 = .ok (.lstore 4, 2) := by decide +kernel
theorem dX9_minor_102 : decode cX9_minor 102 = .ok (.iinc 6 1, 3) := by decide +kernel
theorem dX9_minor_105 : decode cX9_minor 105 = .ok (.goto (-92), 3) := by decide +kernel
theorem dX9_minor_108 : decode cX9_minor 108 = .ok (.lload 4, 2) := by decide +kernel
theorem dX9_minor_110 : decode cX9_minor 110 = .ok (.lreturn, 1) := by decide +kernel
theorem dX10_init_0 : decode cX10_init 0 = .ok (.aload_n 0, 1) := by decide +kernel
theorem dX10_init_1 : decode cX10_init 1 = .ok (.invokespecial 3, 3) := by decide +kernel
theorem dX10_init_4 : decode cX10_init 4 = .ok (.aload_n 0, 1) := by decide +kernel
theorem dX10_init_5 : decode cX10_init 5 = .ok (.iconst (-1), 1) := by decide +kernel
theorem dX10_init_6 : decode cX10_init 6 = .ok (.putfield 9, 3) := by decide +kernel
theorem dX10_init_9 : decode cX10_init 9 = .ok (.aload_n 0, 1) := by decide +kernel
theorem dX10_init_10 : decode cX10_init 10 = .ok (.iconst (-1), 1) := by decide +kernel
theorem dX10_init_11 : decode cX10_init 11 = .ok (.putfield 15, 3) := by decide +kernel
theorem dX10_init_14 : decode cX10_init 14 = .ok (.aload_n 0, 1) := by decide +kernel
theorem dX10_init_15 : decode cX10_init 15 = .ok (.sipush 300, 3) := by decide +kernel
theorem dX10_init_18 : decode cX10_init 18 = .ok (.newarray .byte, 2) := by decide +kernel
theorem dX10_init_20 : decode cX10_init 20 = .ok (.putfield 18, 3) := by decide +kernel
theorem dX10_init_23 : decode cX10_init 23 = .ok (.return_, 1) := by decide +kernel
theorem dX10_take_0 : decode cX10_take 0 = .ok (.bipush 24, 2) := by decide +kernel
theorem dX10_take_2 : decode cX10_take 2 = .ok (.istore_n 2, 1) := by decide +kernel
theorem dX10_take_3 : decode cX10_take 3 = .ok (.iload_n 2, 1) := by decide +kernel
theorem dX10_take_4 : decode cX10_take 4 = .ok (.ifCond .lt 42, 3) := by decide +kernel
theorem dX10_take_7 : decode cX10_take 7 = .ok (.aload_n 0, 1) := by decide +kernel
theorem dX10_take_8 : decode cX10_take 8 = .ok (.getfield 22, 3) := by decide +kernel
theorem dX10_take_11 : decode cX10_take 11 = .ok (.sipush 300, 3) := by decide +kernel
theorem dX10_take_14 : decode cX10_take 14 = .ok (.if_icmp .ge 32, 3) := by decide +kernel
theorem dX10_take_17 : decode cX10_take 17 = .ok (.aload_n 0, 1) := by decide +kernel
theorem dX10_take_18 : decode cX10_take 18 = .ok (.getfield 18, 3) := by decide +kernel
theorem dX10_take_21 : decode cX10_take 21 = .ok (.aload_n 0, 1) := by decide +kernel
theorem dX10_take_22 : decode cX10_take 22 = .ok (.getfield 22, 3) := by decide +kernel
theorem dX10_take_25 : decode cX10_take 25 = .ok (.iload_n 1, 1) := by decide +kernel
theorem dX10_take_26 : decode cX10_take 26 = .ok (.iload_n 2, 1) := by decide +kernel
theorem dX10_take_27 : decode cX10_take 27 = .ok (.ishr, 1) := by decide +kernel
theorem dX10_take_28 : decode cX10_take 28 = .ok (.i2b, 1) := by decide +kernel
theorem dX10_take_29 : decode cX10_take 29 = .ok (.bastore, 1) := by decide +kernel
theorem dX10_take_30 : decode cX10_take 30 = .ok (.aload_n 0, 1) := by decide +kernel
theorem dX10_take_31 : decode cX10_take 31 = .ok (.dup, 1) := by decide +kernel
theorem dX10_take_32 : decode cX10_take 32 = .ok (.getfield 22, 3) := by decide +kernel
theorem dX10_take_35 : decode cX10_take 35 = .ok (.iconst 1, 1) := by decide +kernel
theorem dX10_take_36 : decode cX10_take 36 = .ok (.iadd, 1) := by decide +kernel
theorem dX10_take_37 : decode cX10_take 37 = .ok (.putfield 22, 3) := by decide +kernel
theorem dX10_take_40 : decode cX10_take 40 = .ok (.iinc 2 (-8), 3) := by decide +kernel
theorem dX10_take_43 : decode cX10_take 43 = .ok (.goto (-40), 3) := by decide +kernel
theorem dX10_take_46 : decode cX10_take 46 = .ok (.return_, 1) := by decide +kernel
theorem dX10_read_0 : decode cX10_read 0 = .ok (.aload_n 0, 1) := by decide +kernel
theorem dX10_read_1 : decode cX10_read 1 = .ok (.iconst 0, 1) := by decide +kernel
theorem dX10_read_2 : decode cX10_read 2 = .ok (.putfield 9, 3) := by decide +kernel
theorem dX10_read_5 : decode cX10_read 5 = .ok (.aload_n 0, 1) := by decide +kernel
theorem dX10_read_6 : decode cX10_read 6 = .ok (.iconst (-1), 1) := by decide +kernel
theorem dX10_read_7 : decode cX10_read 7 = .ok (.putfield 15, 3) := by decide +kernel
theorem dX10_read_10 : decode cX10_read 10 = .ok (.aload_n 0, 1) := by decide +kernel
theorem dX10_read_11 : decode cX10_read 11 = .ok (.iload_n 1, 1) := by decide +kernel
theorem dX10_read_12 : decode cX10_read 12 = .ok (.sipush 300, 3) := by decide +kernel
theorem dX10_read_15 : decode cX10_read 15 = .ok (.invokestatic 25, 3) := by decide +kernel
theorem dX10_read_18 : decode cX10_read 18 = .ok (.putfield 31, 3) := by decide +kernel
theorem dX10_read_21 : decode cX10_read 21 = .ok (.aload_n 0, 1) := by decide +kernel
theorem dX10_read_22 : decode cX10_read 22 = .ok (.iconst 0, 1) := by decide +kernel
theorem dX10_read_23 : decode cX10_read 23 = .ok (.putfield 34, 3) := by decide +kernel
theorem dX10_read_26 : decode cX10_read 26 = .ok (.aload_n 2, 1) := by decide +kernel
theorem dX10_read_27 : decode cX10_read 27 = .ok (.iconst 0, 1) := by decide +kernel
theorem dX10_read_28 : decode cX10_read 28 = .ok (.putfield 37, 3) := by decide +kernel
theorem dX10_read_31 : decode cX10_read 31 = .ok (.aload_n 0, 1) := by decide +kernel
theorem dX10_read_32 : decode cX10_read 32 = .ok (.invokevirtual 42, 3) := by decide +kernel
theorem dX10_read_35 : decode cX10_read 35 = .ok (.iconst 0, 1) := by decide +kernel
theorem dX10_read_36 : decode cX10_read 36 = .ok (.istore_n 3, 1) := by decide +kernel
theorem dX10_read_37 : decode cX10_read 37 = .ok (.iload_n 3, 1) := by decide +kernel
theorem dX10_read_38 : decode cX10_read 38 = .ok (.bipush 8, 2) := by decide +kernel
theorem dX10_read_40 : decode cX10_read 40 = .ok (.if_icmp .gt 28, 3) := by decide +kernel
theorem dX10_read_43 : decode cX10_read 43 = .ok (.aload_n 0, 1) := by decide +kernel
theorem dX10_read_44 : decode cX10_read 44 = .ok (.getfield 45, 3) := by decide +kernel
theorem dX10_read_47 : decode cX10_read 47 = .ok (.ifCond .eq 21, 3) := by decide +kernel
theorem dX10_read_50 : decode cX10_read 50 = .ok (.aload_n 0, 1) := by decide +kernel
theorem dX10_read_51 : decode cX10_read 51 = .ok (.getfield 9, 3) := by decide +kernel
theorem dX10_read_54 : decode cX10_read 54 = .ok (.ifCond .ne 14, 3) := by decide +kernel
theorem dX10_read_57 : decode cX10_read 57 = .ok (.aload_n 0, 1) := by decide +kernel
theorem dX10_read_58 : decode cX10_read 58 = .ok (.aload_n 2, 1) := by decide +kernel
theorem dX10_read_59 : decode cX10_read 59 = .ok (.invokevirtual 48, 3) := by decide +kernel
theorem dX10_read_62 : decode cX10_read 62 = .ok (.iinc 3 1, 3) := by decide +kernel
theorem dX10_read_65 : decode cX10_read 65 = .ok (.goto (-28), 3) := by decide +kernel
theorem dX10_read_68 : decode cX10_read 68 = .ok (.return_, 1) := by decide +kernel
theorem dX10_readPrize_0 : decode cX10_readPrize 0 = .ok (.aload_n 0, 1) := by decide +kernel
theorem dX10_readPrize_1 : decode cX10_readPrize 1 = .ok (.ldc 52, 2) := by decide +kernel
theorem dX10_readPrize_3 : decode cX10_readPrize 3 = .ok (.invokevirtual 54, 3) := by decide +kernel
theorem dX10_readPrize_6 : decode cX10_readPrize 6 = .ok (.ifCond .ne 9, 3) := by decide +kernel
theorem dX10_readPrize_9 : decode cX10_readPrize 9 = .ok (.aload_n 0, 1) := by decide +kernel
theorem dX10_readPrize_10 : decode cX10_readPrize 10 = .ok (.iconst 2, 1) := by decide +kernel
theorem dX10_readPrize_11 : decode cX10_readPrize 11 = .ok (.invokevirtual 58, 3) := by decide +kernel
theorem dX10_readPrize_14 : decode cX10_readPrize 14 = .ok (.return_, 1) := by decide +kernel
theorem dX10_readPrize_15 : decode cX10_readPrize 15 = .ok (.aload_n 1, 1) := by decide +kernel
theorem dX10_readPrize_16 : decode cX10_readPrize 16 = .ok (.getfield 37, 3) := by decide +kernel
theorem dX10_readPrize_19 : decode cX10_readPrize 19 = .ok (.bipush 8, 2) := by decide +kernel
theorem dX10_readPrize_21 : decode cX10_readPrize 21 = .ok (.if_icmp .lt 9, 3) := by decide +kernel
theorem dX10_readPrize_24 : decode cX10_readPrize 24 = .ok (.aload_n 0, 1) := by decide +kernel
theorem dX10_readPrize_25 : decode cX10_readPrize 25 = .ok (.iconst 3, 1) := by decide +kernel
theorem dX10_readPrize_26 : decode cX10_readPrize 26 = .ok (.invokevirtual 58, 3) := by decide +kernel
theorem dX10_readPrize_29 : decode cX10_readPrize 29 = .ok (.return_, 1) := by decide +kernel
theorem dX10_readPrize_30 : decode cX10_readPrize 30 = .ok (.aload_n 1, 1) := by decide +kernel
theorem dX10_readPrize_31 : decode cX10_readPrize 31 = .ok (.getfield 37, 3) := by decide +kernel
theorem dX10_readPrize_34 : decode cX10_readPrize 34 = .ok (.istore_n 2, 1) := by decide +kernel
theorem dX10_readPrize_35 : decode cX10_readPrize 35 = .ok (.aload_n 1, 1) := by decide +kernel
theorem dX10_readPrize_36 : decode cX10_readPrize 36 = .ok (.invokevirtual 62, 3) := by decide +kernel
theorem dX10_readPrize_39 : decode cX10_readPrize 39 = .ok (.aload_n 0, 1) := by decide +kernel
theorem dX10_readPrize_40 : decode cX10_readPrize 40 = .ok (.invokevirtual 42, 3) := by decide +kernel
theorem dX10_readPrize_43 : decode cX10_readPrize 43 = .ok (.aload_n 0, 1) := by decide +kernel
theorem dX10_readPrize_44 : decode cX10_readPrize 44 = .ok (.aload_n 1, 1) := by decide +kernel
theorem dX10_readPrize_45 : decode cX10_readPrize 45 = .ok (.iload_n 2, 1) := by decide +kernel
theorem dX10_readPrize_46 : decode cX10_readPrize 46 = .ok (.invokevirtual 65, 3) := by decide +kernel
theorem dX10_readPrize_49 : decode cX10_readPrize 49 = .ok (.aload_n 0, 1) := by decide +kernel
theorem dX10_readPrize_50 : decode cX10_readPrize 50 = .ok (.ldc 69, 2) := by decide +kernel
theorem dX10_readPrize_52 : decode cX10_readPrize 52 = .ok (.invokevirtual 71, 3) := by decide +kernel
theorem dX10_readPrize_55 : decode cX10_readPrize 55 = .ok (.aload_n 1, 1) := by decide +kernel
theorem dX10_readPrize_56 : decode cX10_readPrize 56 = .ok (.getfield 75, 3) := by decide +kernel
theorem dX10_readPrize_59 : decode cX10_readPrize 59 = .ok (.iload_n 2, 1) := by decide +kernel
theorem dX10_readPrize_60 : decode cX10_readPrize 60 = .ok (.aload_n 0, 1) := by decide +kernel
theorem dX10_readPrize_61 : decode cX10_readPrize 61 = .ok (.iconst 1, 1) := by decide +kernel
theorem dX10_readPrize_62 : decode cX10_readPrize 62 = .ok (.bipush 24, 2) := by decide +kernel
theorem dX10_readPrize_64 : decode cX10_readPrize 64 = .ok (.invokevirtual 78, 3) := by decide +kernel
theorem dX10_readPrize_67 : decode cX10_readPrize 67 = .ok (.iastore, 1) := by decide +kernel
theorem dX10_readPrize_68 : decode cX10_readPrize 68 = .ok (.aload_n 0, 1) := by decide +kernel
theorem dX10_readPrize_69 : decode cX10_readPrize 69 = .ok (.getfield 9, 3) := by decide +kernel
theorem dX10_readPrize_72 : decode cX10_readPrize 72 = .ok (.ifCond .ne 23, 3) := by decide +kernel
theorem dX10_readPrize_75 : decode cX10_readPrize 75 = .ok (.aload_n 0, 1) := by decide +kernel
theorem dX10_readPrize_76 : decode cX10_readPrize 76 = .ok (.ldc 81, 2) := by decide +kernel
theorem dX10_readPrize_78 : decode cX10_readPrize 78 = .ok (.invokevirtual 54, 3) := by decide +kernel
theorem dX10_readPrize_81 : decode cX10_readPrize 81 = .ok (.ifCond .eq 14, 3) := by decide +kernel
theorem dX10_readPrize_84 : decode cX10_readPrize 84 = .ok (.aload_n 1, 1) := by decide +kernel
theorem dX10_readPrize_85 : decode cX10_readPrize 85 = .ok (.getfield 83, 3) := by decide +kernel
theorem dX10_readPrize_88 : decode cX10_readPrize 88 = .ok (.iload_n 2, 1) := by decide +kernel
theorem dX10_readPrize_89 : decode cX10_readPrize 89 = .ok (.iconst 1, 1) := by decide +kernel
theorem dX10_readPrize_90 : decode cX10_readPrize 90 = .ok (.bastore, 1) := by decide +kernel
theorem dX10_readPrize_91 : decode cX10_readPrize 91 = .ok (.aload_n 0, 1) := by decide +kernel
theorem dX10_readPrize_92 : decode cX10_readPrize 92 = .ok (.invokevirtual 42, 3) := by decide +kernel
theorem dX10_readPrize_95 : decode cX10_readPrize 95 = .ok (.aload_n 0, 1) := by decide +kernel
theorem dX10_readPrize_96 : decode cX10_readPrize 96 = .ok (.invokevirtual 86, 3) := by decide +kernel
theorem dX10_readPrize_99 : decode cX10_readPrize 99 = .ok (.return_, 1) := by decide +kernel
theorem dX10_readWishes_0 : decode cX10_readWishes 0 = .ok (.aload_n 0, 1) := by decide +kernel
theorem dX10_readWishes_1 : decode cX10_readWishes 1 = .ok (.invokevirtual 89, 3) := by decide +kernel
theorem dX10_readWishes_4 : decode cX10_readWishes 4 = .ok (.istore_n 3, 1) := by decide +kernel
theorem dX10_readWishes_5 : decode cX10_readWishes 5 = .ok (.iconst 0, 1) := by decide +kernel
theorem dX10_readWishes_6 : decode cX10_readWishes 6 = .ok (.istore 4, 2) := by decide +kernel
theorem dX10_readWishes_8 : decode cX10_readWishes 8 = .ok (.iload 4, 2) := by decide +kernel
theorem dX10_readWishes_10 : decode cX10_readWishes 10 = .ok (.iconst 4, 1) := by decide +kernel
theorem dX10_readWishes_11 : decode cX10_readWishes 11 = .ok (.if_icmp .gt 72, 3) := by decide +kernel
theorem dX10_readWishes_14 : decode cX10_readWishes 14 = .ok (.iload_n 3, 1) := by decide +kernel
theorem dX10_readWishes_15 : decode cX10_readWishes 15 = .ok (.iconst (-1), 1) := by decide +kernel
theorem dX10_readWishes_16 : decode cX10_readWishes 16 = .ok (.if_icmp .eq 67, 3) := by decide +kernel
theorem dX10_readWishes_19 : decode cX10_readWishes 19 = .ok (.aload_n 0, 1) := by decide +kernel
theorem dX10_readWishes_20 : decode cX10_readWishes 20 = .ok (.getfield 9, 3) := by decide +kernel
theorem dX10_readWishes_23 : decode cX10_readWishes 23 = .ok (.ifCond .ne 60, 3) := by decide +kernel
theorem dX10_readWishes_26 : decode cX10_readWishes 26 = .ok (.aload_n 1, 1) := by decide +kernel
theorem dX10_readWishes_27 : decode cX10_readWishes 27 = .ok (.getfield 93, 3) := by decide +kernel
theorem dX10_readWishes_30 : decode cX10_readWishes 30 = .ok (.iload_n 3, 1) := by decide +kernel
theorem dX10_readWishes_31 : decode cX10_readWishes 31 = .ok (.aaload, 1) := by decide +kernel
theorem dX10_readWishes_32 : decode cX10_readWishes 32 = .ok (.iload_n 2, 1) := by decide +kernel
theorem dX10_readWishes_33 : decode cX10_readWishes 33 = .ok (.iaload, 1) := by decide +kernel
theorem dX10_readWishes_34 : decode cX10_readWishes 34 = .ok (.iconst (-1), 1) := by decide +kernel
theorem dX10_readWishes_35 : decode cX10_readWishes 35 = .ok (.if_icmp .eq 11, 3) := by decide +kernel
theorem dX10_readWishes_38 : decode cX10_readWishes 38 = .ok (.aload_n 0, 1) := by decide +kernel
theorem dX10_readWishes_39 : decode cX10_readWishes 39 = .ok (.iconst 5, 1) := by decide +kernel
theorem dX10_readWishes_40 : decode cX10_readWishes 40 = .ok (.invokevirtual 58, 3) := by decide +kernel
theorem dX10_readWishes_43 : decode cX10_readWishes 43 = .ok (.goto 34, 3) := by decide +kernel
theorem dX10_readWishes_46 : decode cX10_readWishes 46 = .ok (.aload_n 0, 1) := by decide +kernel
theorem dX10_readWishes_47 : decode cX10_readWishes 47 = .ok (.invokevirtual 42, 3) := by decide +kernel
theorem dX10_readWishes_50 : decode cX10_readWishes 50 = .ok (.aload_n 1, 1) := by decide +kernel
theorem dX10_readWishes_51 : decode cX10_readWishes 51 = .ok (.getfield 93, 3) := by decide +kernel
theorem dX10_readWishes_54 : decode cX10_readWishes 54 = .ok (.iload_n 3, 1) := by decide +kernel
theorem dX10_readWishes_55 : decode cX10_readWishes 55 = .ok (.aaload, 1) := by decide +kernel
theorem dX10_readWishes_56 : decode cX10_readWishes 56 = .ok (.iload_n 2, 1) := by decide +kernel
theorem dX10_readWishes_57 : decode cX10_readWishes 57 = .ok (.aload_n 0, 1) := by decide +kernel
theorem dX10_readWishes_58 : decode cX10_readWishes 58 = .ok (.getstatic 97, 3) := by decide +kernel
theorem dX10_readWishes_61 : decode cX10_readWishes 61 = .ok (.iload_n 3, 1) := by decide +kernel
theorem dX10_readWishes_62 : decode cX10_readWishes 62 = .ok (.iaload, 1) := by decide +kernel
theorem dX10_readWishes_63 : decode cX10_readWishes 63 = .ok (.getstatic 100, 3) := by decide +kernel
theorem dX10_readWishes_66 : decode cX10_readWishes 66 = .ok (.iload_n 3, 1) := by decide +kernel
theorem dX10_readWishes_67 : decode cX10_readWishes 67 = .ok (.iaload, 1) := by decide +kernel
theorem dX10_readWishes_68 : decode cX10_readWishes 68 = .ok (.invokevirtual 78, 3) := by decide +kernel
theorem dX10_readWishes_71 : decode cX10_readWishes 71 = .ok (.iastore, 1) := by decide +kernel
theorem dX10_readWishes_72 : decode cX10_readWishes 72 = .ok (.aload_n 0, 1) := by decide +kernel
theorem dX10_readWishes_73 : decode cX10_readWishes 73 = .ok (.invokevirtual 89, 3) := by decide +kernel
theorem dX10_readWishes_76 : decode cX10_readWishes 76 = .ok (.istore_n 3, 1) := by decide +kernel
theorem dX10_readWishes_77 : decode cX10_readWishes 77 = .ok (.iinc 4 1, 3) := by decide +kernel
theorem dX10_readWishes_80 : decode cX10_readWishes 80 = .ok (.goto (-72), 3) := by decide +kernel
theorem dX10_readWishes_83 : decode cX10_readWishes 83 = .ok (.return_, 1) := by decide +kernel
theorem dX10_wishInHand_0 : decode cX10_wishInHand 0 = .ok (.aload_n 0, 1) := by decide +kernel
theorem dX10_wishInHand_1 : decode cX10_wishInHand 1 = .ok (.ldc 103, 2) := by decide +kernel
theorem dX10_wishInHand_3 : decode cX10_wishInHand 3 = .ok (.invokevirtual 54, 3) := by decide +kernel
theorem dX10_wishInHand_6 : decode cX10_wishInHand 6 = .ok (.ifCond .eq 5, 3) := by decide +kernel
theorem dX10_wishInHand_9 : decode cX10_wishInHand 9 = .ok (.iconst 0, 1) := by decide +kernel
theorem dX10_wishInHand_10 : decode cX10_wishInHand 10 = .ok (.ireturn, 1) := by decide +kernel
theorem dX10_wishInHand_11 : decode cX10_wishInHand 11 = .ok (.aload_n 0, 1) := by decide +kernel
theorem dX10_wishInHand_12 : decode cX10_wishInHand 12 = .ok (.ldc 105, 2) := by decide +kernel
theorem dX10_wishInHand_14 : decode cX10_wishInHand 14 = .ok (.invokevirtual 54, 3) := by decide +kernel
theorem dX10_wishInHand_17 : decode cX10_wishInHand 17 = .ok (.ifCond .eq 5, 3) := by decide +kernel
theorem dX10_wishInHand_20 : decode cX10_wishInHand 20 = .ok (.iconst 1, 1) := by decide +kernel
theorem dX10_wishInHand_21 : decode cX10_wishInHand 21 = .ok (.ireturn, 1) := by decide +kernel
theorem dX10_wishInHand_22 : decode cX10_wishInHand 22 = .ok (.aload_n 0, 1) := by decide +kernel
theorem dX10_wishInHand_23 : decode cX10_wishInHand 23 = .ok (.ldc 107, 2) := by decide +kernel
theorem dX10_wishInHand_25 : decode cX10_wishInHand 25 = .ok (.invokevirtual 54, 3) := by decide +kernel
theorem dX10_wishInHand_28 : decode cX10_wishInHand 28 = .ok (.ifCond .eq 5, 3) := by decide +kernel
theorem dX10_wishInHand_31 : decode cX10_wishInHand 31 = .ok (.iconst 2, 1) := by decide +kernel
theorem dX10_wishInHand_32 : decode cX10_wishInHand 32 = .ok (.ireturn, 1) := by decide +kernel
theorem dX10_wishInHand_33 : decode cX10_wishInHand 33 = .ok (.aload_n 0, 1) := by decide +kernel
theorem dX10_wishInHand_34 : decode cX10_wishInHand 34 = .ok (.ldc 109, 2) := by decide +kernel
theorem dX10_wishInHand_36 : decode cX10_wishInHand 36 = .ok (.invokevirtual 54, 3) := by decide +kernel
theorem dX10_wishInHand_39 : decode cX10_wishInHand 39 = .ok (.ifCond .eq 7, 3) := by decide +kernel
theorem dX10_wishInHand_42 : decode cX10_wishInHand 42 = .ok (.iconst 3, 1) := by decide +kernel
theorem dX10_wishInHand_43 : decode cX10_wishInHand 43 = .ok (.goto 4, 3) := by decide +kernel
theorem dX10_wishInHand_46 : decode cX10_wishInHand 46 = .ok (.iconst (-1), 1) := by decide +kernel
theorem dX10_wishInHand_47 : decode cX10_wishInHand 47 = .ok (.ireturn, 1) := by decide +kernel
theorem dX10_takeWord_0 : decode cX10_takeWord 0 = .ok (.aload_n 0, 1) := by decide +kernel
theorem dX10_takeWord_1 : decode cX10_takeWord 1 = .ok (.aload_n 1, 1) := by decide +kernel
theorem dX10_takeWord_2 : decode cX10_takeWord 2 = .ok (.invokevirtual 54, 3) := by decide +kernel
theorem dX10_takeWord_5 : decode cX10_takeWord 5 = .ok (.ifCond .ne 8, 3) := by decide +kernel
theorem dX10_takeWord_8 : decode cX10_takeWord 8 = .ok (.aload_n 0, 1) := by decide +kernel
theorem dX10_takeWord_9 : decode cX10_takeWord 9 = .ok (.iconst 2, 1) := by decide +kernel
theorem dX10_takeWord_10 : decode cX10_takeWord 10 = .ok (.invokevirtual 58, 3) := by decide +kernel
theorem dX10_takeWord_13 : decode cX10_takeWord 13 = .ok (.aload_n 0, 1) := by decide +kernel
theorem dX10_takeWord_14 : decode cX10_takeWord 14 = .ok (.invokevirtual 42, 3) := by decide +kernel
theorem dX10_takeWord_17 : decode cX10_takeWord 17 = .ok (.return_, 1) := by decide +kernel
theorem dX10_takeStop_0 : decode cX10_takeStop 0 = .ok (.aload_n 0, 1) := by decide +kernel
theorem dX10_takeStop_1 : decode cX10_takeStop 1 = .ok (.getfield 45, 3) := by decide +kernel
theorem dX10_takeStop_4 : decode cX10_takeStop 4 = .ok (.iconst 3, 1) := by decide +kernel
theorem dX10_takeStop_5 : decode cX10_takeStop 5 = .ok (.if_icmp .eq 8, 3) := by decide +kernel
theorem dX10_takeStop_8 : decode cX10_takeStop 8 = .ok (.aload_n 0, 1) := by decide +kernel
theorem dX10_takeStop_9 : decode cX10_takeStop 9 = .ok (.iconst 2, 1) := by decide +kernel
theorem dX10_takeStop_10 : decode cX10_takeStop 10 = .ok (.invokevirtual 58, 3) := by decide +kernel
theorem dX10_takeStop_13 : decode cX10_takeStop 13 = .ok (.aload_n 0, 1) := by decide +kernel
theorem dX10_takeStop_14 : decode cX10_takeStop 14 = .ok (.invokevirtual 42, 3) := by decide +kernel
theorem dX10_takeStop_17 : decode cX10_takeStop 17 = .ok (.return_, 1) := by decide +kernel
theorem dX10_takeNumber_0 : decode cX10_takeNumber 0 = .ok (.iconst 0, 1) := by decide +kernel
theorem dX10_takeNumber_1 : decode cX10_takeNumber 1 = .ok (.istore_n 3, 1) := by decide +kernel
theorem dX10_takeNumber_2 : decode cX10_takeNumber 2 = .ok (.aload_n 0, 1) := by decide +kernel
theorem dX10_takeNumber_3 : decode cX10_takeNumber 3 = .ok (.getfield 45, 3) := by decide +kernel
theorem dX10_takeNumber_6 : decode cX10_takeNumber 6 = .ok (.iconst 2, 1) := by decide +kernel
theorem dX10_takeNumber_7 : decode cX10_takeNumber 7 = .ok (.if_icmp .eq 11, 3) := by decide +kernel
theorem dX10_takeNumber_10 : decode cX10_takeNumber 10 = .ok (.aload_n 0, 1) := by decide +kernel
theorem dX10_takeNumber_11 : decode cX10_takeNumber 11 = .ok (.iconst 2, 1) := by decide +kernel
theorem dX10_takeNumber_12 : decode cX10_takeNumber 12 = .ok (.invokevirtual 58, 3) := by decide +kernel
theorem dX10_takeNumber_15 : decode cX10_takeNumber 15 = .ok (.goto 54, 3) := by decide +kernel
theorem dX10_takeNumber_18 : decode cX10_takeNumber 18 = .ok (.aload_n 0, 1) := by decide +kernel
theorem dX10_takeNumber_19 : decode cX10_takeNumber 19 = .ok (.getfield 111, 3) := by decide +kernel
theorem dX10_takeNumber_22 : decode cX10_takeNumber 22 = .ok (.istore 4, 2) := by decide +kernel
theorem dX10_takeNumber_24 : decode cX10_takeNumber 24 = .ok (.iload 4, 2) := by decide +kernel
theorem dX10_takeNumber_26 : decode cX10_takeNumber 26 = .ok (.aload_n 0, 1) := by decide +kernel
theorem dX10_takeNumber_27 : decode cX10_takeNumber 27 = .ok (.getfield 34, 3) := by decide +kernel
theorem dX10_takeNumber_30 : decode cX10_takeNumber 30 = .ok (.if_icmp .ge 25, 3) := by decide +kernel
theorem dX10_takeNumber_33 : decode cX10_takeNumber 33 = .ok (.iload_n 3, 1) := by decide +kernel
theorem dX10_takeNumber_34 : decode cX10_takeNumber 34 = .ok (.bipush 10, 2) := by decide +kernel
theorem dX10_takeNumber_36 : decode cX10_takeNumber 36 = .ok (.imul, 1) := by decide +kernel
theorem dX10_takeNumber_37 : decode cX10_takeNumber 37 = .ok (.aload_n 0, 1) := by decide +kernel
theorem dX10_takeNumber_38 : decode cX10_takeNumber 38 = .ok (.getfield 18, 3) := by decide +kernel
theorem dX10_takeNumber_41 : decode cX10_takeNumber 41 = .ok (.iload 4, 2) := by decide +kernel
theorem dX10_takeNumber_43 : decode cX10_takeNumber 43 = .ok (.baload, 1) := by decide +kernel
theorem dX10_takeNumber_44 : decode cX10_takeNumber 44 = .ok (.bipush 48, 2) := by decide +kernel
theorem dX10_takeNumber_46 : decode cX10_takeNumber 46 = .ok (.isub, 1) := by decide +kernel
theorem dX10_takeNumber_47 : decode cX10_takeNumber 47 = .ok (.iadd, 1) := by decide +kernel
theorem dX10_takeNumber_48 : decode cX10_takeNumber 48 = .ok (.istore_n 3, 1) := by decide +kernel
theorem dX10_takeNumber_49 : decode cX10_takeNumber 49 = .ok (.iinc 4 1, 3) := by decide +kernel
theorem dX10_takeNumber_52 : decode cX10_takeNumber 52 = .ok (.goto (-28), 3) := by decide +kernel
theorem dX10_takeNumber_55 : decode cX10_takeNumber 55 = .ok (.iload_n 3, 1) := by decide +kernel
theorem dX10_takeNumber_56 : decode cX10_takeNumber 56 = .ok (.iload_n 1, 1) := by decide +kernel
theorem dX10_takeNumber_57 : decode cX10_takeNumber 57 = .ok (.iload_n 2, 1) := by decide +kernel
theorem dX10_takeNumber_58 : decode cX10_takeNumber 58 = .ok (.invokestatic 114, 3) := by decide +kernel
theorem dX10_takeNumber_61 : decode cX10_takeNumber 61 = .ok (.ifCond .ne 8, 3) := by decide +kernel
theorem dX10_takeNumber_64 : decode cX10_takeNumber 64 = .ok (.aload_n 0, 1) := by decide +kernel
theorem dX10_takeNumber_65 : decode cX10_takeNumber 65 = .ok (.iconst 4, 1) := by decide +kernel
theorem dX10_takeNumber_66 : decode cX10_takeNumber 66 = .ok (.invokevirtual 58, 3) := by decide +kernel
theorem dX10_takeNumber_69 : decode cX10_takeNumber 69 = .ok (.aload_n 0, 1) := by decide +kernel
theorem dX10_takeNumber_70 : decode cX10_takeNumber 70 = .ok (.invokevirtual 42, 3) := by decide +kernel
theorem dX10_takeNumber_73 : decode cX10_takeNumber 73 = .ok (.iload_n 3, 1) := by decide +kernel
theorem dX10_takeNumber_74 : decode cX10_takeNumber 74 = .ok (.ireturn, 1) := by decide +kernel
theorem dX10_blame_0 : decode cX10_blame 0 = .ok (.aload_n 0, 1) := by decide +kernel
theorem dX10_blame_1 : decode cX10_blame 1 = .ok (.getfield 9, 3) := by decide +kernel
theorem dX10_blame_4 : decode cX10_blame 4 = .ok (.ifCond .ne 16, 3) := by decide +kernel
theorem dX10_blame_7 : decode cX10_blame 7 = .ok (.aload_n 0, 1) := by decide +kernel
theorem dX10_blame_8 : decode cX10_blame 8 = .ok (.iload_n 1, 1) := by decide +kernel
theorem dX10_blame_9 : decode cX10_blame 9 = .ok (.putfield 9, 3) := by decide +kernel
theorem dX10_blame_12 : decode cX10_blame 12 = .ok (.aload_n 0, 1) := by decide +kernel
theorem dX10_blame_13 : decode cX10_blame 13 = .ok (.aload_n 0, 1) := by decide +kernel
theorem dX10_blame_14 : decode cX10_blame 14 = .ok (.getfield 111, 3) := by decide +kernel
theorem dX10_blame_17 : decode cX10_blame 17 = .ok (.putfield 15, 3) := by decide +kernel
theorem dX10_blame_20 : decode cX10_blame 20 = .ok (.return_, 1) := by decide +kernel
theorem dX10_isWord_0 : decode cX10_isWord 0 = .ok (.aload_n 0, 1) := by decide +kernel
theorem dX10_isWord_1 : decode cX10_isWord 1 = .ok (.getfield 45, 3) := by decide +kernel
theorem dX10_isWord_4 : decode cX10_isWord 4 = .ok (.iconst 1, 1) := by decide +kernel
theorem dX10_isWord_5 : decode cX10_isWord 5 = .ok (.if_icmp .ne 19, 3) := by decide +kernel
theorem dX10_isWord_8 : decode cX10_isWord 8 = .ok (.aload_n 0, 1) := by decide +kernel
theorem dX10_isWord_9 : decode cX10_isWord 9 = .ok (.getfield 34, 3) := by decide +kernel
theorem dX10_isWord_12 : decode cX10_isWord 12 = .ok (.aload_n 0, 1) := by decide +kernel
theorem dX10_isWord_13 : decode cX10_isWord 13 = .ok (.getfield 111, 3) := by decide +kernel
theorem dX10_isWord_16 : decode cX10_isWord 16 = .ok (.isub, 1) := by decide +kernel
theorem dX10_isWord_17 : decode cX10_isWord 17 = .ok (.aload_n 1, 1) := by decide +kernel
theorem dX10_isWord_18 : decode cX10_isWord 18 = .ok (.invokevirtual 118, 3) := by decide +kernel
theorem dX10_isWord_21 : decode cX10_isWord 21 = .ok (.if_icmp .eq 5, 3) := by decide +kernel
theorem dX10_isWord_24 : decode cX10_isWord 24 = .ok (.iconst 0, 1) := by decide +kernel
theorem dX10_isWord_25 : decode cX10_isWord 25 = .ok (.ireturn, 1) := by decide +kernel
theorem dX10_isWord_26 : decode cX10_isWord 26 = .ok (.iconst 0, 1) := by decide +kernel
theorem dX10_isWord_27 : decode cX10_isWord 27 = .ok (.istore_n 2, 1) := by decide +kernel
theorem dX10_isWord_28 : decode cX10_isWord 28 = .ok (.iload_n 2, 1) := by decide +kernel
theorem dX10_isWord_29 : decode cX10_isWord 29 = .ok (.aload_n 1, 1) := by decide +kernel
theorem dX10_isWord_30 : decode cX10_isWord 30 = .ok (.invokevirtual 118, 3) := by decide +kernel
theorem dX10_isWord_33 : decode cX10_isWord 33 = .ok (.if_icmp .ge 30, 3) := by decide +kernel
theorem dX10_isWord_36 : decode cX10_isWord 36 = .ok (.aload_n 0, 1) := by decide +kernel
theorem dX10_isWord_37 : decode cX10_isWord 37 = .ok (.getfield 18, 3) := by decide +kernel
theorem dX10_isWord_40 : decode cX10_isWord 40 = .ok (.aload_n 0, 1) := by decide +kernel
theorem dX10_isWord_41 : decode cX10_isWord 41 = .ok (.getfield 111, 3) := by decide +kernel
theorem dX10_isWord_44 : decode cX10_isWord 44 = .ok (.iload_n 2, 1) := by decide +kernel
theorem dX10_isWord_45 : decode cX10_isWord 45 = .ok (.iadd, 1) := by decide +kernel
theorem dX10_isWord_46 : decode cX10_isWord 46 = .ok (.baload, 1) := by decide +kernel
theorem dX10_isWord_47 : decode cX10_isWord 47 = .ok (.aload_n 1, 1) := by decide +kernel
theorem dX10_isWord_48 : decode cX10_isWord 48 = .ok (.iload_n 2, 1) := by decide +kernel
theorem dX10_isWord_49 : decode cX10_isWord 49 = .ok (.invokevirtual 122, 3) := by decide +kernel
theorem dX10_isWord_52 : decode cX10_isWord 52 = .ok (.if_icmp .eq 5, 3) := by decide +kernel
theorem dX10_isWord_55 : decode cX10_isWord 55 = .ok (.iconst 0, 1) := by decide +kernel
theorem dX10_isWord_56 : decode cX10_isWord 56 = .ok (.ireturn, 1) := by decide +kernel
theorem dX10_isWord_57 : decode cX10_isWord 57 = .ok (.iinc 2 1, 3) := by decide +kernel
theorem dX10_isWord_60 : decode cX10_isWord 60 = .ok (.goto (-32), 3) := by decide +kernel
theorem dX10_isWord_63 : decode cX10_isWord 63 = .ok (.iconst 1, 1) := by decide +kernel
theorem dX10_isWord_64 : decode cX10_isWord 64 = .ok (.ireturn, 1) := by decide +kernel
theorem dX10_step_0 : decode cX10_step 0 = .ok (.aload_n 0, 1) := by decide +kernel
theorem dX10_step_1 : decode cX10_step 1 = .ok (.getfield 9, 3) := by decide +kernel
theorem dX10_step_4 : decode cX10_step 4 = .ok (.ifCond .eq 4, 3) := by decide +kernel
theorem dX10_step_7 : decode cX10_step 7 = .ok (.return_, 1) := by decide +kernel
theorem dX10_step_8 : decode cX10_step 8 = .ok (.aload_n 0, 1) := by decide +kernel
theorem dX10_step_9 : decode cX10_step 9 = .ok (.aload_n 0, 1) := by decide +kernel
theorem dX10_step_10 : decode cX10_step 10 = .ok (.getfield 34, 3) := by decide +kernel
theorem dX10_step_13 : decode cX10_step 13 = .ok (.putfield 111, 3) := by decide +kernel
theorem dX10_step_16 : decode cX10_step 16 = .ok (.aload_n 0, 1) := by decide +kernel
theorem dX10_step_17 : decode cX10_step 17 = .ok (.getfield 111, 3) := by decide +kernel
theorem dX10_step_20 : decode cX10_step 20 = .ok (.aload_n 0, 1) := by decide +kernel
theorem dX10_step_21 : decode cX10_step 21 = .ok (.getfield 31, 3) := by decide +kernel
theorem dX10_step_24 : decode cX10_step 24 = .ok (.if_icmp .ge 44, 3) := by decide +kernel
theorem dX10_step_27 : decode cX10_step 27 = .ok (.aload_n 0, 1) := by decide +kernel
theorem dX10_step_28 : decode cX10_step 28 = .ok (.getfield 18, 3) := by decide +kernel
theorem dX10_step_31 : decode cX10_step 31 = .ok (.aload_n 0, 1) := by decide +kernel
theorem dX10_step_32 : decode cX10_step 32 = .ok (.getfield 111, 3) := by decide +kernel
theorem dX10_step_35 : decode cX10_step 35 = .ok (.baload, 1) := by decide +kernel
theorem dX10_step_36 : decode cX10_step 36 = .ok (.bipush 10, 2) := by decide +kernel
theorem dX10_step_38 : decode cX10_step 38 = .ok (.if_icmp .eq 17, 3) := by decide +kernel
theorem dX10_step_41 : decode cX10_step 41 = .ok (.aload_n 0, 1) := by decide +kernel
theorem dX10_step_42 : decode cX10_step 42 = .ok (.getfield 18, 3) := by decide +kernel
theorem dX10_step_45 : decode cX10_step 45 = .ok (.aload_n 0, 1) := by decide +kernel
theorem dX10_step_46 : decode cX10_step 46 = .ok (.getfield 111, 3) := by decide +kernel
theorem dX10_step_49 : decode cX10_step 49 = .ok (.baload, 1) := by decide +kernel
theorem dX10_step_50 : decode cX10_step 50 = .ok (.bipush 32, 2) := by decide +kernel
theorem dX10_step_52 : decode cX10_step 52 = .ok (.if_icmp .ne 16, 3) := by decide +kernel
theorem dX10_step_55 : decode cX10_step 55 = .ok (.aload_n 0, 1) := by decide +kernel
theorem dX10_step_56 : decode cX10_step 56 = .ok (.dup, 1) := by decide +kernel
theorem dX10_step_57 : decode cX10_step 57 = .ok (.getfield 111, 3) := by decide +kernel
theorem dX10_step_60 : decode cX10_step 60 = .ok (.iconst 1, 1) := by decide +kernel
theorem dX10_step_61 : decode cX10_step 61 = .ok (.iadd, 1) := by decide +kernel
theorem dX10_step_62 : decode cX10_step 62 = .ok (.putfield 111, 3) := by decide +kernel
theorem dX10_step_65 : decode cX10_step 65 = .ok (.goto (-49), 3) := by decide +kernel
theorem dX10_step_68 : decode cX10_step 68 = .ok (.aload_n 0, 1) := by decide +kernel
theorem dX10_step_69 : decode cX10_step 69 = .ok (.getfield 111, 3) := by decide +kernel
theorem dX10_step_72 : decode cX10_step 72 = .ok (.aload_n 0, 1) := by decide +kernel
theorem dX10_step_73 : decode cX10_step 73 = .ok (.getfield 31, 3) := by decide +kernel
theorem dX10_step_76 : decode cX10_step 76 = .ok (.if_icmp .lt 19, 3) := by decide +kernel
theorem dX10_step_79 : decode cX10_step 79 = .ok (.aload_n 0, 1) := by decide +kernel
theorem dX10_step_80 : decode cX10_step 80 = .ok (.iconst 0, 1) := by decide +kernel
theorem dX10_step_81 : decode cX10_step 81 = .ok (.putfield 45, 3) := by decide +kernel
theorem dX10_step_84 : decode cX10_step 84 = .ok (.aload_n 0, 1) := by decide +kernel
theorem dX10_step_85 : decode cX10_step 85 = .ok (.aload_n 0, 1) := by decide +kernel
theorem dX10_step_86 : decode cX10_step 86 = .ok (.getfield 31, 3) := by decide +kernel
theorem dX10_step_89 : decode cX10_step 89 = .ok (.putfield 34, 3) := by decide +kernel
theorem dX10_step_92 : decode cX10_step 92 = .ok (.goto 52, 3) := by decide +kernel
theorem dX10_step_95 : decode cX10_step 95 = .ok (.aload_n 0, 1) := by decide +kernel
theorem dX10_step_96 : decode cX10_step 96 = .ok (.getfield 18, 3) := by decide +kernel
theorem dX10_step_99 : decode cX10_step 99 = .ok (.aload_n 0, 1) := by decide +kernel
theorem dX10_step_100 : decode cX10_step 100 = .ok (.getfield 111, 3) := by decide +kernel
theorem dX10_step_103 : decode cX10_step 103 = .ok (.baload, 1) := by decide +kernel
theorem dX10_step_104 : decode cX10_step 104 = .ok (.bipush 59, 2) := by decide +kernel
theorem dX10_step_106 : decode cX10_step 106 = .ok (.if_icmp .ne 21, 3) := by decide +kernel
theorem dX10_step_109 : decode cX10_step 109 = .ok (.aload_n 0, 1) := by decide +kernel
theorem dX10_step_110 : decode cX10_step 110 = .ok (.iconst 3, 1) := by decide +kernel
theorem dX10_step_111 : decode cX10_step 111 = .ok (.putfield 45, 3) := by decide +kernel
theorem dX10_step_114 : decode cX10_step 114 = .ok (.aload_n 0, 1) := by decide +kernel
theorem dX10_step_115 : decode cX10_step 115 = .ok (.aload_n 0, 1) := by decide +kernel
theorem dX10_step_116 : decode cX10_step 116 = .ok (.getfield 111, 3) := by decide +kernel
theorem dX10_step_119 : decode cX10_step 119 = .ok (.iconst 1, 1) := by decide +kernel
theorem dX10_step_120 : decode cX10_step 120 = .ok (.iadd, 1) := by decide +kernel
theorem dX10_step_121 : decode cX10_step 121 = .ok (.putfield 34, 3) := by decide +kernel
theorem dX10_step_124 : decode cX10_step 124 = .ok (.goto 20, 3) := by decide +kernel
theorem dX10_step_127 : decode cX10_step 127 = .ok (.aload_n 0, 1) := by decide +kernel
theorem dX10_step_128 : decode cX10_step 128 = .ok (.iconst 1, 1) := by decide +kernel
theorem dX10_step_129 : decode cX10_step 129 = .ok (.putfield 45, 3) := by decide +kernel
theorem dX10_step_132 : decode cX10_step 132 = .ok (.aload_n 0, 1) := by decide +kernel
theorem dX10_step_133 : decode cX10_step 133 = .ok (.aload_n 0, 1) := by decide +kernel
theorem dX10_step_134 : decode cX10_step 134 = .ok (.bipush 97, 2) := by decide +kernel
theorem dX10_step_136 : decode cX10_step 136 = .ok (.bipush 122, 2) := by decide +kernel
theorem dX10_step_138 : decode cX10_step 138 = .ok (.invokevirtual 126, 3) := by decide +kernel
theorem dX10_step_141 : decode cX10_step 141 = .ok (.putfield 34, 3) := by decide +kernel
theorem dX10_step_144 : decode cX10_step 144 = .ok (.aload_n 0, 1) := by decide +kernel
theorem dX10_step_145 : decode cX10_step 145 = .ok (.getfield 45, 3) := by decide +kernel
theorem dX10_step_148 : decode cX10_step 148 = .ok (.iconst 1, 1) := by decide +kernel
theorem dX10_step_149 : decode cX10_step 149 = .ok (.if_icmp .ne 60, 3) := by decide +kernel
theorem dX10_step_152 : decode cX10_step 152 = .ok (.aload_n 0, 1) := by decide +kernel
theorem dX10_step_153 : decode cX10_step 153 = .ok (.getfield 34, 3) := by decide +kernel
theorem dX10_step_156 : decode cX10_step 156 = .ok (.aload_n 0, 1) := by decide +kernel
theorem dX10_step_157 : decode cX10_step 157 = .ok (.getfield 111, 3) := by decide +kernel
theorem dX10_step_160 : decode cX10_step 160 = .ok (.if_icmp .ne 49, 3) := by decide +kernel
theorem dX10_step_163 : decode cX10_step 163 = .ok (.aload_n 0, 1) := by decide +kernel
theorem dX10_step_164 : decode cX10_step 164 = .ok (.iconst 2, 1) := by decide +kernel
theorem dX10_step_165 : decode cX10_step 165 = .ok (.putfield 45, 3) := by decide +kernel
theorem dX10_step_168 : decode cX10_step 168 = .ok (.aload_n 0, 1) := by decide +kernel
theorem dX10_step_169 : decode cX10_step 169 = .ok (.aload_n 0, 1) := by decide +kernel
theorem dX10_step_170 : decode cX10_step 170 = .ok (.bipush 48, 2) := by decide +kernel
theorem dX10_step_172 : decode cX10_step 172 = .ok (.bipush 57, 2) := by decide +kernel
theorem dX10_step_174 : decode cX10_step 174 = .ok (.invokevirtual 126, 3) := by decide +kernel
theorem dX10_step_177 : decode cX10_step 177 = .ok (.putfield 34, 3) := by decide +kernel
theorem dX10_step_180 : decode cX10_step 180 = .ok (.aload_n 0, 1) := by decide +kernel
theorem dX10_step_181 : decode cX10_step 181 = .ok (.getfield 34, 3) := by decide +kernel
theorem dX10_step_184 : decode cX10_step 184 = .ok (.aload_n 0, 1) := by decide +kernel
theorem dX10_step_185 : decode cX10_step 185 = .ok (.getfield 111, 3) := by decide +kernel
theorem dX10_step_188 : decode cX10_step 188 = .ok (.if_icmp .eq 16, 3) := by decide +kernel
theorem dX10_step_191 : decode cX10_step 191 = .ok (.aload_n 0, 1) := by decide +kernel
theorem dX10_step_192 : decode cX10_step 192 = .ok (.getfield 34, 3) := by decide +kernel
theorem dX10_step_195 : decode cX10_step 195 = .ok (.aload_n 0, 1) := by decide +kernel
theorem dX10_step_196 : decode cX10_step 196 = .ok (.getfield 111, 3) := by decide +kernel
theorem dX10_step_199 : decode cX10_step 199 = .ok (.isub, 1) := by decide +kernel
theorem dX10_step_200 : decode cX10_step 200 = .ok (.iconst 3, 1) := by decide +kernel
theorem dX10_step_201 : decode cX10_step 201 = .ok (.if_icmp .le 8, 3) := by decide +kernel
theorem dX10_step_204 : decode cX10_step 204 = .ok (.aload_n 0, 1) := by decide +kernel
theorem dX10_step_205 : decode cX10_step 205 = .ok (.iconst 1, 1) := by decide +kernel
theorem dX10_step_206 : decode cX10_step 206 = .ok (.invokevirtual 58, 3) := by decide +kernel
theorem dX10_step_209 : decode cX10_step 209 = .ok (.return_, 1) := by decide +kernel
theorem dX10_endOfRun_0 : decode cX10_endOfRun 0 = .ok (.aload_n 0, 1) := by decide +kernel
theorem dX10_endOfRun_1 : decode cX10_endOfRun 1 = .ok (.getfield 111, 3) := by decide +kernel
theorem dX10_endOfRun_4 : decode cX10_endOfRun 4 = .ok (.istore_n 3, 1) := by decide +kernel
theorem dX10_endOfRun_5 : decode cX10_endOfRun 5 = .ok (.iload_n 3, 1) := by decide +kernel
theorem dX10_endOfRun_6 : decode cX10_endOfRun 6 = .ok (.aload_n 0, 1) := by decide +kernel
theorem dX10_endOfRun_7 : decode cX10_endOfRun 7 = .ok (.getfield 31, 3) := by decide +kernel
theorem dX10_endOfRun_10 : decode cX10_endOfRun 10 = .ok (.if_icmp .ge 29, 3) := by decide +kernel
theorem dX10_endOfRun_13 : decode cX10_endOfRun 13 = .ok (.aload_n 0, 1) := by decide +kernel
theorem dX10_endOfRun_14 : decode cX10_endOfRun 14 = .ok (.getfield 18, 3) := by decide +kernel
theorem dX10_endOfRun_17 : decode cX10_endOfRun 17 = .ok (.iload_n 3, 1) := by decide +kernel
theorem dX10_endOfRun_18 : decode cX10_endOfRun 18 = .ok (.baload, 1) := by decide +kernel
theorem dX10_endOfRun_19 : decode cX10_endOfRun 19 = .ok (.iload_n 1, 1) := by decide +kernel
theorem dX10_endOfRun_20 : decode cX10_endOfRun 20 = .ok (.if_icmp .lt 19, 3) := by decide +kernel
theorem dX10_endOfRun_23 : decode cX10_endOfRun 23 = .ok (.aload_n 0, 1) := by decide +kernel
theorem dX10_endOfRun_24 : decode cX10_endOfRun 24 = .ok (.getfield 18, 3) := by decide +kernel
theorem dX10_endOfRun_27 : decode cX10_endOfRun 27 = .ok (.iload_n 3, 1) := by decide +kernel
theorem dX10_endOfRun_28 : decode cX10_endOfRun 28 = .ok (.baload, 1) := by decide +kernel
theorem dX10_endOfRun_29 : decode cX10_endOfRun 29 = .ok (.iload_n 2, 1) := by decide +kernel
theorem dX10_endOfRun_30 : decode cX10_endOfRun 30 = .ok (.if_icmp .gt 9, 3) := by decide +kernel
theorem dX10_endOfRun_33 : decode cX10_endOfRun 33 = .ok (.iinc 3 1, 3) := by decide +kernel
theorem dX10_endOfRun_36 : decode cX10_endOfRun 36 = .ok (.goto (-31), 3) := by decide +kernel
theorem dX10_endOfRun_39 : decode cX10_endOfRun 39 = .ok (.iload_n 3, 1) := by decide +kernel
theorem dX10_endOfRun_40 : decode cX10_endOfRun 40 = .ok (.ireturn, 1) := by decide +kernel
theorem dX11_init_0 : decode cX11_init 0 = .ok (.aload_n 0, 1) := by decide +kernel
theorem dX11_init_1 : decode cX11_init 1 = .ok (.invokespecial 1, 3) := by decide +kernel
theorem dX11_init_4 : decode cX11_init 4 = .ok (.aload_n 0, 1) := by decide +kernel
theorem dX11_init_5 : decode cX11_init 5 = .ok (.new 7, 3) := by decide +kernel
theorem dX11_init_8 : decode cX11_init 8 = .ok (.dup, 1) := by decide +kernel
theorem dX11_init_9 : decode cX11_init 9 = .ok (.invokespecial 9, 3) := by decide +kernel
theorem dX11_init_12 : decode cX11_init 12 = .ok (.putfield 10, 3) := by decide +kernel
theorem dX11_init_15 : decode cX11_init 15 = .ok (.aload_n 0, 1) := by decide +kernel
theorem dX11_init_16 : decode cX11_init 16 = .ok (.new 16, 3) := by decide +kernel
theorem dX11_init_19 : decode cX11_init 19 = .ok (.dup, 1) := by decide +kernel
theorem dX11_init_20 : decode cX11_init 20 = .ok (.invokespecial 18, 3) := by decide +kernel
theorem dX11_init_23 : decode cX11_init 23 = .ok (.putfield 19, 3) := by decide +kernel
theorem dX11_init_26 : decode cX11_init 26 = .ok (.aload_n 0, 1) := by decide +kernel
theorem dX11_init_27 : decode cX11_init 27 = .ok (.new 23, 3) := by decide +kernel
theorem dX11_init_30 : decode cX11_init 30 = .ok (.dup, 1) := by decide +kernel
theorem dX11_init_31 : decode cX11_init 31 = .ok (.invokespecial 25, 3) := by decide +kernel
theorem dX11_init_34 : decode cX11_init 34 = .ok (.putfield 26, 3) := by decide +kernel
theorem dX11_init_37 : decode cX11_init 37 = .ok (.aload_n 0, 1) := by decide +kernel
theorem dX11_init_38 : decode cX11_init 38 = .ok (.new 30, 3) := by decide +kernel
theorem dX11_init_41 : decode cX11_init 41 = .ok (.dup, 1) := by decide +kernel
theorem dX11_init_42 : decode cX11_init 42 = .ok (.invokespecial 32, 3) := by decide +kernel
theorem dX11_init_45 : decode cX11_init 45 = .ok (.putfield 33, 3) := by decide +kernel
theorem dX11_init_48 : decode cX11_init 48 = .ok (.aload_n 0, 1) := by decide +kernel
theorem dX11_init_49 : decode cX11_init 49 = .ok (.new 37, 3) := by decide +kernel
theorem dX11_init_52 : decode cX11_init 52 = .ok (.dup, 1) := by decide +kernel
theorem dX11_init_53 : decode cX11_init 53 = .ok (.invokespecial 39, 3) := by decide +kernel
theorem dX11_init_56 : decode cX11_init 56 = .ok (.putfield 40, 3) := by decide +kernel
theorem dX11_init_59 : decode cX11_init 59 = .ok (.aload_n 0, 1) := by decide +kernel
theorem dX11_init_60 : decode cX11_init 60 = .ok (.new 44, 3) := by decide +kernel
theorem dX11_init_63 : decode cX11_init 63 = .ok (.dup, 1) := by decide +kernel
theorem dX11_init_64 : decode cX11_init 64 = .ok (.invokespecial 46, 3) := by decide +kernel
theorem dX11_init_67 : decode cX11_init 67 = .ok (.putfield 47, 3) := by decide +kernel
theorem dX11_init_70 : decode cX11_init 70 = .ok (.aload_n 0, 1) := by decide +kernel
theorem dX11_init_71 : decode cX11_init 71 = .ok (.new 51, 3) := by decide +kernel
theorem dX11_init_74 : decode cX11_init 74 = .ok (.dup, 1) := by decide +kernel
theorem dX11_init_75 : decode cX11_init 75 = .ok (.invokespecial 53, 3) := by decide +kernel
theorem dX11_init_78 : decode cX11_init 78 = .ok (.putfield 54, 3) := by decide +kernel
theorem dX11_init_81 : decode cX11_init 81 = .ok (.aload_n 0, 1) := by decide +kernel
theorem dX11_init_82 : decode cX11_init 82 = .ok (.new 58, 3) := by decide +kernel
theorem dX11_init_85 : decode cX11_init 85 = .ok (.dup, 1) := by decide +kernel
theorem dX11_init_86 : decode cX11_init 86 = .ok (.invokespecial 60, 3) := by decide +kernel
theorem dX11_init_89 : decode cX11_init 89 = .ok (.putfield 61, 3) := by decide +kernel
theorem dX11_init_92 : decode cX11_init 92 = .ok (.aload_n 0, 1) := by decide +kernel
theorem dX11_init_93 : decode cX11_init 93 = .ok (.new 65, 3) := by decide +kernel
theorem dX11_init_96 : decode cX11_init 96 = .ok (.dup, 1) := by decide +kernel
theorem dX11_init_97 : decode cX11_init 97 = .ok (.invokespecial 67, 3) := by decide +kernel
theorem dX11_init_100 : decode cX11_init 100 = .ok (.putfield 68, 3) := by decide +kernel
theorem dX11_init_103 : decode cX11_init 103 = .ok (.aload_n 0, 1) := by decide +kernel
theorem dX11_init_104 : decode cX11_init 104 = .ok (.new 72, 3) := by decide +kernel
theorem dX11_init_107 : decode cX11_init 107 = .ok (.dup, 1) := by decide +kernel
theorem dX11_init_108 : decode cX11_init 108 = .ok (.invokespecial 74, 3) := by decide +kernel
theorem dX11_init_111 : decode cX11_init 111 = .ok (.putfield 75, 3) := by decide +kernel
theorem dX11_init_114 : decode cX11_init 114 = .ok (.aload_n 0, 1) := by decide +kernel
theorem dX11_init_115 : decode cX11_init 115 = .ok (.new 79, 3) := by decide +kernel
theorem dX11_init_118 : decode cX11_init 118 = .ok (.dup, 1) := by decide +kernel
theorem dX11_init_119 : decode cX11_init 119 = .ok (.invokespecial 81, 3) := by decide +kernel
theorem dX11_init_122 : decode cX11_init 122 = .ok (.putfield 82, 3) := by decide +kernel
theorem dX11_init_125 : decode cX11_init 125 = .ok (.aload_n 0, 1) := by decide +kernel
theorem dX11_init_126 : decode cX11_init 126 = .ok (.new 79, 3) := by decide +kernel
theorem dX11_init_129 : decode cX11_init 129 = .ok (.dup, 1) := by decide +kernel
theorem dX11_init_130 : decode cX11_init 130 = .ok (.invokespecial 81, 3) := by decide +kernel
theorem dX11_init_133 : decode cX11_init 133 = .ok (.putfield 86, 3) := by decide +kernel
theorem dX11_init_136 : decode cX11_init 136 = .ok (.aload_n 0, 1) := by decide +kernel
theorem dX11_init_137 : decode cX11_init 137 = .ok (.iconst 2, 1) := by decide +kernel
theorem dX11_init_138 : decode cX11_init 138 = .ok (.putfield 89, 3) := by decide +kernel
theorem dX11_init_141 : decode cX11_init 141 = .ok (.aload_n 0, 1) := by decide +kernel
theorem dX11_init_142 : decode cX11_init 142 = .ok (.iconst 0, 1) := by decide +kernel
theorem dX11_init_143 : decode cX11_init 143 = .ok (.putfield 93, 3) := by decide +kernel
theorem dX11_init_146 : decode cX11_init 146 = .ok (.return_, 1) := by decide +kernel
theorem dX11_status_0 : decode cX11_status 0 = .ok (.aload_n 0, 1) := by decide +kernel
theorem dX11_status_1 : decode cX11_status 1 = .ok (.getfield 93, 3) := by decide +kernel
theorem dX11_status_4 : decode cX11_status 4 = .ok (.ireturn, 1) := by decide +kernel
theorem dX11_board_0 : decode cX11_board 0 = .ok (.iload_n 1, 1) := by decide +kernel
theorem dX11_board_1 : decode cX11_board 1 = .ok (.iconst 0, 1) := by decide +kernel
theorem dX11_board_2 : decode cX11_board 2 = .ok (.bipush 7, 2) := by decide +kernel
theorem dX11_board_4 : decode cX11_board 4 = .ok (.invokestatic 96, 3) := by decide +kernel
theorem dX11_board_7 : decode cX11_board 7 = .ok (.ifCond .eq 33, 3) := by decide +kernel
theorem dX11_board_10 : decode cX11_board 10 = .ok (.iload_n 2, 1) := by decide +kernel
theorem dX11_board_11 : decode cX11_board 11 = .ok (.iconst 0, 1) := by decide +kernel
theorem dX11_board_12 : decode cX11_board 12 = .ok (.iconst 3, 1) := by decide +kernel
theorem dX11_board_13 : decode cX11_board 13 = .ok (.invokestatic 96, 3) := by decide +kernel
theorem dX11_board_16 : decode cX11_board 16 = .ok (.ifCond .eq 24, 3) := by decide +kernel
theorem dX11_board_19 : decode cX11_board 19 = .ok (.iload_n 3, 1) := by decide +kernel
theorem dX11_board_20 : decode cX11_board 20 = .ok (.iconst 0, 1) := by decide +kernel
theorem dX11_board_21 : decode cX11_board 21 = .ok (.bipush 15, 2) := by decide +kernel
theorem dX11_board_23 : decode cX11_board 23 = .ok (.invokestatic 96, 3) := by decide +kernel
theorem dX11_board_26 : decode cX11_board 26 = .ok (.ifCond .eq 14, 3) := by decide +kernel
theorem dX11_board_29 : decode cX11_board 29 = .ok (.iload 4, 2) := by decide +kernel
theorem dX11_board_31 : decode cX11_board 31 = .ok (.iconst 0, 1) := by decide +kernel
theorem dX11_board_32 : decode cX11_board 32 = .ok (.bipush 99, 2) := by decide +kernel
theorem dX11_board_34 : decode cX11_board 34 = .ok (.invokestatic 96, 3) := by decide +kernel
theorem dX11_board_37 : decode cX11_board 37 = .ok (.ifCond .ne 9, 3) := by decide +kernel
theorem dX11_board_40 : decode cX11_board 40 = .ok (.aload_n 0, 1) := by decide +kernel
theorem dX11_board_41 : decode cX11_board 41 = .ok (.iconst 2, 1) := by decide +kernel
theorem dX11_board_42 : decode cX11_board 42 = .ok (.invokevirtual 100, 3) := by decide +kernel
theorem dX11_board_45 : decode cX11_board 45 = .ok (.ireturn, 1) := by decide +kernel
theorem dX11_board_46 : decode cX11_board 46 = .ok (.aload_n 0, 1) := by decide +kernel
theorem dX11_board_47 : decode cX11_board 47 = .ok (.getfield 10, 3) := by decide +kernel
theorem dX11_board_50 : decode cX11_board 50 = .ok (.getfield 104, 3) := by decide +kernel
theorem dX11_board_53 : decode cX11_board 53 = .ok (.bipush 24, 2) := by decide +kernel
theorem dX11_board_55 : decode cX11_board 55 = .ok (.if_icmp .lt 9, 3) := by decide +kernel
theorem dX11_board_58 : decode cX11_board 58 = .ok (.aload_n 0, 1) := by decide +kernel
theorem dX11_board_59 : decode cX11_board 59 = .ok (.iconst 3, 1) := by decide +kernel
theorem dX11_board_60 : decode cX11_board 60 = .ok (.invokevirtual 100, 3) := by decide +kernel
theorem dX11_board_63 : decode cX11_board 63 = .ok (.ireturn, 1) := by decide +kernel
theorem dX11_board_64 : decode cX11_board 64 = .ok (.aload_n 0, 1) := by decide +kernel
theorem dX11_board_65 : decode cX11_board 65 = .ok (.aload_n 0, 1) := by decide +kernel
theorem dX11_board_66 : decode cX11_board 66 = .ok (.getfield 10, 3) := by decide +kernel
theorem dX11_board_69 : decode cX11_board 69 = .ok (.iload_n 1, 1) := by decide +kernel
theorem dX11_board_70 : decode cX11_board 70 = .ok (.iload_n 2, 1) := by decide +kernel
theorem dX11_board_71 : decode cX11_board 71 = .ok (.iload_n 3, 1) := by decide +kernel
theorem dX11_board_72 : decode cX11_board 72 = .ok (.iload 4, 2) := by decide +kernel
theorem dX11_board_74 : decode cX11_board 74 = .ok (.iload 5, 2) := by decide +kernel
theorem dX11_board_76 : decode cX11_board 76 = .ok (.invokevirtual 107, 3) := by decide +kernel
theorem dX11_board_79 : decode cX11_board 79 = .ok (.invokevirtual 111, 3) := by decide +kernel
theorem dX11_board_82 : decode cX11_board 82 = .ok (.ireturn, 1) := by decide +kernel
theorem dX11_judge_0 : decode cX11_judge 0 = .ok (.iload_n 1, 1) := by decide +kernel
theorem dX11_judge_1 : decode cX11_judge 1 = .ok (.iconst 0, 1) := by decide +kernel
theorem dX11_judge_2 : decode cX11_judge 2 = .ok (.sipush 255, 3) := by decide +kernel
theorem dX11_judge_5 : decode cX11_judge 5 = .ok (.invokestatic 96, 3) := by decide +kernel
theorem dX11_judge_8 : decode cX11_judge 8 = .ok (.ifCond .eq 23, 3) := by decide +kernel
theorem dX11_judge_11 : decode cX11_judge 11 = .ok (.iload_n 2, 1) := by decide +kernel
theorem dX11_judge_12 : decode cX11_judge 12 = .ok (.iconst (-1), 1) := by decide +kernel
theorem dX11_judge_13 : decode cX11_judge 13 = .ok (.bipush 15, 2) := by decide +kernel
theorem dX11_judge_15 : decode cX11_judge 15 = .ok (.invokestatic 96, 3) := by decide +kernel
theorem dX11_judge_18 : decode cX11_judge 18 = .ok (.ifCond .eq 13, 3) := by decide +kernel
theorem dX11_judge_21 : decode cX11_judge 21 = .ok (.iload_n 3, 1) := by decide +kernel
theorem dX11_judge_22 : decode cX11_judge 22 = .ok (.iconst 0, 1) := by decide +kernel
theorem dX11_judge_23 : decode cX11_judge 23 = .ok (.bipush 24, 2) := by decide +kernel
theorem dX11_judge_25 : decode cX11_judge 25 = .ok (.invokestatic 96, 3) := by decide +kernel
theorem dX11_judge_28 : decode cX11_judge 28 = .ok (.ifCond .ne 9, 3) := by decide +kernel
theorem dX11_judge_31 : decode cX11_judge 31 = .ok (.aload_n 0, 1) := by decide +kernel
theorem dX11_judge_32 : decode cX11_judge 32 = .ok (.iconst 2, 1) := by decide +kernel
theorem dX11_judge_33 : decode cX11_judge 33 = .ok (.invokevirtual 100, 3) := by decide +kernel
theorem dX11_judge_36 : decode cX11_judge 36 = .ok (.ireturn, 1) := by decide +kernel
theorem dX11_judge_37 : decode cX11_judge 37 = .ok (.aload_n 0, 1) := by decide +kernel
theorem dX11_judge_38 : decode cX11_judge 38 = .ok (.getfield 19, 3) := by decide +kernel
theorem dX11_judge_41 : decode cX11_judge 41 = .ok (.getfield 114, 3) := by decide +kernel
theorem dX11_judge_44 : decode cX11_judge 44 = .ok (.bipush 12, 2) := by decide +kernel
theorem dX11_judge_46 : decode cX11_judge 46 = .ok (.if_icmp .lt 9, 3) := by decide +kernel
theorem dX11_judge_49 : decode cX11_judge 49 = .ok (.aload_n 0, 1) := by decide +kernel
theorem dX11_judge_50 : decode cX11_judge 50 = .ok (.iconst 3, 1) := by decide +kernel
theorem dX11_judge_51 : decode cX11_judge 51 = .ok (.invokevirtual 100, 3) := by decide +kernel
theorem dX11_judge_54 : decode cX11_judge 54 = .ok (.ireturn, 1) := by decide +kernel
theorem dX11_judge_55 : decode cX11_judge 55 = .ok (.aload_n 0, 1) := by decide +kernel
theorem dX11_judge_56 : decode cX11_judge 56 = .ok (.aload_n 0, 1) := by decide +kernel
theorem dX11_judge_57 : decode cX11_judge 57 = .ok (.getfield 19, 3) := by decide +kernel
theorem dX11_judge_60 : decode cX11_judge 60 = .ok (.iload_n 1, 1) := by decide +kernel
theorem dX11_judge_61 : decode cX11_judge 61 = .ok (.iload_n 2, 1) := by decide +kernel
theorem dX11_judge_62 : decode cX11_judge 62 = .ok (.iload_n 3, 1) := by decide +kernel
theorem dX11_judge_63 : decode cX11_judge 63 = .ok (.invokevirtual 115, 3) := by decide +kernel
theorem dX11_judge_66 : decode cX11_judge 66 = .ok (.invokevirtual 111, 3) := by decide +kernel
theorem dX11_judge_69 : decode cX11_judge 69 = .ok (.ireturn, 1) := by decide +kernel
theorem dX11_told_0 : decode cX11_told 0 = .ok (.aload_n 0, 1) := by decide +kernel
theorem dX11_told_1 : decode cX11_told 1 = .ok (.getfield 10, 3) := by decide +kernel
theorem dX11_told_4 : decode cX11_told 4 = .ok (.iload_n 1, 1) := by decide +kernel
theorem dX11_told_5 : decode cX11_told 5 = .ok (.invokevirtual 118, 3) := by decide +kernel
theorem dX11_told_8 : decode cX11_told 8 = .ok (.ifCond .ne 9, 3) := by decide +kernel
theorem dX11_told_11 : decode cX11_told 11 = .ok (.aload_n 0, 1) := by decide +kernel
theorem dX11_told_12 : decode cX11_told 12 = .ok (.iconst 1, 1) := by decide +kernel
theorem dX11_told_13 : decode cX11_told 13 = .ok (.invokevirtual 100, 3) := by decide +kernel
theorem dX11_told_16 : decode cX11_told 16 = .ok (.ireturn, 1) := by decide +kernel
theorem dX11_told_17 : decode cX11_told 17 = .ok (.iload_n 2, 1) := by decide +kernel
theorem dX11_told_18 : decode cX11_told 18 = .ok (.iconst 0, 1) := by decide +kernel
theorem dX11_told_19 : decode cX11_told 19 = .ok (.iconst 5, 1) := by decide +kernel
theorem dX11_told_20 : decode cX11_told 20 = .ok (.invokestatic 96, 3) := by decide +kernel
theorem dX11_told_23 : decode cX11_told 23 = .ok (.ifCond .ne 9, 3) := by decide +kernel
theorem dX11_told_26 : decode cX11_told 26 = .ok (.aload_n 0, 1) := by decide +kernel
theorem dX11_told_27 : decode cX11_told 27 = .ok (.iconst 2, 1) := by decide +kernel
theorem dX11_told_28 : decode cX11_told 28 = .ok (.invokevirtual 100, 3) := by decide +kernel
theorem dX11_told_31 : decode cX11_told 31 = .ok (.ireturn, 1) := by decide +kernel
theorem dX11_told_32 : decode cX11_told 32 = .ok (.iload_n 2, 1) := by decide +kernel
theorem dX11_told_33 : decode cX11_told 33 = .ok (.iconst 5, 1) := by decide +kernel
theorem dX11_told_34 : decode cX11_told 34 = .ok (.if_icmp .ne 23, 3) := by decide +kernel
theorem dX11_told_37 : decode cX11_told 37 = .ok (.aload_n 0, 1) := by decide +kernel
theorem dX11_told_38 : decode cX11_told 38 = .ok (.aload_n 0, 1) := by decide +kernel
theorem dX11_told_39 : decode cX11_told 39 = .ok (.getfield 19, 3) := by decide +kernel
theorem dX11_told_42 : decode cX11_told 42 = .ok (.aload_n 0, 1) := by decide +kernel
theorem dX11_told_43 : decode cX11_told 43 = .ok (.getfield 10, 3) := by decide +kernel
theorem dX11_told_46 : decode cX11_told 46 = .ok (.iload_n 1, 1) := by decide +kernel
theorem dX11_told_47 : decode cX11_told 47 = .ok (.invokevirtual 122, 3) := by decide +kernel
theorem dX11_told_50 : decode cX11_told 50 = .ok (.invokestatic 126, 3) := by decide +kernel
theorem dX11_told_53 : decode cX11_told 53 = .ok (.invokevirtual 111, 3) := by decide +kernel
theorem dX11_told_56 : decode cX11_told 56 = .ok (.ireturn, 1) := by decide +kernel
theorem dX11_told_57 : decode cX11_told 57 = .ok (.aload_n 0, 1) := by decide +kernel
theorem dX11_told_58 : decode cX11_told 58 = .ok (.aload_n 0, 1) := by decide +kernel
theorem dX11_told_59 : decode cX11_told 59 = .ok (.getfield 10, 3) := by decide +kernel
theorem dX11_told_62 : decode cX11_told 62 = .ok (.iload_n 1, 1) := by decide +kernel
theorem dX11_told_63 : decode cX11_told 63 = .ok (.iload_n 2, 1) := by decide +kernel
theorem dX11_told_64 : decode cX11_told 64 = .ok (.invokevirtual 131, 3) := by decide +kernel
theorem dX11_told_67 : decode cX11_told 67 = .ok (.invokevirtual 111, 3) := by decide +kernel
theorem dX11_told_70 : decode cX11_told 70 = .ok (.ireturn, 1) := by decide +kernel
theorem dX11_may_0 : decode cX11_may 0 = .ok (.aload_n 0, 1) := by decide +kernel
theorem dX11_may_1 : decode cX11_may 1 = .ok (.getfield 19, 3) := by decide +kernel
theorem dX11_may_4 : decode cX11_may 4 = .ok (.iload_n 1, 1) := by decide +kernel
theorem dX11_may_5 : decode cX11_may 5 = .ok (.invokevirtual 135, 3) := by decide +kernel
theorem dX11_may_8 : decode cX11_may 8 = .ok (.ifCond .eq 14, 3) := by decide +kernel
theorem dX11_may_11 : decode cX11_may 11 = .ok (.aload_n 0, 1) := by decide +kernel
theorem dX11_may_12 : decode cX11_may 12 = .ok (.getfield 10, 3) := by decide +kernel
theorem dX11_may_15 : decode cX11_may 15 = .ok (.iload_n 2, 1) := by decide +kernel
theorem dX11_may_16 : decode cX11_may 16 = .ok (.invokevirtual 118, 3) := by decide +kernel
theorem dX11_may_19 : decode cX11_may 19 = .ok (.ifCond .ne 9, 3) := by decide +kernel
theorem dX11_may_22 : decode cX11_may 22 = .ok (.aload_n 0, 1) := by decide +kernel
theorem dX11_may_23 : decode cX11_may 23 = .ok (.iconst 1, 1) := by decide +kernel
theorem dX11_may_24 : decode cX11_may 24 = .ok (.invokevirtual 100, 3) := by decide +kernel
theorem dX11_may_27 : decode cX11_may 27 = .ok (.ireturn, 1) := by decide +kernel
theorem dX11_may_28 : decode cX11_may 28 = .ok (.aload_n 0, 1) := by decide +kernel
theorem dX11_may_29 : decode cX11_may 29 = .ok (.aload_n 0, 1) := by decide +kernel
theorem dX11_may_30 : decode cX11_may 30 = .ok (.getfield 19, 3) := by decide +kernel
theorem dX11_may_33 : decode cX11_may 33 = .ok (.iload_n 1, 1) := by decide +kernel
theorem dX11_may_34 : decode cX11_may 34 = .ok (.aload_n 0, 1) := by decide +kernel
theorem dX11_may_35 : decode cX11_may 35 = .ok (.getfield 10, 3) := by decide +kernel
theorem dX11_may_38 : decode cX11_may 38 = .ok (.iload_n 2, 1) := by decide +kernel
theorem dX11_may_39 : decode cX11_may 39 = .ok (.invokevirtual 136, 3) := by decide +kernel
theorem dX11_may_42 : decode cX11_may 42 = .ok (.ifCond .eq 7, 3) := by decide +kernel
theorem dX11_may_45 : decode cX11_may 45 = .ok (.iconst 1, 1) := by decide +kernel
theorem dX11_may_46 : decode cX11_may 46 = .ok (.goto 4, 3) := by decide +kernel
theorem dX11_may_49 : decode cX11_may 49 = .ok (.iconst 0, 1) := by decide +kernel
theorem dX11_may_50 : decode cX11_may 50 = .ok (.invokevirtual 111, 3) := by decide +kernel
theorem dX11_may_53 : decode cX11_may 53 = .ok (.ireturn, 1) := by decide +kernel
theorem dX11_looks_0 : decode cX11_looks 0 = .ok (.iload_n 1, 1) := by decide +kernel
theorem dX11_looks_1 : decode cX11_looks 1 = .ok (.iconst 1, 1) := by decide +kernel
theorem dX11_looks_2 : decode cX11_looks 2 = .ok (.iconst 4, 1) := by decide +kernel
theorem dX11_looks_3 : decode cX11_looks 3 = .ok (.invokestatic 96, 3) := by decide +kernel
theorem dX11_looks_6 : decode cX11_looks 6 = .ok (.ifCond .ne 9, 3) := by decide +kernel
theorem dX11_looks_9 : decode cX11_looks 9 = .ok (.aload_n 0, 1) := by decide +kernel
theorem dX11_looks_10 : decode cX11_looks 10 = .ok (.iconst 2, 1) := by decide +kernel
theorem dX11_looks_11 : decode cX11_looks 11 = .ok (.invokevirtual 140, 3) := by decide +kernel
theorem dX11_looks_14 : decode cX11_looks 14 = .ok (.ireturn, 1) := by decide +kernel
theorem dX11_looks_15 : decode cX11_looks 15 = .ok (.aload_n 0, 1) := by decide +kernel
theorem dX11_looks_16 : decode cX11_looks 16 = .ok (.iload_n 1, 1) := by decide +kernel
theorem dX11_looks_17 : decode cX11_looks 17 = .ok (.putfield 89, 3) := by decide +kernel
theorem dX11_looks_20 : decode cX11_looks 20 = .ok (.aload_n 0, 1) := by decide +kernel
theorem dX11_looks_21 : decode cX11_looks 21 = .ok (.invokevirtual 143, 3) := by decide +kernel
theorem dX11_looks_24 : decode cX11_looks 24 = .ok (.ireturn, 1) := by decide +kernel
theorem dX11_plan_0 : decode cX11_plan 0 = .ok (.aload_n 0, 1) := by decide +kernel
theorem dX11_plan_1 : decode cX11_plan 1 = .ok (.getfield 26, 3) := by decide +kernel
theorem dX11_plan_4 : decode cX11_plan 4 = .ok (.aload_n 0, 1) := by decide +kernel
theorem dX11_plan_5 : decode cX11_plan 5 = .ok (.getfield 10, 3) := by decide +kernel
theorem dX11_plan_8 : decode cX11_plan 8 = .ok (.aload_n 0, 1) := by decide +kernel
theorem dX11_plan_9 : decode cX11_plan 9 = .ok (.getfield 19, 3) := by decide +kernel
theorem dX11_plan_12 : decode cX11_plan 12 = .ok (.aload_n 0, 1) := by decide +kernel
theorem dX11_plan_13 : decode cX11_plan 13 = .ok (.getfield 89, 3) := by decide +kernel
theorem dX11_plan_16 : decode cX11_plan 16 = .ok (.invokevirtual 147, 3) := by decide +kernel
theorem dX11_plan_19 : decode cX11_plan 19 = .ok (.aload_n 0, 1) := by decide +kernel
theorem dX11_plan_20 : decode cX11_plan 20 = .ok (.getfield 26, 3) := by decide +kernel
theorem dX11_plan_23 : decode cX11_plan 23 = .ok (.invokevirtual 151, 3) := by decide +kernel
theorem dX11_plan_26 : decode cX11_plan 26 = .ok (.aload_n 0, 1) := by decide +kernel
theorem dX11_plan_27 : decode cX11_plan 27 = .ok (.getfield 26, 3) := by decide +kernel
theorem dX11_plan_30 : decode cX11_plan 30 = .ok (.invokevirtual 154, 3) := by decide +kernel
theorem dX11_plan_33 : decode cX11_plan 33 = .ok (.aload_n 0, 1) := by decide +kernel
theorem dX11_plan_34 : decode cX11_plan 34 = .ok (.getfield 26, 3) := by decide +kernel
theorem dX11_plan_37 : decode cX11_plan 37 = .ok (.invokevirtual 157, 3) := by decide +kernel
theorem dX11_plan_40 : decode cX11_plan 40 = .ok (.aload_n 0, 1) := by decide +kernel
theorem dX11_plan_41 : decode cX11_plan 41 = .ok (.aload_n 0, 1) := by decide +kernel
theorem dX11_plan_42 : decode cX11_plan 42 = .ok (.getfield 26, 3) := by decide +kernel
theorem dX11_plan_45 : decode cX11_plan 45 = .ok (.invokevirtual 160, 3) := by decide +kernel
theorem dX11_plan_48 : decode cX11_plan 48 = .ok (.invokevirtual 111, 3) := by decide +kernel
theorem dX11_plan_51 : decode cX11_plan 51 = .ok (.ireturn, 1) := by decide +kernel
theorem dX11_sees_0 : decode cX11_sees 0 = .ok (.aload_n 0, 1) := by decide +kernel
theorem dX11_sees_1 : decode cX11_sees 1 = .ok (.getfield 26, 3) := by decide +kernel
theorem dX11_sees_4 : decode cX11_sees 4 = .ok (.getfield 164, 3) := by decide +kernel
theorem dX11_sees_7 : decode cX11_sees 7 = .ok (.ifCond .ne 9, 3) := by decide +kernel
theorem dX11_sees_10 : decode cX11_sees 10 = .ok (.aload_n 0, 1) := by decide +kernel
theorem dX11_sees_11 : decode cX11_sees 11 = .ok (.iconst 4, 1) := by decide +kernel
theorem dX11_sees_12 : decode cX11_sees 12 = .ok (.invokevirtual 100, 3) := by decide +kernel
theorem dX11_sees_15 : decode cX11_sees 15 = .ok (.ireturn, 1) := by decide +kernel
theorem dX11_sees_16 : decode cX11_sees 16 = .ok (.aload_n 0, 1) := by decide +kernel
theorem dX11_sees_17 : decode cX11_sees 17 = .ok (.getfield 26, 3) := by decide +kernel
theorem dX11_sees_20 : decode cX11_sees 20 = .ok (.iload_n 1, 1) := by decide +kernel
theorem dX11_sees_21 : decode cX11_sees 21 = .ok (.invokevirtual 168, 3) := by decide +kernel
theorem dX11_sees_24 : decode cX11_sees 24 = .ok (.ifCond .eq 14, 3) := by decide +kernel
theorem dX11_sees_27 : decode cX11_sees 27 = .ok (.aload_n 0, 1) := by decide +kernel
theorem dX11_sees_28 : decode cX11_sees 28 = .ok (.getfield 26, 3) := by decide +kernel
theorem dX11_sees_31 : decode cX11_sees 31 = .ok (.iload_n 2, 1) := by decide +kernel
theorem dX11_sees_32 : decode cX11_sees 32 = .ok (.invokevirtual 171, 3) := by decide +kernel
theorem dX11_sees_35 : decode cX11_sees 35 = .ok (.ifCond .ne 9, 3) := by decide +kernel
theorem dX11_sees_38 : decode cX11_sees 38 = .ok (.aload_n 0, 1) := by decide +kernel
theorem dX11_sees_39 : decode cX11_sees 39 = .ok (.iconst 1, 1) := by decide +kernel
theorem dX11_sees_40 : decode cX11_sees 40 = .ok (.invokevirtual 100, 3) := by decide +kernel
theorem dX11_sees_43 : decode cX11_sees 43 = .ok (.ireturn, 1) := by decide +kernel
theorem dX11_sees_44 : decode cX11_sees 44 = .ok (.aload_n 0, 1) := by decide +kernel
theorem dX11_sees_45 : decode cX11_sees 45 = .ok (.aload_n 0, 1) := by decide +kernel
theorem dX11_sees_46 : decode cX11_sees 46 = .ok (.getfield 26, 3) := by decide +kernel
theorem dX11_sees_49 : decode cX11_sees 49 = .ok (.getfield 174, 3) := by decide +kernel
theorem dX11_sees_52 : decode cX11_sees 52 = .ok (.iload_n 2, 1) := by decide +kernel
theorem dX11_sees_53 : decode cX11_sees 53 = .ok (.iaload, 1) := by decide +kernel
theorem dX11_sees_54 : decode cX11_sees 54 = .ok (.iload_n 1, 1) := by decide +kernel
theorem dX11_sees_55 : decode cX11_sees 55 = .ok (.ishr, 1) := by decide +kernel
theorem dX11_sees_56 : decode cX11_sees 56 = .ok (.iconst 1, 1) := by decide +kernel
theorem dX11_sees_57 : decode cX11_sees 57 = .ok (.iand, 1) := by decide +kernel
theorem dX11_sees_58 : decode cX11_sees 58 = .ok (.invokevirtual 111, 3) := by decide +kernel
theorem dX11_sees_61 : decode cX11_sees 61 = .ok (.ireturn, 1) := by decide +kernel
theorem dX11_holds_0 : decode cX11_holds 0 = .ok (.aload_n 0, 1) := by decide +kernel
theorem dX11_holds_1 : decode cX11_holds 1 = .ok (.getfield 26, 3) := by decide +kernel
theorem dX11_holds_4 : decode cX11_holds 4 = .ok (.getfield 164, 3) := by decide +kernel
theorem dX11_holds_7 : decode cX11_holds 7 = .ok (.ifCond .ne 9, 3) := by decide +kernel
theorem dX11_holds_10 : decode cX11_holds 10 = .ok (.aload_n 0, 1) := by decide +kernel
theorem dX11_holds_11 : decode cX11_holds 11 = .ok (.iconst 4, 1) := by decide +kernel
theorem dX11_holds_12 : decode cX11_holds 12 = .ok (.invokevirtual 100, 3) := by decide +kernel
theorem dX11_holds_15 : decode cX11_holds 15 = .ok (.ireturn, 1) := by decide +kernel
theorem dX11_holds_16 : decode cX11_holds 16 = .ok (.aload_n 0, 1) := by decide +kernel
theorem dX11_holds_17 : decode cX11_holds 17 = .ok (.getfield 26, 3) := by decide +kernel
theorem dX11_holds_20 : decode cX11_holds 20 = .ok (.iload_n 1, 1) := by decide +kernel
theorem dX11_holds_21 : decode cX11_holds 21 = .ok (.invokevirtual 171, 3) := by decide +kernel
theorem dX11_holds_24 : decode cX11_holds 24 = .ok (.ifCond .ne 9, 3) := by decide +kernel
theorem dX11_holds_27 : decode cX11_holds 27 = .ok (.aload_n 0, 1) := by decide +kernel
theorem dX11_holds_28 : decode cX11_holds 28 = .ok (.iconst 1, 1) := by decide +kernel
theorem dX11_holds_29 : decode cX11_holds 29 = .ok (.invokevirtual 100, 3) := by decide +kernel
theorem dX11_holds_32 : decode cX11_holds 32 = .ok (.ireturn, 1) := by decide +kernel
theorem dX11_holds_33 : decode cX11_holds 33 = .ok (.aload_n 0, 1) := by decide +kernel
theorem dX11_holds_34 : decode cX11_holds 34 = .ok (.aload_n 0, 1) := by decide +kernel
theorem dX11_holds_35 : decode cX11_holds 35 = .ok (.getfield 26, 3) := by decide +kernel
theorem dX11_holds_38 : decode cX11_holds 38 = .ok (.getfield 178, 3) := by decide +kernel
theorem dX11_holds_41 : decode cX11_holds 41 = .ok (.iload_n 1, 1) := by decide +kernel
theorem dX11_holds_42 : decode cX11_holds 42 = .ok (.ishr, 1) := by decide +kernel
theorem dX11_holds_43 : decode cX11_holds 43 = .ok (.iconst 1, 1) := by decide +kernel
theorem dX11_holds_44 : decode cX11_holds 44 = .ok (.iand, 1) := by decide +kernel
theorem dX11_holds_45 : decode cX11_holds 45 = .ok (.invokevirtual 111, 3) := by decide +kernel
theorem dX11_holds_48 : decode cX11_holds 48 = .ok (.ireturn, 1) := by decide +kernel
theorem dX11_mark_0 : decode cX11_mark 0 = .ok (.aload_n 0, 1) := by decide +kernel
theorem dX11_mark_1 : decode cX11_mark 1 = .ok (.getfield 19, 3) := by decide +kernel
theorem dX11_mark_4 : decode cX11_mark 4 = .ok (.iload_n 1, 1) := by decide +kernel
theorem dX11_mark_5 : decode cX11_mark 5 = .ok (.invokevirtual 135, 3) := by decide +kernel
theorem dX11_mark_8 : decode cX11_mark 8 = .ok (.ifCond .eq 14, 3) := by decide +kernel
theorem dX11_mark_11 : decode cX11_mark 11 = .ok (.aload_n 0, 1) := by decide +kernel
theorem dX11_mark_12 : decode cX11_mark 12 = .ok (.getfield 10, 3) := by decide +kernel
theorem dX11_mark_15 : decode cX11_mark 15 = .ok (.iload_n 2, 1) := by decide +kernel
theorem dX11_mark_16 : decode cX11_mark 16 = .ok (.invokevirtual 118, 3) := by decide +kernel
theorem dX11_mark_19 : decode cX11_mark 19 = .ok (.ifCond .ne 9, 3) := by decide +kernel
theorem dX11_mark_22 : decode cX11_mark 22 = .ok (.aload_n 0, 1) := by decide +kernel
theorem dX11_mark_23 : decode cX11_mark 23 = .ok (.iconst 1, 1) := by decide +kernel
theorem dX11_mark_24 : decode cX11_mark 24 = .ok (.invokevirtual 100, 3) := by decide +kernel
theorem dX11_mark_27 : decode cX11_mark 27 = .ok (.ireturn, 1) := by decide +kernel
theorem dX11_mark_28 : decode cX11_mark 28 = .ok (.iload_n 3, 1) := by decide +kernel
theorem dX11_mark_29 : decode cX11_mark 29 = .ok (.iconst 0, 1) := by decide +kernel
theorem dX11_mark_30 : decode cX11_mark 30 = .ok (.bipush 100, 2) := by decide +kernel
theorem dX11_mark_32 : decode cX11_mark 32 = .ok (.invokestatic 96, 3) := by decide +kernel
theorem dX11_mark_35 : decode cX11_mark 35 = .ok (.ifCond .eq 11, 3) := by decide +kernel
theorem dX11_mark_38 : decode cX11_mark 38 = .ok (.iload 4, 2) := by decide +kernel
theorem dX11_mark_40 : decode cX11_mark 40 = .ok (.invokestatic 181, 3) := by decide +kernel
theorem dX11_mark_43 : decode cX11_mark 43 = .ok (.ifCond .ne 9, 3) := by decide +kernel
theorem dX11_mark_46 : decode cX11_mark 46 = .ok (.aload_n 0, 1) := by decide +kernel
theorem dX11_mark_47 : decode cX11_mark 47 = .ok (.iconst 2, 1) := by decide +kernel
theorem dX11_mark_48 : decode cX11_mark 48 = .ok (.invokevirtual 100, 3) := by decide +kernel
theorem dX11_mark_51 : decode cX11_mark 51 = .ok (.ireturn, 1) := by decide +kernel
theorem dX11_mark_52 : decode cX11_mark 52 = .ok (.aload_n 0, 1) := by decide +kernel
theorem dX11_mark_53 : decode cX11_mark 53 = .ok (.getfield 33, 3) := by decide +kernel
theorem dX11_mark_56 : decode cX11_mark 56 = .ok (.getfield 184, 3) := by decide +kernel
theorem dX11_mark_59 : decode cX11_mark 59 = .ok (.sipush 200, 3) := by decide +kernel
theorem dX11_mark_62 : decode cX11_mark 62 = .ok (.if_icmp .lt 9, 3) := by decide +kernel
theorem dX11_mark_65 : decode cX11_mark 65 = .ok (.aload_n 0, 1) := by decide +kernel
theorem dX11_mark_66 : decode cX11_mark 66 = .ok (.iconst 3, 1) := by decide +kernel
theorem dX11_mark_67 : decode cX11_mark 67 = .ok (.invokevirtual 100, 3) := by decide +kernel
theorem dX11_mark_70 : decode cX11_mark 70 = .ok (.ireturn, 1) := by decide +kernel
theorem dX11_mark_71 : decode cX11_mark 71 = .ok (.aload_n 0, 1) := by decide +kernel
theorem dX11_mark_72 : decode cX11_mark 72 = .ok (.aload_n 0, 1) := by decide +kernel
theorem dX11_mark_73 : decode cX11_mark 73 = .ok (.getfield 33, 3) := by decide +kernel
theorem dX11_mark_76 : decode cX11_mark 76 = .ok (.iload_n 1, 1) := by decide +kernel
theorem dX11_mark_77 : decode cX11_mark 77 = .ok (.iload_n 2, 1) := by decide +kernel
theorem dX11_mark_78 : decode cX11_mark 78 = .ok (.iload_n 3, 1) := by decide +kernel
theorem dX11_mark_79 : decode cX11_mark 79 = .ok (.iload 4, 2) := by decide +kernel
theorem dX11_mark_81 : decode cX11_mark 81 = .ok (.invokevirtual 185, 3) := by decide +kernel
theorem dX11_mark_84 : decode cX11_mark 84 = .ok (.invokevirtual 111, 3) := by decide +kernel
theorem dX11_mark_87 : decode cX11_mark 87 = .ok (.ireturn, 1) := by decide +kernel
theorem dX11_lose_0 : decode cX11_lose 0 = .ok (.aload_n 0, 1) := by decide +kernel
theorem dX11_lose_1 : decode cX11_lose 1 = .ok (.getfield 33, 3) := by decide +kernel
theorem dX11_lose_4 : decode cX11_lose 4 = .ok (.iload_n 1, 1) := by decide +kernel
theorem dX11_lose_5 : decode cX11_lose 5 = .ok (.invokevirtual 188, 3) := by decide +kernel
theorem dX11_lose_8 : decode cX11_lose 8 = .ok (.ifCond .ne 9, 3) := by decide +kernel
theorem dX11_lose_11 : decode cX11_lose 11 = .ok (.aload_n 0, 1) := by decide +kernel
theorem dX11_lose_12 : decode cX11_lose 12 = .ok (.iconst 1, 1) := by decide +kernel
theorem dX11_lose_13 : decode cX11_lose 13 = .ok (.invokevirtual 140, 3) := by decide +kernel
theorem dX11_lose_16 : decode cX11_lose 16 = .ok (.ireturn, 1) := by decide +kernel
theorem dX11_lose_17 : decode cX11_lose 17 = .ok (.iload_n 2, 1) := by decide +kernel
theorem dX11_lose_18 : decode cX11_lose 18 = .ok (.invokestatic 181, 3) := by decide +kernel
theorem dX11_lose_21 : decode cX11_lose 21 = .ok (.ifCond .ne 9, 3) := by decide +kernel
theorem dX11_lose_24 : decode cX11_lose 24 = .ok (.aload_n 0, 1) := by decide +kernel
theorem dX11_lose_25 : decode cX11_lose 25 = .ok (.iconst 2, 1) := by decide +kernel
theorem dX11_lose_26 : decode cX11_lose 26 = .ok (.invokevirtual 140, 3) := by decide +kernel
theorem dX11_lose_29 : decode cX11_lose 29 = .ok (.ireturn, 1) := by decide +kernel
theorem dX11_lose_30 : decode cX11_lose 30 = .ok (.aload_n 0, 1) := by decide +kernel
theorem dX11_lose_31 : decode cX11_lose 31 = .ok (.getfield 33, 3) := by decide +kernel
theorem dX11_lose_34 : decode cX11_lose 34 = .ok (.getfield 189, 3) := by decide +kernel
theorem dX11_lose_37 : decode cX11_lose 37 = .ok (.iload_n 1, 1) := by decide +kernel
theorem dX11_lose_38 : decode cX11_lose 38 = .ok (.iaload, 1) := by decide +kernel
theorem dX11_lose_39 : decode cX11_lose 39 = .ok (.iconst (-1), 1) := by decide +kernel
theorem dX11_lose_40 : decode cX11_lose 40 = .ok (.if_icmp .eq 9, 3) := by decide +kernel
theorem dX11_lose_43 : decode cX11_lose 43 = .ok (.aload_n 0, 1) := by decide +kernel
theorem dX11_lose_44 : decode cX11_lose 44 = .ok (.iconst 5, 1) := by decide +kernel
theorem dX11_lose_45 : decode cX11_lose 45 = .ok (.invokevirtual 140, 3) := by decide +kernel
theorem dX11_lose_48 : decode cX11_lose 48 = .ok (.ireturn, 1) := by decide +kernel
theorem dX11_lose_49 : decode cX11_lose 49 = .ok (.aload_n 0, 1) := by decide +kernel
theorem dX11_lose_50 : decode cX11_lose 50 = .ok (.getfield 33, 3) := by decide +kernel
theorem dX11_lose_53 : decode cX11_lose 53 = .ok (.getfield 189, 3) := by decide +kernel
theorem dX11_lose_56 : decode cX11_lose 56 = .ok (.iload_n 1, 1) := by decide +kernel
theorem dX11_lose_57 : decode cX11_lose 57 = .ok (.iload_n 2, 1) := by decide +kernel
theorem dX11_lose_58 : decode cX11_lose 58 = .ok (.iastore, 1) := by decide +kernel
theorem dX11_lose_59 : decode cX11_lose 59 = .ok (.aload_n 0, 1) := by decide +kernel
theorem dX11_lose_60 : decode cX11_lose 60 = .ok (.invokevirtual 143, 3) := by decide +kernel
theorem dX11_lose_63 : decode cX11_lose 63 = .ok (.ireturn, 1) := by decide +kernel
theorem dX11_seen_0 : decode cX11_seen 0 = .ok (.aload_n 0, 1) := by decide +kernel
theorem dX11_seen_1 : decode cX11_seen 1 = .ok (.getfield 10, 3) := by decide +kernel
theorem dX11_seen_4 : decode cX11_seen 4 = .ok (.iload_n 1, 1) := by decide +kernel
theorem dX11_seen_5 : decode cX11_seen 5 = .ok (.invokevirtual 118, 3) := by decide +kernel
theorem dX11_seen_8 : decode cX11_seen 8 = .ok (.ifCond .ne 9, 3) := by decide +kernel
theorem dX11_seen_11 : decode cX11_seen 11 = .ok (.aload_n 0, 1) := by decide +kernel
theorem dX11_seen_12 : decode cX11_seen 12 = .ok (.iconst 1, 1) := by decide +kernel
theorem dX11_seen_13 : decode cX11_seen 13 = .ok (.invokevirtual 100, 3) := by decide +kernel
theorem dX11_seen_16 : decode cX11_seen 16 = .ok (.ireturn, 1) := by decide +kernel
theorem dX11_seen_17 : decode cX11_seen 17 = .ok (.iload_n 2, 1) := by decide +kernel
theorem dX11_seen_18 : decode cX11_seen 18 = .ok (.invokestatic 181, 3) := by decide +kernel
theorem dX11_seen_21 : decode cX11_seen 21 = .ok (.ifCond .ne 9, 3) := by decide +kernel
theorem dX11_seen_24 : decode cX11_seen 24 = .ok (.aload_n 0, 1) := by decide +kernel
theorem dX11_seen_25 : decode cX11_seen 25 = .ok (.iconst 2, 1) := by decide +kernel
theorem dX11_seen_26 : decode cX11_seen 26 = .ok (.invokevirtual 100, 3) := by decide +kernel
theorem dX11_seen_29 : decode cX11_seen 29 = .ok (.ireturn, 1) := by decide +kernel
theorem dX11_seen_30 : decode cX11_seen 30 = .ok (.aload_n 0, 1) := by decide +kernel
theorem dX11_seen_31 : decode cX11_seen 31 = .ok (.getfield 40, 3) := by decide +kernel
theorem dX11_seen_34 : decode cX11_seen 34 = .ok (.aload_n 0, 1) := by decide +kernel
theorem dX11_seen_35 : decode cX11_seen 35 = .ok (.getfield 33, 3) := by decide +kernel
theorem dX11_seen_38 : decode cX11_seen 38 = .ok (.iload_n 2, 1) := by decide +kernel
theorem dX11_seen_39 : decode cX11_seen 39 = .ok (.invokevirtual 192, 3) := by decide +kernel
theorem dX11_seen_42 : decode cX11_seen 42 = .ok (.aload_n 0, 1) := by decide +kernel
theorem dX11_seen_43 : decode cX11_seen 43 = .ok (.aload_n 0, 1) := by decide +kernel
theorem dX11_seen_44 : decode cX11_seen 44 = .ok (.getfield 40, 3) := by decide +kernel
theorem dX11_seen_47 : decode cX11_seen 47 = .ok (.iload_n 1, 1) := by decide +kernel
theorem dX11_seen_48 : decode cX11_seen 48 = .ok (.invokevirtual 196, 3) := by decide +kernel
theorem dX11_seen_51 : decode cX11_seen 51 = .ok (.invokevirtual 111, 3) := by decide +kernel
theorem dX11_seen_54 : decode cX11_seen 54 = .ok (.ireturn, 1) := by decide +kernel
theorem dX11_heap_0 : decode cX11_heap 0 = .ok (.aload_n 0, 1) := by decide +kernel
theorem dX11_heap_1 : decode cX11_heap 1 = .ok (.iload_n 1, 1) := by decide +kernel
theorem dX11_heap_2 : decode cX11_heap 2 = .ok (.iload_n 2, 1) := by decide +kernel
theorem dX11_heap_3 : decode cX11_heap 3 = .ok (.invokevirtual 199, 3) := by decide +kernel
theorem dX11_heap_6 : decode cX11_heap 6 = .ok (.istore_n 3, 1) := by decide +kernel
theorem dX11_heap_7 : decode cX11_heap 7 = .ok (.iload_n 3, 1) := by decide +kernel
theorem dX11_heap_8 : decode cX11_heap 8 = .ok (.ifCond .ne 19, 3) := by decide +kernel
theorem dX11_heap_11 : decode cX11_heap 11 = .ok (.aload_n 0, 1) := by decide +kernel
theorem dX11_heap_12 : decode cX11_heap 12 = .ok (.aload_n 0, 1) := by decide +kernel
theorem dX11_heap_13 : decode cX11_heap 13 = .ok (.getfield 40, 3) := by decide +kernel
theorem dX11_heap_16 : decode cX11_heap 16 = .ok (.getfield 202, 3) := by decide +kernel
theorem dX11_heap_19 : decode cX11_heap 19 = .ok (.iload_n 1, 1) := by decide +kernel
theorem dX11_heap_20 : decode cX11_heap 20 = .ok (.iaload, 1) := by decide +kernel
theorem dX11_heap_21 : decode cX11_heap 21 = .ok (.invokevirtual 111, 3) := by decide +kernel
theorem dX11_heap_24 : decode cX11_heap 24 = .ok (.goto 8, 3) := by decide +kernel
theorem dX11_heap_27 : decode cX11_heap 27 = .ok (.aload_n 0, 1) := by decide +kernel
theorem dX11_heap_28 : decode cX11_heap 28 = .ok (.iload_n 3, 1) := by decide +kernel
theorem dX11_heap_29 : decode cX11_heap 29 = .ok (.invokevirtual 100, 3) := by decide +kernel
theorem dX11_heap_32 : decode cX11_heap 32 = .ok (.ireturn, 1) := by decide +kernel
theorem dX11_hardness_0 : decode cX11_hardness 0 = .ok (.aload_n 0, 1) := by decide +kernel
theorem dX11_hardness_1 : decode cX11_hardness 1 = .ok (.iload_n 1, 1) := by decide +kernel
theorem dX11_hardness_2 : decode cX11_hardness 2 = .ok (.iload_n 2, 1) := by decide +kernel
theorem dX11_hardness_3 : decode cX11_hardness 3 = .ok (.invokevirtual 199, 3) := by decide +kernel
theorem dX11_hardness_6 : decode cX11_hardness 6 = .ok (.istore_n 3, 1) := by decide +kernel
theorem dX11_hardness_7 : decode cX11_hardness 7 = .ok (.iload_n 3, 1) := by decide +kernel
theorem dX11_hardness_8 : decode cX11_hardness 8 = .ok (.ifCond .eq 9, 3) := by decide +kernel
theorem dX11_hardness_11 : decode cX11_hardness 11 = .ok (.aload_n 0, 1) := by decide +kernel
theorem dX11_hardness_12 : decode cX11_hardness 12 = .ok (.iload_n 3, 1) := by decide +kernel
theorem dX11_hardness_13 : decode cX11_hardness 13 = .ok (.invokevirtual 140, 3) := by decide +kernel
theorem dX11_hardness_16 : decode cX11_hardness 16 = .ok (.ireturn, 1) := by decide +kernel
theorem dX11_hardness_17 : decode cX11_hardness 17 = .ok (.aload_n 0, 1) := by decide +kernel
theorem dX11_hardness_18 : decode cX11_hardness 18 = .ok (.getfield 40, 3) := by decide +kernel
theorem dX11_hardness_21 : decode cX11_hardness 21 = .ok (.getfield 202, 3) := by decide +kernel
theorem dX11_hardness_24 : decode cX11_hardness 24 = .ok (.iload_n 1, 1) := by decide +kernel
theorem dX11_hardness_25 : decode cX11_hardness 25 = .ok (.iaload, 1) := by decide +kernel
theorem dX11_hardness_26 : decode cX11_hardness 26 = .ok (.istore 4, 2) := by decide +kernel
theorem dX11_hardness_28 : decode cX11_hardness 28 = .ok (.aload_n 0, 1) := by decide +kernel
theorem dX11_hardness_29 : decode cX11_hardness 29 = .ok (.getfield 40, 3) := by decide +kernel
theorem dX11_hardness_32 : decode cX11_hardness 32 = .ok (.iload 4, 2) := by decide +kernel
theorem dX11_hardness_34 : decode cX11_hardness 34 = .ok (.invokevirtual 205, 3) := by decide +kernel
theorem dX11_hardness_37 : decode cX11_hardness 37 = .ok (.ifCond .eq 10, 3) := by decide +kernel
theorem dX11_hardness_40 : decode cX11_hardness 40 = .ok (.aload_n 0, 1) := by decide +kernel
theorem dX11_hardness_41 : decode cX11_hardness 41 = .ok (.bipush 9, 2) := by decide +kernel
theorem dX11_hardness_43 : decode cX11_hardness 43 = .ok (.invokevirtual 140, 3) := by decide +kernel
theorem dX11_hardness_46 : decode cX11_hardness 46 = .ok (.ireturn, 1) := by decide +kernel
theorem dX11_hardness_47 : decode cX11_hardness 47 = .ok (.aload_n 0, 1) := by decide +kernel
theorem dX11_hardness_48 : decode cX11_hardness 48 = .ok (.getfield 47, 3) := by decide +kernel
theorem dX11_hardness_51 : decode cX11_hardness 51 = .ok (.aload_n 0, 1) := by decide +kernel
theorem dX11_hardness_52 : decode cX11_hardness 52 = .ok (.getfield 40, 3) := by decide +kernel
theorem dX11_hardness_55 : decode cX11_hardness 55 = .ok (.iload 4, 2) := by decide +kernel
theorem dX11_hardness_57 : decode cX11_hardness 57 = .ok (.invokevirtual 208, 3) := by decide +kernel
theorem dX11_hardness_60 : decode cX11_hardness 60 = .ok (.aload_n 0, 1) := by decide +kernel
theorem dX11_hardness_61 : decode cX11_hardness 61 = .ok (.getfield 54, 3) := by decide +kernel
theorem dX11_hardness_64 : decode cX11_hardness 64 = .ok (.aload_n 0, 1) := by decide +kernel
theorem dX11_hardness_65 : decode cX11_hardness 65 = .ok (.getfield 47, 3) := by decide +kernel
theorem dX11_hardness_68 : decode cX11_hardness 68 = .ok (.getfield 212, 3) := by decide +kernel
theorem dX11_hardness_71 : decode cX11_hardness 71 = .ok (.iload_n 1, 1) := by decide +kernel
theorem dX11_hardness_72 : decode cX11_hardness 72 = .ok (.laload, 1) := by decide +kernel
theorem dX11_hardness_73 : decode cX11_hardness 73 = .ok (.aload_n 0, 1) := by decide +kernel
theorem dX11_hardness_74 : decode cX11_hardness 74 = .ok (.getfield 47, 3) := by decide +kernel
theorem dX11_hardness_77 : decode cX11_hardness 77 = .ok (.getfield 216, 3) := by decide +kernel
theorem dX11_hardness_80 : decode cX11_hardness 80 = .ok (.iload_n 1, 1) := by decide +kernel
theorem dX11_hardness_81 : decode cX11_hardness 81 = .ok (.laload, 1) := by decide +kernel
theorem dX11_hardness_82 : decode cX11_hardness 82 = .ok (.invokevirtual 219, 3) := by decide +kernel
theorem dX11_hardness_85 : decode cX11_hardness 85 = .ok (.aload_n 0, 1) := by decide +kernel
theorem dX11_hardness_86 : decode cX11_hardness 86 = .ok (.invokevirtual 143, 3) := by decide +kernel
theorem dX11_hardness_89 : decode cX11_hardness 89 = .ok (.ireturn, 1) := by decide +kernel
theorem dX11_fair_0 : decode cX11_fair 0 = .ok (.aload_n 0, 1) := by decide +kernel
theorem dX11_fair_1 : decode cX11_fair 1 = .ok (.getfield 10, 3) := by decide +kernel
theorem dX11_fair_4 : decode cX11_fair 4 = .ok (.iload_n 1, 1) := by decide +kernel
theorem dX11_fair_5 : decode cX11_fair 5 = .ok (.invokevirtual 118, 3) := by decide +kernel
theorem dX11_fair_8 : decode cX11_fair 8 = .ok (.ifCond .ne 9, 3) := by decide +kernel
theorem dX11_fair_11 : decode cX11_fair 11 = .ok (.aload_n 0, 1) := by decide +kernel
theorem dX11_fair_12 : decode cX11_fair 12 = .ok (.iconst 1, 1) := by decide +kernel
theorem dX11_fair_13 : decode cX11_fair 13 = .ok (.invokevirtual 140, 3) := by decide +kernel
theorem dX11_fair_16 : decode cX11_fair 16 = .ok (.ireturn, 1) := by decide +kernel
theorem dX11_fair_17 : decode cX11_fair 17 = .ok (.iload_n 2, 1) := by decide +kernel
theorem dX11_fair_18 : decode cX11_fair 18 = .ok (.invokestatic 181, 3) := by decide +kernel
theorem dX11_fair_21 : decode cX11_fair 21 = .ok (.ifCond .ne 9, 3) := by decide +kernel
theorem dX11_fair_24 : decode cX11_fair 24 = .ok (.aload_n 0, 1) := by decide +kernel
theorem dX11_fair_25 : decode cX11_fair 25 = .ok (.iconst 2, 1) := by decide +kernel
theorem dX11_fair_26 : decode cX11_fair 26 = .ok (.invokevirtual 140, 3) := by decide +kernel
theorem dX11_fair_29 : decode cX11_fair 29 = .ok (.ireturn, 1) := by decide +kernel
theorem dX11_fair_30 : decode cX11_fair 30 = .ok (.aload_n 0, 1) := by decide +kernel
theorem dX11_fair_31 : decode cX11_fair 31 = .ok (.getfield 40, 3) := by decide +kernel
theorem dX11_fair_34 : decode cX11_fair 34 = .ok (.aload_n 0, 1) := by decide +kernel
theorem dX11_fair_35 : decode cX11_fair 35 = .ok (.getfield 33, 3) := by decide +kernel
theorem dX11_fair_38 : decode cX11_fair 38 = .ok (.iload_n 2, 1) := by decide +kernel
theorem dX11_fair_39 : decode cX11_fair 39 = .ok (.invokevirtual 192, 3) := by decide +kernel
theorem dX11_fair_42 : decode cX11_fair 42 = .ok (.aload_n 0, 1) := by decide +kernel
theorem dX11_fair_43 : decode cX11_fair 43 = .ok (.getfield 40, 3) := by decide +kernel
theorem dX11_fair_46 : decode cX11_fair 46 = .ok (.iload_n 1, 1) := by decide +kernel
theorem dX11_fair_47 : decode cX11_fair 47 = .ok (.invokevirtual 223, 3) := by decide +kernel
theorem dX11_fair_50 : decode cX11_fair 50 = .ok (.istore_n 3, 1) := by decide +kernel
theorem dX11_fair_51 : decode cX11_fair 51 = .ok (.iload_n 3, 1) := by decide +kernel
theorem dX11_fair_52 : decode cX11_fair 52 = .ok (.iconst (-1), 1) := by decide +kernel
theorem dX11_fair_53 : decode cX11_fair 53 = .ok (.if_icmp .ne 10, 3) := by decide +kernel
theorem dX11_fair_56 : decode cX11_fair 56 = .ok (.aload_n 0, 1) := by decide +kernel
theorem dX11_fair_57 : decode cX11_fair 57 = .ok (.bipush 6, 2) := by decide +kernel
theorem dX11_fair_59 : decode cX11_fair 59 = .ok (.invokevirtual 140, 3) := by decide +kernel
theorem dX11_fair_62 : decode cX11_fair 62 = .ok (.ireturn, 1) := by decide +kernel
theorem dX11_fair_63 : decode cX11_fair 63 = .ok (.aload_n 0, 1) := by decide +kernel
theorem dX11_fair_64 : decode cX11_fair 64 = .ok (.getfield 40, 3) := by decide +kernel
theorem dX11_fair_67 : decode cX11_fair 67 = .ok (.iload_n 3, 1) := by decide +kernel
theorem dX11_fair_68 : decode cX11_fair 68 = .ok (.invokevirtual 205, 3) := by decide +kernel
theorem dX11_fair_71 : decode cX11_fair 71 = .ok (.ifCond .eq 10, 3) := by decide +kernel
theorem dX11_fair_74 : decode cX11_fair 74 = .ok (.aload_n 0, 1) := by decide +kernel
theorem dX11_fair_75 : decode cX11_fair 75 = .ok (.bipush 9, 2) := by decide +kernel
theorem dX11_fair_77 : decode cX11_fair 77 = .ok (.invokevirtual 140, 3) := by decide +kernel
theorem dX11_fair_80 : decode cX11_fair 80 = .ok (.ireturn, 1) := by decide +kernel
theorem dX11_fair_81 : decode cX11_fair 81 = .ok (.aload_n 0, 1) := by decide +kernel
theorem dX11_fair_82 : decode cX11_fair 82 = .ok (.getfield 47, 3) := by decide +kernel
theorem dX11_fair_85 : decode cX11_fair 85 = .ok (.aload_n 0, 1) := by decide +kernel
theorem dX11_fair_86 : decode cX11_fair 86 = .ok (.getfield 40, 3) := by decide +kernel
theorem dX11_fair_89 : decode cX11_fair 89 = .ok (.iload_n 3, 1) := by decide +kernel
theorem dX11_fair_90 : decode cX11_fair 90 = .ok (.invokevirtual 208, 3) := by decide +kernel
theorem dX11_fair_93 : decode cX11_fair 93 = .ok (.aload_n 0, 1) := by decide +kernel
theorem dX11_fair_94 : decode cX11_fair 94 = .ok (.getfield 47, 3) := by decide +kernel
theorem dX11_fair_97 : decode cX11_fair 97 = .ok (.aload_n 0, 1) := by decide +kernel
theorem dX11_fair_98 : decode cX11_fair 98 = .ok (.getfield 40, 3) := by decide +kernel
theorem dX11_fair_101 : decode cX11_fair 101 = .ok (.iload_n 1, 1) := by decide +kernel
theorem dX11_fair_102 : decode cX11_fair 102 = .ok (.aload_n 0, 1) := by decide +kernel
theorem dX11_fair_103 : decode cX11_fair 103 = .ok (.getfield 54, 3) := by decide +kernel
theorem dX11_fair_106 : decode cX11_fair 106 = .ok (.invokevirtual 226, 3) := by decide +kernel
theorem dX11_fair_109 : decode cX11_fair 109 = .ok (.aload_n 0, 1) := by decide +kernel
theorem dX11_fair_110 : decode cX11_fair 110 = .ok (.invokevirtual 143, 3) := by decide +kernel
theorem dX11_fair_113 : decode cX11_fair 113 = .ok (.ireturn, 1) := by decide +kernel
theorem dX11_upper_0 : decode cX11_upper 0 = .ok (.aload_n 0, 1) := by decide +kernel
theorem dX11_upper_1 : decode cX11_upper 1 = .ok (.getfield 54, 3) := by decide +kernel
theorem dX11_upper_4 : decode cX11_upper 4 = .ok (.getfield 230, 3) := by decide +kernel
theorem dX11_upper_7 : decode cX11_upper 7 = .ok (.lreturn, 1) := by decide +kernel
theorem dX11_lower_0 : decode cX11_lower 0 = .ok (.aload_n 0, 1) := by decide +kernel
theorem dX11_lower_1 : decode cX11_lower 1 = .ok (.getfield 54, 3) := by decide +kernel
theorem dX11_lower_4 : decode cX11_lower 4 = .ok (.getfield 234, 3) := by decide +kernel
theorem dX11_lower_7 : decode cX11_lower 7 = .ok (.lreturn, 1) := by decide +kernel
theorem dX11_feed_0 : decode cX11_feed 0 = .ok (.aload_n 0, 1) := by decide +kernel
theorem dX11_feed_1 : decode cX11_feed 1 = .ok (.getfield 61, 3) := by decide +kernel
theorem dX11_feed_4 : decode cX11_feed 4 = .ok (.getfield 237, 3) := by decide +kernel
theorem dX11_feed_7 : decode cX11_feed 7 = .ok (.bipush 20, 2) := by decide +kernel
theorem dX11_feed_9 : decode cX11_feed 9 = .ok (.iadd, 1) := by decide +kernel
theorem dX11_feed_10 : decode cX11_feed 10 = .ok (.sipush 300, 3) := by decide +kernel
theorem dX11_feed_13 : decode cX11_feed 13 = .ok (.if_icmp .le 5, 3) := by decide +kernel
theorem dX11_feed_16 : decode cX11_feed 16 = .ok (.iconst (-1), 1) := by decide +kernel
theorem dX11_feed_17 : decode cX11_feed 17 = .ok (.ireturn, 1) := by decide +kernel
theorem dX11_feed_18 : decode cX11_feed 18 = .ok (.aload_n 0, 1) := by decide +kernel
theorem dX11_feed_19 : decode cX11_feed 19 = .ok (.getfield 61, 3) := by decide +kernel
theorem dX11_feed_22 : decode cX11_feed 22 = .ok (.iload_n 1, 1) := by decide +kernel
theorem dX11_feed_23 : decode cX11_feed 23 = .ok (.invokevirtual 240, 3) := by decide +kernel
theorem dX11_feed_26 : decode cX11_feed 26 = .ok (.aload_n 0, 1) := by decide +kernel
theorem dX11_feed_27 : decode cX11_feed 27 = .ok (.getfield 61, 3) := by decide +kernel
theorem dX11_feed_30 : decode cX11_feed 30 = .ok (.iload_n 2, 1) := by decide +kernel
theorem dX11_feed_31 : decode cX11_feed 31 = .ok (.invokevirtual 240, 3) := by decide +kernel
theorem dX11_feed_34 : decode cX11_feed 34 = .ok (.aload_n 0, 1) := by decide +kernel
theorem dX11_feed_35 : decode cX11_feed 35 = .ok (.getfield 61, 3) := by decide +kernel
theorem dX11_feed_38 : decode cX11_feed 38 = .ok (.iload_n 3, 1) := by decide +kernel
theorem dX11_feed_39 : decode cX11_feed 39 = .ok (.invokevirtual 240, 3) := by decide +kernel
theorem dX11_feed_42 : decode cX11_feed 42 = .ok (.aload_n 0, 1) := by decide +kernel
theorem dX11_feed_43 : decode cX11_feed 43 = .ok (.getfield 61, 3) := by decide +kernel
theorem dX11_feed_46 : decode cX11_feed 46 = .ok (.iload 4, 2) := by decide +kernel
theorem dX11_feed_48 : decode cX11_feed 48 = .ok (.invokevirtual 240, 3) := by decide +kernel
theorem dX11_feed_51 : decode cX11_feed 51 = .ok (.aload_n 0, 1) := by decide +kernel
theorem dX11_feed_52 : decode cX11_feed 52 = .ok (.getfield 61, 3) := by decide +kernel
theorem dX11_feed_55 : decode cX11_feed 55 = .ok (.iload 5, 2) := by decide +kernel
theorem dX11_feed_57 : decode cX11_feed 57 = .ok (.invokevirtual 240, 3) := by decide +kernel
theorem dX11_feed_60 : decode cX11_feed 60 = .ok (.aload_n 0, 1) := by decide +kernel
theorem dX11_feed_61 : decode cX11_feed 61 = .ok (.getfield 61, 3) := by decide +kernel
theorem dX11_feed_64 : decode cX11_feed 64 = .ok (.getfield 237, 3) := by decide +kernel
theorem dX11_feed_67 : decode cX11_feed 67 = .ok (.ireturn, 1) := by decide +kernel
theorem dX11_prizes_0 : decode cX11_prizes 0 = .ok (.iload_n 1, 1) := by decide +kernel
theorem dX11_prizes_1 : decode cX11_prizes 1 = .ok (.iconst 0, 1) := by decide +kernel
theorem dX11_prizes_2 : decode cX11_prizes 2 = .ok (.aload_n 0, 1) := by decide +kernel
theorem dX11_prizes_3 : decode cX11_prizes 3 = .ok (.getfield 61, 3) := by decide +kernel
theorem dX11_prizes_6 : decode cX11_prizes 6 = .ok (.getfield 237, 3) := by decide +kernel
theorem dX11_prizes_9 : decode cX11_prizes 9 = .ok (.invokestatic 96, 3) := by decide +kernel
theorem dX11_prizes_12 : decode cX11_prizes 12 = .ok (.ifCond .ne 9, 3) := by decide +kernel
theorem dX11_prizes_15 : decode cX11_prizes 15 = .ok (.aload_n 0, 1) := by decide +kernel
theorem dX11_prizes_16 : decode cX11_prizes 16 = .ok (.iconst 2, 1) := by decide +kernel
theorem dX11_prizes_17 : decode cX11_prizes 17 = .ok (.invokevirtual 100, 3) := by decide +kernel
theorem dX11_prizes_20 : decode cX11_prizes 20 = .ok (.ireturn, 1) := by decide +kernel
theorem dX11_prizes_21 : decode cX11_prizes 21 = .ok (.aload_n 0, 1) := by decide +kernel
theorem dX11_prizes_22 : decode cX11_prizes 22 = .ok (.getfield 61, 3) := by decide +kernel
theorem dX11_prizes_25 : decode cX11_prizes 25 = .ok (.iload_n 1, 1) := by decide +kernel
theorem dX11_prizes_26 : decode cX11_prizes 26 = .ok (.aload_n 0, 1) := by decide +kernel
theorem dX11_prizes_27 : decode cX11_prizes 27 = .ok (.getfield 86, 3) := by decide +kernel
theorem dX11_prizes_30 : decode cX11_prizes 30 = .ok (.invokevirtual 244, 3) := by decide +kernel
theorem dX11_prizes_33 : decode cX11_prizes 33 = .ok (.aload_n 0, 1) := by decide +kernel
theorem dX11_prizes_34 : decode cX11_prizes 34 = .ok (.getfield 61, 3) := by decide +kernel
theorem dX11_prizes_37 : decode cX11_prizes 37 = .ok (.iconst 0, 1) := by decide +kernel
theorem dX11_prizes_38 : decode cX11_prizes 38 = .ok (.putfield 237, 3) := by decide +kernel
theorem dX11_prizes_41 : decode cX11_prizes 41 = .ok (.aload_n 0, 1) := by decide +kernel
theorem dX11_prizes_42 : decode cX11_prizes 42 = .ok (.getfield 61, 3) := by decide +kernel
theorem dX11_prizes_45 : decode cX11_prizes 45 = .ok (.getfield 248, 3) := by decide +kernel
theorem dX11_prizes_48 : decode cX11_prizes 48 = .ok (.ifCond .eq 10, 3) := by decide +kernel
theorem dX11_prizes_51 : decode cX11_prizes 51 = .ok (.aload_n 0, 1) := by decide +kernel
theorem dX11_prizes_52 : decode cX11_prizes 52 = .ok (.bipush 7, 2) := by decide +kernel
theorem dX11_prizes_54 : decode cX11_prizes 54 = .ok (.invokevirtual 100, 3) := by decide +kernel
theorem dX11_prizes_57 : decode cX11_prizes 57 = .ok (.ireturn, 1) := by decide +kernel
theorem dX11_prizes_58 : decode cX11_prizes 58 = .ok (.aload_n 0, 1) := by decide +kernel
theorem dX11_prizes_59 : decode cX11_prizes 59 = .ok (.getfield 82, 3) := by decide +kernel
theorem dX11_prizes_62 : decode cX11_prizes 62 = .ok (.astore_n 2, 1) := by decide +kernel
theorem dX11_prizes_63 : decode cX11_prizes 63 = .ok (.aload_n 0, 1) := by decide +kernel
theorem dX11_prizes_64 : decode cX11_prizes 64 = .ok (.aload_n 0, 1) := by decide +kernel
theorem dX11_prizes_65 : decode cX11_prizes 65 = .ok (.getfield 86, 3) := by decide +kernel
theorem dX11_prizes_68 : decode cX11_prizes 68 = .ok (.putfield 82, 3) := by decide +kernel
theorem dX11_prizes_71 : decode cX11_prizes 71 = .ok (.aload_n 0, 1) := by decide +kernel
theorem dX11_prizes_72 : decode cX11_prizes 72 = .ok (.aload_n 2, 1) := by decide +kernel
theorem dX11_prizes_73 : decode cX11_prizes 73 = .ok (.putfield 86, 3) := by decide +kernel
theorem dX11_prizes_76 : decode cX11_prizes 76 = .ok (.aload_n 0, 1) := by decide +kernel
theorem dX11_prizes_77 : decode cX11_prizes 77 = .ok (.aload_n 0, 1) := by decide +kernel
theorem dX11_prizes_78 : decode cX11_prizes 78 = .ok (.getfield 82, 3) := by decide +kernel
theorem dX11_prizes_81 : decode cX11_prizes 81 = .ok (.getfield 251, 3) := by decide +kernel
theorem dX11_prizes_84 : decode cX11_prizes 84 = .ok (.invokevirtual 111, 3) := by decide +kernel
theorem dX11_prizes_87 : decode cX11_prizes 87 = .ok (.ireturn, 1) := by decide +kernel
theorem dX11_fault_0 : decode cX11_fault 0 = .ok (.iload_n 1, 1) := by decide +kernel
theorem dX11_fault_1 : decode cX11_fault 1 = .ok (.ifCond .ne 11, 3) := by decide +kernel
theorem dX11_fault_4 : decode cX11_fault 4 = .ok (.aload_n 0, 1) := by decide +kernel
theorem dX11_fault_5 : decode cX11_fault 5 = .ok (.getfield 61, 3) := by decide +kernel
theorem dX11_fault_8 : decode cX11_fault 8 = .ok (.getfield 248, 3) := by decide +kernel
theorem dX11_fault_11 : decode cX11_fault 11 = .ok (.ireturn, 1) := by decide +kernel
theorem dX11_fault_12 : decode cX11_fault 12 = .ok (.iload_n 1, 1) := by decide +kernel
theorem dX11_fault_13 : decode cX11_fault 13 = .ok (.iconst 1, 1) := by decide +kernel
theorem dX11_fault_14 : decode cX11_fault 14 = .ok (.if_icmp .ne 13, 3) := by decide +kernel
theorem dX11_fault_17 : decode cX11_fault 17 = .ok (.aload_n 0, 1) := by decide +kernel
theorem dX11_fault_18 : decode cX11_fault 18 = .ok (.getfield 61, 3) := by decide +kernel
theorem dX11_fault_21 : decode cX11_fault 21 = .ok (.getfield 252, 3) := by decide +kernel
theorem dX11_fault_24 : decode cX11_fault 24 = .ok (.goto 4, 3) := by decide +kernel
theorem dX11_fault_27 : decode cX11_fault 27 = .ok (.iconst (-1), 1) := by decide +kernel
theorem dX11_fault_28 : decode cX11_fault 28 = .ok (.ireturn, 1) := by decide +kernel
theorem dX11_given_0 : decode cX11_given 0 = .ok (.aload_n 0, 1) := by decide +kernel
theorem dX11_given_1 : decode cX11_given 1 = .ok (.getfield 82, 3) := by decide +kernel
theorem dX11_given_4 : decode cX11_given 4 = .ok (.iload_n 1, 1) := by decide +kernel
theorem dX11_given_5 : decode cX11_given 5 = .ok (.invokevirtual 255, 3) := by decide +kernel
theorem dX11_given_8 : decode cX11_given 8 = .ok (.ifCond .eq 7, 3) := by decide +kernel
theorem dX11_given_11 : decode cX11_given 11 = .ok (.iload_n 2, 1) := by decide +kernel
theorem dX11_given_12 : decode cX11_given 12 = .ok (.ifCond .ge 9, 3) := by decide +kernel
theorem dX11_given_15 : decode cX11_given 15 = .ok (.aload_n 0, 1) := by decide +kernel
theorem dX11_given_16 : decode cX11_given 16 = .ok (.iconst 1, 1) := by decide +kernel
theorem dX11_given_17 : decode cX11_given 17 = .ok (.invokevirtual 100, 3) := by decide +kernel
theorem dX11_given_20 : decode cX11_given 20 = .ok (.ireturn, 1) := by decide +kernel
theorem dX11_given_21 : decode cX11_given 21 = .ok (.iload_n 3, 1) := by decide +kernel
theorem dX11_given_22 : decode cX11_given 22 = .ok (.invokestatic 181, 3) := by decide +kernel
theorem dX11_given_25 : decode cX11_given 25 = .ok (.ifCond .ne 9, 3) := by decide +kernel
theorem dX11_given_28 : decode cX11_given 28 = .ok (.aload_n 0, 1) := by decide +kernel
theorem dX11_given_29 : decode cX11_given 29 = .ok (.iconst 2, 1) := by decide +kernel
theorem dX11_given_30 : decode cX11_given 30 = .ok (.invokevirtual 100, 3) := by decide +kernel
theorem dX11_given_33 : decode cX11_given 33 = .ok (.ireturn, 1) := by decide +kernel
theorem dX11_given_34 : decode cX11_given 34 = .ok (.aload_n 0, 1) := by decide +kernel
theorem dX11_given_35 : decode cX11_given 35 = .ok (.getfield 40, 3) := by decide +kernel
theorem dX11_given_38 : decode cX11_given 38 = .ok (.aload_n 0, 1) := by decide +kernel
theorem dX11_given_39 : decode cX11_given 39 = .ok (.getfield 33, 3) := by decide +kernel
theorem dX11_given_42 : decode cX11_given 42 = .ok (.iload_n 3, 1) := by decide +kernel
theorem dX11_given_43 : decode cX11_given 43 = .ok (.invokevirtual 192, 3) := by decide +kernel
theorem dX11_given_46 : decode cX11_given 46 = .ok (.aload_n 0, 1) := by decide +kernel
theorem dX11_given_47 : decode cX11_given 47 = .ok (.getfield 40, 3) := by decide +kernel
theorem dX11_given_50 : decode cX11_given 50 = .ok (.invokevirtual 256, 3) := by decide +kernel
theorem dX11_given_53 : decode cX11_given 53 = .ok (.ifCond .eq 10, 3) := by decide +kernel
theorem dX11_given_56 : decode cX11_given 56 = .ok (.aload_n 0, 1) := by decide +kernel
theorem dX11_given_57 : decode cX11_given 57 = .ok (.bipush 9, 2) := by decide +kernel
theorem dX11_given_59 : decode cX11_given 59 = .ok (.invokevirtual 100, 3) := by decide +kernel
theorem dX11_given_62 : decode cX11_given 62 = .ok (.ireturn, 1) := by decide +kernel
theorem dX11_given_63 : decode cX11_given 63 = .ok (.aload_n 0, 1) := by decide +kernel
theorem dX11_given_64 : decode cX11_given 64 = .ok (.getfield 47, 3) := by decide +kernel
theorem dX11_given_67 : decode cX11_given 67 = .ok (.aload_n 0, 1) := by decide +kernel
theorem dX11_given_68 : decode cX11_given 68 = .ok (.getfield 40, 3) := by decide +kernel
theorem dX11_given_71 : decode cX11_given 71 = .ok (.invokevirtual 259, 3) := by decide +kernel
theorem dX11_given_74 : decode cX11_given 74 = .ok (.aload_n 0, 1) := by decide +kernel
theorem dX11_given_75 : decode cX11_given 75 = .ok (.getfield 68, 3) := by decide +kernel
theorem dX11_given_78 : decode cX11_given 78 = .ok (.aload_n 0, 1) := by decide +kernel
theorem dX11_given_79 : decode cX11_given 79 = .ok (.getfield 40, 3) := by decide +kernel
theorem dX11_given_82 : decode cX11_given 82 = .ok (.aload_n 0, 1) := by decide +kernel
theorem dX11_given_83 : decode cX11_given 83 = .ok (.getfield 47, 3) := by decide +kernel
theorem dX11_given_86 : decode cX11_given 86 = .ok (.invokevirtual 263, 3) := by decide +kernel
theorem dX11_given_89 : decode cX11_given 89 = .ok (.aload_n 0, 1) := by decide +kernel
theorem dX11_given_90 : decode cX11_given 90 = .ok (.getfield 68, 3) := by decide +kernel
theorem dX11_given_93 : decode cX11_given 93 = .ok (.aload_n 0, 1) := by decide +kernel
theorem dX11_given_94 : decode cX11_given 94 = .ok (.getfield 82, 3) := by decide +kernel
theorem dX11_given_97 : decode cX11_given 97 = .ok (.iload_n 1, 1) := by decide +kernel
theorem dX11_given_98 : decode cX11_given 98 = .ok (.aload_n 0, 1) := by decide +kernel
theorem dX11_given_99 : decode cX11_given 99 = .ok (.getfield 10, 3) := by decide +kernel
theorem dX11_given_102 : decode cX11_given 102 = .ok (.aload_n 0, 1) := by decide +kernel
theorem dX11_given_103 : decode cX11_given 103 = .ok (.getfield 40, 3) := by decide +kernel
theorem dX11_given_106 : decode cX11_given 106 = .ok (.invokevirtual 267, 3) := by decide +kernel
theorem dX11_given_109 : decode cX11_given 109 = .ok (.iload_n 2, 1) := by decide +kernel
theorem dX11_given_110 : decode cX11_given 110 = .ok (.aload_n 0, 1) := by decide +kernel
theorem dX11_given_111 : decode cX11_given 111 = .ok (.getfield 68, 3) := by decide +kernel
theorem dX11_given_114 : decode cX11_given 114 = .ok (.getfield 271, 3) := by decide +kernel
theorem dX11_given_117 : decode cX11_given 117 = .ok (.if_icmp .lt 9, 3) := by decide +kernel
theorem dX11_given_120 : decode cX11_given 120 = .ok (.aload_n 0, 1) := by decide +kernel
theorem dX11_given_121 : decode cX11_given 121 = .ok (.iconst 1, 1) := by decide +kernel
theorem dX11_given_122 : decode cX11_given 122 = .ok (.invokevirtual 100, 3) := by decide +kernel
theorem dX11_given_125 : decode cX11_given 125 = .ok (.ireturn, 1) := by decide +kernel
theorem dX11_given_126 : decode cX11_given 126 = .ok (.aload_n 0, 1) := by decide +kernel
theorem dX11_given_127 : decode cX11_given 127 = .ok (.aload_n 0, 1) := by decide +kernel
theorem dX11_given_128 : decode cX11_given 128 = .ok (.getfield 68, 3) := by decide +kernel
theorem dX11_given_131 : decode cX11_given 131 = .ok (.getfield 274, 3) := by decide +kernel
theorem dX11_given_134 : decode cX11_given 134 = .ok (.iload_n 2, 1) := by decide +kernel
theorem dX11_given_135 : decode cX11_given 135 = .ok (.iaload, 1) := by decide +kernel
theorem dX11_given_136 : decode cX11_given 136 = .ok (.invokevirtual 111, 3) := by decide +kernel
theorem dX11_given_139 : decode cX11_given 139 = .ok (.ireturn, 1) := by decide +kernel
theorem dX11_hall_0 : decode cX11_hall 0 = .ok (.iload_n 1, 1) := by decide +kernel
theorem dX11_hall_1 : decode cX11_hall 1 = .ok (.iconst 0, 1) := by decide +kernel
theorem dX11_hall_2 : decode cX11_hall 2 = .ok (.bipush 24, 2) := by decide +kernel
theorem dX11_hall_4 : decode cX11_hall 4 = .ok (.invokestatic 96, 3) := by decide +kernel
theorem dX11_hall_7 : decode cX11_hall 7 = .ok (.ifCond .eq 24, 3) := by decide +kernel
theorem dX11_hall_10 : decode cX11_hall 10 = .ok (.iload_n 2, 1) := by decide +kernel
theorem dX11_hall_11 : decode cX11_hall 11 = .ok (.iconst 0, 1) := by decide +kernel
theorem dX11_hall_12 : decode cX11_hall 12 = .ok (.sipush 999, 3) := by decide +kernel
theorem dX11_hall_15 : decode cX11_hall 15 = .ok (.invokestatic 96, 3) := by decide +kernel
theorem dX11_hall_18 : decode cX11_hall 18 = .ok (.ifCond .eq 13, 3) := by decide +kernel
theorem dX11_hall_21 : decode cX11_hall 21 = .ok (.iload_n 3, 1) := by decide +kernel
theorem dX11_hall_22 : decode cX11_hall 22 = .ok (.iconst 0, 1) := by decide +kernel
theorem dX11_hall_23 : decode cX11_hall 23 = .ok (.bipush 24, 2) := by decide +kernel
theorem dX11_hall_25 : decode cX11_hall 25 = .ok (.invokestatic 96, 3) := by decide +kernel
theorem dX11_hall_28 : decode cX11_hall 28 = .ok (.ifCond .ne 9, 3) := by decide +kernel
theorem dX11_hall_31 : decode cX11_hall 31 = .ok (.aload_n 0, 1) := by decide +kernel
theorem dX11_hall_32 : decode cX11_hall 32 = .ok (.iconst 2, 1) := by decide +kernel
theorem dX11_hall_33 : decode cX11_hall 33 = .ok (.invokevirtual 100, 3) := by decide +kernel
theorem dX11_hall_36 : decode cX11_hall 36 = .ok (.ireturn, 1) := by decide +kernel
theorem dX11_hall_37 : decode cX11_hall 37 = .ok (.aload_n 0, 1) := by decide +kernel
theorem dX11_hall_38 : decode cX11_hall 38 = .ok (.getfield 75, 3) := by decide +kernel
theorem dX11_hall_41 : decode cX11_hall 41 = .ok (.getfield 277, 3) := by decide +kernel
theorem dX11_hall_44 : decode cX11_hall 44 = .ok (.iconst 4, 1) := by decide +kernel
theorem dX11_hall_45 : decode cX11_hall 45 = .ok (.if_icmp .lt 9, 3) := by decide +kernel
theorem dX11_hall_48 : decode cX11_hall 48 = .ok (.aload_n 0, 1) := by decide +kernel
theorem dX11_hall_49 : decode cX11_hall 49 = .ok (.iconst 3, 1) := by decide +kernel
theorem dX11_hall_50 : decode cX11_hall 50 = .ok (.invokevirtual 100, 3) := by decide +kernel
theorem dX11_hall_53 : decode cX11_hall 53 = .ok (.ireturn, 1) := by decide +kernel
theorem dX11_hall_54 : decode cX11_hall 54 = .ok (.aload_n 0, 1) := by decide +kernel
theorem dX11_hall_55 : decode cX11_hall 55 = .ok (.aload_n 0, 1) := by decide +kernel
theorem dX11_hall_56 : decode cX11_hall 56 = .ok (.getfield 75, 3) := by decide +kernel
theorem dX11_hall_59 : decode cX11_hall 59 = .ok (.iload_n 1, 1) := by decide +kernel
theorem dX11_hall_60 : decode cX11_hall 60 = .ok (.iload_n 2, 1) := by decide +kernel
theorem dX11_hall_61 : decode cX11_hall 61 = .ok (.iload_n 3, 1) := by decide +kernel
theorem dX11_hall_62 : decode cX11_hall 62 = .ok (.invokevirtual 278, 3) := by decide +kernel
theorem dX11_hall_65 : decode cX11_hall 65 = .ok (.invokevirtual 111, 3) := by decide +kernel
theorem dX11_hall_68 : decode cX11_hall 68 = .ok (.ireturn, 1) := by decide +kernel
theorem dX11_clear_0 : decode cX11_clear 0 = .ok (.aload_n 0, 1) := by decide +kernel
theorem dX11_clear_1 : decode cX11_clear 1 = .ok (.getfield 75, 3) := by decide +kernel
theorem dX11_clear_4 : decode cX11_clear 4 = .ok (.invokevirtual 279, 3) := by decide +kernel
theorem dX11_clear_7 : decode cX11_clear 7 = .ok (.aload_n 0, 1) := by decide +kernel
theorem dX11_clear_8 : decode cX11_clear 8 = .ok (.invokevirtual 143, 3) := by decide +kernel
theorem dX11_clear_11 : decode cX11_clear 11 = .ok (.ireturn, 1) := by decide +kernel
theorem dX11_laid_0 : decode cX11_laid 0 = .ok (.aload_n 0, 1) := by decide +kernel
theorem dX11_laid_1 : decode cX11_laid 1 = .ok (.getfield 10, 3) := by decide +kernel
theorem dX11_laid_4 : decode cX11_laid 4 = .ok (.iload_n 1, 1) := by decide +kernel
theorem dX11_laid_5 : decode cX11_laid 5 = .ok (.invokevirtual 118, 3) := by decide +kernel
theorem dX11_laid_8 : decode cX11_laid 8 = .ok (.ifCond .ne 9, 3) := by decide +kernel
theorem dX11_laid_11 : decode cX11_laid 11 = .ok (.aload_n 0, 1) := by decide +kernel
theorem dX11_laid_12 : decode cX11_laid 12 = .ok (.iconst 1, 1) := by decide +kernel
theorem dX11_laid_13 : decode cX11_laid 13 = .ok (.invokevirtual 100, 3) := by decide +kernel
theorem dX11_laid_16 : decode cX11_laid 16 = .ok (.ireturn, 1) := by decide +kernel
theorem dX11_laid_17 : decode cX11_laid 17 = .ok (.aload_n 0, 1) := by decide +kernel
theorem dX11_laid_18 : decode cX11_laid 18 = .ok (.getfield 75, 3) := by decide +kernel
theorem dX11_laid_21 : decode cX11_laid 21 = .ok (.aload_n 0, 1) := by decide +kernel
theorem dX11_laid_22 : decode cX11_laid 22 = .ok (.getfield 10, 3) := by decide +kernel
theorem dX11_laid_25 : decode cX11_laid 25 = .ok (.invokevirtual 282, 3) := by decide +kernel
theorem dX11_laid_28 : decode cX11_laid 28 = .ok (.istore_n 2, 1) := by decide +kernel
theorem dX11_laid_29 : decode cX11_laid 29 = .ok (.iload_n 2, 1) := by decide +kernel
theorem dX11_laid_30 : decode cX11_laid 30 = .ok (.ifCond .ne 19, 3) := by decide +kernel
theorem dX11_laid_33 : decode cX11_laid 33 = .ok (.aload_n 0, 1) := by decide +kernel
theorem dX11_laid_34 : decode cX11_laid 34 = .ok (.aload_n 0, 1) := by decide +kernel
theorem dX11_laid_35 : decode cX11_laid 35 = .ok (.getfield 75, 3) := by decide +kernel
theorem dX11_laid_38 : decode cX11_laid 38 = .ok (.getfield 286, 3) := by decide +kernel
theorem dX11_laid_41 : decode cX11_laid 41 = .ok (.iload_n 1, 1) := by decide +kernel
theorem dX11_laid_42 : decode cX11_laid 42 = .ok (.iaload, 1) := by decide +kernel
theorem dX11_laid_43 : decode cX11_laid 43 = .ok (.invokevirtual 111, 3) := by decide +kernel
theorem dX11_laid_46 : decode cX11_laid 46 = .ok (.goto 8, 3) := by decide +kernel
theorem dX11_laid_49 : decode cX11_laid 49 = .ok (.aload_n 0, 1) := by decide +kernel
theorem dX11_laid_50 : decode cX11_laid 50 = .ok (.iload_n 2, 1) := by decide +kernel
theorem dX11_laid_51 : decode cX11_laid 51 = .ok (.invokevirtual 100, 3) := by decide +kernel
theorem dX11_laid_54 : decode cX11_laid 54 = .ok (.ireturn, 1) := by decide +kernel
theorem dX11_tries_0 : decode cX11_tries 0 = .ok (.aload_n 0, 1) := by decide +kernel
theorem dX11_tries_1 : decode cX11_tries 1 = .ok (.getfield 75, 3) := by decide +kernel
theorem dX11_tries_4 : decode cX11_tries 4 = .ok (.aload_n 0, 1) := by decide +kernel
theorem dX11_tries_5 : decode cX11_tries 5 = .ok (.getfield 10, 3) := by decide +kernel
theorem dX11_tries_8 : decode cX11_tries 8 = .ok (.invokevirtual 282, 3) := by decide +kernel
theorem dX11_tries_11 : decode cX11_tries 11 = .ok (.istore_n 1, 1) := by decide +kernel
theorem dX11_tries_12 : decode cX11_tries 12 = .ok (.iload_n 1, 1) := by decide +kernel
theorem dX11_tries_13 : decode cX11_tries 13 = .ok (.ifCond .ne 17, 3) := by decide +kernel
theorem dX11_tries_16 : decode cX11_tries 16 = .ok (.aload_n 0, 1) := by decide +kernel
theorem dX11_tries_17 : decode cX11_tries 17 = .ok (.aload_n 0, 1) := by decide +kernel
theorem dX11_tries_18 : decode cX11_tries 18 = .ok (.getfield 75, 3) := by decide +kernel
theorem dX11_tries_21 : decode cX11_tries 21 = .ok (.getfield 289, 3) := by decide +kernel
theorem dX11_tries_24 : decode cX11_tries 24 = .ok (.invokevirtual 111, 3) := by decide +kernel
theorem dX11_tries_27 : decode cX11_tries 27 = .ok (.goto 8, 3) := by decide +kernel
theorem dX11_tries_30 : decode cX11_tries 30 = .ok (.aload_n 0, 1) := by decide +kernel
theorem dX11_tries_31 : decode cX11_tries 31 = .ok (.iload_n 1, 1) := by decide +kernel
theorem dX11_tries_32 : decode cX11_tries 32 = .ok (.invokevirtual 100, 3) := by decide +kernel
theorem dX11_tries_35 : decode cX11_tries 35 = .ok (.ireturn, 1) := by decide +kernel
theorem dX11_answer_0 : decode cX11_answer 0 = .ok (.aload_n 0, 1) := by decide +kernel
theorem dX11_answer_1 : decode cX11_answer 1 = .ok (.iconst 0, 1) := by decide +kernel
theorem dX11_answer_2 : decode cX11_answer 2 = .ok (.putfield 93, 3) := by decide +kernel
theorem dX11_answer_5 : decode cX11_answer 5 = .ok (.iload_n 1, 1) := by decide +kernel
theorem dX11_answer_6 : decode cX11_answer 6 = .ok (.ireturn, 1) := by decide +kernel
theorem dX11_yes_0 : decode cX11_yes 0 = .ok (.aload_n 0, 1) := by decide +kernel
theorem dX11_yes_1 : decode cX11_yes 1 = .ok (.iconst 0, 1) := by decide +kernel
theorem dX11_yes_2 : decode cX11_yes 2 = .ok (.putfield 93, 3) := by decide +kernel
theorem dX11_yes_5 : decode cX11_yes 5 = .ok (.iconst 1, 1) := by decide +kernel
theorem dX11_yes_6 : decode cX11_yes 6 = .ok (.ireturn, 1) := by decide +kernel
theorem dX11_none_0 : decode cX11_none 0 = .ok (.aload_n 0, 1) := by decide +kernel
theorem dX11_none_1 : decode cX11_none 1 = .ok (.iload_n 1, 1) := by decide +kernel
theorem dX11_none_2 : decode cX11_none 2 = .ok (.putfield 93, 3) := by decide +kernel
theorem dX11_none_5 : decode cX11_none 5 = .ok (.iconst (-1), 1) := by decide +kernel
theorem dX11_none_6 : decode cX11_none 6 = .ok (.ireturn, 1) := by decide +kernel
theorem dX11_no_0 : decode cX11_no 0 = .ok (.aload_n 0, 1) := by decide +kernel
theorem dX11_no_1 : decode cX11_no 1 = .ok (.iload_n 1, 1) := by decide +kernel
theorem dX11_no_2 : decode cX11_no 2 = .ok (.putfield 93, 3) := by decide +kernel
theorem dX11_no_5 : decode cX11_no 5 = .ok (.iconst 0, 1) := by decide +kernel
theorem dX11_no_6 : decode cX11_no 6 = .ok (.ireturn, 1) := by decide +kernel
theorem dX11_whyNoHeap_0 : decode cX11_whyNoHeap 0 = .ok (.aload_n 0, 1) := by decide +kernel
theorem dX11_whyNoHeap_1 : decode cX11_whyNoHeap 1 = .ok (.getfield 19, 3) := by decide +kernel
theorem dX11_whyNoHeap_4 : decode cX11_whyNoHeap 4 = .ok (.iload_n 1, 1) := by decide +kernel
theorem dX11_whyNoHeap_5 : decode cX11_whyNoHeap 5 = .ok (.invokevirtual 135, 3) := by decide +kernel
theorem dX11_whyNoHeap_8 : decode cX11_whyNoHeap 8 = .ok (.ifCond .ne 5, 3) := by decide +kernel
theorem dX11_whyNoHeap_11 : decode cX11_whyNoHeap 11 = .ok (.iconst 1, 1) := by decide +kernel
theorem dX11_whyNoHeap_12 : decode cX11_whyNoHeap 12 = .ok (.ireturn, 1) := by decide +kernel
theorem dX11_whyNoHeap_13 : decode cX11_whyNoHeap 13 = .ok (.iload_n 2, 1) := by decide +kernel
theorem dX11_whyNoHeap_14 : decode cX11_whyNoHeap 14 = .ok (.invokestatic 181, 3) := by decide +kernel
theorem dX11_whyNoHeap_17 : decode cX11_whyNoHeap 17 = .ok (.ifCond .ne 5, 3) := by decide +kernel
theorem dX11_whyNoHeap_20 : decode cX11_whyNoHeap 20 = .ok (.iconst 2, 1) := by decide +kernel
theorem dX11_whyNoHeap_21 : decode cX11_whyNoHeap 21 = .ok (.ireturn, 1) := by decide +kernel
theorem dX11_whyNoHeap_22 : decode cX11_whyNoHeap 22 = .ok (.aload_n 0, 1) := by decide +kernel
theorem dX11_whyNoHeap_23 : decode cX11_whyNoHeap 23 = .ok (.getfield 40, 3) := by decide +kernel
theorem dX11_whyNoHeap_26 : decode cX11_whyNoHeap 26 = .ok (.aload_n 0, 1) := by decide +kernel
theorem dX11_whyNoHeap_27 : decode cX11_whyNoHeap 27 = .ok (.getfield 33, 3) := by decide +kernel
theorem dX11_whyNoHeap_30 : decode cX11_whyNoHeap 30 = .ok (.iload_n 2, 1) := by decide +kernel
theorem dX11_whyNoHeap_31 : decode cX11_whyNoHeap 31 = .ok (.invokevirtual 192, 3) := by decide +kernel
theorem dX11_whyNoHeap_34 : decode cX11_whyNoHeap 34 = .ok (.aload_n 0, 1) := by decide +kernel
theorem dX11_whyNoHeap_35 : decode cX11_whyNoHeap 35 = .ok (.getfield 40, 3) := by decide +kernel
theorem dX11_whyNoHeap_38 : decode cX11_whyNoHeap 38 = .ok (.getfield 202, 3) := by decide +kernel
theorem dX11_whyNoHeap_41 : decode cX11_whyNoHeap 41 = .ok (.iload_n 1, 1) := by decide +kernel
theorem dX11_whyNoHeap_42 : decode cX11_whyNoHeap 42 = .ok (.iaload, 1) := by decide +kernel
theorem dX11_whyNoHeap_43 : decode cX11_whyNoHeap 43 = .ok (.iconst (-1), 1) := by decide +kernel
theorem dX11_whyNoHeap_44 : decode cX11_whyNoHeap 44 = .ok (.if_icmp .ne 8, 3) := by decide +kernel
theorem dX11_whyNoHeap_47 : decode cX11_whyNoHeap 47 = .ok (.bipush 6, 2) := by decide +kernel
theorem dX11_whyNoHeap_49 : decode cX11_whyNoHeap 49 = .ok (.goto 4, 3) := by decide +kernel
theorem dX11_whyNoHeap_52 : decode cX11_whyNoHeap 52 = .ok (.iconst 0, 1) := by decide +kernel
theorem dX11_whyNoHeap_53 : decode cX11_whyNoHeap 53 = .ok (.ireturn, 1) := by decide +kernel
theorem dX11_within_0 : decode cX11_within 0 = .ok (.iload_n 0, 1) := by decide +kernel
theorem dX11_within_1 : decode cX11_within 1 = .ok (.iload_n 1, 1) := by decide +kernel
theorem dX11_within_2 : decode cX11_within 2 = .ok (.if_icmp .lt 12, 3) := by decide +kernel
theorem dX11_within_5 : decode cX11_within 5 = .ok (.iload_n 0, 1) := by decide +kernel
theorem dX11_within_6 : decode cX11_within 6 = .ok (.iload_n 2, 1) := by decide +kernel
theorem dX11_within_7 : decode cX11_within 7 = .ok (.if_icmp .gt 7, 3) := by decide +kernel
theorem dX11_within_10 : decode cX11_within 10 = .ok (.iconst 1, 1) := by decide +kernel
theorem dX11_within_11 : decode cX11_within 11 = .ok (.goto 4, 3) := by decide +kernel
theorem dX11_within_14 : decode cX11_within 14 = .ok (.iconst 0, 1) := by decide +kernel
theorem dX11_within_15 : decode cX11_within 15 = .ok (.ireturn, 1) := by decide +kernel
theorem dX11_isDay_0 : decode cX11_isDay 0 = .ok (.iload_n 0, 1) := by decide +kernel
theorem dX11_isDay_1 : decode cX11_isDay 1 = .ok (.iconst 0, 1) := by decide +kernel
theorem dX11_isDay_2 : decode cX11_isDay 2 = .ok (.sipush 999, 3) := by decide +kernel
theorem dX11_isDay_5 : decode cX11_isDay 5 = .ok (.invokestatic 96, 3) := by decide +kernel
theorem dX11_isDay_8 : decode cX11_isDay 8 = .ok (.ireturn, 1) := by decide +kernel
theorem dX11_lowestBit_0 : decode cX11_lowestBit 0 = .ok (.iload_n 0, 1) := by decide +kernel
theorem dX11_lowestBit_1 : decode cX11_lowestBit 1 = .ok (.ifCond .ne 7, 3) := by decide +kernel
theorem dX11_lowestBit_4 : decode cX11_lowestBit 4 = .ok (.iconst (-1), 1) := by decide +kernel
theorem dX11_lowestBit_5 : decode cX11_lowestBit 5 = .ok (.goto 12, 3) := by decide +kernel
theorem dX11_lowestBit_8 : decode cX11_lowestBit 8 = .ok (.iload_n 0, 1) := by decide +kernel
theorem dX11_lowestBit_9 : decode cX11_lowestBit 9 = .ok (.iload_n 0, 1) := by decide +kernel
theorem dX11_lowestBit_10 : decode cX11_lowestBit 10 = .ok (.ineg, 1) := by decide +kernel
theorem dX11_lowestBit_11 : decode cX11_lowestBit 11 = .ok (.iand, 1) := by decide +kernel
theorem dX11_lowestBit_12 : decode cX11_lowestBit 12 = .ok (.iconst 1, 1) := by decide +kernel
theorem dX11_lowestBit_13 : decode cX11_lowestBit 13 = .ok (.isub, 1) := by decide +kernel
theorem dX11_lowestBit_14 : decode cX11_lowestBit 14 = .ok (.invokestatic 126, 3) := by decide +kernel
theorem dX11_lowestBit_17 : decode cX11_lowestBit 17 = .ok (.ireturn, 1) := by decide +kernel
theorem dJ6_bitCount_0f7a4_0 : decode cJ6_bitCount_0f7a4 0 = .ok (.iload_n 0, 1) := by decide +kernel
theorem dJ6_bitCount_0f7a4_1 : decode cJ6_bitCount_0f7a4 1 = .ok (.iload_n 0, 1) := by decide +kernel
theorem dJ6_bitCount_0f7a4_2 : decode cJ6_bitCount_0f7a4 2 = .ok (.iconst 1, 1) := by decide +kernel
theorem dJ6_bitCount_0f7a4_3 : decode cJ6_bitCount_0f7a4 3 = .ok (.iushr, 1) := by decide +kernel
theorem dJ6_bitCount_0f7a4_4 : decode cJ6_bitCount_0f7a4 4 = .ok (.ldc_w 265, 3) := by decide +kernel
theorem dJ6_bitCount_0f7a4_7 : decode cJ6_bitCount_0f7a4 7 = .ok (.iand, 1) := by decide +kernel
theorem dJ6_bitCount_0f7a4_8 : decode cJ6_bitCount_0f7a4 8 = .ok (.isub, 1) := by decide +kernel
theorem dJ6_bitCount_0f7a4_9 : decode cJ6_bitCount_0f7a4 9 = .ok (.istore_n 0, 1) := by decide +kernel
theorem dJ6_bitCount_0f7a4_10 : decode cJ6_bitCount_0f7a4 10 = .ok (.iload_n 0, 1) := by decide +kernel
theorem dJ6_bitCount_0f7a4_11 : decode cJ6_bitCount_0f7a4 11 = .ok (.ldc_w 266, 3) := by decide +kernel
theorem dJ6_bitCount_0f7a4_14 : decode cJ6_bitCount_0f7a4 14 = .ok (.iand, 1) := by decide +kernel
theorem dJ6_bitCount_0f7a4_15 : decode cJ6_bitCount_0f7a4 15 = .ok (.iload_n 0, 1) := by decide +kernel
theorem dJ6_bitCount_0f7a4_16 : decode cJ6_bitCount_0f7a4 16 = .ok (.iconst 2, 1) := by decide +kernel
theorem dJ6_bitCount_0f7a4_17 : decode cJ6_bitCount_0f7a4 17 = .ok (.iushr, 1) := by decide +kernel
theorem dJ6_bitCount_0f7a4_18 : decode cJ6_bitCount_0f7a4 18 = .ok (.ldc_w 266, 3) := by decide +kernel
theorem dJ6_bitCount_0f7a4_21 : decode cJ6_bitCount_0f7a4 21 = .ok (.iand, 1) := by decide +kernel
theorem dJ6_bitCount_0f7a4_22 : decode cJ6_bitCount_0f7a4 22 = .ok (.iadd, 1) := by decide +kernel
theorem dJ6_bitCount_0f7a4_23 : decode cJ6_bitCount_0f7a4 23 = .ok (.istore_n 0, 1) := by decide +kernel
theorem dJ6_bitCount_0f7a4_24 : decode cJ6_bitCount_0f7a4 24 = .ok (.iload_n 0, 1) := by decide +kernel
theorem dJ6_bitCount_0f7a4_25 : decode cJ6_bitCount_0f7a4 25 = .ok (.iload_n 0, 1) := by decide +kernel
theorem dJ6_bitCount_0f7a4_26 : decode cJ6_bitCount_0f7a4 26 = .ok (.iconst 4, 1) := by decide +kernel
theorem dJ6_bitCount_0f7a4_27 : decode cJ6_bitCount_0f7a4 27 = .ok (.iushr, 1) := by decide +kernel
theorem dJ6_bitCount_0f7a4_28 : decode cJ6_bitCount_0f7a4 28 = .ok (.iadd, 1) := by decide +kernel
theorem dJ6_bitCount_0f7a4_29 : decode cJ6_bitCount_0f7a4 29 = .ok (.ldc_w 267, 3) := by decide +kernel
theorem dJ6_bitCount_0f7a4_32 : decode cJ6_bitCount_0f7a4 32 = .ok (.iand, 1) := by decide +kernel
theorem dJ6_bitCount_0f7a4_33 : decode cJ6_bitCount_0f7a4 33 = .ok (.istore_n 0, 1) := by decide +kernel
theorem dJ6_bitCount_0f7a4_34 : decode cJ6_bitCount_0f7a4 34 = .ok (.iload_n 0, 1) := by decide +kernel
theorem dJ6_bitCount_0f7a4_35 : decode cJ6_bitCount_0f7a4 35 = .ok (.iload_n 0, 1) := by decide +kernel
theorem dJ6_bitCount_0f7a4_36 : decode cJ6_bitCount_0f7a4 36 = .ok (.bipush 8, 2) := by decide +kernel
theorem dJ6_bitCount_0f7a4_38 : decode cJ6_bitCount_0f7a4 38 = .ok (.iushr, 1) := by decide +kernel
theorem dJ6_bitCount_0f7a4_39 : decode cJ6_bitCount_0f7a4 39 = .ok (.iadd, 1) := by decide +kernel
theorem dJ6_bitCount_0f7a4_40 : decode cJ6_bitCount_0f7a4 40 = .ok (.istore_n 0, 1) := by decide +kernel
theorem dJ6_bitCount_0f7a4_41 : decode cJ6_bitCount_0f7a4 41 = .ok (.iload_n 0, 1) := by decide +kernel
theorem dJ6_bitCount_0f7a4_42 : decode cJ6_bitCount_0f7a4 42 = .ok (.iload_n 0, 1) := by decide +kernel
theorem dJ6_bitCount_0f7a4_43 : decode cJ6_bitCount_0f7a4 43 = .ok (.bipush 16, 2) := by decide +kernel
theorem dJ6_bitCount_0f7a4_45 : decode cJ6_bitCount_0f7a4 45 = .ok (.iushr, 1) := by decide +kernel
theorem dJ6_bitCount_0f7a4_46 : decode cJ6_bitCount_0f7a4 46 = .ok (.iadd, 1) := by decide +kernel
theorem dJ6_bitCount_0f7a4_47 : decode cJ6_bitCount_0f7a4 47 = .ok (.istore_n 0, 1) := by decide +kernel
theorem dJ6_bitCount_0f7a4_48 : decode cJ6_bitCount_0f7a4 48 = .ok (.iload_n 0, 1) := by decide +kernel
theorem dJ6_bitCount_0f7a4_49 : decode cJ6_bitCount_0f7a4 49 = .ok (.bipush 63, 2) := by decide +kernel
theorem dJ6_bitCount_0f7a4_51 : decode cJ6_bitCount_0f7a4 51 = .ok (.iand, 1) := by decide +kernel
theorem dJ6_bitCount_0f7a4_52 : decode cJ6_bitCount_0f7a4 52 = .ok (.ireturn, 1) := by decide +kernel
theorem dJ9_floorDiv_f86c9_0 : decode cJ9_floorDiv_f86c9 0 = .ok (.lload_n 0, 1) := by decide +kernel
theorem dJ9_floorDiv_f86c9_1 : decode cJ9_floorDiv_f86c9 1 = .ok (.lload_n 2, 1) := by decide +kernel
theorem dJ9_floorDiv_f86c9_2 : decode cJ9_floorDiv_f86c9 2 = .ok (.ldiv, 1) := by decide +kernel
theorem dJ9_floorDiv_f86c9_3 : decode cJ9_floorDiv_f86c9 3 = .ok (.lstore 4, 2) := by decide +kernel
theorem dJ9_floorDiv_f86c9_5 : decode cJ9_floorDiv_f86c9 5 = .ok (.lload_n 0, 1) := by decide +kernel
theorem dJ9_floorDiv_f86c9_6 : decode cJ9_floorDiv_f86c9 6 = .ok (.lload_n 2, 1) := by decide +kernel
theorem dJ9_floorDiv_f86c9_7 : decode cJ9_floorDiv_f86c9 7 = .ok (.lxor, 1) := by decide +kernel
theorem dJ9_floorDiv_f86c9_8 : decode cJ9_floorDiv_f86c9 8 = .ok (.lconst 0, 1) := by decide +kernel
theorem dJ9_floorDiv_f86c9_9 : decode cJ9_floorDiv_f86c9 9 = .ok (.lcmp, 1) := by decide +kernel
theorem dJ9_floorDiv_f86c9_10 : decode cJ9_floorDiv_f86c9 10 = .ok (.ifCond .ge 17, 3) := by decide +kernel
theorem dJ9_floorDiv_f86c9_13 : decode cJ9_floorDiv_f86c9 13 = .ok (.lload 4, 2) := by decide +kernel
theorem dJ9_floorDiv_f86c9_15 : decode cJ9_floorDiv_f86c9 15 = .ok (.lload_n 2, 1) := by decide +kernel
theorem dJ9_floorDiv_f86c9_16 : decode cJ9_floorDiv_f86c9 16 = .ok (.lmul, 1) := by decide +kernel
theorem dJ9_floorDiv_f86c9_17 : decode cJ9_floorDiv_f86c9 17 = .ok (.lload_n 0, 1) := by decide +kernel
theorem dJ9_floorDiv_f86c9_18 : decode cJ9_floorDiv_f86c9 18 = .ok (.lcmp, 1) := by decide +kernel
theorem dJ9_floorDiv_f86c9_19 : decode cJ9_floorDiv_f86c9 19 = .ok (.ifCond .eq 8, 3) := by decide +kernel
theorem dJ9_floorDiv_f86c9_22 : decode cJ9_floorDiv_f86c9 22 = .ok (.lload 4, 2) := by decide +kernel
theorem dJ9_floorDiv_f86c9_24 : decode cJ9_floorDiv_f86c9 24 = .ok (.lconst 1, 1) := by decide +kernel
theorem dJ9_floorDiv_f86c9_25 : decode cJ9_floorDiv_f86c9 25 = .ok (.lsub, 1) := by decide +kernel
theorem dJ9_floorDiv_f86c9_26 : decode cJ9_floorDiv_f86c9 26 = .ok (.lreturn, 1) := by decide +kernel
theorem dJ9_floorDiv_f86c9_27 : decode cJ9_floorDiv_f86c9 27 = .ok (.lload 4, 2) := by decide +kernel
theorem dJ9_floorDiv_f86c9_29 : decode cJ9_floorDiv_f86c9 29 = .ok (.lreturn, 1) := by decide +kernel
theorem dJ9_floorMod_f86c9_0 : decode cJ9_floorMod_f86c9 0 = .ok (.lload_n 0, 1) := by decide +kernel
theorem dJ9_floorMod_f86c9_1 : decode cJ9_floorMod_f86c9 1 = .ok (.lload_n 2, 1) := by decide +kernel
theorem dJ9_floorMod_f86c9_2 : decode cJ9_floorMod_f86c9 2 = .ok (.lrem, 1) := by decide +kernel
theorem dJ9_floorMod_f86c9_3 : decode cJ9_floorMod_f86c9 3 = .ok (.lstore 4, 2) := by decide +kernel
theorem dJ9_floorMod_f86c9_5 : decode cJ9_floorMod_f86c9 5 = .ok (.lload_n 0, 1) := by decide +kernel
theorem dJ9_floorMod_f86c9_6 : decode cJ9_floorMod_f86c9 6 = .ok (.lload_n 2, 1) := by decide +kernel
theorem dJ9_floorMod_f86c9_7 : decode cJ9_floorMod_f86c9 7 = .ok (.lxor, 1) := by decide +kernel
theorem dJ9_floorMod_f86c9_8 : decode cJ9_floorMod_f86c9 8 = .ok (.lconst 0, 1) := by decide +kernel
theorem dJ9_floorMod_f86c9_9 : decode cJ9_floorMod_f86c9 9 = .ok (.lcmp, 1) := by decide +kernel
theorem dJ9_floorMod_f86c9_10 : decode cJ9_floorMod_f86c9 10 = .ok (.ifCond .ge 15, 3) := by decide +kernel
theorem dJ9_floorMod_f86c9_13 : decode cJ9_floorMod_f86c9 13 = .ok (.lload 4, 2) := by decide +kernel
theorem dJ9_floorMod_f86c9_15 : decode cJ9_floorMod_f86c9 15 = .ok (.lconst 0, 1) := by decide +kernel
theorem dJ9_floorMod_f86c9_16 : decode cJ9_floorMod_f86c9 16 = .ok (.lcmp, 1) := by decide +kernel
theorem dJ9_floorMod_f86c9_17 : decode cJ9_floorMod_f86c9 17 = .ok (.ifCond .eq 8, 3) := by decide +kernel
theorem dJ9_floorMod_f86c9_20 : decode cJ9_floorMod_f86c9 20 = .ok (.lload 4, 2) := by decide +kernel
theorem dJ9_floorMod_f86c9_22 : decode cJ9_floorMod_f86c9 22 = .ok (.lload_n 2, 1) := by decide +kernel
theorem dJ9_floorMod_f86c9_23 : decode cJ9_floorMod_f86c9 23 = .ok (.ladd, 1) := by decide +kernel
theorem dJ9_floorMod_f86c9_24 : decode cJ9_floorMod_f86c9 24 = .ok (.lreturn, 1) := by decide +kernel
theorem dJ9_floorMod_f86c9_25 : decode cJ9_floorMod_f86c9 25 = .ok (.lload 4, 2) := by decide +kernel
theorem dJ9_floorMod_f86c9_27 : decode cJ9_floorMod_f86c9 27 = .ok (.lreturn, 1) := by decide +kernel
theorem dJ9_abs_067f4_0 : decode cJ9_abs_067f4 0 = .ok (.lload_n 0, 1) := by decide +kernel
theorem dJ9_abs_067f4_1 : decode cJ9_abs_067f4 1 = .ok (.lconst 0, 1) := by decide +kernel
theorem dJ9_abs_067f4_2 : decode cJ9_abs_067f4 2 = .ok (.lcmp, 1) := by decide +kernel
theorem dJ9_abs_067f4_3 : decode cJ9_abs_067f4 3 = .ok (.ifCond .ge 8, 3) := by decide +kernel
theorem dJ9_abs_067f4_6 : decode cJ9_abs_067f4 6 = .ok (.lload_n 0, 1) := by decide +kernel
theorem dJ9_abs_067f4_7 : decode cJ9_abs_067f4 7 = .ok (.lneg, 1) := by decide +kernel
theorem dJ9_abs_067f4_8 : decode cJ9_abs_067f4 8 = .ok (.goto 4, 3) := by decide +kernel
theorem dJ9_abs_067f4_11 : decode cJ9_abs_067f4 11 = .ok (.lload_n 0, 1) := by decide +kernel
theorem dJ9_abs_067f4_12 : decode cJ9_abs_067f4 12 = .ok (.lreturn, 1) := by decide +kernel
theorem dJ9_max_7cf53_0 : decode cJ9_max_7cf53 0 = .ok (.iload_n 0, 1) := by decide +kernel
theorem dJ9_max_7cf53_1 : decode cJ9_max_7cf53 1 = .ok (.iload_n 1, 1) := by decide +kernel
theorem dJ9_max_7cf53_2 : decode cJ9_max_7cf53 2 = .ok (.if_icmp .lt 7, 3) := by decide +kernel
theorem dJ9_max_7cf53_5 : decode cJ9_max_7cf53 5 = .ok (.iload_n 0, 1) := by decide +kernel
theorem dJ9_max_7cf53_6 : decode cJ9_max_7cf53 6 = .ok (.goto 4, 3) := by decide +kernel
theorem dJ9_max_7cf53_9 : decode cJ9_max_7cf53 9 = .ok (.iload_n 1, 1) := by decide +kernel
theorem dJ9_max_7cf53_10 : decode cJ9_max_7cf53 10 = .ok (.ireturn, 1) := by decide +kernel
theorem dJ9_min_7cf53_0 : decode cJ9_min_7cf53 0 = .ok (.iload_n 0, 1) := by decide +kernel
theorem dJ9_min_7cf53_1 : decode cJ9_min_7cf53 1 = .ok (.iload_n 1, 1) := by decide +kernel
theorem dJ9_min_7cf53_2 : decode cJ9_min_7cf53 2 = .ok (.if_icmp .gt 7, 3) := by decide +kernel
theorem dJ9_min_7cf53_5 : decode cJ9_min_7cf53 5 = .ok (.iload_n 0, 1) := by decide +kernel
theorem dJ9_min_7cf53_6 : decode cJ9_min_7cf53 6 = .ok (.goto 4, 3) := by decide +kernel
theorem dJ9_min_7cf53_9 : decode cJ9_min_7cf53 9 = .ok (.iload_n 1, 1) := by decide +kernel
theorem dJ9_min_7cf53_10 : decode cJ9_min_7cf53 10 = .ok (.ireturn, 1) := by decide +kernel
theorem dJ0_length_8abf5_0 : decode cJ0_length_8abf5 0 = .ok (.aload_n 0, 1) := by decide +kernel
theorem dJ0_length_8abf5_1 : decode cJ0_length_8abf5 1 = .ok (.getfield 9, 3) := by decide +kernel
theorem dJ0_length_8abf5_4 : decode cJ0_length_8abf5 4 = .ok (.arraylength, 1) := by decide +kernel
theorem dJ0_length_8abf5_5 : decode cJ0_length_8abf5 5 = .ok (.aload_n 0, 1) := by decide +kernel
theorem dJ0_length_8abf5_6 : decode cJ0_length_8abf5 6 = .ok (.invokevirtual 335, 3) := by decide +kernel
theorem dJ0_length_8abf5_9 : decode cJ0_length_8abf5 9 = .ok (.ishr, 1) := by decide +kernel
theorem dJ0_length_8abf5_10 : decode cJ0_length_8abf5 10 = .ok (.ireturn, 1) := by decide +kernel
theorem dJ0_charAt_5068e_0 : decode cJ0_charAt_5068e 0 = .ok (.aload_n 0, 1) := by decide +kernel
theorem dJ0_charAt_5068e_1 : decode cJ0_charAt_5068e 1 = .ok (.invokevirtual 492, 3) := by decide +kernel
theorem dJ0_charAt_5068e_4 : decode cJ0_charAt_5068e 4 = .ok (.ifCond .eq 12, 3) := by decide +kernel
theorem dJ0_charAt_5068e_7 : decode cJ0_charAt_5068e 7 = .ok (.aload_n 0, 1) := by decide +kernel
theorem dJ0_charAt_5068e_8 : decode cJ0_charAt_5068e 8 = .ok (.getfield 9, 3) := by decide +kernel
theorem dJ0_charAt_5068e_11 : decode cJ0_charAt_5068e 11 = .ok (.iload_n 1, 1) := by decide +kernel
theorem dJ0_charAt_5068e_12 : decode cJ0_charAt_5068e 12 = .ok (.invokestatic 495, 3) := by decide +kernel
theorem dJ0_charAt_5068e_15 : decode cJ0_charAt_5068e 15 = .ok (.ireturn, 1) := by decide +kernel
theorem dJ0_charAt_5068e_16 : decode cJ0_charAt_5068e 16 = .ok (.aload_n 0, 1) := by decide +kernel
theorem dJ0_charAt_5068e_17 : decode cJ0_charAt_5068e 17 = .ok (.getfield 9, 3) := by decide +kernel
theorem dJ0_charAt_5068e_20 : decode cJ0_charAt_5068e 20 = .ok (.iload_n 1, 1) := by decide +kernel
theorem dJ0_charAt_5068e_21 : decode cJ0_charAt_5068e 21 = .ok (.invokestatic 498, 3) := by decide +kernel
theorem dJ0_charAt_5068e_24 : decode cJ0_charAt_5068e 24 = .ok (.ireturn, 1) := by decide +kernel
theorem dJ0_coder_7d493_0 : decode cJ0_coder_7d493 0 = .ok (.getstatic 38, 3) := by decide +kernel
theorem dJ0_coder_7d493_3 : decode cJ0_coder_7d493 3 = .ok (.ifCond .eq 10, 3) := by decide +kernel
theorem dJ0_coder_7d493_6 : decode cJ0_coder_7d493 6 = .ok (.aload_n 0, 1) := by decide +kernel
theorem dJ0_coder_7d493_7 : decode cJ0_coder_7d493 7 = .ok (.getfield 15, 3) := by decide +kernel
theorem dJ0_coder_7d493_10 : decode cJ0_coder_7d493 10 = .ok (.goto 4, 3) := by decide +kernel
theorem dJ0_coder_7d493_13 : decode cJ0_coder_7d493 13 = .ok (.iconst 1, 1) := by decide +kernel
theorem dJ0_coder_7d493_14 : decode cJ0_coder_7d493 14 = .ok (.ireturn, 1) := by decide +kernel
theorem dJ0_isLatin1_aae02_0 : decode cJ0_isLatin1_aae02 0 = .ok (.getstatic 38, 3) := by decide +kernel
theorem dJ0_isLatin1_aae02_3 : decode cJ0_isLatin1_aae02 3 = .ok (.ifCond .eq 14, 3) := by decide +kernel
theorem dJ0_isLatin1_aae02_6 : decode cJ0_isLatin1_aae02 6 = .ok (.aload_n 0, 1) := by decide +kernel
theorem dJ0_isLatin1_aae02_7 : decode cJ0_isLatin1_aae02 7 = .ok (.getfield 15, 3) := by decide +kernel
theorem dJ0_isLatin1_aae02_10 : decode cJ0_isLatin1_aae02 10 = .ok (.ifCond .ne 7, 3) := by decide +kernel
theorem dJ0_isLatin1_aae02_13 : decode cJ0_isLatin1_aae02 13 = .ok (.iconst 1, 1) := by decide +kernel
theorem dJ0_isLatin1_aae02_14 : decode cJ0_isLatin1_aae02 14 = .ok (.goto 4, 3) := by decide +kernel
theorem dJ0_isLatin1_aae02_17 : decode cJ0_isLatin1_aae02 17 = .ok (.iconst 0, 1) := by decide +kernel
theorem dJ0_isLatin1_aae02_18 : decode cJ0_isLatin1_aae02 18 = .ok (.ireturn, 1) := by decide +kernel
theorem dJ0_checkIndex_df160_0 : decode cJ0_checkIndex_df160 0 = .ok (.iload_n 0, 1) := by decide +kernel
theorem dJ0_checkIndex_df160_1 : decode cJ0_checkIndex_df160 1 = .ok (.iload_n 1, 1) := by decide +kernel
theorem dJ0_checkIndex_df160_2 : decode cJ0_checkIndex_df160 2 = .ok (.getstatic 1053, 3) := by decide +kernel
theorem dJ0_checkIndex_df160_5 : decode cJ0_checkIndex_df160 5 = .ok (.invokestatic 1059, 3) := by decide +kernel
theorem dJ0_checkIndex_df160_8 : decode cJ0_checkIndex_df160 8 = .ok (.pop, 1) := by decide +kernel
theorem dJ0_checkIndex_df160_9 : decode cJ0_checkIndex_df160 9 = .ok (.return_, 1) := by decide +kernel
theorem dJ1_charAt_3b067_0 : decode cJ1_charAt_3b067 0 = .ok (.iload_n 1, 1) := by decide +kernel
theorem dJ1_charAt_3b067_1 : decode cJ1_charAt_3b067 1 = .ok (.aload_n 0, 1) := by decide +kernel
theorem dJ1_charAt_3b067_2 : decode cJ1_charAt_3b067 2 = .ok (.arraylength, 1) := by decide +kernel
theorem dJ1_charAt_3b067_3 : decode cJ1_charAt_3b067 3 = .ok (.invokestatic 9, 3) := by decide +kernel
theorem dJ1_charAt_3b067_6 : decode cJ1_charAt_3b067 6 = .ok (.aload_n 0, 1) := by decide +kernel
theorem dJ1_charAt_3b067_7 : decode cJ1_charAt_3b067 7 = .ok (.iload_n 1, 1) := by decide +kernel
theorem dJ1_charAt_3b067_8 : decode cJ1_charAt_3b067 8 = .ok (.baload, 1) := by decide +kernel
theorem dJ1_charAt_3b067_9 : decode cJ1_charAt_3b067 9 = .ok (.sipush 255, 3) := by decide +kernel
theorem dJ1_charAt_3b067_12 : decode cJ1_charAt_3b067 12 = .ok (.iand, 1) := by decide +kernel
theorem dJ1_charAt_3b067_13 : decode cJ1_charAt_3b067 13 = .ok (.i2c, 1) := by decide +kernel
theorem dJ1_charAt_3b067_14 : decode cJ1_charAt_3b067 14 = .ok (.ireturn, 1) := by decide +kernel
theorem dJ2_getChar_3b067_0 : decode cJ2_getChar_3b067 0 = .ok (.getstatic 44, 3) := by decide +kernel
theorem dJ2_getChar_3b067_3 : decode cJ2_getChar_3b067 3 = .ok (.ifCond .ne 25, 3) := by decide +kernel
theorem dJ2_getChar_3b067_6 : decode cJ2_getChar_3b067 6 = .ok (.iload_n 1, 1) := by decide +kernel
theorem dJ2_getChar_3b067_7 : decode cJ2_getChar_3b067 7 = .ok (.ifCond .lt 11, 3) := by decide +kernel
theorem dJ2_getChar_3b067_10 : decode cJ2_getChar_3b067 10 = .ok (.iload_n 1, 1) := by decide +kernel
theorem dJ2_getChar_3b067_11 : decode cJ2_getChar_3b067 11 = .ok (.aload_n 0, 1) := by decide +kernel
theorem dJ2_getChar_3b067_12 : decode cJ2_getChar_3b067 12 = .ok (.invokestatic 48, 3) := by decide +kernel
theorem dJ2_getChar_3b067_15 : decode cJ2_getChar_3b067 15 = .ok (.if_icmp .lt 13, 3) := by decide +kernel
theorem dJ2_getChar_3b067_18 : decode cJ2_getChar_3b067 18 = .ok (.new 52, 3) := by decide +kernel
theorem dJ2_getChar_3b067_21 : decode cJ2_getChar_3b067 21 = .ok (.dup, 1) := by decide +kernel
theorem dJ2_getChar_3b067_22 : decode cJ2_getChar_3b067 22 = .ok (.ldc 54, 2) := by decide +kernel
theorem dJ2_getChar_3b067_24 : decode cJ2_getChar_3b067 24 = .ok (.invokespecial 56, 3) := by decide +kernel
theorem dJ2_getChar_3b067_27 : decode cJ2_getChar_3b067 27 = .ok (.athrow, 1) := by decide +kernel
theorem dJ2_getChar_3b067_28 : decode cJ2_getChar_3b067 28 = .ok (.iload_n 1, 1) := by decide +kernel
theorem dJ2_getChar_3b067_29 : decode cJ2_getChar_3b067 29 = .ok (.iconst 1, 1) := by decide +kernel
theorem dJ2_getChar_3b067_30 : decode cJ2_getChar_3b067 30 = .ok (.ishl, 1) := by decide +kernel
theorem dJ2_getChar_3b067_31 : decode cJ2_getChar_3b067 31 = .ok (.istore_n 1, 1) := by decide +kernel
theorem dJ2_getChar_3b067_32 : decode cJ2_getChar_3b067 32 = .ok (.aload_n 0, 1) := by decide +kernel
theorem dJ2_getChar_3b067_33 : decode cJ2_getChar_3b067 33 = .ok (.iload_n 1, 1) := by decide +kernel
theorem dJ2_getChar_3b067_34 : decode cJ2_getChar_3b067 34 = .ok (.iinc 1 1, 3) := by decide +kernel
theorem dJ2_getChar_3b067_37 : decode cJ2_getChar_3b067 37 = .ok (.baload, 1) := by decide +kernel
theorem dJ2_getChar_3b067_38 : decode cJ2_getChar_3b067 38 = .ok (.sipush 255, 3) := by decide +kernel
theorem dJ2_getChar_3b067_41 : decode cJ2_getChar_3b067 41 = .ok (.iand, 1) := by decide +kernel
theorem dJ2_getChar_3b067_42 : decode cJ2_getChar_3b067 42 = .ok (.getstatic 59, 3) := by decide +kernel
theorem dJ2_getChar_3b067_45 : decode cJ2_getChar_3b067 45 = .ok (.ishl, 1) := by decide +kernel
theorem dJ2_getChar_3b067_46 : decode cJ2_getChar_3b067 46 = .ok (.aload_n 0, 1) := by decide +kernel
theorem dJ2_getChar_3b067_47 : decode cJ2_getChar_3b067 47 = .ok (.iload_n 1, 1) := by decide +kernel
theorem dJ2_getChar_3b067_48 : decode cJ2_getChar_3b067 48 = .ok (.baload, 1) := by decide +kernel
theorem dJ2_getChar_3b067_49 : decode cJ2_getChar_3b067 49 = .ok (.sipush 255, 3) := by decide +kernel
theorem dJ2_getChar_3b067_52 : decode cJ2_getChar_3b067 52 = .ok (.iand, 1) := by decide +kernel
theorem dJ2_getChar_3b067_53 : decode cJ2_getChar_3b067 53 = .ok (.getstatic 63, 3) := by decide +kernel
theorem dJ2_getChar_3b067_56 : decode cJ2_getChar_3b067 56 = .ok (.ishl, 1) := by decide +kernel
theorem dJ2_getChar_3b067_57 : decode cJ2_getChar_3b067 57 = .ok (.ior, 1) := by decide +kernel
theorem dJ2_getChar_3b067_58 : decode cJ2_getChar_3b067 58 = .ok (.i2c, 1) := by decide +kernel
theorem dJ2_getChar_3b067_59 : decode cJ2_getChar_3b067 59 = .ok (.ireturn, 1) := by decide +kernel
theorem dJ2_length_9d52b_0 : decode cJ2_length_9d52b 0 = .ok (.aload_n 0, 1) := by decide +kernel
theorem dJ2_length_9d52b_1 : decode cJ2_length_9d52b 1 = .ok (.arraylength, 1) := by decide +kernel
theorem dJ2_length_9d52b_2 : decode cJ2_length_9d52b 2 = .ok (.iconst 1, 1) := by decide +kernel
theorem dJ2_length_9d52b_3 : decode cJ2_length_9d52b 3 = .ok (.ishr, 1) := by decide +kernel
theorem dJ2_length_9d52b_4 : decode cJ2_length_9d52b 4 = .ok (.ireturn, 1) := by decide +kernel
theorem dJ2_charAt_3b067_0 : decode cJ2_charAt_3b067 0 = .ok (.iload_n 1, 1) := by decide +kernel
theorem dJ2_charAt_3b067_1 : decode cJ2_charAt_3b067 1 = .ok (.aload_n 0, 1) := by decide +kernel
theorem dJ2_charAt_3b067_2 : decode cJ2_charAt_3b067 2 = .ok (.invokestatic 67, 3) := by decide +kernel
theorem dJ2_charAt_3b067_5 : decode cJ2_charAt_3b067 5 = .ok (.aload_n 0, 1) := by decide +kernel
theorem dJ2_charAt_3b067_6 : decode cJ2_charAt_3b067 6 = .ok (.iload_n 1, 1) := by decide +kernel
theorem dJ2_charAt_3b067_7 : decode cJ2_charAt_3b067 7 = .ok (.invokestatic 71, 3) := by decide +kernel
theorem dJ2_charAt_3b067_10 : decode cJ2_charAt_3b067 10 = .ok (.ireturn, 1) := by decide +kernel
theorem dJ2_checkIndex_2214a_0 : decode cJ2_checkIndex_2214a 0 = .ok (.iload_n 0, 1) := by decide +kernel
theorem dJ2_checkIndex_2214a_1 : decode cJ2_checkIndex_2214a 1 = .ok (.aload_n 1, 1) := by decide +kernel
theorem dJ2_checkIndex_2214a_2 : decode cJ2_checkIndex_2214a 2 = .ok (.invokestatic 48, 3) := by decide +kernel
theorem dJ2_checkIndex_2214a_5 : decode cJ2_checkIndex_2214a 5 = .ok (.invokestatic 414, 3) := by decide +kernel
theorem dJ2_checkIndex_2214a_8 : decode cJ2_checkIndex_2214a 8 = .ok (.return_, 1) := by decide +kernel
theorem dJ3_checkIndex_8e157_0 : decode cJ3_checkIndex_8e157 0 = .ok (.iload_n 0, 1) := by decide +kernel
theorem dJ3_checkIndex_8e157_1 : decode cJ3_checkIndex_8e157 1 = .ok (.ifCond .lt 8, 3) := by decide +kernel
theorem dJ3_checkIndex_8e157_4 : decode cJ3_checkIndex_8e157 4 = .ok (.iload_n 0, 1) := by decide +kernel
theorem dJ3_checkIndex_8e157_5 : decode cJ3_checkIndex_8e157 5 = .ok (.iload_n 1, 1) := by decide +kernel
theorem dJ3_checkIndex_8e157_6 : decode cJ3_checkIndex_8e157 6 = .ok (.if_icmp .lt 10, 3) := by decide +kernel
theorem dJ3_checkIndex_8e157_9 : decode cJ3_checkIndex_8e157 9 = .ok (.aload_n 2, 1) := by decide +kernel
theorem dJ3_checkIndex_8e157_10 : decode cJ3_checkIndex_8e157 10 = .ok (.iload_n 0, 1) := by decide +kernel
theorem dJ3_checkIndex_8e157_11 : decode cJ3_checkIndex_8e157 11 = .ok (.iload_n 1, 1) := by decide +kernel
theorem dJ3_checkIndex_8e157_12 : decode cJ3_checkIndex_8e157 12 = .ok (.invokestatic 95, 3) := by decide +kernel
theorem dJ3_checkIndex_8e157_15 : decode cJ3_checkIndex_8e157 15 = .ok (.athrow, 1) := by decide +kernel
theorem dJ3_checkIndex_8e157_16 : decode cJ3_checkIndex_8e157 16 = .ok (.iload_n 0, 1) := by decide +kernel
theorem dJ3_checkIndex_8e157_17 : decode cJ3_checkIndex_8e157 17 = .ok (.ireturn, 1) := by decide +kernel
