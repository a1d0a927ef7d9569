theorem dX8_init_0 : decode cX8_init 0 = .ok (.aload_n 0, 1) := by decide +kernel
theorem dX8_init_1 : decode cX8_init 1 = .ok (.invokespecial 1, 3) := by decide +kernel
theorem dX8_init_4 : decode cX8_init 4 = .ok (.aload_n 0, 1) := by decide +kernel
theorem dX8_init_5 : decode cX8_init 5 = .ok (.iload_n 1, 1) := by decide +kernel
theorem dX8_init_6 : decode cX8_init 6 = .ok (.putfield 7, 3) := by decide +kernel
theorem dX8_init_9 : decode cX8_init 9 = .ok (.aload_n 0, 1) := by decide +kernel
theorem dX8_init_10 : decode cX8_init 10 = .ok (.iload_n 2, 1) := by decide +kernel
theorem dX8_init_11 : decode cX8_init 11 = .ok (.putfield 13, 3) := by decide +kernel
theorem dX8_init_14 : decode cX8_init 14 = .ok (.aload_n 0, 1) := by decide +kernel
theorem dX8_init_15 : decode cX8_init 15 = .ok (.iload_n 3, 1) := by decide +kernel
theorem dX8_init_16 : decode cX8_init 16 = .ok (.putfield 16, 3) := by decide +kernel
theorem dX8_init_19 : decode cX8_init 19 = .ok (.aload_n 0, 1) := by decide +kernel
theorem dX8_init_20 : decode cX8_init 20 = .ok (.iload 4, 2) := by decide +kernel
theorem dX8_init_22 : decode cX8_init 22 = .ok (.putfield 19, 3) := by decide +kernel
theorem dX8_init_25 : decode cX8_init 25 = .ok (.aload_n 0, 1) := by decide +kernel
theorem dX8_init_26 : decode cX8_init 26 = .ok (.iload 5, 2) := by decide +kernel
theorem dX8_init_28 : decode cX8_init 28 = .ok (.putfield 22, 3) := by decide +kernel
theorem dX8_init_31 : decode cX8_init 31 = .ok (.aload_n 0, 1) := by decide +kernel
theorem dX8_init_32 : decode cX8_init 32 = .ok (.iload 6, 2) := by decide +kernel
theorem dX8_init_34 : decode cX8_init 34 = .ok (.putfield 25, 3) := by decide +kernel
theorem dX8_init_37 : decode cX8_init 37 = .ok (.aload_n 0, 1) := by decide +kernel
theorem dX8_init_38 : decode cX8_init 38 = .ok (.iload 7, 2) := by decide +kernel
theorem dX8_init_40 : decode cX8_init 40 = .ok (.putfield 28, 3) := by decide +kernel
theorem dX8_init_43 : decode cX8_init 43 = .ok (.return_, 1) := by decide +kernel
theorem dX9_init_0 : decode cX9_init 0 = .ok (.aload_n 0, 1) := by decide +kernel
theorem dX9_init_1 : decode cX9_init 1 = .ok (.invokespecial 3, 3) := by decide +kernel
theorem dX9_init_4 : decode cX9_init 4 = .ok (.aload_n 0, 1) := by decide +kernel
theorem dX9_init_5 : decode cX9_init 5 = .ok (.aload_n 1, 1) := by decide +kernel
theorem dX9_init_6 : decode cX9_init 6 = .ok (.putfield 9, 3) := by decide +kernel
theorem dX9_init_9 : decode cX9_init 9 = .ok (.aload_n 0, 1) := by decide +kernel
theorem dX9_init_10 : decode cX9_init 10 = .ok (.iload_n 2, 1) := by decide +kernel
theorem dX9_init_11 : decode cX9_init 11 = .ok (.putfield 15, 3) := by decide +kernel
theorem dX9_init_14 : decode cX9_init 14 = .ok (.aload_n 0, 1) := by decide +kernel
theorem dX9_init_15 : decode cX9_init 15 = .ok (.iload_n 3, 1) := by decide +kernel
theorem dX9_init_16 : decode cX9_init 16 = .ok (.putfield 19, 3) := by decide +kernel
theorem dX9_init_19 : decode cX9_init 19 = .ok (.aload_n 0, 1) := by decide +kernel
theorem dX9_init_20 : decode cX9_init 20 = .ok (.iload 4, 2) := by decide +kernel
theorem dX9_init_22 : decode cX9_init 22 = .ok (.putfield 22, 3) := by decide +kernel
theorem dX9_init_25 : decode cX9_init 25 = .ok (.aload_n 0, 1) := by decide +kernel
theorem dX9_init_26 : decode cX9_init 26 = .ok (.aload 5, 2) := by decide +kernel
theorem dX9_init_28 : decode cX9_init 28 = .ok (.putfield 25, 3) := by decide +kernel
theorem dX9_init_31 : decode cX9_init 31 = .ok (.aload_n 0, 1) := by decide +kernel
theorem dX9_init_32 : decode cX9_init 32 = .ok (.aload_n 1, 1) := by decide +kernel
theorem dX9_init_33 : decode cX9_init 33 = .ok (.getfield 29, 3) := by decide +kernel
theorem dX9_init_36 : decode cX9_init 36 = .ok (.aload_n 1, 1) := by decide +kernel
theorem dX9_init_37 : decode cX9_init 37 = .ok (.getfield 34, 3) := by decide +kernel
theorem dX9_init_40 : decode cX9_init 40 = .ok (.iconst (-1), 1) := by decide +kernel
theorem dX9_init_41 : decode cX9_init 41 = .ok (.ixor, 1) := by decide +kernel
theorem dX9_init_42 : decode cX9_init 42 = .ok (.iand, 1) := by decide +kernel
theorem dX9_init_43 : decode cX9_init 43 = .ok (.putfield 37, 3) := by decide +kernel
theorem dX9_init_46 : decode cX9_init 46 = .ok (.return_, 1) := by decide +kernel
theorem dX9_copy_0 : decode cX9_copy 0 = .ok (.new 10, 3) := by decide +kernel
theorem dX9_copy_3 : decode cX9_copy 3 = .ok (.dup, 1) := by decide +kernel
theorem dX9_copy_4 : decode cX9_copy 4 = .ok (.aload_n 1, 1) := by decide +kernel
theorem dX9_copy_5 : decode cX9_copy 5 = .ok (.aload_n 0, 1) := by decide +kernel
theorem dX9_copy_6 : decode cX9_copy 6 = .ok (.getfield 15, 3) := by decide +kernel
theorem dX9_copy_9 : decode cX9_copy 9 = .ok (.aload_n 0, 1) := by decide +kernel
theorem dX9_copy_10 : decode cX9_copy 10 = .ok (.getfield 19, 3) := by decide +kernel
theorem dX9_copy_13 : decode cX9_copy 13 = .ok (.aload_n 0, 1) := by decide +kernel
theorem dX9_copy_14 : decode cX9_copy 14 = .ok (.getfield 22, 3) := by decide +kernel
theorem dX9_copy_17 : decode cX9_copy 17 = .ok (.aload_n 0, 1) := by decide +kernel
theorem dX9_copy_18 : decode cX9_copy 18 = .ok (.getfield 25, 3) := by decide +kernel
theorem dX9_copy_21 : decode cX9_copy 21 = .ok (.aload_n 0, 1) := by decide +kernel
theorem dX9_copy_22 : decode cX9_copy 22 = .ok (.getfield 37, 3) := by decide +kernel
theorem dX9_copy_25 : decode cX9_copy 25 = .ok (.invokespecial 40, 3) := by decide +kernel
theorem dX9_copy_28 : decode cX9_copy 28 = .ok (.astore_n 2, 1) := by decide +kernel
theorem dX9_copy_29 : decode cX9_copy 29 = .ok (.aload_n 2, 1) := by decide +kernel
theorem dX9_copy_30 : decode cX9_copy 30 = .ok (.aload_n 0, 1) := by decide +kernel
theorem dX9_copy_31 : decode cX9_copy 31 = .ok (.getfield 43, 3) := by decide +kernel
theorem dX9_copy_34 : decode cX9_copy 34 = .ok (.putfield 43, 3) := by decide +kernel
theorem dX9_copy_37 : decode cX9_copy 37 = .ok (.aload_n 2, 1) := by decide +kernel
theorem dX9_copy_38 : decode cX9_copy 38 = .ok (.aload_n 0, 1) := by decide +kernel
theorem dX9_copy_39 : decode cX9_copy 39 = .ok (.getfield 46, 3) := by decide +kernel
theorem dX9_copy_42 : decode cX9_copy 42 = .ok (.putfield 46, 3) := by decide +kernel
theorem dX9_copy_45 : decode cX9_copy 45 = .ok (.aload_n 2, 1) := by decide +kernel
theorem dX9_copy_46 : decode cX9_copy 46 = .ok (.areturn, 1) := by decide +kernel
theorem dX9_init__0 : decode cX9_init_ 0 = .ok (.aload_n 0, 1) := by decide +kernel
theorem dX9_init__1 : decode cX9_init_ 1 = .ok (.invokespecial 3, 3) := by decide +kernel
theorem dX9_init__4 : decode cX9_init_ 4 = .ok (.aload_n 0, 1) := by decide +kernel
theorem dX9_init__5 : decode cX9_init_ 5 = .ok (.aload_n 1, 1) := by decide +kernel
theorem dX9_init__6 : decode cX9_init_ 6 = .ok (.putfield 9, 3) := by decide +kernel
theorem dX9_init__9 : decode cX9_init_ 9 = .ok (.aload_n 0, 1) := by decide +kernel
theorem dX9_init__10 : decode cX9_init_ 10 = .ok (.iload_n 2, 1) := by decide +kernel
theorem dX9_init__11 : decode cX9_init_ 11 = .ok (.putfield 15, 3) := by decide +kernel
theorem dX9_init__14 : decode cX9_init_ 14 = .ok (.aload_n 0, 1) := by decide +kernel
theorem dX9_init__15 : decode cX9_init_ 15 = .ok (.iload_n 3, 1) := by decide +kernel
theorem dX9_init__16 : decode cX9_init_ 16 = .ok (.putfield 19, 3) := by decide +kernel
theorem dX9_init__19 : decode cX9_init_ 19 = .ok (.aload_n 0, 1) := by decide +kernel
theorem dX9_init__20 : decode cX9_init_ 20 = .ok (.iload 4, 2) := by decide +kernel
theorem dX9_init__22 : decode cX9_init_ 22 = .ok (.putfield 22, 3) := by decide +kernel
theorem dX9_init__25 : decode cX9_init_ 25 = .ok (.aload_n 0, 1) := by decide +kernel
theorem dX9_init__26 : decode cX9_init_ 26 = .ok (.aload 5, 2) := by decide +kernel
theorem dX9_init__28 : decode cX9_init_ 28 = .ok (.putfield 25, 3) := by decide +kernel
theorem dX9_init__31 : decode cX9_init_ 31 = .ok (.aload_n 0, 1) := by decide +kernel
theorem dX9_init__32 : decode cX9_init_ 32 = .ok (.iload 6, 2) := by decide +kernel
theorem dX9_init__34 : decode cX9_init_ 34 = .ok (.putfield 37, 3) := by decide +kernel
theorem dX9_init__37 : decode cX9_init_ 37 = .ok (.return_, 1) := by decide +kernel
theorem dX9_isLike_0 : decode cX9_isLike 0 = .ok (.iconst 1, 1) := by decide +kernel
theorem dX9_isLike_1 : decode cX9_isLike 1 = .ok (.istore_n 2, 1) := by decide +kernel
theorem dX9_isLike_2 : decode cX9_isLike 2 = .ok (.iconst 0, 1) := by decide +kernel
theorem dX9_isLike_3 : decode cX9_isLike 3 = .ok (.istore_n 3, 1) := by decide +kernel
theorem dX9_isLike_4 : decode cX9_isLike 4 = .ok (.iload_n 3, 1) := by decide +kernel
theorem dX9_isLike_5 : decode cX9_isLike 5 = .ok (.bipush 8, 2) := by decide +kernel
theorem dX9_isLike_7 : decode cX9_isLike 7 = .ok (.if_icmp .ge 35, 3) := by decide +kernel
theorem dX9_isLike_10 : decode cX9_isLike 10 = .ok (.iload_n 2, 1) := by decide +kernel
theorem dX9_isLike_11 : decode cX9_isLike 11 = .ok (.aload_n 0, 1) := by decide +kernel
theorem dX9_isLike_12 : decode cX9_isLike 12 = .ok (.getfield 25, 3) := by decide +kernel
theorem dX9_isLike_15 : decode cX9_isLike 15 = .ok (.getfield 49, 3) := by decide +kernel
theorem dX9_isLike_18 : decode cX9_isLike 18 = .ok (.iload_n 3, 1) := by decide +kernel
theorem dX9_isLike_19 : decode cX9_isLike 19 = .ok (.iaload, 1) := by decide +kernel
theorem dX9_isLike_20 : decode cX9_isLike 20 = .ok (.aload_n 1, 1) := by decide +kernel
theorem dX9_isLike_21 : decode cX9_isLike 21 = .ok (.getfield 49, 3) := by decide +kernel
theorem dX9_isLike_24 : decode cX9_isLike 24 = .ok (.iload_n 3, 1) := by decide +kernel
theorem dX9_isLike_25 : decode cX9_isLike 25 = .ok (.iaload, 1) := by decide +kernel
theorem dX9_isLike_26 : decode cX9_isLike 26 = .ok (.if_icmp .ne 7, 3) := by decide +kernel
theorem dX9_isLike_29 : decode cX9_isLike 29 = .ok (.iconst 1, 1) := by decide +kernel
theorem dX9_isLike_30 : decode cX9_isLike 30 = .ok (.goto 4, 3) := by decide +kernel
theorem dX9_isLike_33 : decode cX9_isLike 33 = .ok (.iconst 0, 1) := by decide +kernel
theorem dX9_isLike_34 : decode cX9_isLike 34 = .ok (.iand, 1) := by decide +kernel
theorem dX9_isLike_35 : decode cX9_isLike 35 = .ok (.istore_n 2, 1) := by decide +kernel
theorem dX9_isLike_36 : decode cX9_isLike 36 = .ok (.iinc 3 1, 3) := by decide +kernel
theorem dX9_isLike_39 : decode cX9_isLike 39 = .ok (.goto (-35), 3) := by decide +kernel
theorem dX9_isLike_42 : decode cX9_isLike 42 = .ok (.iconst 0, 1) := by decide +kernel
theorem dX9_isLike_43 : decode cX9_isLike 43 = .ok (.istore_n 3, 1) := by decide +kernel
theorem dX9_isLike_44 : decode cX9_isLike 44 = .ok (.iload_n 3, 1) := by decide +kernel
theorem dX9_isLike_45 : decode cX9_isLike 45 = .ok (.bipush 14, 2) := by decide +kernel
theorem dX9_isLike_47 : decode cX9_isLike 47 = .ok (.if_icmp .ge 35, 3) := by decide +kernel
theorem dX9_isLike_50 : decode cX9_isLike 50 = .ok (.iload_n 2, 1) := by decide +kernel
theorem dX9_isLike_51 : decode cX9_isLike 51 = .ok (.aload_n 0, 1) := by decide +kernel
theorem dX9_isLike_52 : decode cX9_isLike 52 = .ok (.getfield 25, 3) := by decide +kernel
theorem dX9_isLike_55 : decode cX9_isLike 55 = .ok (.getfield 55, 3) := by decide +kernel
theorem dX9_isLike_58 : decode cX9_isLike 58 = .ok (.iload_n 3, 1) := by decide +kernel
theorem dX9_isLike_59 : decode cX9_isLike 59 = .ok (.iaload, 1) := by decide +kernel
theorem dX9_isLike_60 : decode cX9_isLike 60 = .ok (.aload_n 1, 1) := by decide +kernel
theorem dX9_isLike_61 : decode cX9_isLike 61 = .ok (.getfield 55, 3) := by decide +kernel
theorem dX9_isLike_64 : decode cX9_isLike 64 = .ok (.iload_n 3, 1) := by decide +kernel
theorem dX9_isLike_65 : decode cX9_isLike 65 = .ok (.iaload, 1) := by decide +kernel
theorem dX9_isLike_66 : decode cX9_isLike 66 = .ok (.if_icmp .ne 7, 3) := by decide +kernel
theorem dX9_isLike_69 : decode cX9_isLike 69 = .ok (.iconst 1, 1) := by decide +kernel
theorem dX9_isLike_70 : decode cX9_isLike 70 = .ok (.goto 4, 3) := by decide +kernel
theorem dX9_isLike_73 : decode cX9_isLike 73 = .ok (.iconst 0, 1) := by decide +kernel
theorem dX9_isLike_74 : decode cX9_isLike 74 = .ok (.iand, 1) := by decide +kernel
theorem dX9_isLike_75 : decode cX9_isLike 75 = .ok (.istore_n 2, 1) := by decide +kernel
theorem dX9_isLike_76 : decode cX9_isLike 76 = .ok (.iinc 3 1, 3) := by decide +kernel
theorem dX9_isLike_79 : decode cX9_isLike 79 = .ok (.goto (-35), 3) := by decide +kernel
theorem dX9_isLike_82 : decode cX9_isLike 82 = .ok (.iconst 0, 1) := by decide +kernel
theorem dX9_isLike_83 : decode cX9_isLike 83 = .ok (.istore_n 3, 1) := by decide +kernel
theorem dX9_isLike_84 : decode cX9_isLike 84 = .ok (.iload_n 3, 1) := by decide +kernel
theorem dX9_isLike_85 : decode cX9_isLike 85 = .ok (.bipush 6, 2) := by decide +kernel
theorem dX9_isLike_87 : decode cX9_isLike 87 = .ok (.if_icmp .ge 46, 3) := by decide +kernel
theorem dX9_isLike_90 : decode cX9_isLike 90 = .ok (.iload_n 2, 1) := by decide +kernel
theorem dX9_isLike_91 : decode cX9_isLike 91 = .ok (.aload_n 0, 1) := by decide +kernel
theorem dX9_isLike_92 : decode cX9_isLike 92 = .ok (.getfield 37, 3) := by decide +kernel
theorem dX9_isLike_95 : decode cX9_isLike 95 = .ok (.iload_n 3, 1) := by decide +kernel
theorem dX9_isLike_96 : decode cX9_isLike 96 = .ok (.invokestatic 58, 3) := by decide +kernel
theorem dX9_isLike_99 : decode cX9_isLike 99 = .ok (.ifCond .eq 21, 3) := by decide +kernel
theorem dX9_isLike_102 : decode cX9_isLike 102 = .ok (.aload_n 0, 1) := by decide +kernel
theorem dX9_isLike_103 : decode cX9_isLike 103 = .ok (.getfield 25, 3) := by decide +kernel
theorem dX9_isLike_106 : decode cX9_isLike 106 = .ok (.getfield 62, 3) := by decide +kernel
theorem dX9_isLike_109 : decode cX9_isLike 109 = .ok (.iload_n 3, 1) := by decide +kernel
theorem dX9_isLike_110 : decode cX9_isLike 110 = .ok (.iaload, 1) := by decide +kernel
theorem dX9_isLike_111 : decode cX9_isLike 111 = .ok (.aload_n 1, 1) := by decide +kernel
theorem dX9_isLike_112 : decode cX9_isLike 112 = .ok (.getfield 62, 3) := by decide +kernel
theorem dX9_isLike_115 : decode cX9_isLike 115 = .ok (.iload_n 3, 1) := by decide +kernel
theorem dX9_isLike_116 : decode cX9_isLike 116 = .ok (.iaload, 1) := by decide +kernel
theorem dX9_isLike_117 : decode cX9_isLike 117 = .ok (.if_icmp .ne 7, 3) := by decide +kernel
theorem dX9_isLike_120 : decode cX9_isLike 120 = .ok (.iconst 1, 1) := by decide +kernel
theorem dX9_isLike_121 : decode cX9_isLike 121 = .ok (.goto 4, 3) := by decide +kernel
theorem dX9_isLike_124 : decode cX9_isLike 124 = .ok (.iconst 0, 1) := by decide +kernel
theorem dX9_isLike_125 : decode cX9_isLike 125 = .ok (.iand, 1) := by decide +kernel
theorem dX9_isLike_126 : decode cX9_isLike 126 = .ok (.istore_n 2, 1) := by decide +kernel
theorem dX9_isLike_127 : decode cX9_isLike 127 = .ok (.iinc 3 1, 3) := by decide +kernel
theorem dX9_isLike_130 : decode cX9_isLike 130 = .ok (.goto (-46), 3) := by decide +kernel
theorem dX9_isLike_133 : decode cX9_isLike 133 = .ok (.iload_n 2, 1) := by decide +kernel
theorem dX9_isLike_134 : decode cX9_isLike 134 = .ok (.ireturn, 1) := by decide +kernel
theorem dX9_worth_0 : decode cX9_worth 0 = .ok (.aload_n 0, 1) := by decide +kernel
theorem dX9_worth_1 : decode cX9_worth 1 = .ok (.getfield 9, 3) := by decide +kernel
theorem dX9_worth_4 : decode cX9_worth 4 = .ok (.getfield 65, 3) := by decide +kernel
theorem dX9_worth_7 : decode cX9_worth 7 = .ok (.aload_n 0, 1) := by decide +kernel
theorem dX9_worth_8 : decode cX9_worth 8 = .ok (.getfield 43, 3) := by decide +kernel
theorem dX9_worth_11 : decode cX9_worth 11 = .ok (.iconst 1, 1) := by decide +kernel
theorem dX9_worth_12 : decode cX9_worth 12 = .ok (.iadd, 1) := by decide +kernel
theorem dX9_worth_13 : decode cX9_worth 13 = .ok (.imul, 1) := by decide +kernel
theorem dX9_worth_14 : decode cX9_worth 14 = .ok (.bipush 10, 2) := by decide +kernel
theorem dX9_worth_16 : decode cX9_worth 16 = .ok (.imul, 1) := by decide +kernel
theorem dX9_worth_17 : decode cX9_worth 17 = .ok (.aload_n 0, 1) := by decide +kernel
theorem dX9_worth_18 : decode cX9_worth 18 = .ok (.getfield 9, 3) := by decide +kernel
theorem dX9_worth_21 : decode cX9_worth 21 = .ok (.getfield 68, 3) := by decide +kernel
theorem dX9_worth_24 : decode cX9_worth 24 = .ok (.idiv, 1) := by decide +kernel
theorem dX9_worth_25 : decode cX9_worth 25 = .ok (.ireturn, 1) := by decide +kernel
theorem dX10_init_0 : decode cX10_init 0 = .ok (.aload_n 0, 1) := by decide +kernel
theorem dX10_init_1 : decode cX10_init 1 = .ok (.invokespecial 3, 3) := by decide +kernel
theorem dX10_init_4 : decode cX10_init 4 = .ok (.aload_n 0, 1) := by decide +kernel
theorem dX10_init_5 : decode cX10_init 5 = .ok (.new 9, 3) := by decide +kernel
theorem dX10_init_8 : decode cX10_init 8 = .ok (.dup, 1) := by decide +kernel
theorem dX10_init_9 : decode cX10_init 9 = .ok (.invokespecial 11, 3) := by decide +kernel
theorem dX10_init_12 : decode cX10_init 12 = .ok (.putfield 12, 3) := by decide +kernel
theorem dX10_init_15 : decode cX10_init 15 = .ok (.aload_n 0, 1) := by decide +kernel
theorem dX10_init_16 : decode cX10_init 16 = .ok (.bipush 8, 2) := by decide +kernel
theorem dX10_init_18 : decode cX10_init 18 = .ok (.newarray .int, 2) := by decide +kernel
theorem dX10_init_20 : decode cX10_init 20 = .ok (.putfield 18, 3) := by decide +kernel
theorem dX10_init_23 : decode cX10_init 23 = .ok (.aload_n 0, 1) := by decide +kernel
theorem dX10_init_24 : decode cX10_init 24 = .ok (.bipush 6, 2) := by decide +kernel
theorem dX10_init_26 : decode cX10_init 26 = .ok (.newarray .int, 2) := by decide +kernel
theorem dX10_init_28 : decode cX10_init 28 = .ok (.putfield 22, 3) := by decide +kernel
theorem dX10_init_31 : decode cX10_init 31 = .ok (.aload_n 0, 1) := by decide +kernel
theorem dX10_init_32 : decode cX10_init 32 = .ok (.new 9, 3) := by decide +kernel
theorem dX10_init_35 : decode cX10_init 35 = .ok (.dup, 1) := by decide +kernel
theorem dX10_init_36 : decode cX10_init 36 = .ok (.invokespecial 11, 3) := by decide +kernel
theorem dX10_init_39 : decode cX10_init 39 = .ok (.putfield 25, 3) := by decide +kernel
theorem dX10_init_42 : decode cX10_init 42 = .ok (.aload_n 0, 1) := by decide +kernel
theorem dX10_init_43 : decode cX10_init 43 = .ok (.new 9, 3) := by decide +kernel
theorem dX10_init_46 : decode cX10_init 46 = .ok (.dup, 1) := by decide +kernel
theorem dX10_init_47 : decode cX10_init 47 = .ok (.invokespecial 11, 3) := by decide +kernel
theorem dX10_init_50 : decode cX10_init 50 = .ok (.putfield 28, 3) := by decide +kernel
theorem dX10_init_53 : decode cX10_init 53 = .ok (.aload_n 0, 1) := by decide +kernel
theorem dX10_init_54 : decode cX10_init 54 = .ok (.new 9, 3) := by decide +kernel
theorem dX10_init_57 : decode cX10_init 57 = .ok (.dup, 1) := by decide +kernel
theorem dX10_init_58 : decode cX10_init 58 = .ok (.invokespecial 11, 3) := by decide +kernel
theorem dX10_init_61 : decode cX10_init 61 = .ok (.putfield 31, 3) := by decide +kernel
theorem dX10_init_64 : decode cX10_init 64 = .ok (.return_, 1) := by decide +kernel
theorem dX10_copy_0 : decode cX10_copy 0 = .ok (.new 13, 3) := by decide +kernel
theorem dX10_copy_3 : decode cX10_copy 3 = .ok (.dup, 1) := by decide +kernel
theorem dX10_copy_4 : decode cX10_copy 4 = .ok (.invokespecial 34, 3) := by decide +kernel
theorem dX10_copy_7 : decode cX10_copy 7 = .ok (.astore_n 1, 1) := by decide +kernel
theorem dX10_copy_8 : decode cX10_copy 8 = .ok (.aload_n 0, 1) := by decide +kernel
theorem dX10_copy_9 : decode cX10_copy 9 = .ok (.getfield 12, 3) := by decide +kernel
theorem dX10_copy_12 : decode cX10_copy 12 = .ok (.invokevirtual 35, 3) := by decide +kernel
theorem dX10_copy_15 : decode cX10_copy 15 = .ok (.astore_n 2, 1) := by decide +kernel
theorem dX10_copy_16 : decode cX10_copy 16 = .ok (.aload_n 2, 1) := by decide +kernel
theorem dX10_copy_17 : decode cX10_copy 17 = .ok (.invokeinterface 39 1, 5) := by decide +kernel
theorem dX10_copy_22 : decode cX10_copy 22 = .ok (.ifCond .eq 59, 3) := by decide +kernel
theorem dX10_copy_25 : decode cX10_copy 25 = .ok (.aload_n 2, 1) := by decide +kernel
theorem dX10_copy_26 : decode cX10_copy 26 = .ok (.invokeinterface 45 1, 5) := by decide +kernel
theorem dX10_copy_31 : decode cX10_copy 31 = .ok (.checkcast 49, 3) := by decide +kernel
theorem dX10_copy_34 : decode cX10_copy 34 = .ok (.astore_n 3, 1) := by decide +kernel
theorem dX10_copy_35 : decode cX10_copy 35 = .ok (.aload_n 1, 1) := by decide +kernel
theorem dX10_copy_36 : decode cX10_copy 36 = .ok (.getfield 12, 3) := by decide +kernel
theorem dX10_copy_39 : decode cX10_copy 39 = .ok (.new 49, 3) := by decide +kernel
theorem dX10_copy_42 : decode cX10_copy 42 = .ok (.dup, 1) := by decide +kernel
theorem dX10_copy_43 : decode cX10_copy 43 = .ok (.aload_n 3, 1) := by decide +kernel
theorem dX10_copy_44 : decode cX10_copy 44 = .ok (.getfield 51, 3) := by decide +kernel
theorem dX10_copy_47 : decode cX10_copy 47 = .ok (.aload_n 3, 1) := by decide +kernel
theorem dX10_copy_48 : decode cX10_copy 48 = .ok (.getfield 55, 3) := by decide +kernel
theorem dX10_copy_51 : decode cX10_copy 51 = .ok (.aload_n 3, 1) := by decide +kernel
theorem dX10_copy_52 : decode cX10_copy 52 = .ok (.getfield 58, 3) := by decide +kernel
theorem dX10_copy_55 : decode cX10_copy 55 = .ok (.aload_n 3, 1) := by decide +kernel
theorem dX10_copy_56 : decode cX10_copy 56 = .ok (.getfield 60, 3) := by decide +kernel
theorem dX10_copy_59 : decode cX10_copy 59 = .ok (.aload_n 3, 1) := by decide +kernel
theorem dX10_copy_60 : decode cX10_copy 60 = .ok (.getfield 63, 3) := by decide +kernel
theorem dX10_copy_63 : decode cX10_copy 63 = .ok (.aload_n 3, 1) := by decide +kernel
theorem dX10_copy_64 : decode cX10_copy 64 = .ok (.getfield 66, 3) := by decide +kernel
theorem dX10_copy_67 : decode cX10_copy 67 = .ok (.aload_n 3, 1) := by decide +kernel
theorem dX10_copy_68 : decode cX10_copy 68 = .ok (.getfield 69, 3) := by decide +kernel
theorem dX10_copy_71 : decode cX10_copy 71 = .ok (.invokespecial 72, 3) := by decide +kernel
theorem dX10_copy_74 : decode cX10_copy 74 = .ok (.invokevirtual 75, 3) := by decide +kernel
theorem dX10_copy_77 : decode cX10_copy 77 = .ok (.pop, 1) := by decide +kernel
theorem dX10_copy_78 : decode cX10_copy 78 = .ok (.goto (-62), 3) := by decide +kernel
theorem dX10_copy_81 : decode cX10_copy 81 = .ok (.aload_n 0, 1) := by decide +kernel
theorem dX10_copy_82 : decode cX10_copy 82 = .ok (.getfield 18, 3) := by decide +kernel
theorem dX10_copy_85 : decode cX10_copy 85 = .ok (.iconst 0, 1) := by decide +kernel
theorem dX10_copy_86 : decode cX10_copy 86 = .ok (.aload_n 1, 1) := by decide +kernel
theorem dX10_copy_87 : decode cX10_copy 87 = .ok (.getfield 18, 3) := by decide +kernel
theorem dX10_copy_90 : decode cX10_copy 90 = .ok (.iconst 0, 1) := by decide +kernel
theorem dX10_copy_91 : decode cX10_copy 91 = .ok (.bipush 8, 2) := by decide +kernel
theorem dX10_copy_93 : decode cX10_copy 93 = .ok (.invokestatic 79, 3) := by decide +kernel
theorem dX10_copy_96 : decode cX10_copy 96 = .ok (.aload_n 0, 1) := by decide +kernel
theorem dX10_copy_97 : decode cX10_copy 97 = .ok (.getfield 22, 3) := by decide +kernel
theorem dX10_copy_100 : decode cX10_copy 100 = .ok (.iconst 0, 1) := by decide +kernel
theorem dX10_copy_101 : decode cX10_copy 101 = .ok (.aload_n 1, 1) := by decide +kernel
theorem dX10_copy_102 : decode cX10_copy 102 = .ok (.getfield 22, 3) := by decide +kernel
theorem dX10_copy_105 : decode cX10_copy 105 = .ok (.iconst 0, 1) := by decide +kernel
theorem dX10_copy_106 : decode cX10_copy 106 = .ok (.bipush 6, 2) := by decide +kernel
theorem dX10_copy_108 : decode cX10_copy 108 = .ok (.invokestatic 79, 3) := by decide +kernel
theorem dX10_copy_111 : decode cX10_copy 111 = .ok (.aload_n 0, 1) := by decide +kernel
theorem dX10_copy_112 : decode cX10_copy 112 = .ok (.getfield 25, 3) := by decide +kernel
theorem dX10_copy_115 : decode cX10_copy 115 = .ok (.invokevirtual 35, 3) := by decide +kernel
theorem dX10_copy_118 : decode cX10_copy 118 = .ok (.astore_n 2, 1) := by decide +kernel
theorem dX10_copy_119 : decode cX10_copy 119 = .ok (.aload_n 2, 1) := by decide +kernel
theorem dX10_copy_120 : decode cX10_copy 120 = .ok (.invokeinterface 39 1, 5) := by decide +kernel
theorem dX10_copy_125 : decode cX10_copy 125 = .ok (.ifCond .eq 80, 3) := by decide +kernel
theorem dX10_copy_128 : decode cX10_copy 128 = .ok (.aload_n 2, 1) := by decide +kernel
theorem dX10_copy_129 : decode cX10_copy 129 = .ok (.invokeinterface 45 1, 5) := by decide +kernel
theorem dX10_copy_134 : decode cX10_copy 134 = .ok (.checkcast 85, 3) := by decide +kernel
theorem dX10_copy_137 : decode cX10_copy 137 = .ok (.astore_n 3, 1) := by decide +kernel
theorem dX10_copy_138 : decode cX10_copy 138 = .ok (.new 85, 3) := by decide +kernel
theorem dX10_copy_141 : decode cX10_copy 141 = .ok (.dup, 1) := by decide +kernel
theorem dX10_copy_142 : decode cX10_copy 142 = .ok (.invokespecial 87, 3) := by decide +kernel
theorem dX10_copy_145 : decode cX10_copy 145 = .ok (.astore 4, 2) := by decide +kernel
theorem dX10_copy_147 : decode cX10_copy 147 = .ok (.aload 4, 2) := by decide +kernel
theorem dX10_copy_149 : decode cX10_copy 149 = .ok (.aload_n 3, 1) := by decide +kernel
theorem dX10_copy_150 : decode cX10_copy 150 = .ok (.getfield 88, 3) := by decide +kernel
theorem dX10_copy_153 : decode cX10_copy 153 = .ok (.putfield 88, 3) := by decide +kernel
theorem dX10_copy_156 : decode cX10_copy 156 = .ok (.aload 4, 2) := by decide +kernel
theorem dX10_copy_158 : decode cX10_copy 158 = .ok (.aload_n 3, 1) := by decide +kernel
theorem dX10_copy_159 : decode cX10_copy 159 = .ok (.getfield 91, 3) := by decide +kernel
theorem dX10_copy_162 : decode cX10_copy 162 = .ok (.putfield 91, 3) := by decide +kernel
theorem dX10_copy_165 : decode cX10_copy 165 = .ok (.aload 4, 2) := by decide +kernel
theorem dX10_copy_167 : decode cX10_copy 167 = .ok (.aload_n 3, 1) := by decide +kernel
theorem dX10_copy_168 : decode cX10_copy 168 = .ok (.getfield 94, 3) := by decide +kernel
theorem dX10_copy_171 : decode cX10_copy 171 = .ok (.putfield 94, 3) := by decide +kernel
theorem dX10_copy_174 : decode cX10_copy 174 = .ok (.aload 4, 2) := by decide +kernel
theorem dX10_copy_176 : decode cX10_copy 176 = .ok (.aload_n 3, 1) := by decide +kernel
theorem dX10_copy_177 : decode cX10_copy 177 = .ok (.getfield 97, 3) := by decide +kernel
theorem dX10_copy_180 : decode cX10_copy 180 = .ok (.putfield 97, 3) := by decide +kernel
theorem dX10_copy_183 : decode cX10_copy 183 = .ok (.aload 4, 2) := by decide +kernel
theorem dX10_copy_185 : decode cX10_copy 185 = .ok (.aload_n 3, 1) := by decide +kernel
theorem dX10_copy_186 : decode cX10_copy 186 = .ok (.getfield 100, 3) := by decide +kernel
theorem dX10_copy_189 : decode cX10_copy 189 = .ok (.putfield 100, 3) := by decide +kernel
theorem dX10_copy_192 : decode cX10_copy 192 = .ok (.aload_n 1, 1) := by decide +kernel
theorem dX10_copy_193 : decode cX10_copy 193 = .ok (.getfield 25, 3) := by decide +kernel
theorem dX10_copy_196 : decode cX10_copy 196 = .ok (.aload 4, 2) := by decide +kernel
theorem dX10_copy_198 : decode cX10_copy 198 = .ok (.invokevirtual 75, 3) := by decide +kernel
theorem dX10_copy_201 : decode cX10_copy 201 = .ok (.pop, 1) := by decide +kernel
theorem dX10_copy_202 : decode cX10_copy 202 = .ok (.goto (-83), 3) := by decide +kernel
theorem dX10_copy_205 : decode cX10_copy 205 = .ok (.aload_n 0, 1) := by decide +kernel
theorem dX10_copy_206 : decode cX10_copy 206 = .ok (.getfield 28, 3) := by decide +kernel
theorem dX10_copy_209 : decode cX10_copy 209 = .ok (.invokevirtual 35, 3) := by decide +kernel
theorem dX10_copy_212 : decode cX10_copy 212 = .ok (.astore_n 2, 1) := by decide +kernel
theorem dX10_copy_213 : decode cX10_copy 213 = .ok (.aload_n 2, 1) := by decide +kernel
theorem dX10_copy_214 : decode cX10_copy 214 = .ok (.invokeinterface 39 1, 5) := by decide +kernel
theorem dX10_copy_219 : decode cX10_copy 219 = .ok (.ifCond .eq 62, 3) := by decide +kernel
theorem dX10_copy_222 : decode cX10_copy 222 = .ok (.aload_n 2, 1) := by decide +kernel
theorem dX10_copy_223 : decode cX10_copy 223 = .ok (.invokeinterface 45 1, 5) := by decide +kernel
theorem dX10_copy_228 : decode cX10_copy 228 = .ok (.checkcast 103, 3) := by decide +kernel
theorem dX10_copy_231 : decode cX10_copy 231 = .ok (.astore_n 3, 1) := by decide +kernel
theorem dX10_copy_232 : decode cX10_copy 232 = .ok (.new 103, 3) := by decide +kernel
theorem dX10_copy_235 : decode cX10_copy 235 = .ok (.dup, 1) := by decide +kernel
theorem dX10_copy_236 : decode cX10_copy 236 = .ok (.invokespecial 105, 3) := by decide +kernel
theorem dX10_copy_239 : decode cX10_copy 239 = .ok (.astore 4, 2) := by decide +kernel
theorem dX10_copy_241 : decode cX10_copy 241 = .ok (.aload 4, 2) := by decide +kernel
theorem dX10_copy_243 : decode cX10_copy 243 = .ok (.aload_n 3, 1) := by decide +kernel
theorem dX10_copy_244 : decode cX10_copy 244 = .ok (.getfield 106, 3) := by decide +kernel
theorem dX10_copy_247 : decode cX10_copy 247 = .ok (.putfield 106, 3) := by decide +kernel
theorem dX10_copy_250 : decode cX10_copy 250 = .ok (.aload 4, 2) := by decide +kernel
theorem dX10_copy_252 : decode cX10_copy 252 = .ok (.aload_n 3, 1) := by decide +kernel
theorem dX10_copy_253 : decode cX10_copy 253 = .ok (.getfield 109, 3) := by decide +kernel
theorem dX10_copy_256 : decode cX10_copy 256 = .ok (.putfield 109, 3) := by decide +kernel
theorem dX10_copy_259 : decode cX10_copy 259 = .ok (.aload 4, 2) := by decide +kernel
theorem dX10_copy_261 : decode cX10_copy 261 = .ok (.aload_n 3, 1) := by decide +kernel
theorem dX10_copy_262 : decode cX10_copy 262 = .ok (.getfield 112, 3) := by decide +kernel
theorem dX10_copy_265 : decode cX10_copy 265 = .ok (.putfield 112, 3) := by decide +kernel
theorem dX10_copy_268 : decode cX10_copy 268 = .ok (.aload_n 1, 1) := by decide +kernel
theorem dX10_copy_269 : decode cX10_copy 269 = .ok (.getfield 28, 3) := by decide +kernel
theorem dX10_copy_272 : decode cX10_copy 272 = .ok (.aload 4, 2) := by decide +kernel
theorem dX10_copy_274 : decode cX10_copy 274 = .ok (.invokevirtual 75, 3) := by decide +kernel
theorem dX10_copy_277 : decode cX10_copy 277 = .ok (.pop, 1) := by decide +kernel
theorem dX10_copy_278 : decode cX10_copy 278 = .ok (.goto (-65), 3) := by decide +kernel
theorem dX10_copy_281 : decode cX10_copy 281 = .ok (.aload_n 0, 1) := by decide +kernel
theorem dX10_copy_282 : decode cX10_copy 282 = .ok (.getfield 31, 3) := by decide +kernel
theorem dX10_copy_285 : decode cX10_copy 285 = .ok (.invokevirtual 35, 3) := by decide +kernel
theorem dX10_copy_288 : decode cX10_copy 288 = .ok (.astore_n 2, 1) := by decide +kernel
theorem dX10_copy_289 : decode cX10_copy 289 = .ok (.aload_n 2, 1) := by decide +kernel
theorem dX10_copy_290 : decode cX10_copy 290 = .ok (.invokeinterface 39 1, 5) := by decide +kernel
theorem dX10_copy_295 : decode cX10_copy 295 = .ok (.ifCond .eq 45, 3) := by decide +kernel
theorem dX10_copy_298 : decode cX10_copy 298 = .ok (.aload_n 2, 1) := by decide +kernel
theorem dX10_copy_299 : decode cX10_copy 299 = .ok (.invokeinterface 45 1, 5) := by decide +kernel
theorem dX10_copy_304 : decode cX10_copy 304 = .ok (.checkcast 115, 3) := by decide +kernel
theorem dX10_copy_307 : decode cX10_copy 307 = .ok (.astore_n 3, 1) := by decide +kernel
theorem dX10_copy_308 : decode cX10_copy 308 = .ok (.aload_n 1, 1) := by decide +kernel
theorem dX10_copy_309 : decode cX10_copy 309 = .ok (.getfield 31, 3) := by decide +kernel
theorem dX10_copy_312 : decode cX10_copy 312 = .ok (.aload_n 3, 1) := by decide +kernel
theorem dX10_copy_313 : decode cX10_copy 313 = .ok (.aload_n 1, 1) := by decide +kernel
theorem dX10_copy_314 : decode cX10_copy 314 = .ok (.getfield 12, 3) := by decide +kernel
theorem dX10_copy_317 : decode cX10_copy 317 = .ok (.aload_n 3, 1) := by decide +kernel
theorem dX10_copy_318 : decode cX10_copy 318 = .ok (.getfield 117, 3) := by decide +kernel
theorem dX10_copy_321 : decode cX10_copy 321 = .ok (.getfield 51, 3) := by decide +kernel
theorem dX10_copy_324 : decode cX10_copy 324 = .ok (.invokevirtual 121, 3) := by decide +kernel
theorem dX10_copy_327 : decode cX10_copy 327 = .ok (.checkcast 49, 3) := by decide +kernel
theorem dX10_copy_330 : decode cX10_copy 330 = .ok (.invokevirtual 125, 3) := by decide +kernel
theorem dX10_copy_333 : decode cX10_copy 333 = .ok (.invokevirtual 75, 3) := by decide +kernel
theorem dX10_copy_336 : decode cX10_copy 336 = .ok (.pop, 1) := by decide +kernel
theorem dX10_copy_337 : decode cX10_copy 337 = .ok (.goto (-48), 3) := by decide +kernel
theorem dX10_copy_340 : decode cX10_copy 340 = .ok (.aload_n 1, 1) := by decide +kernel
theorem dX10_copy_341 : decode cX10_copy 341 = .ok (.aload_n 0, 1) := by decide +kernel
theorem dX10_copy_342 : decode cX10_copy 342 = .ok (.getfield 129, 3) := by decide +kernel
theorem dX10_copy_345 : decode cX10_copy 345 = .ok (.putfield 129, 3) := by decide +kernel
theorem dX10_copy_348 : decode cX10_copy 348 = .ok (.aload_n 1, 1) := by decide +kernel
theorem dX10_copy_349 : decode cX10_copy 349 = .ok (.aload_n 0, 1) := by decide +kernel
theorem dX10_copy_350 : decode cX10_copy 350 = .ok (.getfield 132, 3) := by decide +kernel
theorem dX10_copy_353 : decode cX10_copy 353 = .ok (.putfield 132, 3) := by decide +kernel
theorem dX10_copy_356 : decode cX10_copy 356 = .ok (.aload_n 1, 1) := by decide +kernel
theorem dX10_copy_357 : decode cX10_copy 357 = .ok (.aload_n 0, 1) := by decide +kernel
theorem dX10_copy_358 : decode cX10_copy 358 = .ok (.getfield 135, 3) := by decide +kernel
theorem dX10_copy_361 : decode cX10_copy 361 = .ok (.putfield 135, 3) := by decide +kernel
theorem dX10_copy_364 : decode cX10_copy 364 = .ok (.aload_n 1, 1) := by decide +kernel
theorem dX10_copy_365 : decode cX10_copy 365 = .ok (.areturn, 1) := by decide +kernel
theorem dX10_print_0 : decode cX10_print 0 = .ok (.iconst 0, 1) := by decide +kernel
theorem dX10_print_1 : decode cX10_print 1 = .ok (.istore_n 3, 1) := by decide +kernel
theorem dX10_print_2 : decode cX10_print 2 = .ok (.iconst 0, 1) := by decide +kernel
theorem dX10_print_3 : decode cX10_print 3 = .ok (.istore 4, 2) := by decide +kernel
theorem dX10_print_5 : decode cX10_print 5 = .ok (.iconst 0, 1) := by decide +kernel
theorem dX10_print_6 : decode cX10_print 6 = .ok (.istore 5, 2) := by decide +kernel
theorem dX10_print_8 : decode cX10_print 8 = .ok (.iconst 0, 1) := by decide +kernel
theorem dX10_print_9 : decode cX10_print 9 = .ok (.istore 6, 2) := by decide +kernel
theorem dX10_print_11 : decode cX10_print 11 = .ok (.iload 6, 2) := by decide +kernel
theorem dX10_print_13 : decode cX10_print 13 = .ok (.bipush 8, 2) := by decide +kernel
theorem dX10_print_15 : decode cX10_print 15 = .ok (.if_icmp .ge 40, 3) := by decide +kernel
theorem dX10_print_18 : decode cX10_print 18 = .ok (.iload_n 3, 1) := by decide +kernel
theorem dX10_print_19 : decode cX10_print 19 = .ok (.aload_n 1, 1) := by decide +kernel
theorem dX10_print_20 : decode cX10_print 20 = .ok (.getfield 55, 3) := by decide +kernel
theorem dX10_print_23 : decode cX10_print 23 = .ok (.iload 6, 2) := by decide +kernel
theorem dX10_print_25 : decode cX10_print 25 = .ok (.invokestatic 138, 3) := by decide +kernel
theorem dX10_print_28 : decode cX10_print 28 = .ok (.ifCond .eq 18, 3) := by decide +kernel
theorem dX10_print_31 : decode cX10_print 31 = .ok (.iload 6, 2) := by decide +kernel
theorem dX10_print_33 : decode cX10_print 33 = .ok (.iconst 1, 1) := by decide +kernel
theorem dX10_print_34 : decode cX10_print 34 = .ok (.iadd, 1) := by decide +kernel
theorem dX10_print_35 : decode cX10_print 35 = .ok (.aload_n 2, 1) := by decide +kernel
theorem dX10_print_36 : decode cX10_print 36 = .ok (.getfield 142, 3) := by decide +kernel
theorem dX10_print_39 : decode cX10_print 39 = .ok (.iload 6, 2) := by decide +kernel
theorem dX10_print_41 : decode cX10_print 41 = .ok (.iaload, 1) := by decide +kernel
theorem dX10_print_42 : decode cX10_print 42 = .ok (.imul, 1) := by decide +kernel
theorem dX10_print_43 : decode cX10_print 43 = .ok (.goto 4, 3) := by decide +kernel
theorem dX10_print_46 : decode cX10_print 46 = .ok (.iconst 0, 1) := by decide +kernel
theorem dX10_print_47 : decode cX10_print 47 = .ok (.iadd, 1) := by decide +kernel
theorem dX10_print_48 : decode cX10_print 48 = .ok (.istore_n 3, 1) := by decide +kernel
theorem dX10_print_49 : decode cX10_print 49 = .ok (.iinc 6 1, 3) := by decide +kernel
theorem dX10_print_52 : decode cX10_print 52 = .ok (.goto (-41), 3) := by decide +kernel
theorem dX10_print_55 : decode cX10_print 55 = .ok (.iconst 0, 1) := by decide +kernel
theorem dX10_print_56 : decode cX10_print 56 = .ok (.istore 6, 2) := by decide +kernel
theorem dX10_print_58 : decode cX10_print 58 = .ok (.iload 6, 2) := by decide +kernel
theorem dX10_print_60 : decode cX10_print 60 = .ok (.aload_n 1, 1) := by decide +kernel
theorem dX10_print_61 : decode cX10_print 61 = .ok (.getfield 51, 3) := by decide +kernel
theorem dX10_print_64 : decode cX10_print 64 = .ok (.if_icmp .ge 42, 3) := by decide +kernel
theorem dX10_print_67 : decode cX10_print 67 = .ok (.iload 4, 2) := by decide +kernel
theorem dX10_print_69 : decode cX10_print 69 = .ok (.aload_n 1, 1) := by decide +kernel
theorem dX10_print_70 : decode cX10_print 70 = .ok (.getfield 58, 3) := by decide +kernel
theorem dX10_print_73 : decode cX10_print 73 = .ok (.iload 6, 2) := by decide +kernel
theorem dX10_print_75 : decode cX10_print 75 = .ok (.invokestatic 138, 3) := by decide +kernel
theorem dX10_print_78 : decode cX10_print 78 = .ok (.ifCond .eq 18, 3) := by decide +kernel
theorem dX10_print_81 : decode cX10_print 81 = .ok (.iload 6, 2) := by decide +kernel
theorem dX10_print_83 : decode cX10_print 83 = .ok (.iconst 2, 1) := by decide +kernel
theorem dX10_print_84 : decode cX10_print 84 = .ok (.iadd, 1) := by decide +kernel
theorem dX10_print_85 : decode cX10_print 85 = .ok (.aload_n 2, 1) := by decide +kernel
theorem dX10_print_86 : decode cX10_print 86 = .ok (.getfield 145, 3) := by decide +kernel
theorem dX10_print_89 : decode cX10_print 89 = .ok (.iload 6, 2) := by decide +kernel
theorem dX10_print_91 : decode cX10_print 91 = .ok (.iaload, 1) := by decide +kernel
theorem dX10_print_92 : decode cX10_print 92 = .ok (.imul, 1) := by decide +kernel
theorem dX10_print_93 : decode cX10_print 93 = .ok (.goto 4, 3) := by decide +kernel
theorem dX10_print_96 : decode cX10_print 96 = .ok (.iconst 0, 1) := by decide +kernel
theorem dX10_print_97 : decode cX10_print 97 = .ok (.iadd, 1) := by decide +kernel
theorem dX10_print_98 : decode cX10_print 98 = .ok (.istore 4, 2) := by decide +kernel
theorem dX10_print_100 : decode cX10_print 100 = .ok (.iinc 6 1, 3) := by decide +kernel
theorem dX10_print_103 : decode cX10_print 103 = .ok (.goto (-45), 3) := by decide +kernel
theorem dX10_print_106 : decode cX10_print 106 = .ok (.iconst 0, 1) := by decide +kernel
theorem dX10_print_107 : decode cX10_print 107 = .ok (.istore 6, 2) := by decide +kernel
theorem dX10_print_109 : decode cX10_print 109 = .ok (.iload 6, 2) := by decide +kernel
theorem dX10_print_111 : decode cX10_print 111 = .ok (.bipush 6, 2) := by decide +kernel
theorem dX10_print_113 : decode cX10_print 113 = .ok (.if_icmp .ge 42, 3) := by decide +kernel
theorem dX10_print_116 : decode cX10_print 116 = .ok (.iload 5, 2) := by decide +kernel
theorem dX10_print_118 : decode cX10_print 118 = .ok (.aload_n 1, 1) := by decide +kernel
theorem dX10_print_119 : decode cX10_print 119 = .ok (.getfield 60, 3) := by decide +kernel
theorem dX10_print_122 : decode cX10_print 122 = .ok (.iload 6, 2) := by decide +kernel
theorem dX10_print_124 : decode cX10_print 124 = .ok (.invokestatic 138, 3) := by decide +kernel
theorem dX10_print_127 : decode cX10_print 127 = .ok (.ifCond .eq 18, 3) := by decide +kernel
theorem dX10_print_130 : decode cX10_print 130 = .ok (.iload 6, 2) := by decide +kernel
theorem dX10_print_132 : decode cX10_print 132 = .ok (.iconst 1, 1) := by decide +kernel
theorem dX10_print_133 : decode cX10_print 133 = .ok (.iadd, 1) := by decide +kernel
theorem dX10_print_134 : decode cX10_print 134 = .ok (.aload_n 2, 1) := by decide +kernel
theorem dX10_print_135 : decode cX10_print 135 = .ok (.getfield 148, 3) := by decide +kernel
theorem dX10_print_138 : decode cX10_print 138 = .ok (.iload 6, 2) := by decide +kernel
theorem dX10_print_140 : decode cX10_print 140 = .ok (.iaload, 1) := by decide +kernel
theorem dX10_print_141 : decode cX10_print 141 = .ok (.imul, 1) := by decide +kernel
theorem dX10_print_142 : decode cX10_print 142 = .ok (.goto 4, 3) := by decide +kernel
theorem dX10_print_145 : decode cX10_print 145 = .ok (.iconst 0, 1) := by decide +kernel
theorem dX10_print_146 : decode cX10_print 146 = .ok (.iadd, 1) := by decide +kernel
theorem dX10_print_147 : decode cX10_print 147 = .ok (.istore 5, 2) := by decide +kernel
theorem dX10_print_149 : decode cX10_print 149 = .ok (.iinc 6 1, 3) := by decide +kernel
theorem dX10_print_152 : decode cX10_print 152 = .ok (.goto (-43), 3) := by decide +kernel
theorem dX10_print_155 : decode cX10_print 155 = .ok (.bipush 31, 2) := by decide +kernel
theorem dX10_print_157 : decode cX10_print 157 = .ok (.aload_n 1, 1) := by decide +kernel
theorem dX10_print_158 : decode cX10_print 158 = .ok (.getfield 51, 3) := by decide +kernel
theorem dX10_print_161 : decode cX10_print 161 = .ok (.imul, 1) := by decide +kernel
theorem dX10_print_162 : decode cX10_print 162 = .ok (.bipush 7, 2) := by decide +kernel
theorem dX10_print_164 : decode cX10_print 164 = .ok (.iload_n 3, 1) := by decide +kernel
theorem dX10_print_165 : decode cX10_print 165 = .ok (.imul, 1) := by decide +kernel
theorem dX10_print_166 : decode cX10_print 166 = .ok (.iadd, 1) := by decide +kernel
theorem dX10_print_167 : decode cX10_print 167 = .ok (.iconst 5, 1) := by decide +kernel
theorem dX10_print_168 : decode cX10_print 168 = .ok (.iload 4, 2) := by decide +kernel
theorem dX10_print_170 : decode cX10_print 170 = .ok (.imul, 1) := by decide +kernel
theorem dX10_print_171 : decode cX10_print 171 = .ok (.iadd, 1) := by decide +kernel
theorem dX10_print_172 : decode cX10_print 172 = .ok (.iconst 3, 1) := by decide +kernel
theorem dX10_print_173 : decode cX10_print 173 = .ok (.iload 5, 2) := by decide +kernel
theorem dX10_print_175 : decode cX10_print 175 = .ok (.imul, 1) := by decide +kernel
theorem dX10_print_176 : decode cX10_print 176 = .ok (.iadd, 1) := by decide +kernel
theorem dX10_print_177 : decode cX10_print 177 = .ok (.sipush 997, 3) := by decide +kernel
theorem dX10_print_180 : decode cX10_print 180 = .ok (.irem, 1) := by decide +kernel
theorem dX10_print_181 : decode cX10_print 181 = .ok (.ireturn, 1) := by decide +kernel
theorem dX10_read_0 : decode cX10_read 0 = .ok (.new 143, 3) := by decide +kernel
theorem dX10_read_3 : decode cX10_read 3 = .ok (.dup, 1) := by decide +kernel
theorem dX10_read_4 : decode cX10_read 4 = .ok (.invokespecial 149, 3) := by decide +kernel
theorem dX10_read_7 : decode cX10_read 7 = .ok (.astore 4, 2) := by decide +kernel
theorem dX10_read_9 : decode cX10_read 9 = .ok (.iconst 0, 1) := by decide +kernel
theorem dX10_read_10 : decode cX10_read 10 = .ok (.istore 5, 2) := by decide +kernel
theorem dX10_read_12 : decode cX10_read 12 = .ok (.iload 5, 2) := by decide +kernel
theorem dX10_read_14 : decode cX10_read 14 = .ok (.bipush 8, 2) := by decide +kernel
theorem dX10_read_16 : decode cX10_read 16 = .ok (.if_icmp .ge 40, 3) := by decide +kernel
theorem dX10_read_19 : decode cX10_read 19 = .ok (.aload 4, 2) := by decide +kernel
theorem dX10_read_21 : decode cX10_read 21 = .ok (.getfield 142, 3) := by decide +kernel
theorem dX10_read_24 : decode cX10_read 24 = .ok (.iload 5, 2) := by decide +kernel
theorem dX10_read_26 : decode cX10_read 26 = .ok (.aload_n 1, 1) := by decide +kernel
theorem dX10_read_27 : decode cX10_read 27 = .ok (.getfield 55, 3) := by decide +kernel
theorem dX10_read_30 : decode cX10_read 30 = .ok (.iload 5, 2) := by decide +kernel
theorem dX10_read_32 : decode cX10_read 32 = .ok (.invokestatic 138, 3) := by decide +kernel
theorem dX10_read_35 : decode cX10_read 35 = .ok (.ifCond .eq 13, 3) := by decide +kernel
theorem dX10_read_38 : decode cX10_read 38 = .ok (.aload_n 0, 1) := by decide +kernel
theorem dX10_read_39 : decode cX10_read 39 = .ok (.getfield 18, 3) := by decide +kernel
theorem dX10_read_42 : decode cX10_read 42 = .ok (.iload 5, 2) := by decide +kernel
theorem dX10_read_44 : decode cX10_read 44 = .ok (.iaload, 1) := by decide +kernel
theorem dX10_read_45 : decode cX10_read 45 = .ok (.goto 4, 3) := by decide +kernel
theorem dX10_read_48 : decode cX10_read 48 = .ok (.iconst (-1), 1) := by decide +kernel
theorem dX10_read_49 : decode cX10_read 49 = .ok (.iastore, 1) := by decide +kernel
theorem dX10_read_50 : decode cX10_read 50 = .ok (.iinc 5 1, 3) := by decide +kernel
theorem dX10_read_53 : decode cX10_read 53 = .ok (.goto (-41), 3) := by decide +kernel
theorem dX10_read_56 : decode cX10_read 56 = .ok (.iconst 0, 1) := by decide +kernel
theorem dX10_read_57 : decode cX10_read 57 = .ok (.istore 5, 2) := by decide +kernel
theorem dX10_read_59 : decode cX10_read 59 = .ok (.iload 5, 2) := by decide +kernel
theorem dX10_read_61 : decode cX10_read 61 = .ok (.bipush 14, 2) := by decide +kernel
theorem dX10_read_63 : decode cX10_read 63 = .ok (.if_icmp .ge 65, 3) := by decide +kernel
theorem dX10_read_66 : decode cX10_read 66 = .ok (.aload 4, 2) := by decide +kernel
theorem dX10_read_68 : decode cX10_read 68 = .ok (.getfield 145, 3) := by decide +kernel
theorem dX10_read_71 : decode cX10_read 71 = .ok (.iload 5, 2) := by decide +kernel
theorem dX10_read_73 : decode cX10_read 73 = .ok (.aload_n 1, 1) := by decide +kernel
theorem dX10_read_74 : decode cX10_read 74 = .ok (.getfield 58, 3) := by decide +kernel
theorem dX10_read_77 : decode cX10_read 77 = .ok (.iload 5, 2) := by decide +kernel
theorem dX10_read_79 : decode cX10_read 79 = .ok (.invokestatic 138, 3) := by decide +kernel
theorem dX10_read_82 : decode cX10_read 82 = .ok (.ifCond .eq 10, 3) := by decide +kernel
theorem dX10_read_85 : decode cX10_read 85 = .ok (.aload_n 2, 1) := by decide +kernel
theorem dX10_read_86 : decode cX10_read 86 = .ok (.iload 5, 2) := by decide +kernel
theorem dX10_read_88 : decode cX10_read 88 = .ok (.iaload, 1) := by decide +kernel
theorem dX10_read_89 : decode cX10_read 89 = .ok (.goto 4, 3) := by decide +kernel
theorem dX10_read_92 : decode cX10_read 92 = .ok (.iconst (-1), 1) := by decide +kernel
theorem dX10_read_93 : decode cX10_read 93 = .ok (.iastore, 1) := by decide +kernel
theorem dX10_read_94 : decode cX10_read 94 = .ok (.aload 4, 2) := by decide +kernel
theorem dX10_read_96 : decode cX10_read 96 = .ok (.getfield 150, 3) := by decide +kernel
theorem dX10_read_99 : decode cX10_read 99 = .ok (.iload 5, 2) := by decide +kernel
theorem dX10_read_101 : decode cX10_read 101 = .ok (.aload_n 1, 1) := by decide +kernel
theorem dX10_read_102 : decode cX10_read 102 = .ok (.getfield 58, 3) := by decide +kernel
theorem dX10_read_105 : decode cX10_read 105 = .ok (.iload 5, 2) := by decide +kernel
theorem dX10_read_107 : decode cX10_read 107 = .ok (.invokestatic 138, 3) := by decide +kernel
theorem dX10_read_110 : decode cX10_read 110 = .ok (.ifCond .eq 10, 3) := by decide +kernel
theorem dX10_read_113 : decode cX10_read 113 = .ok (.aload_n 3, 1) := by decide +kernel
theorem dX10_read_114 : decode cX10_read 114 = .ok (.iload 5, 2) := by decide +kernel
theorem dX10_read_116 : decode cX10_read 116 = .ok (.iaload, 1) := by decide +kernel
theorem dX10_read_117 : decode cX10_read 117 = .ok (.goto 4, 3) := by decide +kernel
theorem dX10_read_120 : decode cX10_read 120 = .ok (.iconst (-1), 1) := by decide +kernel
theorem dX10_read_121 : decode cX10_read 121 = .ok (.iastore, 1) := by decide +kernel
theorem dX10_read_122 : decode cX10_read 122 = .ok (.iinc 5 1, 3) := by decide +kernel
theorem dX10_read_125 : decode cX10_read 125 = .ok (.goto (-66), 3) := by decide +kernel
theorem dX10_read_128 : decode cX10_read 128 = .ok (.iconst 0, 1) := by decide +kernel
theorem dX10_read_129 : decode cX10_read 129 = .ok (.istore 5, 2) := by decide +kernel
theorem dX10_read_131 : decode cX10_read 131 = .ok (.iload 5, 2) := by decide +kernel
theorem dX10_read_133 : decode cX10_read 133 = .ok (.bipush 6, 2) := by decide +kernel
theorem dX10_read_135 : decode cX10_read 135 = .ok (.if_icmp .ge 40, 3) := by decide +kernel
theorem dX10_read_138 : decode cX10_read 138 = .ok (.aload 4, 2) := by decide +kernel
theorem dX10_read_140 : decode cX10_read 140 = .ok (.getfield 148, 3) := by decide +kernel
theorem dX10_read_143 : decode cX10_read 143 = .ok (.iload 5, 2) := by decide +kernel
theorem dX10_read_145 : decode cX10_read 145 = .ok (.aload_n 1, 1) := by decide +kernel
theorem dX10_read_146 : decode cX10_read 146 = .ok (.getfield 60, 3) := by decide +kernel
theorem dX10_read_149 : decode cX10_read 149 = .ok (.iload 5, 2) := by decide +kernel
theorem dX10_read_151 : decode cX10_read 151 = .ok (.invokestatic 138, 3) := by decide +kernel
theorem dX10_read_154 : decode cX10_read 154 = .ok (.ifCond .eq 13, 3) := by decide +kernel
theorem dX10_read_157 : decode cX10_read 157 = .ok (.aload_n 0, 1) := by decide +kernel
theorem dX10_read_158 : decode cX10_read 158 = .ok (.getfield 22, 3) := by decide +kernel
theorem dX10_read_161 : decode cX10_read 161 = .ok (.iload 5, 2) := by decide +kernel
theorem dX10_read_163 : decode cX10_read 163 = .ok (.iaload, 1) := by decide +kernel
theorem dX10_read_164 : decode cX10_read 164 = .ok (.goto 4, 3) := by decide +kernel
theorem dX10_read_167 : decode cX10_read 167 = .ok (.iconst (-1), 1) := by decide +kernel
theorem dX10_read_168 : decode cX10_read 168 = .ok (.iastore, 1) := by decide +kernel
theorem dX10_read_169 : decode cX10_read 169 = .ok (.iinc 5 1, 3) := by decide +kernel
theorem dX10_read_172 : decode cX10_read 172 = .ok (.goto (-41), 3) := by decide +kernel
theorem dX10_read_175 : decode cX10_read 175 = .ok (.aload 4, 2) := by decide +kernel
theorem dX10_read_177 : decode cX10_read 177 = .ok (.areturn, 1) := by decide +kernel
theorem dX10_chosen_0 : decode cX10_chosen 0 = .ok (.iconst (-1), 1) := by decide +kernel
theorem dX10_chosen_1 : decode cX10_chosen 1 = .ok (.istore_n 2, 1) := by decide +kernel
theorem dX10_chosen_2 : decode cX10_chosen 2 = .ok (.iconst 0, 1) := by decide +kernel
theorem dX10_chosen_3 : decode cX10_chosen 3 = .ok (.istore_n 3, 1) := by decide +kernel
theorem dX10_chosen_4 : decode cX10_chosen 4 = .ok (.iload_n 3, 1) := by decide +kernel
theorem dX10_chosen_5 : decode cX10_chosen 5 = .ok (.aload_n 0, 1) := by decide +kernel
theorem dX10_chosen_6 : decode cX10_chosen 6 = .ok (.getfield 25, 3) := by decide +kernel
theorem dX10_chosen_9 : decode cX10_chosen 9 = .ok (.invokevirtual 153, 3) := by decide +kernel
theorem dX10_chosen_12 : decode cX10_chosen 12 = .ok (.if_icmp .ge 113, 3) := by decide +kernel
theorem dX10_chosen_15 : decode cX10_chosen 15 = .ok (.aload_n 0, 1) := by decide +kernel
theorem dX10_chosen_16 : decode cX10_chosen 16 = .ok (.getfield 25, 3) := by decide +kernel
theorem dX10_chosen_19 : decode cX10_chosen 19 = .ok (.iload_n 3, 1) := by decide +kernel
theorem dX10_chosen_20 : decode cX10_chosen 20 = .ok (.invokevirtual 121, 3) := by decide +kernel
theorem dX10_chosen_23 : decode cX10_chosen 23 = .ok (.checkcast 85, 3) := by decide +kernel
theorem dX10_chosen_26 : decode cX10_chosen 26 = .ok (.astore 4, 2) := by decide +kernel
theorem dX10_chosen_28 : decode cX10_chosen 28 = .ok (.iload_n 3, 1) := by decide +kernel
theorem dX10_chosen_29 : decode cX10_chosen 29 = .ok (.iload_n 1, 1) := by decide +kernel
theorem dX10_chosen_30 : decode cX10_chosen 30 = .ok (.if_icmp .eq 89, 3) := by decide +kernel
theorem dX10_chosen_33 : decode cX10_chosen 33 = .ok (.aload 4, 2) := by decide +kernel
theorem dX10_chosen_35 : decode cX10_chosen 35 = .ok (.getfield 91, 3) := by decide +kernel
theorem dX10_chosen_38 : decode cX10_chosen 38 = .ok (.bipush 20, 2) := by decide +kernel
theorem dX10_chosen_40 : decode cX10_chosen 40 = .ok (.if_icmp .ge 6, 3) := by decide +kernel
theorem dX10_chosen_43 : decode cX10_chosen 43 = .ok (.goto 76, 3) := by decide +kernel
theorem dX10_chosen_46 : decode cX10_chosen 46 = .ok (.iload_n 2, 1) := by decide +kernel
theorem dX10_chosen_47 : decode cX10_chosen 47 = .ok (.iconst (-1), 1) := by decide +kernel
theorem dX10_chosen_48 : decode cX10_chosen 48 = .ok (.if_icmp .eq 69, 3) := by decide +kernel
theorem dX10_chosen_51 : decode cX10_chosen 51 = .ok (.aload 4, 2) := by decide +kernel
theorem dX10_chosen_53 : decode cX10_chosen 53 = .ok (.getfield 91, 3) := by decide +kernel
theorem dX10_chosen_56 : decode cX10_chosen 56 = .ok (.aload_n 0, 1) := by decide +kernel
theorem dX10_chosen_57 : decode cX10_chosen 57 = .ok (.getfield 25, 3) := by decide +kernel
theorem dX10_chosen_60 : decode cX10_chosen 60 = .ok (.iload_n 2, 1) := by decide +kernel
theorem dX10_chosen_61 : decode cX10_chosen 61 = .ok (.invokevirtual 121, 3) := by decide +kernel
theorem dX10_chosen_64 : decode cX10_chosen 64 = .ok (.checkcast 85, 3) := by decide +kernel
theorem dX10_chosen_67 : decode cX10_chosen 67 = .ok (.getfield 91, 3) := by decide +kernel
theorem dX10_chosen_70 : decode cX10_chosen 70 = .ok (.if_icmp .gt 47, 3) := by decide +kernel
theorem dX10_chosen_73 : decode cX10_chosen 73 = .ok (.aload 4, 2) := by decide +kernel
theorem dX10_chosen_75 : decode cX10_chosen 75 = .ok (.getfield 91, 3) := by decide +kernel
theorem dX10_chosen_78 : decode cX10_chosen 78 = .ok (.aload_n 0, 1) := by decide +kernel
theorem dX10_chosen_79 : decode cX10_chosen 79 = .ok (.getfield 25, 3) := by decide +kernel
theorem dX10_chosen_82 : decode cX10_chosen 82 = .ok (.iload_n 2, 1) := by decide +kernel
theorem dX10_chosen_83 : decode cX10_chosen 83 = .ok (.invokevirtual 121, 3) := by decide +kernel
theorem dX10_chosen_86 : decode cX10_chosen 86 = .ok (.checkcast 85, 3) := by decide +kernel
theorem dX10_chosen_89 : decode cX10_chosen 89 = .ok (.getfield 91, 3) := by decide +kernel
theorem dX10_chosen_92 : decode cX10_chosen 92 = .ok (.if_icmp .ne 27, 3) := by decide +kernel
theorem dX10_chosen_95 : decode cX10_chosen 95 = .ok (.aload 4, 2) := by decide +kernel
theorem dX10_chosen_97 : decode cX10_chosen 97 = .ok (.getfield 97, 3) := by decide +kernel
theorem dX10_chosen_100 : decode cX10_chosen 100 = .ok (.aload_n 0, 1) := by decide +kernel
theorem dX10_chosen_101 : decode cX10_chosen 101 = .ok (.getfield 25, 3) := by decide +kernel
theorem dX10_chosen_104 : decode cX10_chosen 104 = .ok (.iload_n 2, 1) := by decide +kernel
theorem dX10_chosen_105 : decode cX10_chosen 105 = .ok (.invokevirtual 121, 3) := by decide +kernel
theorem dX10_chosen_108 : decode cX10_chosen 108 = .ok (.checkcast 85, 3) := by decide +kernel
theorem dX10_chosen_111 : decode cX10_chosen 111 = .ok (.getfield 97, 3) := by decide +kernel
theorem dX10_chosen_114 : decode cX10_chosen 114 = .ok (.if_icmp .ge 5, 3) := by decide +kernel
theorem dX10_chosen_117 : decode cX10_chosen 117 = .ok (.iload_n 3, 1) := by decide +kernel
theorem dX10_chosen_118 : decode cX10_chosen 118 = .ok (.istore_n 2, 1) := by decide +kernel
theorem dX10_chosen_119 : decode cX10_chosen 119 = .ok (.iinc 3 1, 3) := by decide +kernel
theorem dX10_chosen_122 : decode cX10_chosen 122 = .ok (.goto (-118), 3) := by decide +kernel
theorem dX10_chosen_125 : decode cX10_chosen 125 = .ok (.iload_n 2, 1) := by decide +kernel
theorem dX10_chosen_126 : decode cX10_chosen 126 = .ok (.ireturn, 1) := by decide +kernel
theorem dX10_run_0 : decode cX10_run 0 = .ok (.aload_n 0, 1) := by decide +kernel
theorem dX10_run_1 : decode cX10_run 1 = .ok (.getfield 25, 3) := by decide +kernel
theorem dX10_run_4 : decode cX10_run 4 = .ok (.iload_n 1, 1) := by decide +kernel
theorem dX10_run_5 : decode cX10_run 5 = .ok (.invokevirtual 121, 3) := by decide +kernel
theorem dX10_run_8 : decode cX10_run 8 = .ok (.checkcast 85, 3) := by decide +kernel
theorem dX10_run_11 : decode cX10_run 11 = .ok (.astore 4, 2) := by decide +kernel
theorem dX10_run_13 : decode cX10_run 13 = .ok (.aload 4, 2) := by decide +kernel
theorem dX10_run_15 : decode cX10_run 15 = .ok (.dup, 1) := by decide +kernel
theorem dX10_run_16 : decode cX10_run 16 = .ok (.getfield 94, 3) := by decide +kernel
theorem dX10_run_19 : decode cX10_run 19 = .ok (.iconst 1, 1) := by decide +kernel
theorem dX10_run_20 : decode cX10_run 20 = .ok (.iadd, 1) := by decide +kernel
theorem dX10_run_21 : decode cX10_run 21 = .ok (.putfield 94, 3) := by decide +kernel
theorem dX10_run_24 : decode cX10_run 24 = .ok (.aload 4, 2) := by decide +kernel
theorem dX10_run_26 : decode cX10_run 26 = .ok (.dup, 1) := by decide +kernel
theorem dX10_run_27 : decode cX10_run 27 = .ok (.getfield 97, 3) := by decide +kernel
theorem dX10_run_30 : decode cX10_run 30 = .ok (.aload_n 2, 1) := by decide +kernel
theorem dX10_run_31 : decode cX10_run 31 = .ok (.getfield 66, 3) := by decide +kernel
theorem dX10_run_34 : decode cX10_run 34 = .ok (.iadd, 1) := by decide +kernel
theorem dX10_run_35 : decode cX10_run 35 = .ok (.putfield 97, 3) := by decide +kernel
theorem dX10_run_38 : decode cX10_run 38 = .ok (.aload_n 0, 1) := by decide +kernel
theorem dX10_run_39 : decode cX10_run 39 = .ok (.aload_n 2, 1) := by decide +kernel
theorem dX10_run_40 : decode cX10_run 40 = .ok (.aload_n 3, 1) := by decide +kernel
theorem dX10_run_41 : decode cX10_run 41 = .ok (.invokevirtual 156, 3) := by decide +kernel
theorem dX10_run_44 : decode cX10_run 44 = .ok (.istore 5, 2) := by decide +kernel
theorem dX10_run_46 : decode cX10_run 46 = .ok (.aload 4, 2) := by decide +kernel
theorem dX10_run_48 : decode cX10_run 48 = .ok (.getfield 88, 3) := by decide +kernel
theorem dX10_run_51 : decode cX10_run 51 = .ok (.ifCond .le 28, 3) := by decide +kernel
theorem dX10_run_54 : decode cX10_run 54 = .ok (.aload 4, 2) := by decide +kernel
theorem dX10_run_56 : decode cX10_run 56 = .ok (.getfield 94, 3) := by decide +kernel
theorem dX10_run_59 : decode cX10_run 59 = .ok (.aload 4, 2) := by decide +kernel
theorem dX10_run_61 : decode cX10_run 61 = .ok (.getfield 88, 3) := by decide +kernel
theorem dX10_run_64 : decode cX10_run 64 = .ok (.irem, 1) := by decide +kernel
theorem dX10_run_65 : decode cX10_run 65 = .ok (.ifCond .ne 14, 3) := by decide +kernel
theorem dX10_run_68 : decode cX10_run 68 = .ok (.iload 5, 2) := by decide +kernel
theorem dX10_run_70 : decode cX10_run 70 = .ok (.iconst 1, 1) := by decide +kernel
theorem dX10_run_71 : decode cX10_run 71 = .ok (.iadd, 1) := by decide +kernel
theorem dX10_run_72 : decode cX10_run 72 = .ok (.sipush 997, 3) := by decide +kernel
theorem dX10_run_75 : decode cX10_run 75 = .ok (.irem, 1) := by decide +kernel
theorem dX10_run_76 : decode cX10_run 76 = .ok (.goto 5, 3) := by decide +kernel
theorem dX10_run_79 : decode cX10_run 79 = .ok (.iload 5, 2) := by decide +kernel
theorem dX10_run_81 : decode cX10_run 81 = .ok (.ireturn, 1) := by decide +kernel
theorem dX10_uses_0 : decode cX10_uses 0 = .ok (.iconst 0, 1) := by decide +kernel
theorem dX10_uses_1 : decode cX10_uses 1 = .ok (.istore_n 2, 1) := by decide +kernel
theorem dX10_uses_2 : decode cX10_uses 2 = .ok (.aload_n 0, 1) := by decide +kernel
theorem dX10_uses_3 : decode cX10_uses 3 = .ok (.getfield 31, 3) := by decide +kernel
theorem dX10_uses_6 : decode cX10_uses 6 = .ok (.invokevirtual 35, 3) := by decide +kernel
theorem dX10_uses_9 : decode cX10_uses 9 = .ok (.astore_n 3, 1) := by decide +kernel
theorem dX10_uses_10 : decode cX10_uses 10 = .ok (.aload_n 3, 1) := by decide +kernel
theorem dX10_uses_11 : decode cX10_uses 11 = .ok (.invokeinterface 39 1, 5) := by decide +kernel
theorem dX10_uses_16 : decode cX10_uses 16 = .ok (.ifCond .eq 49, 3) := by decide +kernel
theorem dX10_uses_19 : decode cX10_uses 19 = .ok (.aload_n 3, 1) := by decide +kernel
theorem dX10_uses_20 : decode cX10_uses 20 = .ok (.invokeinterface 45 1, 5) := by decide +kernel
theorem dX10_uses_25 : decode cX10_uses 25 = .ok (.checkcast 115, 3) := by decide +kernel
theorem dX10_uses_28 : decode cX10_uses 28 = .ok (.astore 4, 2) := by decide +kernel
theorem dX10_uses_30 : decode cX10_uses 30 = .ok (.iload_n 2, 1) := by decide +kernel
theorem dX10_uses_31 : decode cX10_uses 31 = .ok (.aload 4, 2) := by decide +kernel
theorem dX10_uses_33 : decode cX10_uses 33 = .ok (.getfield 160, 3) := by decide +kernel
theorem dX10_uses_36 : decode cX10_uses 36 = .ok (.iload_n 1, 1) := by decide +kernel
theorem dX10_uses_37 : decode cX10_uses 37 = .ok (.if_icmp .ne 22, 3) := by decide +kernel
theorem dX10_uses_40 : decode cX10_uses 40 = .ok (.aload 4, 2) := by decide +kernel
theorem dX10_uses_42 : decode cX10_uses 42 = .ok (.getfield 163, 3) := by decide +kernel
theorem dX10_uses_45 : decode cX10_uses 45 = .ok (.ifCond .ne 14, 3) := by decide +kernel
theorem dX10_uses_48 : decode cX10_uses 48 = .ok (.aload 4, 2) := by decide +kernel
theorem dX10_uses_50 : decode cX10_uses 50 = .ok (.getfield 117, 3) := by decide +kernel
theorem dX10_uses_53 : decode cX10_uses 53 = .ok (.getfield 69, 3) := by decide +kernel
theorem dX10_uses_56 : decode cX10_uses 56 = .ok (.goto 4, 3) := by decide +kernel
theorem dX10_uses_59 : decode cX10_uses 59 = .ok (.iconst 0, 1) := by decide +kernel
theorem dX10_uses_60 : decode cX10_uses 60 = .ok (.iadd, 1) := by decide +kernel
theorem dX10_uses_61 : decode cX10_uses 61 = .ok (.istore_n 2, 1) := by decide +kernel
theorem dX10_uses_62 : decode cX10_uses 62 = .ok (.goto (-52), 3) := by decide +kernel
theorem dX10_uses_65 : decode cX10_uses 65 = .ok (.iload_n 2, 1) := by decide +kernel
theorem dX10_uses_66 : decode cX10_uses 66 = .ok (.ireturn, 1) := by decide +kernel
theorem dX10_shrink_0 : decode cX10_shrink 0 = .ok (.iconst 0, 1) := by decide +kernel
theorem dX10_shrink_1 : decode cX10_shrink 1 = .ok (.istore_n 3, 1) := by decide +kernel
theorem dX10_shrink_2 : decode cX10_shrink 2 = .ok (.aload_n 0, 1) := by decide +kernel
theorem dX10_shrink_3 : decode cX10_shrink 3 = .ok (.iload_n 1, 1) := by decide +kernel
theorem dX10_shrink_4 : decode cX10_shrink 4 = .ok (.invokevirtual 166, 3) := by decide +kernel
theorem dX10_shrink_7 : decode cX10_shrink 7 = .ok (.iload_n 2, 1) := by decide +kernel
theorem dX10_shrink_8 : decode cX10_shrink 8 = .ok (.if_icmp .le 91, 3) := by decide +kernel
theorem dX10_shrink_11 : decode cX10_shrink 11 = .ok (.aconst_null, 1) := by decide +kernel
theorem dX10_shrink_12 : decode cX10_shrink 12 = .ok (.astore 4, 2) := by decide +kernel
theorem dX10_shrink_14 : decode cX10_shrink 14 = .ok (.aload_n 0, 1) := by decide +kernel
theorem dX10_shrink_15 : decode cX10_shrink 15 = .ok (.getfield 31, 3) := by decide +kernel
theorem dX10_shrink_18 : decode cX10_shrink 18 = .ok (.invokevirtual 35, 3) := by decide +kernel
theorem dX10_shrink_21 : decode cX10_shrink 21 = .ok (.astore 5, 2) := by decide +kernel
theorem dX10_shrink_23 : decode cX10_shrink 23 = .ok (.aload 5, 2) := by decide +kernel
theorem dX10_shrink_25 : decode cX10_shrink 25 = .ok (.invokeinterface 39 1, 5) := by decide +kernel
theorem dX10_shrink_30 : decode cX10_shrink 30 = .ok (.ifCond .eq 57, 3) := by decide +kernel
theorem dX10_shrink_33 : decode cX10_shrink 33 = .ok (.aload 5, 2) := by decide +kernel
theorem dX10_shrink_35 : decode cX10_shrink 35 = .ok (.invokeinterface 45 1, 5) := by decide +kernel
theorem dX10_shrink_40 : decode cX10_shrink 40 = .ok (.checkcast 115, 3) := by decide +kernel
theorem dX10_shrink_43 : decode cX10_shrink 43 = .ok (.astore 6, 2) := by decide +kernel
theorem dX10_shrink_45 : decode cX10_shrink 45 = .ok (.aload 6, 2) := by decide +kernel
theorem dX10_shrink_47 : decode cX10_shrink 47 = .ok (.getfield 160, 3) := by decide +kernel
theorem dX10_shrink_50 : decode cX10_shrink 50 = .ok (.iload_n 1, 1) := by decide +kernel
theorem dX10_shrink_51 : decode cX10_shrink 51 = .ok (.if_icmp .ne 33, 3) := by decide +kernel
theorem dX10_shrink_54 : decode cX10_shrink 54 = .ok (.aload 6, 2) := by decide +kernel
theorem dX10_shrink_56 : decode cX10_shrink 56 = .ok (.getfield 163, 3) := by decide +kernel
theorem dX10_shrink_59 : decode cX10_shrink 59 = .ok (.ifCond .ne 25, 3) := by decide +kernel
theorem dX10_shrink_62 : decode cX10_shrink 62 = .ok (.aload 4, 2) := by decide +kernel
theorem dX10_shrink_64 : decode cX10_shrink 64 = .ok (.ifnull 16, 3) := by decide +kernel
theorem dX10_shrink_67 : decode cX10_shrink 67 = .ok (.aload 6, 2) := by decide +kernel
theorem dX10_shrink_69 : decode cX10_shrink 69 = .ok (.invokevirtual 170, 3) := by decide +kernel
theorem dX10_shrink_72 : decode cX10_shrink 72 = .ok (.aload 4, 2) := by decide +kernel
theorem dX10_shrink_74 : decode cX10_shrink 74 = .ok (.invokevirtual 170, 3) := by decide +kernel
theorem dX10_shrink_77 : decode cX10_shrink 77 = .ok (.if_icmp .ge 7, 3) := by decide +kernel
theorem dX10_shrink_80 : decode cX10_shrink 80 = .ok (.aload 6, 2) := by decide +kernel
theorem dX10_shrink_82 : decode cX10_shrink 82 = .ok (.astore 4, 2) := by decide +kernel
theorem dX10_shrink_84 : decode cX10_shrink 84 = .ok (.goto (-61), 3) := by decide +kernel
theorem dX10_shrink_87 : decode cX10_shrink 87 = .ok (.aload 4, 2) := by decide +kernel
theorem dX10_shrink_89 : decode cX10_shrink 89 = .ok (.iconst 1, 1) := by decide +kernel
theorem dX10_shrink_90 : decode cX10_shrink 90 = .ok (.putfield 163, 3) := by decide +kernel
theorem dX10_shrink_93 : decode cX10_shrink 93 = .ok (.iinc 3 1, 3) := by decide +kernel
theorem dX10_shrink_96 : decode cX10_shrink 96 = .ok (.goto (-94), 3) := by decide +kernel
theorem dX10_shrink_99 : decode cX10_shrink 99 = .ok (.iload_n 3, 1) := by decide +kernel
theorem dX10_shrink_100 : decode cX10_shrink 100 = .ok (.ireturn, 1) := by decide +kernel
theorem dX10_isAdded_0 : decode cX10_isAdded 0 = .ok (.aload_n 0, 1) := by decide +kernel
theorem dX10_isAdded_1 : decode cX10_isAdded 1 = .ok (.getfield 31, 3) := by decide +kernel
theorem dX10_isAdded_4 : decode cX10_isAdded 4 = .ok (.invokevirtual 153, 3) := by decide +kernel
theorem dX10_isAdded_7 : decode cX10_isAdded 7 = .ok (.bipush 60, 2) := by decide +kernel
theorem dX10_isAdded_9 : decode cX10_isAdded 9 = .ok (.if_icmp .ne 5, 3) := by decide +kernel
theorem dX10_isAdded_12 : decode cX10_isAdded 12 = .ok (.iconst 0, 1) := by decide +kernel
theorem dX10_isAdded_13 : decode cX10_isAdded 13 = .ok (.ireturn, 1) := by decide +kernel
theorem dX10_isAdded_14 : decode cX10_isAdded 14 = .ok (.aload_n 0, 1) := by decide +kernel
theorem dX10_isAdded_15 : decode cX10_isAdded 15 = .ok (.getfield 28, 3) := by decide +kernel
theorem dX10_isAdded_18 : decode cX10_isAdded 18 = .ok (.aload_n 1, 1) := by decide +kernel
theorem dX10_isAdded_19 : decode cX10_isAdded 19 = .ok (.getfield 160, 3) := by decide +kernel
theorem dX10_isAdded_22 : decode cX10_isAdded 22 = .ok (.invokevirtual 121, 3) := by decide +kernel
theorem dX10_isAdded_25 : decode cX10_isAdded 25 = .ok (.checkcast 103, 3) := by decide +kernel
theorem dX10_isAdded_28 : decode cX10_isAdded 28 = .ok (.getfield 106, 3) := by decide +kernel
theorem dX10_isAdded_31 : decode cX10_isAdded 31 = .ok (.istore_n 2, 1) := by decide +kernel
theorem dX10_isAdded_32 : decode cX10_isAdded 32 = .ok (.aload_n 1, 1) := by decide +kernel
theorem dX10_isAdded_33 : decode cX10_isAdded 33 = .ok (.getfield 117, 3) := by decide +kernel
theorem dX10_isAdded_36 : decode cX10_isAdded 36 = .ok (.getfield 69, 3) := by decide +kernel
theorem dX10_isAdded_39 : decode cX10_isAdded 39 = .ok (.iload_n 2, 1) := by decide +kernel
theorem dX10_isAdded_40 : decode cX10_isAdded 40 = .ok (.if_icmp .le 11, 3) := by decide +kernel
theorem dX10_isAdded_43 : decode cX10_isAdded 43 = .ok (.aload_n 1, 1) := by decide +kernel
theorem dX10_isAdded_44 : decode cX10_isAdded 44 = .ok (.iconst 1, 1) := by decide +kernel
theorem dX10_isAdded_45 : decode cX10_isAdded 45 = .ok (.putfield 163, 3) := by decide +kernel
theorem dX10_isAdded_48 : decode cX10_isAdded 48 = .ok (.goto 21, 3) := by decide +kernel
theorem dX10_isAdded_51 : decode cX10_isAdded 51 = .ok (.aload_n 0, 1) := by decide +kernel
theorem dX10_isAdded_52 : decode cX10_isAdded 52 = .ok (.aload_n 1, 1) := by decide +kernel
theorem dX10_isAdded_53 : decode cX10_isAdded 53 = .ok (.getfield 160, 3) := by decide +kernel
theorem dX10_isAdded_56 : decode cX10_isAdded 56 = .ok (.iload_n 2, 1) := by decide +kernel
theorem dX10_isAdded_57 : decode cX10_isAdded 57 = .ok (.aload_n 1, 1) := by decide +kernel
theorem dX10_isAdded_58 : decode cX10_isAdded 58 = .ok (.getfield 117, 3) := by decide +kernel
theorem dX10_isAdded_61 : decode cX10_isAdded 61 = .ok (.getfield 69, 3) := by decide +kernel
theorem dX10_isAdded_64 : decode cX10_isAdded 64 = .ok (.isub, 1) := by decide +kernel
theorem dX10_isAdded_65 : decode cX10_isAdded 65 = .ok (.invokevirtual 173, 3) := by decide +kernel
theorem dX10_isAdded_68 : decode cX10_isAdded 68 = .ok (.pop, 1) := by decide +kernel
theorem dX10_isAdded_69 : decode cX10_isAdded 69 = .ok (.aload_n 0, 1) := by decide +kernel
theorem dX10_isAdded_70 : decode cX10_isAdded 70 = .ok (.getfield 31, 3) := by decide +kernel
theorem dX10_isAdded_73 : decode cX10_isAdded 73 = .ok (.aload_n 1, 1) := by decide +kernel
theorem dX10_isAdded_74 : decode cX10_isAdded 74 = .ok (.invokevirtual 75, 3) := by decide +kernel
theorem dX10_isAdded_77 : decode cX10_isAdded 77 = .ok (.pop, 1) := by decide +kernel
theorem dX10_isAdded_78 : decode cX10_isAdded 78 = .ok (.iconst 1, 1) := by decide +kernel
theorem dX10_isAdded_79 : decode cX10_isAdded 79 = .ok (.ireturn, 1) := by decide +kernel
theorem dX10_cameOf_0 : decode cX10_cameOf 0 = .ok (.bipush 60, 2) := by decide +kernel
theorem dX10_cameOf_2 : decode cX10_cameOf 2 = .ok (.newarray .boolean, 2) := by decide +kernel
theorem dX10_cameOf_4 : decode cX10_cameOf 4 = .ok (.astore_n 2, 1) := by decide +kernel
theorem dX10_cameOf_5 : decode cX10_cameOf 5 = .ok (.aload_n 2, 1) := by decide +kernel
theorem dX10_cameOf_6 : decode cX10_cameOf 6 = .ok (.iload_n 1, 1) := by decide +kernel
theorem dX10_cameOf_7 : decode cX10_cameOf 7 = .ok (.iconst 1, 1) := by decide +kernel
theorem dX10_cameOf_8 : decode cX10_cameOf 8 = .ok (.bastore, 1) := by decide +kernel
theorem dX10_cameOf_9 : decode cX10_cameOf 9 = .ok (.iload_n 1, 1) := by decide +kernel
theorem dX10_cameOf_10 : decode cX10_cameOf 10 = .ok (.iconst 1, 1) := by decide +kernel
theorem dX10_cameOf_11 : decode cX10_cameOf 11 = .ok (.iadd, 1) := by decide +kernel
theorem dX10_cameOf_12 : decode cX10_cameOf 12 = .ok (.istore_n 3, 1) := by decide +kernel
theorem dX10_cameOf_13 : decode cX10_cameOf 13 = .ok (.iload_n 3, 1) := by decide +kernel
theorem dX10_cameOf_14 : decode cX10_cameOf 14 = .ok (.aload_n 0, 1) := by decide +kernel
theorem dX10_cameOf_15 : decode cX10_cameOf 15 = .ok (.getfield 31, 3) := by decide +kernel
theorem dX10_cameOf_18 : decode cX10_cameOf 18 = .ok (.invokevirtual 153, 3) := by decide +kernel
theorem dX10_cameOf_21 : decode cX10_cameOf 21 = .ok (.if_icmp .ge 80, 3) := by decide +kernel
theorem dX10_cameOf_24 : decode cX10_cameOf 24 = .ok (.aload_n 0, 1) := by decide +kernel
theorem dX10_cameOf_25 : decode cX10_cameOf 25 = .ok (.getfield 31, 3) := by decide +kernel
theorem dX10_cameOf_28 : decode cX10_cameOf 28 = .ok (.iload_n 3, 1) := by decide +kernel
theorem dX10_cameOf_29 : decode cX10_cameOf 29 = .ok (.invokevirtual 121, 3) := by decide +kernel
theorem dX10_cameOf_32 : decode cX10_cameOf 32 = .ok (.checkcast 115, 3) := by decide +kernel
theorem dX10_cameOf_35 : decode cX10_cameOf 35 = .ok (.getfield 177, 3) := by decide +kernel
theorem dX10_cameOf_38 : decode cX10_cameOf 38 = .ok (.getfield 150, 3) := by decide +kernel
theorem dX10_cameOf_41 : decode cX10_cameOf 41 = .ok (.astore 4, 2) := by decide +kernel
theorem dX10_cameOf_43 : decode cX10_cameOf 43 = .ok (.aload 4, 2) := by decide +kernel
theorem dX10_cameOf_45 : decode cX10_cameOf 45 = .ok (.arraylength, 1) := by decide +kernel
theorem dX10_cameOf_46 : decode cX10_cameOf 46 = .ok (.istore 5, 2) := by decide +kernel
theorem dX10_cameOf_48 : decode cX10_cameOf 48 = .ok (.iconst 0, 1) := by decide +kernel
theorem dX10_cameOf_49 : decode cX10_cameOf 49 = .ok (.istore 6, 2) := by decide +kernel
theorem dX10_cameOf_51 : decode cX10_cameOf 51 = .ok (.iload 6, 2) := by decide +kernel
theorem dX10_cameOf_53 : decode cX10_cameOf 53 = .ok (.iload 5, 2) := by decide +kernel
theorem dX10_cameOf_55 : decode cX10_cameOf 55 = .ok (.if_icmp .ge 40, 3) := by decide +kernel
theorem dX10_cameOf_58 : decode cX10_cameOf 58 = .ok (.aload 4, 2) := by decide +kernel
theorem dX10_cameOf_60 : decode cX10_cameOf 60 = .ok (.iload 6, 2) := by decide +kernel
theorem dX10_cameOf_62 : decode cX10_cameOf 62 = .ok (.iaload, 1) := by decide +kernel
theorem dX10_cameOf_63 : decode cX10_cameOf 63 = .ok (.istore 7, 2) := by decide +kernel
theorem dX10_cameOf_65 : decode cX10_cameOf 65 = .ok (.aload_n 2, 1) := by decide +kernel
theorem dX10_cameOf_66 : decode cX10_cameOf 66 = .ok (.iload_n 3, 1) := by decide +kernel
theorem dX10_cameOf_67 : decode cX10_cameOf 67 = .ok (.dup2, 1) := by decide +kernel
theorem dX10_cameOf_68 : decode cX10_cameOf 68 = .ok (.baload, 1) := by decide +kernel
theorem dX10_cameOf_69 : decode cX10_cameOf 69 = .ok (.iload 7, 2) := by decide +kernel
theorem dX10_cameOf_71 : decode cX10_cameOf 71 = .ok (.iconst (-1), 1) := by decide +kernel
theorem dX10_cameOf_72 : decode cX10_cameOf 72 = .ok (.if_icmp .eq 14, 3) := by decide +kernel
theorem dX10_cameOf_75 : decode cX10_cameOf 75 = .ok (.aload_n 2, 1) := by decide +kernel
theorem dX10_cameOf_76 : decode cX10_cameOf 76 = .ok (.iload 7, 2) := by decide +kernel
theorem dX10_cameOf_78 : decode cX10_cameOf 78 = .ok (.baload, 1) := by decide +kernel
theorem dX10_cameOf_79 : decode cX10_cameOf 79 = .ok (.ifCond .eq 7, 3) := by decide +kernel
theorem dX10_cameOf_82 : decode cX10_cameOf 82 = .ok (.iconst 1, 1) := by decide +kernel
theorem dX10_cameOf_83 : decode cX10_cameOf 83 = .ok (.goto 4, 3) := by decide +kernel
theorem dX10_cameOf_86 : decode cX10_cameOf 86 = .ok (.iconst 0, 1) := by decide +kernel
theorem dX10_cameOf_87 : decode cX10_cameOf 87 = .ok (.ior, 1) := by decide +kernel
theorem dX10_cameOf_88 : decode cX10_cameOf 88 = .ok (.bastore, 1) := by decide +kernel
theorem dX10_cameOf_89 : decode cX10_cameOf 89 = .ok (.iinc 6 1, 3) := by decide +kernel
theorem dX10_cameOf_92 : decode cX10_cameOf 92 = .ok (.goto (-41), 3) := by decide +kernel
theorem dX10_cameOf_95 : decode cX10_cameOf 95 = .ok (.iinc 3 1, 3) := by decide +kernel
theorem dX10_cameOf_98 : decode cX10_cameOf 98 = .ok (.goto (-85), 3) := by decide +kernel
theorem dX10_cameOf_101 : decode cX10_cameOf 101 = .ok (.aload_n 2, 1) := by decide +kernel
theorem dX10_cameOf_102 : decode cX10_cameOf 102 = .ok (.iload_n 1, 1) := by decide +kernel
theorem dX10_cameOf_103 : decode cX10_cameOf 103 = .ok (.iconst 0, 1) := by decide +kernel
theorem dX10_cameOf_104 : decode cX10_cameOf 104 = .ok (.bastore, 1) := by decide +kernel
theorem dX10_cameOf_105 : decode cX10_cameOf 105 = .ok (.aload_n 2, 1) := by decide +kernel
theorem dX10_cameOf_106 : decode cX10_cameOf 106 = .ok (.areturn, 1) := by decide +kernel
theorem dX10_checked_0 : decode cX10_checked 0 = .ok (.aload_n 0, 1) := by decide +kernel
theorem dX10_checked_1 : decode cX10_checked 1 = .ok (.getfield 31, 3) := by decide +kernel
theorem dX10_checked_4 : decode cX10_checked 4 = .ok (.iload_n 1, 1) := by decide +kernel
theorem dX10_checked_5 : decode cX10_checked 5 = .ok (.invokevirtual 121, 3) := by decide +kernel
theorem dX10_checked_8 : decode cX10_checked 8 = .ok (.checkcast 115, 3) := by decide +kernel
theorem dX10_checked_11 : decode cX10_checked 11 = .ok (.astore 4, 2) := by decide +kernel
theorem dX10_checked_13 : decode cX10_checked 13 = .ok (.aload_n 0, 1) := by decide +kernel
theorem dX10_checked_14 : decode cX10_checked 14 = .ok (.aload 4, 2) := by decide +kernel
theorem dX10_checked_16 : decode cX10_checked 16 = .ok (.getfield 181, 3) := by decide +kernel
theorem dX10_checked_19 : decode cX10_checked 19 = .ok (.invokevirtual 184, 3) := by decide +kernel
theorem dX10_checked_22 : decode cX10_checked 22 = .ok (.istore 5, 2) := by decide +kernel
theorem dX10_checked_24 : decode cX10_checked 24 = .ok (.iload 5, 2) := by decide +kernel
theorem dX10_checked_26 : decode cX10_checked 26 = .ok (.iconst (-1), 1) := by decide +kernel
theorem dX10_checked_27 : decode cX10_checked 27 = .ok (.if_icmp .ne 5, 3) := by decide +kernel
theorem dX10_checked_30 : decode cX10_checked 30 = .ok (.iconst 0, 1) := by decide +kernel
theorem dX10_checked_31 : decode cX10_checked 31 = .ok (.ireturn, 1) := by decide +kernel
theorem dX10_checked_32 : decode cX10_checked 32 = .ok (.aload_n 0, 1) := by decide +kernel
theorem dX10_checked_33 : decode cX10_checked 33 = .ok (.getfield 25, 3) := by decide +kernel
theorem dX10_checked_36 : decode cX10_checked 36 = .ok (.iload 5, 2) := by decide +kernel
theorem dX10_checked_38 : decode cX10_checked 38 = .ok (.invokevirtual 121, 3) := by decide +kernel
theorem dX10_checked_41 : decode cX10_checked 41 = .ok (.checkcast 85, 3) := by decide +kernel
theorem dX10_checked_44 : decode cX10_checked 44 = .ok (.dup, 1) := by decide +kernel
theorem dX10_checked_45 : decode cX10_checked 45 = .ok (.getfield 100, 3) := by decide +kernel
theorem dX10_checked_48 : decode cX10_checked 48 = .ok (.iconst 1, 1) := by decide +kernel
theorem dX10_checked_49 : decode cX10_checked 49 = .ok (.iadd, 1) := by decide +kernel
theorem dX10_checked_50 : decode cX10_checked 50 = .ok (.putfield 100, 3) := by decide +kernel
theorem dX10_checked_53 : decode cX10_checked 53 = .ok (.aload_n 0, 1) := by decide +kernel
theorem dX10_checked_54 : decode cX10_checked 54 = .ok (.iload 5, 2) := by decide +kernel
theorem dX10_checked_56 : decode cX10_checked 56 = .ok (.aload 4, 2) := by decide +kernel
theorem dX10_checked_58 : decode cX10_checked 58 = .ok (.getfield 117, 3) := by decide +kernel
theorem dX10_checked_61 : decode cX10_checked 61 = .ok (.aload_n 2, 1) := by decide +kernel
theorem dX10_checked_62 : decode cX10_checked 62 = .ok (.invokevirtual 187, 3) := by decide +kernel
theorem dX10_checked_65 : decode cX10_checked 65 = .ok (.istore 6, 2) := by decide +kernel
theorem dX10_checked_67 : decode cX10_checked 67 = .ok (.aload_n 0, 1) := by decide +kernel
theorem dX10_checked_68 : decode cX10_checked 68 = .ok (.getfield 25, 3) := by decide +kernel
theorem dX10_checked_71 : decode cX10_checked 71 = .ok (.aload 4, 2) := by decide +kernel
theorem dX10_checked_73 : decode cX10_checked 73 = .ok (.getfield 181, 3) := by decide +kernel
theorem dX10_checked_76 : decode cX10_checked 76 = .ok (.invokevirtual 121, 3) := by decide +kernel
theorem dX10_checked_79 : decode cX10_checked 79 = .ok (.checkcast 85, 3) := by decide +kernel
theorem dX10_checked_82 : decode cX10_checked 82 = .ok (.astore 7, 2) := by decide +kernel
theorem dX10_checked_84 : decode cX10_checked 84 = .ok (.iload 6, 2) := by decide +kernel
theorem dX10_checked_86 : decode cX10_checked 86 = .ok (.aload 4, 2) := by decide +kernel
theorem dX10_checked_88 : decode cX10_checked 88 = .ok (.getfield 191, 3) := by decide +kernel
theorem dX10_checked_91 : decode cX10_checked 91 = .ok (.if_icmp .ne 22, 3) := by decide +kernel
theorem dX10_checked_94 : decode cX10_checked 94 = .ok (.aload 7, 2) := by decide +kernel
theorem dX10_checked_96 : decode cX10_checked 96 = .ok (.bipush 100, 2) := by decide +kernel
theorem dX10_checked_98 : decode cX10_checked 98 = .ok (.aload 7, 2) := by decide +kernel
theorem dX10_checked_100 : decode cX10_checked 100 = .ok (.getfield 91, 3) := by decide +kernel
theorem dX10_checked_103 : decode cX10_checked 103 = .ok (.iconst 5, 1) := by decide +kernel
theorem dX10_checked_104 : decode cX10_checked 104 = .ok (.iadd, 1) := by decide +kernel
theorem dX10_checked_105 : decode cX10_checked 105 = .ok (.invokestatic 193, 3) := by decide +kernel
theorem dX10_checked_108 : decode cX10_checked 108 = .ok (.putfield 91, 3) := by decide +kernel
theorem dX10_checked_111 : decode cX10_checked 111 = .ok (.iconst 1, 1) := by decide +kernel
theorem dX10_checked_112 : decode cX10_checked 112 = .ok (.ireturn, 1) := by decide +kernel
theorem dX10_checked_113 : decode cX10_checked 113 = .ok (.aload_n 0, 1) := by decide +kernel
theorem dX10_checked_114 : decode cX10_checked 114 = .ok (.dup, 1) := by decide +kernel
theorem dX10_checked_115 : decode cX10_checked 115 = .ok (.getfield 135, 3) := by decide +kernel
theorem dX10_checked_118 : decode cX10_checked 118 = .ok (.iconst 1, 1) := by decide +kernel
theorem dX10_checked_119 : decode cX10_checked 119 = .ok (.iadd, 1) := by decide +kernel
theorem dX10_checked_120 : decode cX10_checked 120 = .ok (.putfield 135, 3) := by decide +kernel
theorem dX10_checked_123 : decode cX10_checked 123 = .ok (.iconst 0, 1) := by decide +kernel
theorem dX10_checked_124 : decode cX10_checked 124 = .ok (.istore 8, 2) := by decide +kernel
theorem dX10_checked_126 : decode cX10_checked 126 = .ok (.iconst 0, 1) := by decide +kernel
theorem dX10_checked_127 : decode cX10_checked 127 = .ok (.istore 9, 2) := by decide +kernel
theorem dX10_checked_129 : decode cX10_checked 129 = .ok (.iload 9, 2) := by decide +kernel
theorem dX10_checked_131 : decode cX10_checked 131 = .ok (.bipush 6, 2) := by decide +kernel
theorem dX10_checked_133 : decode cX10_checked 133 = .ok (.if_icmp .ge 59, 3) := by decide +kernel
theorem dX10_checked_136 : decode cX10_checked 136 = .ok (.iload 8, 2) := by decide +kernel
theorem dX10_checked_138 : decode cX10_checked 138 = .ok (.aload 4, 2) := by decide +kernel
theorem dX10_checked_140 : decode cX10_checked 140 = .ok (.getfield 117, 3) := by decide +kernel
theorem dX10_checked_143 : decode cX10_checked 143 = .ok (.getfield 63, 3) := by decide +kernel
theorem dX10_checked_146 : decode cX10_checked 146 = .ok (.iload 9, 2) := by decide +kernel
theorem dX10_checked_148 : decode cX10_checked 148 = .ok (.invokestatic 138, 3) := by decide +kernel
theorem dX10_checked_151 : decode cX10_checked 151 = .ok (.ifCond .eq 31, 3) := by decide +kernel
theorem dX10_checked_154 : decode cX10_checked 154 = .ok (.aload 4, 2) := by decide +kernel
theorem dX10_checked_156 : decode cX10_checked 156 = .ok (.getfield 177, 3) := by decide +kernel
theorem dX10_checked_159 : decode cX10_checked 159 = .ok (.getfield 148, 3) := by decide +kernel
theorem dX10_checked_162 : decode cX10_checked 162 = .ok (.iload 9, 2) := by decide +kernel
theorem dX10_checked_164 : decode cX10_checked 164 = .ok (.iaload, 1) := by decide +kernel
theorem dX10_checked_165 : decode cX10_checked 165 = .ok (.aload_n 0, 1) := by decide +kernel
theorem dX10_checked_166 : decode cX10_checked 166 = .ok (.getfield 22, 3) := by decide +kernel
theorem dX10_checked_169 : decode cX10_checked 169 = .ok (.iload 9, 2) := by decide +kernel
theorem dX10_checked_171 : decode cX10_checked 171 = .ok (.iaload, 1) := by decide +kernel
theorem dX10_checked_172 : decode cX10_checked 172 = .ok (.if_icmp .eq 10, 3) := by decide +kernel
theorem dX10_checked_175 : decode cX10_checked 175 = .ok (.iconst 1, 1) := by decide +kernel
theorem dX10_checked_176 : decode cX10_checked 176 = .ok (.iload 9, 2) := by decide +kernel
theorem dX10_checked_178 : decode cX10_checked 178 = .ok (.ishl, 1) := by decide +kernel
theorem dX10_checked_179 : decode cX10_checked 179 = .ok (.goto 4, 3) := by decide +kernel
theorem dX10_checked_182 : decode cX10_checked 182 = .ok (.iconst 0, 1) := by decide +kernel
theorem dX10_checked_183 : decode cX10_checked 183 = .ok (.ior, 1) := by decide +kernel
theorem dX10_checked_184 : decode cX10_checked 184 = .ok (.istore 8, 2) := by decide +kernel
theorem dX10_checked_186 : decode cX10_checked 186 = .ok (.iinc 9 1, 3) := by decide +kernel
theorem dX10_checked_189 : decode cX10_checked 189 = .ok (.goto (-60), 3) := by decide +kernel
theorem dX10_checked_192 : decode cX10_checked 192 = .ok (.iload 8, 2) := by decide +kernel
theorem dX10_checked_194 : decode cX10_checked 194 = .ok (.ifCond .le 84, 3) := by decide +kernel
theorem dX10_checked_197 : decode cX10_checked 197 = .ok (.aload 4, 2) := by decide +kernel
theorem dX10_checked_199 : decode cX10_checked 199 = .ok (.getfield 117, 3) := by decide +kernel
theorem dX10_checked_202 : decode cX10_checked 202 = .ok (.dup, 1) := by decide +kernel
theorem dX10_checked_203 : decode cX10_checked 203 = .ok (.getfield 63, 3) := by decide +kernel
theorem dX10_checked_206 : decode cX10_checked 206 = .ok (.iload 8, 2) := by decide +kernel
theorem dX10_checked_208 : decode cX10_checked 208 = .ok (.iconst (-1), 1) := by decide +kernel
theorem dX10_checked_209 : decode cX10_checked 209 = .ok (.ixor, 1) := by decide +kernel
theorem dX10_checked_210 : decode cX10_checked 210 = .ok (.iand, 1) := by decide +kernel
theorem dX10_checked_211 : decode cX10_checked 211 = .ok (.putfield 63, 3) := by decide +kernel
theorem dX10_checked_214 : decode cX10_checked 214 = .ok (.aload_n 0, 1) := by decide +kernel
theorem dX10_checked_215 : decode cX10_checked 215 = .ok (.getfield 31, 3) := by decide +kernel
theorem dX10_checked_218 : decode cX10_checked 218 = .ok (.invokevirtual 35, 3) := by decide +kernel
theorem dX10_checked_221 : decode cX10_checked 221 = .ok (.astore 9, 2) := by decide +kernel
theorem dX10_checked_223 : decode cX10_checked 223 = .ok (.aload 9, 2) := by decide +kernel
theorem dX10_checked_225 : decode cX10_checked 225 = .ok (.invokeinterface 39 1, 5) := by decide +kernel
theorem dX10_checked_230 : decode cX10_checked 230 = .ok (.ifCond .eq 45, 3) := by decide +kernel
theorem dX10_checked_233 : decode cX10_checked 233 = .ok (.aload 9, 2) := by decide +kernel
theorem dX10_checked_235 : decode cX10_checked 235 = .ok (.invokeinterface 45 1, 5) := by decide +kernel
theorem dX10_checked_240 : decode cX10_checked 240 = .ok (.checkcast 115, 3) := by decide +kernel
theorem dX10_checked_243 : decode cX10_checked 243 = .ok (.astore 10, 2) := by decide +kernel
theorem dX10_checked_245 : decode cX10_checked 245 = .ok (.aload 10, 2) := by decide +kernel
theorem dX10_checked_247 : decode cX10_checked 247 = .ok (.getfield 117, 3) := by decide +kernel
theorem dX10_checked_250 : decode cX10_checked 250 = .ok (.aload 4, 2) := by decide +kernel
theorem dX10_checked_252 : decode cX10_checked 252 = .ok (.getfield 117, 3) := by decide +kernel
theorem dX10_checked_255 : decode cX10_checked 255 = .ok (.if_acmp .ne 17, 3) := by decide +kernel
theorem dX10_checked_258 : decode cX10_checked 258 = .ok (.aload 10, 2) := by decide +kernel
theorem dX10_checked_260 : decode cX10_checked 260 = .ok (.getfield 163, 3) := by decide +kernel
theorem dX10_checked_263 : decode cX10_checked 263 = .ok (.ifCond .ne 9, 3) := by decide +kernel
theorem dX10_checked_266 : decode cX10_checked 266 = .ok (.aload 10, 2) := by decide +kernel
theorem dX10_checked_268 : decode cX10_checked 268 = .ok (.iconst 1, 1) := by decide +kernel
theorem dX10_checked_269 : decode cX10_checked 269 = .ok (.putfield 163, 3) := by decide +kernel
theorem dX10_checked_272 : decode cX10_checked 272 = .ok (.goto (-49), 3) := by decide +kernel
theorem dX10_checked_275 : decode cX10_checked 275 = .ok (.goto 20, 3) := by decide +kernel
theorem dX10_checked_278 : decode cX10_checked 278 = .ok (.aload 7, 2) := by decide +kernel
theorem dX10_checked_280 : decode cX10_checked 280 = .ok (.iconst 0, 1) := by decide +kernel
theorem dX10_checked_281 : decode cX10_checked 281 = .ok (.aload 7, 2) := by decide +kernel
theorem dX10_checked_283 : decode cX10_checked 283 = .ok (.getfield 91, 3) := by decide +kernel
theorem dX10_checked_286 : decode cX10_checked 286 = .ok (.bipush 30, 2) := by decide +kernel
theorem dX10_checked_288 : decode cX10_checked 288 = .ok (.isub, 1) := by decide +kernel
theorem dX10_checked_289 : decode cX10_checked 289 = .ok (.invokestatic 198, 3) := by decide +kernel
theorem dX10_checked_292 : decode cX10_checked 292 = .ok (.putfield 91, 3) := by decide +kernel
theorem dX10_checked_295 : decode cX10_checked 295 = .ok (.aload_n 0, 1) := by decide +kernel
theorem dX10_checked_296 : decode cX10_checked 296 = .ok (.iload_n 1, 1) := by decide +kernel
theorem dX10_checked_297 : decode cX10_checked 297 = .ok (.invokevirtual 201, 3) := by decide +kernel
theorem dX10_checked_300 : decode cX10_checked 300 = .ok (.astore 9, 2) := by decide +kernel
theorem dX10_checked_302 : decode cX10_checked 302 = .ok (.iconst 0, 1) := by decide +kernel
theorem dX10_checked_303 : decode cX10_checked 303 = .ok (.istore 10, 2) := by decide +kernel
theorem dX10_checked_305 : decode cX10_checked 305 = .ok (.iload 10, 2) := by decide +kernel
theorem dX10_checked_307 : decode cX10_checked 307 = .ok (.aload_n 0, 1) := by decide +kernel
theorem dX10_checked_308 : decode cX10_checked 308 = .ok (.getfield 31, 3) := by decide +kernel
theorem dX10_checked_311 : decode cX10_checked 311 = .ok (.invokevirtual 153, 3) := by decide +kernel
theorem dX10_checked_314 : decode cX10_checked 314 = .ok (.if_icmp .ge 39, 3) := by decide +kernel
theorem dX10_checked_317 : decode cX10_checked 317 = .ok (.iload 10, 2) := by decide +kernel
theorem dX10_checked_319 : decode cX10_checked 319 = .ok (.iload_n 1, 1) := by decide +kernel
theorem dX10_checked_320 : decode cX10_checked 320 = .ok (.if_icmp .eq 11, 3) := by decide +kernel
theorem dX10_checked_323 : decode cX10_checked 323 = .ok (.aload 9, 2) := by decide +kernel
theorem dX10_checked_325 : decode cX10_checked 325 = .ok (.iload 10, 2) := by decide +kernel
theorem dX10_checked_327 : decode cX10_checked 327 = .ok (.baload, 1) := by decide +kernel
theorem dX10_checked_328 : decode cX10_checked 328 = .ok (.ifCond .eq 19, 3) := by decide +kernel
theorem dX10_checked_331 : decode cX10_checked 331 = .ok (.aload_n 0, 1) := by decide +kernel
theorem dX10_checked_332 : decode cX10_checked 332 = .ok (.getfield 31, 3) := by decide +kernel
theorem dX10_checked_335 : decode cX10_checked 335 = .ok (.iload 10, 2) := by decide +kernel
theorem dX10_checked_337 : decode cX10_checked 337 = .ok (.invokevirtual 121, 3) := by decide +kernel
theorem dX10_checked_340 : decode cX10_checked 340 = .ok (.checkcast 115, 3) := by decide +kernel
theorem dX10_checked_343 : decode cX10_checked 343 = .ok (.iconst 2, 1) := by decide +kernel
theorem dX10_checked_344 : decode cX10_checked 344 = .ok (.putfield 163, 3) := by decide +kernel
theorem dX10_checked_347 : decode cX10_checked 347 = .ok (.iinc 10 1, 3) := by decide +kernel
theorem dX10_checked_350 : decode cX10_checked 350 = .ok (.goto (-45), 3) := by decide +kernel
theorem dX10_checked_353 : decode cX10_checked 353 = .ok (.aload_n 0, 1) := by decide +kernel
theorem dX10_checked_354 : decode cX10_checked 354 = .ok (.new 115, 3) := by decide +kernel
theorem dX10_checked_357 : decode cX10_checked 357 = .ok (.dup, 1) := by decide +kernel
theorem dX10_checked_358 : decode cX10_checked 358 = .ok (.aload 4, 2) := by decide +kernel
theorem dX10_checked_360 : decode cX10_checked 360 = .ok (.getfield 117, 3) := by decide +kernel
theorem dX10_checked_363 : decode cX10_checked 363 = .ok (.iload 5, 2) := by decide +kernel
theorem dX10_checked_365 : decode cX10_checked 365 = .ok (.iload_n 3, 1) := by decide +kernel
theorem dX10_checked_366 : decode cX10_checked 366 = .ok (.iload 6, 2) := by decide +kernel
theorem dX10_checked_368 : decode cX10_checked 368 = .ok (.aload_n 2, 1) := by decide +kernel
theorem dX10_checked_369 : decode cX10_checked 369 = .ok (.invokespecial 205, 3) := by decide +kernel
theorem dX10_checked_372 : decode cX10_checked 372 = .ok (.invokevirtual 208, 3) := by decide +kernel
theorem dX10_checked_375 : decode cX10_checked 375 = .ok (.ifCond .eq 7, 3) := by decide +kernel
theorem dX10_checked_378 : decode cX10_checked 378 = .ok (.iconst 2, 1) := by decide +kernel
theorem dX10_checked_379 : decode cX10_checked 379 = .ok (.goto 4, 3) := by decide +kernel
theorem dX10_checked_382 : decode cX10_checked 382 = .ok (.iconst 3, 1) := by decide +kernel
theorem dX10_checked_383 : decode cX10_checked 383 = .ok (.ireturn, 1) := by decide +kernel
theorem dX10_whole_0 : decode cX10_whole 0 = .ok (.iconst 1, 1) := by decide +kernel
theorem dX10_whole_1 : decode cX10_whole 1 = .ok (.iload_n 1, 1) := by decide +kernel
theorem dX10_whole_2 : decode cX10_whole 2 = .ok (.ishl, 1) := by decide +kernel
theorem dX10_whole_3 : decode cX10_whole 3 = .ok (.istore_n 2, 1) := by decide +kernel
theorem dX10_whole_4 : decode cX10_whole 4 = .ok (.iload_n 1, 1) := by decide +kernel
theorem dX10_whole_5 : decode cX10_whole 5 = .ok (.istore_n 3, 1) := by decide +kernel
theorem dX10_whole_6 : decode cX10_whole 6 = .ok (.iload_n 3, 1) := by decide +kernel
theorem dX10_whole_7 : decode cX10_whole 7 = .ok (.ifCond .lt 34, 3) := by decide +kernel
theorem dX10_whole_10 : decode cX10_whole 10 = .ok (.iload_n 2, 1) := by decide +kernel
theorem dX10_whole_11 : decode cX10_whole 11 = .ok (.iload_n 3, 1) := by decide +kernel
theorem dX10_whole_12 : decode cX10_whole 12 = .ok (.invokestatic 138, 3) := by decide +kernel
theorem dX10_whole_15 : decode cX10_whole 15 = .ok (.ifCond .eq 20, 3) := by decide +kernel
theorem dX10_whole_18 : decode cX10_whole 18 = .ok (.iload_n 2, 1) := by decide +kernel
theorem dX10_whole_19 : decode cX10_whole 19 = .ok (.aload_n 0, 1) := by decide +kernel
theorem dX10_whole_20 : decode cX10_whole 20 = .ok (.getfield 12, 3) := by decide +kernel
theorem dX10_whole_23 : decode cX10_whole 23 = .ok (.iload_n 3, 1) := by decide +kernel
theorem dX10_whole_24 : decode cX10_whole 24 = .ok (.invokevirtual 121, 3) := by decide +kernel
theorem dX10_whole_27 : decode cX10_whole 27 = .ok (.checkcast 49, 3) := by decide +kernel
theorem dX10_whole_30 : decode cX10_whole 30 = .ok (.getfield 58, 3) := by decide +kernel
theorem dX10_whole_33 : decode cX10_whole 33 = .ok (.ior, 1) := by decide +kernel
theorem dX10_whole_34 : decode cX10_whole 34 = .ok (.istore_n 2, 1) := by decide +kernel
theorem dX10_whole_35 : decode cX10_whole 35 = .ok (.iinc 3 (-1), 3) := by decide +kernel
theorem dX10_whole_38 : decode cX10_whole 38 = .ok (.goto (-32), 3) := by decide +kernel
theorem dX10_whole_41 : decode cX10_whole 41 = .ok (.iload_n 2, 1) := by decide +kernel
theorem dX10_whole_42 : decode cX10_whole 42 = .ok (.ireturn, 1) := by decide +kernel
theorem dX10_build_0 : decode cX10_build 0 = .ok (.aload_n 0, 1) := by decide +kernel
theorem dX10_build_1 : decode cX10_build 1 = .ok (.getfield 28, 3) := by decide +kernel
theorem dX10_build_4 : decode cX10_build 4 = .ok (.iload_n 1, 1) := by decide +kernel
theorem dX10_build_5 : decode cX10_build 5 = .ok (.invokevirtual 121, 3) := by decide +kernel
theorem dX10_build_8 : decode cX10_build 8 = .ok (.checkcast 103, 3) := by decide +kernel
theorem dX10_build_11 : decode cX10_build 11 = .ok (.dup, 1) := by decide +kernel
theorem dX10_build_12 : decode cX10_build 12 = .ok (.getfield 112, 3) := by decide +kernel
theorem dX10_build_15 : decode cX10_build 15 = .ok (.iconst 1, 1) := by decide +kernel
theorem dX10_build_16 : decode cX10_build 16 = .ok (.iadd, 1) := by decide +kernel
theorem dX10_build_17 : decode cX10_build 17 = .ok (.putfield 112, 3) := by decide +kernel
theorem dX10_build_20 : decode cX10_build 20 = .ok (.aload_n 0, 1) := by decide +kernel
theorem dX10_build_21 : decode cX10_build 21 = .ok (.iload_n 2, 1) := by decide +kernel
theorem dX10_build_22 : decode cX10_build 22 = .ok (.invokevirtual 212, 3) := by decide +kernel
theorem dX10_build_25 : decode cX10_build 25 = .ok (.istore_n 3, 1) := by decide +kernel
theorem dX10_build_26 : decode cX10_build 26 = .ok (.bipush 14, 2) := by decide +kernel
theorem dX10_build_28 : decode cX10_build 28 = .ok (.newarray .int, 2) := by decide +kernel
theorem dX10_build_30 : decode cX10_build 30 = .ok (.astore 4, 2) := by decide +kernel
theorem dX10_build_32 : decode cX10_build 32 = .ok (.bipush 14, 2) := by decide +kernel
theorem dX10_build_34 : decode cX10_build 34 = .ok (.newarray .int, 2) := by decide +kernel
theorem dX10_build_36 : decode cX10_build 36 = .ok (.astore 5, 2) := by decide +kernel
theorem dX10_build_38 : decode cX10_build 38 = .ok (.iconst 0, 1) := by decide +kernel
theorem dX10_build_39 : decode cX10_build 39 = .ok (.istore 6, 2) := by decide +kernel
theorem dX10_build_41 : decode cX10_build 41 = .ok (.iload 6, 2) := by decide +kernel
theorem dX10_build_43 : decode cX10_build 43 = .ok (.iload_n 2, 1) := by decide +kernel
theorem dX10_build_44 : decode cX10_build 44 = .ok (.if_icmp .gt 97, 3) := by decide +kernel
theorem dX10_build_47 : decode cX10_build 47 = .ok (.iload_n 3, 1) := by decide +kernel
theorem dX10_build_48 : decode cX10_build 48 = .ok (.iload 6, 2) := by decide +kernel
theorem dX10_build_50 : decode cX10_build 50 = .ok (.invokestatic 138, 3) := by decide +kernel
theorem dX10_build_53 : decode cX10_build 53 = .ok (.ifCond .ne 6, 3) := by decide +kernel
theorem dX10_build_56 : decode cX10_build 56 = .ok (.goto 79, 3) := by decide +kernel
theorem dX10_build_59 : decode cX10_build 59 = .ok (.aload 5, 2) := by decide +kernel
theorem dX10_build_61 : decode cX10_build 61 = .ok (.iload 6, 2) := by decide +kernel
theorem dX10_build_63 : decode cX10_build 63 = .ok (.aload_n 0, 1) := by decide +kernel
theorem dX10_build_64 : decode cX10_build 64 = .ok (.iload_n 1, 1) := by decide +kernel
theorem dX10_build_65 : decode cX10_build 65 = .ok (.aload_n 0, 1) := by decide +kernel
theorem dX10_build_66 : decode cX10_build 66 = .ok (.getfield 12, 3) := by decide +kernel
theorem dX10_build_69 : decode cX10_build 69 = .ok (.iload 6, 2) := by decide +kernel
theorem dX10_build_71 : decode cX10_build 71 = .ok (.invokevirtual 121, 3) := by decide +kernel
theorem dX10_build_74 : decode cX10_build 74 = .ok (.checkcast 49, 3) := by decide +kernel
theorem dX10_build_77 : decode cX10_build 77 = .ok (.aload_n 0, 1) := by decide +kernel
theorem dX10_build_78 : decode cX10_build 78 = .ok (.aload_n 0, 1) := by decide +kernel
theorem dX10_build_79 : decode cX10_build 79 = .ok (.getfield 12, 3) := by decide +kernel
theorem dX10_build_82 : decode cX10_build 82 = .ok (.iload 6, 2) := by decide +kernel
theorem dX10_build_84 : decode cX10_build 84 = .ok (.invokevirtual 121, 3) := by decide +kernel
theorem dX10_build_87 : decode cX10_build 87 = .ok (.checkcast 49, 3) := by decide +kernel
theorem dX10_build_90 : decode cX10_build 90 = .ok (.aload 4, 2) := by decide +kernel
theorem dX10_build_92 : decode cX10_build 92 = .ok (.aload 5, 2) := by decide +kernel
theorem dX10_build_94 : decode cX10_build 94 = .ok (.invokevirtual 215, 3) := by decide +kernel
theorem dX10_build_97 : decode cX10_build 97 = .ok (.invokevirtual 219, 3) := by decide +kernel
theorem dX10_build_100 : decode cX10_build 100 = .ok (.iastore, 1) := by decide +kernel
theorem dX10_build_101 : decode cX10_build 101 = .ok (.aload 5, 2) := by decide +kernel
theorem dX10_build_103 : decode cX10_build 103 = .ok (.iload 6, 2) := by decide +kernel
theorem dX10_build_105 : decode cX10_build 105 = .ok (.iaload, 1) := by decide +kernel
theorem dX10_build_106 : decode cX10_build 106 = .ok (.iconst (-1), 1) := by decide +kernel
theorem dX10_build_107 : decode cX10_build 107 = .ok (.if_icmp .ne 5, 3) := by decide +kernel
theorem dX10_build_110 : decode cX10_build 110 = .ok (.iconst (-1), 1) := by decide +kernel
theorem dX10_build_111 : decode cX10_build 111 = .ok (.ireturn, 1) := by decide +kernel
theorem dX10_build_112 : decode cX10_build 112 = .ok (.aload 4, 2) := by decide +kernel
theorem dX10_build_114 : decode cX10_build 114 = .ok (.iload 6, 2) := by decide +kernel
theorem dX10_build_116 : decode cX10_build 116 = .ok (.aload_n 0, 1) := by decide +kernel
theorem dX10_build_117 : decode cX10_build 117 = .ok (.getfield 31, 3) := by decide +kernel
theorem dX10_build_120 : decode cX10_build 120 = .ok (.aload 5, 2) := by decide +kernel
theorem dX10_build_122 : decode cX10_build 122 = .ok (.iload 6, 2) := by decide +kernel
theorem dX10_build_124 : decode cX10_build 124 = .ok (.iaload, 1) := by decide +kernel
theorem dX10_build_125 : decode cX10_build 125 = .ok (.invokevirtual 121, 3) := by decide +kernel
theorem dX10_build_128 : decode cX10_build 128 = .ok (.checkcast 115, 3) := by decide +kernel
theorem dX10_build_131 : decode cX10_build 131 = .ok (.getfield 191, 3) := by decide +kernel
theorem dX10_build_134 : decode cX10_build 134 = .ok (.iastore, 1) := by decide +kernel
theorem dX10_build_135 : decode cX10_build 135 = .ok (.iinc 6 1, 3) := by decide +kernel
theorem dX10_build_138 : decode cX10_build 138 = .ok (.goto (-97), 3) := by decide +kernel
theorem dX10_build_141 : decode cX10_build 141 = .ok (.aload 4, 2) := by decide +kernel
theorem dX10_build_143 : decode cX10_build 143 = .ok (.iload_n 2, 1) := by decide +kernel
theorem dX10_build_144 : decode cX10_build 144 = .ok (.iaload, 1) := by decide +kernel
theorem dX10_build_145 : decode cX10_build 145 = .ok (.ireturn, 1) := by decide +kernel
theorem dX10_got_0 : decode cX10_got 0 = .ok (.iconst 0, 1) := by decide +kernel
theorem dX10_got_1 : decode cX10_got 1 = .ok (.istore 4, 2) := by decide +kernel
theorem dX10_got_3 : decode cX10_got 3 = .ok (.iload 4, 2) := by decide +kernel
theorem dX10_got_5 : decode cX10_got 5 = .ok (.aload_n 0, 1) := by decide +kernel
theorem dX10_got_6 : decode cX10_got 6 = .ok (.getfield 31, 3) := by decide +kernel
theorem dX10_got_9 : decode cX10_got 9 = .ok (.invokevirtual 153, 3) := by decide +kernel
theorem dX10_got_12 : decode cX10_got 12 = .ok (.if_icmp .ge 160, 3) := by decide +kernel
theorem dX10_got_15 : decode cX10_got 15 = .ok (.aload_n 0, 1) := by decide +kernel
theorem dX10_got_16 : decode cX10_got 16 = .ok (.getfield 31, 3) := by decide +kernel
theorem dX10_got_19 : decode cX10_got 19 = .ok (.iload 4, 2) := by decide +kernel
theorem dX10_got_21 : decode cX10_got 21 = .ok (.invokevirtual 121, 3) := by decide +kernel
theorem dX10_got_24 : decode cX10_got 24 = .ok (.checkcast 115, 3) := by decide +kernel
theorem dX10_got_27 : decode cX10_got 27 = .ok (.astore 5, 2) := by decide +kernel
theorem dX10_got_29 : decode cX10_got 29 = .ok (.aload 5, 2) := by decide +kernel
theorem dX10_got_31 : decode cX10_got 31 = .ok (.getfield 117, 3) := by decide +kernel
theorem dX10_got_34 : decode cX10_got 34 = .ok (.aload_n 2, 1) := by decide +kernel
theorem dX10_got_35 : decode cX10_got 35 = .ok (.if_acmp .ne 131, 3) := by decide +kernel
theorem dX10_got_38 : decode cX10_got 38 = .ok (.aload 5, 2) := by decide +kernel
theorem dX10_got_40 : decode cX10_got 40 = .ok (.getfield 163, 3) := by decide +kernel
theorem dX10_got_43 : decode cX10_got 43 = .ok (.ifCond .ne 123, 3) := by decide +kernel
theorem dX10_got_46 : decode cX10_got 46 = .ok (.aload 5, 2) := by decide +kernel
theorem dX10_got_48 : decode cX10_got 48 = .ok (.aload_n 3, 1) := by decide +kernel
theorem dX10_got_49 : decode cX10_got 49 = .ok (.invokevirtual 222, 3) := by decide +kernel
theorem dX10_got_52 : decode cX10_got 52 = .ok (.ifCond .ne 6, 3) := by decide +kernel
theorem dX10_got_55 : decode cX10_got 55 = .ok (.goto 111, 3) := by decide +kernel
theorem dX10_got_58 : decode cX10_got 58 = .ok (.aload 5, 2) := by decide +kernel
theorem dX10_got_60 : decode cX10_got 60 = .ok (.dup, 1) := by decide +kernel
theorem dX10_got_61 : decode cX10_got 61 = .ok (.getfield 226, 3) := by decide +kernel
theorem dX10_got_64 : decode cX10_got 64 = .ok (.iconst 1, 1) := by decide +kernel
theorem dX10_got_65 : decode cX10_got 65 = .ok (.iadd, 1) := by decide +kernel
theorem dX10_got_66 : decode cX10_got 66 = .ok (.putfield 226, 3) := by decide +kernel
theorem dX10_got_69 : decode cX10_got 69 = .ok (.aload_n 0, 1) := by decide +kernel
theorem dX10_got_70 : decode cX10_got 70 = .ok (.dup, 1) := by decide +kernel
theorem dX10_got_71 : decode cX10_got 71 = .ok (.getfield 132, 3) := by decide +kernel
theorem dX10_got_74 : decode cX10_got 74 = .ok (.iconst 1, 1) := by decide +kernel
theorem dX10_got_75 : decode cX10_got 75 = .ok (.iadd, 1) := by decide +kernel
theorem dX10_got_76 : decode cX10_got 76 = .ok (.putfield 132, 3) := by decide +kernel
theorem dX10_got_79 : decode cX10_got 79 = .ok (.aload_n 0, 1) := by decide +kernel
theorem dX10_got_80 : decode cX10_got 80 = .ok (.getfield 28, 3) := by decide +kernel
theorem dX10_got_83 : decode cX10_got 83 = .ok (.iload_n 1, 1) := by decide +kernel
theorem dX10_got_84 : decode cX10_got 84 = .ok (.invokevirtual 121, 3) := by decide +kernel
theorem dX10_got_87 : decode cX10_got 87 = .ok (.checkcast 103, 3) := by decide +kernel
theorem dX10_got_90 : decode cX10_got 90 = .ok (.dup, 1) := by decide +kernel
theorem dX10_got_91 : decode cX10_got 91 = .ok (.getfield 109, 3) := by decide +kernel
theorem dX10_got_94 : decode cX10_got 94 = .ok (.aload_n 2, 1) := by decide +kernel
theorem dX10_got_95 : decode cX10_got 95 = .ok (.getfield 66, 3) := by decide +kernel
theorem dX10_got_98 : decode cX10_got 98 = .ok (.iadd, 1) := by decide +kernel
theorem dX10_got_99 : decode cX10_got 99 = .ok (.putfield 109, 3) := by decide +kernel
theorem dX10_got_102 : decode cX10_got 102 = .ok (.aload_n 0, 1) := by decide +kernel
theorem dX10_got_103 : decode cX10_got 103 = .ok (.getfield 129, 3) := by decide +kernel
theorem dX10_got_106 : decode cX10_got 106 = .ok (.ifCond .le 26, 3) := by decide +kernel
theorem dX10_got_109 : decode cX10_got 109 = .ok (.aload_n 0, 1) := by decide +kernel
theorem dX10_got_110 : decode cX10_got 110 = .ok (.getfield 132, 3) := by decide +kernel
theorem dX10_got_113 : decode cX10_got 113 = .ok (.aload_n 0, 1) := by decide +kernel
theorem dX10_got_114 : decode cX10_got 114 = .ok (.getfield 129, 3) := by decide +kernel
theorem dX10_got_117 : decode cX10_got 117 = .ok (.irem, 1) := by decide +kernel
theorem dX10_got_118 : decode cX10_got 118 = .ok (.ifCond .ne 14, 3) := by decide +kernel
theorem dX10_got_121 : decode cX10_got 121 = .ok (.aload_n 0, 1) := by decide +kernel
theorem dX10_got_122 : decode cX10_got 122 = .ok (.iload 4, 2) := by decide +kernel
theorem dX10_got_124 : decode cX10_got 124 = .ok (.aload_n 3, 1) := by decide +kernel
theorem dX10_got_125 : decode cX10_got 125 = .ok (.iload_n 1, 1) := by decide +kernel
theorem dX10_got_126 : decode cX10_got 126 = .ok (.invokevirtual 227, 3) := by decide +kernel
theorem dX10_got_129 : decode cX10_got 129 = .ok (.goto 4, 3) := by decide +kernel
theorem dX10_got_132 : decode cX10_got 132 = .ok (.iconst 0, 1) := by decide +kernel
theorem dX10_got_133 : decode cX10_got 133 = .ok (.istore 6, 2) := by decide +kernel
theorem dX10_got_135 : decode cX10_got 135 = .ok (.iload 6, 2) := by decide +kernel
theorem dX10_got_137 : decode cX10_got 137 = .ok (.iconst 3, 1) := by decide +kernel
theorem dX10_got_138 : decode cX10_got 138 = .ok (.if_icmp .ne 7, 3) := by decide +kernel
theorem dX10_got_141 : decode cX10_got 141 = .ok (.iconst (-1), 1) := by decide +kernel
theorem dX10_got_142 : decode cX10_got 142 = .ok (.goto 23, 3) := by decide +kernel
theorem dX10_got_145 : decode cX10_got 145 = .ok (.iload 6, 2) := by decide +kernel
theorem dX10_got_147 : decode cX10_got 147 = .ok (.iconst 2, 1) := by decide +kernel
theorem dX10_got_148 : decode cX10_got 148 = .ok (.if_icmp .ne 15, 3) := by decide +kernel
theorem dX10_got_151 : decode cX10_got 151 = .ok (.aload_n 0, 1) := by decide +kernel
theorem dX10_got_152 : decode cX10_got 152 = .ok (.getfield 31, 3) := by decide +kernel
theorem dX10_got_155 : decode cX10_got 155 = .ok (.invokevirtual 153, 3) := by decide +kernel
theorem dX10_got_158 : decode cX10_got 158 = .ok (.iconst 1, 1) := by decide +kernel
theorem dX10_got_159 : decode cX10_got 159 = .ok (.isub, 1) := by decide +kernel
theorem dX10_got_160 : decode cX10_got 160 = .ok (.goto 5, 3) := by decide +kernel
theorem dX10_got_163 : decode cX10_got 163 = .ok (.iload 4, 2) := by decide +kernel
theorem dX10_got_165 : decode cX10_got 165 = .ok (.ireturn, 1) := by decide +kernel
theorem dX10_got_166 : decode cX10_got 166 = .ok (.iinc 4 1, 3) := by decide +kernel
theorem dX10_got_169 : decode cX10_got 169 = .ok (.goto (-166), 3) := by decide +kernel
theorem dX10_got_172 : decode cX10_got 172 = .ok (.aload_n 0, 1) := by decide +kernel
theorem dX10_got_173 : decode cX10_got 173 = .ok (.iconst (-1), 1) := by decide +kernel
theorem dX10_got_174 : decode cX10_got 174 = .ok (.invokevirtual 184, 3) := by decide +kernel
theorem dX10_got_177 : decode cX10_got 177 = .ok (.istore 4, 2) := by decide +kernel
theorem dX10_got_179 : decode cX10_got 179 = .ok (.iload 4, 2) := by decide +kernel
theorem dX10_got_181 : decode cX10_got 181 = .ok (.iconst (-1), 1) := by decide +kernel
theorem dX10_got_182 : decode cX10_got 182 = .ok (.if_icmp .ne 5, 3) := by decide +kernel
theorem dX10_got_185 : decode cX10_got 185 = .ok (.iconst (-1), 1) := by decide +kernel
theorem dX10_got_186 : decode cX10_got 186 = .ok (.ireturn, 1) := by decide +kernel
theorem dX10_got_187 : decode cX10_got 187 = .ok (.aload_n 0, 1) := by decide +kernel
theorem dX10_got_188 : decode cX10_got 188 = .ok (.iload 4, 2) := by decide +kernel
theorem dX10_got_190 : decode cX10_got 190 = .ok (.aload_n 2, 1) := by decide +kernel
theorem dX10_got_191 : decode cX10_got 191 = .ok (.aload_n 3, 1) := by decide +kernel
theorem dX10_got_192 : decode cX10_got 192 = .ok (.invokevirtual 187, 3) := by decide +kernel
theorem dX10_got_195 : decode cX10_got 195 = .ok (.istore 5, 2) := by decide +kernel
theorem dX10_got_197 : decode cX10_got 197 = .ok (.aload_n 0, 1) := by decide +kernel
theorem dX10_got_198 : decode cX10_got 198 = .ok (.new 115, 3) := by decide +kernel
theorem dX10_got_201 : decode cX10_got 201 = .ok (.dup, 1) := by decide +kernel
theorem dX10_got_202 : decode cX10_got 202 = .ok (.aload_n 2, 1) := by decide +kernel
theorem dX10_got_203 : decode cX10_got 203 = .ok (.iload 4, 2) := by decide +kernel
theorem dX10_got_205 : decode cX10_got 205 = .ok (.iload_n 1, 1) := by decide +kernel
theorem dX10_got_206 : decode cX10_got 206 = .ok (.iload 5, 2) := by decide +kernel
theorem dX10_got_208 : decode cX10_got 208 = .ok (.aload_n 3, 1) := by decide +kernel
theorem dX10_got_209 : decode cX10_got 209 = .ok (.invokespecial 205, 3) := by decide +kernel
theorem dX10_got_212 : decode cX10_got 212 = .ok (.invokevirtual 208, 3) := by decide +kernel
theorem dX10_got_215 : decode cX10_got 215 = .ok (.ifCond .eq 15, 3) := by decide +kernel
theorem dX10_got_218 : decode cX10_got 218 = .ok (.aload_n 0, 1) := by decide +kernel
theorem dX10_got_219 : decode cX10_got 219 = .ok (.getfield 31, 3) := by decide +kernel
theorem dX10_got_222 : decode cX10_got 222 = .ok (.invokevirtual 153, 3) := by decide +kernel
theorem dX10_got_225 : decode cX10_got 225 = .ok (.iconst 1, 1) := by decide +kernel
theorem dX10_got_226 : decode cX10_got 226 = .ok (.isub, 1) := by decide +kernel
theorem dX10_got_227 : decode cX10_got 227 = .ok (.goto 4, 3) := by decide +kernel
theorem dX10_got_230 : decode cX10_got 230 = .ok (.iconst (-1), 1) := by decide +kernel
theorem dX10_got_231 : decode cX10_got 231 = .ok (.ireturn, 1) := by decide +kernel
theorem dX10_would_0 : decode cX10_would 0 = .ok (.aload_n 0, 1) := by decide +kernel
theorem dX10_would_1 : decode cX10_would 1 = .ok (.iload_n 1, 1) := by decide +kernel
theorem dX10_would_2 : decode cX10_would 2 = .ok (.invokevirtual 212, 3) := by decide +kernel
theorem dX10_would_5 : decode cX10_would 5 = .ok (.istore_n 2, 1) := by decide +kernel
theorem dX10_would_6 : decode cX10_would 6 = .ok (.bipush 14, 2) := by decide +kernel
theorem dX10_would_8 : decode cX10_would 8 = .ok (.newarray .int, 2) := by decide +kernel
theorem dX10_would_10 : decode cX10_would 10 = .ok (.astore_n 3, 1) := by decide +kernel
theorem dX10_would_11 : decode cX10_would 11 = .ok (.iconst 0, 1) := by decide +kernel
theorem dX10_would_12 : decode cX10_would 12 = .ok (.istore 4, 2) := by decide +kernel
theorem dX10_would_14 : decode cX10_would 14 = .ok (.iload 4, 2) := by decide +kernel
theorem dX10_would_16 : decode cX10_would 16 = .ok (.iload_n 1, 1) := by decide +kernel
theorem dX10_would_17 : decode cX10_would 17 = .ok (.if_icmp .gt 60, 3) := by decide +kernel
theorem dX10_would_20 : decode cX10_would 20 = .ok (.aload_n 3, 1) := by decide +kernel
theorem dX10_would_21 : decode cX10_would 21 = .ok (.iload 4, 2) := by decide +kernel
theorem dX10_would_23 : decode cX10_would 23 = .ok (.iload_n 2, 1) := by decide +kernel
theorem dX10_would_24 : decode cX10_would 24 = .ok (.iload 4, 2) := by decide +kernel
theorem dX10_would_26 : decode cX10_would 26 = .ok (.invokestatic 138, 3) := by decide +kernel
theorem dX10_would_29 : decode cX10_would 29 = .ok (.ifCond .eq 40, 3) := by decide +kernel
theorem dX10_would_32 : decode cX10_would 32 = .ok (.aload_n 0, 1) := by decide +kernel
theorem dX10_would_33 : decode cX10_would 33 = .ok (.aload_n 0, 1) := by decide +kernel
theorem dX10_would_34 : decode cX10_would 34 = .ok (.getfield 12, 3) := by decide +kernel
theorem dX10_would_37 : decode cX10_would 37 = .ok (.iload 4, 2) := by decide +kernel
theorem dX10_would_39 : decode cX10_would 39 = .ok (.invokevirtual 121, 3) := by decide +kernel
theorem dX10_would_42 : decode cX10_would 42 = .ok (.checkcast 49, 3) := by decide +kernel
theorem dX10_would_45 : decode cX10_would 45 = .ok (.aload_n 0, 1) := by decide +kernel
theorem dX10_would_46 : decode cX10_would 46 = .ok (.aload_n 0, 1) := by decide +kernel
theorem dX10_would_47 : decode cX10_would 47 = .ok (.getfield 12, 3) := by decide +kernel
theorem dX10_would_50 : decode cX10_would 50 = .ok (.iload 4, 2) := by decide +kernel
theorem dX10_would_52 : decode cX10_would 52 = .ok (.invokevirtual 121, 3) := by decide +kernel
theorem dX10_would_55 : decode cX10_would 55 = .ok (.checkcast 49, 3) := by decide +kernel
theorem dX10_would_58 : decode cX10_would 58 = .ok (.aload_n 3, 1) := by decide +kernel
theorem dX10_would_59 : decode cX10_would 59 = .ok (.aload_n 3, 1) := by decide +kernel
theorem dX10_would_60 : decode cX10_would 60 = .ok (.invokevirtual 215, 3) := by decide +kernel
theorem dX10_would_63 : decode cX10_would 63 = .ok (.invokevirtual 156, 3) := by decide +kernel
theorem dX10_would_66 : decode cX10_would 66 = .ok (.goto 4, 3) := by decide +kernel
theorem dX10_would_69 : decode cX10_would 69 = .ok (.iconst 0, 1) := by decide +kernel
theorem dX10_would_70 : decode cX10_would 70 = .ok (.iastore, 1) := by decide +kernel
theorem dX10_would_71 : decode cX10_would 71 = .ok (.iinc 4 1, 3) := by decide +kernel
theorem dX10_would_74 : decode cX10_would 74 = .ok (.goto (-60), 3) := by decide +kernel
theorem dX10_would_77 : decode cX10_would 77 = .ok (.aload_n 3, 1) := by decide +kernel
theorem dX10_would_78 : decode cX10_would 78 = .ok (.iload_n 1, 1) := by decide +kernel
theorem dX10_would_79 : decode cX10_would 79 = .ok (.iaload, 1) := by decide +kernel
theorem dX10_would_80 : decode cX10_would 80 = .ok (.ireturn, 1) := by decide +kernel
theorem dX10_runs_0 : decode cX10_runs 0 = .ok (.iconst 0, 1) := by decide +kernel
theorem dX10_runs_1 : decode cX10_runs 1 = .ok (.istore_n 1, 1) := by decide +kernel
theorem dX10_runs_2 : decode cX10_runs 2 = .ok (.aload_n 0, 1) := by decide +kernel
theorem dX10_runs_3 : decode cX10_runs 3 = .ok (.getfield 25, 3) := by decide +kernel
theorem dX10_runs_6 : decode cX10_runs 6 = .ok (.invokevirtual 35, 3) := by decide +kernel
theorem dX10_runs_9 : decode cX10_runs 9 = .ok (.astore_n 2, 1) := by decide +kernel
theorem dX10_runs_10 : decode cX10_runs 10 = .ok (.aload_n 2, 1) := by decide +kernel
theorem dX10_runs_11 : decode cX10_runs 11 = .ok (.invokeinterface 39 1, 5) := by decide +kernel
theorem dX10_runs_16 : decode cX10_runs 16 = .ok (.ifCond .eq 23, 3) := by decide +kernel
theorem dX10_runs_19 : decode cX10_runs 19 = .ok (.aload_n 2, 1) := by decide +kernel
theorem dX10_runs_20 : decode cX10_runs 20 = .ok (.invokeinterface 45 1, 5) := by decide +kernel
theorem dX10_runs_25 : decode cX10_runs 25 = .ok (.checkcast 85, 3) := by decide +kernel
theorem dX10_runs_28 : decode cX10_runs 28 = .ok (.astore_n 3, 1) := by decide +kernel
theorem dX10_runs_29 : decode cX10_runs 29 = .ok (.iload_n 1, 1) := by decide +kernel
theorem dX10_runs_30 : decode cX10_runs 30 = .ok (.aload_n 3, 1) := by decide +kernel
theorem dX10_runs_31 : decode cX10_runs 31 = .ok (.getfield 94, 3) := by decide +kernel
theorem dX10_runs_34 : decode cX10_runs 34 = .ok (.iadd, 1) := by decide +kernel
theorem dX10_runs_35 : decode cX10_runs 35 = .ok (.istore_n 1, 1) := by decide +kernel
theorem dX10_runs_36 : decode cX10_runs 36 = .ok (.goto (-26), 3) := by decide +kernel
theorem dX10_runs_39 : decode cX10_runs 39 = .ok (.iload_n 1, 1) := by decide +kernel
theorem dX10_runs_40 : decode cX10_runs 40 = .ok (.ireturn, 1) := by decide +kernel
theorem dX11_init_0 : decode cX11_init 0 = .ok (.aload_n 0, 1) := by decide +kernel
theorem dX11_init_1 : decode cX11_init 1 = .ok (.invokespecial 3, 3) := by decide +kernel
theorem dX11_init_4 : decode cX11_init 4 = .ok (.aload_n 0, 1) := by decide +kernel
theorem dX11_init_5 : decode cX11_init 5 = .ok (.bipush 8, 2) := by decide +kernel
theorem dX11_init_7 : decode cX11_init 7 = .ok (.newarray .int, 2) := by decide +kernel
theorem dX11_init_9 : decode cX11_init 9 = .ok (.putfield 9, 3) := by decide +kernel
theorem dX11_init_12 : decode cX11_init 12 = .ok (.aload_n 0, 1) := by decide +kernel
theorem dX11_init_13 : decode cX11_init 13 = .ok (.bipush 14, 2) := by decide +kernel
theorem dX11_init_15 : decode cX11_init 15 = .ok (.newarray .int, 2) := by decide +kernel
theorem dX11_init_17 : decode cX11_init 17 = .ok (.putfield 15, 3) := by decide +kernel
theorem dX11_init_20 : decode cX11_init 20 = .ok (.aload_n 0, 1) := by decide +kernel
theorem dX11_init_21 : decode cX11_init 21 = .ok (.bipush 14, 2) := by decide +kernel
theorem dX11_init_23 : decode cX11_init 23 = .ok (.newarray .int, 2) := by decide +kernel
theorem dX11_init_25 : decode cX11_init 25 = .ok (.putfield 18, 3) := by decide +kernel
theorem dX11_init_28 : decode cX11_init 28 = .ok (.aload_n 0, 1) := by decide +kernel
theorem dX11_init_29 : decode cX11_init 29 = .ok (.bipush 6, 2) := by decide +kernel
theorem dX11_init_31 : decode cX11_init 31 = .ok (.newarray .int, 2) := by decide +kernel
theorem dX11_init_33 : decode cX11_init 33 = .ok (.putfield 21, 3) := by decide +kernel
theorem dX11_init_36 : decode cX11_init 36 = .ok (.return_, 1) := by decide +kernel
theorem dX12_init_0 : decode cX12_init 0 = .ok (.aload_n 0, 1) := by decide +kernel
theorem dX12_init_1 : decode cX12_init 1 = .ok (.invokespecial 1, 3) := by decide +kernel
theorem dX12_init_4 : decode cX12_init 4 = .ok (.return_, 1) := by decide +kernel
theorem dX13_init_0 : decode cX13_init 0 = .ok (.aload_n 0, 1) := by decide +kernel
theorem dX13_init_1 : decode cX13_init 1 = .ok (.invokespecial 3, 3) := by decide +kernel
theorem dX13_init_4 : decode cX13_init 4 = .ok (.aload_n 0, 1) := by decide +kernel
theorem dX13_init_5 : decode cX13_init 5 = .ok (.bipush 50, 2) := by decide +kernel
theorem dX13_init_7 : decode cX13_init 7 = .ok (.putfield 9, 3) := by decide +kernel
theorem dX13_init_10 : decode cX13_init 10 = .ok (.return_, 1) := by decide +kernel
theorem dX14_init_0 : decode cX14_init 0 = .ok (.aload_n 0, 1) := by decide +kernel
theorem dX14_init_1 : decode cX14_init 1 = .ok (.invokespecial 1, 3) := by decide +kernel
theorem dX14_init_4 : decode cX14_init 4 = .ok (.aload_n 0, 1) := by decide +kernel
theorem dX14_init_5 : decode cX14_init 5 = .ok (.new 7, 3) := by decide +kernel
theorem dX14_init_8 : decode cX14_init 8 = .ok (.dup, 1) := by decide +kernel
theorem dX14_init_9 : decode cX14_init 9 = .ok (.invokespecial 9, 3) := by decide +kernel
theorem dX14_init_12 : decode cX14_init 12 = .ok (.putfield 10, 3) := by decide +kernel
theorem dX14_init_15 : decode cX14_init 15 = .ok (.return_, 1) := by decide +kernel
theorem dX14_thrown_0 : decode cX14_thrown 0 = .ok (.aload_n 0, 1) := by decide +kernel
theorem dX14_thrown_1 : decode cX14_thrown 1 = .ok (.getfield 16, 3) := by decide +kernel
theorem dX14_thrown_4 : decode cX14_thrown 4 = .ok (.ireturn, 1) := by decide +kernel
theorem dX14_refuse_0 : decode cX14_refuse 0 = .ok (.aload_n 0, 1) := by decide +kernel
theorem dX14_refuse_1 : decode cX14_refuse 1 = .ok (.iload_n 1, 1) := by decide +kernel
theorem dX14_refuse_2 : decode cX14_refuse 2 = .ok (.putfield 16, 3) := by decide +kernel
theorem dX14_refuse_5 : decode cX14_refuse 5 = .ok (.iconst 0, 1) := by decide +kernel
theorem dX14_refuse_6 : decode cX14_refuse 6 = .ok (.ireturn, 1) := by decide +kernel
theorem dX14_is_0 : decode cX14_is 0 = .ok (.iload_n 0, 1) := by decide +kernel
theorem dX14_is_1 : decode cX14_is 1 = .ok (.iload_n 1, 1) := by decide +kernel
theorem dX14_is_2 : decode cX14_is 2 = .ok (.if_icmp .lt 12, 3) := by decide +kernel
theorem dX14_is_5 : decode cX14_is 5 = .ok (.iload_n 0, 1) := by decide +kernel
theorem dX14_is_6 : decode cX14_is 6 = .ok (.iload_n 2, 1) := by decide +kernel
theorem dX14_is_7 : decode cX14_is 7 = .ok (.if_icmp .gt 7, 3) := by decide +kernel
theorem dX14_is_10 : decode cX14_is 10 = .ok (.iconst 1, 1) := by decide +kernel
theorem dX14_is_11 : decode cX14_is 11 = .ok (.goto 4, 3) := by decide +kernel
theorem dX14_is_14 : decode cX14_is 14 = .ok (.iconst 0, 1) := by decide +kernel
theorem dX14_is_15 : decode cX14_is 15 = .ok (.ireturn, 1) := by decide +kernel
theorem dX14_has_0 : decode cX14_has 0 = .ok (.iload_n 0, 1) := by decide +kernel
theorem dX14_has_1 : decode cX14_has 1 = .ok (.iload_n 1, 1) := by decide +kernel
theorem dX14_has_2 : decode cX14_has 2 = .ok (.ishr, 1) := by decide +kernel
theorem dX14_has_3 : decode cX14_has 3 = .ok (.iconst 1, 1) := by decide +kernel
theorem dX14_has_4 : decode cX14_has 4 = .ok (.iand, 1) := by decide +kernel
theorem dX14_has_5 : decode cX14_has 5 = .ok (.iconst 1, 1) := by decide +kernel
theorem dX14_has_6 : decode cX14_has 6 = .ok (.if_icmp .ne 7, 3) := by decide +kernel
theorem dX14_has_9 : decode cX14_has 9 = .ok (.iconst 1, 1) := by decide +kernel
theorem dX14_has_10 : decode cX14_has 10 = .ok (.goto 4, 3) := by decide +kernel
theorem dX14_has_13 : decode cX14_has 13 = .ok (.iconst 0, 1) := by decide +kernel
theorem dX14_has_14 : decode cX14_has 14 = .ok (.ireturn, 1) := by decide +kernel
theorem dX14_isAction_0 : decode cX14_isAction 0 = .ok (.iload_n 1, 1) := by decide +kernel
theorem dX14_isAction_1 : decode cX14_isAction 1 = .ok (.iconst 0, 1) := by decide +kernel
theorem dX14_isAction_2 : decode cX14_isAction 2 = .ok (.aload_n 0, 1) := by decide +kernel
theorem dX14_isAction_3 : decode cX14_isAction 3 = .ok (.getfield 10, 3) := by decide +kernel
theorem dX14_isAction_6 : decode cX14_isAction 6 = .ok (.getfield 20, 3) := by decide +kernel
theorem dX14_isAction_9 : decode cX14_isAction 9 = .ok (.invokevirtual 24, 3) := by decide +kernel
theorem dX14_isAction_12 : decode cX14_isAction 12 = .ok (.iconst 1, 1) := by decide +kernel
theorem dX14_isAction_13 : decode cX14_isAction 13 = .ok (.isub, 1) := by decide +kernel
theorem dX14_isAction_14 : decode cX14_isAction 14 = .ok (.invokestatic 30, 3) := by decide +kernel
theorem dX14_isAction_17 : decode cX14_isAction 17 = .ok (.ireturn, 1) := by decide +kernel
theorem dX14_isWorker_0 : decode cX14_isWorker 0 = .ok (.iload_n 1, 1) := by decide +kernel
theorem dX14_isWorker_1 : decode cX14_isWorker 1 = .ok (.iconst 0, 1) := by decide +kernel
theorem dX14_isWorker_2 : decode cX14_isWorker 2 = .ok (.aload_n 0, 1) := by decide +kernel
theorem dX14_isWorker_3 : decode cX14_isWorker 3 = .ok (.getfield 10, 3) := by decide +kernel
theorem dX14_isWorker_6 : decode cX14_isWorker 6 = .ok (.getfield 34, 3) := by decide +kernel
theorem dX14_isWorker_9 : decode cX14_isWorker 9 = .ok (.invokevirtual 24, 3) := by decide +kernel
theorem dX14_isWorker_12 : decode cX14_isWorker 12 = .ok (.iconst 1, 1) := by decide +kernel
theorem dX14_isWorker_13 : decode cX14_isWorker 13 = .ok (.isub, 1) := by decide +kernel
theorem dX14_isWorker_14 : decode cX14_isWorker 14 = .ok (.invokestatic 30, 3) := by decide +kernel
theorem dX14_isWorker_17 : decode cX14_isWorker 17 = .ok (.ireturn, 1) := by decide +kernel
theorem dX14_isTeam_0 : decode cX14_isTeam 0 = .ok (.iload_n 1, 1) := by decide +kernel
theorem dX14_isTeam_1 : decode cX14_isTeam 1 = .ok (.iconst 0, 1) := by decide +kernel
theorem dX14_isTeam_2 : decode cX14_isTeam 2 = .ok (.aload_n 0, 1) := by decide +kernel
theorem dX14_isTeam_3 : decode cX14_isTeam 3 = .ok (.getfield 10, 3) := by decide +kernel
theorem dX14_isTeam_6 : decode cX14_isTeam 6 = .ok (.getfield 37, 3) := by decide +kernel
theorem dX14_isTeam_9 : decode cX14_isTeam 9 = .ok (.invokevirtual 24, 3) := by decide +kernel
theorem dX14_isTeam_12 : decode cX14_isTeam 12 = .ok (.iconst 1, 1) := by decide +kernel
theorem dX14_isTeam_13 : decode cX14_isTeam 13 = .ok (.isub, 1) := by decide +kernel
theorem dX14_isTeam_14 : decode cX14_isTeam 14 = .ok (.invokestatic 30, 3) := by decide +kernel
theorem dX14_isTeam_17 : decode cX14_isTeam 17 = .ok (.ireturn, 1) := by decide +kernel
theorem dX14_isEntry_0 : decode cX14_isEntry 0 = .ok (.iload_n 1, 1) := by decide +kernel
theorem dX14_isEntry_1 : decode cX14_isEntry 1 = .ok (.iconst 0, 1) := by decide +kernel
theorem dX14_isEntry_2 : decode cX14_isEntry 2 = .ok (.aload_n 0, 1) := by decide +kernel
theorem dX14_isEntry_3 : decode cX14_isEntry 3 = .ok (.getfield 10, 3) := by decide +kernel
theorem dX14_isEntry_6 : decode cX14_isEntry 6 = .ok (.getfield 40, 3) := by decide +kernel
theorem dX14_isEntry_9 : decode cX14_isEntry 9 = .ok (.invokevirtual 24, 3) := by decide +kernel
theorem dX14_isEntry_12 : decode cX14_isEntry 12 = .ok (.iconst 1, 1) := by decide +kernel
theorem dX14_isEntry_13 : decode cX14_isEntry 13 = .ok (.isub, 1) := by decide +kernel
theorem dX14_isEntry_14 : decode cX14_isEntry 14 = .ok (.invokestatic 30, 3) := by decide +kernel
theorem dX14_isEntry_17 : decode cX14_isEntry 17 = .ok (.ireturn, 1) := by decide +kernel
theorem dX14_action_0 : decode cX14_action 0 = .ok (.aload_n 0, 1) := by decide +kernel
theorem dX14_action_1 : decode cX14_action 1 = .ok (.iconst 0, 1) := by decide +kernel
theorem dX14_action_2 : decode cX14_action 2 = .ok (.putfield 16, 3) := by decide +kernel
theorem dX14_action_5 : decode cX14_action 5 = .ok (.aload_n 0, 1) := by decide +kernel
theorem dX14_action_6 : decode cX14_action 6 = .ok (.getfield 10, 3) := by decide +kernel
theorem dX14_action_9 : decode cX14_action 9 = .ok (.getfield 20, 3) := by decide +kernel
theorem dX14_action_12 : decode cX14_action 12 = .ok (.invokevirtual 24, 3) := by decide +kernel
theorem dX14_action_15 : decode cX14_action 15 = .ok (.istore 7, 2) := by decide +kernel
theorem dX14_action_17 : decode cX14_action 17 = .ok (.iload_n 1, 1) := by decide +kernel
theorem dX14_action_18 : decode cX14_action 18 = .ok (.iconst 0, 1) := by decide +kernel
theorem dX14_action_19 : decode cX14_action 19 = .ok (.sipush 255, 3) := by decide +kernel
theorem dX14_action_22 : decode cX14_action 22 = .ok (.invokestatic 30, 3) := by decide +kernel
theorem dX14_action_25 : decode cX14_action 25 = .ok (.ifCond .eq 63, 3) := by decide +kernel
theorem dX14_action_28 : decode cX14_action 28 = .ok (.iload_n 2, 1) := by decide +kernel
theorem dX14_action_29 : decode cX14_action 29 = .ok (.iconst 0, 1) := by decide +kernel
theorem dX14_action_30 : decode cX14_action 30 = .ok (.iconst 1, 1) := by decide +kernel
theorem dX14_action_31 : decode cX14_action 31 = .ok (.iload 7, 2) := by decide +kernel
theorem dX14_action_33 : decode cX14_action 33 = .ok (.ishl, 1) := by decide +kernel
theorem dX14_action_34 : decode cX14_action 34 = .ok (.iconst 1, 1) := by decide +kernel
theorem dX14_action_35 : decode cX14_action 35 = .ok (.isub, 1) := by decide +kernel
theorem dX14_action_36 : decode cX14_action 36 = .ok (.invokestatic 30, 3) := by decide +kernel
theorem dX14_action_39 : decode cX14_action 39 = .ok (.ifCond .eq 49, 3) := by decide +kernel
theorem dX14_action_42 : decode cX14_action 42 = .ok (.iload_n 3, 1) := by decide +kernel
theorem dX14_action_43 : decode cX14_action 43 = .ok (.iconst 0, 1) := by decide +kernel
theorem dX14_action_44 : decode cX14_action 44 = .ok (.bipush 63, 2) := by decide +kernel
theorem dX14_action_46 : decode cX14_action 46 = .ok (.invokestatic 30, 3) := by decide +kernel
theorem dX14_action_49 : decode cX14_action 49 = .ok (.ifCond .eq 39, 3) := by decide +kernel
theorem dX14_action_52 : decode cX14_action 52 = .ok (.iload 4, 2) := by decide +kernel
theorem dX14_action_54 : decode cX14_action 54 = .ok (.ifCond .lt 34, 3) := by decide +kernel
theorem dX14_action_57 : decode cX14_action 57 = .ok (.iload 4, 2) := by decide +kernel
theorem dX14_action_59 : decode cX14_action 59 = .ok (.iload_n 3, 1) := by decide +kernel
theorem dX14_action_60 : decode cX14_action 60 = .ok (.iconst (-1), 1) := by decide +kernel
theorem dX14_action_61 : decode cX14_action 61 = .ok (.ixor, 1) := by decide +kernel
theorem dX14_action_62 : decode cX14_action 62 = .ok (.iand, 1) := by decide +kernel
theorem dX14_action_63 : decode cX14_action 63 = .ok (.ifCond .ne 25, 3) := by decide +kernel
theorem dX14_action_66 : decode cX14_action 66 = .ok (.iload 5, 2) := by decide +kernel
theorem dX14_action_68 : decode cX14_action 68 = .ok (.iconst 1, 1) := by decide +kernel
theorem dX14_action_69 : decode cX14_action 69 = .ok (.bipush 50, 2) := by decide +kernel
theorem dX14_action_71 : decode cX14_action 71 = .ok (.invokestatic 30, 3) := by decide +kernel
theorem dX14_action_74 : decode cX14_action 74 = .ok (.ifCond .eq 14, 3) := by decide +kernel
theorem dX14_action_77 : decode cX14_action 77 = .ok (.iload 6, 2) := by decide +kernel
theorem dX14_action_79 : decode cX14_action 79 = .ok (.iconst 1, 1) := by decide +kernel
theorem dX14_action_80 : decode cX14_action 80 = .ok (.bipush 20, 2) := by decide +kernel
theorem dX14_action_82 : decode cX14_action 82 = .ok (.invokestatic 30, 3) := by decide +kernel
theorem dX14_action_85 : decode cX14_action 85 = .ok (.ifCond .ne 9, 3) := by decide +kernel
theorem dX14_action_88 : decode cX14_action 88 = .ok (.aload_n 0, 1) := by decide +kernel
theorem dX14_action_89 : decode cX14_action 89 = .ok (.iconst 1, 1) := by decide +kernel
theorem dX14_action_90 : decode cX14_action 90 = .ok (.invokevirtual 43, 3) := by decide +kernel
theorem dX14_action_93 : decode cX14_action 93 = .ok (.ireturn, 1) := by decide +kernel
theorem dX14_action_94 : decode cX14_action 94 = .ok (.iload 7, 2) := by decide +kernel
theorem dX14_action_96 : decode cX14_action 96 = .ok (.bipush 14, 2) := by decide +kernel
theorem dX14_action_98 : decode cX14_action 98 = .ok (.if_icmp .ne 9, 3) := by decide +kernel
theorem dX14_action_101 : decode cX14_action 101 = .ok (.aload_n 0, 1) := by decide +kernel
theorem dX14_action_102 : decode cX14_action 102 = .ok (.iconst 2, 1) := by decide +kernel
theorem dX14_action_103 : decode cX14_action 103 = .ok (.invokevirtual 43, 3) := by decide +kernel
theorem dX14_action_106 : decode cX14_action 106 = .ok (.ireturn, 1) := by decide +kernel
theorem dX14_action_107 : decode cX14_action 107 = .ok (.aload_n 0, 1) := by decide +kernel
theorem dX14_action_108 : decode cX14_action 108 = .ok (.getfield 10, 3) := by decide +kernel
theorem dX14_action_111 : decode cX14_action 111 = .ok (.getfield 20, 3) := by decide +kernel
theorem dX14_action_114 : decode cX14_action 114 = .ok (.new 47, 3) := by decide +kernel
theorem dX14_action_117 : decode cX14_action 117 = .ok (.dup, 1) := by decide +kernel
theorem dX14_action_118 : decode cX14_action 118 = .ok (.iload 7, 2) := by decide +kernel
theorem dX14_action_120 : decode cX14_action 120 = .ok (.iload_n 1, 1) := by decide +kernel
theorem dX14_action_121 : decode cX14_action 121 = .ok (.iload_n 2, 1) := by decide +kernel
theorem dX14_action_122 : decode cX14_action 122 = .ok (.iload_n 3, 1) := by decide +kernel
theorem dX14_action_123 : decode cX14_action 123 = .ok (.iload 4, 2) := by decide +kernel
theorem dX14_action_125 : decode cX14_action 125 = .ok (.iload 5, 2) := by decide +kernel
theorem dX14_action_127 : decode cX14_action 127 = .ok (.iload 6, 2) := by decide +kernel
theorem dX14_action_129 : decode cX14_action 129 = .ok (.invokespecial 49, 3) := by decide +kernel
theorem dX14_action_132 : decode cX14_action 132 = .ok (.invokevirtual 52, 3) := by decide +kernel
theorem dX14_action_135 : decode cX14_action 135 = .ok (.pop, 1) := by decide +kernel
theorem dX14_action_136 : decode cX14_action 136 = .ok (.iload 7, 2) := by decide +kernel
theorem dX14_action_138 : decode cX14_action 138 = .ok (.ireturn, 1) := by decide +kernel
theorem dX14_file_0 : decode cX14_file 0 = .ok (.aload_n 0, 1) := by decide +kernel
theorem dX14_file_1 : decode cX14_file 1 = .ok (.iconst 0, 1) := by decide +kernel
theorem dX14_file_2 : decode cX14_file 2 = .ok (.putfield 16, 3) := by decide +kernel
theorem dX14_file_5 : decode cX14_file 5 = .ok (.iload_n 1, 1) := by decide +kernel
theorem dX14_file_6 : decode cX14_file 6 = .ok (.iconst 0, 1) := by decide +kernel
theorem dX14_file_7 : decode cX14_file 7 = .ok (.bipush 7, 2) := by decide +kernel
theorem dX14_file_9 : decode cX14_file 9 = .ok (.invokestatic 30, 3) := by decide +kernel
theorem dX14_file_12 : decode cX14_file 12 = .ok (.ifCond .ne 9, 3) := by decide +kernel
theorem dX14_file_15 : decode cX14_file 15 = .ok (.aload_n 0, 1) := by decide +kernel
theorem dX14_file_16 : decode cX14_file 16 = .ok (.iconst 1, 1) := by decide +kernel
theorem dX14_file_17 : decode cX14_file 17 = .ok (.invokevirtual 43, 3) := by decide +kernel
theorem dX14_file_20 : decode cX14_file 20 = .ok (.ireturn, 1) := by decide +kernel
theorem dX14_file_21 : decode cX14_file 21 = .ok (.iload_n 2, 1) := by decide +kernel
theorem dX14_file_22 : decode cX14_file 22 = .ok (.iconst 0, 1) := by decide +kernel
theorem dX14_file_23 : decode cX14_file 23 = .ok (.bipush 99, 2) := by decide +kernel
theorem dX14_file_25 : decode cX14_file 25 = .ok (.invokestatic 30, 3) := by decide +kernel
theorem dX14_file_28 : decode cX14_file 28 = .ok (.ifCond .ne 9, 3) := by decide +kernel
theorem dX14_file_31 : decode cX14_file 31 = .ok (.aload_n 0, 1) := by decide +kernel
theorem dX14_file_32 : decode cX14_file 32 = .ok (.iconst 2, 1) := by decide +kernel
theorem dX14_file_33 : decode cX14_file 33 = .ok (.invokevirtual 43, 3) := by decide +kernel
theorem dX14_file_36 : decode cX14_file 36 = .ok (.ireturn, 1) := by decide +kernel
theorem dX14_file_37 : decode cX14_file 37 = .ok (.aload_n 0, 1) := by decide +kernel
theorem dX14_file_38 : decode cX14_file 38 = .ok (.getfield 10, 3) := by decide +kernel
theorem dX14_file_41 : decode cX14_file 41 = .ok (.getfield 56, 3) := by decide +kernel
theorem dX14_file_44 : decode cX14_file 44 = .ok (.iload_n 1, 1) := by decide +kernel
theorem dX14_file_45 : decode cX14_file 45 = .ok (.iaload, 1) := by decide +kernel
theorem dX14_file_46 : decode cX14_file 46 = .ok (.istore_n 3, 1) := by decide +kernel
theorem dX14_file_47 : decode cX14_file 47 = .ok (.aload_n 0, 1) := by decide +kernel
theorem dX14_file_48 : decode cX14_file 48 = .ok (.getfield 10, 3) := by decide +kernel
theorem dX14_file_51 : decode cX14_file 51 = .ok (.getfield 56, 3) := by decide +kernel
theorem dX14_file_54 : decode cX14_file 54 = .ok (.iload_n 1, 1) := by decide +kernel
theorem dX14_file_55 : decode cX14_file 55 = .ok (.iload_n 2, 1) := by decide +kernel
theorem dX14_file_56 : decode cX14_file 56 = .ok (.iastore, 1) := by decide +kernel
theorem dX14_file_57 : decode cX14_file 57 = .ok (.iload_n 3, 1) := by decide +kernel
theorem dX14_file_58 : decode cX14_file 58 = .ok (.ireturn, 1) := by decide +kernel
theorem dX14_set_0 : decode cX14_set 0 = .ok (.aload_n 0, 1) := by decide +kernel
theorem dX14_set_1 : decode cX14_set 1 = .ok (.iconst 0, 1) := by decide +kernel
theorem dX14_set_2 : decode cX14_set 2 = .ok (.putfield 16, 3) := by decide +kernel
theorem dX14_set_5 : decode cX14_set 5 = .ok (.iload_n 1, 1) := by decide +kernel
theorem dX14_set_6 : decode cX14_set 6 = .ok (.iconst 0, 1) := by decide +kernel
theorem dX14_set_7 : decode cX14_set 7 = .ok (.iconst 5, 1) := by decide +kernel
theorem dX14_set_8 : decode cX14_set 8 = .ok (.invokestatic 30, 3) := by decide +kernel
theorem dX14_set_11 : decode cX14_set 11 = .ok (.ifCond .ne 9, 3) := by decide +kernel
theorem dX14_set_14 : decode cX14_set 14 = .ok (.aload_n 0, 1) := by decide +kernel
theorem dX14_set_15 : decode cX14_set 15 = .ok (.iconst 1, 1) := by decide +kernel
theorem dX14_set_16 : decode cX14_set 16 = .ok (.invokevirtual 43, 3) := by decide +kernel
theorem dX14_set_19 : decode cX14_set 19 = .ok (.ireturn, 1) := by decide +kernel
theorem dX14_set_20 : decode cX14_set 20 = .ok (.iload_n 2, 1) := by decide +kernel
theorem dX14_set_21 : decode cX14_set 21 = .ok (.iconst 0, 1) := by decide +kernel
theorem dX14_set_22 : decode cX14_set 22 = .ok (.bipush 9, 2) := by decide +kernel
theorem dX14_set_24 : decode cX14_set 24 = .ok (.invokestatic 30, 3) := by decide +kernel
theorem dX14_set_27 : decode cX14_set 27 = .ok (.ifCond .ne 9, 3) := by decide +kernel
theorem dX14_set_30 : decode cX14_set 30 = .ok (.aload_n 0, 1) := by decide +kernel
theorem dX14_set_31 : decode cX14_set 31 = .ok (.iconst 2, 1) := by decide +kernel
theorem dX14_set_32 : decode cX14_set 32 = .ok (.invokevirtual 43, 3) := by decide +kernel
theorem dX14_set_35 : decode cX14_set 35 = .ok (.ireturn, 1) := by decide +kernel
theorem dX14_set_36 : decode cX14_set 36 = .ok (.aload_n 0, 1) := by decide +kernel
theorem dX14_set_37 : decode cX14_set 37 = .ok (.getfield 10, 3) := by decide +kernel
theorem dX14_set_40 : decode cX14_set 40 = .ok (.getfield 60, 3) := by decide +kernel
theorem dX14_set_43 : decode cX14_set 43 = .ok (.iload_n 1, 1) := by decide +kernel
theorem dX14_set_44 : decode cX14_set 44 = .ok (.iaload, 1) := by decide +kernel
theorem dX14_set_45 : decode cX14_set 45 = .ok (.istore_n 3, 1) := by decide +kernel
theorem dX14_set_46 : decode cX14_set 46 = .ok (.aload_n 0, 1) := by decide +kernel
theorem dX14_set_47 : decode cX14_set 47 = .ok (.getfield 10, 3) := by decide +kernel
theorem dX14_set_50 : decode cX14_set 50 = .ok (.getfield 60, 3) := by decide +kernel
theorem dX14_set_53 : decode cX14_set 53 = .ok (.iload_n 1, 1) := by decide +kernel
theorem dX14_set_54 : decode cX14_set 54 = .ok (.iload_n 2, 1) := by decide +kernel
theorem dX14_set_55 : decode cX14_set 55 = .ok (.iastore, 1) := by decide +kernel
theorem dX14_set_56 : decode cX14_set 56 = .ok (.iload_n 3, 1) := by decide +kernel
theorem dX14_set_57 : decode cX14_set 57 = .ok (.ireturn, 1) := by decide +kernel
theorem dX14_kept_0 : decode cX14_kept 0 = .ok (.iconst 0, 1) := by decide +kernel
theorem dX14_kept_1 : decode cX14_kept 1 = .ok (.istore_n 3, 1) := by decide +kernel
theorem dX14_kept_2 : decode cX14_kept 2 = .ok (.aload_n 0, 1) := by decide +kernel
theorem dX14_kept_3 : decode cX14_kept 3 = .ok (.getfield 10, 3) := by decide +kernel
theorem dX14_kept_6 : decode cX14_kept 6 = .ok (.getfield 40, 3) := by decide +kernel
theorem dX14_kept_9 : decode cX14_kept 9 = .ok (.invokevirtual 63, 3) := by decide +kernel
theorem dX14_kept_12 : decode cX14_kept 12 = .ok (.astore 4, 2) := by decide +kernel
theorem dX14_kept_14 : decode cX14_kept 14 = .ok (.aload 4, 2) := by decide +kernel
theorem dX14_kept_16 : decode cX14_kept 16 = .ok (.invokeinterface 67 1, 5) := by decide +kernel
theorem dX14_kept_21 : decode cX14_kept 21 = .ok (.ifCond .eq 65, 3) := by decide +kernel
theorem dX14_kept_24 : decode cX14_kept 24 = .ok (.aload 4, 2) := by decide +kernel
theorem dX14_kept_26 : decode cX14_kept 26 = .ok (.invokeinterface 73 1, 5) := by decide +kernel
theorem dX14_kept_31 : decode cX14_kept 31 = .ok (.checkcast 77, 3) := by decide +kernel
theorem dX14_kept_34 : decode cX14_kept 34 = .ok (.astore 5, 2) := by decide +kernel
theorem dX14_kept_36 : decode cX14_kept 36 = .ok (.iload_n 3, 1) := by decide +kernel
theorem dX14_kept_37 : decode cX14_kept 37 = .ok (.aload 5, 2) := by decide +kernel
theorem dX14_kept_39 : decode cX14_kept 39 = .ok (.getfield 79, 3) := by decide +kernel
theorem dX14_kept_42 : decode cX14_kept 42 = .ok (.ifCond .ne 38, 3) := by decide +kernel
theorem dX14_kept_45 : decode cX14_kept 45 = .ok (.iload_n 1, 1) := by decide +kernel
theorem dX14_kept_46 : decode cX14_kept 46 = .ok (.iconst (-1), 1) := by decide +kernel
theorem dX14_kept_47 : decode cX14_kept 47 = .ok (.if_icmp .eq 15, 3) := by decide +kernel
theorem dX14_kept_50 : decode cX14_kept 50 = .ok (.aload 5, 2) := by decide +kernel
theorem dX14_kept_52 : decode cX14_kept 52 = .ok (.getfield 82, 3) := by decide +kernel
theorem dX14_kept_55 : decode cX14_kept 55 = .ok (.getfield 86, 3) := by decide +kernel
theorem dX14_kept_58 : decode cX14_kept 58 = .ok (.iload_n 1, 1) := by decide +kernel
theorem dX14_kept_59 : decode cX14_kept 59 = .ok (.if_icmp .ne 21, 3) := by decide +kernel
theorem dX14_kept_62 : decode cX14_kept 62 = .ok (.iload_n 2, 1) := by decide +kernel
theorem dX14_kept_63 : decode cX14_kept 63 = .ok (.iconst (-1), 1) := by decide +kernel
theorem dX14_kept_64 : decode cX14_kept 64 = .ok (.if_icmp .eq 12, 3) := by decide +kernel
theorem dX14_kept_67 : decode cX14_kept 67 = .ok (.aload 5, 2) := by decide +kernel
theorem dX14_kept_69 : decode cX14_kept 69 = .ok (.getfield 89, 3) := by decide +kernel
theorem dX14_kept_72 : decode cX14_kept 72 = .ok (.iload_n 2, 1) := by decide +kernel
theorem dX14_kept_73 : decode cX14_kept 73 = .ok (.if_icmp .ne 7, 3) := by decide +kernel
theorem dX14_kept_76 : decode cX14_kept 76 = .ok (.iconst 1, 1) := by decide +kernel
theorem dX14_kept_77 : decode cX14_kept 77 = .ok (.goto 4, 3) := by decide +kernel
theorem dX14_kept_80 : decode cX14_kept 80 = .ok (.iconst 0, 1) := by decide +kernel
theorem dX14_kept_81 : decode cX14_kept 81 = .ok (.iadd, 1) := by decide +kernel
theorem dX14_kept_82 : decode cX14_kept 82 = .ok (.istore_n 3, 1) := by decide +kernel
theorem dX14_kept_83 : decode cX14_kept 83 = .ok (.goto (-69), 3) := by decide +kernel
theorem dX14_kept_86 : decode cX14_kept 86 = .ok (.iload_n 3, 1) := by decide +kernel
theorem dX14_kept_87 : decode cX14_kept 87 = .ok (.ireturn, 1) := by decide +kernel
theorem dX14_ofActionNow_0 : decode cX14_ofActionNow 0 = .ok (.aload_n 0, 1) := by decide +kernel
theorem dX14_ofActionNow_1 : decode cX14_ofActionNow 1 = .ok (.getfield 10, 3) := by decide +kernel
theorem dX14_ofActionNow_4 : decode cX14_ofActionNow 4 = .ok (.getfield 20, 3) := by decide +kernel
theorem dX14_ofActionNow_7 : decode cX14_ofActionNow 7 = .ok (.iload_n 1, 1) := by decide +kernel
theorem dX14_ofActionNow_8 : decode cX14_ofActionNow 8 = .ok (.invokevirtual 92, 3) := by decide +kernel
theorem dX14_ofActionNow_11 : decode cX14_ofActionNow 11 = .ok (.checkcast 47, 3) := by decide +kernel
theorem dX14_ofActionNow_14 : decode cX14_ofActionNow 14 = .ok (.astore_n 3, 1) := by decide +kernel
theorem dX14_ofActionNow_15 : decode cX14_ofActionNow 15 = .ok (.bipush 6, 2) := by decide +kernel
theorem dX14_ofActionNow_17 : decode cX14_ofActionNow 17 = .ok (.newarray .int, 2) := by decide +kernel
theorem dX14_ofActionNow_19 : decode cX14_ofActionNow 19 = .ok (.dup, 1) := by decide +kernel
theorem dX14_ofActionNow_20 : decode cX14_ofActionNow 20 = .ok (.iconst 0, 1) := by decide +kernel
theorem dX14_ofActionNow_21 : decode cX14_ofActionNow 21 = .ok (.aload_n 3, 1) := by decide +kernel
theorem dX14_ofActionNow_22 : decode cX14_ofActionNow 22 = .ok (.getfield 96, 3) := by decide +kernel
theorem dX14_ofActionNow_25 : decode cX14_ofActionNow 25 = .ok (.iastore, 1) := by decide +kernel
theorem dX14_ofActionNow_26 : decode cX14_ofActionNow 26 = .ok (.dup, 1) := by decide +kernel
theorem dX14_ofActionNow_27 : decode cX14_ofActionNow 27 = .ok (.iconst 1, 1) := by decide +kernel
theorem dX14_ofActionNow_28 : decode cX14_ofActionNow 28 = .ok (.aload_n 3, 1) := by decide +kernel
theorem dX14_ofActionNow_29 : decode cX14_ofActionNow 29 = .ok (.getfield 99, 3) := by decide +kernel
theorem dX14_ofActionNow_32 : decode cX14_ofActionNow 32 = .ok (.iastore, 1) := by decide +kernel
theorem dX14_ofActionNow_33 : decode cX14_ofActionNow 33 = .ok (.dup, 1) := by decide +kernel
theorem dX14_ofActionNow_34 : decode cX14_ofActionNow 34 = .ok (.iconst 2, 1) := by decide +kernel
theorem dX14_ofActionNow_35 : decode cX14_ofActionNow 35 = .ok (.aload_n 3, 1) := by decide +kernel
theorem dX14_ofActionNow_36 : decode cX14_ofActionNow 36 = .ok (.getfield 101, 3) := by decide +kernel
theorem dX14_ofActionNow_39 : decode cX14_ofActionNow 39 = .ok (.iastore, 1) := by decide +kernel
theorem dX14_ofActionNow_40 : decode cX14_ofActionNow 40 = .ok (.dup, 1) := by decide +kernel
theorem dX14_ofActionNow_41 : decode cX14_ofActionNow 41 = .ok (.iconst 3, 1) := by decide +kernel
theorem dX14_ofActionNow_42 : decode cX14_ofActionNow 42 = .ok (.aload_n 3, 1) := by decide +kernel
theorem dX14_ofActionNow_43 : decode cX14_ofActionNow 43 = .ok (.getfield 104, 3) := by decide +kernel
theorem dX14_ofActionNow_46 : decode cX14_ofActionNow 46 = .ok (.iastore, 1) := by decide +kernel
theorem dX14_ofActionNow_47 : decode cX14_ofActionNow 47 = .ok (.dup, 1) := by decide +kernel
theorem dX14_ofActionNow_48 : decode cX14_ofActionNow 48 = .ok (.iconst 4, 1) := by decide +kernel
theorem dX14_ofActionNow_49 : decode cX14_ofActionNow 49 = .ok (.aload_n 3, 1) := by decide +kernel
theorem dX14_ofActionNow_50 : decode cX14_ofActionNow 50 = .ok (.getfield 107, 3) := by decide +kernel
theorem dX14_ofActionNow_53 : decode cX14_ofActionNow 53 = .ok (.iastore, 1) := by decide +kernel
theorem dX14_ofActionNow_54 : decode cX14_ofActionNow 54 = .ok (.dup, 1) := by decide +kernel
theorem dX14_ofActionNow_55 : decode cX14_ofActionNow 55 = .ok (.iconst 5, 1) := by decide +kernel
theorem dX14_ofActionNow_56 : decode cX14_ofActionNow 56 = .ok (.aload_n 3, 1) := by decide +kernel
theorem dX14_ofActionNow_57 : decode cX14_ofActionNow 57 = .ok (.getfield 110, 3) := by decide +kernel
theorem dX14_ofActionNow_60 : decode cX14_ofActionNow 60 = .ok (.iastore, 1) := by decide +kernel
theorem dX14_ofActionNow_61 : decode cX14_ofActionNow 61 = .ok (.astore 4, 2) := by decide +kernel
theorem dX14_ofActionNow_63 : decode cX14_ofActionNow 63 = .ok (.iload_n 2, 1) := by decide +kernel
theorem dX14_ofActionNow_64 : decode cX14_ofActionNow 64 = .ok (.bipush 6, 2) := by decide +kernel
theorem dX14_ofActionNow_66 : decode cX14_ofActionNow 66 = .ok (.if_icmp .ge 10, 3) := by decide +kernel
theorem dX14_ofActionNow_69 : decode cX14_ofActionNow 69 = .ok (.aload 4, 2) := by decide +kernel
theorem dX14_ofActionNow_71 : decode cX14_ofActionNow 71 = .ok (.iload_n 2, 1) := by decide +kernel
theorem dX14_ofActionNow_72 : decode cX14_ofActionNow 72 = .ok (.iaload, 1) := by decide +kernel
theorem dX14_ofActionNow_73 : decode cX14_ofActionNow 73 = .ok (.goto 26, 3) := by decide +kernel
theorem dX14_ofActionNow_76 : decode cX14_ofActionNow 76 = .ok (.iload_n 2, 1) := by decide +kernel
theorem dX14_ofActionNow_77 : decode cX14_ofActionNow 77 = .ok (.bipush 6, 2) := by decide +kernel
theorem dX14_ofActionNow_79 : decode cX14_ofActionNow 79 = .ok (.if_icmp .ne 14, 3) := by decide +kernel
theorem dX14_ofActionNow_82 : decode cX14_ofActionNow 82 = .ok (.aload_n 0, 1) := by decide +kernel
theorem dX14_ofActionNow_83 : decode cX14_ofActionNow 83 = .ok (.getfield 10, 3) := by decide +kernel
theorem dX14_ofActionNow_86 : decode cX14_ofActionNow 86 = .ok (.iload_n 1, 1) := by decide +kernel
theorem dX14_ofActionNow_87 : decode cX14_ofActionNow 87 = .ok (.invokevirtual 112, 3) := by decide +kernel
theorem dX14_ofActionNow_90 : decode cX14_ofActionNow 90 = .ok (.goto 9, 3) := by decide +kernel
theorem dX14_ofActionNow_93 : decode cX14_ofActionNow 93 = .ok (.aload_n 0, 1) := by decide +kernel
theorem dX14_ofActionNow_94 : decode cX14_ofActionNow 94 = .ok (.iload_n 1, 1) := by decide +kernel
theorem dX14_ofActionNow_95 : decode cX14_ofActionNow 95 = .ok (.iconst (-1), 1) := by decide +kernel
theorem dX14_ofActionNow_96 : decode cX14_ofActionNow 96 = .ok (.invokevirtual 115, 3) := by decide +kernel
theorem dX14_ofActionNow_99 : decode cX14_ofActionNow 99 = .ok (.ireturn, 1) := by decide +kernel
theorem dX14_ofAction_0 : decode cX14_ofAction 0 = .ok (.aload_n 0, 1) := by decide +kernel
theorem dX14_ofAction_1 : decode cX14_ofAction 1 = .ok (.iconst 0, 1) := by decide +kernel
theorem dX14_ofAction_2 : decode cX14_ofAction 2 = .ok (.putfield 16, 3) := by decide +kernel
theorem dX14_ofAction_5 : decode cX14_ofAction 5 = .ok (.aload_n 0, 1) := by decide +kernel
theorem dX14_ofAction_6 : decode cX14_ofAction 6 = .ok (.iload_n 1, 1) := by decide +kernel
theorem dX14_ofAction_7 : decode cX14_ofAction 7 = .ok (.invokevirtual 119, 3) := by decide +kernel
theorem dX14_ofAction_10 : decode cX14_ofAction 10 = .ok (.ifCond .ne 9, 3) := by decide +kernel
theorem dX14_ofAction_13 : decode cX14_ofAction 13 = .ok (.aload_n 0, 1) := by decide +kernel
theorem dX14_ofAction_14 : decode cX14_ofAction 14 = .ok (.iconst 1, 1) := by decide +kernel
theorem dX14_ofAction_15 : decode cX14_ofAction 15 = .ok (.invokevirtual 43, 3) := by decide +kernel
theorem dX14_ofAction_18 : decode cX14_ofAction 18 = .ok (.ireturn, 1) := by decide +kernel
theorem dX14_ofAction_19 : decode cX14_ofAction 19 = .ok (.iload_n 2, 1) := by decide +kernel
theorem dX14_ofAction_20 : decode cX14_ofAction 20 = .ok (.iconst 0, 1) := by decide +kernel
theorem dX14_ofAction_21 : decode cX14_ofAction 21 = .ok (.bipush 7, 2) := by decide +kernel
theorem dX14_ofAction_23 : decode cX14_ofAction 23 = .ok (.invokestatic 30, 3) := by decide +kernel
theorem dX14_ofAction_26 : decode cX14_ofAction 26 = .ok (.ifCond .eq 12, 3) := by decide +kernel
theorem dX14_ofAction_29 : decode cX14_ofAction 29 = .ok (.aload_n 0, 1) := by decide +kernel
theorem dX14_ofAction_30 : decode cX14_ofAction 30 = .ok (.iload_n 1, 1) := by decide +kernel
theorem dX14_ofAction_31 : decode cX14_ofAction 31 = .ok (.iload_n 2, 1) := by decide +kernel
theorem dX14_ofAction_32 : decode cX14_ofAction 32 = .ok (.invokevirtual 123, 3) := by decide +kernel
theorem dX14_ofAction_35 : decode cX14_ofAction 35 = .ok (.goto 8, 3) := by decide +kernel
theorem dX14_ofAction_38 : decode cX14_ofAction 38 = .ok (.aload_n 0, 1) := by decide +kernel
theorem dX14_ofAction_39 : decode cX14_ofAction 39 = .ok (.iconst 2, 1) := by decide +kernel
theorem dX14_ofAction_40 : decode cX14_ofAction 40 = .ok (.invokevirtual 43, 3) := by decide +kernel
theorem dX14_ofAction_43 : decode cX14_ofAction 43 = .ok (.ireturn, 1) := by decide +kernel
theorem dX14_worker_0 : decode cX14_worker 0 = .ok (.aload_n 0, 1) := by decide +kernel
theorem dX14_worker_1 : decode cX14_worker 1 = .ok (.iconst 0, 1) := by decide +kernel
theorem dX14_worker_2 : decode cX14_worker 2 = .ok (.putfield 16, 3) := by decide +kernel
theorem dX14_worker_5 : decode cX14_worker 5 = .ok (.iload_n 1, 1) := by decide +kernel
theorem dX14_worker_6 : decode cX14_worker 6 = .ok (.iconst 0, 1) := by decide +kernel
theorem dX14_worker_7 : decode cX14_worker 7 = .ok (.bipush 9, 2) := by decide +kernel
theorem dX14_worker_9 : decode cX14_worker 9 = .ok (.invokestatic 30, 3) := by decide +kernel
theorem dX14_worker_12 : decode cX14_worker 12 = .ok (.ifCond .ne 9, 3) := by decide +kernel
theorem dX14_worker_15 : decode cX14_worker 15 = .ok (.aload_n 0, 1) := by decide +kernel
theorem dX14_worker_16 : decode cX14_worker 16 = .ok (.iconst 1, 1) := by decide +kernel
theorem dX14_worker_17 : decode cX14_worker 17 = .ok (.invokevirtual 43, 3) := by decide +kernel
theorem dX14_worker_20 : decode cX14_worker 20 = .ok (.ireturn, 1) := by decide +kernel
theorem dX14_worker_21 : decode cX14_worker 21 = .ok (.aload_n 0, 1) := by decide +kernel
theorem dX14_worker_22 : decode cX14_worker 22 = .ok (.getfield 10, 3) := by decide +kernel
theorem dX14_worker_25 : decode cX14_worker 25 = .ok (.getfield 34, 3) := by decide +kernel
theorem dX14_worker_28 : decode cX14_worker 28 = .ok (.invokevirtual 24, 3) := by decide +kernel
theorem dX14_worker_31 : decode cX14_worker 31 = .ok (.iconst 4, 1) := by decide +kernel
theorem dX14_worker_32 : decode cX14_worker 32 = .ok (.if_icmp .ne 9, 3) := by decide +kernel
theorem dX14_worker_35 : decode cX14_worker 35 = .ok (.aload_n 0, 1) := by decide +kernel
theorem dX14_worker_36 : decode cX14_worker 36 = .ok (.iconst 2, 1) := by decide +kernel
theorem dX14_worker_37 : decode cX14_worker 37 = .ok (.invokevirtual 43, 3) := by decide +kernel
theorem dX14_worker_40 : decode cX14_worker 40 = .ok (.ireturn, 1) := by decide +kernel
theorem dX14_worker_41 : decode cX14_worker 41 = .ok (.new 126, 3) := by decide +kernel
theorem dX14_worker_44 : decode cX14_worker 44 = .ok (.dup, 1) := by decide +kernel
theorem dX14_worker_45 : decode cX14_worker 45 = .ok (.invokespecial 128, 3) := by decide +kernel
theorem dX14_worker_48 : decode cX14_worker 48 = .ok (.astore_n 2, 1) := by decide +kernel
theorem dX14_worker_49 : decode cX14_worker 49 = .ok (.aload_n 2, 1) := by decide +kernel
theorem dX14_worker_50 : decode cX14_worker 50 = .ok (.iload_n 1, 1) := by decide +kernel
theorem dX14_worker_51 : decode cX14_worker 51 = .ok (.putfield 129, 3) := by decide +kernel
theorem dX14_worker_54 : decode cX14_worker 54 = .ok (.aload_n 0, 1) := by decide +kernel
theorem dX14_worker_55 : decode cX14_worker 55 = .ok (.getfield 10, 3) := by decide +kernel
theorem dX14_worker_58 : decode cX14_worker 58 = .ok (.getfield 34, 3) := by decide +kernel
theorem dX14_worker_61 : decode cX14_worker 61 = .ok (.aload_n 2, 1) := by decide +kernel
theorem dX14_worker_62 : decode cX14_worker 62 = .ok (.invokevirtual 52, 3) := by decide +kernel
theorem dX14_worker_65 : decode cX14_worker 65 = .ok (.pop, 1) := by decide +kernel
theorem dX14_worker_66 : decode cX14_worker 66 = .ok (.aload_n 0, 1) := by decide +kernel
theorem dX14_worker_67 : decode cX14_worker 67 = .ok (.getfield 10, 3) := by decide +kernel
theorem dX14_worker_70 : decode cX14_worker 70 = .ok (.getfield 34, 3) := by decide +kernel
theorem dX14_worker_73 : decode cX14_worker 73 = .ok (.invokevirtual 24, 3) := by decide +kernel
theorem dX14_worker_76 : decode cX14_worker 76 = .ok (.iconst 1, 1) := by decide +kernel
theorem dX14_worker_77 : decode cX14_worker 77 = .ok (.isub, 1) := by decide +kernel
theorem dX14_worker_78 : decode cX14_worker 78 = .ok (.ireturn, 1) := by decide +kernel
theorem dX14_ofWorkerNow_0 : decode cX14_ofWorkerNow 0 = .ok (.aload_n 0, 1) := by decide +kernel
theorem dX14_ofWorkerNow_1 : decode cX14_ofWorkerNow 1 = .ok (.getfield 10, 3) := by decide +kernel
theorem dX14_ofWorkerNow_4 : decode cX14_ofWorkerNow 4 = .ok (.getfield 34, 3) := by decide +kernel
theorem dX14_ofWorkerNow_7 : decode cX14_ofWorkerNow 7 = .ok (.iload_n 1, 1) := by decide +kernel
theorem dX14_ofWorkerNow_8 : decode cX14_ofWorkerNow 8 = .ok (.invokevirtual 92, 3) := by decide +kernel
theorem dX14_ofWorkerNow_11 : decode cX14_ofWorkerNow 11 = .ok (.checkcast 126, 3) := by decide +kernel
theorem dX14_ofWorkerNow_14 : decode cX14_ofWorkerNow 14 = .ok (.astore_n 3, 1) := by decide +kernel
theorem dX14_ofWorkerNow_15 : decode cX14_ofWorkerNow 15 = .ok (.iconst 0, 1) := by decide +kernel
theorem dX14_ofWorkerNow_16 : decode cX14_ofWorkerNow 16 = .ok (.istore 4, 2) := by decide +kernel
theorem dX14_ofWorkerNow_18 : decode cX14_ofWorkerNow 18 = .ok (.aload_n 0, 1) := by decide +kernel
theorem dX14_ofWorkerNow_19 : decode cX14_ofWorkerNow 19 = .ok (.getfield 10, 3) := by decide +kernel
theorem dX14_ofWorkerNow_22 : decode cX14_ofWorkerNow 22 = .ok (.getfield 40, 3) := by decide +kernel
theorem dX14_ofWorkerNow_25 : decode cX14_ofWorkerNow 25 = .ok (.invokevirtual 63, 3) := by decide +kernel
theorem dX14_ofWorkerNow_28 : decode cX14_ofWorkerNow 28 = .ok (.astore 5, 2) := by decide +kernel
theorem dX14_ofWorkerNow_30 : decode cX14_ofWorkerNow 30 = .ok (.aload 5, 2) := by decide +kernel
theorem dX14_ofWorkerNow_32 : decode cX14_ofWorkerNow 32 = .ok (.invokeinterface 67 1, 5) := by decide +kernel
theorem dX14_ofWorkerNow_37 : decode cX14_ofWorkerNow 37 = .ok (.ifCond .eq 46, 3) := by decide +kernel
theorem dX14_ofWorkerNow_40 : decode cX14_ofWorkerNow 40 = .ok (.aload 5, 2) := by decide +kernel
theorem dX14_ofWorkerNow_42 : decode cX14_ofWorkerNow 42 = .ok (.invokeinterface 73 1, 5) := by decide +kernel
theorem dX14_ofWorkerNow_47 : decode cX14_ofWorkerNow 47 = .ok (.checkcast 77, 3) := by decide +kernel
theorem dX14_ofWorkerNow_50 : decode cX14_ofWorkerNow 50 = .ok (.astore 6, 2) := by decide +kernel
theorem dX14_ofWorkerNow_52 : decode cX14_ofWorkerNow 52 = .ok (.iload 4, 2) := by decide +kernel
theorem dX14_ofWorkerNow_54 : decode cX14_ofWorkerNow 54 = .ok (.aload 6, 2) := by decide +kernel
theorem dX14_ofWorkerNow_56 : decode cX14_ofWorkerNow 56 = .ok (.getfield 132, 3) := by decide +kernel
theorem dX14_ofWorkerNow_59 : decode cX14_ofWorkerNow 59 = .ok (.iload_n 1, 1) := by decide +kernel
theorem dX14_ofWorkerNow_60 : decode cX14_ofWorkerNow 60 = .ok (.if_icmp .ne 16, 3) := by decide +kernel
theorem dX14_ofWorkerNow_63 : decode cX14_ofWorkerNow 63 = .ok (.aload 6, 2) := by decide +kernel
theorem dX14_ofWorkerNow_65 : decode cX14_ofWorkerNow 65 = .ok (.getfield 79, 3) := by decide +kernel
theorem dX14_ofWorkerNow_68 : decode cX14_ofWorkerNow 68 = .ok (.iconst 2, 1) := by decide +kernel
theorem dX14_ofWorkerNow_69 : decode cX14_ofWorkerNow 69 = .ok (.if_icmp .ne 7, 3) := by decide +kernel
theorem dX14_ofWorkerNow_72 : decode cX14_ofWorkerNow 72 = .ok (.iconst 1, 1) := by decide +kernel
theorem dX14_ofWorkerNow_73 : decode cX14_ofWorkerNow 73 = .ok (.goto 4, 3) := by decide +kernel
theorem dX14_ofWorkerNow_76 : decode cX14_ofWorkerNow 76 = .ok (.iconst 0, 1) := by decide +kernel
theorem dX14_ofWorkerNow_77 : decode cX14_ofWorkerNow 77 = .ok (.iadd, 1) := by decide +kernel
theorem dX14_ofWorkerNow_78 : decode cX14_ofWorkerNow 78 = .ok (.istore 4, 2) := by decide +kernel
theorem dX14_ofWorkerNow_80 : decode cX14_ofWorkerNow 80 = .ok (.goto (-50), 3) := by decide +kernel
theorem dX14_ofWorkerNow_83 : decode cX14_ofWorkerNow 83 = .ok (.iconst 5, 1) := by decide +kernel
theorem dX14_ofWorkerNow_84 : decode cX14_ofWorkerNow 84 = .ok (.newarray .int, 2) := by decide +kernel
theorem dX14_ofWorkerNow_86 : decode cX14_ofWorkerNow 86 = .ok (.dup, 1) := by decide +kernel
theorem dX14_ofWorkerNow_87 : decode cX14_ofWorkerNow 87 = .ok (.iconst 0, 1) := by decide +kernel
theorem dX14_ofWorkerNow_88 : decode cX14_ofWorkerNow 88 = .ok (.aload_n 3, 1) := by decide +kernel
theorem dX14_ofWorkerNow_89 : decode cX14_ofWorkerNow 89 = .ok (.getfield 135, 3) := by decide +kernel
theorem dX14_ofWorkerNow_92 : decode cX14_ofWorkerNow 92 = .ok (.iastore, 1) := by decide +kernel
theorem dX14_ofWorkerNow_93 : decode cX14_ofWorkerNow 93 = .ok (.dup, 1) := by decide +kernel
theorem dX14_ofWorkerNow_94 : decode cX14_ofWorkerNow 94 = .ok (.iconst 1, 1) := by decide +kernel
theorem dX14_ofWorkerNow_95 : decode cX14_ofWorkerNow 95 = .ok (.aload_n 3, 1) := by decide +kernel
theorem dX14_ofWorkerNow_96 : decode cX14_ofWorkerNow 96 = .ok (.getfield 138, 3) := by decide +kernel
theorem dX14_ofWorkerNow_99 : decode cX14_ofWorkerNow 99 = .ok (.iastore, 1) := by decide +kernel
theorem dX14_ofWorkerNow_100 : decode cX14_ofWorkerNow 100 = .ok (.dup, 1) := by decide +kernel
theorem dX14_ofWorkerNow_101 : decode cX14_ofWorkerNow 101 = .ok (.iconst 2, 1) := by decide +kernel
theorem dX14_ofWorkerNow_102 : decode cX14_ofWorkerNow 102 = .ok (.aload_n 3, 1) := by decide +kernel
theorem dX14_ofWorkerNow_103 : decode cX14_ofWorkerNow 103 = .ok (.getfield 141, 3) := by decide +kernel
theorem dX14_ofWorkerNow_106 : decode cX14_ofWorkerNow 106 = .ok (.iastore, 1) := by decide +kernel
theorem dX14_ofWorkerNow_107 : decode cX14_ofWorkerNow 107 = .ok (.dup, 1) := by decide +kernel
theorem dX14_ofWorkerNow_108 : decode cX14_ofWorkerNow 108 = .ok (.iconst 3, 1) := by decide +kernel
theorem dX14_ofWorkerNow_109 : decode cX14_ofWorkerNow 109 = .ok (.iload 4, 2) := by decide +kernel
theorem dX14_ofWorkerNow_111 : decode cX14_ofWorkerNow 111 = .ok (.iastore, 1) := by decide +kernel
theorem dX14_ofWorkerNow_112 : decode cX14_ofWorkerNow 112 = .ok (.dup, 1) := by decide +kernel
theorem dX14_ofWorkerNow_113 : decode cX14_ofWorkerNow 113 = .ok (.iconst 4, 1) := by decide +kernel
theorem dX14_ofWorkerNow_114 : decode cX14_ofWorkerNow 114 = .ok (.aload_n 3, 1) := by decide +kernel
theorem dX14_ofWorkerNow_115 : decode cX14_ofWorkerNow 115 = .ok (.getfield 144, 3) := by decide +kernel
theorem dX14_ofWorkerNow_118 : decode cX14_ofWorkerNow 118 = .ok (.iastore, 1) := by decide +kernel
theorem dX14_ofWorkerNow_119 : decode cX14_ofWorkerNow 119 = .ok (.astore 5, 2) := by decide +kernel
theorem dX14_ofWorkerNow_121 : decode cX14_ofWorkerNow 121 = .ok (.aload 5, 2) := by decide +kernel
theorem dX14_ofWorkerNow_123 : decode cX14_ofWorkerNow 123 = .ok (.iload_n 2, 1) := by decide +kernel
theorem dX14_ofWorkerNow_124 : decode cX14_ofWorkerNow 124 = .ok (.iaload, 1) := by decide +kernel
theorem dX14_ofWorkerNow_125 : decode cX14_ofWorkerNow 125 = .ok (.ireturn, 1) := by decide +kernel
theorem dX14_ofWorker_0 : decode cX14_ofWorker 0 = .ok (.aload_n 0, 1) := by decide +kernel
theorem dX14_ofWorker_1 : decode cX14_ofWorker 1 = .ok (.iconst 0, 1) := by decide +kernel
theorem dX14_ofWorker_2 : decode cX14_ofWorker 2 = .ok (.putfield 16, 3) := by decide +kernel
theorem dX14_ofWorker_5 : decode cX14_ofWorker 5 = .ok (.aload_n 0, 1) := by decide +kernel
theorem dX14_ofWorker_6 : decode cX14_ofWorker 6 = .ok (.iload_n 1, 1) := by decide +kernel
theorem dX14_ofWorker_7 : decode cX14_ofWorker 7 = .ok (.invokevirtual 147, 3) := by decide +kernel
theorem dX14_ofWorker_10 : decode cX14_ofWorker 10 = .ok (.ifCond .ne 9, 3) := by decide +kernel
theorem dX14_ofWorker_13 : decode cX14_ofWorker 13 = .ok (.aload_n 0, 1) := by decide +kernel
theorem dX14_ofWorker_14 : decode cX14_ofWorker 14 = .ok (.iconst 1, 1) := by decide +kernel
theorem dX14_ofWorker_15 : decode cX14_ofWorker 15 = .ok (.invokevirtual 43, 3) := by decide +kernel
theorem dX14_ofWorker_18 : decode cX14_ofWorker 18 = .ok (.ireturn, 1) := by decide +kernel
theorem dX14_ofWorker_19 : decode cX14_ofWorker 19 = .ok (.iload_n 2, 1) := by decide +kernel
theorem dX14_ofWorker_20 : decode cX14_ofWorker 20 = .ok (.iconst 0, 1) := by decide +kernel
theorem dX14_ofWorker_21 : decode cX14_ofWorker 21 = .ok (.iconst 4, 1) := by decide +kernel
theorem dX14_ofWorker_22 : decode cX14_ofWorker 22 = .ok (.invokestatic 30, 3) := by decide +kernel
theorem dX14_ofWorker_25 : decode cX14_ofWorker 25 = .ok (.ifCond .eq 12, 3) := by decide +kernel
theorem dX14_ofWorker_28 : decode cX14_ofWorker 28 = .ok (.aload_n 0, 1) := by decide +kernel
theorem dX14_ofWorker_29 : decode cX14_ofWorker 29 = .ok (.iload_n 1, 1) := by decide +kernel
theorem dX14_ofWorker_30 : decode cX14_ofWorker 30 = .ok (.iload_n 2, 1) := by decide +kernel
theorem dX14_ofWorker_31 : decode cX14_ofWorker 31 = .ok (.invokevirtual 150, 3) := by decide +kernel
theorem dX14_ofWorker_34 : decode cX14_ofWorker 34 = .ok (.goto 8, 3) := by decide +kernel
theorem dX14_ofWorker_37 : decode cX14_ofWorker 37 = .ok (.aload_n 0, 1) := by decide +kernel
theorem dX14_ofWorker_38 : decode cX14_ofWorker 38 = .ok (.iconst 2, 1) := by decide +kernel
theorem dX14_ofWorker_39 : decode cX14_ofWorker 39 = .ok (.invokevirtual 43, 3) := by decide +kernel
theorem dX14_ofWorker_42 : decode cX14_ofWorker 42 = .ok (.ireturn, 1) := by decide +kernel
theorem dX14_mend_0 : decode cX14_mend 0 = .ok (.aload_n 0, 1) := by decide +kernel
theorem dX14_mend_1 : decode cX14_mend 1 = .ok (.iconst 0, 1) := by decide +kernel
theorem dX14_mend_2 : decode cX14_mend 2 = .ok (.putfield 16, 3) := by decide +kernel
theorem dX14_mend_5 : decode cX14_mend 5 = .ok (.aload_n 0, 1) := by decide +kernel
theorem dX14_mend_6 : decode cX14_mend 6 = .ok (.iload_n 1, 1) := by decide +kernel
theorem dX14_mend_7 : decode cX14_mend 7 = .ok (.invokevirtual 147, 3) := by decide +kernel
theorem dX14_mend_10 : decode cX14_mend 10 = .ok (.ifCond .ne 9, 3) := by decide +kernel
theorem dX14_mend_13 : decode cX14_mend 13 = .ok (.aload_n 0, 1) := by decide +kernel
theorem dX14_mend_14 : decode cX14_mend 14 = .ok (.iconst 1, 1) := by decide +kernel
theorem dX14_mend_15 : decode cX14_mend 15 = .ok (.invokevirtual 43, 3) := by decide +kernel
theorem dX14_mend_18 : decode cX14_mend 18 = .ok (.ireturn, 1) := by decide +kernel
theorem dX14_mend_19 : decode cX14_mend 19 = .ok (.iload_n 2, 1) := by decide +kernel
theorem dX14_mend_20 : decode cX14_mend 20 = .ok (.iconst 0, 1) := by decide +kernel
theorem dX14_mend_21 : decode cX14_mend 21 = .ok (.bipush 9, 2) := by decide +kernel
theorem dX14_mend_23 : decode cX14_mend 23 = .ok (.invokestatic 30, 3) := by decide +kernel
theorem dX14_mend_26 : decode cX14_mend 26 = .ok (.ifCond .ne 9, 3) := by decide +kernel
theorem dX14_mend_29 : decode cX14_mend 29 = .ok (.aload_n 0, 1) := by decide +kernel
theorem dX14_mend_30 : decode cX14_mend 30 = .ok (.iconst 2, 1) := by decide +kernel
theorem dX14_mend_31 : decode cX14_mend 31 = .ok (.invokevirtual 43, 3) := by decide +kernel
theorem dX14_mend_34 : decode cX14_mend 34 = .ok (.ireturn, 1) := by decide +kernel
theorem dX14_mend_35 : decode cX14_mend 35 = .ok (.aload_n 0, 1) := by decide +kernel
theorem dX14_mend_36 : decode cX14_mend 36 = .ok (.getfield 10, 3) := by decide +kernel
theorem dX14_mend_39 : decode cX14_mend 39 = .ok (.getfield 34, 3) := by decide +kernel
theorem dX14_mend_42 : decode cX14_mend 42 = .ok (.iload_n 1, 1) := by decide +kernel
theorem dX14_mend_43 : decode cX14_mend 43 = .ok (.invokevirtual 92, 3) := by decide +kernel
theorem dX14_mend_46 : decode cX14_mend 46 = .ok (.checkcast 126, 3) := by decide +kernel
theorem dX14_mend_49 : decode cX14_mend 49 = .ok (.astore_n 3, 1) := by decide +kernel
theorem dX14_mend_50 : decode cX14_mend 50 = .ok (.aload_n 3, 1) := by decide +kernel
theorem dX14_mend_51 : decode cX14_mend 51 = .ok (.getfield 135, 3) := by decide +kernel
theorem dX14_mend_54 : decode cX14_mend 54 = .ok (.istore 4, 2) := by decide +kernel
theorem dX14_mend_56 : decode cX14_mend 56 = .ok (.aload_n 3, 1) := by decide +kernel
theorem dX14_mend_57 : decode cX14_mend 57 = .ok (.iload_n 2, 1) := by decide +kernel
theorem dX14_mend_58 : decode cX14_mend 58 = .ok (.putfield 129, 3) := by decide +kernel
theorem dX14_mend_61 : decode cX14_mend 61 = .ok (.aload_n 3, 1) := by decide +kernel
theorem dX14_mend_62 : decode cX14_mend 62 = .ok (.bipush 50, 2) := by decide +kernel
theorem dX14_mend_64 : decode cX14_mend 64 = .ok (.putfield 135, 3) := by decide +kernel
theorem dX14_mend_67 : decode cX14_mend 67 = .ok (.iload 4, 2) := by decide +kernel
theorem dX14_mend_69 : decode cX14_mend 69 = .ok (.ireturn, 1) := by decide +kernel
theorem dX14_team_0 : decode cX14_team 0 = .ok (.aload_n 0, 1) := by decide +kernel
theorem dX14_team_1 : decode cX14_team 1 = .ok (.iconst 0, 1) := by decide +kernel
theorem dX14_team_2 : decode cX14_team 2 = .ok (.putfield 16, 3) := by decide +kernel
theorem dX14_team_5 : decode cX14_team 5 = .ok (.iload_n 1, 1) := by decide +kernel
theorem dX14_team_6 : decode cX14_team 6 = .ok (.iconst 0, 1) := by decide +kernel
theorem dX14_team_7 : decode cX14_team 7 = .ok (.bipush 100, 2) := by decide +kernel
theorem dX14_team_9 : decode cX14_team 9 = .ok (.invokestatic 30, 3) := by decide +kernel
theorem dX14_team_12 : decode cX14_team 12 = .ok (.ifCond .ne 9, 3) := by decide +kernel
theorem dX14_team_15 : decode cX14_team 15 = .ok (.aload_n 0, 1) := by decide +kernel
theorem dX14_team_16 : decode cX14_team 16 = .ok (.iconst 1, 1) := by decide +kernel
theorem dX14_team_17 : decode cX14_team 17 = .ok (.invokevirtual 43, 3) := by decide +kernel
theorem dX14_team_20 : decode cX14_team 20 = .ok (.ireturn, 1) := by decide +kernel
theorem dX14_team_21 : decode cX14_team 21 = .ok (.aload_n 0, 1) := by decide +kernel
theorem dX14_team_22 : decode cX14_team 22 = .ok (.getfield 10, 3) := by decide +kernel
theorem dX14_team_25 : decode cX14_team 25 = .ok (.getfield 37, 3) := by decide +kernel
theorem dX14_team_28 : decode cX14_team 28 = .ok (.invokevirtual 24, 3) := by decide +kernel
theorem dX14_team_31 : decode cX14_team 31 = .ok (.iconst 4, 1) := by decide +kernel
theorem dX14_team_32 : decode cX14_team 32 = .ok (.if_icmp .ne 9, 3) := by decide +kernel
theorem dX14_team_35 : decode cX14_team 35 = .ok (.aload_n 0, 1) := by decide +kernel
theorem dX14_team_36 : decode cX14_team 36 = .ok (.iconst 2, 1) := by decide +kernel
theorem dX14_team_37 : decode cX14_team 37 = .ok (.invokevirtual 43, 3) := by decide +kernel
theorem dX14_team_40 : decode cX14_team 40 = .ok (.ireturn, 1) := by decide +kernel
theorem dX14_team_41 : decode cX14_team 41 = .ok (.new 153, 3) := by decide +kernel
theorem dX14_team_44 : decode cX14_team 44 = .ok (.dup, 1) := by decide +kernel
theorem dX14_team_45 : decode cX14_team 45 = .ok (.invokespecial 155, 3) := by decide +kernel
theorem dX14_team_48 : decode cX14_team 48 = .ok (.astore_n 2, 1) := by decide +kernel
theorem dX14_team_49 : decode cX14_team 49 = .ok (.aload_n 2, 1) := by decide +kernel
theorem dX14_team_50 : decode cX14_team 50 = .ok (.iload_n 1, 1) := by decide +kernel
theorem dX14_team_51 : decode cX14_team 51 = .ok (.putfield 156, 3) := by decide +kernel
theorem dX14_team_54 : decode cX14_team 54 = .ok (.aload_n 0, 1) := by decide +kernel
theorem dX14_team_55 : decode cX14_team 55 = .ok (.getfield 10, 3) := by decide +kernel
theorem dX14_team_58 : decode cX14_team 58 = .ok (.getfield 37, 3) := by decide +kernel
theorem dX14_team_61 : decode cX14_team 61 = .ok (.aload_n 2, 1) := by decide +kernel
theorem dX14_team_62 : decode cX14_team 62 = .ok (.invokevirtual 52, 3) := by decide +kernel
theorem dX14_team_65 : decode cX14_team 65 = .ok (.pop, 1) := by decide +kernel
theorem dX14_team_66 : decode cX14_team 66 = .ok (.aload_n 0, 1) := by decide +kernel
theorem dX14_team_67 : decode cX14_team 67 = .ok (.getfield 10, 3) := by decide +kernel
theorem dX14_team_70 : decode cX14_team 70 = .ok (.getfield 37, 3) := by decide +kernel
theorem dX14_team_73 : decode cX14_team 73 = .ok (.invokevirtual 24, 3) := by decide +kernel
theorem dX14_team_76 : decode cX14_team 76 = .ok (.iconst 1, 1) := by decide +kernel
theorem dX14_team_77 : decode cX14_team 77 = .ok (.isub, 1) := by decide +kernel
theorem dX14_team_78 : decode cX14_team 78 = .ok (.ireturn, 1) := by decide +kernel
theorem dX14_quota_0 : decode cX14_quota 0 = .ok (.aload_n 0, 1) := by decide +kernel
theorem dX14_quota_1 : decode cX14_quota 1 = .ok (.iconst 0, 1) := by decide +kernel
theorem dX14_quota_2 : decode cX14_quota 2 = .ok (.putfield 16, 3) := by decide +kernel
theorem dX14_quota_5 : decode cX14_quota 5 = .ok (.aload_n 0, 1) := by decide +kernel
theorem dX14_quota_6 : decode cX14_quota 6 = .ok (.iload_n 1, 1) := by decide +kernel
theorem dX14_quota_7 : decode cX14_quota 7 = .ok (.invokevirtual 159, 3) := by decide +kernel
theorem dX14_quota_10 : decode cX14_quota 10 = .ok (.ifCond .ne 9, 3) := by decide +kernel
theorem dX14_quota_13 : decode cX14_quota 13 = .ok (.aload_n 0, 1) := by decide +kernel
theorem dX14_quota_14 : decode cX14_quota 14 = .ok (.iconst 1, 1) := by decide +kernel
theorem dX14_quota_15 : decode cX14_quota 15 = .ok (.invokevirtual 43, 3) := by decide +kernel
theorem dX14_quota_18 : decode cX14_quota 18 = .ok (.ireturn, 1) := by decide +kernel
theorem dX14_quota_19 : decode cX14_quota 19 = .ok (.iload_n 2, 1) := by decide +kernel
theorem dX14_quota_20 : decode cX14_quota 20 = .ok (.iconst 0, 1) := by decide +kernel
theorem dX14_quota_21 : decode cX14_quota 21 = .ok (.bipush 100, 2) := by decide +kernel
theorem dX14_quota_23 : decode cX14_quota 23 = .ok (.invokestatic 30, 3) := by decide +kernel
theorem dX14_quota_26 : decode cX14_quota 26 = .ok (.ifCond .ne 9, 3) := by decide +kernel
theorem dX14_quota_29 : decode cX14_quota 29 = .ok (.aload_n 0, 1) := by decide +kernel
theorem dX14_quota_30 : decode cX14_quota 30 = .ok (.iconst 2, 1) := by decide +kernel
theorem dX14_quota_31 : decode cX14_quota 31 = .ok (.invokevirtual 43, 3) := by decide +kernel
theorem dX14_quota_34 : decode cX14_quota 34 = .ok (.ireturn, 1) := by decide +kernel
theorem dX14_quota_35 : decode cX14_quota 35 = .ok (.aload_n 0, 1) := by decide +kernel
theorem dX14_quota_36 : decode cX14_quota 36 = .ok (.getfield 10, 3) := by decide +kernel
theorem dX14_quota_39 : decode cX14_quota 39 = .ok (.getfield 37, 3) := by decide +kernel
theorem dX14_quota_42 : decode cX14_quota 42 = .ok (.iload_n 1, 1) := by decide +kernel
theorem dX14_quota_43 : decode cX14_quota 43 = .ok (.invokevirtual 92, 3) := by decide +kernel
theorem dX14_quota_46 : decode cX14_quota 46 = .ok (.checkcast 153, 3) := by decide +kernel
theorem dX14_quota_49 : decode cX14_quota 49 = .ok (.iload_n 2, 1) := by decide +kernel
theorem dX14_quota_50 : decode cX14_quota 50 = .ok (.putfield 156, 3) := by decide +kernel
theorem dX14_quota_53 : decode cX14_quota 53 = .ok (.aload_n 0, 1) := by decide +kernel
theorem dX14_quota_54 : decode cX14_quota 54 = .ok (.getfield 10, 3) := by decide +kernel
theorem dX14_quota_57 : decode cX14_quota 57 = .ok (.iload_n 1, 1) := by decide +kernel
theorem dX14_quota_58 : decode cX14_quota 58 = .ok (.iload_n 2, 1) := by decide +kernel
theorem dX14_quota_59 : decode cX14_quota 59 = .ok (.invokevirtual 162, 3) := by decide +kernel
theorem dX14_quota_62 : decode cX14_quota 62 = .ok (.ireturn, 1) := by decide +kernel
theorem dX14_ofTeamNow_0 : decode cX14_ofTeamNow 0 = .ok (.aload_n 0, 1) := by decide +kernel
theorem dX14_ofTeamNow_1 : decode cX14_ofTeamNow 1 = .ok (.getfield 10, 3) := by decide +kernel
theorem dX14_ofTeamNow_4 : decode cX14_ofTeamNow 4 = .ok (.getfield 37, 3) := by decide +kernel
theorem dX14_ofTeamNow_7 : decode cX14_ofTeamNow 7 = .ok (.iload_n 1, 1) := by decide +kernel
theorem dX14_ofTeamNow_8 : decode cX14_ofTeamNow 8 = .ok (.invokevirtual 92, 3) := by decide +kernel
theorem dX14_ofTeamNow_11 : decode cX14_ofTeamNow 11 = .ok (.checkcast 153, 3) := by decide +kernel
theorem dX14_ofTeamNow_14 : decode cX14_ofTeamNow 14 = .ok (.astore_n 3, 1) := by decide +kernel
theorem dX14_ofTeamNow_15 : decode cX14_ofTeamNow 15 = .ok (.iconst 5, 1) := by decide +kernel
theorem dX14_ofTeamNow_16 : decode cX14_ofTeamNow 16 = .ok (.newarray .int, 2) := by decide +kernel
theorem dX14_ofTeamNow_18 : decode cX14_ofTeamNow 18 = .ok (.dup, 1) := by decide +kernel
theorem dX14_ofTeamNow_19 : decode cX14_ofTeamNow 19 = .ok (.iconst 0, 1) := by decide +kernel
theorem dX14_ofTeamNow_20 : decode cX14_ofTeamNow 20 = .ok (.aload_n 3, 1) := by decide +kernel
theorem dX14_ofTeamNow_21 : decode cX14_ofTeamNow 21 = .ok (.getfield 156, 3) := by decide +kernel
theorem dX14_ofTeamNow_24 : decode cX14_ofTeamNow 24 = .ok (.iastore, 1) := by decide +kernel
theorem dX14_ofTeamNow_25 : decode cX14_ofTeamNow 25 = .ok (.dup, 1) := by decide +kernel
theorem dX14_ofTeamNow_26 : decode cX14_ofTeamNow 26 = .ok (.iconst 1, 1) := by decide +kernel
theorem dX14_ofTeamNow_27 : decode cX14_ofTeamNow 27 = .ok (.aload_n 0, 1) := by decide +kernel
theorem dX14_ofTeamNow_28 : decode cX14_ofTeamNow 28 = .ok (.getfield 10, 3) := by decide +kernel
theorem dX14_ofTeamNow_31 : decode cX14_ofTeamNow 31 = .ok (.iload_n 1, 1) := by decide +kernel
theorem dX14_ofTeamNow_32 : decode cX14_ofTeamNow 32 = .ok (.invokevirtual 165, 3) := by decide +kernel
theorem dX14_ofTeamNow_35 : decode cX14_ofTeamNow 35 = .ok (.iastore, 1) := by decide +kernel
theorem dX14_ofTeamNow_36 : decode cX14_ofTeamNow 36 = .ok (.dup, 1) := by decide +kernel
theorem dX14_ofTeamNow_37 : decode cX14_ofTeamNow 37 = .ok (.iconst 2, 1) := by decide +kernel
theorem dX14_ofTeamNow_38 : decode cX14_ofTeamNow 38 = .ok (.aload_n 3, 1) := by decide +kernel
theorem dX14_ofTeamNow_39 : decode cX14_ofTeamNow 39 = .ok (.getfield 168, 3) := by decide +kernel
theorem dX14_ofTeamNow_42 : decode cX14_ofTeamNow 42 = .ok (.iastore, 1) := by decide +kernel
theorem dX14_ofTeamNow_43 : decode cX14_ofTeamNow 43 = .ok (.dup, 1) := by decide +kernel
theorem dX14_ofTeamNow_44 : decode cX14_ofTeamNow 44 = .ok (.iconst 3, 1) := by decide +kernel
theorem dX14_ofTeamNow_45 : decode cX14_ofTeamNow 45 = .ok (.aload_n 3, 1) := by decide +kernel
theorem dX14_ofTeamNow_46 : decode cX14_ofTeamNow 46 = .ok (.getfield 171, 3) := by decide +kernel
theorem dX14_ofTeamNow_49 : decode cX14_ofTeamNow 49 = .ok (.iastore, 1) := by decide +kernel
theorem dX14_ofTeamNow_50 : decode cX14_ofTeamNow 50 = .ok (.dup, 1) := by decide +kernel
theorem dX14_ofTeamNow_51 : decode cX14_ofTeamNow 51 = .ok (.iconst 4, 1) := by decide +kernel
theorem dX14_ofTeamNow_52 : decode cX14_ofTeamNow 52 = .ok (.aload_n 0, 1) := by decide +kernel
theorem dX14_ofTeamNow_53 : decode cX14_ofTeamNow 53 = .ok (.iconst (-1), 1) := by decide +kernel
theorem dX14_ofTeamNow_54 : decode cX14_ofTeamNow 54 = .ok (.iload_n 1, 1) := by decide +kernel
theorem dX14_ofTeamNow_55 : decode cX14_ofTeamNow 55 = .ok (.invokevirtual 115, 3) := by decide +kernel
theorem dX14_ofTeamNow_58 : decode cX14_ofTeamNow 58 = .ok (.iastore, 1) := by decide +kernel
theorem dX14_ofTeamNow_59 : decode cX14_ofTeamNow 59 = .ok (.astore 4, 2) := by decide +kernel
theorem dX14_ofTeamNow_61 : decode cX14_ofTeamNow 61 = .ok (.aload 4, 2) := by decide +kernel
theorem dX14_ofTeamNow_63 : decode cX14_ofTeamNow 63 = .ok (.iload_n 2, 1) := by decide +kernel
theorem dX14_ofTeamNow_64 : decode cX14_ofTeamNow 64 = .ok (.iaload, 1) := by decide +kernel
theorem dX14_ofTeamNow_65 : decode cX14_ofTeamNow 65 = .ok (.ireturn, 1) := by decide +kernel
theorem dX14_ofTeam_0 : decode cX14_ofTeam 0 = .ok (.aload_n 0, 1) := by decide +kernel
theorem dX14_ofTeam_1 : decode cX14_ofTeam 1 = .ok (.iconst 0, 1) := by decide +kernel
theorem dX14_ofTeam_2 : decode cX14_ofTeam 2 = .ok (.putfield 16, 3) := by decide +kernel
theorem dX14_ofTeam_5 : decode cX14_ofTeam 5 = .ok (.aload_n 0, 1) := by decide +kernel
theorem dX14_ofTeam_6 : decode cX14_ofTeam 6 = .ok (.iload_n 1, 1) := by decide +kernel
theorem dX14_ofTeam_7 : decode cX14_ofTeam 7 = .ok (.invokevirtual 159, 3) := by decide +kernel
theorem dX14_ofTeam_10 : decode cX14_ofTeam 10 = .ok (.ifCond .ne 9, 3) := by decide +kernel
theorem dX14_ofTeam_13 : decode cX14_ofTeam 13 = .ok (.aload_n 0, 1) := by decide +kernel
theorem dX14_ofTeam_14 : decode cX14_ofTeam 14 = .ok (.iconst 1, 1) := by decide +kernel
theorem dX14_ofTeam_15 : decode cX14_ofTeam 15 = .ok (.invokevirtual 43, 3) := by decide +kernel
theorem dX14_ofTeam_18 : decode cX14_ofTeam 18 = .ok (.ireturn, 1) := by decide +kernel
theorem dX14_ofTeam_19 : decode cX14_ofTeam 19 = .ok (.iload_n 2, 1) := by decide +kernel
theorem dX14_ofTeam_20 : decode cX14_ofTeam 20 = .ok (.iconst 0, 1) := by decide +kernel
theorem dX14_ofTeam_21 : decode cX14_ofTeam 21 = .ok (.iconst 4, 1) := by decide +kernel
theorem dX14_ofTeam_22 : decode cX14_ofTeam 22 = .ok (.invokestatic 30, 3) := by decide +kernel
theorem dX14_ofTeam_25 : decode cX14_ofTeam 25 = .ok (.ifCond .eq 12, 3) := by decide +kernel
theorem dX14_ofTeam_28 : decode cX14_ofTeam 28 = .ok (.aload_n 0, 1) := by decide +kernel
theorem dX14_ofTeam_29 : decode cX14_ofTeam 29 = .ok (.iload_n 1, 1) := by decide +kernel
theorem dX14_ofTeam_30 : decode cX14_ofTeam 30 = .ok (.iload_n 2, 1) := by decide +kernel
theorem dX14_ofTeam_31 : decode cX14_ofTeam 31 = .ok (.invokevirtual 174, 3) := by decide +kernel
theorem dX14_ofTeam_34 : decode cX14_ofTeam 34 = .ok (.goto 8, 3) := by decide +kernel
theorem dX14_ofTeam_37 : decode cX14_ofTeam 37 = .ok (.aload_n 0, 1) := by decide +kernel
theorem dX14_ofTeam_38 : decode cX14_ofTeam 38 = .ok (.iconst 2, 1) := by decide +kernel
theorem dX14_ofTeam_39 : decode cX14_ofTeam 39 = .ok (.invokevirtual 43, 3) := by decide +kernel
theorem dX14_ofTeam_42 : decode cX14_ofTeam 42 = .ok (.ireturn, 1) := by decide +kernel
theorem dX14_build_0 : decode cX14_build 0 = .ok (.aload_n 0, 1) := by decide +kernel
theorem dX14_build_1 : decode cX14_build 1 = .ok (.iconst 0, 1) := by decide +kernel
theorem dX14_build_2 : decode cX14_build 2 = .ok (.putfield 16, 3) := by decide +kernel
theorem dX14_build_5 : decode cX14_build 5 = .ok (.aload_n 0, 1) := by decide +kernel
theorem dX14_build_6 : decode cX14_build 6 = .ok (.iload_n 1, 1) := by decide +kernel
theorem dX14_build_7 : decode cX14_build 7 = .ok (.invokevirtual 159, 3) := by decide +kernel
theorem dX14_build_10 : decode cX14_build 10 = .ok (.ifCond .eq 11, 3) := by decide +kernel
theorem dX14_build_13 : decode cX14_build 13 = .ok (.aload_n 0, 1) := by decide +kernel
theorem dX14_build_14 : decode cX14_build 14 = .ok (.iload_n 2, 1) := by decide +kernel
theorem dX14_build_15 : decode cX14_build 15 = .ok (.invokevirtual 119, 3) := by decide +kernel
theorem dX14_build_18 : decode cX14_build 18 = .ok (.ifCond .ne 9, 3) := by decide +kernel
theorem dX14_build_21 : decode cX14_build 21 = .ok (.aload_n 0, 1) := by decide +kernel
theorem dX14_build_22 : decode cX14_build 22 = .ok (.iconst 1, 1) := by decide +kernel
theorem dX14_build_23 : decode cX14_build 23 = .ok (.invokevirtual 43, 3) := by decide +kernel
theorem dX14_build_26 : decode cX14_build 26 = .ok (.ireturn, 1) := by decide +kernel
theorem dX14_build_27 : decode cX14_build 27 = .ok (.aload_n 0, 1) := by decide +kernel
theorem dX14_build_28 : decode cX14_build 28 = .ok (.getfield 10, 3) := by decide +kernel
theorem dX14_build_31 : decode cX14_build 31 = .ok (.invokevirtual 177, 3) := by decide +kernel
theorem dX14_build_34 : decode cX14_build 34 = .ok (.astore_n 3, 1) := by decide +kernel
theorem dX14_build_35 : decode cX14_build 35 = .ok (.aload_n 3, 1) := by decide +kernel
theorem dX14_build_36 : decode cX14_build 36 = .ok (.iload_n 1, 1) := by decide +kernel
theorem dX14_build_37 : decode cX14_build 37 = .ok (.iload_n 2, 1) := by decide +kernel
theorem dX14_build_38 : decode cX14_build 38 = .ok (.invokevirtual 181, 3) := by decide +kernel
theorem dX14_build_41 : decode cX14_build 41 = .ok (.istore 4, 2) := by decide +kernel
theorem dX14_build_43 : decode cX14_build 43 = .ok (.iload 4, 2) := by decide +kernel
theorem dX14_build_45 : decode cX14_build 45 = .ok (.iconst (-1), 1) := by decide +kernel
theorem dX14_build_46 : decode cX14_build 46 = .ok (.if_icmp .ne 9, 3) := by decide +kernel
theorem dX14_build_49 : decode cX14_build 49 = .ok (.aload_n 0, 1) := by decide +kernel
theorem dX14_build_50 : decode cX14_build 50 = .ok (.iconst 2, 1) := by decide +kernel
theorem dX14_build_51 : decode cX14_build 51 = .ok (.invokevirtual 43, 3) := by decide +kernel
theorem dX14_build_54 : decode cX14_build 54 = .ok (.ireturn, 1) := by decide +kernel
theorem dX14_build_55 : decode cX14_build 55 = .ok (.aload_n 0, 1) := by decide +kernel
theorem dX14_build_56 : decode cX14_build 56 = .ok (.aload_n 3, 1) := by decide +kernel
theorem dX14_build_57 : decode cX14_build 57 = .ok (.putfield 10, 3) := by decide +kernel
theorem dX14_build_60 : decode cX14_build 60 = .ok (.iload 4, 2) := by decide +kernel
theorem dX14_build_62 : decode cX14_build 62 = .ok (.ireturn, 1) := by decide +kernel
theorem dX14_check_0 : decode cX14_check 0 = .ok (.aload_n 0, 1) := by decide +kernel
theorem dX14_check_1 : decode cX14_check 1 = .ok (.iconst 0, 1) := by decide +kernel
theorem dX14_check_2 : decode cX14_check 2 = .ok (.putfield 16, 3) := by decide +kernel
theorem dX14_check_5 : decode cX14_check 5 = .ok (.iload_n 1, 1) := by decide +kernel
theorem dX14_check_6 : decode cX14_check 6 = .ok (.iconst 0, 1) := by decide +kernel
theorem dX14_check_7 : decode cX14_check 7 = .ok (.bipush 9, 2) := by decide +kernel
theorem dX14_check_9 : decode cX14_check 9 = .ok (.invokestatic 30, 3) := by decide +kernel
theorem dX14_check_12 : decode cX14_check 12 = .ok (.ifCond .ne 9, 3) := by decide +kernel
theorem dX14_check_15 : decode cX14_check 15 = .ok (.aload_n 0, 1) := by decide +kernel
theorem dX14_check_16 : decode cX14_check 16 = .ok (.iconst 1, 1) := by decide +kernel
theorem dX14_check_17 : decode cX14_check 17 = .ok (.invokevirtual 43, 3) := by decide +kernel
theorem dX14_check_20 : decode cX14_check 20 = .ok (.ireturn, 1) := by decide +kernel
theorem dX14_check_21 : decode cX14_check 21 = .ok (.aload_n 0, 1) := by decide +kernel
theorem dX14_check_22 : decode cX14_check 22 = .ok (.getfield 10, 3) := by decide +kernel
theorem dX14_check_25 : decode cX14_check 25 = .ok (.getfield 184, 3) := by decide +kernel
theorem dX14_check_28 : decode cX14_check 28 = .ok (.istore_n 2, 1) := by decide +kernel
theorem dX14_check_29 : decode cX14_check 29 = .ok (.aload_n 0, 1) := by decide +kernel
theorem dX14_check_30 : decode cX14_check 30 = .ok (.getfield 10, 3) := by decide +kernel
theorem dX14_check_33 : decode cX14_check 33 = .ok (.iload_n 1, 1) := by decide +kernel
theorem dX14_check_34 : decode cX14_check 34 = .ok (.putfield 184, 3) := by decide +kernel
theorem dX14_check_37 : decode cX14_check 37 = .ok (.iload_n 2, 1) := by decide +kernel
theorem dX14_check_38 : decode cX14_check 38 = .ok (.ireturn, 1) := by decide +kernel
theorem dX14_isOther_0 : decode cX14_isOther 0 = .ok (.iconst 0, 1) := by decide +kernel
theorem dX14_isOther_1 : decode cX14_isOther 1 = .ok (.istore_n 2, 1) := by decide +kernel
theorem dX14_isOther_2 : decode cX14_isOther 2 = .ok (.iconst 0, 1) := by decide +kernel
theorem dX14_isOther_3 : decode cX14_isOther 3 = .ok (.istore_n 3, 1) := by decide +kernel
theorem dX14_isOther_4 : decode cX14_isOther 4 = .ok (.iload_n 3, 1) := by decide +kernel
theorem dX14_isOther_5 : decode cX14_isOther 5 = .ok (.bipush 8, 2) := by decide +kernel
theorem dX14_isOther_7 : decode cX14_isOther 7 = .ok (.if_icmp .ge 52, 3) := by decide +kernel
theorem dX14_isOther_10 : decode cX14_isOther 10 = .ok (.iload_n 2, 1) := by decide +kernel
theorem dX14_isOther_11 : decode cX14_isOther 11 = .ok (.aload_n 1, 1) := by decide +kernel
theorem dX14_isOther_12 : decode cX14_isOther 12 = .ok (.getfield 82, 3) := by decide +kernel
theorem dX14_isOther_15 : decode cX14_isOther 15 = .ok (.getfield 96, 3) := by decide +kernel
theorem dX14_isOther_18 : decode cX14_isOther 18 = .ok (.iload_n 3, 1) := by decide +kernel
theorem dX14_isOther_19 : decode cX14_isOther 19 = .ok (.invokestatic 187, 3) := by decide +kernel
theorem dX14_isOther_22 : decode cX14_isOther 22 = .ok (.ifCond .eq 28, 3) := by decide +kernel
theorem dX14_isOther_25 : decode cX14_isOther 25 = .ok (.aload_n 1, 1) := by decide +kernel
theorem dX14_isOther_26 : decode cX14_isOther 26 = .ok (.getfield 191, 3) := by decide +kernel
theorem dX14_isOther_29 : decode cX14_isOther 29 = .ok (.getfield 195, 3) := by decide +kernel
theorem dX14_isOther_32 : decode cX14_isOther 32 = .ok (.iload_n 3, 1) := by decide +kernel
theorem dX14_isOther_33 : decode cX14_isOther 33 = .ok (.iaload, 1) := by decide +kernel
theorem dX14_isOther_34 : decode cX14_isOther 34 = .ok (.aload_n 0, 1) := by decide +kernel
theorem dX14_isOther_35 : decode cX14_isOther 35 = .ok (.getfield 10, 3) := by decide +kernel
theorem dX14_isOther_38 : decode cX14_isOther 38 = .ok (.getfield 56, 3) := by decide +kernel
theorem dX14_isOther_41 : decode cX14_isOther 41 = .ok (.iload_n 3, 1) := by decide +kernel
theorem dX14_isOther_42 : decode cX14_isOther 42 = .ok (.iaload, 1) := by decide +kernel
theorem dX14_isOther_43 : decode cX14_isOther 43 = .ok (.if_icmp .eq 7, 3) := by decide +kernel
theorem dX14_isOther_46 : decode cX14_isOther 46 = .ok (.iconst 1, 1) := by decide +kernel
theorem dX14_isOther_47 : decode cX14_isOther 47 = .ok (.goto 4, 3) := by decide +kernel
theorem dX14_isOther_50 : decode cX14_isOther 50 = .ok (.iconst 0, 1) := by decide +kernel
theorem dX14_isOther_51 : decode cX14_isOther 51 = .ok (.ior, 1) := by decide +kernel
theorem dX14_isOther_52 : decode cX14_isOther 52 = .ok (.istore_n 2, 1) := by decide +kernel
theorem dX14_isOther_53 : decode cX14_isOther 53 = .ok (.iinc 3 1, 3) := by decide +kernel
theorem dX14_isOther_56 : decode cX14_isOther 56 = .ok (.goto (-52), 3) := by decide +kernel
theorem dX14_isOther_59 : decode cX14_isOther 59 = .ok (.iconst 0, 1) := by decide +kernel
theorem dX14_isOther_60 : decode cX14_isOther 60 = .ok (.istore_n 3, 1) := by decide +kernel
theorem dX14_isOther_61 : decode cX14_isOther 61 = .ok (.iload_n 3, 1) := by decide +kernel
theorem dX14_isOther_62 : decode cX14_isOther 62 = .ok (.bipush 6, 2) := by decide +kernel
theorem dX14_isOther_64 : decode cX14_isOther 64 = .ok (.if_icmp .ge 49, 3) := by decide +kernel
theorem dX14_isOther_67 : decode cX14_isOther 67 = .ok (.iload_n 2, 1) := by decide +kernel
theorem dX14_isOther_68 : decode cX14_isOther 68 = .ok (.aload_n 1, 1) := by decide +kernel
theorem dX14_isOther_69 : decode cX14_isOther 69 = .ok (.getfield 198, 3) := by decide +kernel
theorem dX14_isOther_72 : decode cX14_isOther 72 = .ok (.iload_n 3, 1) := by decide +kernel
theorem dX14_isOther_73 : decode cX14_isOther 73 = .ok (.invokestatic 187, 3) := by decide +kernel
theorem dX14_isOther_76 : decode cX14_isOther 76 = .ok (.ifCond .eq 28, 3) := by decide +kernel
theorem dX14_isOther_79 : decode cX14_isOther 79 = .ok (.aload_n 1, 1) := by decide +kernel
theorem dX14_isOther_80 : decode cX14_isOther 80 = .ok (.getfield 191, 3) := by decide +kernel
theorem dX14_isOther_83 : decode cX14_isOther 83 = .ok (.getfield 201, 3) := by decide +kernel
theorem dX14_isOther_86 : decode cX14_isOther 86 = .ok (.iload_n 3, 1) := by decide +kernel
theorem dX14_isOther_87 : decode cX14_isOther 87 = .ok (.iaload, 1) := by decide +kernel
theorem dX14_isOther_88 : decode cX14_isOther 88 = .ok (.aload_n 0, 1) := by decide +kernel
theorem dX14_isOther_89 : decode cX14_isOther 89 = .ok (.getfield 10, 3) := by decide +kernel
theorem dX14_isOther_92 : decode cX14_isOther 92 = .ok (.getfield 60, 3) := by decide +kernel
theorem dX14_isOther_95 : decode cX14_isOther 95 = .ok (.iload_n 3, 1) := by decide +kernel
theorem dX14_isOther_96 : decode cX14_isOther 96 = .ok (.iaload, 1) := by decide +kernel
theorem dX14_isOther_97 : decode cX14_isOther 97 = .ok (.if_icmp .eq 7, 3) := by decide +kernel
theorem dX14_isOther_100 : decode cX14_isOther 100 = .ok (.iconst 1, 1) := by decide +kernel
theorem dX14_isOther_101 : decode cX14_isOther 101 = .ok (.goto 4, 3) := by decide +kernel
theorem dX14_isOther_104 : decode cX14_isOther 104 = .ok (.iconst 0, 1) := by decide +kernel
theorem dX14_isOther_105 : decode cX14_isOther 105 = .ok (.ior, 1) := by decide +kernel
theorem dX14_isOther_106 : decode cX14_isOther 106 = .ok (.istore_n 2, 1) := by decide +kernel
theorem dX14_isOther_107 : decode cX14_isOther 107 = .ok (.iinc 3 1, 3) := by decide +kernel
theorem dX14_isOther_110 : decode cX14_isOther 110 = .ok (.goto (-49), 3) := by decide +kernel
theorem dX14_isOther_113 : decode cX14_isOther 113 = .ok (.iload_n 2, 1) := by decide +kernel
theorem dX14_isOther_114 : decode cX14_isOther 114 = .ok (.ireturn, 1) := by decide +kernel
theorem dX14_recheck_0 : decode cX14_recheck 0 = .ok (.aload_n 0, 1) := by decide +kernel
theorem dX14_recheck_1 : decode cX14_recheck 1 = .ok (.iconst 0, 1) := by decide +kernel
theorem dX14_recheck_2 : decode cX14_recheck 2 = .ok (.putfield 16, 3) := by decide +kernel
theorem dX14_recheck_5 : decode cX14_recheck 5 = .ok (.aload_n 0, 1) := by decide +kernel
theorem dX14_recheck_6 : decode cX14_recheck 6 = .ok (.iload_n 1, 1) := by decide +kernel
theorem dX14_recheck_7 : decode cX14_recheck 7 = .ok (.invokevirtual 202, 3) := by decide +kernel
theorem dX14_recheck_10 : decode cX14_recheck 10 = .ok (.ifCond .ne 9, 3) := by decide +kernel
theorem dX14_recheck_13 : decode cX14_recheck 13 = .ok (.aload_n 0, 1) := by decide +kernel
theorem dX14_recheck_14 : decode cX14_recheck 14 = .ok (.iconst 1, 1) := by decide +kernel
theorem dX14_recheck_15 : decode cX14_recheck 15 = .ok (.invokevirtual 43, 3) := by decide +kernel
theorem dX14_recheck_18 : decode cX14_recheck 18 = .ok (.ireturn, 1) := by decide +kernel
theorem dX14_recheck_19 : decode cX14_recheck 19 = .ok (.aload_n 0, 1) := by decide +kernel
theorem dX14_recheck_20 : decode cX14_recheck 20 = .ok (.getfield 10, 3) := by decide +kernel
theorem dX14_recheck_23 : decode cX14_recheck 23 = .ok (.getfield 40, 3) := by decide +kernel
theorem dX14_recheck_26 : decode cX14_recheck 26 = .ok (.iload_n 1, 1) := by decide +kernel
theorem dX14_recheck_27 : decode cX14_recheck 27 = .ok (.invokevirtual 92, 3) := by decide +kernel
theorem dX14_recheck_30 : decode cX14_recheck 30 = .ok (.checkcast 77, 3) := by decide +kernel
theorem dX14_recheck_33 : decode cX14_recheck 33 = .ok (.astore_n 2, 1) := by decide +kernel
theorem dX14_recheck_34 : decode cX14_recheck 34 = .ok (.aload_n 2, 1) := by decide +kernel
theorem dX14_recheck_35 : decode cX14_recheck 35 = .ok (.getfield 79, 3) := by decide +kernel
theorem dX14_recheck_38 : decode cX14_recheck 38 = .ok (.ifCond .ne 26, 3) := by decide +kernel
theorem dX14_recheck_41 : decode cX14_recheck 41 = .ok (.aload_n 0, 1) := by decide +kernel
theorem dX14_recheck_42 : decode cX14_recheck 42 = .ok (.aload_n 2, 1) := by decide +kernel
theorem dX14_recheck_43 : decode cX14_recheck 43 = .ok (.invokevirtual 205, 3) := by decide +kernel
theorem dX14_recheck_46 : decode cX14_recheck 46 = .ok (.ifCond .ne 18, 3) := by decide +kernel
theorem dX14_recheck_49 : decode cX14_recheck 49 = .ok (.aload_n 0, 1) := by decide +kernel
theorem dX14_recheck_50 : decode cX14_recheck 50 = .ok (.getfield 10, 3) := by decide +kernel
theorem dX14_recheck_53 : decode cX14_recheck 53 = .ok (.getfield 40, 3) := by decide +kernel
theorem dX14_recheck_56 : decode cX14_recheck 56 = .ok (.invokevirtual 24, 3) := by decide +kernel
theorem dX14_recheck_59 : decode cX14_recheck 59 = .ok (.bipush 60, 2) := by decide +kernel
theorem dX14_recheck_61 : decode cX14_recheck 61 = .ok (.if_icmp .ne 9, 3) := by decide +kernel
theorem dX14_recheck_64 : decode cX14_recheck 64 = .ok (.aload_n 0, 1) := by decide +kernel
theorem dX14_recheck_65 : decode cX14_recheck 65 = .ok (.iconst 2, 1) := by decide +kernel
theorem dX14_recheck_66 : decode cX14_recheck 66 = .ok (.invokevirtual 43, 3) := by decide +kernel
theorem dX14_recheck_69 : decode cX14_recheck 69 = .ok (.ireturn, 1) := by decide +kernel
theorem dX14_recheck_70 : decode cX14_recheck 70 = .ok (.aload_n 0, 1) := by decide +kernel
theorem dX14_recheck_71 : decode cX14_recheck 71 = .ok (.getfield 10, 3) := by decide +kernel
theorem dX14_recheck_74 : decode cX14_recheck 74 = .ok (.iload_n 1, 1) := by decide +kernel
theorem dX14_recheck_75 : decode cX14_recheck 75 = .ok (.aload_n 0, 1) := by decide +kernel
theorem dX14_recheck_76 : decode cX14_recheck 76 = .ok (.getfield 10, 3) := by decide +kernel
theorem dX14_recheck_79 : decode cX14_recheck 79 = .ok (.aload_n 2, 1) := by decide +kernel
theorem dX14_recheck_80 : decode cX14_recheck 80 = .ok (.getfield 82, 3) := by decide +kernel
theorem dX14_recheck_83 : decode cX14_recheck 83 = .ok (.aload_n 2, 1) := by decide +kernel
theorem dX14_recheck_84 : decode cX14_recheck 84 = .ok (.getfield 191, 3) := by decide +kernel
theorem dX14_recheck_87 : decode cX14_recheck 87 = .ok (.getfield 209, 3) := by decide +kernel
theorem dX14_recheck_90 : decode cX14_recheck 90 = .ok (.aload_n 2, 1) := by decide +kernel
theorem dX14_recheck_91 : decode cX14_recheck 91 = .ok (.getfield 191, 3) := by decide +kernel
theorem dX14_recheck_94 : decode cX14_recheck 94 = .ok (.getfield 212, 3) := by decide +kernel
theorem dX14_recheck_97 : decode cX14_recheck 97 = .ok (.invokevirtual 215, 3) := by decide +kernel
theorem dX14_recheck_100 : decode cX14_recheck 100 = .ok (.aload_n 2, 1) := by decide +kernel
theorem dX14_recheck_101 : decode cX14_recheck 101 = .ok (.getfield 89, 3) := by decide +kernel
theorem dX14_recheck_104 : decode cX14_recheck 104 = .ok (.invokevirtual 219, 3) := by decide +kernel
theorem dX14_recheck_107 : decode cX14_recheck 107 = .ok (.ireturn, 1) := by decide +kernel
theorem dX14_ofEntryNow_0 : decode cX14_ofEntryNow 0 = .ok (.aload_n 0, 1) := by decide +kernel
theorem dX14_ofEntryNow_1 : decode cX14_ofEntryNow 1 = .ok (.getfield 10, 3) := by decide +kernel
theorem dX14_ofEntryNow_4 : decode cX14_ofEntryNow 4 = .ok (.getfield 40, 3) := by decide +kernel
theorem dX14_ofEntryNow_7 : decode cX14_ofEntryNow 7 = .ok (.iload_n 1, 1) := by decide +kernel
theorem dX14_ofEntryNow_8 : decode cX14_ofEntryNow 8 = .ok (.invokevirtual 92, 3) := by decide +kernel
theorem dX14_ofEntryNow_11 : decode cX14_ofEntryNow 11 = .ok (.checkcast 77, 3) := by decide +kernel
theorem dX14_ofEntryNow_14 : decode cX14_ofEntryNow 14 = .ok (.astore_n 3, 1) := by decide +kernel
theorem dX14_ofEntryNow_15 : decode cX14_ofEntryNow 15 = .ok (.iload_n 2, 1) := by decide +kernel
theorem dX14_ofEntryNow_16 : decode cX14_ofEntryNow 16 = .ok (.bipush 7, 2) := by decide +kernel
theorem dX14_ofEntryNow_18 : decode cX14_ofEntryNow 18 = .ok (.if_icmp .ne 62, 3) := by decide +kernel
theorem dX14_ofEntryNow_21 : decode cX14_ofEntryNow 21 = .ok (.iconst 0, 1) := by decide +kernel
theorem dX14_ofEntryNow_22 : decode cX14_ofEntryNow 22 = .ok (.istore 4, 2) := by decide +kernel
theorem dX14_ofEntryNow_24 : decode cX14_ofEntryNow 24 = .ok (.aload_n 0, 1) := by decide +kernel
theorem dX14_ofEntryNow_25 : decode cX14_ofEntryNow 25 = .ok (.getfield 10, 3) := by decide +kernel
theorem dX14_ofEntryNow_28 : decode cX14_ofEntryNow 28 = .ok (.iload_n 1, 1) := by decide +kernel
theorem dX14_ofEntryNow_29 : decode cX14_ofEntryNow 29 = .ok (.invokevirtual 223, 3) := by decide +kernel
theorem dX14_ofEntryNow_32 : decode cX14_ofEntryNow 32 = .ok (.astore 5, 2) := by decide +kernel
theorem dX14_ofEntryNow_34 : decode cX14_ofEntryNow 34 = .ok (.aload 5, 2) := by decide +kernel
theorem dX14_ofEntryNow_36 : decode cX14_ofEntryNow 36 = .ok (.arraylength, 1) := by decide +kernel
theorem dX14_ofEntryNow_37 : decode cX14_ofEntryNow 37 = .ok (.istore 6, 2) := by decide +kernel
theorem dX14_ofEntryNow_39 : decode cX14_ofEntryNow 39 = .ok (.iconst 0, 1) := by decide +kernel
theorem dX14_ofEntryNow_40 : decode cX14_ofEntryNow 40 = .ok (.istore 7, 2) := by decide +kernel
theorem dX14_ofEntryNow_42 : decode cX14_ofEntryNow 42 = .ok (.iload 7, 2) := by decide +kernel
theorem dX14_ofEntryNow_44 : decode cX14_ofEntryNow 44 = .ok (.iload 6, 2) := by decide +kernel
theorem dX14_ofEntryNow_46 : decode cX14_ofEntryNow 46 = .ok (.if_icmp .ge 31, 3) := by decide +kernel
theorem dX14_ofEntryNow_49 : decode cX14_ofEntryNow 49 = .ok (.aload 5, 2) := by decide +kernel
theorem dX14_ofEntryNow_51 : decode cX14_ofEntryNow 51 = .ok (.iload 7, 2) := by decide +kernel
theorem dX14_ofEntryNow_53 : decode cX14_ofEntryNow 53 = .ok (.baload, 1) := by decide +kernel
theorem dX14_ofEntryNow_54 : decode cX14_ofEntryNow 54 = .ok (.istore 8, 2) := by decide +kernel
theorem dX14_ofEntryNow_56 : decode cX14_ofEntryNow 56 = .ok (.iload 4, 2) := by decide +kernel
theorem dX14_ofEntryNow_58 : decode cX14_ofEntryNow 58 = .ok (.iload 8, 2) := by decide +kernel
theorem dX14_ofEntryNow_60 : decode cX14_ofEntryNow 60 = .ok (.ifCond .eq 7, 3) := by decide +kernel
theorem dX14_ofEntryNow_63 : decode cX14_ofEntryNow 63 = .ok (.iconst 1, 1) := by decide +kernel
theorem dX14_ofEntryNow_64 : decode cX14_ofEntryNow 64 = .ok (.goto 4, 3) := by decide +kernel
theorem dX14_ofEntryNow_67 : decode cX14_ofEntryNow 67 = .ok (.iconst 0, 1) := by decide +kernel
theorem dX14_ofEntryNow_68 : decode cX14_ofEntryNow 68 = .ok (.iadd, 1) := by decide +kernel
theorem dX14_ofEntryNow_69 : decode cX14_ofEntryNow 69 = .ok (.istore 4, 2) := by decide +kernel
theorem dX14_ofEntryNow_71 : decode cX14_ofEntryNow 71 = .ok (.iinc 7 1, 3) := by decide +kernel
theorem dX14_ofEntryNow_74 : decode cX14_ofEntryNow 74 = .ok (.goto (-32), 3) := by decide +kernel
theorem dX14_ofEntryNow_77 : decode cX14_ofEntryNow 77 = .ok (.iload 4, 2) := by decide +kernel
theorem dX14_ofEntryNow_79 : decode cX14_ofEntryNow 79 = .ok (.ireturn, 1) := by decide +kernel
theorem dX14_ofEntryNow_80 : decode cX14_ofEntryNow 80 = .ok (.bipush 7, 2) := by decide +kernel
theorem dX14_ofEntryNow_82 : decode cX14_ofEntryNow 82 = .ok (.newarray .int, 2) := by decide +kernel
theorem dX14_ofEntryNow_84 : decode cX14_ofEntryNow 84 = .ok (.dup, 1) := by decide +kernel
theorem dX14_ofEntryNow_85 : decode cX14_ofEntryNow 85 = .ok (.iconst 0, 1) := by decide +kernel
theorem dX14_ofEntryNow_86 : decode cX14_ofEntryNow 86 = .ok (.aload_n 3, 1) := by decide +kernel
theorem dX14_ofEntryNow_87 : decode cX14_ofEntryNow 87 = .ok (.getfield 82, 3) := by decide +kernel
theorem dX14_ofEntryNow_90 : decode cX14_ofEntryNow 90 = .ok (.getfield 86, 3) := by decide +kernel
theorem dX14_ofEntryNow_93 : decode cX14_ofEntryNow 93 = .ok (.iastore, 1) := by decide +kernel
theorem dX14_ofEntryNow_94 : decode cX14_ofEntryNow 94 = .ok (.dup, 1) := by decide +kernel
theorem dX14_ofEntryNow_95 : decode cX14_ofEntryNow 95 = .ok (.iconst 1, 1) := by decide +kernel
theorem dX14_ofEntryNow_96 : decode cX14_ofEntryNow 96 = .ok (.aload_n 3, 1) := by decide +kernel
theorem dX14_ofEntryNow_97 : decode cX14_ofEntryNow 97 = .ok (.getfield 132, 3) := by decide +kernel
theorem dX14_ofEntryNow_100 : decode cX14_ofEntryNow 100 = .ok (.iastore, 1) := by decide +kernel
theorem dX14_ofEntryNow_101 : decode cX14_ofEntryNow 101 = .ok (.dup, 1) := by decide +kernel
theorem dX14_ofEntryNow_102 : decode cX14_ofEntryNow 102 = .ok (.iconst 2, 1) := by decide +kernel
theorem dX14_ofEntryNow_103 : decode cX14_ofEntryNow 103 = .ok (.aload_n 3, 1) := by decide +kernel
theorem dX14_ofEntryNow_104 : decode cX14_ofEntryNow 104 = .ok (.getfield 89, 3) := by decide +kernel
theorem dX14_ofEntryNow_107 : decode cX14_ofEntryNow 107 = .ok (.iastore, 1) := by decide +kernel
theorem dX14_ofEntryNow_108 : decode cX14_ofEntryNow 108 = .ok (.dup, 1) := by decide +kernel
theorem dX14_ofEntryNow_109 : decode cX14_ofEntryNow 109 = .ok (.iconst 3, 1) := by decide +kernel
theorem dX14_ofEntryNow_110 : decode cX14_ofEntryNow 110 = .ok (.aload_n 3, 1) := by decide +kernel
theorem dX14_ofEntryNow_111 : decode cX14_ofEntryNow 111 = .ok (.getfield 227, 3) := by decide +kernel
theorem dX14_ofEntryNow_114 : decode cX14_ofEntryNow 114 = .ok (.iastore, 1) := by decide +kernel
theorem dX14_ofEntryNow_115 : decode cX14_ofEntryNow 115 = .ok (.dup, 1) := by decide +kernel
theorem dX14_ofEntryNow_116 : decode cX14_ofEntryNow 116 = .ok (.iconst 4, 1) := by decide +kernel
theorem dX14_ofEntryNow_117 : decode cX14_ofEntryNow 117 = .ok (.aload_n 3, 1) := by decide +kernel
theorem dX14_ofEntryNow_118 : decode cX14_ofEntryNow 118 = .ok (.getfield 230, 3) := by decide +kernel
theorem dX14_ofEntryNow_121 : decode cX14_ofEntryNow 121 = .ok (.iastore, 1) := by decide +kernel
theorem dX14_ofEntryNow_122 : decode cX14_ofEntryNow 122 = .ok (.dup, 1) := by decide +kernel
theorem dX14_ofEntryNow_123 : decode cX14_ofEntryNow 123 = .ok (.iconst 5, 1) := by decide +kernel
theorem dX14_ofEntryNow_124 : decode cX14_ofEntryNow 124 = .ok (.aload_n 3, 1) := by decide +kernel
theorem dX14_ofEntryNow_125 : decode cX14_ofEntryNow 125 = .ok (.getfield 79, 3) := by decide +kernel
theorem dX14_ofEntryNow_128 : decode cX14_ofEntryNow 128 = .ok (.iastore, 1) := by decide +kernel
theorem dX14_ofEntryNow_129 : decode cX14_ofEntryNow 129 = .ok (.dup, 1) := by decide +kernel
theorem dX14_ofEntryNow_130 : decode cX14_ofEntryNow 130 = .ok (.bipush 6, 2) := by decide +kernel
theorem dX14_ofEntryNow_132 : decode cX14_ofEntryNow 132 = .ok (.aload_n 3, 1) := by decide +kernel
theorem dX14_ofEntryNow_133 : decode cX14_ofEntryNow 133 = .ok (.invokevirtual 233, 3) := by decide +kernel
theorem dX14_ofEntryNow_136 : decode cX14_ofEntryNow 136 = .ok (.iastore, 1) := by decide +kernel
theorem dX14_ofEntryNow_137 : decode cX14_ofEntryNow 137 = .ok (.astore 4, 2) := by decide +kernel
theorem dX14_ofEntryNow_139 : decode cX14_ofEntryNow 139 = .ok (.aload 4, 2) := by decide +kernel
theorem dX14_ofEntryNow_141 : decode cX14_ofEntryNow 141 = .ok (.iload_n 2, 1) := by decide +kernel
theorem dX14_ofEntryNow_142 : decode cX14_ofEntryNow 142 = .ok (.iaload, 1) := by decide +kernel
theorem dX14_ofEntryNow_143 : decode cX14_ofEntryNow 143 = .ok (.ireturn, 1) := by decide +kernel
theorem dX14_ofEntry_0 : decode cX14_ofEntry 0 = .ok (.aload_n 0, 1) := by decide +kernel
theorem dX14_ofEntry_1 : decode cX14_ofEntry 1 = .ok (.iconst 0, 1) := by decide +kernel
theorem dX14_ofEntry_2 : decode cX14_ofEntry 2 = .ok (.putfield 16, 3) := by decide +kernel
theorem dX14_ofEntry_5 : decode cX14_ofEntry 5 = .ok (.aload_n 0, 1) := by decide +kernel
theorem dX14_ofEntry_6 : decode cX14_ofEntry 6 = .ok (.iload_n 1, 1) := by decide +kernel
theorem dX14_ofEntry_7 : decode cX14_ofEntry 7 = .ok (.invokevirtual 202, 3) := by decide +kernel
theorem dX14_ofEntry_10 : decode cX14_ofEntry 10 = .ok (.ifCond .ne 9, 3) := by decide +kernel
theorem dX14_ofEntry_13 : decode cX14_ofEntry 13 = .ok (.aload_n 0, 1) := by decide +kernel
theorem dX14_ofEntry_14 : decode cX14_ofEntry 14 = .ok (.iconst 1, 1) := by decide +kernel
theorem dX14_ofEntry_15 : decode cX14_ofEntry 15 = .ok (.invokevirtual 43, 3) := by decide +kernel
theorem dX14_ofEntry_18 : decode cX14_ofEntry 18 = .ok (.ireturn, 1) := by decide +kernel
theorem dX14_ofEntry_19 : decode cX14_ofEntry 19 = .ok (.iload_n 2, 1) := by decide +kernel
theorem dX14_ofEntry_20 : decode cX14_ofEntry 20 = .ok (.iconst 0, 1) := by decide +kernel
theorem dX14_ofEntry_21 : decode cX14_ofEntry 21 = .ok (.bipush 7, 2) := by decide +kernel
theorem dX14_ofEntry_23 : decode cX14_ofEntry 23 = .ok (.invokestatic 30, 3) := by decide +kernel
theorem dX14_ofEntry_26 : decode cX14_ofEntry 26 = .ok (.ifCond .eq 12, 3) := by decide +kernel
theorem dX14_ofEntry_29 : decode cX14_ofEntry 29 = .ok (.aload_n 0, 1) := by decide +kernel
theorem dX14_ofEntry_30 : decode cX14_ofEntry 30 = .ok (.iload_n 1, 1) := by decide +kernel
theorem dX14_ofEntry_31 : decode cX14_ofEntry 31 = .ok (.iload_n 2, 1) := by decide +kernel
theorem dX14_ofEntry_32 : decode cX14_ofEntry 32 = .ok (.invokevirtual 236, 3) := by decide +kernel
theorem dX14_ofEntry_35 : decode cX14_ofEntry 35 = .ok (.goto 8, 3) := by decide +kernel
theorem dX14_ofEntry_38 : decode cX14_ofEntry 38 = .ok (.aload_n 0, 1) := by decide +kernel
theorem dX14_ofEntry_39 : decode cX14_ofEntry 39 = .ok (.iconst 2, 1) := by decide +kernel
theorem dX14_ofEntry_40 : decode cX14_ofEntry 40 = .ok (.invokevirtual 43, 3) := by decide +kernel
theorem dX14_ofEntry_43 : decode cX14_ofEntry 43 = .ok (.ireturn, 1) := by decide +kernel
theorem dX14_from_0 : decode cX14_from 0 = .ok (.aload_n 0, 1) := by decide +kernel
theorem dX14_from_1 : decode cX14_from 1 = .ok (.iconst 0, 1) := by decide +kernel
theorem dX14_from_2 : decode cX14_from 2 = .ok (.putfield 16, 3) := by decide +kernel
theorem dX14_from_5 : decode cX14_from 5 = .ok (.aload_n 0, 1) := by decide +kernel
theorem dX14_from_6 : decode cX14_from 6 = .ok (.iload_n 1, 1) := by decide +kernel
theorem dX14_from_7 : decode cX14_from 7 = .ok (.invokevirtual 202, 3) := by decide +kernel
theorem dX14_from_10 : decode cX14_from 10 = .ok (.ifCond .eq 40, 3) := by decide +kernel
theorem dX14_from_13 : decode cX14_from 13 = .ok (.iload_n 2, 1) := by decide +kernel
theorem dX14_from_14 : decode cX14_from 14 = .ok (.iconst 0, 1) := by decide +kernel
theorem dX14_from_15 : decode cX14_from 15 = .ok (.bipush 13, 2) := by decide +kernel
theorem dX14_from_17 : decode cX14_from 17 = .ok (.invokestatic 30, 3) := by decide +kernel
theorem dX14_from_20 : decode cX14_from 20 = .ok (.ifCond .eq 30, 3) := by decide +kernel
theorem dX14_from_23 : decode cX14_from 23 = .ok (.aload_n 0, 1) := by decide +kernel
theorem dX14_from_24 : decode cX14_from 24 = .ok (.getfield 10, 3) := by decide +kernel
theorem dX14_from_27 : decode cX14_from 27 = .ok (.getfield 40, 3) := by decide +kernel
theorem dX14_from_30 : decode cX14_from 30 = .ok (.iload_n 1, 1) := by decide +kernel
theorem dX14_from_31 : decode cX14_from 31 = .ok (.invokevirtual 92, 3) := by decide +kernel
theorem dX14_from_34 : decode cX14_from 34 = .ok (.checkcast 77, 3) := by decide +kernel
theorem dX14_from_37 : decode cX14_from 37 = .ok (.getfield 82, 3) := by decide +kernel
theorem dX14_from_40 : decode cX14_from 40 = .ok (.getfield 99, 3) := by decide +kernel
theorem dX14_from_43 : decode cX14_from 43 = .ok (.iload_n 2, 1) := by decide +kernel
theorem dX14_from_44 : decode cX14_from 44 = .ok (.invokestatic 187, 3) := by decide +kernel
theorem dX14_from_47 : decode cX14_from 47 = .ok (.ifCond .ne 9, 3) := by decide +kernel
theorem dX14_from_50 : decode cX14_from 50 = .ok (.aload_n 0, 1) := by decide +kernel
theorem dX14_from_51 : decode cX14_from 51 = .ok (.iconst 1, 1) := by decide +kernel
theorem dX14_from_52 : decode cX14_from 52 = .ok (.invokevirtual 43, 3) := by decide +kernel
theorem dX14_from_55 : decode cX14_from 55 = .ok (.ireturn, 1) := by decide +kernel
theorem dX14_from_56 : decode cX14_from 56 = .ok (.aload_n 0, 1) := by decide +kernel
theorem dX14_from_57 : decode cX14_from 57 = .ok (.getfield 10, 3) := by decide +kernel
theorem dX14_from_60 : decode cX14_from 60 = .ok (.getfield 40, 3) := by decide +kernel
theorem dX14_from_63 : decode cX14_from 63 = .ok (.iload_n 1, 1) := by decide +kernel
theorem dX14_from_64 : decode cX14_from 64 = .ok (.invokevirtual 92, 3) := by decide +kernel
theorem dX14_from_67 : decode cX14_from 67 = .ok (.checkcast 77, 3) := by decide +kernel
theorem dX14_from_70 : decode cX14_from 70 = .ok (.getfield 191, 3) := by decide +kernel
theorem dX14_from_73 : decode cX14_from 73 = .ok (.getfield 212, 3) := by decide +kernel
theorem dX14_from_76 : decode cX14_from 76 = .ok (.iload_n 2, 1) := by decide +kernel
theorem dX14_from_77 : decode cX14_from 77 = .ok (.iaload, 1) := by decide +kernel
theorem dX14_from_78 : decode cX14_from 78 = .ok (.ireturn, 1) := by decide +kernel
theorem dX14_manyNow_0 : decode cX14_manyNow 0 = .ok (.iconst 0, 1) := by decide +kernel
theorem dX14_manyNow_1 : decode cX14_manyNow 1 = .ok (.istore_n 2, 1) := by decide +kernel
theorem dX14_manyNow_2 : decode cX14_manyNow 2 = .ok (.iload_n 1, 1) := by decide +kernel
theorem dX14_manyNow_3 : decode cX14_manyNow 3 = .ok (.tableswitch 121 0 9 #[53, 64, 75, 86, 121, 121, 121, 97, 105, 113], 53) := by decide +kernel
theorem dX14_manyNow_56 : decode cX14_manyNow 56 = .ok (.aload_n 0, 1) := by decide +kernel
theorem dX14_manyNow_57 : decode cX14_manyNow 57 = .ok (.getfield 10, 3) := by decide +kernel
theorem dX14_manyNow_60 : decode cX14_manyNow 60 = .ok (.getfield 20, 3) := by decide +kernel
theorem dX14_manyNow_63 : decode cX14_manyNow 63 = .ok (.invokevirtual 24, 3) := by decide +kernel
theorem dX14_manyNow_66 : decode cX14_manyNow 66 = .ok (.ireturn, 1) := by decide +kernel
theorem dX14_manyNow_67 : decode cX14_manyNow 67 = .ok (.aload_n 0, 1) := by decide +kernel
theorem dX14_manyNow_68 : decode cX14_manyNow 68 = .ok (.getfield 10, 3) := by decide +kernel
theorem dX14_manyNow_71 : decode cX14_manyNow 71 = .ok (.getfield 34, 3) := by decide +kernel
theorem dX14_manyNow_74 : decode cX14_manyNow 74 = .ok (.invokevirtual 24, 3) := by decide +kernel
theorem dX14_manyNow_77 : decode cX14_manyNow 77 = .ok (.ireturn, 1) := by decide +kernel
theorem dX14_manyNow_78 : decode cX14_manyNow 78 = .ok (.aload_n 0, 1) := by decide +kernel
theorem dX14_manyNow_79 : decode cX14_manyNow 79 = .ok (.getfield 10, 3) := by decide +kernel
theorem dX14_manyNow_82 : decode cX14_manyNow 82 = .ok (.getfield 37, 3) := by decide +kernel
theorem dX14_manyNow_85 : decode cX14_manyNow 85 = .ok (.invokevirtual 24, 3) := by decide +kernel
theorem dX14_manyNow_88 : decode cX14_manyNow 88 = .ok (.ireturn, 1) := by decide +kernel
theorem dX14_manyNow_89 : decode cX14_manyNow 89 = .ok (.aload_n 0, 1) := by decide +kernel
theorem dX14_manyNow_90 : decode cX14_manyNow 90 = .ok (.getfield 10, 3) := by decide +kernel
theorem dX14_manyNow_93 : decode cX14_manyNow 93 = .ok (.getfield 40, 3) := by decide +kernel
theorem dX14_manyNow_96 : decode cX14_manyNow 96 = .ok (.invokevirtual 24, 3) := by decide +kernel
theorem dX14_manyNow_99 : decode cX14_manyNow 99 = .ok (.ireturn, 1) := by decide +kernel
theorem dX14_manyNow_100 : decode cX14_manyNow 100 = .ok (.aload_n 0, 1) := by decide +kernel
theorem dX14_manyNow_101 : decode cX14_manyNow 101 = .ok (.getfield 10, 3) := by decide +kernel
theorem dX14_manyNow_104 : decode cX14_manyNow 104 = .ok (.getfield 239, 3) := by decide +kernel
theorem dX14_manyNow_107 : decode cX14_manyNow 107 = .ok (.ireturn, 1) := by decide +kernel
theorem dX14_manyNow_108 : decode cX14_manyNow 108 = .ok (.aload_n 0, 1) := by decide +kernel
theorem dX14_manyNow_109 : decode cX14_manyNow 109 = .ok (.getfield 10, 3) := by decide +kernel
theorem dX14_manyNow_112 : decode cX14_manyNow 112 = .ok (.invokevirtual 240, 3) := by decide +kernel
theorem dX14_manyNow_115 : decode cX14_manyNow 115 = .ok (.ireturn, 1) := by decide +kernel
theorem dX14_manyNow_116 : decode cX14_manyNow 116 = .ok (.aload_n 0, 1) := by decide +kernel
theorem dX14_manyNow_117 : decode cX14_manyNow 117 = .ok (.getfield 10, 3) := by decide +kernel
theorem dX14_manyNow_120 : decode cX14_manyNow 120 = .ok (.getfield 242, 3) := by decide +kernel
theorem dX14_manyNow_123 : decode cX14_manyNow 123 = .ok (.ireturn, 1) := by decide +kernel
theorem dX14_manyNow_124 : decode cX14_manyNow 124 = .ok (.aload_n 0, 1) := by decide +kernel
theorem dX14_manyNow_125 : decode cX14_manyNow 125 = .ok (.getfield 10, 3) := by decide +kernel
theorem dX14_manyNow_128 : decode cX14_manyNow 128 = .ok (.getfield 40, 3) := by decide +kernel
theorem dX14_manyNow_131 : decode cX14_manyNow 131 = .ok (.invokevirtual 63, 3) := by decide +kernel
theorem dX14_manyNow_134 : decode cX14_manyNow 134 = .ok (.astore_n 3, 1) := by decide +kernel
theorem dX14_manyNow_135 : decode cX14_manyNow 135 = .ok (.aload_n 3, 1) := by decide +kernel
theorem dX14_manyNow_136 : decode cX14_manyNow 136 = .ok (.invokeinterface 67 1, 5) := by decide +kernel
theorem dX14_manyNow_141 : decode cX14_manyNow 141 = .ok (.ifCond .eq 36, 3) := by decide +kernel
theorem dX14_manyNow_144 : decode cX14_manyNow 144 = .ok (.aload_n 3, 1) := by decide +kernel
theorem dX14_manyNow_145 : decode cX14_manyNow 145 = .ok (.invokeinterface 73 1, 5) := by decide +kernel
theorem dX14_manyNow_150 : decode cX14_manyNow 150 = .ok (.checkcast 77, 3) := by decide +kernel
theorem dX14_manyNow_153 : decode cX14_manyNow 153 = .ok (.astore 4, 2) := by decide +kernel
theorem dX14_manyNow_155 : decode cX14_manyNow 155 = .ok (.iload_n 2, 1) := by decide +kernel
theorem dX14_manyNow_156 : decode cX14_manyNow 156 = .ok (.aload 4, 2) := by decide +kernel
theorem dX14_manyNow_158 : decode cX14_manyNow 158 = .ok (.getfield 79, 3) := by decide +kernel
theorem dX14_manyNow_161 : decode cX14_manyNow 161 = .ok (.iload_n 1, 1) := by decide +kernel
theorem dX14_manyNow_162 : decode cX14_manyNow 162 = .ok (.iconst 4, 1) := by decide +kernel
theorem dX14_manyNow_163 : decode cX14_manyNow 163 = .ok (.isub, 1) := by decide +kernel
theorem dX14_manyNow_164 : decode cX14_manyNow 164 = .ok (.if_icmp .ne 7, 3) := by decide +kernel
theorem dX14_manyNow_167 : decode cX14_manyNow 167 = .ok (.iconst 1, 1) := by decide +kernel
theorem dX14_manyNow_168 : decode cX14_manyNow 168 = .ok (.goto 4, 3) := by decide +kernel
theorem dX14_manyNow_171 : decode cX14_manyNow 171 = .ok (.iconst 0, 1) := by decide +kernel
theorem dX14_manyNow_172 : decode cX14_manyNow 172 = .ok (.iadd, 1) := by decide +kernel
theorem dX14_manyNow_173 : decode cX14_manyNow 173 = .ok (.istore_n 2, 1) := by decide +kernel
theorem dX14_manyNow_174 : decode cX14_manyNow 174 = .ok (.goto (-39), 3) := by decide +kernel
theorem dX14_manyNow_177 : decode cX14_manyNow 177 = .ok (.iload_n 2, 1) := by decide +kernel
theorem dX14_manyNow_178 : decode cX14_manyNow 178 = .ok (.ireturn, 1) := by decide +kernel
theorem dX14_many_0 : decode cX14_many 0 = .ok (.aload_n 0, 1) := by decide +kernel
theorem dX14_many_1 : decode cX14_many 1 = .ok (.iconst 0, 1) := by decide +kernel
theorem dX14_many_2 : decode cX14_many 2 = .ok (.putfield 16, 3) := by decide +kernel
theorem dX14_many_5 : decode cX14_many 5 = .ok (.iload_n 1, 1) := by decide +kernel
theorem dX14_many_6 : decode cX14_many 6 = .ok (.iconst 0, 1) := by decide +kernel
theorem dX14_many_7 : decode cX14_many 7 = .ok (.bipush 9, 2) := by decide +kernel
theorem dX14_many_9 : decode cX14_many 9 = .ok (.invokestatic 30, 3) := by decide +kernel
theorem dX14_many_12 : decode cX14_many 12 = .ok (.ifCond .eq 11, 3) := by decide +kernel
theorem dX14_many_15 : decode cX14_many 15 = .ok (.aload_n 0, 1) := by decide +kernel
theorem dX14_many_16 : decode cX14_many 16 = .ok (.iload_n 1, 1) := by decide +kernel
theorem dX14_many_17 : decode cX14_many 17 = .ok (.invokevirtual 245, 3) := by decide +kernel
theorem dX14_many_20 : decode cX14_many 20 = .ok (.goto 8, 3) := by decide +kernel
theorem dX14_many_23 : decode cX14_many 23 = .ok (.aload_n 0, 1) := by decide +kernel
theorem dX14_many_24 : decode cX14_many 24 = .ok (.iconst 1, 1) := by decide +kernel
theorem dX14_many_25 : decode cX14_many 25 = .ok (.invokevirtual 43, 3) := by decide +kernel
theorem dX14_many_28 : decode cX14_many 28 = .ok (.ireturn, 1) := by decide +kernel
theorem dX14_hitShare_0 : decode cX14_hitShare 0 = .ok (.aload_n 0, 1) := by decide +kernel
theorem dX14_hitShare_1 : decode cX14_hitShare 1 = .ok (.iconst 0, 1) := by decide +kernel
theorem dX14_hitShare_2 : decode cX14_hitShare 2 = .ok (.putfield 16, 3) := by decide +kernel
theorem dX14_hitShare_5 : decode cX14_hitShare 5 = .ok (.aload_n 0, 1) := by decide +kernel
theorem dX14_hitShare_6 : decode cX14_hitShare 6 = .ok (.getfield 10, 3) := by decide +kernel
theorem dX14_hitShare_9 : decode cX14_hitShare 9 = .ok (.getfield 239, 3) := by decide +kernel
theorem dX14_hitShare_12 : decode cX14_hitShare 12 = .ok (.aload_n 0, 1) := by decide +kernel
theorem dX14_hitShare_13 : decode cX14_hitShare 13 = .ok (.getfield 10, 3) := by decide +kernel
theorem dX14_hitShare_16 : decode cX14_hitShare 16 = .ok (.getfield 40, 3) := by decide +kernel
theorem dX14_hitShare_19 : decode cX14_hitShare 19 = .ok (.invokevirtual 24, 3) := by decide +kernel
theorem dX14_hitShare_22 : decode cX14_hitShare 22 = .ok (.iadd, 1) := by decide +kernel
theorem dX14_hitShare_23 : decode cX14_hitShare 23 = .ok (.istore_n 1, 1) := by decide +kernel
theorem dX14_hitShare_24 : decode cX14_hitShare 24 = .ok (.iload_n 1, 1) := by decide +kernel
theorem dX14_hitShare_25 : decode cX14_hitShare 25 = .ok (.ifCond .ne 7, 3) := by decide +kernel
theorem dX14_hitShare_28 : decode cX14_hitShare 28 = .ok (.dconst 0, 1) := by decide +kernel
theorem dX14_hitShare_29 : decode cX14_hitShare 29 = .ok (.goto 14, 3) := by decide +kernel
theorem dX14_hitShare_32 : decode cX14_hitShare 32 = .ok (.aload_n 0, 1) := by decide +kernel
theorem dX14_hitShare_33 : decode cX14_hitShare 33 = .ok (.getfield 10, 3) := by decide +kernel
theorem dX14_hitShare_36 : decode cX14_hitShare 36 = .ok (.getfield 239, 3) := by decide +kernel
theorem dX14_hitShare_39 : decode cX14_hitShare 39 = .ok (.i2d, 1) := by decide +kernel
theorem dX14_hitShare_40 : decode cX14_hitShare 40 = .ok (.iload_n 1, 1) := by decide +kernel
theorem dX14_hitShare_41 : decode cX14_hitShare 41 = .ok (.i2d, 1) := by decide +kernel
theorem dX14_hitShare_42 : decode cX14_hitShare 42 = .ok (.ddiv, 1) := by decide +kernel
theorem dX14_hitShare_43 : decode cX14_hitShare 43 = .ok (.dreturn, 1) := by decide +kernel
theorem dX14_wouldRunNow_0 : decode cX14_wouldRunNow 0 = .ok (.aload_n 0, 1) := by decide +kernel
theorem dX14_wouldRunNow_1 : decode cX14_wouldRunNow 1 = .ok (.getfield 10, 3) := by decide +kernel
theorem dX14_wouldRunNow_4 : decode cX14_wouldRunNow 4 = .ok (.invokevirtual 177, 3) := by decide +kernel
theorem dX14_wouldRunNow_7 : decode cX14_wouldRunNow 7 = .ok (.astore_n 3, 1) := by decide +kernel
theorem dX14_wouldRunNow_8 : decode cX14_wouldRunNow 8 = .ok (.aload_n 3, 1) := by decide +kernel
theorem dX14_wouldRunNow_9 : decode cX14_wouldRunNow 9 = .ok (.iload_n 1, 1) := by decide +kernel
theorem dX14_wouldRunNow_10 : decode cX14_wouldRunNow 10 = .ok (.iload_n 2, 1) := by decide +kernel
theorem dX14_wouldRunNow_11 : decode cX14_wouldRunNow 11 = .ok (.invokevirtual 181, 3) := by decide +kernel
theorem dX14_wouldRunNow_14 : decode cX14_wouldRunNow 14 = .ok (.iconst (-1), 1) := by decide +kernel
theorem dX14_wouldRunNow_15 : decode cX14_wouldRunNow 15 = .ok (.if_icmp .ne 7, 3) := by decide +kernel
theorem dX14_wouldRunNow_18 : decode cX14_wouldRunNow 18 = .ok (.iconst (-1), 1) := by decide +kernel
theorem dX14_wouldRunNow_19 : decode cX14_wouldRunNow 19 = .ok (.goto 15, 3) := by decide +kernel
theorem dX14_wouldRunNow_22 : decode cX14_wouldRunNow 22 = .ok (.aload_n 3, 1) := by decide +kernel
theorem dX14_wouldRunNow_23 : decode cX14_wouldRunNow 23 = .ok (.invokevirtual 240, 3) := by decide +kernel
theorem dX14_wouldRunNow_26 : decode cX14_wouldRunNow 26 = .ok (.aload_n 0, 1) := by decide +kernel
theorem dX14_wouldRunNow_27 : decode cX14_wouldRunNow 27 = .ok (.getfield 10, 3) := by decide +kernel
theorem dX14_wouldRunNow_30 : decode cX14_wouldRunNow 30 = .ok (.invokevirtual 240, 3) := by decide +kernel
theorem dX14_wouldRunNow_33 : decode cX14_wouldRunNow 33 = .ok (.isub, 1) := by decide +kernel
theorem dX14_wouldRunNow_34 : decode cX14_wouldRunNow 34 = .ok (.ireturn, 1) := by decide +kernel
theorem dX14_wouldRun_0 : decode cX14_wouldRun 0 = .ok (.aload_n 0, 1) := by decide +kernel
theorem dX14_wouldRun_1 : decode cX14_wouldRun 1 = .ok (.iconst 0, 1) := by decide +kernel
theorem dX14_wouldRun_2 : decode cX14_wouldRun 2 = .ok (.putfield 16, 3) := by decide +kernel
theorem dX14_wouldRun_5 : decode cX14_wouldRun 5 = .ok (.aload_n 0, 1) := by decide +kernel
theorem dX14_wouldRun_6 : decode cX14_wouldRun 6 = .ok (.iload_n 1, 1) := by decide +kernel
theorem dX14_wouldRun_7 : decode cX14_wouldRun 7 = .ok (.invokevirtual 159, 3) := by decide +kernel
theorem dX14_wouldRun_10 : decode cX14_wouldRun 10 = .ok (.ifCond .eq 20, 3) := by decide +kernel
theorem dX14_wouldRun_13 : decode cX14_wouldRun 13 = .ok (.aload_n 0, 1) := by decide +kernel
theorem dX14_wouldRun_14 : decode cX14_wouldRun 14 = .ok (.iload_n 2, 1) := by decide +kernel
theorem dX14_wouldRun_15 : decode cX14_wouldRun 15 = .ok (.invokevirtual 119, 3) := by decide +kernel
theorem dX14_wouldRun_18 : decode cX14_wouldRun 18 = .ok (.ifCond .eq 12, 3) := by decide +kernel
theorem dX14_wouldRun_21 : decode cX14_wouldRun 21 = .ok (.aload_n 0, 1) := by decide +kernel
theorem dX14_wouldRun_22 : decode cX14_wouldRun 22 = .ok (.iload_n 1, 1) := by decide +kernel
theorem dX14_wouldRun_23 : decode cX14_wouldRun 23 = .ok (.iload_n 2, 1) := by decide +kernel
theorem dX14_wouldRun_24 : decode cX14_wouldRun 24 = .ok (.invokevirtual 248, 3) := by decide +kernel
theorem dX14_wouldRun_27 : decode cX14_wouldRun 27 = .ok (.goto 8, 3) := by decide +kernel
theorem dX14_wouldRun_30 : decode cX14_wouldRun 30 = .ok (.aload_n 0, 1) := by decide +kernel
theorem dX14_wouldRun_31 : decode cX14_wouldRun 31 = .ok (.iconst 1, 1) := by decide +kernel
theorem dX14_wouldRun_32 : decode cX14_wouldRun 32 = .ok (.invokevirtual 43, 3) := by decide +kernel
theorem dX14_wouldRun_35 : decode cX14_wouldRun 35 = .ok (.ireturn, 1) := by decide +kernel
theorem dX14_wouldBeWrong_0 : decode cX14_wouldBeWrong 0 = .ok (.aload_n 0, 1) := by decide +kernel
theorem dX14_wouldBeWrong_1 : decode cX14_wouldBeWrong 1 = .ok (.aload_n 0, 1) := by decide +kernel
theorem dX14_wouldBeWrong_2 : decode cX14_wouldBeWrong 2 = .ok (.iload_n 1, 1) := by decide +kernel
theorem dX14_wouldBeWrong_3 : decode cX14_wouldBeWrong 3 = .ok (.invokevirtual 159, 3) := by decide +kernel
theorem dX14_wouldBeWrong_6 : decode cX14_wouldBeWrong 6 = .ok (.ifCond .eq 15, 3) := by decide +kernel
theorem dX14_wouldBeWrong_9 : decode cX14_wouldBeWrong 9 = .ok (.aload_n 0, 1) := by decide +kernel
theorem dX14_wouldBeWrong_10 : decode cX14_wouldBeWrong 10 = .ok (.iload_n 2, 1) := by decide +kernel
theorem dX14_wouldBeWrong_11 : decode cX14_wouldBeWrong 11 = .ok (.invokevirtual 119, 3) := by decide +kernel
theorem dX14_wouldBeWrong_14 : decode cX14_wouldBeWrong 14 = .ok (.ifCond .eq 7, 3) := by decide +kernel
theorem dX14_wouldBeWrong_17 : decode cX14_wouldBeWrong 17 = .ok (.iconst 0, 1) := by decide +kernel
theorem dX14_wouldBeWrong_18 : decode cX14_wouldBeWrong 18 = .ok (.goto 4, 3) := by decide +kernel
theorem dX14_wouldBeWrong_21 : decode cX14_wouldBeWrong 21 = .ok (.iconst 1, 1) := by decide +kernel
theorem dX14_wouldBeWrong_22 : decode cX14_wouldBeWrong 22 = .ok (.putfield 16, 3) := by decide +kernel
theorem dX14_wouldBeWrong_25 : decode cX14_wouldBeWrong 25 = .ok (.aload_n 0, 1) := by decide +kernel
theorem dX14_wouldBeWrong_26 : decode cX14_wouldBeWrong 26 = .ok (.getfield 16, 3) := by decide +kernel
theorem dX14_wouldBeWrong_29 : decode cX14_wouldBeWrong 29 = .ok (.ifCond .le 5, 3) := by decide +kernel
theorem dX14_wouldBeWrong_32 : decode cX14_wouldBeWrong 32 = .ok (.iconst 0, 1) := by decide +kernel
theorem dX14_wouldBeWrong_33 : decode cX14_wouldBeWrong 33 = .ok (.ireturn, 1) := by decide +kernel
theorem dX14_wouldBeWrong_34 : decode cX14_wouldBeWrong 34 = .ok (.aload_n 0, 1) := by decide +kernel
theorem dX14_wouldBeWrong_35 : decode cX14_wouldBeWrong 35 = .ok (.getfield 10, 3) := by decide +kernel
theorem dX14_wouldBeWrong_38 : decode cX14_wouldBeWrong 38 = .ok (.invokevirtual 177, 3) := by decide +kernel
theorem dX14_wouldBeWrong_41 : decode cX14_wouldBeWrong 41 = .ok (.iload_n 1, 1) := by decide +kernel
theorem dX14_wouldBeWrong_42 : decode cX14_wouldBeWrong 42 = .ok (.iload_n 2, 1) := by decide +kernel
theorem dX14_wouldBeWrong_43 : decode cX14_wouldBeWrong 43 = .ok (.invokevirtual 181, 3) := by decide +kernel
theorem dX14_wouldBeWrong_46 : decode cX14_wouldBeWrong 46 = .ok (.istore_n 3, 1) := by decide +kernel
theorem dX14_wouldBeWrong_47 : decode cX14_wouldBeWrong 47 = .ok (.iload_n 3, 1) := by decide +kernel
theorem dX14_wouldBeWrong_48 : decode cX14_wouldBeWrong 48 = .ok (.iconst (-1), 1) := by decide +kernel
theorem dX14_wouldBeWrong_49 : decode cX14_wouldBeWrong 49 = .ok (.if_icmp .eq 19, 3) := by decide +kernel
theorem dX14_wouldBeWrong_52 : decode cX14_wouldBeWrong 52 = .ok (.iload_n 3, 1) := by decide +kernel
theorem dX14_wouldBeWrong_53 : decode cX14_wouldBeWrong 53 = .ok (.aload_n 0, 1) := by decide +kernel
theorem dX14_wouldBeWrong_54 : decode cX14_wouldBeWrong 54 = .ok (.getfield 10, 3) := by decide +kernel
theorem dX14_wouldBeWrong_57 : decode cX14_wouldBeWrong 57 = .ok (.iload_n 2, 1) := by decide +kernel
theorem dX14_wouldBeWrong_58 : decode cX14_wouldBeWrong 58 = .ok (.invokevirtual 112, 3) := by decide +kernel
theorem dX14_wouldBeWrong_61 : decode cX14_wouldBeWrong 61 = .ok (.if_icmp .eq 7, 3) := by decide +kernel
theorem dX14_wouldBeWrong_64 : decode cX14_wouldBeWrong 64 = .ok (.iconst 1, 1) := by decide +kernel
theorem dX14_wouldBeWrong_65 : decode cX14_wouldBeWrong 65 = .ok (.goto 4, 3) := by decide +kernel
theorem dX14_wouldBeWrong_68 : decode cX14_wouldBeWrong 68 = .ok (.iconst 0, 1) := by decide +kernel
theorem dX14_wouldBeWrong_69 : decode cX14_wouldBeWrong 69 = .ok (.ireturn, 1) := by decide +kernel
theorem dX14_touchedNow_0 : decode cX14_touchedNow 0 = .ok (.iconst 0, 1) := by decide +kernel
theorem dX14_touchedNow_1 : decode cX14_touchedNow 1 = .ok (.istore_n 2, 1) := by decide +kernel
theorem dX14_touchedNow_2 : decode cX14_touchedNow 2 = .ok (.aload_n 0, 1) := by decide +kernel
theorem dX14_touchedNow_3 : decode cX14_touchedNow 3 = .ok (.getfield 10, 3) := by decide +kernel
theorem dX14_touchedNow_6 : decode cX14_touchedNow 6 = .ok (.getfield 20, 3) := by decide +kernel
theorem dX14_touchedNow_9 : decode cX14_touchedNow 9 = .ok (.invokevirtual 63, 3) := by decide +kernel
theorem dX14_touchedNow_12 : decode cX14_touchedNow 12 = .ok (.astore_n 3, 1) := by decide +kernel
theorem dX14_touchedNow_13 : decode cX14_touchedNow 13 = .ok (.aload_n 3, 1) := by decide +kernel
theorem dX14_touchedNow_14 : decode cX14_touchedNow 14 = .ok (.invokeinterface 67 1, 5) := by decide +kernel
theorem dX14_touchedNow_19 : decode cX14_touchedNow 19 = .ok (.ifCond .eq 53, 3) := by decide +kernel
theorem dX14_touchedNow_22 : decode cX14_touchedNow 22 = .ok (.aload_n 3, 1) := by decide +kernel
theorem dX14_touchedNow_23 : decode cX14_touchedNow 23 = .ok (.invokeinterface 73 1, 5) := by decide +kernel
theorem dX14_touchedNow_28 : decode cX14_touchedNow 28 = .ok (.checkcast 47, 3) := by decide +kernel
theorem dX14_touchedNow_31 : decode cX14_touchedNow 31 = .ok (.astore 4, 2) := by decide +kernel
theorem dX14_touchedNow_33 : decode cX14_touchedNow 33 = .ok (.iload_n 2, 1) := by decide +kernel
theorem dX14_touchedNow_34 : decode cX14_touchedNow 34 = .ok (.aload 4, 2) := by decide +kernel
theorem dX14_touchedNow_36 : decode cX14_touchedNow 36 = .ok (.getfield 96, 3) := by decide +kernel
theorem dX14_touchedNow_39 : decode cX14_touchedNow 39 = .ok (.iload_n 1, 1) := by decide +kernel
theorem dX14_touchedNow_40 : decode cX14_touchedNow 40 = .ok (.invokestatic 187, 3) := by decide +kernel
theorem dX14_touchedNow_43 : decode cX14_touchedNow 43 = .ok (.ifCond .ne 13, 3) := by decide +kernel
theorem dX14_touchedNow_46 : decode cX14_touchedNow 46 = .ok (.aload 4, 2) := by decide +kernel
theorem dX14_touchedNow_48 : decode cX14_touchedNow 48 = .ok (.getfield 99, 3) := by decide +kernel
theorem dX14_touchedNow_51 : decode cX14_touchedNow 51 = .ok (.iload_n 2, 1) := by decide +kernel
theorem dX14_touchedNow_52 : decode cX14_touchedNow 52 = .ok (.iand, 1) := by decide +kernel
theorem dX14_touchedNow_53 : decode cX14_touchedNow 53 = .ok (.ifCond .eq 13, 3) := by decide +kernel
theorem dX14_touchedNow_56 : decode cX14_touchedNow 56 = .ok (.iconst 1, 1) := by decide +kernel
theorem dX14_touchedNow_57 : decode cX14_touchedNow 57 = .ok (.aload 4, 2) := by decide +kernel
theorem dX14_touchedNow_59 : decode cX14_touchedNow 59 = .ok (.getfield 86, 3) := by decide +kernel
theorem dX14_touchedNow_62 : decode cX14_touchedNow 62 = .ok (.ishl, 1) := by decide +kernel
theorem dX14_touchedNow_63 : decode cX14_touchedNow 63 = .ok (.goto 4, 3) := by decide +kernel
theorem dX14_touchedNow_66 : decode cX14_touchedNow 66 = .ok (.iconst 0, 1) := by decide +kernel
theorem dX14_touchedNow_67 : decode cX14_touchedNow 67 = .ok (.ior, 1) := by decide +kernel
theorem dX14_touchedNow_68 : decode cX14_touchedNow 68 = .ok (.istore_n 2, 1) := by decide +kernel
theorem dX14_touchedNow_69 : decode cX14_touchedNow 69 = .ok (.goto (-56), 3) := by decide +kernel
theorem dX14_touchedNow_72 : decode cX14_touchedNow 72 = .ok (.iconst 0, 1) := by decide +kernel
theorem dX14_touchedNow_73 : decode cX14_touchedNow 73 = .ok (.istore_n 3, 1) := by decide +kernel
theorem dX14_touchedNow_74 : decode cX14_touchedNow 74 = .ok (.aload_n 0, 1) := by decide +kernel
theorem dX14_touchedNow_75 : decode cX14_touchedNow 75 = .ok (.getfield 10, 3) := by decide +kernel
theorem dX14_touchedNow_78 : decode cX14_touchedNow 78 = .ok (.getfield 40, 3) := by decide +kernel
theorem dX14_touchedNow_81 : decode cX14_touchedNow 81 = .ok (.invokevirtual 63, 3) := by decide +kernel
theorem dX14_touchedNow_84 : decode cX14_touchedNow 84 = .ok (.astore 4, 2) := by decide +kernel
theorem dX14_touchedNow_86 : decode cX14_touchedNow 86 = .ok (.aload 4, 2) := by decide +kernel
theorem dX14_touchedNow_88 : decode cX14_touchedNow 88 = .ok (.invokeinterface 67 1, 5) := by decide +kernel
theorem dX14_touchedNow_93 : decode cX14_touchedNow 93 = .ok (.ifCond .eq 49, 3) := by decide +kernel
theorem dX14_touchedNow_96 : decode cX14_touchedNow 96 = .ok (.aload 4, 2) := by decide +kernel
theorem dX14_touchedNow_98 : decode cX14_touchedNow 98 = .ok (.invokeinterface 73 1, 5) := by decide +kernel
theorem dX14_touchedNow_103 : decode cX14_touchedNow 103 = .ok (.checkcast 77, 3) := by decide +kernel
theorem dX14_touchedNow_106 : decode cX14_touchedNow 106 = .ok (.astore 5, 2) := by decide +kernel
theorem dX14_touchedNow_108 : decode cX14_touchedNow 108 = .ok (.iload_n 3, 1) := by decide +kernel
theorem dX14_touchedNow_109 : decode cX14_touchedNow 109 = .ok (.aload 5, 2) := by decide +kernel
theorem dX14_touchedNow_111 : decode cX14_touchedNow 111 = .ok (.getfield 79, 3) := by decide +kernel
theorem dX14_touchedNow_114 : decode cX14_touchedNow 114 = .ok (.ifCond .ne 22, 3) := by decide +kernel
theorem dX14_touchedNow_117 : decode cX14_touchedNow 117 = .ok (.iload_n 2, 1) := by decide +kernel
theorem dX14_touchedNow_118 : decode cX14_touchedNow 118 = .ok (.aload 5, 2) := by decide +kernel
theorem dX14_touchedNow_120 : decode cX14_touchedNow 120 = .ok (.getfield 82, 3) := by decide +kernel
theorem dX14_touchedNow_123 : decode cX14_touchedNow 123 = .ok (.getfield 86, 3) := by decide +kernel
theorem dX14_touchedNow_126 : decode cX14_touchedNow 126 = .ok (.invokestatic 187, 3) := by decide +kernel
theorem dX14_touchedNow_129 : decode cX14_touchedNow 129 = .ok (.ifCond .eq 7, 3) := by decide +kernel
theorem dX14_touchedNow_132 : decode cX14_touchedNow 132 = .ok (.iconst 1, 1) := by decide +kernel
theorem dX14_touchedNow_133 : decode cX14_touchedNow 133 = .ok (.goto 4, 3) := by decide +kernel
theorem dX14_touchedNow_136 : decode cX14_touchedNow 136 = .ok (.iconst 0, 1) := by decide +kernel
theorem dX14_touchedNow_137 : decode cX14_touchedNow 137 = .ok (.iadd, 1) := by decide +kernel
theorem dX14_touchedNow_138 : decode cX14_touchedNow 138 = .ok (.istore_n 3, 1) := by decide +kernel
theorem dX14_touchedNow_139 : decode cX14_touchedNow 139 = .ok (.goto (-53), 3) := by decide +kernel
theorem dX14_touchedNow_142 : decode cX14_touchedNow 142 = .ok (.iload_n 3, 1) := by decide +kernel
theorem dX14_touchedNow_143 : decode cX14_touchedNow 143 = .ok (.ireturn, 1) := by decide +kernel
theorem dX14_touched_0 : decode cX14_touched 0 = .ok (.aload_n 0, 1) := by decide +kernel
theorem dX14_touched_1 : decode cX14_touched 1 = .ok (.iconst 0, 1) := by decide +kernel
theorem dX14_touched_2 : decode cX14_touched 2 = .ok (.putfield 16, 3) := by decide +kernel
theorem dX14_touched_5 : decode cX14_touched 5 = .ok (.iload_n 1, 1) := by decide +kernel
theorem dX14_touched_6 : decode cX14_touched 6 = .ok (.iconst 0, 1) := by decide +kernel
theorem dX14_touched_7 : decode cX14_touched 7 = .ok (.bipush 7, 2) := by decide +kernel
theorem dX14_touched_9 : decode cX14_touched 9 = .ok (.invokestatic 30, 3) := by decide +kernel
theorem dX14_touched_12 : decode cX14_touched 12 = .ok (.ifCond .eq 11, 3) := by decide +kernel
theorem dX14_touched_15 : decode cX14_touched 15 = .ok (.aload_n 0, 1) := by decide +kernel
theorem dX14_touched_16 : decode cX14_touched 16 = .ok (.iload_n 1, 1) := by decide +kernel
theorem dX14_touched_17 : decode cX14_touched 17 = .ok (.invokevirtual 251, 3) := by decide +kernel
theorem dX14_touched_20 : decode cX14_touched 20 = .ok (.goto 8, 3) := by decide +kernel
theorem dX14_touched_23 : decode cX14_touched 23 = .ok (.aload_n 0, 1) := by decide +kernel
theorem dX14_touched_24 : decode cX14_touched 24 = .ok (.iconst 1, 1) := by decide +kernel
theorem dX14_touched_25 : decode cX14_touched 25 = .ok (.invokevirtual 43, 3) := by decide +kernel
theorem dX14_touched_28 : decode cX14_touched 28 = .ok (.ireturn, 1) := by decide +kernel
theorem dX14_wouldGo_0 : decode cX14_wouldGo 0 = .ok (.aload_n 0, 1) := by decide +kernel
theorem dX14_wouldGo_1 : decode cX14_wouldGo 1 = .ok (.iconst 0, 1) := by decide +kernel
theorem dX14_wouldGo_2 : decode cX14_wouldGo 2 = .ok (.putfield 16, 3) := by decide +kernel
theorem dX14_wouldGo_5 : decode cX14_wouldGo 5 = .ok (.aload_n 0, 1) := by decide +kernel
theorem dX14_wouldGo_6 : decode cX14_wouldGo 6 = .ok (.iload_n 1, 1) := by decide +kernel
theorem dX14_wouldGo_7 : decode cX14_wouldGo 7 = .ok (.invokevirtual 159, 3) := by decide +kernel
theorem dX14_wouldGo_10 : decode cX14_wouldGo 10 = .ok (.ifCond .ne 9, 3) := by decide +kernel
theorem dX14_wouldGo_13 : decode cX14_wouldGo 13 = .ok (.aload_n 0, 1) := by decide +kernel
theorem dX14_wouldGo_14 : decode cX14_wouldGo 14 = .ok (.iconst 1, 1) := by decide +kernel
theorem dX14_wouldGo_15 : decode cX14_wouldGo 15 = .ok (.invokevirtual 43, 3) := by decide +kernel
theorem dX14_wouldGo_18 : decode cX14_wouldGo 18 = .ok (.ireturn, 1) := by decide +kernel
theorem dX14_wouldGo_19 : decode cX14_wouldGo 19 = .ok (.iload_n 2, 1) := by decide +kernel
theorem dX14_wouldGo_20 : decode cX14_wouldGo 20 = .ok (.iconst 1, 1) := by decide +kernel
theorem dX14_wouldGo_21 : decode cX14_wouldGo 21 = .ok (.bipush 20, 2) := by decide +kernel
theorem dX14_wouldGo_23 : decode cX14_wouldGo 23 = .ok (.invokestatic 30, 3) := by decide +kernel
theorem dX14_wouldGo_26 : decode cX14_wouldGo 26 = .ok (.ifCond .ne 9, 3) := by decide +kernel
theorem dX14_wouldGo_29 : decode cX14_wouldGo 29 = .ok (.aload_n 0, 1) := by decide +kernel
theorem dX14_wouldGo_30 : decode cX14_wouldGo 30 = .ok (.iconst 2, 1) := by decide +kernel
theorem dX14_wouldGo_31 : decode cX14_wouldGo 31 = .ok (.invokevirtual 43, 3) := by decide +kernel
theorem dX14_wouldGo_34 : decode cX14_wouldGo 34 = .ok (.ireturn, 1) := by decide +kernel
theorem dX14_wouldGo_35 : decode cX14_wouldGo 35 = .ok (.aload_n 0, 1) := by decide +kernel
theorem dX14_wouldGo_36 : decode cX14_wouldGo 36 = .ok (.getfield 10, 3) := by decide +kernel
theorem dX14_wouldGo_39 : decode cX14_wouldGo 39 = .ok (.getfield 37, 3) := by decide +kernel
theorem dX14_wouldGo_42 : decode cX14_wouldGo 42 = .ok (.iload_n 1, 1) := by decide +kernel
theorem dX14_wouldGo_43 : decode cX14_wouldGo 43 = .ok (.invokevirtual 92, 3) := by decide +kernel
theorem dX14_wouldGo_46 : decode cX14_wouldGo 46 = .ok (.checkcast 153, 3) := by decide +kernel
theorem dX14_wouldGo_49 : decode cX14_wouldGo 49 = .ok (.getfield 156, 3) := by decide +kernel
theorem dX14_wouldGo_52 : decode cX14_wouldGo 52 = .ok (.istore_n 3, 1) := by decide +kernel
theorem dX14_wouldGo_53 : decode cX14_wouldGo 53 = .ok (.iload_n 2, 1) := by decide +kernel
theorem dX14_wouldGo_54 : decode cX14_wouldGo 54 = .ok (.iload_n 3, 1) := by decide +kernel
theorem dX14_wouldGo_55 : decode cX14_wouldGo 55 = .ok (.if_icmp .le 7, 3) := by decide +kernel
theorem dX14_wouldGo_58 : decode cX14_wouldGo 58 = .ok (.iconst 0, 1) := by decide +kernel
theorem dX14_wouldGo_59 : decode cX14_wouldGo 59 = .ok (.goto 17, 3) := by decide +kernel
theorem dX14_wouldGo_62 : decode cX14_wouldGo 62 = .ok (.aload_n 0, 1) := by decide +kernel
theorem dX14_wouldGo_63 : decode cX14_wouldGo 63 = .ok (.getfield 10, 3) := by decide +kernel
theorem dX14_wouldGo_66 : decode cX14_wouldGo 66 = .ok (.invokevirtual 177, 3) := by decide +kernel
theorem dX14_wouldGo_69 : decode cX14_wouldGo 69 = .ok (.iload_n 1, 1) := by decide +kernel
theorem dX14_wouldGo_70 : decode cX14_wouldGo 70 = .ok (.iload_n 3, 1) := by decide +kernel
theorem dX14_wouldGo_71 : decode cX14_wouldGo 71 = .ok (.iload_n 2, 1) := by decide +kernel
theorem dX14_wouldGo_72 : decode cX14_wouldGo 72 = .ok (.isub, 1) := by decide +kernel
theorem dX14_wouldGo_73 : decode cX14_wouldGo 73 = .ok (.invokevirtual 162, 3) := by decide +kernel
theorem dX14_wouldGo_76 : decode cX14_wouldGo 76 = .ok (.ireturn, 1) := by decide +kernel
theorem dX14_add_0 : decode cX14_add 0 = .ok (.aload_n 0, 1) := by decide +kernel
theorem dX14_add_1 : decode cX14_add 1 = .ok (.aload_n 0, 1) := by decide +kernel
theorem dX14_add_2 : decode cX14_add 2 = .ok (.getfield 254, 3) := by decide +kernel
theorem dX14_add_5 : decode cX14_add 5 = .ok (.ldc2_w 258, 3) := by decide +kernel
theorem dX14_add_8 : decode cX14_add 8 = .ok (.lmul, 1) := by decide +kernel
theorem dX14_add_9 : decode cX14_add 9 = .ok (.iload_n 1, 1) := by decide +kernel
theorem dX14_add_10 : decode cX14_add 10 = .ok (.i2l, 1) := by decide +kernel
theorem dX14_add_11 : decode cX14_add 11 = .ok (.ladd, 1) := by decide +kernel
theorem dX14_add_12 : decode cX14_add 12 = .ok (.putfield 254, 3) := by decide +kernel
theorem dX14_add_15 : decode cX14_add 15 = .ok (.return_, 1) := by decide +kernel
theorem dX14_digest_0 : decode cX14_digest 0 = .ok (.aload_n 0, 1) := by decide +kernel
theorem dX14_digest_1 : decode cX14_digest 1 = .ok (.iconst 0, 1) := by decide +kernel
theorem dX14_digest_2 : decode cX14_digest 2 = .ok (.putfield 16, 3) := by decide +kernel
theorem dX14_digest_5 : decode cX14_digest 5 = .ok (.aload_n 0, 1) := by decide +kernel
theorem dX14_digest_6 : decode cX14_digest 6 = .ok (.ldc2_w 260, 3) := by decide +kernel
theorem dX14_digest_9 : decode cX14_digest 9 = .ok (.putfield 254, 3) := by decide +kernel
theorem dX14_digest_12 : decode cX14_digest 12 = .ok (.iconst 0, 1) := by decide +kernel
theorem dX14_digest_13 : decode cX14_digest 13 = .ok (.istore_n 1, 1) := by decide +kernel
theorem dX14_digest_14 : decode cX14_digest 14 = .ok (.iload_n 1, 1) := by decide +kernel
theorem dX14_digest_15 : decode cX14_digest 15 = .ok (.bipush 10, 2) := by decide +kernel
theorem dX14_digest_17 : decode cX14_digest 17 = .ok (.if_icmp .ge 18, 3) := by decide +kernel
theorem dX14_digest_20 : decode cX14_digest 20 = .ok (.aload_n 0, 1) := by decide +kernel
theorem dX14_digest_21 : decode cX14_digest 21 = .ok (.aload_n 0, 1) := by decide +kernel
theorem dX14_digest_22 : decode cX14_digest 22 = .ok (.iload_n 1, 1) := by decide +kernel
theorem dX14_digest_23 : decode cX14_digest 23 = .ok (.invokevirtual 245, 3) := by decide +kernel
theorem dX14_digest_26 : decode cX14_digest 26 = .ok (.invokevirtual 262, 3) := by decide +kernel
theorem dX14_digest_29 : decode cX14_digest 29 = .ok (.iinc 1 1, 3) := by decide +kernel
theorem dX14_digest_32 : decode cX14_digest 32 = .ok (.goto (-18), 3) := by decide +kernel
theorem dX14_digest_35 : decode cX14_digest 35 = .ok (.iconst 0, 1) := by decide +kernel
theorem dX14_digest_36 : decode cX14_digest 36 = .ok (.istore_n 1, 1) := by decide +kernel
theorem dX14_digest_37 : decode cX14_digest 37 = .ok (.iload_n 1, 1) := by decide +kernel
theorem dX14_digest_38 : decode cX14_digest 38 = .ok (.aload_n 0, 1) := by decide +kernel
theorem dX14_digest_39 : decode cX14_digest 39 = .ok (.getfield 10, 3) := by decide +kernel
theorem dX14_digest_42 : decode cX14_digest 42 = .ok (.getfield 20, 3) := by decide +kernel
theorem dX14_digest_45 : decode cX14_digest 45 = .ok (.invokevirtual 24, 3) := by decide +kernel
theorem dX14_digest_48 : decode cX14_digest 48 = .ok (.if_icmp .ge 33, 3) := by decide +kernel
theorem dX14_digest_51 : decode cX14_digest 51 = .ok (.iconst 0, 1) := by decide +kernel
theorem dX14_digest_52 : decode cX14_digest 52 = .ok (.istore_n 2, 1) := by decide +kernel
theorem dX14_digest_53 : decode cX14_digest 53 = .ok (.iload_n 2, 1) := by decide +kernel
theorem dX14_digest_54 : decode cX14_digest 54 = .ok (.bipush 8, 2) := by decide +kernel
theorem dX14_digest_56 : decode cX14_digest 56 = .ok (.if_icmp .ge 19, 3) := by decide +kernel
theorem dX14_digest_59 : decode cX14_digest 59 = .ok (.aload_n 0, 1) := by decide +kernel
theorem dX14_digest_60 : decode cX14_digest 60 = .ok (.aload_n 0, 1) := by decide +kernel
theorem dX14_digest_61 : decode cX14_digest 61 = .ok (.iload_n 1, 1) := by decide +kernel
theorem dX14_digest_62 : decode cX14_digest 62 = .ok (.iload_n 2, 1) := by decide +kernel
theorem dX14_digest_63 : decode cX14_digest 63 = .ok (.invokevirtual 123, 3) := by decide +kernel
theorem dX14_digest_66 : decode cX14_digest 66 = .ok (.invokevirtual 262, 3) := by decide +kernel
theorem dX14_digest_69 : decode cX14_digest 69 = .ok (.iinc 2 1, 3) := by decide +kernel
theorem dX14_digest_72 : decode cX14_digest 72 = .ok (.goto (-19), 3) := by decide +kernel
theorem dX14_digest_75 : decode cX14_digest 75 = .ok (.iinc 1 1, 3) := by decide +kernel
theorem dX14_digest_78 : decode cX14_digest 78 = .ok (.goto (-41), 3) := by decide +kernel
theorem dX14_digest_81 : decode cX14_digest 81 = .ok (.iconst 0, 1) := by decide +kernel
theorem dX14_digest_82 : decode cX14_digest 82 = .ok (.istore_n 1, 1) := by decide +kernel
theorem dX14_digest_83 : decode cX14_digest 83 = .ok (.iload_n 1, 1) := by decide +kernel
theorem dX14_digest_84 : decode cX14_digest 84 = .ok (.aload_n 0, 1) := by decide +kernel
theorem dX14_digest_85 : decode cX14_digest 85 = .ok (.getfield 10, 3) := by decide +kernel
theorem dX14_digest_88 : decode cX14_digest 88 = .ok (.getfield 34, 3) := by decide +kernel
theorem dX14_digest_91 : decode cX14_digest 91 = .ok (.invokevirtual 24, 3) := by decide +kernel
theorem dX14_digest_94 : decode cX14_digest 94 = .ok (.if_icmp .ge 32, 3) := by decide +kernel
theorem dX14_digest_97 : decode cX14_digest 97 = .ok (.iconst 0, 1) := by decide +kernel
theorem dX14_digest_98 : decode cX14_digest 98 = .ok (.istore_n 2, 1) := by decide +kernel
theorem dX14_digest_99 : decode cX14_digest 99 = .ok (.iload_n 2, 1) := by decide +kernel
theorem dX14_digest_100 : decode cX14_digest 100 = .ok (.iconst 5, 1) := by decide +kernel
theorem dX14_digest_101 : decode cX14_digest 101 = .ok (.if_icmp .ge 19, 3) := by decide +kernel
theorem dX14_digest_104 : decode cX14_digest 104 = .ok (.aload_n 0, 1) := by decide +kernel
theorem dX14_digest_105 : decode cX14_digest 105 = .ok (.aload_n 0, 1) := by decide +kernel
theorem dX14_digest_106 : decode cX14_digest 106 = .ok (.iload_n 1, 1) := by decide +kernel
theorem dX14_digest_107 : decode cX14_digest 107 = .ok (.iload_n 2, 1) := by decide +kernel
theorem dX14_digest_108 : decode cX14_digest 108 = .ok (.invokevirtual 150, 3) := by decide +kernel
theorem dX14_digest_111 : decode cX14_digest 111 = .ok (.invokevirtual 262, 3) := by decide +kernel
theorem dX14_digest_114 : decode cX14_digest 114 = .ok (.iinc 2 1, 3) := by decide +kernel
theorem dX14_digest_117 : decode cX14_digest 117 = .ok (.goto (-18), 3) := by decide +kernel
theorem dX14_digest_120 : decode cX14_digest 120 = .ok (.iinc 1 1, 3) := by decide +kernel
theorem dX14_digest_123 : decode cX14_digest 123 = .ok (.goto (-40), 3) := by decide +kernel
theorem dX14_digest_126 : decode cX14_digest 126 = .ok (.iconst 0, 1) := by decide +kernel
theorem dX14_digest_127 : decode cX14_digest 127 = .ok (.istore_n 1, 1) := by decide +kernel
theorem dX14_digest_128 : decode cX14_digest 128 = .ok (.iload_n 1, 1) := by decide +kernel
theorem dX14_digest_129 : decode cX14_digest 129 = .ok (.aload_n 0, 1) := by decide +kernel
theorem dX14_digest_130 : decode cX14_digest 130 = .ok (.getfield 10, 3) := by decide +kernel
theorem dX14_digest_133 : decode cX14_digest 133 = .ok (.getfield 37, 3) := by decide +kernel
theorem dX14_digest_136 : decode cX14_digest 136 = .ok (.invokevirtual 24, 3) := by decide +kernel
theorem dX14_digest_139 : decode cX14_digest 139 = .ok (.if_icmp .ge 64, 3) := by decide +kernel
theorem dX14_digest_142 : decode cX14_digest 142 = .ok (.iconst 0, 1) := by decide +kernel
theorem dX14_digest_143 : decode cX14_digest 143 = .ok (.istore_n 2, 1) := by decide +kernel
theorem dX14_digest_144 : decode cX14_digest 144 = .ok (.iload_n 2, 1) := by decide +kernel
theorem dX14_digest_145 : decode cX14_digest 145 = .ok (.iconst 5, 1) := by decide +kernel
theorem dX14_digest_146 : decode cX14_digest 146 = .ok (.if_icmp .ge 19, 3) := by decide +kernel
theorem dX14_digest_149 : decode cX14_digest 149 = .ok (.aload_n 0, 1) := by decide +kernel
theorem dX14_digest_150 : decode cX14_digest 150 = .ok (.aload_n 0, 1) := by decide +kernel
theorem dX14_digest_151 : decode cX14_digest 151 = .ok (.iload_n 1, 1) := by decide +kernel
theorem dX14_digest_152 : decode cX14_digest 152 = .ok (.iload_n 2, 1) := by decide +kernel
theorem dX14_digest_153 : decode cX14_digest 153 = .ok (.invokevirtual 174, 3) := by decide +kernel
theorem dX14_digest_156 : decode cX14_digest 156 = .ok (.invokevirtual 262, 3) := by decide +kernel
theorem dX14_digest_159 : decode cX14_digest 159 = .ok (.iinc 2 1, 3) := by decide +kernel
theorem dX14_digest_162 : decode cX14_digest 162 = .ok (.goto (-18), 3) := by decide +kernel
theorem dX14_digest_165 : decode cX14_digest 165 = .ok (.iconst 0, 1) := by decide +kernel
theorem dX14_digest_166 : decode cX14_digest 166 = .ok (.istore_n 2, 1) := by decide +kernel
theorem dX14_digest_167 : decode cX14_digest 167 = .ok (.iload_n 2, 1) := by decide +kernel
theorem dX14_digest_168 : decode cX14_digest 168 = .ok (.aload_n 0, 1) := by decide +kernel
theorem dX14_digest_169 : decode cX14_digest 169 = .ok (.getfield 10, 3) := by decide +kernel
theorem dX14_digest_172 : decode cX14_digest 172 = .ok (.getfield 20, 3) := by decide +kernel
theorem dX14_digest_175 : decode cX14_digest 175 = .ok (.invokevirtual 24, 3) := by decide +kernel
theorem dX14_digest_178 : decode cX14_digest 178 = .ok (.if_icmp .ge 19, 3) := by decide +kernel
theorem dX14_digest_181 : decode cX14_digest 181 = .ok (.aload_n 0, 1) := by decide +kernel
theorem dX14_digest_182 : decode cX14_digest 182 = .ok (.aload_n 0, 1) := by decide +kernel
theorem dX14_digest_183 : decode cX14_digest 183 = .ok (.iload_n 1, 1) := by decide +kernel
theorem dX14_digest_184 : decode cX14_digest 184 = .ok (.iload_n 2, 1) := by decide +kernel
theorem dX14_digest_185 : decode cX14_digest 185 = .ok (.invokevirtual 248, 3) := by decide +kernel
theorem dX14_digest_188 : decode cX14_digest 188 = .ok (.invokevirtual 262, 3) := by decide +kernel
theorem dX14_digest_191 : decode cX14_digest 191 = .ok (.iinc 2 1, 3) := by decide +kernel
theorem dX14_digest_194 : decode cX14_digest 194 = .ok (.goto (-27), 3) := by decide +kernel
theorem dX14_digest_197 : decode cX14_digest 197 = .ok (.iinc 1 1, 3) := by decide +kernel
theorem dX14_digest_200 : decode cX14_digest 200 = .ok (.goto (-72), 3) := by decide +kernel
theorem dX14_digest_203 : decode cX14_digest 203 = .ok (.iconst 0, 1) := by decide +kernel
theorem dX14_digest_204 : decode cX14_digest 204 = .ok (.istore_n 1, 1) := by decide +kernel
theorem dX14_digest_205 : decode cX14_digest 205 = .ok (.iload_n 1, 1) := by decide +kernel
theorem dX14_digest_206 : decode cX14_digest 206 = .ok (.aload_n 0, 1) := by decide +kernel
theorem dX14_digest_207 : decode cX14_digest 207 = .ok (.getfield 10, 3) := by decide +kernel
theorem dX14_digest_210 : decode cX14_digest 210 = .ok (.getfield 40, 3) := by decide +kernel
theorem dX14_digest_213 : decode cX14_digest 213 = .ok (.invokevirtual 24, 3) := by decide +kernel
theorem dX14_digest_216 : decode cX14_digest 216 = .ok (.if_icmp .ge 33, 3) := by decide +kernel
theorem dX14_digest_219 : decode cX14_digest 219 = .ok (.iconst 0, 1) := by decide +kernel
theorem dX14_digest_220 : decode cX14_digest 220 = .ok (.istore_n 2, 1) := by decide +kernel
theorem dX14_digest_221 : decode cX14_digest 221 = .ok (.iload_n 2, 1) := by decide +kernel
theorem dX14_digest_222 : decode cX14_digest 222 = .ok (.bipush 8, 2) := by decide +kernel
theorem dX14_digest_224 : decode cX14_digest 224 = .ok (.if_icmp .ge 19, 3) := by decide +kernel
theorem dX14_digest_227 : decode cX14_digest 227 = .ok (.aload_n 0, 1) := by decide +kernel
theorem dX14_digest_228 : decode cX14_digest 228 = .ok (.aload_n 0, 1) := by decide +kernel
theorem dX14_digest_229 : decode cX14_digest 229 = .ok (.iload_n 1, 1) := by decide +kernel
theorem dX14_digest_230 : decode cX14_digest 230 = .ok (.iload_n 2, 1) := by decide +kernel
theorem dX14_digest_231 : decode cX14_digest 231 = .ok (.invokevirtual 236, 3) := by decide +kernel
theorem dX14_digest_234 : decode cX14_digest 234 = .ok (.invokevirtual 262, 3) := by decide +kernel
theorem dX14_digest_237 : decode cX14_digest 237 = .ok (.iinc 2 1, 3) := by decide +kernel
theorem dX14_digest_240 : decode cX14_digest 240 = .ok (.goto (-19), 3) := by decide +kernel
theorem dX14_digest_243 : decode cX14_digest 243 = .ok (.iinc 1 1, 3) := by decide +kernel
theorem dX14_digest_246 : decode cX14_digest 246 = .ok (.goto (-41), 3) := by decide +kernel
theorem dX14_digest_249 : decode cX14_digest 249 = .ok (.iconst 0, 1) := by decide +kernel
theorem dX14_digest_250 : decode cX14_digest 250 = .ok (.istore_n 1, 1) := by decide +kernel
theorem dX14_digest_251 : decode cX14_digest 251 = .ok (.iload_n 1, 1) := by decide +kernel
theorem dX14_digest_252 : decode cX14_digest 252 = .ok (.bipush 8, 2) := by decide +kernel
theorem dX14_digest_254 : decode cX14_digest 254 = .ok (.if_icmp .ge 18, 3) := by decide +kernel
theorem dX14_digest_257 : decode cX14_digest 257 = .ok (.aload_n 0, 1) := by decide +kernel
theorem dX14_digest_258 : decode cX14_digest 258 = .ok (.aload_n 0, 1) := by decide +kernel
theorem dX14_digest_259 : decode cX14_digest 259 = .ok (.iload_n 1, 1) := by decide +kernel
theorem dX14_digest_260 : decode cX14_digest 260 = .ok (.invokevirtual 251, 3) := by decide +kernel
theorem dX14_digest_263 : decode cX14_digest 263 = .ok (.invokevirtual 262, 3) := by decide +kernel
theorem dX14_digest_266 : decode cX14_digest 266 = .ok (.iinc 1 1, 3) := by decide +kernel
theorem dX14_digest_269 : decode cX14_digest 269 = .ok (.goto (-18), 3) := by decide +kernel
theorem dX14_digest_272 : decode cX14_digest 272 = .ok (.aload_n 0, 1) := by decide +kernel
theorem dX14_digest_273 : decode cX14_digest 273 = .ok (.getfield 254, 3) := by decide +kernel
theorem dX14_digest_276 : decode cX14_digest 276 = .ok (.lreturn, 1) := by decide +kernel
theorem dJ13_bitCount_95d88_0 : decode cJ13_bitCount_95d88 0 = .ok (.lload_n 0, 1) := by decide +kernel
theorem dJ13_bitCount_95d88_1 : decode cJ13_bitCount_95d88 1 = .ok (.lload_n 0, 1) := by decide +kernel
theorem dJ13_bitCount_95d88_2 : decode cJ13_bitCount_95d88 2 = .ok (.iconst 1, 1) := by decide +kernel
theorem dJ13_bitCount_95d88_3 : decode cJ13_bitCount_95d88 3 = .ok (.lushr, 1) := by decide +kernel
theorem dJ13_bitCount_95d88_4 : decode cJ13_bitCount_95d88 4 = .ok (.ldc2_w 314, 3) := by decide +kernel
theorem dJ13_bitCount_95d88_7 : decode cJ13_bitCount_95d88 7 = .ok (.land, 1) := by decide +kernel
theorem dJ13_bitCount_95d88_8 : decode cJ13_bitCount_95d88 8 = .ok (.lsub, 1) := by decide +kernel
theorem dJ13_bitCount_95d88_9 : decode cJ13_bitCount_95d88 9 = .ok (.lstore_n 0, 1) := by decide +kernel
theorem dJ13_bitCount_95d88_10 : decode cJ13_bitCount_95d88 10 = .ok (.lload_n 0, 1) := by decide +kernel
theorem dJ13_bitCount_95d88_11 : decode cJ13_bitCount_95d88 11 = .ok (.ldc2_w 316, 3) := by decide +kernel
theorem dJ13_bitCount_95d88_14 : decode cJ13_bitCount_95d88 14 = .ok (.land, 1) := by decide +kernel
theorem dJ13_bitCount_95d88_15 : decode cJ13_bitCount_95d88 15 = .ok (.lload_n 0, 1) := by decide +kernel
theorem dJ13_bitCount_95d88_16 : decode cJ13_bitCount_95d88 16 = .ok (.iconst 2, 1) := by decide +kernel
theorem dJ13_bitCount_95d88_17 : decode cJ13_bitCount_95d88 17 = .ok (.lushr, 1) := by decide +kernel
theorem dJ13_bitCount_95d88_18 : decode cJ13_bitCount_95d88 18 = .ok (.ldc2_w 316, 3) := by decide +kernel
theorem dJ13_bitCount_95d88_21 : decode cJ13_bitCount_95d88 21 = .ok (.land, 1) := by decide +kernel
theorem dJ13_bitCount_95d88_22 : decode cJ13_bitCount_95d88 22 = .ok (.ladd, 1) := by decide +kernel
theorem dJ13_bitCount_95d88_23 : decode cJ13_bitCount_95d88 23 = .ok (.lstore_n 0, 1) := by decide +kernel
theorem dJ13_bitCount_95d88_24 : decode cJ13_bitCount_95d88 24 = .ok (.lload_n 0, 1) := by decide +kernel
theorem dJ13_bitCount_95d88_25 : decode cJ13_bitCount_95d88 25 = .ok (.lload_n 0, 1) := by decide +kernel
theorem dJ13_bitCount_95d88_26 : decode cJ13_bitCount_95d88 26 = .ok (.iconst 4, 1) := by decide +kernel
theorem dJ13_bitCount_95d88_27 : decode cJ13_bitCount_95d88 27 = .ok (.lushr, 1) := by decide +kernel
theorem dJ13_bitCount_95d88_28 : decode cJ13_bitCount_95d88 28 = .ok (.ladd, 1) := by decide +kernel
theorem dJ13_bitCount_95d88_29 : decode cJ13_bitCount_95d88 29 = .ok (.ldc2_w 318, 3) := by decide +kernel
theorem dJ13_bitCount_95d88_32 : decode cJ13_bitCount_95d88 32 = .ok (.land, 1) := by decide +kernel
theorem dJ13_bitCount_95d88_33 : decode cJ13_bitCount_95d88 33 = .ok (.lstore_n 0, 1) := by decide +kernel
theorem dJ13_bitCount_95d88_34 : decode cJ13_bitCount_95d88 34 = .ok (.lload_n 0, 1) := by decide +kernel
theorem dJ13_bitCount_95d88_35 : decode cJ13_bitCount_95d88 35 = .ok (.lload_n 0, 1) := by decide +kernel
theorem dJ13_bitCount_95d88_36 : decode cJ13_bitCount_95d88 36 = .ok (.bipush 8, 2) := by decide +kernel
theorem dJ13_bitCount_95d88_38 : decode cJ13_bitCount_95d88 38 = .ok (.lushr, 1) := by decide +kernel
theorem dJ13_bitCount_95d88_39 : decode cJ13_bitCount_95d88 39 = .ok (.ladd, 1) := by decide +kernel
theorem dJ13_bitCount_95d88_40 : decode cJ13_bitCount_95d88 40 = .ok (.lstore_n 0, 1) := by decide +kernel
theorem dJ13_bitCount_95d88_41 : decode cJ13_bitCount_95d88 41 = .ok (.lload_n 0, 1) := by decide +kernel
theorem dJ13_bitCount_95d88_42 : decode cJ13_bitCount_95d88 42 = .ok (.lload_n 0, 1) := by decide +kernel
theorem dJ13_bitCount_95d88_43 : decode cJ13_bitCount_95d88 43 = .ok (.bipush 16, 2) := by decide +kernel
theorem dJ13_bitCount_95d88_45 : decode cJ13_bitCount_95d88 45 = .ok (.lushr, 1) := by decide +kernel
theorem dJ13_bitCount_95d88_46 : decode cJ13_bitCount_95d88 46 = .ok (.ladd, 1) := by decide +kernel
theorem dJ13_bitCount_95d88_47 : decode cJ13_bitCount_95d88 47 = .ok (.lstore_n 0, 1) := by decide +kernel
theorem dJ13_bitCount_95d88_48 : decode cJ13_bitCount_95d88 48 = .ok (.lload_n 0, 1) := by decide +kernel
theorem dJ13_bitCount_95d88_49 : decode cJ13_bitCount_95d88 49 = .ok (.lload_n 0, 1) := by decide +kernel
theorem dJ13_bitCount_95d88_50 : decode cJ13_bitCount_95d88 50 = .ok (.bipush 32, 2) := by decide +kernel
theorem dJ13_bitCount_95d88_52 : decode cJ13_bitCount_95d88 52 = .ok (.lushr, 1) := by decide +kernel
theorem dJ13_bitCount_95d88_53 : decode cJ13_bitCount_95d88 53 = .ok (.ladd, 1) := by decide +kernel
theorem dJ13_bitCount_95d88_54 : decode cJ13_bitCount_95d88 54 = .ok (.lstore_n 0, 1) := by decide +kernel
theorem dJ13_bitCount_95d88_55 : decode cJ13_bitCount_95d88 55 = .ok (.lload_n 0, 1) := by decide +kernel
theorem dJ13_bitCount_95d88_56 : decode cJ13_bitCount_95d88 56 = .ok (.l2i, 1) := by decide +kernel
theorem dJ13_bitCount_95d88_57 : decode cJ13_bitCount_95d88 57 = .ok (.bipush 127, 2) := by decide +kernel
theorem dJ13_bitCount_95d88_59 : decode cJ13_bitCount_95d88 59 = .ok (.iand, 1) := by decide +kernel
theorem dJ13_bitCount_95d88_60 : decode cJ13_bitCount_95d88 60 = .ok (.ireturn, 1) := by decide +kernel
theorem dJ9_max_7cf53_0 : decode cJ9_max_7cf53 0 = .ok (.iload_n 0, 1) := by decide +kernel
theorem dJ9_max_7cf53_1 : decode cJ9_max_7cf53 1 = .ok (.iload_n 1, 1) := by decide +kernel
theorem dJ9_max_7cf53_2 : decode cJ9_max_7cf53 2 = .ok (.if_icmp .lt 7, 3) := by decide +kernel
theorem dJ9_max_7cf53_5 : decode cJ9_max_7cf53 5 = .ok (.iload_n 0, 1) := by decide +kernel
theorem dJ9_max_7cf53_6 : decode cJ9_max_7cf53 6 = .ok (.goto 4, 3) := by decide +kernel
theorem dJ9_max_7cf53_9 : decode cJ9_max_7cf53 9 = .ok (.iload_n 1, 1) := by decide +kernel
theorem dJ9_max_7cf53_10 : decode cJ9_max_7cf53 10 = .ok (.ireturn, 1) := by decide +kernel
theorem dJ9_min_7cf53_0 : decode cJ9_min_7cf53 0 = .ok (.iload_n 0, 1) := by decide +kernel
theorem dJ9_min_7cf53_1 : decode cJ9_min_7cf53 1 = .ok (.iload_n 1, 1) := by decide +kernel
theorem dJ9_min_7cf53_2 : decode cJ9_min_7cf53 2 = .ok (.if_icmp .gt 7, 3) := by decide +kernel
theorem dJ9_min_7cf53_5 : decode cJ9_min_7cf53 5 = .ok (.iload_n 0, 1) := by decide +kernel
theorem dJ9_min_7cf53_6 : decode cJ9_min_7cf53 6 = .ok (.goto 4, 3) := by decide +kernel
theorem dJ9_min_7cf53_9 : decode cJ9_min_7cf53 9 = .ok (.iload_n 1, 1) := by decide +kernel
theorem dJ9_min_7cf53_10 : decode cJ9_min_7cf53 10 = .ok (.ireturn, 1) := by decide +kernel
theorem dJxa1e45_init_da8c8_0 : decode cJxa1e45_init_da8c8 0 = .ok (.aload_n 0, 1) := by decide +kernel
theorem dJxa1e45_init_da8c8_1 : decode cJxa1e45_init_da8c8 1 = .ok (.invokespecial 1, 3) := by decide +kernel
theorem dJxa1e45_init_da8c8_4 : decode cJxa1e45_init_da8c8 4 = .ok (.return_, 1) := by decide +kernel
theorem dJxc12de_init_da8c8_0 : decode cJxc12de_init_da8c8 0 = .ok (.aload_n 0, 1) := by decide +kernel
theorem dJxc12de_init_da8c8_1 : decode cJxc12de_init_da8c8 1 = .ok (.invokespecial 1, 3) := by decide +kernel
theorem dJxc12de_init_da8c8_4 : decode cJxc12de_init_da8c8 4 = .ok (.aload_n 0, 1) := by decide +kernel
theorem dJxc12de_init_da8c8_5 : decode cJxc12de_init_da8c8 5 = .ok (.iconst 0, 1) := by decide +kernel
theorem dJxc12de_init_da8c8_6 : decode cJxc12de_init_da8c8 6 = .ok (.putfield 7, 3) := by decide +kernel
theorem dJxc12de_init_da8c8_9 : decode cJxc12de_init_da8c8 9 = .ok (.return_, 1) := by decide +kernel
theorem dJx35411_init_45d68_0 : decode cJx35411_init_45d68 0 = .ok (.aload_n 0, 1) := by decide +kernel
theorem dJx35411_init_45d68_1 : decode cJx35411_init_45d68 1 = .ok (.aload_n 1, 1) := by decide +kernel
theorem dJx35411_init_45d68_2 : decode cJx35411_init_45d68 2 = .ok (.putfield 1, 3) := by decide +kernel
theorem dJx35411_init_45d68_5 : decode cJx35411_init_45d68 5 = .ok (.aload_n 0, 1) := by decide +kernel
theorem dJx35411_init_45d68_6 : decode cJx35411_init_45d68 6 = .ok (.invokespecial 7, 3) := by decide +kernel
theorem dJx35411_init_45d68_9 : decode cJx35411_init_45d68 9 = .ok (.aload_n 0, 1) := by decide +kernel
theorem dJx35411_init_45d68_10 : decode cJx35411_init_45d68 10 = .ok (.iconst (-1), 1) := by decide +kernel
theorem dJx35411_init_45d68_11 : decode cJx35411_init_45d68 11 = .ok (.putfield 13, 3) := by decide +kernel
theorem dJx35411_init_45d68_14 : decode cJx35411_init_45d68 14 = .ok (.aload_n 0, 1) := by decide +kernel
theorem dJx35411_init_45d68_15 : decode cJx35411_init_45d68 15 = .ok (.aload_n 0, 1) := by decide +kernel
theorem dJx35411_init_45d68_16 : decode cJx35411_init_45d68 16 = .ok (.getfield 1, 3) := by decide +kernel
theorem dJx35411_init_45d68_19 : decode cJx35411_init_45d68 19 = .ok (.getfield 17, 3) := by decide +kernel
theorem dJx35411_init_45d68_22 : decode cJx35411_init_45d68 22 = .ok (.putfield 22, 3) := by decide +kernel
theorem dJx35411_init_45d68_25 : decode cJx35411_init_45d68 25 = .ok (.return_, 1) := by decide +kernel
theorem dJx35411_hasNext_aae02_0 : decode cJx35411_hasNext_aae02 0 = .ok (.aload_n 0, 1) := by decide +kernel
theorem dJx35411_hasNext_aae02_1 : decode cJx35411_hasNext_aae02 1 = .ok (.getfield 25, 3) := by decide +kernel
theorem dJx35411_hasNext_aae02_4 : decode cJx35411_hasNext_aae02 4 = .ok (.aload_n 0, 1) := by decide +kernel
theorem dJx35411_hasNext_aae02_5 : decode cJx35411_hasNext_aae02 5 = .ok (.getfield 1, 3) := by decide +kernel
theorem dJx35411_hasNext_aae02_8 : decode cJx35411_hasNext_aae02 8 = .ok (.getfield 28, 3) := by decide +kernel
theorem dJx35411_hasNext_aae02_11 : decode cJx35411_hasNext_aae02 11 = .ok (.if_icmp .eq 7, 3) := by decide +kernel
theorem dJx35411_hasNext_aae02_14 : decode cJx35411_hasNext_aae02 14 = .ok (.iconst 1, 1) := by decide +kernel
theorem dJx35411_hasNext_aae02_15 : decode cJx35411_hasNext_aae02 15 = .ok (.goto 4, 3) := by decide +kernel
theorem dJx35411_hasNext_aae02_18 : decode cJx35411_hasNext_aae02 18 = .ok (.iconst 0, 1) := by decide +kernel
theorem dJx35411_hasNext_aae02_19 : decode cJx35411_hasNext_aae02 19 = .ok (.ireturn, 1) := by decide +kernel
theorem dJx35411_next_0502b_0 : decode cJx35411_next_0502b 0 = .ok (.aload_n 0, 1) := by decide +kernel
theorem dJx35411_next_0502b_1 : decode cJx35411_next_0502b 1 = .ok (.invokevirtual 31, 3) := by decide +kernel
theorem dJx35411_next_0502b_4 : decode cJx35411_next_0502b 4 = .ok (.aload_n 0, 1) := by decide +kernel
theorem dJx35411_next_0502b_5 : decode cJx35411_next_0502b 5 = .ok (.getfield 25, 3) := by decide +kernel
theorem dJx35411_next_0502b_8 : decode cJx35411_next_0502b 8 = .ok (.istore_n 1, 1) := by decide +kernel
theorem dJx35411_next_0502b_9 : decode cJx35411_next_0502b 9 = .ok (.iload_n 1, 1) := by decide +kernel
theorem dJx35411_next_0502b_10 : decode cJx35411_next_0502b 10 = .ok (.aload_n 0, 1) := by decide +kernel
theorem dJx35411_next_0502b_11 : decode cJx35411_next_0502b 11 = .ok (.getfield 1, 3) := by decide +kernel
theorem dJx35411_next_0502b_14 : decode cJx35411_next_0502b 14 = .ok (.getfield 28, 3) := by decide +kernel
theorem dJx35411_next_0502b_17 : decode cJx35411_next_0502b 17 = .ok (.if_icmp .lt 11, 3) := by decide +kernel
theorem dJx35411_next_0502b_20 : decode cJx35411_next_0502b 20 = .ok (.new 34, 3) := by decide +kernel
theorem dJx35411_next_0502b_23 : decode cJx35411_next_0502b 23 = .ok (.dup, 1) := by decide +kernel
theorem dJx35411_next_0502b_24 : decode cJx35411_next_0502b 24 = .ok (.invokespecial 36, 3) := by decide +kernel
theorem dJx35411_next_0502b_27 : decode cJx35411_next_0502b 27 = .ok (.athrow, 1) := by decide +kernel
theorem dJx35411_next_0502b_28 : decode cJx35411_next_0502b 28 = .ok (.aload_n 0, 1) := by decide +kernel
theorem dJx35411_next_0502b_29 : decode cJx35411_next_0502b 29 = .ok (.getfield 1, 3) := by decide +kernel
theorem dJx35411_next_0502b_32 : decode cJx35411_next_0502b 32 = .ok (.getfield 37, 3) := by decide +kernel
theorem dJx35411_next_0502b_35 : decode cJx35411_next_0502b 35 = .ok (.astore_n 2, 1) := by decide +kernel
theorem dJx35411_next_0502b_36 : decode cJx35411_next_0502b 36 = .ok (.iload_n 1, 1) := by decide +kernel
theorem dJx35411_next_0502b_37 : decode cJx35411_next_0502b 37 = .ok (.aload_n 2, 1) := by decide +kernel
theorem dJx35411_next_0502b_38 : decode cJx35411_next_0502b 38 = .ok (.arraylength, 1) := by decide +kernel
theorem dJx35411_next_0502b_39 : decode cJx35411_next_0502b 39 = .ok (.if_icmp .lt 11, 3) := by decide +kernel
theorem dJx35411_next_0502b_42 : decode cJx35411_next_0502b 42 = .ok (.new 41, 3) := by decide +kernel
theorem dJx35411_next_0502b_45 : decode cJx35411_next_0502b 45 = .ok (.dup, 1) := by decide +kernel
theorem dJx35411_next_0502b_46 : decode cJx35411_next_0502b 46 = .ok (.invokespecial 43, 3) := by decide +kernel
theorem dJx35411_next_0502b_49 : decode cJx35411_next_0502b 49 = .ok (.athrow, 1) := by decide +kernel
theorem dJx35411_next_0502b_50 : decode cJx35411_next_0502b 50 = .ok (.aload_n 0, 1) := by decide +kernel
theorem dJx35411_next_0502b_51 : decode cJx35411_next_0502b 51 = .ok (.iload_n 1, 1) := by decide +kernel
theorem dJx35411_next_0502b_52 : decode cJx35411_next_0502b 52 = .ok (.iconst 1, 1) := by decide +kernel
theorem dJx35411_next_0502b_53 : decode cJx35411_next_0502b 53 = .ok (.iadd, 1) := by decide +kernel
theorem dJx35411_next_0502b_54 : decode cJx35411_next_0502b 54 = .ok (.putfield 25, 3) := by decide +kernel
theorem dJx35411_next_0502b_57 : decode cJx35411_next_0502b 57 = .ok (.aload_n 2, 1) := by decide +kernel
theorem dJx35411_next_0502b_58 : decode cJx35411_next_0502b 58 = .ok (.aload_n 0, 1) := by decide +kernel
theorem dJx35411_next_0502b_59 : decode cJx35411_next_0502b 59 = .ok (.iload_n 1, 1) := by decide +kernel
theorem dJx35411_next_0502b_60 : decode cJx35411_next_0502b 60 = .ok (.dup_x1, 1) := by decide +kernel
theorem dJx35411_next_0502b_61 : decode cJx35411_next_0502b 61 = .ok (.putfield 13, 3) := by decide +kernel
theorem dJx35411_next_0502b_64 : decode cJx35411_next_0502b 64 = .ok (.aaload, 1) := by decide +kernel
theorem dJx35411_next_0502b_65 : decode cJx35411_next_0502b 65 = .ok (.areturn, 1) := by decide +kernel
theorem dJx35411_checkForComodification_da8c8_0 : decode cJx35411_checkForComodification_da8c8 0 = .ok (.aload_n 0, 1) := by decide +kernel
theorem dJx35411_checkForComodification_da8c8_1 : decode cJx35411_checkForComodification_da8c8 1 = .ok (.getfield 1, 3) := by decide +kernel
theorem dJx35411_checkForComodification_da8c8_4 : decode cJx35411_checkForComodification_da8c8 4 = .ok (.getfield 17, 3) := by decide +kernel
theorem dJx35411_checkForComodification_da8c8_7 : decode cJx35411_checkForComodification_da8c8 7 = .ok (.aload_n 0, 1) := by decide +kernel
theorem dJx35411_checkForComodification_da8c8_8 : decode cJx35411_checkForComodification_da8c8 8 = .ok (.getfield 22, 3) := by decide +kernel
theorem dJx35411_checkForComodification_da8c8_11 : decode cJx35411_checkForComodification_da8c8 11 = .ok (.if_icmp .eq 11, 3) := by decide +kernel
theorem dJx35411_checkForComodification_da8c8_14 : decode cJx35411_checkForComodification_da8c8 14 = .ok (.new 41, 3) := by decide +kernel
theorem dJx35411_checkForComodification_da8c8_17 : decode cJx35411_checkForComodification_da8c8 17 = .ok (.dup, 1) := by decide +kernel
theorem dJx35411_checkForComodification_da8c8_18 : decode cJx35411_checkForComodification_da8c8 18 = .ok (.invokespecial 43, 3) := by decide +kernel
theorem dJx35411_checkForComodification_da8c8_21 : decode cJx35411_checkForComodification_da8c8 21 = .ok (.athrow, 1) := by decide +kernel
theorem dJx35411_checkForComodification_da8c8_22 : decode cJx35411_checkForComodification_da8c8 22 = .ok (.return_, 1) := by decide +kernel
theorem dJx4a65c_init_da8c8_0 : decode cJx4a65c_init_da8c8 0 = .ok (.aload_n 0, 1) := by decide +kernel
theorem dJx4a65c_init_da8c8_1 : decode cJx4a65c_init_da8c8 1 = .ok (.invokespecial 1, 3) := by decide +kernel
theorem dJx4a65c_init_da8c8_4 : decode cJx4a65c_init_da8c8 4 = .ok (.aload_n 0, 1) := by decide +kernel
theorem dJx4a65c_init_da8c8_5 : decode cJx4a65c_init_da8c8 5 = .ok (.getstatic 39, 3) := by decide +kernel
theorem dJx4a65c_init_da8c8_8 : decode cJx4a65c_init_da8c8 8 = .ok (.putfield 9, 3) := by decide +kernel
theorem dJx4a65c_init_da8c8_11 : decode cJx4a65c_init_da8c8 11 = .ok (.return_, 1) := by decide +kernel
theorem dJx4a65c_grow_92f84_0 : decode cJx4a65c_grow_92f84 0 = .ok (.aload_n 0, 1) := by decide +kernel
theorem dJx4a65c_grow_92f84_1 : decode cJx4a65c_grow_92f84 1 = .ok (.getfield 9, 3) := by decide +kernel
theorem dJx4a65c_grow_92f84_4 : decode cJx4a65c_grow_92f84 4 = .ok (.arraylength, 1) := by decide +kernel
theorem dJx4a65c_grow_92f84_5 : decode cJx4a65c_grow_92f84 5 = .ok (.istore_n 2, 1) := by decide +kernel
theorem dJx4a65c_grow_92f84_6 : decode cJx4a65c_grow_92f84 6 = .ok (.iload_n 2, 1) := by decide +kernel
theorem dJx4a65c_grow_92f84_7 : decode cJx4a65c_grow_92f84 7 = .ok (.ifCond .gt 13, 3) := by decide +kernel
theorem dJx4a65c_grow_92f84_10 : decode cJx4a65c_grow_92f84 10 = .ok (.aload_n 0, 1) := by decide +kernel
theorem dJx4a65c_grow_92f84_11 : decode cJx4a65c_grow_92f84 11 = .ok (.getfield 9, 3) := by decide +kernel
theorem dJx4a65c_grow_92f84_14 : decode cJx4a65c_grow_92f84 14 = .ok (.getstatic 39, 3) := by decide +kernel
theorem dJx4a65c_grow_92f84_17 : decode cJx4a65c_grow_92f84 17 = .ok (.if_acmp .eq 28, 3) := by decide +kernel
theorem dJx4a65c_grow_92f84_20 : decode cJx4a65c_grow_92f84 20 = .ok (.iload_n 2, 1) := by decide +kernel
theorem dJx4a65c_grow_92f84_21 : decode cJx4a65c_grow_92f84 21 = .ok (.iload_n 1, 1) := by decide +kernel
theorem dJx4a65c_grow_92f84_22 : decode cJx4a65c_grow_92f84 22 = .ok (.iload_n 2, 1) := by decide +kernel
theorem dJx4a65c_grow_92f84_23 : decode cJx4a65c_grow_92f84 23 = .ok (.isub, 1) := by decide +kernel
theorem dJx4a65c_grow_92f84_24 : decode cJx4a65c_grow_92f84 24 = .ok (.iload_n 2, 1) := by decide +kernel
theorem dJx4a65c_grow_92f84_25 : decode cJx4a65c_grow_92f84 25 = .ok (.iconst 1, 1) := by decide +kernel
theorem dJx4a65c_grow_92f84_26 : decode cJx4a65c_grow_92f84 26 = .ok (.ishr, 1) := by decide +kernel
theorem dJx4a65c_grow_92f84_27 : decode cJx4a65c_grow_92f84 27 = .ok (.invokestatic 73, 3) := by decide +kernel
theorem dJx4a65c_grow_92f84_30 : decode cJx4a65c_grow_92f84 30 = .ok (.istore_n 3, 1) := by decide +kernel
theorem dJx4a65c_grow_92f84_31 : decode cJx4a65c_grow_92f84 31 = .ok (.aload_n 0, 1) := by decide +kernel
theorem dJx4a65c_grow_92f84_32 : decode cJx4a65c_grow_92f84 32 = .ok (.aload_n 0, 1) := by decide +kernel
theorem dJx4a65c_grow_92f84_33 : decode cJx4a65c_grow_92f84 33 = .ok (.getfield 9, 3) := by decide +kernel
theorem dJx4a65c_grow_92f84_36 : decode cJx4a65c_grow_92f84 36 = .ok (.iload_n 3, 1) := by decide +kernel
theorem dJx4a65c_grow_92f84_37 : decode cJx4a65c_grow_92f84 37 = .ok (.invokestatic 66, 3) := by decide +kernel
theorem dJx4a65c_grow_92f84_40 : decode cJx4a65c_grow_92f84 40 = .ok (.dup_x1, 1) := by decide +kernel
theorem dJx4a65c_grow_92f84_41 : decode cJx4a65c_grow_92f84 41 = .ok (.putfield 9, 3) := by decide +kernel
theorem dJx4a65c_grow_92f84_44 : decode cJx4a65c_grow_92f84 44 = .ok (.areturn, 1) := by decide +kernel
theorem dJx4a65c_grow_92f84_45 : decode cJx4a65c_grow_92f84 45 = .ok (.aload_n 0, 1) := by decide +kernel
theorem dJx4a65c_grow_92f84_46 : decode cJx4a65c_grow_92f84 46 = .ok (.bipush 10, 2) := by decide +kernel
theorem dJx4a65c_grow_92f84_48 : decode cJx4a65c_grow_92f84 48 = .ok (.iload_n 1, 1) := by decide +kernel
theorem dJx4a65c_grow_92f84_49 : decode cJx4a65c_grow_92f84 49 = .ok (.invokestatic 79, 3) := by decide +kernel
theorem dJx4a65c_grow_92f84_52 : decode cJx4a65c_grow_92f84 52 = .ok (.anewarray 7, 3) := by decide +kernel
theorem dJx4a65c_grow_92f84_55 : decode cJx4a65c_grow_92f84 55 = .ok (.dup_x1, 1) := by decide +kernel
theorem dJx4a65c_grow_92f84_56 : decode cJx4a65c_grow_92f84 56 = .ok (.putfield 9, 3) := by decide +kernel
theorem dJx4a65c_grow_92f84_59 : decode cJx4a65c_grow_92f84 59 = .ok (.areturn, 1) := by decide +kernel
theorem dJx4a65c_grow_d5877_0 : decode cJx4a65c_grow_d5877 0 = .ok (.aload_n 0, 1) := by decide +kernel
theorem dJx4a65c_grow_d5877_1 : decode cJx4a65c_grow_d5877 1 = .ok (.aload_n 0, 1) := by decide +kernel
theorem dJx4a65c_grow_d5877_2 : decode cJx4a65c_grow_d5877 2 = .ok (.getfield 48, 3) := by decide +kernel
theorem dJx4a65c_grow_d5877_5 : decode cJx4a65c_grow_d5877 5 = .ok (.iconst 1, 1) := by decide +kernel
theorem dJx4a65c_grow_d5877_6 : decode cJx4a65c_grow_d5877 6 = .ok (.iadd, 1) := by decide +kernel
theorem dJx4a65c_grow_d5877_7 : decode cJx4a65c_grow_d5877 7 = .ok (.invokevirtual 69, 3) := by decide +kernel
theorem dJx4a65c_grow_d5877_10 : decode cJx4a65c_grow_d5877 10 = .ok (.areturn, 1) := by decide +kernel
theorem dJx4a65c_size_8abf5_0 : decode cJx4a65c_size_8abf5 0 = .ok (.aload_n 0, 1) := by decide +kernel
theorem dJx4a65c_size_8abf5_1 : decode cJx4a65c_size_8abf5 1 = .ok (.getfield 48, 3) := by decide +kernel
theorem dJx4a65c_size_8abf5_4 : decode cJx4a65c_size_8abf5 4 = .ok (.ireturn, 1) := by decide +kernel
theorem dJx4a65c_elementData_915e3_0 : decode cJx4a65c_elementData_915e3 0 = .ok (.aload_n 0, 1) := by decide +kernel
theorem dJx4a65c_elementData_915e3_1 : decode cJx4a65c_elementData_915e3 1 = .ok (.getfield 9, 3) := by decide +kernel
theorem dJx4a65c_elementData_915e3_4 : decode cJx4a65c_elementData_915e3 4 = .ok (.iload_n 1, 1) := by decide +kernel
theorem dJx4a65c_elementData_915e3_5 : decode cJx4a65c_elementData_915e3 5 = .ok (.aaload, 1) := by decide +kernel
theorem dJx4a65c_elementData_915e3_6 : decode cJx4a65c_elementData_915e3 6 = .ok (.areturn, 1) := by decide +kernel
theorem dJx4a65c_get_915e3_0 : decode cJx4a65c_get_915e3 0 = .ok (.iload_n 1, 1) := by decide +kernel
theorem dJx4a65c_get_915e3_1 : decode cJx4a65c_get_915e3 1 = .ok (.aload_n 0, 1) := by decide +kernel
theorem dJx4a65c_get_915e3_2 : decode cJx4a65c_get_915e3 2 = .ok (.getfield 48, 3) := by decide +kernel
theorem dJx4a65c_get_915e3_5 : decode cJx4a65c_get_915e3 5 = .ok (.invokestatic 118, 3) := by decide +kernel
theorem dJx4a65c_get_915e3_8 : decode cJx4a65c_get_915e3 8 = .ok (.pop, 1) := by decide +kernel
theorem dJx4a65c_get_915e3_9 : decode cJx4a65c_get_915e3 9 = .ok (.aload_n 0, 1) := by decide +kernel
theorem dJx4a65c_get_915e3_10 : decode cJx4a65c_get_915e3 10 = .ok (.iload_n 1, 1) := by decide +kernel
theorem dJx4a65c_get_915e3_11 : decode cJx4a65c_get_915e3 11 = .ok (.invokevirtual 123, 3) := by decide +kernel
theorem dJx4a65c_get_915e3_14 : decode cJx4a65c_get_915e3 14 = .ok (.areturn, 1) := by decide +kernel
theorem dJx4a65c_add_72be8_0 : decode cJx4a65c_add_72be8 0 = .ok (.iload_n 3, 1) := by decide +kernel
theorem dJx4a65c_add_72be8_1 : decode cJx4a65c_add_72be8 1 = .ok (.aload_n 2, 1) := by decide +kernel
theorem dJx4a65c_add_72be8_2 : decode cJx4a65c_add_72be8 2 = .ok (.arraylength, 1) := by decide +kernel
theorem dJx4a65c_add_72be8_3 : decode cJx4a65c_add_72be8 3 = .ok (.if_icmp .ne 8, 3) := by decide +kernel
theorem dJx4a65c_add_72be8_6 : decode cJx4a65c_add_72be8 6 = .ok (.aload_n 0, 1) := by decide +kernel
theorem dJx4a65c_add_72be8_7 : decode cJx4a65c_add_72be8 7 = .ok (.invokevirtual 129, 3) := by decide +kernel
theorem dJx4a65c_add_72be8_10 : decode cJx4a65c_add_72be8 10 = .ok (.astore_n 2, 1) := by decide +kernel
theorem dJx4a65c_add_72be8_11 : decode cJx4a65c_add_72be8 11 = .ok (.aload_n 2, 1) := by decide +kernel
theorem dJx4a65c_add_72be8_12 : decode cJx4a65c_add_72be8 12 = .ok (.iload_n 3, 1) := by decide +kernel
theorem dJx4a65c_add_72be8_13 : decode cJx4a65c_add_72be8 13 = .ok (.aload_n 1, 1) := by decide +kernel
theorem dJx4a65c_add_72be8_14 : decode cJx4a65c_add_72be8 14 = .ok (.aastore, 1) := by decide +kernel
theorem dJx4a65c_add_72be8_15 : decode cJx4a65c_add_72be8 15 = .ok (.aload_n 0, 1) := by decide +kernel
theorem dJx4a65c_add_72be8_16 : decode cJx4a65c_add_72be8 16 = .ok (.iload_n 3, 1) := by decide +kernel
theorem dJx4a65c_add_72be8_17 : decode cJx4a65c_add_72be8 17 = .ok (.iconst 1, 1) := by decide +kernel
theorem dJx4a65c_add_72be8_18 : decode cJx4a65c_add_72be8 18 = .ok (.iadd, 1) := by decide +kernel
theorem dJx4a65c_add_72be8_19 : decode cJx4a65c_add_72be8 19 = .ok (.putfield 48, 3) := by decide +kernel
theorem dJx4a65c_add_72be8_22 : decode cJx4a65c_add_72be8 22 = .ok (.return_, 1) := by decide +kernel
theorem dJx4a65c_add_9ea2d_0 : decode cJx4a65c_add_9ea2d 0 = .ok (.aload_n 0, 1) := by decide +kernel
theorem dJx4a65c_add_9ea2d_1 : decode cJx4a65c_add_9ea2d 1 = .ok (.dup, 1) := by decide +kernel
theorem dJx4a65c_add_9ea2d_2 : decode cJx4a65c_add_9ea2d 2 = .ok (.getfield 63, 3) := by decide +kernel
theorem dJx4a65c_add_9ea2d_5 : decode cJx4a65c_add_9ea2d 5 = .ok (.iconst 1, 1) := by decide +kernel
theorem dJx4a65c_add_9ea2d_6 : decode cJx4a65c_add_9ea2d 6 = .ok (.iadd, 1) := by decide +kernel
theorem dJx4a65c_add_9ea2d_7 : decode cJx4a65c_add_9ea2d 7 = .ok (.putfield 63, 3) := by decide +kernel
theorem dJx4a65c_add_9ea2d_10 : decode cJx4a65c_add_9ea2d 10 = .ok (.aload_n 0, 1) := by decide +kernel
theorem dJx4a65c_add_9ea2d_11 : decode cJx4a65c_add_9ea2d 11 = .ok (.aload_n 1, 1) := by decide +kernel
theorem dJx4a65c_add_9ea2d_12 : decode cJx4a65c_add_9ea2d 12 = .ok (.aload_n 0, 1) := by decide +kernel
theorem dJx4a65c_add_9ea2d_13 : decode cJx4a65c_add_9ea2d 13 = .ok (.getfield 9, 3) := by decide +kernel
theorem dJx4a65c_add_9ea2d_16 : decode cJx4a65c_add_9ea2d 16 = .ok (.aload_n 0, 1) := by decide +kernel
theorem dJx4a65c_add_9ea2d_17 : decode cJx4a65c_add_9ea2d 17 = .ok (.getfield 48, 3) := by decide +kernel
theorem dJx4a65c_add_9ea2d_20 : decode cJx4a65c_add_9ea2d 20 = .ok (.invokevirtual 131, 3) := by decide +kernel
theorem dJx4a65c_add_9ea2d_23 : decode cJx4a65c_add_9ea2d 23 = .ok (.iconst 1, 1) := by decide +kernel
theorem dJx4a65c_add_9ea2d_24 : decode cJx4a65c_add_9ea2d 24 = .ok (.ireturn, 1) := by decide +kernel
theorem dJx4a65c_iterator_32c93_0 : decode cJx4a65c_iterator_32c93 0 = .ok (.new 267, 3) := by decide +kernel
theorem dJx4a65c_iterator_32c93_3 : decode cJx4a65c_iterator_32c93 3 = .ok (.dup, 1) := by decide +kernel
theorem dJx4a65c_iterator_32c93_4 : decode cJx4a65c_iterator_32c93 4 = .ok (.aload_n 0, 1) := by decide +kernel
theorem dJx4a65c_iterator_32c93_5 : decode cJx4a65c_iterator_32c93 5 = .ok (.invokespecial 269, 3) := by decide +kernel
theorem dJx4a65c_iterator_32c93_8 : decode cJx4a65c_iterator_32c93 8 = .ok (.areturn, 1) := by decide +kernel
theorem dJ7_copyOf_1904c_0 : decode cJ7_copyOf_1904c 0 = .ok (.aload_n 0, 1) := by decide +kernel
theorem dJ7_copyOf_1904c_1 : decode cJ7_copyOf_1904c 1 = .ok (.iload_n 1, 1) := by decide +kernel
theorem dJ7_copyOf_1904c_2 : decode cJ7_copyOf_1904c 2 = .ok (.aload_n 0, 1) := by decide +kernel
theorem dJ7_copyOf_1904c_3 : decode cJ7_copyOf_1904c 3 = .ok (.invokevirtual 86, 3) := by decide +kernel
theorem dJ7_copyOf_1904c_6 : decode cJ7_copyOf_1904c 6 = .ok (.invokestatic 300, 3) := by decide +kernel
theorem dJ7_copyOf_1904c_9 : decode cJ7_copyOf_1904c 9 = .ok (.areturn, 1) := by decide +kernel
theorem dJ7_copyOf_6403c_0 : decode cJ7_copyOf_6403c 0 = .ok (.aload_n 2, 1) := by decide +kernel
theorem dJ7_copyOf_6403c_1 : decode cJ7_copyOf_6403c 1 = .ok (.ldc 110, 2) := by decide +kernel
theorem dJ7_copyOf_6403c_3 : decode cJ7_copyOf_6403c 3 = .ok (.if_acmp .ne 10, 3) := by decide +kernel
theorem dJ7_copyOf_6403c_6 : decode cJ7_copyOf_6403c 6 = .ok (.iload_n 1, 1) := by decide +kernel
theorem dJ7_copyOf_6403c_7 : decode cJ7_copyOf_6403c 7 = .ok (.anewarray 2, 3) := by decide +kernel
theorem dJ7_copyOf_6403c_10 : decode cJ7_copyOf_6403c 10 = .ok (.goto 14, 3) := by decide +kernel
theorem dJ7_copyOf_6403c_13 : decode cJ7_copyOf_6403c 13 = .ok (.aload_n 2, 1) := by decide +kernel
theorem dJ7_copyOf_6403c_14 : decode cJ7_copyOf_6403c 14 = .ok (.invokevirtual 90, 3) := by decide +kernel
theorem dJ7_copyOf_6403c_17 : decode cJ7_copyOf_6403c 17 = .ok (.iload_n 1, 1) := by decide +kernel
theorem dJ7_copyOf_6403c_18 : decode cJ7_copyOf_6403c 18 = .ok (.invokestatic 95, 3) := by decide +kernel
theorem dJ7_copyOf_6403c_21 : decode cJ7_copyOf_6403c 21 = .ok (.checkcast 110, 3) := by decide +kernel
theorem dJ7_copyOf_6403c_24 : decode cJ7_copyOf_6403c 24 = .ok (.astore_n 3, 1) := by decide +kernel
theorem dJ7_copyOf_6403c_25 : decode cJ7_copyOf_6403c 25 = .ok (.aload_n 0, 1) := by decide +kernel
theorem dJ7_copyOf_6403c_26 : decode cJ7_copyOf_6403c 26 = .ok (.iconst 0, 1) := by decide +kernel
theorem dJ7_copyOf_6403c_27 : decode cJ7_copyOf_6403c 27 = .ok (.aload_n 3, 1) := by decide +kernel
theorem dJ7_copyOf_6403c_28 : decode cJ7_copyOf_6403c 28 = .ok (.iconst 0, 1) := by decide +kernel
theorem dJ7_copyOf_6403c_29 : decode cJ7_copyOf_6403c 29 = .ok (.aload_n 0, 1) := by decide +kernel
theorem dJ7_copyOf_6403c_30 : decode cJ7_copyOf_6403c 30 = .ok (.arraylength, 1) := by decide +kernel
theorem dJ7_copyOf_6403c_31 : decode cJ7_copyOf_6403c 31 = .ok (.iload_n 1, 1) := by decide +kernel
theorem dJ7_copyOf_6403c_32 : decode cJ7_copyOf_6403c 32 = .ok (.invokestatic 304, 3) := by decide +kernel
theorem dJ7_copyOf_6403c_35 : decode cJ7_copyOf_6403c 35 = .ok (.invokestatic 150, 3) := by decide +kernel
theorem dJ7_copyOf_6403c_38 : decode cJ7_copyOf_6403c 38 = .ok (.aload_n 3, 1) := by decide +kernel
theorem dJ7_copyOf_6403c_39 : decode cJ7_copyOf_6403c 39 = .ok (.areturn, 1) := by decide +kernel
theorem dJ15_checkIndex_7cf53_0 : decode cJ15_checkIndex_7cf53 0 = .ok (.iload_n 0, 1) := by decide +kernel
theorem dJ15_checkIndex_7cf53_1 : decode cJ15_checkIndex_7cf53 1 = .ok (.iload_n 1, 1) := by decide +kernel
theorem dJ15_checkIndex_7cf53_2 : decode cJ15_checkIndex_7cf53 2 = .ok (.aconst_null, 1) := by decide +kernel
theorem dJ15_checkIndex_7cf53_3 : decode cJ15_checkIndex_7cf53 3 = .ok (.invokestatic 105, 3) := by decide +kernel
theorem dJ15_checkIndex_7cf53_6 : decode cJ15_checkIndex_7cf53 6 = .ok (.ireturn, 1) := by decide +kernel
theorem dJ8_newLength_cabcc_0 : decode cJ8_newLength_cabcc 0 = .ok (.iload_n 0, 1) := by decide +kernel
theorem dJ8_newLength_cabcc_1 : decode cJ8_newLength_cabcc 1 = .ok (.iload_n 1, 1) := by decide +kernel
theorem dJ8_newLength_cabcc_2 : decode cJ8_newLength_cabcc 2 = .ok (.iload_n 2, 1) := by decide +kernel
theorem dJ8_newLength_cabcc_3 : decode cJ8_newLength_cabcc 3 = .ok (.invokestatic 194, 3) := by decide +kernel
theorem dJ8_newLength_cabcc_6 : decode cJ8_newLength_cabcc 6 = .ok (.iadd, 1) := by decide +kernel
theorem dJ8_newLength_cabcc_7 : decode cJ8_newLength_cabcc 7 = .ok (.istore_n 3, 1) := by decide +kernel
theorem dJ8_newLength_cabcc_8 : decode cJ8_newLength_cabcc 8 = .ok (.iconst 0, 1) := by decide +kernel
theorem dJ8_newLength_cabcc_9 : decode cJ8_newLength_cabcc 9 = .ok (.iload_n 3, 1) := by decide +kernel
theorem dJ8_newLength_cabcc_10 : decode cJ8_newLength_cabcc 10 = .ok (.if_icmp .ge 11, 3) := by decide +kernel
theorem dJ8_newLength_cabcc_13 : decode cJ8_newLength_cabcc 13 = .ok (.iload_n 3, 1) := by decide +kernel
theorem dJ8_newLength_cabcc_14 : decode cJ8_newLength_cabcc 14 = .ok (.ldc 200, 2) := by decide +kernel
theorem dJ8_newLength_cabcc_16 : decode cJ8_newLength_cabcc 16 = .ok (.if_icmp .gt 5, 3) := by decide +kernel
theorem dJ8_newLength_cabcc_19 : decode cJ8_newLength_cabcc 19 = .ok (.iload_n 3, 1) := by decide +kernel
theorem dJ8_newLength_cabcc_20 : decode cJ8_newLength_cabcc 20 = .ok (.ireturn, 1) := by decide +kernel
theorem dJ8_newLength_cabcc_21 : decode cJ8_newLength_cabcc 21 = .ok (.iload_n 0, 1) := by decide +kernel
theorem dJ8_newLength_cabcc_22 : decode cJ8_newLength_cabcc 22 = .ok (.iload_n 1, 1) := by decide +kernel
theorem dJ8_newLength_cabcc_23 : decode cJ8_newLength_cabcc 23 = .ok (.invokestatic 201, 3) := by decide +kernel
theorem dJ8_newLength_cabcc_26 : decode cJ8_newLength_cabcc 26 = .ok (.ireturn, 1) := by decide +kernel
theorem dJ8_hugeLength_7cf53_0 : decode cJ8_hugeLength_7cf53 0 = .ok (.iload_n 0, 1) := by decide +kernel
theorem dJ8_hugeLength_7cf53_1 : decode cJ8_hugeLength_7cf53 1 = .ok (.iload_n 1, 1) := by decide +kernel
theorem dJ8_hugeLength_7cf53_2 : decode cJ8_hugeLength_7cf53 2 = .ok (.iadd, 1) := by decide +kernel
theorem dJ8_hugeLength_7cf53_3 : decode cJ8_hugeLength_7cf53 3 = .ok (.istore_n 2, 1) := by decide +kernel
theorem dJ8_hugeLength_7cf53_4 : decode cJ8_hugeLength_7cf53 4 = .ok (.iload_n 2, 1) := by decide +kernel
theorem dJ8_hugeLength_7cf53_5 : decode cJ8_hugeLength_7cf53 5 = .ok (.ifCond .ge 44, 3) := by decide +kernel
theorem dJ8_hugeLength_7cf53_8 : decode cJ8_hugeLength_7cf53 8 = .ok (.new 204, 3) := by decide +kernel
theorem dJ8_hugeLength_7cf53_11 : decode cJ8_hugeLength_7cf53 11 = .ok (.dup, 1) := by decide +kernel
theorem dJ8_hugeLength_7cf53_12 : decode cJ8_hugeLength_7cf53 12 = .ok (.new 89, 3) := by decide +kernel
theorem dJ8_hugeLength_7cf53_15 : decode cJ8_hugeLength_7cf53 15 = .ok (.dup, 1) := by decide +kernel
theorem dJ8_hugeLength_7cf53_16 : decode cJ8_hugeLength_7cf53 16 = .ok (.invokespecial 91, 3) := by decide +kernel
theorem dJ8_hugeLength_7cf53_19 : decode cJ8_hugeLength_7cf53 19 = .ok (.ldc 206, 2) := by decide +kernel
theorem dJ8_hugeLength_7cf53_21 : decode cJ8_hugeLength_7cf53 21 = .ok (.invokevirtual 94, 3) := by decide +kernel
theorem dJ8_hugeLength_7cf53_24 : decode cJ8_hugeLength_7cf53 24 = .ok (.iload_n 0, 1) := by decide +kernel
theorem dJ8_hugeLength_7cf53_25 : decode cJ8_hugeLength_7cf53 25 = .ok (.invokevirtual 98, 3) := by decide +kernel
theorem dJ8_hugeLength_7cf53_28 : decode cJ8_hugeLength_7cf53 28 = .ok (.ldc 208, 2) := by decide +kernel
theorem dJ8_hugeLength_7cf53_30 : decode cJ8_hugeLength_7cf53 30 = .ok (.invokevirtual 94, 3) := by decide +kernel
theorem dJ8_hugeLength_7cf53_33 : decode cJ8_hugeLength_7cf53 33 = .ok (.iload_n 1, 1) := by decide +kernel
theorem dJ8_hugeLength_7cf53_34 : decode cJ8_hugeLength_7cf53 34 = .ok (.invokevirtual 98, 3) := by decide +kernel
theorem dJ8_hugeLength_7cf53_37 : decode cJ8_hugeLength_7cf53 37 = .ok (.ldc 210, 2) := by decide +kernel
theorem dJ8_hugeLength_7cf53_39 : decode cJ8_hugeLength_7cf53 39 = .ok (.invokevirtual 94, 3) := by decide +kernel
theorem dJ8_hugeLength_7cf53_42 : decode cJ8_hugeLength_7cf53 42 = .ok (.invokevirtual 101, 3) := by decide +kernel
theorem dJ8_hugeLength_7cf53_45 : decode cJ8_hugeLength_7cf53 45 = .ok (.invokespecial 212, 3) := by decide +kernel
theorem dJ8_hugeLength_7cf53_48 : decode cJ8_hugeLength_7cf53 48 = .ok (.athrow, 1) := by decide +kernel
theorem dJ8_hugeLength_7cf53_49 : decode cJ8_hugeLength_7cf53 49 = .ok (.iload_n 2, 1) := by decide +kernel
theorem dJ8_hugeLength_7cf53_50 : decode cJ8_hugeLength_7cf53 50 = .ok (.ldc 200, 2) := by decide +kernel
theorem dJ8_hugeLength_7cf53_52 : decode cJ8_hugeLength_7cf53 52 = .ok (.if_icmp .gt 6, 3) := by decide +kernel
theorem dJ8_hugeLength_7cf53_55 : decode cJ8_hugeLength_7cf53 55 = .ok (.ldc 200, 2) := by decide +kernel
theorem dJ8_hugeLength_7cf53_57 : decode cJ8_hugeLength_7cf53 57 = .ok (.ireturn, 1) := by decide +kernel
theorem dJ8_hugeLength_7cf53_58 : decode cJ8_hugeLength_7cf53 58 = .ok (.iload_n 2, 1) := by decide +kernel
theorem dJ8_hugeLength_7cf53_59 : decode cJ8_hugeLength_7cf53 59 = .ok (.ireturn, 1) := by decide +kernel
theorem dJ3_checkIndex_8e157_0 : decode cJ3_checkIndex_8e157 0 = .ok (.iload_n 0, 1) := by decide +kernel
theorem dJ3_checkIndex_8e157_1 : decode cJ3_checkIndex_8e157 1 = .ok (.ifCond .lt 8, 3) := by decide +kernel
theorem dJ3_checkIndex_8e157_4 : decode cJ3_checkIndex_8e157 4 = .ok (.iload_n 0, 1) := by decide +kernel
theorem dJ3_checkIndex_8e157_5 : decode cJ3_checkIndex_8e157 5 = .ok (.iload_n 1, 1) := by decide +kernel
theorem dJ3_checkIndex_8e157_6 : decode cJ3_checkIndex_8e157 6 = .ok (.if_icmp .lt 10, 3) := by decide +kernel
theorem dJ3_checkIndex_8e157_9 : decode cJ3_checkIndex_8e157 9 = .ok (.aload_n 2, 1) := by decide +kernel
theorem dJ3_checkIndex_8e157_10 : decode cJ3_checkIndex_8e157 10 = .ok (.iload_n 0, 1) := by decide +kernel
theorem dJ3_checkIndex_8e157_11 : decode cJ3_checkIndex_8e157 11 = .ok (.iload_n 1, 1) := by decide +kernel
theorem dJ3_checkIndex_8e157_12 : decode cJ3_checkIndex_8e157 12 = .ok (.invokestatic 95, 3) := by decide +kernel
theorem dJ3_checkIndex_8e157_15 : decode cJ3_checkIndex_8e157 15 = .ok (.athrow, 1) := by decide +kernel
theorem dJ3_checkIndex_8e157_16 : decode cJ3_checkIndex_8e157 16 = .ok (.iload_n 0, 1) := by decide +kernel
theorem dJ3_checkIndex_8e157_17 : decode cJ3_checkIndex_8e157 17 = .ok (.ireturn, 1) := by decide +kernel
