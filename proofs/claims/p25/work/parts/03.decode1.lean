theorem dX0_init_0 : decode cX0_init 0 = .ok (.aload_n 0, 1) := by decide +kernel
theorem dX0_init_1 : decode cX0_init 1 = .ok (.invokespecial 3, 3) := by decide +kernel
theorem dX0_init_4 : decode cX0_init 4 = .ok (.aload_n 0, 1) := by decide +kernel
theorem dX0_init_5 : decode cX0_init 5 = .ok (.new 9, 3) := by decide +kernel
theorem dX0_init_8 : decode cX0_init 8 = .ok (.dup, 1) := by decide +kernel
theorem dX0_init_9 : decode cX0_init 9 = .ok (.invokespecial 11, 3) := by decide +kernel
theorem dX0_init_12 : decode cX0_init 12 = .ok (.putfield 12, 3) := by decide +kernel
theorem dX0_init_15 : decode cX0_init 15 = .ok (.aload_n 0, 1) := by decide +kernel
theorem dX0_init_16 : decode cX0_init 16 = .ok (.new 18, 3) := by decide +kernel
theorem dX0_init_19 : decode cX0_init 19 = .ok (.dup, 1) := by decide +kernel
theorem dX0_init_20 : decode cX0_init 20 = .ok (.invokespecial 20, 3) := by decide +kernel
theorem dX0_init_23 : decode cX0_init 23 = .ok (.putfield 21, 3) := by decide +kernel
theorem dX0_init_26 : decode cX0_init 26 = .ok (.aload_n 0, 1) := by decide +kernel
theorem dX0_init_27 : decode cX0_init 27 = .ok (.new 25, 3) := by decide +kernel
theorem dX0_init_30 : decode cX0_init 30 = .ok (.dup, 1) := by decide +kernel
theorem dX0_init_31 : decode cX0_init 31 = .ok (.invokespecial 27, 3) := by decide +kernel
theorem dX0_init_34 : decode cX0_init 34 = .ok (.putfield 28, 3) := by decide +kernel
theorem dX0_init_37 : decode cX0_init 37 = .ok (.aload_n 0, 1) := by decide +kernel
theorem dX0_init_38 : decode cX0_init 38 = .ok (.new 32, 3) := by decide +kernel
theorem dX0_init_41 : decode cX0_init 41 = .ok (.dup, 1) := by decide +kernel
theorem dX0_init_42 : decode cX0_init 42 = .ok (.invokespecial 34, 3) := by decide +kernel
theorem dX0_init_45 : decode cX0_init 45 = .ok (.putfield 35, 3) := by decide +kernel
theorem dX0_init_48 : decode cX0_init 48 = .ok (.aload_n 0, 1) := by decide +kernel
theorem dX0_init_49 : decode cX0_init 49 = .ok (.new 39, 3) := by decide +kernel
theorem dX0_init_52 : decode cX0_init 52 = .ok (.dup, 1) := by decide +kernel
theorem dX0_init_53 : decode cX0_init 53 = .ok (.invokespecial 41, 3) := by decide +kernel
theorem dX0_init_56 : decode cX0_init 56 = .ok (.putfield 42, 3) := by decide +kernel
theorem dX0_init_59 : decode cX0_init 59 = .ok (.aload_n 0, 1) := by decide +kernel
theorem dX0_init_60 : decode cX0_init 60 = .ok (.new 46, 3) := by decide +kernel
theorem dX0_init_63 : decode cX0_init 63 = .ok (.dup, 1) := by decide +kernel
theorem dX0_init_64 : decode cX0_init 64 = .ok (.invokespecial 48, 3) := by decide +kernel
theorem dX0_init_67 : decode cX0_init 67 = .ok (.putfield 49, 3) := by decide +kernel
theorem dX0_init_70 : decode cX0_init 70 = .ok (.return_, 1) := by decide +kernel
theorem dX0_carryOut_0 : decode cX0_carryOut 0 = .ok (.aload_n 0, 1) := by decide +kernel
theorem dX0_carryOut_1 : decode cX0_carryOut 1 = .ok (.getfield 49, 3) := by decide +kernel
theorem dX0_carryOut_4 : decode cX0_carryOut 4 = .ok (.aload_n 0, 1) := by decide +kernel
theorem dX0_carryOut_5 : decode cX0_carryOut 5 = .ok (.getfield 12, 3) := by decide +kernel
theorem dX0_carryOut_8 : decode cX0_carryOut 8 = .ok (.aload_n 0, 1) := by decide +kernel
theorem dX0_carryOut_9 : decode cX0_carryOut 9 = .ok (.getfield 21, 3) := by decide +kernel
theorem dX0_carryOut_12 : decode cX0_carryOut 12 = .ok (.aload_n 0, 1) := by decide +kernel
theorem dX0_carryOut_13 : decode cX0_carryOut 13 = .ok (.getfield 28, 3) := by decide +kernel
theorem dX0_carryOut_16 : decode cX0_carryOut 16 = .ok (.aload_n 0, 1) := by decide +kernel
theorem dX0_carryOut_17 : decode cX0_carryOut 17 = .ok (.getfield 35, 3) := by decide +kernel
theorem dX0_carryOut_20 : decode cX0_carryOut 20 = .ok (.invokevirtual 53, 3) := by decide +kernel
theorem dX0_carryOut_23 : decode cX0_carryOut 23 = .ok (.aload_n 0, 1) := by decide +kernel
theorem dX0_carryOut_24 : decode cX0_carryOut 24 = .ok (.iload_n 1, 1) := by decide +kernel
theorem dX0_carryOut_25 : decode cX0_carryOut 25 = .ok (.iload_n 2, 1) := by decide +kernel
theorem dX0_carryOut_26 : decode cX0_carryOut 26 = .ok (.invokevirtual 57, 3) := by decide +kernel
theorem dX0_carryOut_29 : decode cX0_carryOut 29 = .ok (.istore_n 3, 1) := by decide +kernel
theorem dX0_carryOut_30 : decode cX0_carryOut 30 = .ok (.iload_n 3, 1) := by decide +kernel
theorem dX0_carryOut_31 : decode cX0_carryOut 31 = .ok (.ifCond .eq 19, 3) := by decide +kernel
theorem dX0_carryOut_34 : decode cX0_carryOut 34 = .ok (.aload_n 0, 1) := by decide +kernel
theorem dX0_carryOut_35 : decode cX0_carryOut 35 = .ok (.getfield 28, 3) := by decide +kernel
theorem dX0_carryOut_38 : decode cX0_carryOut 38 = .ok (.getfield 61, 3) := by decide +kernel
theorem dX0_carryOut_41 : decode cX0_carryOut 41 = .ok (.iload_n 1, 1) := by decide +kernel
theorem dX0_carryOut_42 : decode cX0_carryOut 42 = .ok (.dup2, 1) := by decide +kernel
theorem dX0_carryOut_43 : decode cX0_carryOut 43 = .ok (.iaload, 1) := by decide +kernel
theorem dX0_carryOut_44 : decode cX0_carryOut 44 = .ok (.iconst 1, 1) := by decide +kernel
theorem dX0_carryOut_45 : decode cX0_carryOut 45 = .ok (.iadd, 1) := by decide +kernel
theorem dX0_carryOut_46 : decode cX0_carryOut 46 = .ok (.iastore, 1) := by decide +kernel
theorem dX0_carryOut_47 : decode cX0_carryOut 47 = .ok (.goto 26, 3) := by decide +kernel
theorem dX0_carryOut_50 : decode cX0_carryOut 50 = .ok (.aload_n 0, 1) := by decide +kernel
theorem dX0_carryOut_51 : decode cX0_carryOut 51 = .ok (.getfield 49, 3) := by decide +kernel
theorem dX0_carryOut_54 : decode cX0_carryOut 54 = .ok (.aload_n 0, 1) := by decide +kernel
theorem dX0_carryOut_55 : decode cX0_carryOut 55 = .ok (.getfield 12, 3) := by decide +kernel
theorem dX0_carryOut_58 : decode cX0_carryOut 58 = .ok (.aload_n 0, 1) := by decide +kernel
theorem dX0_carryOut_59 : decode cX0_carryOut 59 = .ok (.getfield 21, 3) := by decide +kernel
theorem dX0_carryOut_62 : decode cX0_carryOut 62 = .ok (.aload_n 0, 1) := by decide +kernel
theorem dX0_carryOut_63 : decode cX0_carryOut 63 = .ok (.getfield 28, 3) := by decide +kernel
theorem dX0_carryOut_66 : decode cX0_carryOut 66 = .ok (.aload_n 0, 1) := by decide +kernel
theorem dX0_carryOut_67 : decode cX0_carryOut 67 = .ok (.getfield 35, 3) := by decide +kernel
theorem dX0_carryOut_70 : decode cX0_carryOut 70 = .ok (.invokevirtual 65, 3) := by decide +kernel
theorem dX0_carryOut_73 : decode cX0_carryOut 73 = .ok (.iload_n 3, 1) := by decide +kernel
theorem dX0_carryOut_74 : decode cX0_carryOut 74 = .ok (.ireturn, 1) := by decide +kernel
theorem dX0_runsNeeded_0 : decode cX0_runsNeeded 0 = .ok (.aload_n 0, 1) := by decide +kernel
theorem dX0_runsNeeded_1 : decode cX0_runsNeeded 1 = .ok (.getfield 49, 3) := by decide +kernel
theorem dX0_runsNeeded_4 : decode cX0_runsNeeded 4 = .ok (.aload_n 0, 1) := by decide +kernel
theorem dX0_runsNeeded_5 : decode cX0_runsNeeded 5 = .ok (.getfield 12, 3) := by decide +kernel
theorem dX0_runsNeeded_8 : decode cX0_runsNeeded 8 = .ok (.aload_n 0, 1) := by decide +kernel
theorem dX0_runsNeeded_9 : decode cX0_runsNeeded 9 = .ok (.getfield 21, 3) := by decide +kernel
theorem dX0_runsNeeded_12 : decode cX0_runsNeeded 12 = .ok (.aload_n 0, 1) := by decide +kernel
theorem dX0_runsNeeded_13 : decode cX0_runsNeeded 13 = .ok (.getfield 28, 3) := by decide +kernel
theorem dX0_runsNeeded_16 : decode cX0_runsNeeded 16 = .ok (.aload_n 0, 1) := by decide +kernel
theorem dX0_runsNeeded_17 : decode cX0_runsNeeded 17 = .ok (.getfield 35, 3) := by decide +kernel
theorem dX0_runsNeeded_20 : decode cX0_runsNeeded 20 = .ok (.invokevirtual 53, 3) := by decide +kernel
theorem dX0_runsNeeded_23 : decode cX0_runsNeeded 23 = .ok (.aload_n 0, 1) := by decide +kernel
theorem dX0_runsNeeded_24 : decode cX0_runsNeeded 24 = .ok (.getfield 21, 3) := by decide +kernel
theorem dX0_runsNeeded_27 : decode cX0_runsNeeded 27 = .ok (.invokevirtual 68, 3) := by decide +kernel
theorem dX0_runsNeeded_30 : decode cX0_runsNeeded 30 = .ok (.istore_n 3, 1) := by decide +kernel
theorem dX0_runsNeeded_31 : decode cX0_runsNeeded 31 = .ok (.aload_n 0, 1) := by decide +kernel
theorem dX0_runsNeeded_32 : decode cX0_runsNeeded 32 = .ok (.iload_n 1, 1) := by decide +kernel
theorem dX0_runsNeeded_33 : decode cX0_runsNeeded 33 = .ok (.iload_n 2, 1) := by decide +kernel
theorem dX0_runsNeeded_34 : decode cX0_runsNeeded 34 = .ok (.invokevirtual 57, 3) := by decide +kernel
theorem dX0_runsNeeded_37 : decode cX0_runsNeeded 37 = .ok (.ifCond .eq 15, 3) := by decide +kernel
theorem dX0_runsNeeded_40 : decode cX0_runsNeeded 40 = .ok (.aload_n 0, 1) := by decide +kernel
theorem dX0_runsNeeded_41 : decode cX0_runsNeeded 41 = .ok (.getfield 21, 3) := by decide +kernel
theorem dX0_runsNeeded_44 : decode cX0_runsNeeded 44 = .ok (.invokevirtual 68, 3) := by decide +kernel
theorem dX0_runsNeeded_47 : decode cX0_runsNeeded 47 = .ok (.iload_n 3, 1) := by decide +kernel
theorem dX0_runsNeeded_48 : decode cX0_runsNeeded 48 = .ok (.isub, 1) := by decide +kernel
theorem dX0_runsNeeded_49 : decode cX0_runsNeeded 49 = .ok (.goto 4, 3) := by decide +kernel
theorem dX0_runsNeeded_52 : decode cX0_runsNeeded 52 = .ok (.iconst (-1), 1) := by decide +kernel
theorem dX0_runsNeeded_53 : decode cX0_runsNeeded 53 = .ok (.istore 4, 2) := by decide +kernel
theorem dX0_runsNeeded_55 : decode cX0_runsNeeded 55 = .ok (.aload_n 0, 1) := by decide +kernel
theorem dX0_runsNeeded_56 : decode cX0_runsNeeded 56 = .ok (.getfield 49, 3) := by decide +kernel
theorem dX0_runsNeeded_59 : decode cX0_runsNeeded 59 = .ok (.aload_n 0, 1) := by decide +kernel
theorem dX0_runsNeeded_60 : decode cX0_runsNeeded 60 = .ok (.getfield 12, 3) := by decide +kernel
theorem dX0_runsNeeded_63 : decode cX0_runsNeeded 63 = .ok (.aload_n 0, 1) := by decide +kernel
theorem dX0_runsNeeded_64 : decode cX0_runsNeeded 64 = .ok (.getfield 21, 3) := by decide +kernel
theorem dX0_runsNeeded_67 : decode cX0_runsNeeded 67 = .ok (.aload_n 0, 1) := by decide +kernel
theorem dX0_runsNeeded_68 : decode cX0_runsNeeded 68 = .ok (.getfield 28, 3) := by decide +kernel
theorem dX0_runsNeeded_71 : decode cX0_runsNeeded 71 = .ok (.aload_n 0, 1) := by decide +kernel
theorem dX0_runsNeeded_72 : decode cX0_runsNeeded 72 = .ok (.getfield 35, 3) := by decide +kernel
theorem dX0_runsNeeded_75 : decode cX0_runsNeeded 75 = .ok (.invokevirtual 65, 3) := by decide +kernel
theorem dX0_runsNeeded_78 : decode cX0_runsNeeded 78 = .ok (.iload 4, 2) := by decide +kernel
theorem dX0_runsNeeded_80 : decode cX0_runsNeeded 80 = .ok (.ireturn, 1) := by decide +kernel
theorem dX0_printWouldDiffer_0 : decode cX0_printWouldDiffer 0 = .ok (.aload_n 0, 1) := by decide +kernel
theorem dX0_printWouldDiffer_1 : decode cX0_printWouldDiffer 1 = .ok (.getfield 49, 3) := by decide +kernel
theorem dX0_printWouldDiffer_4 : decode cX0_printWouldDiffer 4 = .ok (.aload_n 0, 1) := by decide +kernel
theorem dX0_printWouldDiffer_5 : decode cX0_printWouldDiffer 5 = .ok (.getfield 12, 3) := by decide +kernel
theorem dX0_printWouldDiffer_8 : decode cX0_printWouldDiffer 8 = .ok (.aload_n 0, 1) := by decide +kernel
theorem dX0_printWouldDiffer_9 : decode cX0_printWouldDiffer 9 = .ok (.getfield 21, 3) := by decide +kernel
theorem dX0_printWouldDiffer_12 : decode cX0_printWouldDiffer 12 = .ok (.aload_n 0, 1) := by decide +kernel
theorem dX0_printWouldDiffer_13 : decode cX0_printWouldDiffer 13 = .ok (.getfield 28, 3) := by decide +kernel
theorem dX0_printWouldDiffer_16 : decode cX0_printWouldDiffer 16 = .ok (.aload_n 0, 1) := by decide +kernel
theorem dX0_printWouldDiffer_17 : decode cX0_printWouldDiffer 17 = .ok (.getfield 35, 3) := by decide +kernel
theorem dX0_printWouldDiffer_20 : decode cX0_printWouldDiffer 20 = .ok (.invokevirtual 53, 3) := by decide +kernel
theorem dX0_printWouldDiffer_23 : decode cX0_printWouldDiffer 23 = .ok (.aload_n 0, 1) := by decide +kernel
theorem dX0_printWouldDiffer_24 : decode cX0_printWouldDiffer 24 = .ok (.iload_n 1, 1) := by decide +kernel
theorem dX0_printWouldDiffer_25 : decode cX0_printWouldDiffer 25 = .ok (.iload_n 2, 1) := by decide +kernel
theorem dX0_printWouldDiffer_26 : decode cX0_printWouldDiffer 26 = .ok (.invokevirtual 57, 3) := by decide +kernel
theorem dX0_printWouldDiffer_29 : decode cX0_printWouldDiffer 29 = .ok (.ifCond .eq 27, 3) := by decide +kernel
theorem dX0_printWouldDiffer_32 : decode cX0_printWouldDiffer 32 = .ok (.aload_n 0, 1) := by decide +kernel
theorem dX0_printWouldDiffer_33 : decode cX0_printWouldDiffer 33 = .ok (.getfield 42, 3) := by decide +kernel
theorem dX0_printWouldDiffer_36 : decode cX0_printWouldDiffer 36 = .ok (.getfield 72, 3) := by decide +kernel
theorem dX0_printWouldDiffer_39 : decode cX0_printWouldDiffer 39 = .ok (.iload_n 2, 1) := by decide +kernel
theorem dX0_printWouldDiffer_40 : decode cX0_printWouldDiffer 40 = .ok (.iaload, 1) := by decide +kernel
theorem dX0_printWouldDiffer_41 : decode cX0_printWouldDiffer 41 = .ok (.aload_n 0, 1) := by decide +kernel
theorem dX0_printWouldDiffer_42 : decode cX0_printWouldDiffer 42 = .ok (.getfield 12, 3) := by decide +kernel
theorem dX0_printWouldDiffer_45 : decode cX0_printWouldDiffer 45 = .ok (.iload_n 2, 1) := by decide +kernel
theorem dX0_printWouldDiffer_46 : decode cX0_printWouldDiffer 46 = .ok (.invokevirtual 75, 3) := by decide +kernel
theorem dX0_printWouldDiffer_49 : decode cX0_printWouldDiffer 49 = .ok (.if_icmp .eq 7, 3) := by decide +kernel
theorem dX0_printWouldDiffer_52 : decode cX0_printWouldDiffer 52 = .ok (.iconst 1, 1) := by decide +kernel
theorem dX0_printWouldDiffer_53 : decode cX0_printWouldDiffer 53 = .ok (.goto 4, 3) := by decide +kernel
theorem dX0_printWouldDiffer_56 : decode cX0_printWouldDiffer 56 = .ok (.iconst 0, 1) := by decide +kernel
theorem dX0_printWouldDiffer_57 : decode cX0_printWouldDiffer 57 = .ok (.istore_n 3, 1) := by decide +kernel
theorem dX0_printWouldDiffer_58 : decode cX0_printWouldDiffer 58 = .ok (.aload_n 0, 1) := by decide +kernel
theorem dX0_printWouldDiffer_59 : decode cX0_printWouldDiffer 59 = .ok (.getfield 49, 3) := by decide +kernel
theorem dX0_printWouldDiffer_62 : decode cX0_printWouldDiffer 62 = .ok (.aload_n 0, 1) := by decide +kernel
theorem dX0_printWouldDiffer_63 : decode cX0_printWouldDiffer 63 = .ok (.getfield 12, 3) := by decide +kernel
theorem dX0_printWouldDiffer_66 : decode cX0_printWouldDiffer 66 = .ok (.aload_n 0, 1) := by decide +kernel
theorem dX0_printWouldDiffer_67 : decode cX0_printWouldDiffer 67 = .ok (.getfield 21, 3) := by decide +kernel
theorem dX0_printWouldDiffer_70 : decode cX0_printWouldDiffer 70 = .ok (.aload_n 0, 1) := by decide +kernel
theorem dX0_printWouldDiffer_71 : decode cX0_printWouldDiffer 71 = .ok (.getfield 28, 3) := by decide +kernel
theorem dX0_printWouldDiffer_74 : decode cX0_printWouldDiffer 74 = .ok (.aload_n 0, 1) := by decide +kernel
theorem dX0_printWouldDiffer_75 : decode cX0_printWouldDiffer 75 = .ok (.getfield 35, 3) := by decide +kernel
theorem dX0_printWouldDiffer_78 : decode cX0_printWouldDiffer 78 = .ok (.invokevirtual 65, 3) := by decide +kernel
theorem dX0_printWouldDiffer_81 : decode cX0_printWouldDiffer 81 = .ok (.iload_n 3, 1) := by decide +kernel
theorem dX0_printWouldDiffer_82 : decode cX0_printWouldDiffer 82 = .ok (.ireturn, 1) := by decide +kernel
theorem dX0_goneFor_0 : decode cX0_goneFor 0 = .ok (.aload_n 0, 1) := by decide +kernel
theorem dX0_goneFor_1 : decode cX0_goneFor 1 = .ok (.getfield 28, 3) := by decide +kernel
theorem dX0_goneFor_4 : decode cX0_goneFor 4 = .ok (.getfield 79, 3) := by decide +kernel
theorem dX0_goneFor_7 : decode cX0_goneFor 7 = .ok (.iload_n 1, 1) := by decide +kernel
theorem dX0_goneFor_8 : decode cX0_goneFor 8 = .ok (.iaload, 1) := by decide +kernel
theorem dX0_goneFor_9 : decode cX0_goneFor 9 = .ok (.iload_n 2, 1) := by decide +kernel
theorem dX0_goneFor_10 : decode cX0_goneFor 10 = .ok (.isub, 1) := by decide +kernel
theorem dX0_goneFor_11 : decode cX0_goneFor 11 = .ok (.istore_n 3, 1) := by decide +kernel
theorem dX0_goneFor_12 : decode cX0_goneFor 12 = .ok (.iload_n 3, 1) := by decide +kernel
theorem dX0_goneFor_13 : decode cX0_goneFor 13 = .ok (.ifCond .ge 5, 3) := by decide +kernel
theorem dX0_goneFor_16 : decode cX0_goneFor 16 = .ok (.iconst 0, 1) := by decide +kernel
theorem dX0_goneFor_17 : decode cX0_goneFor 17 = .ok (.ireturn, 1) := by decide +kernel
theorem dX0_goneFor_18 : decode cX0_goneFor 18 = .ok (.aload_n 0, 1) := by decide +kernel
theorem dX0_goneFor_19 : decode cX0_goneFor 19 = .ok (.getfield 49, 3) := by decide +kernel
theorem dX0_goneFor_22 : decode cX0_goneFor 22 = .ok (.aload_n 0, 1) := by decide +kernel
theorem dX0_goneFor_23 : decode cX0_goneFor 23 = .ok (.getfield 12, 3) := by decide +kernel
theorem dX0_goneFor_26 : decode cX0_goneFor 26 = .ok (.aload_n 0, 1) := by decide +kernel
theorem dX0_goneFor_27 : decode cX0_goneFor 27 = .ok (.getfield 21, 3) := by decide +kernel
theorem dX0_goneFor_30 : decode cX0_goneFor 30 = .ok (.aload_n 0, 1) := by decide +kernel
theorem dX0_goneFor_31 : decode cX0_goneFor 31 = .ok (.getfield 28, 3) := by decide +kernel
theorem dX0_goneFor_34 : decode cX0_goneFor 34 = .ok (.aload_n 0, 1) := by decide +kernel
theorem dX0_goneFor_35 : decode cX0_goneFor 35 = .ok (.getfield 35, 3) := by decide +kernel
theorem dX0_goneFor_38 : decode cX0_goneFor 38 = .ok (.invokevirtual 53, 3) := by decide +kernel
theorem dX0_goneFor_41 : decode cX0_goneFor 41 = .ok (.aload_n 0, 1) := by decide +kernel
theorem dX0_goneFor_42 : decode cX0_goneFor 42 = .ok (.getfield 35, 3) := by decide +kernel
theorem dX0_goneFor_45 : decode cX0_goneFor 45 = .ok (.iload_n 1, 1) := by decide +kernel
theorem dX0_goneFor_46 : decode cX0_goneFor 46 = .ok (.iload_n 3, 1) := by decide +kernel
theorem dX0_goneFor_47 : decode cX0_goneFor 47 = .ok (.invokevirtual 82, 3) := by decide +kernel
theorem dX0_goneFor_50 : decode cX0_goneFor 50 = .ok (.istore 4, 2) := by decide +kernel
theorem dX0_goneFor_52 : decode cX0_goneFor 52 = .ok (.aload_n 0, 1) := by decide +kernel
theorem dX0_goneFor_53 : decode cX0_goneFor 53 = .ok (.getfield 49, 3) := by decide +kernel
theorem dX0_goneFor_56 : decode cX0_goneFor 56 = .ok (.aload_n 0, 1) := by decide +kernel
theorem dX0_goneFor_57 : decode cX0_goneFor 57 = .ok (.getfield 12, 3) := by decide +kernel
theorem dX0_goneFor_60 : decode cX0_goneFor 60 = .ok (.aload_n 0, 1) := by decide +kernel
theorem dX0_goneFor_61 : decode cX0_goneFor 61 = .ok (.getfield 21, 3) := by decide +kernel
theorem dX0_goneFor_64 : decode cX0_goneFor 64 = .ok (.aload_n 0, 1) := by decide +kernel
theorem dX0_goneFor_65 : decode cX0_goneFor 65 = .ok (.getfield 28, 3) := by decide +kernel
theorem dX0_goneFor_68 : decode cX0_goneFor 68 = .ok (.aload_n 0, 1) := by decide +kernel
theorem dX0_goneFor_69 : decode cX0_goneFor 69 = .ok (.getfield 35, 3) := by decide +kernel
theorem dX0_goneFor_72 : decode cX0_goneFor 72 = .ok (.invokevirtual 65, 3) := by decide +kernel
theorem dX0_goneFor_75 : decode cX0_goneFor 75 = .ok (.iload 4, 2) := by decide +kernel
theorem dX0_goneFor_77 : decode cX0_goneFor 77 = .ok (.ireturn, 1) := by decide +kernel
theorem dX0_attempt_0 : decode cX0_attempt 0 = .ok (.aload_n 0, 1) := by decide +kernel
theorem dX0_attempt_1 : decode cX0_attempt 1 = .ok (.getfield 12, 3) := by decide +kernel
theorem dX0_attempt_4 : decode cX0_attempt 4 = .ok (.iload_n 2, 1) := by decide +kernel
theorem dX0_attempt_5 : decode cX0_attempt 5 = .ok (.invokevirtual 86, 3) := by decide +kernel
theorem dX0_attempt_8 : decode cX0_attempt 8 = .ok (.istore_n 3, 1) := by decide +kernel
theorem dX0_attempt_9 : decode cX0_attempt 9 = .ok (.iconst 0, 1) := by decide +kernel
theorem dX0_attempt_10 : decode cX0_attempt 10 = .ok (.istore 4, 2) := by decide +kernel
theorem dX0_attempt_12 : decode cX0_attempt 12 = .ok (.iload 4, 2) := by decide +kernel
theorem dX0_attempt_14 : decode cX0_attempt 14 = .ok (.iload_n 2, 1) := by decide +kernel
theorem dX0_attempt_15 : decode cX0_attempt 15 = .ok (.if_icmp .gt 31, 3) := by decide +kernel
theorem dX0_attempt_18 : decode cX0_attempt 18 = .ok (.iload_n 3, 1) := by decide +kernel
theorem dX0_attempt_19 : decode cX0_attempt 19 = .ok (.i2l, 1) := by decide +kernel
theorem dX0_attempt_20 : decode cX0_attempt 20 = .ok (.iload 4, 2) := by decide +kernel
theorem dX0_attempt_22 : decode cX0_attempt 22 = .ok (.invokestatic 89, 3) := by decide +kernel
theorem dX0_attempt_25 : decode cX0_attempt 25 = .ok (.ifCond .eq 15, 3) := by decide +kernel
theorem dX0_attempt_28 : decode cX0_attempt 28 = .ok (.aload_n 0, 1) := by decide +kernel
theorem dX0_attempt_29 : decode cX0_attempt 29 = .ok (.iload_n 1, 1) := by decide +kernel
theorem dX0_attempt_30 : decode cX0_attempt 30 = .ok (.iload 4, 2) := by decide +kernel
theorem dX0_attempt_32 : decode cX0_attempt 32 = .ok (.invokevirtual 93, 3) := by decide +kernel
theorem dX0_attempt_35 : decode cX0_attempt 35 = .ok (.ifCond .ne 5, 3) := by decide +kernel
theorem dX0_attempt_38 : decode cX0_attempt 38 = .ok (.iconst 0, 1) := by decide +kernel
theorem dX0_attempt_39 : decode cX0_attempt 39 = .ok (.ireturn, 1) := by decide +kernel
theorem dX0_attempt_40 : decode cX0_attempt 40 = .ok (.iinc 4 1, 3) := by decide +kernel
theorem dX0_attempt_43 : decode cX0_attempt 43 = .ok (.goto (-31), 3) := by decide +kernel
theorem dX0_attempt_46 : decode cX0_attempt 46 = .ok (.iconst 1, 1) := by decide +kernel
theorem dX0_attempt_47 : decode cX0_attempt 47 = .ok (.ireturn, 1) := by decide +kernel
theorem dX0_obtain_0 : decode cX0_obtain 0 = .ok (.aload_n 0, 1) := by decide +kernel
theorem dX0_obtain_1 : decode cX0_obtain 1 = .ok (.getfield 35, 3) := by decide +kernel
theorem dX0_obtain_4 : decode cX0_obtain 4 = .ok (.aload_n 0, 1) := by decide +kernel
theorem dX0_obtain_5 : decode cX0_obtain 5 = .ok (.getfield 12, 3) := by decide +kernel
theorem dX0_obtain_8 : decode cX0_obtain 8 = .ok (.aload_n 0, 1) := by decide +kernel
theorem dX0_obtain_9 : decode cX0_obtain 9 = .ok (.getfield 42, 3) := by decide +kernel
theorem dX0_obtain_12 : decode cX0_obtain 12 = .ok (.iload_n 2, 1) := by decide +kernel
theorem dX0_obtain_13 : decode cX0_obtain 13 = .ok (.invokevirtual 96, 3) := by decide +kernel
theorem dX0_obtain_16 : decode cX0_obtain 16 = .ok (.istore_n 3, 1) := by decide +kernel
theorem dX0_obtain_17 : decode cX0_obtain 17 = .ok (.iload_n 3, 1) := by decide +kernel
theorem dX0_obtain_18 : decode cX0_obtain 18 = .ok (.iconst (-1), 1) := by decide +kernel
theorem dX0_obtain_19 : decode cX0_obtain 19 = .ok (.if_icmp .ne 67, 3) := by decide +kernel
theorem dX0_obtain_22 : decode cX0_obtain 22 = .ok (.aload_n 0, 1) := by decide +kernel
theorem dX0_obtain_23 : decode cX0_obtain 23 = .ok (.getfield 21, 3) := by decide +kernel
theorem dX0_obtain_26 : decode cX0_obtain 26 = .ok (.iconst (-1), 1) := by decide +kernel
theorem dX0_obtain_27 : decode cX0_obtain 27 = .ok (.invokevirtual 100, 3) := by decide +kernel
theorem dX0_obtain_30 : decode cX0_obtain 30 = .ok (.istore 4, 2) := by decide +kernel
theorem dX0_obtain_32 : decode cX0_obtain 32 = .ok (.iload 4, 2) := by decide +kernel
theorem dX0_obtain_34 : decode cX0_obtain 34 = .ok (.iconst (-1), 1) := by decide +kernel
theorem dX0_obtain_35 : decode cX0_obtain 35 = .ok (.if_icmp .ne 5, 3) := by decide +kernel
theorem dX0_obtain_38 : decode cX0_obtain 38 = .ok (.iconst 0, 1) := by decide +kernel
theorem dX0_obtain_39 : decode cX0_obtain 39 = .ok (.ireturn, 1) := by decide +kernel
theorem dX0_obtain_40 : decode cX0_obtain 40 = .ok (.aload_n 0, 1) := by decide +kernel
theorem dX0_obtain_41 : decode cX0_obtain 41 = .ok (.getfield 21, 3) := by decide +kernel
theorem dX0_obtain_44 : decode cX0_obtain 44 = .ok (.iload 4, 2) := by decide +kernel
theorem dX0_obtain_46 : decode cX0_obtain 46 = .ok (.aload_n 0, 1) := by decide +kernel
theorem dX0_obtain_47 : decode cX0_obtain 47 = .ok (.getfield 12, 3) := by decide +kernel
theorem dX0_obtain_50 : decode cX0_obtain 50 = .ok (.getfield 103, 3) := by decide +kernel
theorem dX0_obtain_53 : decode cX0_obtain 53 = .ok (.iload_n 2, 1) := by decide +kernel
theorem dX0_obtain_54 : decode cX0_obtain 54 = .ok (.iaload, 1) := by decide +kernel
theorem dX0_obtain_55 : decode cX0_obtain 55 = .ok (.aload_n 0, 1) := by decide +kernel
theorem dX0_obtain_56 : decode cX0_obtain 56 = .ok (.getfield 12, 3) := by decide +kernel
theorem dX0_obtain_59 : decode cX0_obtain 59 = .ok (.iload_n 2, 1) := by decide +kernel
theorem dX0_obtain_60 : decode cX0_obtain 60 = .ok (.aload_n 0, 1) := by decide +kernel
theorem dX0_obtain_61 : decode cX0_obtain 61 = .ok (.getfield 42, 3) := by decide +kernel
theorem dX0_obtain_64 : decode cX0_obtain 64 = .ok (.getfield 72, 3) := by decide +kernel
theorem dX0_obtain_67 : decode cX0_obtain 67 = .ok (.invokevirtual 106, 3) := by decide +kernel
theorem dX0_obtain_70 : decode cX0_obtain 70 = .ok (.invokevirtual 110, 3) := by decide +kernel
theorem dX0_obtain_73 : decode cX0_obtain 73 = .ok (.istore 5, 2) := by decide +kernel
theorem dX0_obtain_75 : decode cX0_obtain 75 = .ok (.aload_n 0, 1) := by decide +kernel
theorem dX0_obtain_76 : decode cX0_obtain 76 = .ok (.iload_n 1, 1) := by decide +kernel
theorem dX0_obtain_77 : decode cX0_obtain 77 = .ok (.iload_n 2, 1) := by decide +kernel
theorem dX0_obtain_78 : decode cX0_obtain 78 = .ok (.iload 4, 2) := by decide +kernel
theorem dX0_obtain_80 : decode cX0_obtain 80 = .ok (.iload 5, 2) := by decide +kernel
theorem dX0_obtain_82 : decode cX0_obtain 82 = .ok (.invokevirtual 114, 3) := by decide +kernel
theorem dX0_obtain_85 : decode cX0_obtain 85 = .ok (.ireturn, 1) := by decide +kernel
theorem dX0_obtain_86 : decode cX0_obtain 86 = .ok (.aload_n 0, 1) := by decide +kernel
theorem dX0_obtain_87 : decode cX0_obtain 87 = .ok (.getfield 35, 3) := by decide +kernel
theorem dX0_obtain_90 : decode cX0_obtain 90 = .ok (.getfield 118, 3) := by decide +kernel
theorem dX0_obtain_93 : decode cX0_obtain 93 = .ok (.iload_n 3, 1) := by decide +kernel
theorem dX0_obtain_94 : decode cX0_obtain 94 = .ok (.dup2, 1) := by decide +kernel
theorem dX0_obtain_95 : decode cX0_obtain 95 = .ok (.iaload, 1) := by decide +kernel
theorem dX0_obtain_96 : decode cX0_obtain 96 = .ok (.iconst 1, 1) := by decide +kernel
theorem dX0_obtain_97 : decode cX0_obtain 97 = .ok (.iadd, 1) := by decide +kernel
theorem dX0_obtain_98 : decode cX0_obtain 98 = .ok (.iastore, 1) := by decide +kernel
theorem dX0_obtain_99 : decode cX0_obtain 99 = .ok (.aload_n 0, 1) := by decide +kernel
theorem dX0_obtain_100 : decode cX0_obtain 100 = .ok (.getfield 28, 3) := by decide +kernel
theorem dX0_obtain_103 : decode cX0_obtain 103 = .ok (.getfield 121, 3) := by decide +kernel
theorem dX0_obtain_106 : decode cX0_obtain 106 = .ok (.iload_n 1, 1) := by decide +kernel
theorem dX0_obtain_107 : decode cX0_obtain 107 = .ok (.dup2, 1) := by decide +kernel
theorem dX0_obtain_108 : decode cX0_obtain 108 = .ok (.iaload, 1) := by decide +kernel
theorem dX0_obtain_109 : decode cX0_obtain 109 = .ok (.aload_n 0, 1) := by decide +kernel
theorem dX0_obtain_110 : decode cX0_obtain 110 = .ok (.getfield 12, 3) := by decide +kernel
theorem dX0_obtain_113 : decode cX0_obtain 113 = .ok (.getfield 103, 3) := by decide +kernel
theorem dX0_obtain_116 : decode cX0_obtain 116 = .ok (.iload_n 2, 1) := by decide +kernel
theorem dX0_obtain_117 : decode cX0_obtain 117 = .ok (.iaload, 1) := by decide +kernel
theorem dX0_obtain_118 : decode cX0_obtain 118 = .ok (.iadd, 1) := by decide +kernel
theorem dX0_obtain_119 : decode cX0_obtain 119 = .ok (.iastore, 1) := by decide +kernel
theorem dX0_obtain_120 : decode cX0_obtain 120 = .ok (.aload_n 0, 1) := by decide +kernel
theorem dX0_obtain_121 : decode cX0_obtain 121 = .ok (.invokevirtual 124, 3) := by decide +kernel
theorem dX0_obtain_124 : decode cX0_obtain 124 = .ok (.ifCond .eq 28, 3) := by decide +kernel
theorem dX0_obtain_127 : decode cX0_obtain 127 = .ok (.aload_n 0, 1) := by decide +kernel
theorem dX0_obtain_128 : decode cX0_obtain 128 = .ok (.iload_n 3, 1) := by decide +kernel
theorem dX0_obtain_129 : decode cX0_obtain 129 = .ok (.iload_n 2, 1) := by decide +kernel
theorem dX0_obtain_130 : decode cX0_obtain 130 = .ok (.invokevirtual 128, 3) := by decide +kernel
theorem dX0_obtain_133 : decode cX0_obtain 133 = .ok (.iconst 2, 1) := by decide +kernel
theorem dX0_obtain_134 : decode cX0_obtain 134 = .ok (.if_icmp .ne 18, 3) := by decide +kernel
theorem dX0_obtain_137 : decode cX0_obtain 137 = .ok (.aload_n 0, 1) := by decide +kernel
theorem dX0_obtain_138 : decode cX0_obtain 138 = .ok (.iload_n 1, 1) := by decide +kernel
theorem dX0_obtain_139 : decode cX0_obtain 139 = .ok (.iload_n 2, 1) := by decide +kernel
theorem dX0_obtain_140 : decode cX0_obtain 140 = .ok (.aload_n 0, 1) := by decide +kernel
theorem dX0_obtain_141 : decode cX0_obtain 141 = .ok (.getfield 131, 3) := by decide +kernel
theorem dX0_obtain_144 : decode cX0_obtain 144 = .ok (.aload_n 0, 1) := by decide +kernel
theorem dX0_obtain_145 : decode cX0_obtain 145 = .ok (.getfield 135, 3) := by decide +kernel
theorem dX0_obtain_148 : decode cX0_obtain 148 = .ok (.invokevirtual 114, 3) := by decide +kernel
theorem dX0_obtain_151 : decode cX0_obtain 151 = .ok (.ireturn, 1) := by decide +kernel
theorem dX0_obtain_152 : decode cX0_obtain 152 = .ok (.aload_n 0, 1) := by decide +kernel
theorem dX0_obtain_153 : decode cX0_obtain 153 = .ok (.getfield 42, 3) := by decide +kernel
theorem dX0_obtain_156 : decode cX0_obtain 156 = .ok (.getfield 72, 3) := by decide +kernel
theorem dX0_obtain_159 : decode cX0_obtain 159 = .ok (.iload_n 2, 1) := by decide +kernel
theorem dX0_obtain_160 : decode cX0_obtain 160 = .ok (.aload_n 0, 1) := by decide +kernel
theorem dX0_obtain_161 : decode cX0_obtain 161 = .ok (.getfield 35, 3) := by decide +kernel
theorem dX0_obtain_164 : decode cX0_obtain 164 = .ok (.getfield 138, 3) := by decide +kernel
theorem dX0_obtain_167 : decode cX0_obtain 167 = .ok (.iload_n 3, 1) := by decide +kernel
theorem dX0_obtain_168 : decode cX0_obtain 168 = .ok (.iaload, 1) := by decide +kernel
theorem dX0_obtain_169 : decode cX0_obtain 169 = .ok (.iastore, 1) := by decide +kernel
theorem dX0_obtain_170 : decode cX0_obtain 170 = .ok (.aload_n 0, 1) := by decide +kernel
theorem dX0_obtain_171 : decode cX0_obtain 171 = .ok (.getfield 42, 3) := by decide +kernel
theorem dX0_obtain_174 : decode cX0_obtain 174 = .ok (.getfield 139, 3) := by decide +kernel
theorem dX0_obtain_177 : decode cX0_obtain 177 = .ok (.iload_n 2, 1) := by decide +kernel
theorem dX0_obtain_178 : decode cX0_obtain 178 = .ok (.iload_n 3, 1) := by decide +kernel
theorem dX0_obtain_179 : decode cX0_obtain 179 = .ok (.iastore, 1) := by decide +kernel
theorem dX0_obtain_180 : decode cX0_obtain 180 = .ok (.iconst 1, 1) := by decide +kernel
theorem dX0_obtain_181 : decode cX0_obtain 181 = .ok (.ireturn, 1) := by decide +kernel
theorem dX0_isCheckDue_0 : decode cX0_isCheckDue 0 = .ok (.aload_n 0, 1) := by decide +kernel
theorem dX0_isCheckDue_1 : decode cX0_isCheckDue 1 = .ok (.getfield 142, 3) := by decide +kernel
theorem dX0_isCheckDue_4 : decode cX0_isCheckDue 4 = .ok (.ifCond .le 22, 3) := by decide +kernel
theorem dX0_isCheckDue_7 : decode cX0_isCheckDue 7 = .ok (.aload_n 0, 1) := by decide +kernel
theorem dX0_isCheckDue_8 : decode cX0_isCheckDue 8 = .ok (.getfield 35, 3) := by decide +kernel
theorem dX0_isCheckDue_11 : decode cX0_isCheckDue 11 = .ok (.invokevirtual 145, 3) := by decide +kernel
theorem dX0_isCheckDue_14 : decode cX0_isCheckDue 14 = .ok (.aload_n 0, 1) := by decide +kernel
theorem dX0_isCheckDue_15 : decode cX0_isCheckDue 15 = .ok (.getfield 142, 3) := by decide +kernel
theorem dX0_isCheckDue_18 : decode cX0_isCheckDue 18 = .ok (.irem, 1) := by decide +kernel
theorem dX0_isCheckDue_19 : decode cX0_isCheckDue 19 = .ok (.ifCond .ne 7, 3) := by decide +kernel
theorem dX0_isCheckDue_22 : decode cX0_isCheckDue 22 = .ok (.iconst 1, 1) := by decide +kernel
theorem dX0_isCheckDue_23 : decode cX0_isCheckDue 23 = .ok (.goto 4, 3) := by decide +kernel
theorem dX0_isCheckDue_26 : decode cX0_isCheckDue 26 = .ok (.iconst 0, 1) := by decide +kernel
theorem dX0_isCheckDue_27 : decode cX0_isCheckDue 27 = .ok (.ireturn, 1) := by decide +kernel
theorem dX0_enter_0 : decode cX0_enter 0 = .ok (.aload_n 0, 1) := by decide +kernel
theorem dX0_enter_1 : decode cX0_enter 1 = .ok (.getfield 35, 3) := by decide +kernel
theorem dX0_enter_4 : decode cX0_enter 4 = .ok (.invokevirtual 148, 3) := by decide +kernel
theorem dX0_enter_7 : decode cX0_enter 7 = .ok (.ifCond .ne 17, 3) := by decide +kernel
theorem dX0_enter_10 : decode cX0_enter 10 = .ok (.iload_n 1, 1) := by decide +kernel
theorem dX0_enter_11 : decode cX0_enter 11 = .ok (.aload_n 0, 1) := by decide +kernel
theorem dX0_enter_12 : decode cX0_enter 12 = .ok (.getfield 28, 3) := by decide +kernel
theorem dX0_enter_15 : decode cX0_enter 15 = .ok (.getfield 151, 3) := by decide +kernel
theorem dX0_enter_18 : decode cX0_enter 18 = .ok (.invokestatic 154, 3) := by decide +kernel
theorem dX0_enter_21 : decode cX0_enter 21 = .ok (.ifCond .ne 5, 3) := by decide +kernel
theorem dX0_enter_24 : decode cX0_enter 24 = .ok (.iconst 0, 1) := by decide +kernel
theorem dX0_enter_25 : decode cX0_enter 25 = .ok (.ireturn, 1) := by decide +kernel
theorem dX0_enter_26 : decode cX0_enter 26 = .ok (.aload_n 0, 1) := by decide +kernel
theorem dX0_enter_27 : decode cX0_enter 27 = .ok (.getfield 28, 3) := by decide +kernel
theorem dX0_enter_30 : decode cX0_enter 30 = .ok (.getfield 79, 3) := by decide +kernel
theorem dX0_enter_33 : decode cX0_enter 33 = .ok (.iload_n 1, 1) := by decide +kernel
theorem dX0_enter_34 : decode cX0_enter 34 = .ok (.iaload, 1) := by decide +kernel
theorem dX0_enter_35 : decode cX0_enter 35 = .ok (.aload_n 0, 1) := by decide +kernel
theorem dX0_enter_36 : decode cX0_enter 36 = .ok (.getfield 12, 3) := by decide +kernel
theorem dX0_enter_39 : decode cX0_enter 39 = .ok (.getfield 157, 3) := by decide +kernel
theorem dX0_enter_42 : decode cX0_enter 42 = .ok (.iload_n 2, 1) := by decide +kernel
theorem dX0_enter_43 : decode cX0_enter 43 = .ok (.iaload, 1) := by decide +kernel
theorem dX0_enter_44 : decode cX0_enter 44 = .ok (.isub, 1) := by decide +kernel
theorem dX0_enter_45 : decode cX0_enter 45 = .ok (.istore 5, 2) := by decide +kernel
theorem dX0_enter_47 : decode cX0_enter 47 = .ok (.iload 5, 2) := by decide +kernel
theorem dX0_enter_49 : decode cX0_enter 49 = .ok (.ifCond .lt 14, 3) := by decide +kernel
theorem dX0_enter_52 : decode cX0_enter 52 = .ok (.aload_n 0, 1) := by decide +kernel
theorem dX0_enter_53 : decode cX0_enter 53 = .ok (.getfield 35, 3) := by decide +kernel
theorem dX0_enter_56 : decode cX0_enter 56 = .ok (.iload_n 1, 1) := by decide +kernel
theorem dX0_enter_57 : decode cX0_enter 57 = .ok (.iload 5, 2) := by decide +kernel
theorem dX0_enter_59 : decode cX0_enter 59 = .ok (.invokevirtual 82, 3) := by decide +kernel
theorem dX0_enter_62 : decode cX0_enter 62 = .ok (.pop, 1) := by decide +kernel
theorem dX0_enter_63 : decode cX0_enter 63 = .ok (.aload_n 0, 1) := by decide +kernel
theorem dX0_enter_64 : decode cX0_enter 64 = .ok (.getfield 35, 3) := by decide +kernel
theorem dX0_enter_67 : decode cX0_enter 67 = .ok (.aload_n 0, 1) := by decide +kernel
theorem dX0_enter_68 : decode cX0_enter 68 = .ok (.getfield 12, 3) := by decide +kernel
theorem dX0_enter_71 : decode cX0_enter 71 = .ok (.aload_n 0, 1) := by decide +kernel
theorem dX0_enter_72 : decode cX0_enter 72 = .ok (.getfield 42, 3) := by decide +kernel
theorem dX0_enter_75 : decode cX0_enter 75 = .ok (.iload_n 2, 1) := by decide +kernel
theorem dX0_enter_76 : decode cX0_enter 76 = .ok (.invokevirtual 160, 3) := by decide +kernel
theorem dX0_enter_79 : decode cX0_enter 79 = .ok (.istore 6, 2) := by decide +kernel
theorem dX0_enter_81 : decode cX0_enter 81 = .ok (.aload_n 0, 1) := by decide +kernel
theorem dX0_enter_82 : decode cX0_enter 82 = .ok (.getfield 35, 3) := by decide +kernel
theorem dX0_enter_85 : decode cX0_enter 85 = .ok (.getfield 163, 3) := by decide +kernel
theorem dX0_enter_88 : decode cX0_enter 88 = .ok (.iload 6, 2) := by decide +kernel
theorem dX0_enter_90 : decode cX0_enter 90 = .ok (.iload_n 3, 1) := by decide +kernel
theorem dX0_enter_91 : decode cX0_enter 91 = .ok (.iastore, 1) := by decide +kernel
theorem dX0_enter_92 : decode cX0_enter 92 = .ok (.aload_n 0, 1) := by decide +kernel
theorem dX0_enter_93 : decode cX0_enter 93 = .ok (.getfield 35, 3) := by decide +kernel
theorem dX0_enter_96 : decode cX0_enter 96 = .ok (.getfield 166, 3) := by decide +kernel
theorem dX0_enter_99 : decode cX0_enter 99 = .ok (.iload 6, 2) := by decide +kernel
theorem dX0_enter_101 : decode cX0_enter 101 = .ok (.iload_n 1, 1) := by decide +kernel
theorem dX0_enter_102 : decode cX0_enter 102 = .ok (.iastore, 1) := by decide +kernel
theorem dX0_enter_103 : decode cX0_enter 103 = .ok (.aload_n 0, 1) := by decide +kernel
theorem dX0_enter_104 : decode cX0_enter 104 = .ok (.getfield 35, 3) := by decide +kernel
theorem dX0_enter_107 : decode cX0_enter 107 = .ok (.getfield 138, 3) := by decide +kernel
theorem dX0_enter_110 : decode cX0_enter 110 = .ok (.iload 6, 2) := by decide +kernel
theorem dX0_enter_112 : decode cX0_enter 112 = .ok (.iload 4, 2) := by decide +kernel
theorem dX0_enter_114 : decode cX0_enter 114 = .ok (.iastore, 1) := by decide +kernel
theorem dX0_enter_115 : decode cX0_enter 115 = .ok (.aload_n 0, 1) := by decide +kernel
theorem dX0_enter_116 : decode cX0_enter 116 = .ok (.getfield 35, 3) := by decide +kernel
theorem dX0_enter_119 : decode cX0_enter 119 = .ok (.getfield 169, 3) := by decide +kernel
theorem dX0_enter_122 : decode cX0_enter 122 = .ok (.iload 6, 2) := by decide +kernel
theorem dX0_enter_124 : decode cX0_enter 124 = .ok (.iload 5, 2) := by decide +kernel
theorem dX0_enter_126 : decode cX0_enter 126 = .ok (.ifCond .lt 7, 3) := by decide +kernel
theorem dX0_enter_129 : decode cX0_enter 129 = .ok (.iconst 0, 1) := by decide +kernel
theorem dX0_enter_130 : decode cX0_enter 130 = .ok (.goto 4, 3) := by decide +kernel
theorem dX0_enter_133 : decode cX0_enter 133 = .ok (.iconst 1, 1) := by decide +kernel
theorem dX0_enter_134 : decode cX0_enter 134 = .ok (.iastore, 1) := by decide +kernel
theorem dX0_enter_135 : decode cX0_enter 135 = .ok (.aload_n 0, 1) := by decide +kernel
theorem dX0_enter_136 : decode cX0_enter 136 = .ok (.getfield 42, 3) := by decide +kernel
theorem dX0_enter_139 : decode cX0_enter 139 = .ok (.getfield 72, 3) := by decide +kernel
theorem dX0_enter_142 : decode cX0_enter 142 = .ok (.iload_n 2, 1) := by decide +kernel
theorem dX0_enter_143 : decode cX0_enter 143 = .ok (.iload 4, 2) := by decide +kernel
theorem dX0_enter_145 : decode cX0_enter 145 = .ok (.iastore, 1) := by decide +kernel
theorem dX0_enter_146 : decode cX0_enter 146 = .ok (.aload_n 0, 1) := by decide +kernel
theorem dX0_enter_147 : decode cX0_enter 147 = .ok (.getfield 42, 3) := by decide +kernel
theorem dX0_enter_150 : decode cX0_enter 150 = .ok (.getfield 139, 3) := by decide +kernel
theorem dX0_enter_153 : decode cX0_enter 153 = .ok (.iload_n 2, 1) := by decide +kernel
theorem dX0_enter_154 : decode cX0_enter 154 = .ok (.iload 6, 2) := by decide +kernel
theorem dX0_enter_156 : decode cX0_enter 156 = .ok (.iastore, 1) := by decide +kernel
theorem dX0_enter_157 : decode cX0_enter 157 = .ok (.iconst 1, 1) := by decide +kernel
theorem dX0_enter_158 : decode cX0_enter 158 = .ok (.ireturn, 1) := by decide +kernel
theorem dX0_checkAgain_0 : decode cX0_checkAgain 0 = .ok (.aload_n 0, 1) := by decide +kernel
theorem dX0_checkAgain_1 : decode cX0_checkAgain 1 = .ok (.getfield 35, 3) := by decide +kernel
theorem dX0_checkAgain_4 : decode cX0_checkAgain 4 = .ok (.getfield 172, 3) := by decide +kernel
theorem dX0_checkAgain_7 : decode cX0_checkAgain 7 = .ok (.iload_n 1, 1) := by decide +kernel
theorem dX0_checkAgain_8 : decode cX0_checkAgain 8 = .ok (.iaload, 1) := by decide +kernel
theorem dX0_checkAgain_9 : decode cX0_checkAgain 9 = .ok (.istore_n 2, 1) := by decide +kernel
theorem dX0_checkAgain_10 : decode cX0_checkAgain 10 = .ok (.iconst 0, 1) := by decide +kernel
theorem dX0_checkAgain_11 : decode cX0_checkAgain 11 = .ok (.istore_n 3, 1) := by decide +kernel
theorem dX0_checkAgain_12 : decode cX0_checkAgain 12 = .ok (.iload_n 3, 1) := by decide +kernel
theorem dX0_checkAgain_13 : decode cX0_checkAgain 13 = .ok (.bipush 14, 2) := by decide +kernel
theorem dX0_checkAgain_15 : decode cX0_checkAgain 15 = .ok (.if_icmp .ge 55, 3) := by decide +kernel
theorem dX0_checkAgain_18 : decode cX0_checkAgain 18 = .ok (.aload_n 0, 1) := by decide +kernel
theorem dX0_checkAgain_19 : decode cX0_checkAgain 19 = .ok (.getfield 42, 3) := by decide +kernel
theorem dX0_checkAgain_22 : decode cX0_checkAgain 22 = .ok (.getfield 72, 3) := by decide +kernel
theorem dX0_checkAgain_25 : decode cX0_checkAgain 25 = .ok (.iload_n 3, 1) := by decide +kernel
theorem dX0_checkAgain_26 : decode cX0_checkAgain 26 = .ok (.aload_n 0, 1) := by decide +kernel
theorem dX0_checkAgain_27 : decode cX0_checkAgain 27 = .ok (.getfield 35, 3) := by decide +kernel
theorem dX0_checkAgain_30 : decode cX0_checkAgain 30 = .ok (.getfield 175, 3) := by decide +kernel
theorem dX0_checkAgain_33 : decode cX0_checkAgain 33 = .ok (.iload_n 1, 1) := by decide +kernel
theorem dX0_checkAgain_34 : decode cX0_checkAgain 34 = .ok (.bipush 14, 2) := by decide +kernel
theorem dX0_checkAgain_36 : decode cX0_checkAgain 36 = .ok (.imul, 1) := by decide +kernel
theorem dX0_checkAgain_37 : decode cX0_checkAgain 37 = .ok (.iload_n 3, 1) := by decide +kernel
theorem dX0_checkAgain_38 : decode cX0_checkAgain 38 = .ok (.iadd, 1) := by decide +kernel
theorem dX0_checkAgain_39 : decode cX0_checkAgain 39 = .ok (.iaload, 1) := by decide +kernel
theorem dX0_checkAgain_40 : decode cX0_checkAgain 40 = .ok (.iastore, 1) := by decide +kernel
theorem dX0_checkAgain_41 : decode cX0_checkAgain 41 = .ok (.aload_n 0, 1) := by decide +kernel
theorem dX0_checkAgain_42 : decode cX0_checkAgain 42 = .ok (.getfield 42, 3) := by decide +kernel
theorem dX0_checkAgain_45 : decode cX0_checkAgain 45 = .ok (.getfield 139, 3) := by decide +kernel
theorem dX0_checkAgain_48 : decode cX0_checkAgain 48 = .ok (.iload_n 3, 1) := by decide +kernel
theorem dX0_checkAgain_49 : decode cX0_checkAgain 49 = .ok (.aload_n 0, 1) := by decide +kernel
theorem dX0_checkAgain_50 : decode cX0_checkAgain 50 = .ok (.getfield 35, 3) := by decide +kernel
theorem dX0_checkAgain_53 : decode cX0_checkAgain 53 = .ok (.getfield 178, 3) := by decide +kernel
theorem dX0_checkAgain_56 : decode cX0_checkAgain 56 = .ok (.iload_n 1, 1) := by decide +kernel
theorem dX0_checkAgain_57 : decode cX0_checkAgain 57 = .ok (.bipush 14, 2) := by decide +kernel
theorem dX0_checkAgain_59 : decode cX0_checkAgain 59 = .ok (.imul, 1) := by decide +kernel
theorem dX0_checkAgain_60 : decode cX0_checkAgain 60 = .ok (.iload_n 3, 1) := by decide +kernel
theorem dX0_checkAgain_61 : decode cX0_checkAgain 61 = .ok (.iadd, 1) := by decide +kernel
theorem dX0_checkAgain_62 : decode cX0_checkAgain 62 = .ok (.iaload, 1) := by decide +kernel
theorem dX0_checkAgain_63 : decode cX0_checkAgain 63 = .ok (.iastore, 1) := by decide +kernel
theorem dX0_checkAgain_64 : decode cX0_checkAgain 64 = .ok (.iinc 3 1, 3) := by decide +kernel
theorem dX0_checkAgain_67 : decode cX0_checkAgain 67 = .ok (.goto (-55), 3) := by decide +kernel
theorem dX0_checkAgain_70 : decode cX0_checkAgain 70 = .ok (.aload_n 0, 1) := by decide +kernel
theorem dX0_checkAgain_71 : decode cX0_checkAgain 71 = .ok (.iload_n 1, 1) := by decide +kernel
theorem dX0_checkAgain_72 : decode cX0_checkAgain 72 = .ok (.iload_n 2, 1) := by decide +kernel
theorem dX0_checkAgain_73 : decode cX0_checkAgain 73 = .ok (.invokevirtual 128, 3) := by decide +kernel
theorem dX0_checkAgain_76 : decode cX0_checkAgain 76 = .ok (.istore_n 3, 1) := by decide +kernel
theorem dX0_checkAgain_77 : decode cX0_checkAgain 77 = .ok (.iload_n 3, 1) := by decide +kernel
theorem dX0_checkAgain_78 : decode cX0_checkAgain 78 = .ok (.iconst 2, 1) := by decide +kernel
theorem dX0_checkAgain_79 : decode cX0_checkAgain 79 = .ok (.if_icmp .ne 26, 3) := by decide +kernel
theorem dX0_checkAgain_82 : decode cX0_checkAgain 82 = .ok (.aload_n 0, 1) := by decide +kernel
theorem dX0_checkAgain_83 : decode cX0_checkAgain 83 = .ok (.aload_n 0, 1) := by decide +kernel
theorem dX0_checkAgain_84 : decode cX0_checkAgain 84 = .ok (.getfield 35, 3) := by decide +kernel
theorem dX0_checkAgain_87 : decode cX0_checkAgain 87 = .ok (.getfield 166, 3) := by decide +kernel
theorem dX0_checkAgain_90 : decode cX0_checkAgain 90 = .ok (.iload_n 1, 1) := by decide +kernel
theorem dX0_checkAgain_91 : decode cX0_checkAgain 91 = .ok (.iaload, 1) := by decide +kernel
theorem dX0_checkAgain_92 : decode cX0_checkAgain 92 = .ok (.iload_n 2, 1) := by decide +kernel
theorem dX0_checkAgain_93 : decode cX0_checkAgain 93 = .ok (.aload_n 0, 1) := by decide +kernel
theorem dX0_checkAgain_94 : decode cX0_checkAgain 94 = .ok (.getfield 131, 3) := by decide +kernel
theorem dX0_checkAgain_97 : decode cX0_checkAgain 97 = .ok (.aload_n 0, 1) := by decide +kernel
theorem dX0_checkAgain_98 : decode cX0_checkAgain 98 = .ok (.getfield 135, 3) := by decide +kernel
theorem dX0_checkAgain_101 : decode cX0_checkAgain 101 = .ok (.invokevirtual 114, 3) := by decide +kernel
theorem dX0_checkAgain_104 : decode cX0_checkAgain 104 = .ok (.pop, 1) := by decide +kernel
theorem dX0_checkAgain_105 : decode cX0_checkAgain 105 = .ok (.iload_n 3, 1) := by decide +kernel
theorem dX0_checkAgain_106 : decode cX0_checkAgain 106 = .ok (.ireturn, 1) := by decide +kernel
theorem dX0_compareWithRun_0 : decode cX0_compareWithRun 0 = .ok (.aload_n 0, 1) := by decide +kernel
theorem dX0_compareWithRun_1 : decode cX0_compareWithRun 1 = .ok (.getfield 35, 3) := by decide +kernel
theorem dX0_compareWithRun_4 : decode cX0_compareWithRun 4 = .ok (.getfield 163, 3) := by decide +kernel
theorem dX0_compareWithRun_7 : decode cX0_compareWithRun 7 = .ok (.iload_n 1, 1) := by decide +kernel
theorem dX0_compareWithRun_8 : decode cX0_compareWithRun 8 = .ok (.iaload, 1) := by decide +kernel
theorem dX0_compareWithRun_9 : decode cX0_compareWithRun 9 = .ok (.istore_n 3, 1) := by decide +kernel
theorem dX0_compareWithRun_10 : decode cX0_compareWithRun 10 = .ok (.aload_n 0, 1) := by decide +kernel
theorem dX0_compareWithRun_11 : decode cX0_compareWithRun 11 = .ok (.aload_n 0, 1) := by decide +kernel
theorem dX0_compareWithRun_12 : decode cX0_compareWithRun 12 = .ok (.getfield 21, 3) := by decide +kernel
theorem dX0_compareWithRun_15 : decode cX0_compareWithRun 15 = .ok (.iload_n 3, 1) := by decide +kernel
theorem dX0_compareWithRun_16 : decode cX0_compareWithRun 16 = .ok (.invokevirtual 100, 3) := by decide +kernel
theorem dX0_compareWithRun_19 : decode cX0_compareWithRun 19 = .ok (.putfield 131, 3) := by decide +kernel
theorem dX0_compareWithRun_22 : decode cX0_compareWithRun 22 = .ok (.aload_n 0, 1) := by decide +kernel
theorem dX0_compareWithRun_23 : decode cX0_compareWithRun 23 = .ok (.getfield 131, 3) := by decide +kernel
theorem dX0_compareWithRun_26 : decode cX0_compareWithRun 26 = .ok (.iconst (-1), 1) := by decide +kernel
theorem dX0_compareWithRun_27 : decode cX0_compareWithRun 27 = .ok (.if_icmp .ne 5, 3) := by decide +kernel
theorem dX0_compareWithRun_30 : decode cX0_compareWithRun 30 = .ok (.iconst 0, 1) := by decide +kernel
theorem dX0_compareWithRun_31 : decode cX0_compareWithRun 31 = .ok (.ireturn, 1) := by decide +kernel
theorem dX0_compareWithRun_32 : decode cX0_compareWithRun 32 = .ok (.aload_n 0, 1) := by decide +kernel
theorem dX0_compareWithRun_33 : decode cX0_compareWithRun 33 = .ok (.aload_n 0, 1) := by decide +kernel
theorem dX0_compareWithRun_34 : decode cX0_compareWithRun 34 = .ok (.getfield 21, 3) := by decide +kernel
theorem dX0_compareWithRun_37 : decode cX0_compareWithRun 37 = .ok (.aload_n 0, 1) := by decide +kernel
theorem dX0_compareWithRun_38 : decode cX0_compareWithRun 38 = .ok (.getfield 131, 3) := by decide +kernel
theorem dX0_compareWithRun_41 : decode cX0_compareWithRun 41 = .ok (.aload_n 0, 1) := by decide +kernel
theorem dX0_compareWithRun_42 : decode cX0_compareWithRun 42 = .ok (.getfield 12, 3) := by decide +kernel
theorem dX0_compareWithRun_45 : decode cX0_compareWithRun 45 = .ok (.getfield 103, 3) := by decide +kernel
theorem dX0_compareWithRun_48 : decode cX0_compareWithRun 48 = .ok (.iload_n 2, 1) := by decide +kernel
theorem dX0_compareWithRun_49 : decode cX0_compareWithRun 49 = .ok (.iaload, 1) := by decide +kernel
theorem dX0_compareWithRun_50 : decode cX0_compareWithRun 50 = .ok (.aload_n 0, 1) := by decide +kernel
theorem dX0_compareWithRun_51 : decode cX0_compareWithRun 51 = .ok (.getfield 12, 3) := by decide +kernel
theorem dX0_compareWithRun_54 : decode cX0_compareWithRun 54 = .ok (.iload_n 2, 1) := by decide +kernel
theorem dX0_compareWithRun_55 : decode cX0_compareWithRun 55 = .ok (.aload_n 0, 1) := by decide +kernel
theorem dX0_compareWithRun_56 : decode cX0_compareWithRun 56 = .ok (.getfield 42, 3) := by decide +kernel
theorem dX0_compareWithRun_59 : decode cX0_compareWithRun 59 = .ok (.getfield 72, 3) := by decide +kernel
theorem dX0_compareWithRun_62 : decode cX0_compareWithRun 62 = .ok (.invokevirtual 106, 3) := by decide +kernel
theorem dX0_compareWithRun_65 : decode cX0_compareWithRun 65 = .ok (.invokevirtual 110, 3) := by decide +kernel
theorem dX0_compareWithRun_68 : decode cX0_compareWithRun 68 = .ok (.putfield 135, 3) := by decide +kernel
theorem dX0_compareWithRun_71 : decode cX0_compareWithRun 71 = .ok (.aload_n 0, 1) := by decide +kernel
theorem dX0_compareWithRun_72 : decode cX0_compareWithRun 72 = .ok (.getfield 21, 3) := by decide +kernel
theorem dX0_compareWithRun_75 : decode cX0_compareWithRun 75 = .ok (.getfield 181, 3) := by decide +kernel
theorem dX0_compareWithRun_78 : decode cX0_compareWithRun 78 = .ok (.aload_n 0, 1) := by decide +kernel
theorem dX0_compareWithRun_79 : decode cX0_compareWithRun 79 = .ok (.getfield 131, 3) := by decide +kernel
theorem dX0_compareWithRun_82 : decode cX0_compareWithRun 82 = .ok (.dup2, 1) := by decide +kernel
theorem dX0_compareWithRun_83 : decode cX0_compareWithRun 83 = .ok (.iaload, 1) := by decide +kernel
theorem dX0_compareWithRun_84 : decode cX0_compareWithRun 84 = .ok (.iconst 1, 1) := by decide +kernel
theorem dX0_compareWithRun_85 : decode cX0_compareWithRun 85 = .ok (.iadd, 1) := by decide +kernel
theorem dX0_compareWithRun_86 : decode cX0_compareWithRun 86 = .ok (.iastore, 1) := by decide +kernel
theorem dX0_compareWithRun_87 : decode cX0_compareWithRun 87 = .ok (.aload_n 0, 1) := by decide +kernel
theorem dX0_compareWithRun_88 : decode cX0_compareWithRun 88 = .ok (.getfield 135, 3) := by decide +kernel
theorem dX0_compareWithRun_91 : decode cX0_compareWithRun 91 = .ok (.aload_n 0, 1) := by decide +kernel
theorem dX0_compareWithRun_92 : decode cX0_compareWithRun 92 = .ok (.getfield 35, 3) := by decide +kernel
theorem dX0_compareWithRun_95 : decode cX0_compareWithRun 95 = .ok (.getfield 138, 3) := by decide +kernel
theorem dX0_compareWithRun_98 : decode cX0_compareWithRun 98 = .ok (.iload_n 1, 1) := by decide +kernel
theorem dX0_compareWithRun_99 : decode cX0_compareWithRun 99 = .ok (.iaload, 1) := by decide +kernel
theorem dX0_compareWithRun_100 : decode cX0_compareWithRun 100 = .ok (.if_icmp .ne 14, 3) := by decide +kernel
theorem dX0_compareWithRun_103 : decode cX0_compareWithRun 103 = .ok (.aload_n 0, 1) := by decide +kernel
theorem dX0_compareWithRun_104 : decode cX0_compareWithRun 104 = .ok (.getfield 21, 3) := by decide +kernel
theorem dX0_compareWithRun_107 : decode cX0_compareWithRun 107 = .ok (.iload_n 3, 1) := by decide +kernel
theorem dX0_compareWithRun_108 : decode cX0_compareWithRun 108 = .ok (.iconst 5, 1) := by decide +kernel
theorem dX0_compareWithRun_109 : decode cX0_compareWithRun 109 = .ok (.invokevirtual 184, 3) := by decide +kernel
theorem dX0_compareWithRun_112 : decode cX0_compareWithRun 112 = .ok (.iconst 1, 1) := by decide +kernel
theorem dX0_compareWithRun_113 : decode cX0_compareWithRun 113 = .ok (.ireturn, 1) := by decide +kernel
theorem dX0_compareWithRun_114 : decode cX0_compareWithRun 114 = .ok (.aload_n 0, 1) := by decide +kernel
theorem dX0_compareWithRun_115 : decode cX0_compareWithRun 115 = .ok (.getfield 35, 3) := by decide +kernel
theorem dX0_compareWithRun_118 : decode cX0_compareWithRun 118 = .ok (.dup, 1) := by decide +kernel
theorem dX0_compareWithRun_119 : decode cX0_compareWithRun 119 = .ok (.getfield 188, 3) := by decide +kernel
theorem dX0_compareWithRun_122 : decode cX0_compareWithRun 122 = .ok (.iconst 1, 1) := by decide +kernel
theorem dX0_compareWithRun_123 : decode cX0_compareWithRun 123 = .ok (.iadd, 1) := by decide +kernel
theorem dX0_compareWithRun_124 : decode cX0_compareWithRun 124 = .ok (.putfield 188, 3) := by decide +kernel
theorem dX0_compareWithRun_127 : decode cX0_compareWithRun 127 = .ok (.aload_n 0, 1) := by decide +kernel
theorem dX0_compareWithRun_128 : decode cX0_compareWithRun 128 = .ok (.getfield 35, 3) := by decide +kernel
theorem dX0_compareWithRun_131 : decode cX0_compareWithRun 131 = .ok (.aload_n 0, 1) := by decide +kernel
theorem dX0_compareWithRun_132 : decode cX0_compareWithRun 132 = .ok (.getfield 12, 3) := by decide +kernel
theorem dX0_compareWithRun_135 : decode cX0_compareWithRun 135 = .ok (.iload_n 1, 1) := by decide +kernel
theorem dX0_compareWithRun_136 : decode cX0_compareWithRun 136 = .ok (.invokevirtual 191, 3) := by decide +kernel
theorem dX0_compareWithRun_139 : decode cX0_compareWithRun 139 = .ok (.aload_n 0, 1) := by decide +kernel
theorem dX0_compareWithRun_140 : decode cX0_compareWithRun 140 = .ok (.getfield 12, 3) := by decide +kernel
theorem dX0_compareWithRun_143 : decode cX0_compareWithRun 143 = .ok (.getfield 195, 3) := by decide +kernel
theorem dX0_compareWithRun_146 : decode cX0_compareWithRun 146 = .ok (.iload_n 2, 1) := by decide +kernel
theorem dX0_compareWithRun_147 : decode cX0_compareWithRun 147 = .ok (.iaload, 1) := by decide +kernel
theorem dX0_compareWithRun_148 : decode cX0_compareWithRun 148 = .ok (.iand, 1) := by decide +kernel
theorem dX0_compareWithRun_149 : decode cX0_compareWithRun 149 = .ok (.istore 4, 2) := by decide +kernel
theorem dX0_compareWithRun_151 : decode cX0_compareWithRun 151 = .ok (.iload 4, 2) := by decide +kernel
theorem dX0_compareWithRun_153 : decode cX0_compareWithRun 153 = .ok (.ifCond .eq 30, 3) := by decide +kernel
theorem dX0_compareWithRun_156 : decode cX0_compareWithRun 156 = .ok (.aload_n 0, 1) := by decide +kernel
theorem dX0_compareWithRun_157 : decode cX0_compareWithRun 157 = .ok (.getfield 12, 3) := by decide +kernel
theorem dX0_compareWithRun_160 : decode cX0_compareWithRun 160 = .ok (.getfield 195, 3) := by decide +kernel
theorem dX0_compareWithRun_163 : decode cX0_compareWithRun 163 = .ok (.iload_n 2, 1) := by decide +kernel
theorem dX0_compareWithRun_164 : decode cX0_compareWithRun 164 = .ok (.dup2, 1) := by decide +kernel
theorem dX0_compareWithRun_165 : decode cX0_compareWithRun 165 = .ok (.iaload, 1) := by decide +kernel
theorem dX0_compareWithRun_166 : decode cX0_compareWithRun 166 = .ok (.iload 4, 2) := by decide +kernel
theorem dX0_compareWithRun_168 : decode cX0_compareWithRun 168 = .ok (.iconst (-1), 1) := by decide +kernel
theorem dX0_compareWithRun_169 : decode cX0_compareWithRun 169 = .ok (.ixor, 1) := by decide +kernel
theorem dX0_compareWithRun_170 : decode cX0_compareWithRun 170 = .ok (.iand, 1) := by decide +kernel
theorem dX0_compareWithRun_171 : decode cX0_compareWithRun 171 = .ok (.iastore, 1) := by decide +kernel
theorem dX0_compareWithRun_172 : decode cX0_compareWithRun 172 = .ok (.aload_n 0, 1) := by decide +kernel
theorem dX0_compareWithRun_173 : decode cX0_compareWithRun 173 = .ok (.getfield 35, 3) := by decide +kernel
theorem dX0_compareWithRun_176 : decode cX0_compareWithRun 176 = .ok (.iload_n 2, 1) := by decide +kernel
theorem dX0_compareWithRun_177 : decode cX0_compareWithRun 177 = .ok (.invokevirtual 198, 3) := by decide +kernel
theorem dX0_compareWithRun_180 : decode cX0_compareWithRun 180 = .ok (.goto 13, 3) := by decide +kernel
theorem dX0_compareWithRun_183 : decode cX0_compareWithRun 183 = .ok (.aload_n 0, 1) := by decide +kernel
theorem dX0_compareWithRun_184 : decode cX0_compareWithRun 184 = .ok (.getfield 21, 3) := by decide +kernel
theorem dX0_compareWithRun_187 : decode cX0_compareWithRun 187 = .ok (.iload_n 3, 1) := by decide +kernel
theorem dX0_compareWithRun_188 : decode cX0_compareWithRun 188 = .ok (.bipush (-30), 2) := by decide +kernel
theorem dX0_compareWithRun_190 : decode cX0_compareWithRun 190 = .ok (.invokevirtual 184, 3) := by decide +kernel
theorem dX0_compareWithRun_193 : decode cX0_compareWithRun 193 = .ok (.aload_n 0, 1) := by decide +kernel
theorem dX0_compareWithRun_194 : decode cX0_compareWithRun 194 = .ok (.getfield 35, 3) := by decide +kernel
theorem dX0_compareWithRun_197 : decode cX0_compareWithRun 197 = .ok (.iload_n 1, 1) := by decide +kernel
theorem dX0_compareWithRun_198 : decode cX0_compareWithRun 198 = .ok (.invokevirtual 202, 3) := by decide +kernel
theorem dX0_compareWithRun_201 : decode cX0_compareWithRun 201 = .ok (.iconst 2, 1) := by decide +kernel
theorem dX0_compareWithRun_202 : decode cX0_compareWithRun 202 = .ok (.ireturn, 1) := by decide +kernel
theorem dX1_init_0 : decode cX1_init 0 = .ok (.aload_n 0, 1) := by decide +kernel
theorem dX1_init_1 : decode cX1_init 1 = .ok (.invokespecial 3, 3) := by decide +kernel
theorem dX1_init_4 : decode cX1_init 4 = .ok (.aload_n 0, 1) := by decide +kernel
theorem dX1_init_5 : decode cX1_init 5 = .ok (.bipush 60, 2) := by decide +kernel
theorem dX1_init_7 : decode cX1_init 7 = .ok (.newarray .int, 2) := by decide +kernel
theorem dX1_init_9 : decode cX1_init 9 = .ok (.putfield 9, 3) := by decide +kernel
theorem dX1_init_12 : decode cX1_init 12 = .ok (.aload_n 0, 1) := by decide +kernel
theorem dX1_init_13 : decode cX1_init 13 = .ok (.bipush 60, 2) := by decide +kernel
theorem dX1_init_15 : decode cX1_init 15 = .ok (.newarray .int, 2) := by decide +kernel
theorem dX1_init_17 : decode cX1_init 17 = .ok (.putfield 15, 3) := by decide +kernel
theorem dX1_init_20 : decode cX1_init 20 = .ok (.aload_n 0, 1) := by decide +kernel
theorem dX1_init_21 : decode cX1_init 21 = .ok (.bipush 60, 2) := by decide +kernel
theorem dX1_init_23 : decode cX1_init 23 = .ok (.newarray .int, 2) := by decide +kernel
theorem dX1_init_25 : decode cX1_init 25 = .ok (.putfield 18, 3) := by decide +kernel
theorem dX1_init_28 : decode cX1_init 28 = .ok (.aload_n 0, 1) := by decide +kernel
theorem dX1_init_29 : decode cX1_init 29 = .ok (.bipush 60, 2) := by decide +kernel
theorem dX1_init_31 : decode cX1_init 31 = .ok (.newarray .int, 2) := by decide +kernel
theorem dX1_init_33 : decode cX1_init 33 = .ok (.putfield 21, 3) := by decide +kernel
theorem dX1_init_36 : decode cX1_init 36 = .ok (.aload_n 0, 1) := by decide +kernel
theorem dX1_init_37 : decode cX1_init 37 = .ok (.bipush 60, 2) := by decide +kernel
theorem dX1_init_39 : decode cX1_init 39 = .ok (.newarray .int, 2) := by decide +kernel
theorem dX1_init_41 : decode cX1_init 41 = .ok (.putfield 24, 3) := by decide +kernel
theorem dX1_init_44 : decode cX1_init 44 = .ok (.aload_n 0, 1) := by decide +kernel
theorem dX1_init_45 : decode cX1_init 45 = .ok (.bipush 60, 2) := by decide +kernel
theorem dX1_init_47 : decode cX1_init 47 = .ok (.newarray .int, 2) := by decide +kernel
theorem dX1_init_49 : decode cX1_init 49 = .ok (.putfield 27, 3) := by decide +kernel
theorem dX1_init_52 : decode cX1_init 52 = .ok (.aload_n 0, 1) := by decide +kernel
theorem dX1_init_53 : decode cX1_init 53 = .ok (.bipush 60, 2) := by decide +kernel
theorem dX1_init_55 : decode cX1_init 55 = .ok (.newarray .int, 2) := by decide +kernel
theorem dX1_init_57 : decode cX1_init 57 = .ok (.putfield 30, 3) := by decide +kernel
theorem dX1_init_60 : decode cX1_init 60 = .ok (.aload_n 0, 1) := by decide +kernel
theorem dX1_init_61 : decode cX1_init 61 = .ok (.bipush 60, 2) := by decide +kernel
theorem dX1_init_63 : decode cX1_init 63 = .ok (.newarray .int, 2) := by decide +kernel
theorem dX1_init_65 : decode cX1_init 65 = .ok (.putfield 33, 3) := by decide +kernel
theorem dX1_init_68 : decode cX1_init 68 = .ok (.aload_n 0, 1) := by decide +kernel
theorem dX1_init_69 : decode cX1_init 69 = .ok (.sipush 480, 3) := by decide +kernel
theorem dX1_init_72 : decode cX1_init 72 = .ok (.newarray .int, 2) := by decide +kernel
theorem dX1_init_74 : decode cX1_init 74 = .ok (.putfield 36, 3) := by decide +kernel
theorem dX1_init_77 : decode cX1_init 77 = .ok (.aload_n 0, 1) := by decide +kernel
theorem dX1_init_78 : decode cX1_init 78 = .ok (.sipush 360, 3) := by decide +kernel
theorem dX1_init_81 : decode cX1_init 81 = .ok (.newarray .int, 2) := by decide +kernel
theorem dX1_init_83 : decode cX1_init 83 = .ok (.putfield 39, 3) := by decide +kernel
theorem dX1_init_86 : decode cX1_init 86 = .ok (.aload_n 0, 1) := by decide +kernel
theorem dX1_init_87 : decode cX1_init 87 = .ok (.sipush 840, 3) := by decide +kernel
theorem dX1_init_90 : decode cX1_init 90 = .ok (.newarray .int, 2) := by decide +kernel
theorem dX1_init_92 : decode cX1_init 92 = .ok (.putfield 42, 3) := by decide +kernel
theorem dX1_init_95 : decode cX1_init 95 = .ok (.aload_n 0, 1) := by decide +kernel
theorem dX1_init_96 : decode cX1_init 96 = .ok (.sipush 840, 3) := by decide +kernel
theorem dX1_init_99 : decode cX1_init 99 = .ok (.newarray .int, 2) := by decide +kernel
theorem dX1_init_101 : decode cX1_init 101 = .ok (.putfield 45, 3) := by decide +kernel
theorem dX1_init_104 : decode cX1_init 104 = .ok (.aload_n 0, 1) := by decide +kernel
theorem dX1_init_105 : decode cX1_init 105 = .ok (.bipush 60, 2) := by decide +kernel
theorem dX1_init_107 : decode cX1_init 107 = .ok (.newarray .long, 2) := by decide +kernel
theorem dX1_init_109 : decode cX1_init 109 = .ok (.putfield 48, 3) := by decide +kernel
theorem dX1_init_112 : decode cX1_init 112 = .ok (.return_, 1) := by decide +kernel
theorem dX1_isFull_0 : decode cX1_isFull 0 = .ok (.aload_n 0, 1) := by decide +kernel
theorem dX1_isFull_1 : decode cX1_isFull 1 = .ok (.getfield 52, 3) := by decide +kernel
theorem dX1_isFull_4 : decode cX1_isFull 4 = .ok (.bipush 60, 2) := by decide +kernel
theorem dX1_isFull_6 : decode cX1_isFull 6 = .ok (.if_icmp .lt 7, 3) := by decide +kernel
theorem dX1_isFull_9 : decode cX1_isFull 9 = .ok (.iconst 1, 1) := by decide +kernel
theorem dX1_isFull_10 : decode cX1_isFull 10 = .ok (.goto 4, 3) := by decide +kernel
theorem dX1_isFull_13 : decode cX1_isFull 13 = .ok (.iconst 0, 1) := by decide +kernel
theorem dX1_isFull_14 : decode cX1_isFull 14 = .ok (.ireturn, 1) := by decide +kernel
theorem dX1_firstHit_0 : decode cX1_firstHit 0 = .ok (.iconst 0, 1) := by decide +kernel
theorem dX1_firstHit_1 : decode cX1_firstHit 1 = .ok (.istore 4, 2) := by decide +kernel
theorem dX1_firstHit_3 : decode cX1_firstHit 3 = .ok (.iload 4, 2) := by decide +kernel
theorem dX1_firstHit_5 : decode cX1_firstHit 5 = .ok (.aload_n 0, 1) := by decide +kernel
theorem dX1_firstHit_6 : decode cX1_firstHit 6 = .ok (.getfield 52, 3) := by decide +kernel
theorem dX1_firstHit_9 : decode cX1_firstHit 9 = .ok (.if_icmp .ge 59, 3) := by decide +kernel
theorem dX1_firstHit_12 : decode cX1_firstHit 12 = .ok (.aload_n 0, 1) := by decide +kernel
theorem dX1_firstHit_13 : decode cX1_firstHit 13 = .ok (.getfield 9, 3) := by decide +kernel
theorem dX1_firstHit_16 : decode cX1_firstHit 16 = .ok (.iload 4, 2) := by decide +kernel
theorem dX1_firstHit_18 : decode cX1_firstHit 18 = .ok (.iaload, 1) := by decide +kernel
theorem dX1_firstHit_19 : decode cX1_firstHit 19 = .ok (.iload_n 3, 1) := by decide +kernel
theorem dX1_firstHit_20 : decode cX1_firstHit 20 = .ok (.if_icmp .ne 42, 3) := by decide +kernel
theorem dX1_firstHit_23 : decode cX1_firstHit 23 = .ok (.aload_n 0, 1) := by decide +kernel
theorem dX1_firstHit_24 : decode cX1_firstHit 24 = .ok (.getfield 27, 3) := by decide +kernel
theorem dX1_firstHit_27 : decode cX1_firstHit 27 = .ok (.iload 4, 2) := by decide +kernel
theorem dX1_firstHit_29 : decode cX1_firstHit 29 = .ok (.iaload, 1) := by decide +kernel
theorem dX1_firstHit_30 : decode cX1_firstHit 30 = .ok (.ifCond .ne 32, 3) := by decide +kernel
theorem dX1_firstHit_33 : decode cX1_firstHit 33 = .ok (.aload_n 0, 1) := by decide +kernel
theorem dX1_firstHit_34 : decode cX1_firstHit 34 = .ok (.aload_n 1, 1) := by decide +kernel
theorem dX1_firstHit_35 : decode cX1_firstHit 35 = .ok (.iload 4, 2) := by decide +kernel
theorem dX1_firstHit_37 : decode cX1_firstHit 37 = .ok (.invokevirtual 56, 3) := by decide +kernel
theorem dX1_firstHit_40 : decode cX1_firstHit 40 = .ok (.ifCond .eq 22, 3) := by decide +kernel
theorem dX1_firstHit_43 : decode cX1_firstHit 43 = .ok (.aload_n 0, 1) := by decide +kernel
theorem dX1_firstHit_44 : decode cX1_firstHit 44 = .ok (.aload_n 1, 1) := by decide +kernel
theorem dX1_firstHit_45 : decode cX1_firstHit 45 = .ok (.getfield 60, 3) := by decide +kernel
theorem dX1_firstHit_48 : decode cX1_firstHit 48 = .ok (.iload_n 3, 1) := by decide +kernel
theorem dX1_firstHit_49 : decode cX1_firstHit 49 = .ok (.iaload, 1) := by decide +kernel
theorem dX1_firstHit_50 : decode cX1_firstHit 50 = .ok (.aload_n 2, 1) := by decide +kernel
theorem dX1_firstHit_51 : decode cX1_firstHit 51 = .ok (.iload 4, 2) := by decide +kernel
theorem dX1_firstHit_53 : decode cX1_firstHit 53 = .ok (.invokevirtual 65, 3) := by decide +kernel
theorem dX1_firstHit_56 : decode cX1_firstHit 56 = .ok (.ifCond .eq 6, 3) := by decide +kernel
theorem dX1_firstHit_59 : decode cX1_firstHit 59 = .ok (.iload 4, 2) := by decide +kernel
theorem dX1_firstHit_61 : decode cX1_firstHit 61 = .ok (.ireturn, 1) := by decide +kernel
theorem dX1_firstHit_62 : decode cX1_firstHit 62 = .ok (.iinc 4 1, 3) := by decide +kernel
theorem dX1_firstHit_65 : decode cX1_firstHit 65 = .ok (.goto (-62), 3) := by decide +kernel
theorem dX1_firstHit_68 : decode cX1_firstHit 68 = .ok (.iconst (-1), 1) := by decide +kernel
theorem dX1_firstHit_69 : decode cX1_firstHit 69 = .ok (.ireturn, 1) := by decide +kernel
theorem dX1_hasInputsOfNow_0 : decode cX1_hasInputsOfNow 0 = .ok (.aload_n 0, 1) := by decide +kernel
theorem dX1_hasInputsOfNow_1 : decode cX1_hasInputsOfNow 1 = .ok (.getfield 9, 3) := by decide +kernel
theorem dX1_hasInputsOfNow_4 : decode cX1_hasInputsOfNow 4 = .ok (.iload_n 2, 1) := by decide +kernel
theorem dX1_hasInputsOfNow_5 : decode cX1_hasInputsOfNow 5 = .ok (.iaload, 1) := by decide +kernel
theorem dX1_hasInputsOfNow_6 : decode cX1_hasInputsOfNow 6 = .ok (.istore_n 3, 1) := by decide +kernel
theorem dX1_hasInputsOfNow_7 : decode cX1_hasInputsOfNow 7 = .ok (.iload_n 3, 1) := by decide +kernel
theorem dX1_hasInputsOfNow_8 : decode cX1_hasInputsOfNow 8 = .ok (.aload_n 1, 1) := by decide +kernel
theorem dX1_hasInputsOfNow_9 : decode cX1_hasInputsOfNow 9 = .ok (.getfield 69, 3) := by decide +kernel
theorem dX1_hasInputsOfNow_12 : decode cX1_hasInputsOfNow 12 = .ok (.invokestatic 70, 3) := by decide +kernel
theorem dX1_hasInputsOfNow_15 : decode cX1_hasInputsOfNow 15 = .ok (.ifCond .ne 5, 3) := by decide +kernel
theorem dX1_hasInputsOfNow_18 : decode cX1_hasInputsOfNow 18 = .ok (.iconst 0, 1) := by decide +kernel
theorem dX1_hasInputsOfNow_19 : decode cX1_hasInputsOfNow 19 = .ok (.ireturn, 1) := by decide +kernel
theorem dX1_hasInputsOfNow_20 : decode cX1_hasInputsOfNow 20 = .ok (.iconst 0, 1) := by decide +kernel
theorem dX1_hasInputsOfNow_21 : decode cX1_hasInputsOfNow 21 = .ok (.istore 4, 2) := by decide +kernel
theorem dX1_hasInputsOfNow_23 : decode cX1_hasInputsOfNow 23 = .ok (.iload 4, 2) := by decide +kernel
theorem dX1_hasInputsOfNow_25 : decode cX1_hasInputsOfNow 25 = .ok (.bipush 8, 2) := by decide +kernel
theorem dX1_hasInputsOfNow_27 : decode cX1_hasInputsOfNow 27 = .ok (.if_icmp .ge 48, 3) := by decide +kernel
theorem dX1_hasInputsOfNow_30 : decode cX1_hasInputsOfNow 30 = .ok (.aload_n 1, 1) := by decide +kernel
theorem dX1_hasInputsOfNow_31 : decode cX1_hasInputsOfNow 31 = .ok (.getfield 74, 3) := by decide +kernel
theorem dX1_hasInputsOfNow_34 : decode cX1_hasInputsOfNow 34 = .ok (.iload_n 3, 1) := by decide +kernel
theorem dX1_hasInputsOfNow_35 : decode cX1_hasInputsOfNow 35 = .ok (.iaload, 1) := by decide +kernel
theorem dX1_hasInputsOfNow_36 : decode cX1_hasInputsOfNow 36 = .ok (.i2l, 1) := by decide +kernel
theorem dX1_hasInputsOfNow_37 : decode cX1_hasInputsOfNow 37 = .ok (.iload 4, 2) := by decide +kernel
theorem dX1_hasInputsOfNow_39 : decode cX1_hasInputsOfNow 39 = .ok (.invokestatic 77, 3) := by decide +kernel
theorem dX1_hasInputsOfNow_42 : decode cX1_hasInputsOfNow 42 = .ok (.ifCond .eq 27, 3) := by decide +kernel
theorem dX1_hasInputsOfNow_45 : decode cX1_hasInputsOfNow 45 = .ok (.aload_n 0, 1) := by decide +kernel
theorem dX1_hasInputsOfNow_46 : decode cX1_hasInputsOfNow 46 = .ok (.getfield 36, 3) := by decide +kernel
theorem dX1_hasInputsOfNow_49 : decode cX1_hasInputsOfNow 49 = .ok (.iload_n 2, 1) := by decide +kernel
theorem dX1_hasInputsOfNow_50 : decode cX1_hasInputsOfNow 50 = .ok (.bipush 8, 2) := by decide +kernel
theorem dX1_hasInputsOfNow_52 : decode cX1_hasInputsOfNow 52 = .ok (.imul, 1) := by decide +kernel
theorem dX1_hasInputsOfNow_53 : decode cX1_hasInputsOfNow 53 = .ok (.iload 4, 2) := by decide +kernel
theorem dX1_hasInputsOfNow_55 : decode cX1_hasInputsOfNow 55 = .ok (.iadd, 1) := by decide +kernel
theorem dX1_hasInputsOfNow_56 : decode cX1_hasInputsOfNow 56 = .ok (.iaload, 1) := by decide +kernel
theorem dX1_hasInputsOfNow_57 : decode cX1_hasInputsOfNow 57 = .ok (.aload_n 1, 1) := by decide +kernel
theorem dX1_hasInputsOfNow_58 : decode cX1_hasInputsOfNow 58 = .ok (.getfield 81, 3) := by decide +kernel
theorem dX1_hasInputsOfNow_61 : decode cX1_hasInputsOfNow 61 = .ok (.iload 4, 2) := by decide +kernel
theorem dX1_hasInputsOfNow_63 : decode cX1_hasInputsOfNow 63 = .ok (.iaload, 1) := by decide +kernel
theorem dX1_hasInputsOfNow_64 : decode cX1_hasInputsOfNow 64 = .ok (.if_icmp .eq 5, 3) := by decide +kernel
theorem dX1_hasInputsOfNow_67 : decode cX1_hasInputsOfNow 67 = .ok (.iconst 0, 1) := by decide +kernel
theorem dX1_hasInputsOfNow_68 : decode cX1_hasInputsOfNow 68 = .ok (.ireturn, 1) := by decide +kernel
theorem dX1_hasInputsOfNow_69 : decode cX1_hasInputsOfNow 69 = .ok (.iinc 4 1, 3) := by decide +kernel
theorem dX1_hasInputsOfNow_72 : decode cX1_hasInputsOfNow 72 = .ok (.goto (-49), 3) := by decide +kernel
theorem dX1_hasInputsOfNow_75 : decode cX1_hasInputsOfNow 75 = .ok (.aload_n 0, 1) := by decide +kernel
theorem dX1_hasInputsOfNow_76 : decode cX1_hasInputsOfNow 76 = .ok (.aload_n 1, 1) := by decide +kernel
theorem dX1_hasInputsOfNow_77 : decode cX1_hasInputsOfNow 77 = .ok (.iload_n 2, 1) := by decide +kernel
theorem dX1_hasInputsOfNow_78 : decode cX1_hasInputsOfNow 78 = .ok (.invokevirtual 82, 3) := by decide +kernel
theorem dX1_hasInputsOfNow_81 : decode cX1_hasInputsOfNow 81 = .ok (.aload_n 1, 1) := by decide +kernel
theorem dX1_hasInputsOfNow_82 : decode cX1_hasInputsOfNow 82 = .ok (.getfield 86, 3) := by decide +kernel
theorem dX1_hasInputsOfNow_85 : decode cX1_hasInputsOfNow 85 = .ok (.iload_n 3, 1) := by decide +kernel
theorem dX1_hasInputsOfNow_86 : decode cX1_hasInputsOfNow 86 = .ok (.iaload, 1) := by decide +kernel
theorem dX1_hasInputsOfNow_87 : decode cX1_hasInputsOfNow 87 = .ok (.iand, 1) := by decide +kernel
theorem dX1_hasInputsOfNow_88 : decode cX1_hasInputsOfNow 88 = .ok (.aload_n 1, 1) := by decide +kernel
theorem dX1_hasInputsOfNow_89 : decode cX1_hasInputsOfNow 89 = .ok (.getfield 89, 3) := by decide +kernel
theorem dX1_hasInputsOfNow_92 : decode cX1_hasInputsOfNow 92 = .ok (.iload_n 3, 1) := by decide +kernel
theorem dX1_hasInputsOfNow_93 : decode cX1_hasInputsOfNow 93 = .ok (.iaload, 1) := by decide +kernel
theorem dX1_hasInputsOfNow_94 : decode cX1_hasInputsOfNow 94 = .ok (.iconst (-1), 1) := by decide +kernel
theorem dX1_hasInputsOfNow_95 : decode cX1_hasInputsOfNow 95 = .ok (.ixor, 1) := by decide +kernel
theorem dX1_hasInputsOfNow_96 : decode cX1_hasInputsOfNow 96 = .ok (.iand, 1) := by decide +kernel
theorem dX1_hasInputsOfNow_97 : decode cX1_hasInputsOfNow 97 = .ok (.ifCond .ne 7, 3) := by decide +kernel
theorem dX1_hasInputsOfNow_100 : decode cX1_hasInputsOfNow 100 = .ok (.iconst 1, 1) := by decide +kernel
theorem dX1_hasInputsOfNow_101 : decode cX1_hasInputsOfNow 101 = .ok (.goto 4, 3) := by decide +kernel
theorem dX1_hasInputsOfNow_104 : decode cX1_hasInputsOfNow 104 = .ok (.iconst 0, 1) := by decide +kernel
theorem dX1_hasInputsOfNow_105 : decode cX1_hasInputsOfNow 105 = .ok (.ireturn, 1) := by decide +kernel
theorem dX1_changedSettings_0 : decode cX1_changedSettings 0 = .ok (.iconst 0, 1) := by decide +kernel
theorem dX1_changedSettings_1 : decode cX1_changedSettings 1 = .ok (.istore_n 3, 1) := by decide +kernel
theorem dX1_changedSettings_2 : decode cX1_changedSettings 2 = .ok (.iconst 0, 1) := by decide +kernel
theorem dX1_changedSettings_3 : decode cX1_changedSettings 3 = .ok (.istore 4, 2) := by decide +kernel
theorem dX1_changedSettings_5 : decode cX1_changedSettings 5 = .ok (.iload 4, 2) := by decide +kernel
theorem dX1_changedSettings_7 : decode cX1_changedSettings 7 = .ok (.bipush 6, 2) := by decide +kernel
theorem dX1_changedSettings_9 : decode cX1_changedSettings 9 = .ok (.if_icmp .ge 38, 3) := by decide +kernel
theorem dX1_changedSettings_12 : decode cX1_changedSettings 12 = .ok (.aload_n 0, 1) := by decide +kernel
theorem dX1_changedSettings_13 : decode cX1_changedSettings 13 = .ok (.getfield 39, 3) := by decide +kernel
theorem dX1_changedSettings_16 : decode cX1_changedSettings 16 = .ok (.iload_n 2, 1) := by decide +kernel
theorem dX1_changedSettings_17 : decode cX1_changedSettings 17 = .ok (.bipush 6, 2) := by decide +kernel
theorem dX1_changedSettings_19 : decode cX1_changedSettings 19 = .ok (.imul, 1) := by decide +kernel
theorem dX1_changedSettings_20 : decode cX1_changedSettings 20 = .ok (.iload 4, 2) := by decide +kernel
theorem dX1_changedSettings_22 : decode cX1_changedSettings 22 = .ok (.iadd, 1) := by decide +kernel
theorem dX1_changedSettings_23 : decode cX1_changedSettings 23 = .ok (.iaload, 1) := by decide +kernel
theorem dX1_changedSettings_24 : decode cX1_changedSettings 24 = .ok (.aload_n 1, 1) := by decide +kernel
theorem dX1_changedSettings_25 : decode cX1_changedSettings 25 = .ok (.getfield 92, 3) := by decide +kernel
theorem dX1_changedSettings_28 : decode cX1_changedSettings 28 = .ok (.iload 4, 2) := by decide +kernel
theorem dX1_changedSettings_30 : decode cX1_changedSettings 30 = .ok (.iaload, 1) := by decide +kernel
theorem dX1_changedSettings_31 : decode cX1_changedSettings 31 = .ok (.if_icmp .eq 10, 3) := by decide +kernel
theorem dX1_changedSettings_34 : decode cX1_changedSettings 34 = .ok (.iload_n 3, 1) := by decide +kernel
theorem dX1_changedSettings_35 : decode cX1_changedSettings 35 = .ok (.iconst 1, 1) := by decide +kernel
theorem dX1_changedSettings_36 : decode cX1_changedSettings 36 = .ok (.iload 4, 2) := by decide +kernel
theorem dX1_changedSettings_38 : decode cX1_changedSettings 38 = .ok (.ishl, 1) := by decide +kernel
theorem dX1_changedSettings_39 : decode cX1_changedSettings 39 = .ok (.ior, 1) := by decide +kernel
theorem dX1_changedSettings_40 : decode cX1_changedSettings 40 = .ok (.istore_n 3, 1) := by decide +kernel
theorem dX1_changedSettings_41 : decode cX1_changedSettings 41 = .ok (.iinc 4 1, 3) := by decide +kernel
theorem dX1_changedSettings_44 : decode cX1_changedSettings 44 = .ok (.goto (-39), 3) := by decide +kernel
theorem dX1_changedSettings_47 : decode cX1_changedSettings 47 = .ok (.iload_n 3, 1) := by decide +kernel
theorem dX1_changedSettings_48 : decode cX1_changedSettings 48 = .ok (.ireturn, 1) := by decide +kernel
theorem dX1_hasPrints_0 : decode cX1_hasPrints 0 = .ok (.iconst 0, 1) := by decide +kernel
theorem dX1_hasPrints_1 : decode cX1_hasPrints 1 = .ok (.istore 4, 2) := by decide +kernel
theorem dX1_hasPrints_3 : decode cX1_hasPrints 3 = .ok (.iload 4, 2) := by decide +kernel
theorem dX1_hasPrints_5 : decode cX1_hasPrints 5 = .ok (.bipush 14, 2) := by decide +kernel
theorem dX1_hasPrints_7 : decode cX1_hasPrints 7 = .ok (.if_icmp .ge 43, 3) := by decide +kernel
theorem dX1_hasPrints_10 : decode cX1_hasPrints 10 = .ok (.iload_n 1, 1) := by decide +kernel
theorem dX1_hasPrints_11 : decode cX1_hasPrints 11 = .ok (.i2l, 1) := by decide +kernel
theorem dX1_hasPrints_12 : decode cX1_hasPrints 12 = .ok (.iload 4, 2) := by decide +kernel
theorem dX1_hasPrints_14 : decode cX1_hasPrints 14 = .ok (.invokestatic 77, 3) := by decide +kernel
theorem dX1_hasPrints_17 : decode cX1_hasPrints 17 = .ok (.ifCond .eq 27, 3) := by decide +kernel
theorem dX1_hasPrints_20 : decode cX1_hasPrints 20 = .ok (.aload_n 0, 1) := by decide +kernel
theorem dX1_hasPrints_21 : decode cX1_hasPrints 21 = .ok (.getfield 42, 3) := by decide +kernel
theorem dX1_hasPrints_24 : decode cX1_hasPrints 24 = .ok (.iload_n 3, 1) := by decide +kernel
theorem dX1_hasPrints_25 : decode cX1_hasPrints 25 = .ok (.bipush 14, 2) := by decide +kernel
theorem dX1_hasPrints_27 : decode cX1_hasPrints 27 = .ok (.imul, 1) := by decide +kernel
theorem dX1_hasPrints_28 : decode cX1_hasPrints 28 = .ok (.iload 4, 2) := by decide +kernel
theorem dX1_hasPrints_30 : decode cX1_hasPrints 30 = .ok (.iadd, 1) := by decide +kernel
theorem dX1_hasPrints_31 : decode cX1_hasPrints 31 = .ok (.iaload, 1) := by decide +kernel
theorem dX1_hasPrints_32 : decode cX1_hasPrints 32 = .ok (.aload_n 2, 1) := by decide +kernel
theorem dX1_hasPrints_33 : decode cX1_hasPrints 33 = .ok (.getfield 93, 3) := by decide +kernel
theorem dX1_hasPrints_36 : decode cX1_hasPrints 36 = .ok (.iload 4, 2) := by decide +kernel
theorem dX1_hasPrints_38 : decode cX1_hasPrints 38 = .ok (.iaload, 1) := by decide +kernel
theorem dX1_hasPrints_39 : decode cX1_hasPrints 39 = .ok (.if_icmp .eq 5, 3) := by decide +kernel
theorem dX1_hasPrints_42 : decode cX1_hasPrints 42 = .ok (.iconst 0, 1) := by decide +kernel
theorem dX1_hasPrints_43 : decode cX1_hasPrints 43 = .ok (.ireturn, 1) := by decide +kernel
theorem dX1_hasPrints_44 : decode cX1_hasPrints 44 = .ok (.iinc 4 1, 3) := by decide +kernel
theorem dX1_hasPrints_47 : decode cX1_hasPrints 47 = .ok (.goto (-44), 3) := by decide +kernel
theorem dX1_hasPrints_50 : decode cX1_hasPrints 50 = .ok (.iconst 1, 1) := by decide +kernel
theorem dX1_hasPrints_51 : decode cX1_hasPrints 51 = .ok (.ireturn, 1) := by decide +kernel
theorem dX1_add_0 : decode cX1_add 0 = .ok (.aload_n 0, 1) := by decide +kernel
theorem dX1_add_1 : decode cX1_add 1 = .ok (.getfield 52, 3) := by decide +kernel
theorem dX1_add_4 : decode cX1_add 4 = .ok (.istore 4, 2) := by decide +kernel
theorem dX1_add_6 : decode cX1_add 6 = .ok (.aload_n 0, 1) := by decide +kernel
theorem dX1_add_7 : decode cX1_add 7 = .ok (.getfield 9, 3) := by decide +kernel
theorem dX1_add_10 : decode cX1_add 10 = .ok (.iload 4, 2) := by decide +kernel
theorem dX1_add_12 : decode cX1_add 12 = .ok (.iload_n 3, 1) := by decide +kernel
theorem dX1_add_13 : decode cX1_add 13 = .ok (.iastore, 1) := by decide +kernel
theorem dX1_add_14 : decode cX1_add 14 = .ok (.aload_n 0, 1) := by decide +kernel
theorem dX1_add_15 : decode cX1_add 15 = .ok (.getfield 30, 3) := by decide +kernel
theorem dX1_add_18 : decode cX1_add 18 = .ok (.iload 4, 2) := by decide +kernel
theorem dX1_add_20 : decode cX1_add 20 = .ok (.aload_n 1, 1) := by decide +kernel
theorem dX1_add_21 : decode cX1_add 21 = .ok (.getfield 96, 3) := by decide +kernel
theorem dX1_add_24 : decode cX1_add 24 = .ok (.iload_n 3, 1) := by decide +kernel
theorem dX1_add_25 : decode cX1_add 25 = .ok (.iaload, 1) := by decide +kernel
theorem dX1_add_26 : decode cX1_add 26 = .ok (.iastore, 1) := by decide +kernel
theorem dX1_add_27 : decode cX1_add 27 = .ok (.aload_n 0, 1) := by decide +kernel
theorem dX1_add_28 : decode cX1_add 28 = .ok (.getfield 33, 3) := by decide +kernel
theorem dX1_add_31 : decode cX1_add 31 = .ok (.iload 4, 2) := by decide +kernel
theorem dX1_add_33 : decode cX1_add 33 = .ok (.aload_n 1, 1) := by decide +kernel
theorem dX1_add_34 : decode cX1_add 34 = .ok (.getfield 97, 3) := by decide +kernel
theorem dX1_add_37 : decode cX1_add 37 = .ok (.iload_n 3, 1) := by decide +kernel
theorem dX1_add_38 : decode cX1_add 38 = .ok (.iaload, 1) := by decide +kernel
theorem dX1_add_39 : decode cX1_add 39 = .ok (.iastore, 1) := by decide +kernel
theorem dX1_add_40 : decode cX1_add 40 = .ok (.aload_n 0, 1) := by decide +kernel
theorem dX1_add_41 : decode cX1_add 41 = .ok (.getfield 24, 3) := by decide +kernel
theorem dX1_add_44 : decode cX1_add 44 = .ok (.iload 4, 2) := by decide +kernel
theorem dX1_add_46 : decode cX1_add 46 = .ok (.iconst 0, 1) := by decide +kernel
theorem dX1_add_47 : decode cX1_add 47 = .ok (.iastore, 1) := by decide +kernel
theorem dX1_add_48 : decode cX1_add 48 = .ok (.aload_n 0, 1) := by decide +kernel
theorem dX1_add_49 : decode cX1_add 49 = .ok (.getfield 48, 3) := by decide +kernel
theorem dX1_add_52 : decode cX1_add 52 = .ok (.iload 4, 2) := by decide +kernel
theorem dX1_add_54 : decode cX1_add 54 = .ok (.lconst 0, 1) := by decide +kernel
theorem dX1_add_55 : decode cX1_add 55 = .ok (.lastore, 1) := by decide +kernel
theorem dX1_add_56 : decode cX1_add 56 = .ok (.aload_n 1, 1) := by decide +kernel
theorem dX1_add_57 : decode cX1_add 57 = .ok (.getfield 81, 3) := by decide +kernel
theorem dX1_add_60 : decode cX1_add 60 = .ok (.iconst 0, 1) := by decide +kernel
theorem dX1_add_61 : decode cX1_add 61 = .ok (.aload_n 0, 1) := by decide +kernel
theorem dX1_add_62 : decode cX1_add 62 = .ok (.getfield 36, 3) := by decide +kernel
theorem dX1_add_65 : decode cX1_add 65 = .ok (.iload 4, 2) := by decide +kernel
theorem dX1_add_67 : decode cX1_add 67 = .ok (.bipush 8, 2) := by decide +kernel
theorem dX1_add_69 : decode cX1_add 69 = .ok (.imul, 1) := by decide +kernel
theorem dX1_add_70 : decode cX1_add 70 = .ok (.bipush 8, 2) := by decide +kernel
theorem dX1_add_72 : decode cX1_add 72 = .ok (.invokestatic 98, 3) := by decide +kernel
theorem dX1_add_75 : decode cX1_add 75 = .ok (.aload_n 1, 1) := by decide +kernel
theorem dX1_add_76 : decode cX1_add 76 = .ok (.getfield 92, 3) := by decide +kernel
theorem dX1_add_79 : decode cX1_add 79 = .ok (.iconst 0, 1) := by decide +kernel
theorem dX1_add_80 : decode cX1_add 80 = .ok (.aload_n 0, 1) := by decide +kernel
theorem dX1_add_81 : decode cX1_add 81 = .ok (.getfield 39, 3) := by decide +kernel
theorem dX1_add_84 : decode cX1_add 84 = .ok (.iload 4, 2) := by decide +kernel
theorem dX1_add_86 : decode cX1_add 86 = .ok (.bipush 6, 2) := by decide +kernel
theorem dX1_add_88 : decode cX1_add 88 = .ok (.imul, 1) := by decide +kernel
theorem dX1_add_89 : decode cX1_add 89 = .ok (.bipush 6, 2) := by decide +kernel
theorem dX1_add_91 : decode cX1_add 91 = .ok (.invokestatic 98, 3) := by decide +kernel
theorem dX1_add_94 : decode cX1_add 94 = .ok (.iconst 0, 1) := by decide +kernel
theorem dX1_add_95 : decode cX1_add 95 = .ok (.istore 5, 2) := by decide +kernel
theorem dX1_add_97 : decode cX1_add 97 = .ok (.iload 5, 2) := by decide +kernel
theorem dX1_add_99 : decode cX1_add 99 = .ok (.bipush 14, 2) := by decide +kernel
theorem dX1_add_101 : decode cX1_add 101 = .ok (.if_icmp .ge 109, 3) := by decide +kernel
theorem dX1_add_104 : decode cX1_add 104 = .ok (.aload_n 1, 1) := by decide +kernel
theorem dX1_add_105 : decode cX1_add 105 = .ok (.getfield 60, 3) := by decide +kernel
theorem dX1_add_108 : decode cX1_add 108 = .ok (.iload_n 3, 1) := by decide +kernel
theorem dX1_add_109 : decode cX1_add 109 = .ok (.iaload, 1) := by decide +kernel
theorem dX1_add_110 : decode cX1_add 110 = .ok (.i2l, 1) := by decide +kernel
theorem dX1_add_111 : decode cX1_add 111 = .ok (.iload 5, 2) := by decide +kernel
theorem dX1_add_113 : decode cX1_add 113 = .ok (.invokestatic 77, 3) := by decide +kernel
theorem dX1_add_116 : decode cX1_add 116 = .ok (.istore 6, 2) := by decide +kernel
theorem dX1_add_118 : decode cX1_add 118 = .ok (.aload_n 0, 1) := by decide +kernel
theorem dX1_add_119 : decode cX1_add 119 = .ok (.getfield 42, 3) := by decide +kernel
theorem dX1_add_122 : decode cX1_add 122 = .ok (.iload 4, 2) := by decide +kernel
theorem dX1_add_124 : decode cX1_add 124 = .ok (.bipush 14, 2) := by decide +kernel
theorem dX1_add_126 : decode cX1_add 126 = .ok (.imul, 1) := by decide +kernel
theorem dX1_add_127 : decode cX1_add 127 = .ok (.iload 5, 2) := by decide +kernel
theorem dX1_add_129 : decode cX1_add 129 = .ok (.iadd, 1) := by decide +kernel
theorem dX1_add_130 : decode cX1_add 130 = .ok (.iload 6, 2) := by decide +kernel
theorem dX1_add_132 : decode cX1_add 132 = .ok (.ifCond .eq 13, 3) := by decide +kernel
theorem dX1_add_135 : decode cX1_add 135 = .ok (.aload_n 2, 1) := by decide +kernel
theorem dX1_add_136 : decode cX1_add 136 = .ok (.getfield 93, 3) := by decide +kernel
theorem dX1_add_139 : decode cX1_add 139 = .ok (.iload 5, 2) := by decide +kernel
theorem dX1_add_141 : decode cX1_add 141 = .ok (.iaload, 1) := by decide +kernel
theorem dX1_add_142 : decode cX1_add 142 = .ok (.goto 4, 3) := by decide +kernel
theorem dX1_add_145 : decode cX1_add 145 = .ok (.iconst (-1), 1) := by decide +kernel
theorem dX1_add_146 : decode cX1_add 146 = .ok (.iastore, 1) := by decide +kernel
theorem dX1_add_147 : decode cX1_add 147 = .ok (.aload_n 0, 1) := by decide +kernel
theorem dX1_add_148 : decode cX1_add 148 = .ok (.getfield 45, 3) := by decide +kernel
theorem dX1_add_151 : decode cX1_add 151 = .ok (.iload 4, 2) := by decide +kernel
theorem dX1_add_153 : decode cX1_add 153 = .ok (.bipush 14, 2) := by decide +kernel
theorem dX1_add_155 : decode cX1_add 155 = .ok (.imul, 1) := by decide +kernel
theorem dX1_add_156 : decode cX1_add 156 = .ok (.iload 5, 2) := by decide +kernel
theorem dX1_add_158 : decode cX1_add 158 = .ok (.iadd, 1) := by decide +kernel
theorem dX1_add_159 : decode cX1_add 159 = .ok (.iload 6, 2) := by decide +kernel
theorem dX1_add_161 : decode cX1_add 161 = .ok (.ifCond .eq 13, 3) := by decide +kernel
theorem dX1_add_164 : decode cX1_add 164 = .ok (.aload_n 2, 1) := by decide +kernel
theorem dX1_add_165 : decode cX1_add 165 = .ok (.getfield 104, 3) := by decide +kernel
theorem dX1_add_168 : decode cX1_add 168 = .ok (.iload 5, 2) := by decide +kernel
theorem dX1_add_170 : decode cX1_add 170 = .ok (.iaload, 1) := by decide +kernel
theorem dX1_add_171 : decode cX1_add 171 = .ok (.goto 4, 3) := by decide +kernel
theorem dX1_add_174 : decode cX1_add 174 = .ok (.iconst (-1), 1) := by decide +kernel
theorem dX1_add_175 : decode cX1_add 175 = .ok (.iastore, 1) := by decide +kernel
theorem dX1_add_176 : decode cX1_add 176 = .ok (.aload_n 0, 1) := by decide +kernel
theorem dX1_add_177 : decode cX1_add 177 = .ok (.getfield 48, 3) := by decide +kernel
theorem dX1_add_180 : decode cX1_add 180 = .ok (.iload 4, 2) := by decide +kernel
theorem dX1_add_182 : decode cX1_add 182 = .ok (.dup2, 1) := by decide +kernel
theorem dX1_add_183 : decode cX1_add 183 = .ok (.laload, 1) := by decide +kernel
theorem dX1_add_184 : decode cX1_add 184 = .ok (.iload 6, 2) := by decide +kernel
theorem dX1_add_186 : decode cX1_add 186 = .ok (.ifCond .eq 15, 3) := by decide +kernel
theorem dX1_add_189 : decode cX1_add 189 = .ok (.lconst 1, 1) := by decide +kernel
theorem dX1_add_190 : decode cX1_add 190 = .ok (.aload_n 2, 1) := by decide +kernel
theorem dX1_add_191 : decode cX1_add 191 = .ok (.getfield 104, 3) := by decide +kernel
theorem dX1_add_194 : decode cX1_add 194 = .ok (.iload 5, 2) := by decide +kernel
theorem dX1_add_196 : decode cX1_add 196 = .ok (.iaload, 1) := by decide +kernel
theorem dX1_add_197 : decode cX1_add 197 = .ok (.lshl, 1) := by decide +kernel
theorem dX1_add_198 : decode cX1_add 198 = .ok (.goto 4, 3) := by decide +kernel
theorem dX1_add_201 : decode cX1_add 201 = .ok (.lconst 0, 1) := by decide +kernel
theorem dX1_add_202 : decode cX1_add 202 = .ok (.lor, 1) := by decide +kernel
theorem dX1_add_203 : decode cX1_add 203 = .ok (.lastore, 1) := by decide +kernel
theorem dX1_add_204 : decode cX1_add 204 = .ok (.iinc 5 1, 3) := by decide +kernel
theorem dX1_add_207 : decode cX1_add 207 = .ok (.goto (-110), 3) := by decide +kernel
theorem dX1_add_210 : decode cX1_add 210 = .ok (.aload_n 0, 1) := by decide +kernel
theorem dX1_add_211 : decode cX1_add 211 = .ok (.dup, 1) := by decide +kernel
theorem dX1_add_212 : decode cX1_add 212 = .ok (.getfield 52, 3) := by decide +kernel
theorem dX1_add_215 : decode cX1_add 215 = .ok (.iconst 1, 1) := by decide +kernel
theorem dX1_add_216 : decode cX1_add 216 = .ok (.iadd, 1) := by decide +kernel
theorem dX1_add_217 : decode cX1_add 217 = .ok (.putfield 52, 3) := by decide +kernel
theorem dX1_add_220 : decode cX1_add 220 = .ok (.iload 4, 2) := by decide +kernel
theorem dX1_add_222 : decode cX1_add 222 = .ok (.ireturn, 1) := by decide +kernel
theorem dX1_offspring_0 : decode cX1_offspring 0 = .ok (.lconst 1, 1) := by decide +kernel
theorem dX1_offspring_1 : decode cX1_offspring 1 = .ok (.iload_n 1, 1) := by decide +kernel
theorem dX1_offspring_2 : decode cX1_offspring 2 = .ok (.lshl, 1) := by decide +kernel
theorem dX1_offspring_3 : decode cX1_offspring 3 = .ok (.lstore_n 2, 1) := by decide +kernel
theorem dX1_offspring_4 : decode cX1_offspring 4 = .ok (.iload_n 1, 1) := by decide +kernel
theorem dX1_offspring_5 : decode cX1_offspring 5 = .ok (.iconst 1, 1) := by decide +kernel
theorem dX1_offspring_6 : decode cX1_offspring 6 = .ok (.iadd, 1) := by decide +kernel
theorem dX1_offspring_7 : decode cX1_offspring 7 = .ok (.istore 4, 2) := by decide +kernel
theorem dX1_offspring_9 : decode cX1_offspring 9 = .ok (.iload 4, 2) := by decide +kernel
theorem dX1_offspring_11 : decode cX1_offspring 11 = .ok (.aload_n 0, 1) := by decide +kernel
theorem dX1_offspring_12 : decode cX1_offspring 12 = .ok (.getfield 52, 3) := by decide +kernel
theorem dX1_offspring_15 : decode cX1_offspring 15 = .ok (.if_icmp .ge 30, 3) := by decide +kernel
theorem dX1_offspring_18 : decode cX1_offspring 18 = .ok (.aload_n 0, 1) := by decide +kernel
theorem dX1_offspring_19 : decode cX1_offspring 19 = .ok (.getfield 48, 3) := by decide +kernel
theorem dX1_offspring_22 : decode cX1_offspring 22 = .ok (.iload 4, 2) := by decide +kernel
theorem dX1_offspring_24 : decode cX1_offspring 24 = .ok (.laload, 1) := by decide +kernel
theorem dX1_offspring_25 : decode cX1_offspring 25 = .ok (.lload_n 2, 1) := by decide +kernel
theorem dX1_offspring_26 : decode cX1_offspring 26 = .ok (.land, 1) := by decide +kernel
theorem dX1_offspring_27 : decode cX1_offspring 27 = .ok (.lconst 0, 1) := by decide +kernel
theorem dX1_offspring_28 : decode cX1_offspring 28 = .ok (.lcmp, 1) := by decide +kernel
theorem dX1_offspring_29 : decode cX1_offspring 29 = .ok (.ifCond .eq 10, 3) := by decide +kernel
theorem dX1_offspring_32 : decode cX1_offspring 32 = .ok (.lload_n 2, 1) := by decide +kernel
theorem dX1_offspring_33 : decode cX1_offspring 33 = .ok (.lconst 1, 1) := by decide +kernel
theorem dX1_offspring_34 : decode cX1_offspring 34 = .ok (.iload 4, 2) := by decide +kernel
theorem dX1_offspring_36 : decode cX1_offspring 36 = .ok (.lshl, 1) := by decide +kernel
theorem dX1_offspring_37 : decode cX1_offspring 37 = .ok (.lor, 1) := by decide +kernel
theorem dX1_offspring_38 : decode cX1_offspring 38 = .ok (.lstore_n 2, 1) := by decide +kernel
theorem dX1_offspring_39 : decode cX1_offspring 39 = .ok (.iinc 4 1, 3) := by decide +kernel
theorem dX1_offspring_42 : decode cX1_offspring 42 = .ok (.goto (-33), 3) := by decide +kernel
theorem dX1_offspring_45 : decode cX1_offspring 45 = .ok (.lload_n 2, 1) := by decide +kernel
theorem dX1_offspring_46 : decode cX1_offspring 46 = .ok (.lconst 1, 1) := by decide +kernel
theorem dX1_offspring_47 : decode cX1_offspring 47 = .ok (.iload_n 1, 1) := by decide +kernel
theorem dX1_offspring_48 : decode cX1_offspring 48 = .ok (.lshl, 1) := by decide +kernel
theorem dX1_offspring_49 : decode cX1_offspring 49 = .ok (.ldc2_w 107, 3) := by decide +kernel
theorem dX1_offspring_52 : decode cX1_offspring 52 = .ok (.lxor, 1) := by decide +kernel
theorem dX1_offspring_53 : decode cX1_offspring 53 = .ok (.land, 1) := by decide +kernel
theorem dX1_offspring_54 : decode cX1_offspring 54 = .ok (.lreturn, 1) := by decide +kernel
theorem dX1_poison_0 : decode cX1_poison 0 = .ok (.aload_n 0, 1) := by decide +kernel
theorem dX1_poison_1 : decode cX1_poison 1 = .ok (.iload_n 1, 1) := by decide +kernel
theorem dX1_poison_2 : decode cX1_poison 2 = .ok (.invokevirtual 109, 3) := by decide +kernel
theorem dX1_poison_5 : decode cX1_poison 5 = .ok (.lconst 1, 1) := by decide +kernel
theorem dX1_poison_6 : decode cX1_poison 6 = .ok (.iload_n 1, 1) := by decide +kernel
theorem dX1_poison_7 : decode cX1_poison 7 = .ok (.lshl, 1) := by decide +kernel
theorem dX1_poison_8 : decode cX1_poison 8 = .ok (.lor, 1) := by decide +kernel
theorem dX1_poison_9 : decode cX1_poison 9 = .ok (.lstore_n 2, 1) := by decide +kernel
theorem dX1_poison_10 : decode cX1_poison 10 = .ok (.iload_n 1, 1) := by decide +kernel
theorem dX1_poison_11 : decode cX1_poison 11 = .ok (.istore 4, 2) := by decide +kernel
theorem dX1_poison_13 : decode cX1_poison 13 = .ok (.iload 4, 2) := by decide +kernel
theorem dX1_poison_15 : decode cX1_poison 15 = .ok (.aload_n 0, 1) := by decide +kernel
theorem dX1_poison_16 : decode cX1_poison 16 = .ok (.getfield 52, 3) := by decide +kernel
theorem dX1_poison_19 : decode cX1_poison 19 = .ok (.if_icmp .ge 26, 3) := by decide +kernel
theorem dX1_poison_22 : decode cX1_poison 22 = .ok (.lload_n 2, 1) := by decide +kernel
theorem dX1_poison_23 : decode cX1_poison 23 = .ok (.iload 4, 2) := by decide +kernel
theorem dX1_poison_25 : decode cX1_poison 25 = .ok (.invokestatic 77, 3) := by decide +kernel
theorem dX1_poison_28 : decode cX1_poison 28 = .ok (.ifCond .eq 11, 3) := by decide +kernel
theorem dX1_poison_31 : decode cX1_poison 31 = .ok (.aload_n 0, 1) := by decide +kernel
theorem dX1_poison_32 : decode cX1_poison 32 = .ok (.getfield 27, 3) := by decide +kernel
theorem dX1_poison_35 : decode cX1_poison 35 = .ok (.iload 4, 2) := by decide +kernel
theorem dX1_poison_37 : decode cX1_poison 37 = .ok (.iconst 2, 1) := by decide +kernel
theorem dX1_poison_38 : decode cX1_poison 38 = .ok (.iastore, 1) := by decide +kernel
theorem dX1_poison_39 : decode cX1_poison 39 = .ok (.iinc 4 1, 3) := by decide +kernel
theorem dX1_poison_42 : decode cX1_poison 42 = .ok (.goto (-29), 3) := by decide +kernel
theorem dX1_poison_45 : decode cX1_poison 45 = .ok (.return_, 1) := by decide +kernel
theorem dX1_dropAllOf_0 : decode cX1_dropAllOf 0 = .ok (.iconst 0, 1) := by decide +kernel
theorem dX1_dropAllOf_1 : decode cX1_dropAllOf 1 = .ok (.istore_n 2, 1) := by decide +kernel
theorem dX1_dropAllOf_2 : decode cX1_dropAllOf 2 = .ok (.iload_n 2, 1) := by decide +kernel
theorem dX1_dropAllOf_3 : decode cX1_dropAllOf 3 = .ok (.aload_n 0, 1) := by decide +kernel
theorem dX1_dropAllOf_4 : decode cX1_dropAllOf 4 = .ok (.getfield 52, 3) := by decide +kernel
theorem dX1_dropAllOf_7 : decode cX1_dropAllOf 7 = .ok (.if_icmp .ge 35, 3) := by decide +kernel
theorem dX1_dropAllOf_10 : decode cX1_dropAllOf 10 = .ok (.aload_n 0, 1) := by decide +kernel
theorem dX1_dropAllOf_11 : decode cX1_dropAllOf 11 = .ok (.getfield 9, 3) := by decide +kernel
theorem dX1_dropAllOf_14 : decode cX1_dropAllOf 14 = .ok (.iload_n 2, 1) := by decide +kernel
theorem dX1_dropAllOf_15 : decode cX1_dropAllOf 15 = .ok (.iaload, 1) := by decide +kernel
theorem dX1_dropAllOf_16 : decode cX1_dropAllOf 16 = .ok (.iload_n 1, 1) := by decide +kernel
theorem dX1_dropAllOf_17 : decode cX1_dropAllOf 17 = .ok (.if_icmp .ne 19, 3) := by decide +kernel
theorem dX1_dropAllOf_20 : decode cX1_dropAllOf 20 = .ok (.aload_n 0, 1) := by decide +kernel
theorem dX1_dropAllOf_21 : decode cX1_dropAllOf 21 = .ok (.getfield 27, 3) := by decide +kernel
theorem dX1_dropAllOf_24 : decode cX1_dropAllOf 24 = .ok (.iload_n 2, 1) := by decide +kernel
theorem dX1_dropAllOf_25 : decode cX1_dropAllOf 25 = .ok (.iaload, 1) := by decide +kernel
theorem dX1_dropAllOf_26 : decode cX1_dropAllOf 26 = .ok (.ifCond .ne 10, 3) := by decide +kernel
theorem dX1_dropAllOf_29 : decode cX1_dropAllOf 29 = .ok (.aload_n 0, 1) := by decide +kernel
theorem dX1_dropAllOf_30 : decode cX1_dropAllOf 30 = .ok (.getfield 27, 3) := by decide +kernel
theorem dX1_dropAllOf_33 : decode cX1_dropAllOf 33 = .ok (.iload_n 2, 1) := by decide +kernel
theorem dX1_dropAllOf_34 : decode cX1_dropAllOf 34 = .ok (.iconst 1, 1) := by decide +kernel
theorem dX1_dropAllOf_35 : decode cX1_dropAllOf 35 = .ok (.iastore, 1) := by decide +kernel
theorem dX1_dropAllOf_36 : decode cX1_dropAllOf 36 = .ok (.iinc 2 1, 3) := by decide +kernel
theorem dX1_dropAllOf_39 : decode cX1_dropAllOf 39 = .ok (.goto (-37), 3) := by decide +kernel
theorem dX1_dropAllOf_42 : decode cX1_dropAllOf 42 = .ok (.return_, 1) := by decide +kernel
theorem dX1_makeRoom_0 : decode cX1_makeRoom 0 = .ok (.iconst 0, 1) := by decide +kernel
theorem dX1_makeRoom_1 : decode cX1_makeRoom 1 = .ok (.istore_n 3, 1) := by decide +kernel
theorem dX1_makeRoom_2 : decode cX1_makeRoom 2 = .ok (.iload_n 3, 1) := by decide +kernel
theorem dX1_makeRoom_3 : decode cX1_makeRoom 3 = .ok (.bipush 60, 2) := by decide +kernel
theorem dX1_makeRoom_5 : decode cX1_makeRoom 5 = .ok (.if_icmp .ge 41, 3) := by decide +kernel
theorem dX1_makeRoom_8 : decode cX1_makeRoom 8 = .ok (.aload_n 0, 1) := by decide +kernel
theorem dX1_makeRoom_9 : decode cX1_makeRoom 9 = .ok (.iload_n 1, 1) := by decide +kernel
theorem dX1_makeRoom_10 : decode cX1_makeRoom 10 = .ok (.invokevirtual 113, 3) := by decide +kernel
theorem dX1_makeRoom_13 : decode cX1_makeRoom 13 = .ok (.iload_n 2, 1) := by decide +kernel
theorem dX1_makeRoom_14 : decode cX1_makeRoom 14 = .ok (.if_icmp .le 32, 3) := by decide +kernel
theorem dX1_makeRoom_17 : decode cX1_makeRoom 17 = .ok (.aload_n 0, 1) := by decide +kernel
theorem dX1_makeRoom_18 : decode cX1_makeRoom 18 = .ok (.iload_n 1, 1) := by decide +kernel
theorem dX1_makeRoom_19 : decode cX1_makeRoom 19 = .ok (.invokevirtual 117, 3) := by decide +kernel
theorem dX1_makeRoom_22 : decode cX1_makeRoom 22 = .ok (.istore 4, 2) := by decide +kernel
theorem dX1_makeRoom_24 : decode cX1_makeRoom 24 = .ok (.iload 4, 2) := by decide +kernel
theorem dX1_makeRoom_26 : decode cX1_makeRoom 26 = .ok (.iconst (-1), 1) := by decide +kernel
theorem dX1_makeRoom_27 : decode cX1_makeRoom 27 = .ok (.if_icmp .ne 5, 3) := by decide +kernel
theorem dX1_makeRoom_30 : decode cX1_makeRoom 30 = .ok (.iload_n 3, 1) := by decide +kernel
theorem dX1_makeRoom_31 : decode cX1_makeRoom 31 = .ok (.ireturn, 1) := by decide +kernel
theorem dX1_makeRoom_32 : decode cX1_makeRoom 32 = .ok (.aload_n 0, 1) := by decide +kernel
theorem dX1_makeRoom_33 : decode cX1_makeRoom 33 = .ok (.getfield 27, 3) := by decide +kernel
theorem dX1_makeRoom_36 : decode cX1_makeRoom 36 = .ok (.iload 4, 2) := by decide +kernel
theorem dX1_makeRoom_38 : decode cX1_makeRoom 38 = .ok (.iconst 1, 1) := by decide +kernel
theorem dX1_makeRoom_39 : decode cX1_makeRoom 39 = .ok (.iastore, 1) := by decide +kernel
theorem dX1_makeRoom_40 : decode cX1_makeRoom 40 = .ok (.iinc 3 1, 3) := by decide +kernel
theorem dX1_makeRoom_43 : decode cX1_makeRoom 43 = .ok (.goto (-41), 3) := by decide +kernel
theorem dX1_makeRoom_46 : decode cX1_makeRoom 46 = .ok (.iload_n 3, 1) := by decide +kernel
theorem dX1_makeRoom_47 : decode cX1_makeRoom 47 = .ok (.ireturn, 1) := by decide +kernel
theorem dX1_leastWorth_0 : decode cX1_leastWorth 0 = .ok (.iconst (-1), 1) := by decide +kernel
theorem dX1_leastWorth_1 : decode cX1_leastWorth 1 = .ok (.istore_n 2, 1) := by decide +kernel
theorem dX1_leastWorth_2 : decode cX1_leastWorth 2 = .ok (.iconst 0, 1) := by decide +kernel
theorem dX1_leastWorth_3 : decode cX1_leastWorth 3 = .ok (.istore_n 3, 1) := by decide +kernel
theorem dX1_leastWorth_4 : decode cX1_leastWorth 4 = .ok (.iload_n 3, 1) := by decide +kernel
theorem dX1_leastWorth_5 : decode cX1_leastWorth 5 = .ok (.aload_n 0, 1) := by decide +kernel
theorem dX1_leastWorth_6 : decode cX1_leastWorth 6 = .ok (.getfield 52, 3) := by decide +kernel
theorem dX1_leastWorth_9 : decode cX1_leastWorth 9 = .ok (.if_icmp .ge 38, 3) := by decide +kernel
theorem dX1_leastWorth_12 : decode cX1_leastWorth 12 = .ok (.aload_n 0, 1) := by decide +kernel
theorem dX1_leastWorth_13 : decode cX1_leastWorth 13 = .ok (.iload_n 3, 1) := by decide +kernel
theorem dX1_leastWorth_14 : decode cX1_leastWorth 14 = .ok (.iload_n 1, 1) := by decide +kernel
theorem dX1_leastWorth_15 : decode cX1_leastWorth 15 = .ok (.invokevirtual 120, 3) := by decide +kernel
theorem dX1_leastWorth_18 : decode cX1_leastWorth 18 = .ok (.ifCond .eq 23, 3) := by decide +kernel
theorem dX1_leastWorth_21 : decode cX1_leastWorth 21 = .ok (.iload_n 2, 1) := by decide +kernel
theorem dX1_leastWorth_22 : decode cX1_leastWorth 22 = .ok (.iconst (-1), 1) := by decide +kernel
theorem dX1_leastWorth_23 : decode cX1_leastWorth 23 = .ok (.if_icmp .eq 16, 3) := by decide +kernel
theorem dX1_leastWorth_26 : decode cX1_leastWorth 26 = .ok (.aload_n 0, 1) := by decide +kernel
theorem dX1_leastWorth_27 : decode cX1_leastWorth 27 = .ok (.iload_n 3, 1) := by decide +kernel
theorem dX1_leastWorth_28 : decode cX1_leastWorth 28 = .ok (.invokevirtual 123, 3) := by decide +kernel
theorem dX1_leastWorth_31 : decode cX1_leastWorth 31 = .ok (.aload_n 0, 1) := by decide +kernel
theorem dX1_leastWorth_32 : decode cX1_leastWorth 32 = .ok (.iload_n 2, 1) := by decide +kernel
theorem dX1_leastWorth_33 : decode cX1_leastWorth 33 = .ok (.invokevirtual 123, 3) := by decide +kernel
theorem dX1_leastWorth_36 : decode cX1_leastWorth 36 = .ok (.if_icmp .ge 5, 3) := by decide +kernel
theorem dX1_leastWorth_39 : decode cX1_leastWorth 39 = .ok (.iload_n 3, 1) := by decide +kernel
theorem dX1_leastWorth_40 : decode cX1_leastWorth 40 = .ok (.istore_n 2, 1) := by decide +kernel
theorem dX1_leastWorth_41 : decode cX1_leastWorth 41 = .ok (.iinc 3 1, 3) := by decide +kernel
theorem dX1_leastWorth_44 : decode cX1_leastWorth 44 = .ok (.goto (-40), 3) := by decide +kernel
theorem dX1_leastWorth_47 : decode cX1_leastWorth 47 = .ok (.iload_n 2, 1) := by decide +kernel
theorem dX1_leastWorth_48 : decode cX1_leastWorth 48 = .ok (.ireturn, 1) := by decide +kernel
theorem dX1_worth_0 : decode cX1_worth 0 = .ok (.aload_n 0, 1) := by decide +kernel
theorem dX1_worth_1 : decode cX1_worth 1 = .ok (.getfield 33, 3) := by decide +kernel
theorem dX1_worth_4 : decode cX1_worth 4 = .ok (.iload_n 1, 1) := by decide +kernel
theorem dX1_worth_5 : decode cX1_worth 5 = .ok (.iaload, 1) := by decide +kernel
theorem dX1_worth_6 : decode cX1_worth 6 = .ok (.iconst 1, 1) := by decide +kernel
theorem dX1_worth_7 : decode cX1_worth 7 = .ok (.if_icmp .ge 7, 3) := by decide +kernel
theorem dX1_worth_10 : decode cX1_worth 10 = .ok (.iconst 0, 1) := by decide +kernel
theorem dX1_worth_11 : decode cX1_worth 11 = .ok (.goto 28, 3) := by decide +kernel
theorem dX1_worth_14 : decode cX1_worth 14 = .ok (.aload_n 0, 1) := by decide +kernel
theorem dX1_worth_15 : decode cX1_worth 15 = .ok (.getfield 30, 3) := by decide +kernel
theorem dX1_worth_18 : decode cX1_worth 18 = .ok (.iload_n 1, 1) := by decide +kernel
theorem dX1_worth_19 : decode cX1_worth 19 = .ok (.iaload, 1) := by decide +kernel
theorem dX1_worth_20 : decode cX1_worth 20 = .ok (.aload_n 0, 1) := by decide +kernel
theorem dX1_worth_21 : decode cX1_worth 21 = .ok (.getfield 24, 3) := by decide +kernel
theorem dX1_worth_24 : decode cX1_worth 24 = .ok (.iload_n 1, 1) := by decide +kernel
theorem dX1_worth_25 : decode cX1_worth 25 = .ok (.iaload, 1) := by decide +kernel
theorem dX1_worth_26 : decode cX1_worth 26 = .ok (.iconst 1, 1) := by decide +kernel
theorem dX1_worth_27 : decode cX1_worth 27 = .ok (.iadd, 1) := by decide +kernel
theorem dX1_worth_28 : decode cX1_worth 28 = .ok (.imul, 1) := by decide +kernel
theorem dX1_worth_29 : decode cX1_worth 29 = .ok (.bipush 10, 2) := by decide +kernel
theorem dX1_worth_31 : decode cX1_worth 31 = .ok (.imul, 1) := by decide +kernel
theorem dX1_worth_32 : decode cX1_worth 32 = .ok (.aload_n 0, 1) := by decide +kernel
theorem dX1_worth_33 : decode cX1_worth 33 = .ok (.getfield 33, 3) := by decide +kernel
theorem dX1_worth_36 : decode cX1_worth 36 = .ok (.iload_n 1, 1) := by decide +kernel
theorem dX1_worth_37 : decode cX1_worth 37 = .ok (.iaload, 1) := by decide +kernel
theorem dX1_worth_38 : decode cX1_worth 38 = .ok (.idiv, 1) := by decide +kernel
theorem dX1_worth_39 : decode cX1_worth 39 = .ok (.ireturn, 1) := by decide +kernel
theorem dX1_isKeptBy_0 : decode cX1_isKeptBy 0 = .ok (.aload_n 0, 1) := by decide +kernel
theorem dX1_isKeptBy_1 : decode cX1_isKeptBy 1 = .ok (.getfield 18, 3) := by decide +kernel
theorem dX1_isKeptBy_4 : decode cX1_isKeptBy 4 = .ok (.iload_n 1, 1) := by decide +kernel
theorem dX1_isKeptBy_5 : decode cX1_isKeptBy 5 = .ok (.iaload, 1) := by decide +kernel
theorem dX1_isKeptBy_6 : decode cX1_isKeptBy 6 = .ok (.iload_n 2, 1) := by decide +kernel
theorem dX1_isKeptBy_7 : decode cX1_isKeptBy 7 = .ok (.if_icmp .ne 16, 3) := by decide +kernel
theorem dX1_isKeptBy_10 : decode cX1_isKeptBy 10 = .ok (.aload_n 0, 1) := by decide +kernel
theorem dX1_isKeptBy_11 : decode cX1_isKeptBy 11 = .ok (.getfield 27, 3) := by decide +kernel
theorem dX1_isKeptBy_14 : decode cX1_isKeptBy 14 = .ok (.iload_n 1, 1) := by decide +kernel
theorem dX1_isKeptBy_15 : decode cX1_isKeptBy 15 = .ok (.iaload, 1) := by decide +kernel
theorem dX1_isKeptBy_16 : decode cX1_isKeptBy 16 = .ok (.ifCond .ne 7, 3) := by decide +kernel
theorem dX1_isKeptBy_19 : decode cX1_isKeptBy 19 = .ok (.iconst 1, 1) := by decide +kernel
theorem dX1_isKeptBy_20 : decode cX1_isKeptBy 20 = .ok (.goto 4, 3) := by decide +kernel
theorem dX1_isKeptBy_23 : decode cX1_isKeptBy 23 = .ok (.iconst 0, 1) := by decide +kernel
theorem dX1_isKeptBy_24 : decode cX1_isKeptBy 24 = .ok (.ireturn, 1) := by decide +kernel
theorem dX1_usedBy_0 : decode cX1_usedBy 0 = .ok (.iconst 0, 1) := by decide +kernel
theorem dX1_usedBy_1 : decode cX1_usedBy 1 = .ok (.istore_n 2, 1) := by decide +kernel
theorem dX1_usedBy_2 : decode cX1_usedBy 2 = .ok (.iconst 0, 1) := by decide +kernel
theorem dX1_usedBy_3 : decode cX1_usedBy 3 = .ok (.istore_n 3, 1) := by decide +kernel
theorem dX1_usedBy_4 : decode cX1_usedBy 4 = .ok (.iload_n 3, 1) := by decide +kernel
theorem dX1_usedBy_5 : decode cX1_usedBy 5 = .ok (.aload_n 0, 1) := by decide +kernel
theorem dX1_usedBy_6 : decode cX1_usedBy 6 = .ok (.getfield 52, 3) := by decide +kernel
theorem dX1_usedBy_9 : decode cX1_usedBy 9 = .ok (.if_icmp .ge 31, 3) := by decide +kernel
theorem dX1_usedBy_12 : decode cX1_usedBy 12 = .ok (.iload_n 2, 1) := by decide +kernel
theorem dX1_usedBy_13 : decode cX1_usedBy 13 = .ok (.aload_n 0, 1) := by decide +kernel
theorem dX1_usedBy_14 : decode cX1_usedBy 14 = .ok (.iload_n 3, 1) := by decide +kernel
theorem dX1_usedBy_15 : decode cX1_usedBy 15 = .ok (.iload_n 1, 1) := by decide +kernel
theorem dX1_usedBy_16 : decode cX1_usedBy 16 = .ok (.invokevirtual 120, 3) := by decide +kernel
theorem dX1_usedBy_19 : decode cX1_usedBy 19 = .ok (.ifCond .eq 12, 3) := by decide +kernel
theorem dX1_usedBy_22 : decode cX1_usedBy 22 = .ok (.aload_n 0, 1) := by decide +kernel
theorem dX1_usedBy_23 : decode cX1_usedBy 23 = .ok (.getfield 33, 3) := by decide +kernel
theorem dX1_usedBy_26 : decode cX1_usedBy 26 = .ok (.iload_n 3, 1) := by decide +kernel
theorem dX1_usedBy_27 : decode cX1_usedBy 27 = .ok (.iaload, 1) := by decide +kernel
theorem dX1_usedBy_28 : decode cX1_usedBy 28 = .ok (.goto 4, 3) := by decide +kernel
theorem dX1_usedBy_31 : decode cX1_usedBy 31 = .ok (.iconst 0, 1) := by decide +kernel
theorem dX1_usedBy_32 : decode cX1_usedBy 32 = .ok (.iadd, 1) := by decide +kernel
theorem dX1_usedBy_33 : decode cX1_usedBy 33 = .ok (.istore_n 2, 1) := by decide +kernel
theorem dX1_usedBy_34 : decode cX1_usedBy 34 = .ok (.iinc 3 1, 3) := by decide +kernel
theorem dX1_usedBy_37 : decode cX1_usedBy 37 = .ok (.goto (-33), 3) := by decide +kernel
theorem dX1_usedBy_40 : decode cX1_usedBy 40 = .ok (.iload_n 2, 1) := by decide +kernel
theorem dX1_usedBy_41 : decode cX1_usedBy 41 = .ok (.ireturn, 1) := by decide +kernel
theorem dX1_keptOfTeam_0 : decode cX1_keptOfTeam 0 = .ok (.iconst 0, 1) := by decide +kernel
theorem dX1_keptOfTeam_1 : decode cX1_keptOfTeam 1 = .ok (.istore_n 2, 1) := by decide +kernel
theorem dX1_keptOfTeam_2 : decode cX1_keptOfTeam 2 = .ok (.iconst 0, 1) := by decide +kernel
theorem dX1_keptOfTeam_3 : decode cX1_keptOfTeam 3 = .ok (.istore_n 3, 1) := by decide +kernel
theorem dX1_keptOfTeam_4 : decode cX1_keptOfTeam 4 = .ok (.iload_n 3, 1) := by decide +kernel
theorem dX1_keptOfTeam_5 : decode cX1_keptOfTeam 5 = .ok (.aload_n 0, 1) := by decide +kernel
theorem dX1_keptOfTeam_6 : decode cX1_keptOfTeam 6 = .ok (.getfield 52, 3) := by decide +kernel
theorem dX1_keptOfTeam_9 : decode cX1_keptOfTeam 9 = .ok (.if_icmp .ge 26, 3) := by decide +kernel
theorem dX1_keptOfTeam_12 : decode cX1_keptOfTeam 12 = .ok (.iload_n 2, 1) := by decide +kernel
theorem dX1_keptOfTeam_13 : decode cX1_keptOfTeam 13 = .ok (.aload_n 0, 1) := by decide +kernel
theorem dX1_keptOfTeam_14 : decode cX1_keptOfTeam 14 = .ok (.iload_n 3, 1) := by decide +kernel
theorem dX1_keptOfTeam_15 : decode cX1_keptOfTeam 15 = .ok (.iload_n 1, 1) := by decide +kernel
theorem dX1_keptOfTeam_16 : decode cX1_keptOfTeam 16 = .ok (.invokevirtual 120, 3) := by decide +kernel
theorem dX1_keptOfTeam_19 : decode cX1_keptOfTeam 19 = .ok (.ifCond .eq 7, 3) := by decide +kernel
theorem dX1_keptOfTeam_22 : decode cX1_keptOfTeam 22 = .ok (.iconst 1, 1) := by decide +kernel
theorem dX1_keptOfTeam_23 : decode cX1_keptOfTeam 23 = .ok (.goto 4, 3) := by decide +kernel
theorem dX1_keptOfTeam_26 : decode cX1_keptOfTeam 26 = .ok (.iconst 0, 1) := by decide +kernel
theorem dX1_keptOfTeam_27 : decode cX1_keptOfTeam 27 = .ok (.iadd, 1) := by decide +kernel
theorem dX1_keptOfTeam_28 : decode cX1_keptOfTeam 28 = .ok (.istore_n 2, 1) := by decide +kernel
theorem dX1_keptOfTeam_29 : decode cX1_keptOfTeam 29 = .ok (.iinc 3 1, 3) := by decide +kernel
theorem dX1_keptOfTeam_32 : decode cX1_keptOfTeam 32 = .ok (.goto (-28), 3) := by decide +kernel
theorem dX1_keptOfTeam_35 : decode cX1_keptOfTeam 35 = .ok (.iload_n 2, 1) := by decide +kernel
theorem dX1_keptOfTeam_36 : decode cX1_keptOfTeam 36 = .ok (.ireturn, 1) := by decide +kernel
theorem dX1_keptOfActions_0 : decode cX1_keptOfActions 0 = .ok (.iconst 0, 1) := by decide +kernel
theorem dX1_keptOfActions_1 : decode cX1_keptOfActions 1 = .ok (.istore_n 2, 1) := by decide +kernel
theorem dX1_keptOfActions_2 : decode cX1_keptOfActions 2 = .ok (.iconst 0, 1) := by decide +kernel
theorem dX1_keptOfActions_3 : decode cX1_keptOfActions 3 = .ok (.istore_n 3, 1) := by decide +kernel
theorem dX1_keptOfActions_4 : decode cX1_keptOfActions 4 = .ok (.iload_n 3, 1) := by decide +kernel
theorem dX1_keptOfActions_5 : decode cX1_keptOfActions 5 = .ok (.aload_n 0, 1) := by decide +kernel
theorem dX1_keptOfActions_6 : decode cX1_keptOfActions 6 = .ok (.getfield 52, 3) := by decide +kernel
theorem dX1_keptOfActions_9 : decode cX1_keptOfActions 9 = .ok (.if_icmp .ge 40, 3) := by decide +kernel
theorem dX1_keptOfActions_12 : decode cX1_keptOfActions 12 = .ok (.iload_n 2, 1) := by decide +kernel
theorem dX1_keptOfActions_13 : decode cX1_keptOfActions 13 = .ok (.aload_n 0, 1) := by decide +kernel
theorem dX1_keptOfActions_14 : decode cX1_keptOfActions 14 = .ok (.getfield 27, 3) := by decide +kernel
theorem dX1_keptOfActions_17 : decode cX1_keptOfActions 17 = .ok (.iload_n 3, 1) := by decide +kernel
theorem dX1_keptOfActions_18 : decode cX1_keptOfActions 18 = .ok (.iaload, 1) := by decide +kernel
theorem dX1_keptOfActions_19 : decode cX1_keptOfActions 19 = .ok (.ifCond .ne 21, 3) := by decide +kernel
theorem dX1_keptOfActions_22 : decode cX1_keptOfActions 22 = .ok (.iload_n 1, 1) := by decide +kernel
theorem dX1_keptOfActions_23 : decode cX1_keptOfActions 23 = .ok (.i2l, 1) := by decide +kernel
theorem dX1_keptOfActions_24 : decode cX1_keptOfActions 24 = .ok (.aload_n 0, 1) := by decide +kernel
theorem dX1_keptOfActions_25 : decode cX1_keptOfActions 25 = .ok (.getfield 9, 3) := by decide +kernel
theorem dX1_keptOfActions_28 : decode cX1_keptOfActions 28 = .ok (.iload_n 3, 1) := by decide +kernel
theorem dX1_keptOfActions_29 : decode cX1_keptOfActions 29 = .ok (.iaload, 1) := by decide +kernel
theorem dX1_keptOfActions_30 : decode cX1_keptOfActions 30 = .ok (.invokestatic 77, 3) := by decide +kernel
theorem dX1_keptOfActions_33 : decode cX1_keptOfActions 33 = .ok (.ifCond .eq 7, 3) := by decide +kernel
theorem dX1_keptOfActions_36 : decode cX1_keptOfActions 36 = .ok (.iconst 1, 1) := by decide +kernel
theorem dX1_keptOfActions_37 : decode cX1_keptOfActions 37 = .ok (.goto 4, 3) := by decide +kernel
theorem dX1_keptOfActions_40 : decode cX1_keptOfActions 40 = .ok (.iconst 0, 1) := by decide +kernel
theorem dX1_keptOfActions_41 : decode cX1_keptOfActions 41 = .ok (.iadd, 1) := by decide +kernel
theorem dX1_keptOfActions_42 : decode cX1_keptOfActions 42 = .ok (.istore_n 2, 1) := by decide +kernel
theorem dX1_keptOfActions_43 : decode cX1_keptOfActions 43 = .ok (.iinc 3 1, 3) := by decide +kernel
theorem dX1_keptOfActions_46 : decode cX1_keptOfActions 46 = .ok (.goto (-42), 3) := by decide +kernel
theorem dX1_keptOfActions_49 : decode cX1_keptOfActions 49 = .ok (.iload_n 2, 1) := by decide +kernel
theorem dX1_keptOfActions_50 : decode cX1_keptOfActions 50 = .ok (.ireturn, 1) := by decide +kernel
theorem dX1_poisonedOfWorker_0 : decode cX1_poisonedOfWorker 0 = .ok (.iconst 0, 1) := by decide +kernel
theorem dX1_poisonedOfWorker_1 : decode cX1_poisonedOfWorker 1 = .ok (.istore_n 2, 1) := by decide +kernel
theorem dX1_poisonedOfWorker_2 : decode cX1_poisonedOfWorker 2 = .ok (.iconst 0, 1) := by decide +kernel
theorem dX1_poisonedOfWorker_3 : decode cX1_poisonedOfWorker 3 = .ok (.istore_n 3, 1) := by decide +kernel
theorem dX1_poisonedOfWorker_4 : decode cX1_poisonedOfWorker 4 = .ok (.iload_n 3, 1) := by decide +kernel
theorem dX1_poisonedOfWorker_5 : decode cX1_poisonedOfWorker 5 = .ok (.aload_n 0, 1) := by decide +kernel
theorem dX1_poisonedOfWorker_6 : decode cX1_poisonedOfWorker 6 = .ok (.getfield 52, 3) := by decide +kernel
theorem dX1_poisonedOfWorker_9 : decode cX1_poisonedOfWorker 9 = .ok (.if_icmp .ge 37, 3) := by decide +kernel
theorem dX1_poisonedOfWorker_12 : decode cX1_poisonedOfWorker 12 = .ok (.iload_n 2, 1) := by decide +kernel
theorem dX1_poisonedOfWorker_13 : decode cX1_poisonedOfWorker 13 = .ok (.aload_n 0, 1) := by decide +kernel
theorem dX1_poisonedOfWorker_14 : decode cX1_poisonedOfWorker 14 = .ok (.getfield 27, 3) := by decide +kernel
theorem dX1_poisonedOfWorker_17 : decode cX1_poisonedOfWorker 17 = .ok (.iload_n 3, 1) := by decide +kernel
theorem dX1_poisonedOfWorker_18 : decode cX1_poisonedOfWorker 18 = .ok (.iaload, 1) := by decide +kernel
theorem dX1_poisonedOfWorker_19 : decode cX1_poisonedOfWorker 19 = .ok (.iconst 2, 1) := by decide +kernel
theorem dX1_poisonedOfWorker_20 : decode cX1_poisonedOfWorker 20 = .ok (.if_icmp .ne 17, 3) := by decide +kernel
theorem dX1_poisonedOfWorker_23 : decode cX1_poisonedOfWorker 23 = .ok (.aload_n 0, 1) := by decide +kernel
theorem dX1_poisonedOfWorker_24 : decode cX1_poisonedOfWorker 24 = .ok (.getfield 15, 3) := by decide +kernel
theorem dX1_poisonedOfWorker_27 : decode cX1_poisonedOfWorker 27 = .ok (.iload_n 3, 1) := by decide +kernel
theorem dX1_poisonedOfWorker_28 : decode cX1_poisonedOfWorker 28 = .ok (.iaload, 1) := by decide +kernel
theorem dX1_poisonedOfWorker_29 : decode cX1_poisonedOfWorker 29 = .ok (.iload_n 1, 1) := by decide +kernel
theorem dX1_poisonedOfWorker_30 : decode cX1_poisonedOfWorker 30 = .ok (.if_icmp .ne 7, 3) := by decide +kernel
theorem dX1_poisonedOfWorker_33 : decode cX1_poisonedOfWorker 33 = .ok (.iconst 1, 1) := by decide +kernel
theorem dX1_poisonedOfWorker_34 : decode cX1_poisonedOfWorker 34 = .ok (.goto 4, 3) := by decide +kernel
theorem dX1_poisonedOfWorker_37 : decode cX1_poisonedOfWorker 37 = .ok (.iconst 0, 1) := by decide +kernel
theorem dX1_poisonedOfWorker_38 : decode cX1_poisonedOfWorker 38 = .ok (.iadd, 1) := by decide +kernel
theorem dX1_poisonedOfWorker_39 : decode cX1_poisonedOfWorker 39 = .ok (.istore_n 2, 1) := by decide +kernel
theorem dX1_poisonedOfWorker_40 : decode cX1_poisonedOfWorker 40 = .ok (.iinc 3 1, 3) := by decide +kernel
theorem dX1_poisonedOfWorker_43 : decode cX1_poisonedOfWorker 43 = .ok (.goto (-39), 3) := by decide +kernel
theorem dX1_poisonedOfWorker_46 : decode cX1_poisonedOfWorker 46 = .ok (.iload_n 2, 1) := by decide +kernel
theorem dX1_poisonedOfWorker_47 : decode cX1_poisonedOfWorker 47 = .ok (.ireturn, 1) := by decide +kernel
theorem dX1_inState_0 : decode cX1_inState 0 = .ok (.iconst 0, 1) := by decide +kernel
theorem dX1_inState_1 : decode cX1_inState 1 = .ok (.istore_n 2, 1) := by decide +kernel
theorem dX1_inState_2 : decode cX1_inState 2 = .ok (.iconst 0, 1) := by decide +kernel
theorem dX1_inState_3 : decode cX1_inState 3 = .ok (.istore_n 3, 1) := by decide +kernel
theorem dX1_inState_4 : decode cX1_inState 4 = .ok (.iload_n 3, 1) := by decide +kernel
theorem dX1_inState_5 : decode cX1_inState 5 = .ok (.aload_n 0, 1) := by decide +kernel
theorem dX1_inState_6 : decode cX1_inState 6 = .ok (.getfield 52, 3) := by decide +kernel
theorem dX1_inState_9 : decode cX1_inState 9 = .ok (.if_icmp .ge 27, 3) := by decide +kernel
theorem dX1_inState_12 : decode cX1_inState 12 = .ok (.iload_n 2, 1) := by decide +kernel
theorem dX1_inState_13 : decode cX1_inState 13 = .ok (.aload_n 0, 1) := by decide +kernel
theorem dX1_inState_14 : decode cX1_inState 14 = .ok (.getfield 27, 3) := by decide +kernel
theorem dX1_inState_17 : decode cX1_inState 17 = .ok (.iload_n 3, 1) := by decide +kernel
theorem dX1_inState_18 : decode cX1_inState 18 = .ok (.iaload, 1) := by decide +kernel
theorem dX1_inState_19 : decode cX1_inState 19 = .ok (.iload_n 1, 1) := by decide +kernel
theorem dX1_inState_20 : decode cX1_inState 20 = .ok (.if_icmp .ne 7, 3) := by decide +kernel
theorem dX1_inState_23 : decode cX1_inState 23 = .ok (.iconst 1, 1) := by decide +kernel
theorem dX1_inState_24 : decode cX1_inState 24 = .ok (.goto 4, 3) := by decide +kernel
theorem dX1_inState_27 : decode cX1_inState 27 = .ok (.iconst 0, 1) := by decide +kernel
theorem dX1_inState_28 : decode cX1_inState 28 = .ok (.iadd, 1) := by decide +kernel
theorem dX1_inState_29 : decode cX1_inState 29 = .ok (.istore_n 2, 1) := by decide +kernel
theorem dX1_inState_30 : decode cX1_inState 30 = .ok (.iinc 3 1, 3) := by decide +kernel
theorem dX1_inState_33 : decode cX1_inState 33 = .ok (.goto (-29), 3) := by decide +kernel
theorem dX1_inState_36 : decode cX1_inState 36 = .ok (.iload_n 2, 1) := by decide +kernel
theorem dX1_inState_37 : decode cX1_inState 37 = .ok (.ireturn, 1) := by decide +kernel
theorem dX1_allHits_0 : decode cX1_allHits 0 = .ok (.iconst 0, 1) := by decide +kernel
theorem dX1_allHits_1 : decode cX1_allHits 1 = .ok (.istore_n 1, 1) := by decide +kernel
theorem dX1_allHits_2 : decode cX1_allHits 2 = .ok (.iconst 0, 1) := by decide +kernel
theorem dX1_allHits_3 : decode cX1_allHits 3 = .ok (.istore_n 2, 1) := by decide +kernel
theorem dX1_allHits_4 : decode cX1_allHits 4 = .ok (.iload_n 2, 1) := by decide +kernel
theorem dX1_allHits_5 : decode cX1_allHits 5 = .ok (.aload_n 0, 1) := by decide +kernel
theorem dX1_allHits_6 : decode cX1_allHits 6 = .ok (.getfield 52, 3) := by decide +kernel
theorem dX1_allHits_9 : decode cX1_allHits 9 = .ok (.if_icmp .ge 18, 3) := by decide +kernel
theorem dX1_allHits_12 : decode cX1_allHits 12 = .ok (.iload_n 1, 1) := by decide +kernel
theorem dX1_allHits_13 : decode cX1_allHits 13 = .ok (.aload_n 0, 1) := by decide +kernel
theorem dX1_allHits_14 : decode cX1_allHits 14 = .ok (.getfield 24, 3) := by decide +kernel
theorem dX1_allHits_17 : decode cX1_allHits 17 = .ok (.iload_n 2, 1) := by decide +kernel
theorem dX1_allHits_18 : decode cX1_allHits 18 = .ok (.iaload, 1) := by decide +kernel
theorem dX1_allHits_19 : decode cX1_allHits 19 = .ok (.iadd, 1) := by decide +kernel
theorem dX1_allHits_20 : decode cX1_allHits 20 = .ok (.istore_n 1, 1) := by decide +kernel
theorem dX1_allHits_21 : decode cX1_allHits 21 = .ok (.iinc 2 1, 3) := by decide +kernel
theorem dX1_allHits_24 : decode cX1_allHits 24 = .ok (.goto (-20), 3) := by decide +kernel
theorem dX1_allHits_27 : decode cX1_allHits 27 = .ok (.iload_n 1, 1) := by decide +kernel
theorem dX1_allHits_28 : decode cX1_allHits 28 = .ok (.ireturn, 1) := by decide +kernel
theorem dX2_init_0 : decode cX2_init 0 = .ok (.aload_n 0, 1) := by decide +kernel
theorem dX2_init_1 : decode cX2_init 1 = .ok (.invokespecial 3, 3) := by decide +kernel
theorem dX2_init_4 : decode cX2_init 4 = .ok (.aload_n 0, 1) := by decide +kernel
theorem dX2_init_5 : decode cX2_init 5 = .ok (.iconst 4, 1) := by decide +kernel
theorem dX2_init_6 : decode cX2_init 6 = .ok (.newarray .int, 2) := by decide +kernel
theorem dX2_init_8 : decode cX2_init 8 = .ok (.putfield 9, 3) := by decide +kernel
theorem dX2_init_11 : decode cX2_init 11 = .ok (.aload_n 0, 1) := by decide +kernel
theorem dX2_init_12 : decode cX2_init 12 = .ok (.iconst 4, 1) := by decide +kernel
theorem dX2_init_13 : decode cX2_init 13 = .ok (.newarray .int, 2) := by decide +kernel
theorem dX2_init_15 : decode cX2_init 15 = .ok (.putfield 15, 3) := by decide +kernel
theorem dX2_init_18 : decode cX2_init 18 = .ok (.aload_n 0, 1) := by decide +kernel
theorem dX2_init_19 : decode cX2_init 19 = .ok (.iconst 4, 1) := by decide +kernel
theorem dX2_init_20 : decode cX2_init 20 = .ok (.newarray .int, 2) := by decide +kernel
theorem dX2_init_22 : decode cX2_init 22 = .ok (.putfield 18, 3) := by decide +kernel
theorem dX2_init_25 : decode cX2_init 25 = .ok (.aload_n 0, 1) := by decide +kernel
theorem dX2_init_26 : decode cX2_init 26 = .ok (.iconst 4, 1) := by decide +kernel
theorem dX2_init_27 : decode cX2_init 27 = .ok (.newarray .int, 2) := by decide +kernel
theorem dX2_init_29 : decode cX2_init 29 = .ok (.putfield 21, 3) := by decide +kernel
theorem dX2_init_32 : decode cX2_init 32 = .ok (.aload_n 0, 1) := by decide +kernel
theorem dX2_init_33 : decode cX2_init 33 = .ok (.iconst 4, 1) := by decide +kernel
theorem dX2_init_34 : decode cX2_init 34 = .ok (.newarray .int, 2) := by decide +kernel
theorem dX2_init_36 : decode cX2_init 36 = .ok (.putfield 24, 3) := by decide +kernel
theorem dX2_init_39 : decode cX2_init 39 = .ok (.return_, 1) := by decide +kernel
theorem dX2_choose_0 : decode cX2_choose 0 = .ok (.iconst (-1), 1) := by decide +kernel
theorem dX2_choose_1 : decode cX2_choose 1 = .ok (.istore_n 2, 1) := by decide +kernel
theorem dX2_choose_2 : decode cX2_choose 2 = .ok (.iconst 0, 1) := by decide +kernel
theorem dX2_choose_3 : decode cX2_choose 3 = .ok (.istore_n 3, 1) := by decide +kernel
theorem dX2_choose_4 : decode cX2_choose 4 = .ok (.iload_n 3, 1) := by decide +kernel
theorem dX2_choose_5 : decode cX2_choose 5 = .ok (.aload_n 0, 1) := by decide +kernel
theorem dX2_choose_6 : decode cX2_choose 6 = .ok (.getfield 27, 3) := by decide +kernel
theorem dX2_choose_9 : decode cX2_choose 9 = .ok (.if_icmp .ge 41, 3) := by decide +kernel
theorem dX2_choose_12 : decode cX2_choose 12 = .ok (.iload_n 3, 1) := by decide +kernel
theorem dX2_choose_13 : decode cX2_choose 13 = .ok (.iload_n 1, 1) := by decide +kernel
theorem dX2_choose_14 : decode cX2_choose 14 = .ok (.if_icmp .eq 30, 3) := by decide +kernel
theorem dX2_choose_17 : decode cX2_choose 17 = .ok (.aload_n 0, 1) := by decide +kernel
theorem dX2_choose_18 : decode cX2_choose 18 = .ok (.getfield 15, 3) := by decide +kernel
theorem dX2_choose_21 : decode cX2_choose 21 = .ok (.iload_n 3, 1) := by decide +kernel
theorem dX2_choose_22 : decode cX2_choose 22 = .ok (.iaload, 1) := by decide +kernel
theorem dX2_choose_23 : decode cX2_choose 23 = .ok (.bipush 20, 2) := by decide +kernel
theorem dX2_choose_25 : decode cX2_choose 25 = .ok (.if_icmp .lt 19, 3) := by decide +kernel
theorem dX2_choose_28 : decode cX2_choose 28 = .ok (.iload_n 2, 1) := by decide +kernel
theorem dX2_choose_29 : decode cX2_choose 29 = .ok (.iconst (-1), 1) := by decide +kernel
theorem dX2_choose_30 : decode cX2_choose 30 = .ok (.if_icmp .eq 12, 3) := by decide +kernel
theorem dX2_choose_33 : decode cX2_choose 33 = .ok (.aload_n 0, 1) := by decide +kernel
theorem dX2_choose_34 : decode cX2_choose 34 = .ok (.iload_n 3, 1) := by decide +kernel
theorem dX2_choose_35 : decode cX2_choose 35 = .ok (.iload_n 2, 1) := by decide +kernel
theorem dX2_choose_36 : decode cX2_choose 36 = .ok (.invokevirtual 31, 3) := by decide +kernel
theorem dX2_choose_39 : decode cX2_choose 39 = .ok (.ifCond .eq 5, 3) := by decide +kernel
theorem dX2_choose_42 : decode cX2_choose 42 = .ok (.iload_n 3, 1) := by decide +kernel
theorem dX2_choose_43 : decode cX2_choose 43 = .ok (.istore_n 2, 1) := by decide +kernel
theorem dX2_choose_44 : decode cX2_choose 44 = .ok (.iinc 3 1, 3) := by decide +kernel
theorem dX2_choose_47 : decode cX2_choose 47 = .ok (.goto (-43), 3) := by decide +kernel
theorem dX2_choose_50 : decode cX2_choose 50 = .ok (.iload_n 2, 1) := by decide +kernel
theorem dX2_choose_51 : decode cX2_choose 51 = .ok (.ireturn, 1) := by decide +kernel
theorem dX2_isBetter_0 : decode cX2_isBetter 0 = .ok (.aload_n 0, 1) := by decide +kernel
theorem dX2_isBetter_1 : decode cX2_isBetter 1 = .ok (.getfield 15, 3) := by decide +kernel
theorem dX2_isBetter_4 : decode cX2_isBetter 4 = .ok (.iload_n 1, 1) := by decide +kernel
theorem dX2_isBetter_5 : decode cX2_isBetter 5 = .ok (.iaload, 1) := by decide +kernel
theorem dX2_isBetter_6 : decode cX2_isBetter 6 = .ok (.aload_n 0, 1) := by decide +kernel
theorem dX2_isBetter_7 : decode cX2_isBetter 7 = .ok (.getfield 15, 3) := by decide +kernel
theorem dX2_isBetter_10 : decode cX2_isBetter 10 = .ok (.iload_n 2, 1) := by decide +kernel
theorem dX2_isBetter_11 : decode cX2_isBetter 11 = .ok (.iaload, 1) := by decide +kernel
theorem dX2_isBetter_12 : decode cX2_isBetter 12 = .ok (.if_icmp .gt 33, 3) := by decide +kernel
theorem dX2_isBetter_15 : decode cX2_isBetter 15 = .ok (.aload_n 0, 1) := by decide +kernel
theorem dX2_isBetter_16 : decode cX2_isBetter 16 = .ok (.getfield 15, 3) := by decide +kernel
theorem dX2_isBetter_19 : decode cX2_isBetter 19 = .ok (.iload_n 1, 1) := by decide +kernel
theorem dX2_isBetter_20 : decode cX2_isBetter 20 = .ok (.iaload, 1) := by decide +kernel
theorem dX2_isBetter_21 : decode cX2_isBetter 21 = .ok (.aload_n 0, 1) := by decide +kernel
theorem dX2_isBetter_22 : decode cX2_isBetter 22 = .ok (.getfield 15, 3) := by decide +kernel
theorem dX2_isBetter_25 : decode cX2_isBetter 25 = .ok (.iload_n 2, 1) := by decide +kernel
theorem dX2_isBetter_26 : decode cX2_isBetter 26 = .ok (.iaload, 1) := by decide +kernel
theorem dX2_isBetter_27 : decode cX2_isBetter 27 = .ok (.if_icmp .ne 22, 3) := by decide +kernel
theorem dX2_isBetter_30 : decode cX2_isBetter 30 = .ok (.aload_n 0, 1) := by decide +kernel
theorem dX2_isBetter_31 : decode cX2_isBetter 31 = .ok (.getfield 21, 3) := by decide +kernel
theorem dX2_isBetter_34 : decode cX2_isBetter 34 = .ok (.iload_n 1, 1) := by decide +kernel
theorem dX2_isBetter_35 : decode cX2_isBetter 35 = .ok (.iaload, 1) := by decide +kernel
theorem dX2_isBetter_36 : decode cX2_isBetter 36 = .ok (.aload_n 0, 1) := by decide +kernel
theorem dX2_isBetter_37 : decode cX2_isBetter 37 = .ok (.getfield 21, 3) := by decide +kernel
theorem dX2_isBetter_40 : decode cX2_isBetter 40 = .ok (.iload_n 2, 1) := by decide +kernel
theorem dX2_isBetter_41 : decode cX2_isBetter 41 = .ok (.iaload, 1) := by decide +kernel
theorem dX2_isBetter_42 : decode cX2_isBetter 42 = .ok (.if_icmp .ge 7, 3) := by decide +kernel
theorem dX2_isBetter_45 : decode cX2_isBetter 45 = .ok (.iconst 1, 1) := by decide +kernel
theorem dX2_isBetter_46 : decode cX2_isBetter 46 = .ok (.goto 4, 3) := by decide +kernel
theorem dX2_isBetter_49 : decode cX2_isBetter 49 = .ok (.iconst 0, 1) := by decide +kernel
theorem dX2_isBetter_50 : decode cX2_isBetter 50 = .ok (.ireturn, 1) := by decide +kernel
theorem dX2_runOnce_0 : decode cX2_runOnce 0 = .ok (.aload_n 0, 1) := by decide +kernel
theorem dX2_runOnce_1 : decode cX2_runOnce 1 = .ok (.getfield 18, 3) := by decide +kernel
theorem dX2_runOnce_4 : decode cX2_runOnce 4 = .ok (.iload_n 1, 1) := by decide +kernel
theorem dX2_runOnce_5 : decode cX2_runOnce 5 = .ok (.dup2, 1) := by decide +kernel
theorem dX2_runOnce_6 : decode cX2_runOnce 6 = .ok (.iaload, 1) := by decide +kernel
theorem dX2_runOnce_7 : decode cX2_runOnce 7 = .ok (.iconst 1, 1) := by decide +kernel
theorem dX2_runOnce_8 : decode cX2_runOnce 8 = .ok (.iadd, 1) := by decide +kernel
theorem dX2_runOnce_9 : decode cX2_runOnce 9 = .ok (.iastore, 1) := by decide +kernel
theorem dX2_runOnce_10 : decode cX2_runOnce 10 = .ok (.aload_n 0, 1) := by decide +kernel
theorem dX2_runOnce_11 : decode cX2_runOnce 11 = .ok (.getfield 21, 3) := by decide +kernel
theorem dX2_runOnce_14 : decode cX2_runOnce 14 = .ok (.iload_n 1, 1) := by decide +kernel
theorem dX2_runOnce_15 : decode cX2_runOnce 15 = .ok (.dup2, 1) := by decide +kernel
theorem dX2_runOnce_16 : decode cX2_runOnce 16 = .ok (.iaload, 1) := by decide +kernel
theorem dX2_runOnce_17 : decode cX2_runOnce 17 = .ok (.iload_n 2, 1) := by decide +kernel
theorem dX2_runOnce_18 : decode cX2_runOnce 18 = .ok (.iadd, 1) := by decide +kernel
theorem dX2_runOnce_19 : decode cX2_runOnce 19 = .ok (.iastore, 1) := by decide +kernel
theorem dX2_runOnce_20 : decode cX2_runOnce 20 = .ok (.aload_n 0, 1) := by decide +kernel
theorem dX2_runOnce_21 : decode cX2_runOnce 21 = .ok (.getfield 9, 3) := by decide +kernel
theorem dX2_runOnce_24 : decode cX2_runOnce 24 = .ok (.iload_n 1, 1) := by decide +kernel
theorem dX2_runOnce_25 : decode cX2_runOnce 25 = .ok (.iaload, 1) := by decide +kernel
theorem dX2_runOnce_26 : decode cX2_runOnce 26 = .ok (.ifCond .le 23, 3) := by decide +kernel
theorem dX2_runOnce_29 : decode cX2_runOnce 29 = .ok (.aload_n 0, 1) := by decide +kernel
theorem dX2_runOnce_30 : decode cX2_runOnce 30 = .ok (.getfield 18, 3) := by decide +kernel
theorem dX2_runOnce_33 : decode cX2_runOnce 33 = .ok (.iload_n 1, 1) := by decide +kernel
theorem dX2_runOnce_34 : decode cX2_runOnce 34 = .ok (.iaload, 1) := by decide +kernel
theorem dX2_runOnce_35 : decode cX2_runOnce 35 = .ok (.aload_n 0, 1) := by decide +kernel
theorem dX2_runOnce_36 : decode cX2_runOnce 36 = .ok (.getfield 9, 3) := by decide +kernel
theorem dX2_runOnce_39 : decode cX2_runOnce 39 = .ok (.iload_n 1, 1) := by decide +kernel
theorem dX2_runOnce_40 : decode cX2_runOnce 40 = .ok (.iaload, 1) := by decide +kernel
theorem dX2_runOnce_41 : decode cX2_runOnce 41 = .ok (.irem, 1) := by decide +kernel
theorem dX2_runOnce_42 : decode cX2_runOnce 42 = .ok (.ifCond .ne 7, 3) := by decide +kernel
theorem dX2_runOnce_45 : decode cX2_runOnce 45 = .ok (.iconst 1, 1) := by decide +kernel
theorem dX2_runOnce_46 : decode cX2_runOnce 46 = .ok (.goto 4, 3) := by decide +kernel
theorem dX2_runOnce_49 : decode cX2_runOnce 49 = .ok (.iconst 0, 1) := by decide +kernel
theorem dX2_runOnce_50 : decode cX2_runOnce 50 = .ok (.istore 4, 2) := by decide +kernel
theorem dX2_runOnce_52 : decode cX2_runOnce 52 = .ok (.iload 4, 2) := by decide +kernel
theorem dX2_runOnce_54 : decode cX2_runOnce 54 = .ok (.ifCond .eq 13, 3) := by decide +kernel
theorem dX2_runOnce_57 : decode cX2_runOnce 57 = .ok (.iload_n 3, 1) := by decide +kernel
theorem dX2_runOnce_58 : decode cX2_runOnce 58 = .ok (.iconst 1, 1) := by decide +kernel
theorem dX2_runOnce_59 : decode cX2_runOnce 59 = .ok (.iadd, 1) := by decide +kernel
theorem dX2_runOnce_60 : decode cX2_runOnce 60 = .ok (.sipush 997, 3) := by decide +kernel
theorem dX2_runOnce_63 : decode cX2_runOnce 63 = .ok (.irem, 1) := by decide +kernel
theorem dX2_runOnce_64 : decode cX2_runOnce 64 = .ok (.goto 4, 3) := by decide +kernel
theorem dX2_runOnce_67 : decode cX2_runOnce 67 = .ok (.iload_n 3, 1) := by decide +kernel
theorem dX2_runOnce_68 : decode cX2_runOnce 68 = .ok (.ireturn, 1) := by decide +kernel
theorem dX2_changeTrust_0 : decode cX2_changeTrust 0 = .ok (.iload_n 1, 1) := by decide +kernel
theorem dX2_changeTrust_1 : decode cX2_changeTrust 1 = .ok (.aload_n 0, 1) := by decide +kernel
theorem dX2_changeTrust_2 : decode cX2_changeTrust 2 = .ok (.getfield 27, 3) := by decide +kernel
theorem dX2_changeTrust_5 : decode cX2_changeTrust 5 = .ok (.invokestatic 35, 3) := by decide +kernel
theorem dX2_changeTrust_8 : decode cX2_changeTrust 8 = .ok (.ifCond .eq 26, 3) := by decide +kernel
theorem dX2_changeTrust_11 : decode cX2_changeTrust 11 = .ok (.aload_n 0, 1) := by decide +kernel
theorem dX2_changeTrust_12 : decode cX2_changeTrust 12 = .ok (.getfield 15, 3) := by decide +kernel
theorem dX2_changeTrust_15 : decode cX2_changeTrust 15 = .ok (.iload_n 1, 1) := by decide +kernel
theorem dX2_changeTrust_16 : decode cX2_changeTrust 16 = .ok (.iconst 0, 1) := by decide +kernel
theorem dX2_changeTrust_17 : decode cX2_changeTrust 17 = .ok (.bipush 100, 2) := by decide +kernel
theorem dX2_changeTrust_19 : decode cX2_changeTrust 19 = .ok (.aload_n 0, 1) := by decide +kernel
theorem dX2_changeTrust_20 : decode cX2_changeTrust 20 = .ok (.getfield 15, 3) := by decide +kernel
theorem dX2_changeTrust_23 : decode cX2_changeTrust 23 = .ok (.iload_n 1, 1) := by decide +kernel
theorem dX2_changeTrust_24 : decode cX2_changeTrust 24 = .ok (.iaload, 1) := by decide +kernel
theorem dX2_changeTrust_25 : decode cX2_changeTrust 25 = .ok (.iload_n 2, 1) := by decide +kernel
theorem dX2_changeTrust_26 : decode cX2_changeTrust 26 = .ok (.iadd, 1) := by decide +kernel
theorem dX2_changeTrust_27 : decode cX2_changeTrust 27 = .ok (.invokestatic 38, 3) := by decide +kernel
theorem dX2_changeTrust_30 : decode cX2_changeTrust 30 = .ok (.invokestatic 44, 3) := by decide +kernel
theorem dX2_changeTrust_33 : decode cX2_changeTrust 33 = .ok (.iastore, 1) := by decide +kernel
theorem dX2_changeTrust_34 : decode cX2_changeTrust 34 = .ok (.return_, 1) := by decide +kernel
theorem dX2_allRuns_0 : decode cX2_allRuns 0 = .ok (.iconst 0, 1) := by decide +kernel
theorem dX2_allRuns_1 : decode cX2_allRuns 1 = .ok (.istore_n 1, 1) := by decide +kernel
theorem dX2_allRuns_2 : decode cX2_allRuns 2 = .ok (.iconst 0, 1) := by decide +kernel
theorem dX2_allRuns_3 : decode cX2_allRuns 3 = .ok (.istore_n 2, 1) := by decide +kernel
theorem dX2_allRuns_4 : decode cX2_allRuns 4 = .ok (.iload_n 2, 1) := by decide +kernel
theorem dX2_allRuns_5 : decode cX2_allRuns 5 = .ok (.aload_n 0, 1) := by decide +kernel
theorem dX2_allRuns_6 : decode cX2_allRuns 6 = .ok (.getfield 27, 3) := by decide +kernel
theorem dX2_allRuns_9 : decode cX2_allRuns 9 = .ok (.if_icmp .ge 18, 3) := by decide +kernel
theorem dX2_allRuns_12 : decode cX2_allRuns 12 = .ok (.iload_n 1, 1) := by decide +kernel
theorem dX2_allRuns_13 : decode cX2_allRuns 13 = .ok (.aload_n 0, 1) := by decide +kernel
theorem dX2_allRuns_14 : decode cX2_allRuns 14 = .ok (.getfield 18, 3) := by decide +kernel
theorem dX2_allRuns_17 : decode cX2_allRuns 17 = .ok (.iload_n 2, 1) := by decide +kernel
theorem dX2_allRuns_18 : decode cX2_allRuns 18 = .ok (.iaload, 1) := by decide +kernel
theorem dX2_allRuns_19 : decode cX2_allRuns 19 = .ok (.iadd, 1) := by decide +kernel
theorem dX2_allRuns_20 : decode cX2_allRuns 20 = .ok (.istore_n 1, 1) := by decide +kernel
theorem dX2_allRuns_21 : decode cX2_allRuns 21 = .ok (.iinc 2 1, 3) := by decide +kernel
theorem dX2_allRuns_24 : decode cX2_allRuns 24 = .ok (.goto (-20), 3) := by decide +kernel
theorem dX2_allRuns_27 : decode cX2_allRuns 27 = .ok (.iload_n 1, 1) := by decide +kernel
theorem dX2_allRuns_28 : decode cX2_allRuns 28 = .ok (.ireturn, 1) := by decide +kernel
theorem dX3_init_0 : decode cX3_init 0 = .ok (.aload_n 0, 1) := by decide +kernel
theorem dX3_init_1 : decode cX3_init 1 = .ok (.invokespecial 3, 3) := by decide +kernel
theorem dX3_init_4 : decode cX3_init 4 = .ok (.aload_n 0, 1) := by decide +kernel
theorem dX3_init_5 : decode cX3_init 5 = .ok (.bipush 14, 2) := by decide +kernel
theorem dX3_init_7 : decode cX3_init 7 = .ok (.newarray .int, 2) := by decide +kernel
theorem dX3_init_9 : decode cX3_init 9 = .ok (.putfield 9, 3) := by decide +kernel
theorem dX3_init_12 : decode cX3_init 12 = .ok (.aload_n 0, 1) := by decide +kernel
theorem dX3_init_13 : decode cX3_init 13 = .ok (.bipush 14, 2) := by decide +kernel
theorem dX3_init_15 : decode cX3_init 15 = .ok (.newarray .int, 2) := by decide +kernel
theorem dX3_init_17 : decode cX3_init 17 = .ok (.putfield 15, 3) := by decide +kernel
theorem dX3_init_20 : decode cX3_init 20 = .ok (.return_, 1) := by decide +kernel
theorem dX4_init_0 : decode cX4_init 0 = .ok (.aload_n 0, 1) := by decide +kernel
theorem dX4_init_1 : decode cX4_init 1 = .ok (.invokespecial 3, 3) := by decide +kernel
theorem dX4_init_4 : decode cX4_init 4 = .ok (.aload_n 0, 1) := by decide +kernel
theorem dX4_init_5 : decode cX4_init 5 = .ok (.bipush 8, 2) := by decide +kernel
theorem dX4_init_7 : decode cX4_init 7 = .ok (.newarray .int, 2) := by decide +kernel
theorem dX4_init_9 : decode cX4_init 9 = .ok (.putfield 9, 3) := by decide +kernel
theorem dX4_init_12 : decode cX4_init 12 = .ok (.aload_n 0, 1) := by decide +kernel
theorem dX4_init_13 : decode cX4_init 13 = .ok (.bipush 6, 2) := by decide +kernel
theorem dX4_init_15 : decode cX4_init 15 = .ok (.newarray .int, 2) := by decide +kernel
theorem dX4_init_17 : decode cX4_init 17 = .ok (.putfield 15, 3) := by decide +kernel
theorem dX4_init_20 : decode cX4_init 20 = .ok (.aload_n 0, 1) := by decide +kernel
theorem dX4_init_21 : decode cX4_init 21 = .ok (.bipush 14, 2) := by decide +kernel
theorem dX4_init_23 : decode cX4_init 23 = .ok (.newarray .int, 2) := by decide +kernel
theorem dX4_init_25 : decode cX4_init 25 = .ok (.putfield 18, 3) := by decide +kernel
theorem dX4_init_28 : decode cX4_init 28 = .ok (.aload_n 0, 1) := by decide +kernel
theorem dX4_init_29 : decode cX4_init 29 = .ok (.bipush 14, 2) := by decide +kernel
theorem dX4_init_31 : decode cX4_init 31 = .ok (.newarray .int, 2) := by decide +kernel
theorem dX4_init_33 : decode cX4_init 33 = .ok (.putfield 21, 3) := by decide +kernel
theorem dX4_init_36 : decode cX4_init 36 = .ok (.aload_n 0, 1) := by decide +kernel
theorem dX4_init_37 : decode cX4_init 37 = .ok (.bipush 14, 2) := by decide +kernel
theorem dX4_init_39 : decode cX4_init 39 = .ok (.newarray .int, 2) := by decide +kernel
theorem dX4_init_41 : decode cX4_init 41 = .ok (.putfield 24, 3) := by decide +kernel
theorem dX4_init_44 : decode cX4_init 44 = .ok (.aload_n 0, 1) := by decide +kernel
theorem dX4_init_45 : decode cX4_init 45 = .ok (.bipush 14, 2) := by decide +kernel
theorem dX4_init_47 : decode cX4_init 47 = .ok (.newarray .int, 2) := by decide +kernel
theorem dX4_init_49 : decode cX4_init 49 = .ok (.putfield 27, 3) := by decide +kernel
theorem dX4_init_52 : decode cX4_init 52 = .ok (.aload_n 0, 1) := by decide +kernel
theorem dX4_init_53 : decode cX4_init 53 = .ok (.bipush 14, 2) := by decide +kernel
theorem dX4_init_55 : decode cX4_init 55 = .ok (.newarray .int, 2) := by decide +kernel
theorem dX4_init_57 : decode cX4_init 57 = .ok (.putfield 30, 3) := by decide +kernel
theorem dX4_init_60 : decode cX4_init 60 = .ok (.aload_n 0, 1) := by decide +kernel
theorem dX4_init_61 : decode cX4_init 61 = .ok (.bipush 14, 2) := by decide +kernel
theorem dX4_init_63 : decode cX4_init 63 = .ok (.newarray .int, 2) := by decide +kernel
theorem dX4_init_65 : decode cX4_init 65 = .ok (.putfield 33, 3) := by decide +kernel
theorem dX4_init_68 : decode cX4_init 68 = .ok (.aload_n 0, 1) := by decide +kernel
theorem dX4_init_69 : decode cX4_init 69 = .ok (.bipush 14, 2) := by decide +kernel
theorem dX4_init_71 : decode cX4_init 71 = .ok (.newarray .int, 2) := by decide +kernel
theorem dX4_init_73 : decode cX4_init 73 = .ok (.putfield 36, 3) := by decide +kernel
theorem dX4_init_76 : decode cX4_init 76 = .ok (.return_, 1) := by decide +kernel
theorem dX4_allActions_0 : decode cX4_allActions 0 = .ok (.iconst 1, 1) := by decide +kernel
theorem dX4_allActions_1 : decode cX4_allActions 1 = .ok (.aload_n 0, 1) := by decide +kernel
theorem dX4_allActions_2 : decode cX4_allActions 2 = .ok (.getfield 39, 3) := by decide +kernel
theorem dX4_allActions_5 : decode cX4_allActions 5 = .ok (.ishl, 1) := by decide +kernel
theorem dX4_allActions_6 : decode cX4_allActions 6 = .ok (.iconst 1, 1) := by decide +kernel
theorem dX4_allActions_7 : decode cX4_allActions 7 = .ok (.isub, 1) := by decide +kernel
theorem dX4_allActions_8 : decode cX4_allActions 8 = .ok (.ireturn, 1) := by decide +kernel
theorem dX4_printOf_0 : decode cX4_printOf 0 = .ok (.bipush 31, 2) := by decide +kernel
theorem dX4_printOf_2 : decode cX4_printOf 2 = .ok (.iload_n 1, 1) := by decide +kernel
theorem dX4_printOf_3 : decode cX4_printOf 3 = .ok (.imul, 1) := by decide +kernel
theorem dX4_printOf_4 : decode cX4_printOf 4 = .ok (.bipush 7, 2) := by decide +kernel
theorem dX4_printOf_6 : decode cX4_printOf 6 = .ok (.aload_n 0, 1) := by decide +kernel
theorem dX4_printOf_7 : decode cX4_printOf 7 = .ok (.getfield 18, 3) := by decide +kernel
theorem dX4_printOf_10 : decode cX4_printOf 10 = .ok (.iload_n 1, 1) := by decide +kernel
theorem dX4_printOf_11 : decode cX4_printOf 11 = .ok (.iaload, 1) := by decide +kernel
theorem dX4_printOf_12 : decode cX4_printOf 12 = .ok (.aload_n 0, 1) := by decide +kernel
theorem dX4_printOf_13 : decode cX4_printOf 13 = .ok (.getfield 9, 3) := by decide +kernel
theorem dX4_printOf_16 : decode cX4_printOf 16 = .ok (.iconst 1, 1) := by decide +kernel
theorem dX4_printOf_17 : decode cX4_printOf 17 = .ok (.invokestatic 43, 3) := by decide +kernel
theorem dX4_printOf_20 : decode cX4_printOf 20 = .ok (.imul, 1) := by decide +kernel
theorem dX4_printOf_21 : decode cX4_printOf 21 = .ok (.iadd, 1) := by decide +kernel
theorem dX4_printOf_22 : decode cX4_printOf 22 = .ok (.iconst 5, 1) := by decide +kernel
theorem dX4_printOf_23 : decode cX4_printOf 23 = .ok (.aload_n 0, 1) := by decide +kernel
theorem dX4_printOf_24 : decode cX4_printOf 24 = .ok (.getfield 21, 3) := by decide +kernel
theorem dX4_printOf_27 : decode cX4_printOf 27 = .ok (.iload_n 1, 1) := by decide +kernel
theorem dX4_printOf_28 : decode cX4_printOf 28 = .ok (.iaload, 1) := by decide +kernel
theorem dX4_printOf_29 : decode cX4_printOf 29 = .ok (.aload_n 2, 1) := by decide +kernel
theorem dX4_printOf_30 : decode cX4_printOf 30 = .ok (.iconst 2, 1) := by decide +kernel
theorem dX4_printOf_31 : decode cX4_printOf 31 = .ok (.invokestatic 43, 3) := by decide +kernel
theorem dX4_printOf_34 : decode cX4_printOf 34 = .ok (.imul, 1) := by decide +kernel
theorem dX4_printOf_35 : decode cX4_printOf 35 = .ok (.iadd, 1) := by decide +kernel
theorem dX4_printOf_36 : decode cX4_printOf 36 = .ok (.iconst 3, 1) := by decide +kernel
theorem dX4_printOf_37 : decode cX4_printOf 37 = .ok (.aload_n 0, 1) := by decide +kernel
theorem dX4_printOf_38 : decode cX4_printOf 38 = .ok (.getfield 24, 3) := by decide +kernel
theorem dX4_printOf_41 : decode cX4_printOf 41 = .ok (.iload_n 1, 1) := by decide +kernel
theorem dX4_printOf_42 : decode cX4_printOf 42 = .ok (.iaload, 1) := by decide +kernel
theorem dX4_printOf_43 : decode cX4_printOf 43 = .ok (.aload_n 0, 1) := by decide +kernel
theorem dX4_printOf_44 : decode cX4_printOf 44 = .ok (.getfield 15, 3) := by decide +kernel
theorem dX4_printOf_47 : decode cX4_printOf 47 = .ok (.iconst 1, 1) := by decide +kernel
theorem dX4_printOf_48 : decode cX4_printOf 48 = .ok (.invokestatic 43, 3) := by decide +kernel
theorem dX4_printOf_51 : decode cX4_printOf 51 = .ok (.imul, 1) := by decide +kernel
theorem dX4_printOf_52 : decode cX4_printOf 52 = .ok (.iadd, 1) := by decide +kernel
theorem dX4_printOf_53 : decode cX4_printOf 53 = .ok (.istore_n 3, 1) := by decide +kernel
theorem dX4_printOf_54 : decode cX4_printOf 54 = .ok (.iload_n 3, 1) := by decide +kernel
theorem dX4_printOf_55 : decode cX4_printOf 55 = .ok (.sipush 997, 3) := by decide +kernel
theorem dX4_printOf_58 : decode cX4_printOf 58 = .ok (.irem, 1) := by decide +kernel
theorem dX4_printOf_59 : decode cX4_printOf 59 = .ok (.ireturn, 1) := by decide +kernel
theorem dX4_cleanPrint_0 : decode cX4_cleanPrint 0 = .ok (.iconst 0, 1) := by decide +kernel
theorem dX4_cleanPrint_1 : decode cX4_cleanPrint 1 = .ok (.istore_n 2, 1) := by decide +kernel
theorem dX4_cleanPrint_2 : decode cX4_cleanPrint 2 = .ok (.iload_n 2, 1) := by decide +kernel
theorem dX4_cleanPrint_3 : decode cX4_cleanPrint 3 = .ok (.iload_n 1, 1) := by decide +kernel
theorem dX4_cleanPrint_4 : decode cX4_cleanPrint 4 = .ok (.if_icmp .gt 24, 3) := by decide +kernel
theorem dX4_cleanPrint_7 : decode cX4_cleanPrint 7 = .ok (.aload_n 0, 1) := by decide +kernel
theorem dX4_cleanPrint_8 : decode cX4_cleanPrint 8 = .ok (.getfield 36, 3) := by decide +kernel
theorem dX4_cleanPrint_11 : decode cX4_cleanPrint 11 = .ok (.iload_n 2, 1) := by decide +kernel
theorem dX4_cleanPrint_12 : decode cX4_cleanPrint 12 = .ok (.aload_n 0, 1) := by decide +kernel
theorem dX4_cleanPrint_13 : decode cX4_cleanPrint 13 = .ok (.iload_n 2, 1) := by decide +kernel
theorem dX4_cleanPrint_14 : decode cX4_cleanPrint 14 = .ok (.aload_n 0, 1) := by decide +kernel
theorem dX4_cleanPrint_15 : decode cX4_cleanPrint 15 = .ok (.getfield 36, 3) := by decide +kernel
theorem dX4_cleanPrint_18 : decode cX4_cleanPrint 18 = .ok (.invokevirtual 47, 3) := by decide +kernel
theorem dX4_cleanPrint_21 : decode cX4_cleanPrint 21 = .ok (.iastore, 1) := by decide +kernel
theorem dX4_cleanPrint_22 : decode cX4_cleanPrint 22 = .ok (.iinc 2 1, 3) := by decide +kernel
theorem dX4_cleanPrint_25 : decode cX4_cleanPrint 25 = .ok (.goto (-23), 3) := by decide +kernel
theorem dX4_cleanPrint_28 : decode cX4_cleanPrint 28 = .ok (.aload_n 0, 1) := by decide +kernel
theorem dX4_cleanPrint_29 : decode cX4_cleanPrint 29 = .ok (.getfield 36, 3) := by decide +kernel
theorem dX4_cleanPrint_32 : decode cX4_cleanPrint 32 = .ok (.iload_n 1, 1) := by decide +kernel
theorem dX4_cleanPrint_33 : decode cX4_cleanPrint 33 = .ok (.iaload, 1) := by decide +kernel
theorem dX4_cleanPrint_34 : decode cX4_cleanPrint 34 = .ok (.ireturn, 1) := by decide +kernel
theorem dX4_neededFor_0 : decode cX4_neededFor 0 = .ok (.iconst 1, 1) := by decide +kernel
theorem dX4_neededFor_1 : decode cX4_neededFor 1 = .ok (.iload_n 1, 1) := by decide +kernel
theorem dX4_neededFor_2 : decode cX4_neededFor 2 = .ok (.ishl, 1) := by decide +kernel
theorem dX4_neededFor_3 : decode cX4_neededFor 3 = .ok (.istore_n 2, 1) := by decide +kernel
theorem dX4_neededFor_4 : decode cX4_neededFor 4 = .ok (.iload_n 1, 1) := by decide +kernel
theorem dX4_neededFor_5 : decode cX4_neededFor 5 = .ok (.istore_n 3, 1) := by decide +kernel
theorem dX4_neededFor_6 : decode cX4_neededFor 6 = .ok (.iload_n 3, 1) := by decide +kernel
theorem dX4_neededFor_7 : decode cX4_neededFor 7 = .ok (.ifCond .lt 27, 3) := by decide +kernel
theorem dX4_neededFor_10 : decode cX4_neededFor 10 = .ok (.iload_n 2, 1) := by decide +kernel
theorem dX4_neededFor_11 : decode cX4_neededFor 11 = .ok (.i2l, 1) := by decide +kernel
theorem dX4_neededFor_12 : decode cX4_neededFor 12 = .ok (.iload_n 3, 1) := by decide +kernel
theorem dX4_neededFor_13 : decode cX4_neededFor 13 = .ok (.invokestatic 51, 3) := by decide +kernel
theorem dX4_neededFor_16 : decode cX4_neededFor 16 = .ok (.ifCond .eq 12, 3) := by decide +kernel
theorem dX4_neededFor_19 : decode cX4_neededFor 19 = .ok (.iload_n 2, 1) := by decide +kernel
theorem dX4_neededFor_20 : decode cX4_neededFor 20 = .ok (.aload_n 0, 1) := by decide +kernel
theorem dX4_neededFor_21 : decode cX4_neededFor 21 = .ok (.getfield 21, 3) := by decide +kernel
theorem dX4_neededFor_24 : decode cX4_neededFor 24 = .ok (.iload_n 3, 1) := by decide +kernel
theorem dX4_neededFor_25 : decode cX4_neededFor 25 = .ok (.iaload, 1) := by decide +kernel
theorem dX4_neededFor_26 : decode cX4_neededFor 26 = .ok (.ior, 1) := by decide +kernel
theorem dX4_neededFor_27 : decode cX4_neededFor 27 = .ok (.istore_n 2, 1) := by decide +kernel
theorem dX4_neededFor_28 : decode cX4_neededFor 28 = .ok (.iinc 3 (-1), 3) := by decide +kernel
theorem dX4_neededFor_31 : decode cX4_neededFor 31 = .ok (.goto (-25), 3) := by decide +kernel
theorem dX4_neededFor_34 : decode cX4_neededFor 34 = .ok (.iload_n 2, 1) := by decide +kernel
theorem dX4_neededFor_35 : decode cX4_neededFor 35 = .ok (.ireturn, 1) := by decide +kernel
theorem dX4_actionsTouchedBy_0 : decode cX4_actionsTouchedBy 0 = .ok (.iconst 0, 1) := by decide +kernel
theorem dX4_actionsTouchedBy_1 : decode cX4_actionsTouchedBy 1 = .ok (.istore_n 2, 1) := by decide +kernel
theorem dX4_actionsTouchedBy_2 : decode cX4_actionsTouchedBy 2 = .ok (.iconst 0, 1) := by decide +kernel
theorem dX4_actionsTouchedBy_3 : decode cX4_actionsTouchedBy 3 = .ok (.istore_n 3, 1) := by decide +kernel
theorem dX4_actionsTouchedBy_4 : decode cX4_actionsTouchedBy 4 = .ok (.iload_n 3, 1) := by decide +kernel
theorem dX4_actionsTouchedBy_5 : decode cX4_actionsTouchedBy 5 = .ok (.aload_n 0, 1) := by decide +kernel
theorem dX4_actionsTouchedBy_6 : decode cX4_actionsTouchedBy 6 = .ok (.getfield 39, 3) := by decide +kernel
theorem dX4_actionsTouchedBy_9 : decode cX4_actionsTouchedBy 9 = .ok (.if_icmp .ge 40, 3) := by decide +kernel
theorem dX4_actionsTouchedBy_12 : decode cX4_actionsTouchedBy 12 = .ok (.aload_n 0, 1) := by decide +kernel
theorem dX4_actionsTouchedBy_13 : decode cX4_actionsTouchedBy 13 = .ok (.getfield 18, 3) := by decide +kernel
theorem dX4_actionsTouchedBy_16 : decode cX4_actionsTouchedBy 16 = .ok (.iload_n 3, 1) := by decide +kernel
theorem dX4_actionsTouchedBy_17 : decode cX4_actionsTouchedBy 17 = .ok (.iaload, 1) := by decide +kernel
theorem dX4_actionsTouchedBy_18 : decode cX4_actionsTouchedBy 18 = .ok (.i2l, 1) := by decide +kernel
theorem dX4_actionsTouchedBy_19 : decode cX4_actionsTouchedBy 19 = .ok (.iload_n 1, 1) := by decide +kernel
theorem dX4_actionsTouchedBy_20 : decode cX4_actionsTouchedBy 20 = .ok (.invokestatic 51, 3) := by decide +kernel
theorem dX4_actionsTouchedBy_23 : decode cX4_actionsTouchedBy 23 = .ok (.ifCond .ne 14, 3) := by decide +kernel
theorem dX4_actionsTouchedBy_26 : decode cX4_actionsTouchedBy 26 = .ok (.aload_n 0, 1) := by decide +kernel
theorem dX4_actionsTouchedBy_27 : decode cX4_actionsTouchedBy 27 = .ok (.getfield 21, 3) := by decide +kernel
theorem dX4_actionsTouchedBy_30 : decode cX4_actionsTouchedBy 30 = .ok (.iload_n 3, 1) := by decide +kernel
theorem dX4_actionsTouchedBy_31 : decode cX4_actionsTouchedBy 31 = .ok (.iaload, 1) := by decide +kernel
theorem dX4_actionsTouchedBy_32 : decode cX4_actionsTouchedBy 32 = .ok (.iload_n 2, 1) := by decide +kernel
theorem dX4_actionsTouchedBy_33 : decode cX4_actionsTouchedBy 33 = .ok (.iand, 1) := by decide +kernel
theorem dX4_actionsTouchedBy_34 : decode cX4_actionsTouchedBy 34 = .ok (.ifCond .eq 9, 3) := by decide +kernel
theorem dX4_actionsTouchedBy_37 : decode cX4_actionsTouchedBy 37 = .ok (.iload_n 2, 1) := by decide +kernel
theorem dX4_actionsTouchedBy_38 : decode cX4_actionsTouchedBy 38 = .ok (.iconst 1, 1) := by decide +kernel
theorem dX4_actionsTouchedBy_39 : decode cX4_actionsTouchedBy 39 = .ok (.iload_n 3, 1) := by decide +kernel
theorem dX4_actionsTouchedBy_40 : decode cX4_actionsTouchedBy 40 = .ok (.ishl, 1) := by decide +kernel
theorem dX4_actionsTouchedBy_41 : decode cX4_actionsTouchedBy 41 = .ok (.ior, 1) := by decide +kernel
theorem dX4_actionsTouchedBy_42 : decode cX4_actionsTouchedBy 42 = .ok (.istore_n 2, 1) := by decide +kernel
theorem dX4_actionsTouchedBy_43 : decode cX4_actionsTouchedBy 43 = .ok (.iinc 3 1, 3) := by decide +kernel
theorem dX4_actionsTouchedBy_46 : decode cX4_actionsTouchedBy 46 = .ok (.goto (-42), 3) := by decide +kernel
theorem dX4_actionsTouchedBy_49 : decode cX4_actionsTouchedBy 49 = .ok (.iload_n 2, 1) := by decide +kernel
theorem dX4_actionsTouchedBy_50 : decode cX4_actionsTouchedBy 50 = .ok (.ireturn, 1) := by decide +kernel
theorem dX5_init_0 : decode cX5_init 0 = .ok (.aload_n 0, 1) := by decide +kernel
theorem dX5_init_1 : decode cX5_init 1 = .ok (.invokespecial 3, 3) := by decide +kernel
theorem dX5_init_4 : decode cX5_init 4 = .ok (.aload_n 0, 1) := by decide +kernel
theorem dX5_init_5 : decode cX5_init 5 = .ok (.bipush 14, 2) := by decide +kernel
theorem dX5_init_7 : decode cX5_init 7 = .ok (.newarray .int, 2) := by decide +kernel
theorem dX5_init_9 : decode cX5_init 9 = .ok (.putfield 9, 3) := by decide +kernel
theorem dX5_init_12 : decode cX5_init 12 = .ok (.aload_n 0, 1) := by decide +kernel
theorem dX5_init_13 : decode cX5_init 13 = .ok (.iconst 4, 1) := by decide +kernel
theorem dX5_init_14 : decode cX5_init 14 = .ok (.newarray .int, 2) := by decide +kernel
theorem dX5_init_16 : decode cX5_init 16 = .ok (.putfield 15, 3) := by decide +kernel
theorem dX5_init_19 : decode cX5_init 19 = .ok (.aload_n 0, 1) := by decide +kernel
theorem dX5_init_20 : decode cX5_init 20 = .ok (.iconst 4, 1) := by decide +kernel
theorem dX5_init_21 : decode cX5_init 21 = .ok (.newarray .int, 2) := by decide +kernel
theorem dX5_init_23 : decode cX5_init 23 = .ok (.putfield 18, 3) := by decide +kernel
theorem dX5_init_26 : decode cX5_init 26 = .ok (.aload_n 0, 1) := by decide +kernel
theorem dX5_init_27 : decode cX5_init 27 = .ok (.iconst 4, 1) := by decide +kernel
theorem dX5_init_28 : decode cX5_init 28 = .ok (.newarray .int, 2) := by decide +kernel
theorem dX5_init_30 : decode cX5_init 30 = .ok (.putfield 21, 3) := by decide +kernel
theorem dX5_init_33 : decode cX5_init 33 = .ok (.aload_n 0, 1) := by decide +kernel
theorem dX5_init_34 : decode cX5_init 34 = .ok (.iconst 4, 1) := by decide +kernel
theorem dX5_init_35 : decode cX5_init 35 = .ok (.newarray .int, 2) := by decide +kernel
theorem dX5_init_37 : decode cX5_init 37 = .ok (.putfield 24, 3) := by decide +kernel
theorem dX5_init_40 : decode cX5_init 40 = .ok (.aload_n 0, 1) := by decide +kernel
theorem dX5_init_41 : decode cX5_init 41 = .ok (.iconst 4, 1) := by decide +kernel
theorem dX5_init_42 : decode cX5_init 42 = .ok (.newarray .int, 2) := by decide +kernel
theorem dX5_init_44 : decode cX5_init 44 = .ok (.putfield 27, 3) := by decide +kernel
theorem dX5_init_47 : decode cX5_init 47 = .ok (.aload_n 0, 1) := by decide +kernel
theorem dX5_init_48 : decode cX5_init 48 = .ok (.bipush 60, 2) := by decide +kernel
theorem dX5_init_50 : decode cX5_init 50 = .ok (.newarray .int, 2) := by decide +kernel
theorem dX5_init_52 : decode cX5_init 52 = .ok (.putfield 30, 3) := by decide +kernel
theorem dX5_init_55 : decode cX5_init 55 = .ok (.aload_n 0, 1) := by decide +kernel
theorem dX5_init_56 : decode cX5_init 56 = .ok (.bipush 60, 2) := by decide +kernel
theorem dX5_init_58 : decode cX5_init 58 = .ok (.newarray .int, 2) := by decide +kernel
theorem dX5_init_60 : decode cX5_init 60 = .ok (.putfield 33, 3) := by decide +kernel
theorem dX5_init_63 : decode cX5_init 63 = .ok (.return_, 1) := by decide +kernel
theorem dX5_take_0 : decode cX5_take 0 = .ok (.aload_n 1, 1) := by decide +kernel
theorem dX5_take_1 : decode cX5_take 1 = .ok (.getfield 36, 3) := by decide +kernel
theorem dX5_take_4 : decode cX5_take 4 = .ok (.iconst 0, 1) := by decide +kernel
theorem dX5_take_5 : decode cX5_take 5 = .ok (.aload_n 0, 1) := by decide +kernel
theorem dX5_take_6 : decode cX5_take 6 = .ok (.getfield 9, 3) := by decide +kernel
theorem dX5_take_9 : decode cX5_take 9 = .ok (.iconst 0, 1) := by decide +kernel
theorem dX5_take_10 : decode cX5_take 10 = .ok (.bipush 14, 2) := by decide +kernel
theorem dX5_take_12 : decode cX5_take 12 = .ok (.invokestatic 39, 3) := by decide +kernel
theorem dX5_take_15 : decode cX5_take 15 = .ok (.aload_n 2, 1) := by decide +kernel
theorem dX5_take_16 : decode cX5_take 16 = .ok (.getfield 45, 3) := by decide +kernel
theorem dX5_take_19 : decode cX5_take 19 = .ok (.iconst 0, 1) := by decide +kernel
theorem dX5_take_20 : decode cX5_take 20 = .ok (.aload_n 0, 1) := by decide +kernel
theorem dX5_take_21 : decode cX5_take 21 = .ok (.getfield 15, 3) := by decide +kernel
theorem dX5_take_24 : decode cX5_take 24 = .ok (.iconst 0, 1) := by decide +kernel
theorem dX5_take_25 : decode cX5_take 25 = .ok (.iconst 4, 1) := by decide +kernel
theorem dX5_take_26 : decode cX5_take 26 = .ok (.invokestatic 39, 3) := by decide +kernel
theorem dX5_take_29 : decode cX5_take 29 = .ok (.aload_n 2, 1) := by decide +kernel
theorem dX5_take_30 : decode cX5_take 30 = .ok (.getfield 48, 3) := by decide +kernel
theorem dX5_take_33 : decode cX5_take 33 = .ok (.iconst 0, 1) := by decide +kernel
theorem dX5_take_34 : decode cX5_take 34 = .ok (.aload_n 0, 1) := by decide +kernel
theorem dX5_take_35 : decode cX5_take 35 = .ok (.getfield 18, 3) := by decide +kernel
theorem dX5_take_38 : decode cX5_take 38 = .ok (.iconst 0, 1) := by decide +kernel
theorem dX5_take_39 : decode cX5_take 39 = .ok (.iconst 4, 1) := by decide +kernel
theorem dX5_take_40 : decode cX5_take 40 = .ok (.invokestatic 39, 3) := by decide +kernel
theorem dX5_take_43 : decode cX5_take 43 = .ok (.aload_n 2, 1) := by decide +kernel
theorem dX5_take_44 : decode cX5_take 44 = .ok (.getfield 49, 3) := by decide +kernel
theorem dX5_take_47 : decode cX5_take 47 = .ok (.iconst 0, 1) := by decide +kernel
theorem dX5_take_48 : decode cX5_take 48 = .ok (.aload_n 0, 1) := by decide +kernel
theorem dX5_take_49 : decode cX5_take 49 = .ok (.getfield 21, 3) := by decide +kernel
theorem dX5_take_52 : decode cX5_take 52 = .ok (.iconst 0, 1) := by decide +kernel
theorem dX5_take_53 : decode cX5_take 53 = .ok (.iconst 4, 1) := by decide +kernel
theorem dX5_take_54 : decode cX5_take 54 = .ok (.invokestatic 39, 3) := by decide +kernel
theorem dX5_take_57 : decode cX5_take 57 = .ok (.aload_n 2, 1) := by decide +kernel
theorem dX5_take_58 : decode cX5_take 58 = .ok (.getfield 50, 3) := by decide +kernel
theorem dX5_take_61 : decode cX5_take 61 = .ok (.iconst 0, 1) := by decide +kernel
theorem dX5_take_62 : decode cX5_take 62 = .ok (.aload_n 0, 1) := by decide +kernel
theorem dX5_take_63 : decode cX5_take 63 = .ok (.getfield 24, 3) := by decide +kernel
theorem dX5_take_66 : decode cX5_take 66 = .ok (.iconst 0, 1) := by decide +kernel
theorem dX5_take_67 : decode cX5_take 67 = .ok (.iconst 4, 1) := by decide +kernel
theorem dX5_take_68 : decode cX5_take 68 = .ok (.invokestatic 39, 3) := by decide +kernel
theorem dX5_take_71 : decode cX5_take 71 = .ok (.aload_n 3, 1) := by decide +kernel
theorem dX5_take_72 : decode cX5_take 72 = .ok (.getfield 51, 3) := by decide +kernel
theorem dX5_take_75 : decode cX5_take 75 = .ok (.iconst 0, 1) := by decide +kernel
theorem dX5_take_76 : decode cX5_take 76 = .ok (.aload_n 0, 1) := by decide +kernel
theorem dX5_take_77 : decode cX5_take 77 = .ok (.getfield 27, 3) := by decide +kernel
theorem dX5_take_80 : decode cX5_take 80 = .ok (.iconst 0, 1) := by decide +kernel
theorem dX5_take_81 : decode cX5_take 81 = .ok (.iconst 4, 1) := by decide +kernel
theorem dX5_take_82 : decode cX5_take 82 = .ok (.invokestatic 39, 3) := by decide +kernel
theorem dX5_take_85 : decode cX5_take 85 = .ok (.aload 4, 2) := by decide +kernel
theorem dX5_take_87 : decode cX5_take 87 = .ok (.getfield 54, 3) := by decide +kernel
theorem dX5_take_90 : decode cX5_take 90 = .ok (.iconst 0, 1) := by decide +kernel
theorem dX5_take_91 : decode cX5_take 91 = .ok (.aload_n 0, 1) := by decide +kernel
theorem dX5_take_92 : decode cX5_take 92 = .ok (.getfield 30, 3) := by decide +kernel
theorem dX5_take_95 : decode cX5_take 95 = .ok (.iconst 0, 1) := by decide +kernel
theorem dX5_take_96 : decode cX5_take 96 = .ok (.bipush 60, 2) := by decide +kernel
theorem dX5_take_98 : decode cX5_take 98 = .ok (.invokestatic 39, 3) := by decide +kernel
theorem dX5_take_101 : decode cX5_take 101 = .ok (.aload 4, 2) := by decide +kernel
theorem dX5_take_103 : decode cX5_take 103 = .ok (.getfield 57, 3) := by decide +kernel
theorem dX5_take_106 : decode cX5_take 106 = .ok (.iconst 0, 1) := by decide +kernel
theorem dX5_take_107 : decode cX5_take 107 = .ok (.aload_n 0, 1) := by decide +kernel
theorem dX5_take_108 : decode cX5_take 108 = .ok (.getfield 33, 3) := by decide +kernel
theorem dX5_take_111 : decode cX5_take 111 = .ok (.iconst 0, 1) := by decide +kernel
theorem dX5_take_112 : decode cX5_take 112 = .ok (.bipush 60, 2) := by decide +kernel
theorem dX5_take_114 : decode cX5_take 114 = .ok (.invokestatic 39, 3) := by decide +kernel
theorem dX5_take_117 : decode cX5_take 117 = .ok (.aload_n 0, 1) := by decide +kernel
theorem dX5_take_118 : decode cX5_take 118 = .ok (.aload 4, 2) := by decide +kernel
theorem dX5_take_120 : decode cX5_take 120 = .ok (.getfield 58, 3) := by decide +kernel
theorem dX5_take_123 : decode cX5_take 123 = .ok (.putfield 62, 3) := by decide +kernel
theorem dX5_take_126 : decode cX5_take 126 = .ok (.aload_n 0, 1) := by decide +kernel
theorem dX5_take_127 : decode cX5_take 127 = .ok (.aload 4, 2) := by decide +kernel
theorem dX5_take_129 : decode cX5_take 129 = .ok (.getfield 63, 3) := by decide +kernel
theorem dX5_take_132 : decode cX5_take 132 = .ok (.putfield 66, 3) := by decide +kernel
theorem dX5_take_135 : decode cX5_take 135 = .ok (.return_, 1) := by decide +kernel
theorem dX5_putBack_0 : decode cX5_putBack 0 = .ok (.aload_n 0, 1) := by decide +kernel
theorem dX5_putBack_1 : decode cX5_putBack 1 = .ok (.getfield 9, 3) := by decide +kernel
theorem dX5_putBack_4 : decode cX5_putBack 4 = .ok (.iconst 0, 1) := by decide +kernel
theorem dX5_putBack_5 : decode cX5_putBack 5 = .ok (.aload_n 1, 1) := by decide +kernel
theorem dX5_putBack_6 : decode cX5_putBack 6 = .ok (.getfield 36, 3) := by decide +kernel
theorem dX5_putBack_9 : decode cX5_putBack 9 = .ok (.iconst 0, 1) := by decide +kernel
theorem dX5_putBack_10 : decode cX5_putBack 10 = .ok (.bipush 14, 2) := by decide +kernel
theorem dX5_putBack_12 : decode cX5_putBack 12 = .ok (.invokestatic 39, 3) := by decide +kernel
theorem dX5_putBack_15 : decode cX5_putBack 15 = .ok (.aload_n 0, 1) := by decide +kernel
theorem dX5_putBack_16 : decode cX5_putBack 16 = .ok (.getfield 15, 3) := by decide +kernel
theorem dX5_putBack_19 : decode cX5_putBack 19 = .ok (.iconst 0, 1) := by decide +kernel
theorem dX5_putBack_20 : decode cX5_putBack 20 = .ok (.aload_n 2, 1) := by decide +kernel
theorem dX5_putBack_21 : decode cX5_putBack 21 = .ok (.getfield 45, 3) := by decide +kernel
theorem dX5_putBack_24 : decode cX5_putBack 24 = .ok (.iconst 0, 1) := by decide +kernel
theorem dX5_putBack_25 : decode cX5_putBack 25 = .ok (.iconst 4, 1) := by decide +kernel
theorem dX5_putBack_26 : decode cX5_putBack 26 = .ok (.invokestatic 39, 3) := by decide +kernel
theorem dX5_putBack_29 : decode cX5_putBack 29 = .ok (.aload_n 0, 1) := by decide +kernel
theorem dX5_putBack_30 : decode cX5_putBack 30 = .ok (.getfield 18, 3) := by decide +kernel
theorem dX5_putBack_33 : decode cX5_putBack 33 = .ok (.iconst 0, 1) := by decide +kernel
theorem dX5_putBack_34 : decode cX5_putBack 34 = .ok (.aload_n 2, 1) := by decide +kernel
theorem dX5_putBack_35 : decode cX5_putBack 35 = .ok (.getfield 48, 3) := by decide +kernel
theorem dX5_putBack_38 : decode cX5_putBack 38 = .ok (.iconst 0, 1) := by decide +kernel
theorem dX5_putBack_39 : decode cX5_putBack 39 = .ok (.iconst 4, 1) := by decide +kernel
theorem dX5_putBack_40 : decode cX5_putBack 40 = .ok (.invokestatic 39, 3) := by decide +kernel
theorem dX5_putBack_43 : decode cX5_putBack 43 = .ok (.aload_n 0, 1) := by decide +kernel
theorem dX5_putBack_44 : decode cX5_putBack 44 = .ok (.getfield 21, 3) := by decide +kernel
theorem dX5_putBack_47 : decode cX5_putBack 47 = .ok (.iconst 0, 1) := by decide +kernel
theorem dX5_putBack_48 : decode cX5_putBack 48 = .ok (.aload_n 2, 1) := by decide +kernel
theorem dX5_putBack_49 : decode cX5_putBack 49 = .ok (.getfield 49, 3) := by decide +kernel
theorem dX5_putBack_52 : decode cX5_putBack 52 = .ok (.iconst 0, 1) := by decide +kernel
theorem dX5_putBack_53 : decode cX5_putBack 53 = .ok (.iconst 4, 1) := by decide +kernel
theorem dX5_putBack_54 : decode cX5_putBack 54 = .ok (.invokestatic 39, 3) := by decide +kernel
theorem dX5_putBack_57 : decode cX5_putBack 57 = .ok (.aload_n 0, 1) := by decide +kernel
theorem dX5_putBack_58 : decode cX5_putBack 58 = .ok (.getfield 24, 3) := by decide +kernel
theorem dX5_putBack_61 : decode cX5_putBack 61 = .ok (.iconst 0, 1) := by decide +kernel
theorem dX5_putBack_62 : decode cX5_putBack 62 = .ok (.aload_n 2, 1) := by decide +kernel
theorem dX5_putBack_63 : decode cX5_putBack 63 = .ok (.getfield 50, 3) := by decide +kernel
theorem dX5_putBack_66 : decode cX5_putBack 66 = .ok (.iconst 0, 1) := by decide +kernel
theorem dX5_putBack_67 : decode cX5_putBack 67 = .ok (.iconst 4, 1) := by decide +kernel
theorem dX5_putBack_68 : decode cX5_putBack 68 = .ok (.invokestatic 39, 3) := by decide +kernel
theorem dX5_putBack_71 : decode cX5_putBack 71 = .ok (.aload_n 0, 1) := by decide +kernel
theorem dX5_putBack_72 : decode cX5_putBack 72 = .ok (.getfield 27, 3) := by decide +kernel
theorem dX5_putBack_75 : decode cX5_putBack 75 = .ok (.iconst 0, 1) := by decide +kernel
theorem dX5_putBack_76 : decode cX5_putBack 76 = .ok (.aload_n 3, 1) := by decide +kernel
theorem dX5_putBack_77 : decode cX5_putBack 77 = .ok (.getfield 51, 3) := by decide +kernel
theorem dX5_putBack_80 : decode cX5_putBack 80 = .ok (.iconst 0, 1) := by decide +kernel
theorem dX5_putBack_81 : decode cX5_putBack 81 = .ok (.iconst 4, 1) := by decide +kernel
theorem dX5_putBack_82 : decode cX5_putBack 82 = .ok (.invokestatic 39, 3) := by decide +kernel
theorem dX5_putBack_85 : decode cX5_putBack 85 = .ok (.aload_n 0, 1) := by decide +kernel
theorem dX5_putBack_86 : decode cX5_putBack 86 = .ok (.getfield 30, 3) := by decide +kernel
theorem dX5_putBack_89 : decode cX5_putBack 89 = .ok (.iconst 0, 1) := by decide +kernel
theorem dX5_putBack_90 : decode cX5_putBack 90 = .ok (.aload 4, 2) := by decide +kernel
theorem dX5_putBack_92 : decode cX5_putBack 92 = .ok (.getfield 54, 3) := by decide +kernel
theorem dX5_putBack_95 : decode cX5_putBack 95 = .ok (.iconst 0, 1) := by decide +kernel
theorem dX5_putBack_96 : decode cX5_putBack 96 = .ok (.bipush 60, 2) := by decide +kernel
theorem dX5_putBack_98 : decode cX5_putBack 98 = .ok (.invokestatic 39, 3) := by decide +kernel
theorem dX5_putBack_101 : decode cX5_putBack 101 = .ok (.aload_n 0, 1) := by decide +kernel
theorem dX5_putBack_102 : decode cX5_putBack 102 = .ok (.getfield 33, 3) := by decide +kernel
theorem dX5_putBack_105 : decode cX5_putBack 105 = .ok (.iconst 0, 1) := by decide +kernel
theorem dX5_putBack_106 : decode cX5_putBack 106 = .ok (.aload 4, 2) := by decide +kernel
theorem dX5_putBack_108 : decode cX5_putBack 108 = .ok (.getfield 57, 3) := by decide +kernel
theorem dX5_putBack_111 : decode cX5_putBack 111 = .ok (.iconst 0, 1) := by decide +kernel
theorem dX5_putBack_112 : decode cX5_putBack 112 = .ok (.bipush 60, 2) := by decide +kernel
theorem dX5_putBack_114 : decode cX5_putBack 114 = .ok (.invokestatic 39, 3) := by decide +kernel
theorem dX5_putBack_117 : decode cX5_putBack 117 = .ok (.aload 4, 2) := by decide +kernel
theorem dX5_putBack_119 : decode cX5_putBack 119 = .ok (.aload_n 0, 1) := by decide +kernel
theorem dX5_putBack_120 : decode cX5_putBack 120 = .ok (.getfield 62, 3) := by decide +kernel
theorem dX5_putBack_123 : decode cX5_putBack 123 = .ok (.putfield 58, 3) := by decide +kernel
theorem dX5_putBack_126 : decode cX5_putBack 126 = .ok (.aload 4, 2) := by decide +kernel
theorem dX5_putBack_128 : decode cX5_putBack 128 = .ok (.aload_n 0, 1) := by decide +kernel
theorem dX5_putBack_129 : decode cX5_putBack 129 = .ok (.getfield 66, 3) := by decide +kernel
theorem dX5_putBack_132 : decode cX5_putBack 132 = .ok (.putfield 63, 3) := by decide +kernel
theorem dX5_putBack_135 : decode cX5_putBack 135 = .ok (.return_, 1) := by decide +kernel
theorem dX6_init_0 : decode cX6_init 0 = .ok (.aload_n 0, 1) := by decide +kernel
theorem dX6_init_1 : decode cX6_init 1 = .ok (.invokespecial 3, 3) := by decide +kernel
theorem dX6_init_4 : decode cX6_init 4 = .ok (.aload_n 0, 1) := by decide +kernel
theorem dX6_init_5 : decode cX6_init 5 = .ok (.iconst 4, 1) := by decide +kernel
theorem dX6_init_6 : decode cX6_init 6 = .ok (.newarray .int, 2) := by decide +kernel
theorem dX6_init_8 : decode cX6_init 8 = .ok (.putfield 9, 3) := by decide +kernel
theorem dX6_init_11 : decode cX6_init 11 = .ok (.aload_n 0, 1) := by decide +kernel
theorem dX6_init_12 : decode cX6_init 12 = .ok (.iconst 4, 1) := by decide +kernel
theorem dX6_init_13 : decode cX6_init 13 = .ok (.newarray .int, 2) := by decide +kernel
theorem dX6_init_15 : decode cX6_init 15 = .ok (.putfield 15, 3) := by decide +kernel
theorem dX6_init_18 : decode cX6_init 18 = .ok (.aload_n 0, 1) := by decide +kernel
theorem dX6_init_19 : decode cX6_init 19 = .ok (.iconst 4, 1) := by decide +kernel
theorem dX6_init_20 : decode cX6_init 20 = .ok (.newarray .int, 2) := by decide +kernel
theorem dX6_init_22 : decode cX6_init 22 = .ok (.putfield 18, 3) := by decide +kernel
theorem dX6_init_25 : decode cX6_init 25 = .ok (.return_, 1) := by decide +kernel
theorem dX7_init_0 : decode cX7_init 0 = .ok (.aload_n 0, 1) := by decide +kernel
theorem dX7_init_1 : decode cX7_init 1 = .ok (.invokespecial 1, 3) := by decide +kernel
theorem dX7_init_4 : decode cX7_init 4 = .ok (.aload_n 0, 1) := by decide +kernel
theorem dX7_init_5 : decode cX7_init 5 = .ok (.new 7, 3) := by decide +kernel
theorem dX7_init_8 : decode cX7_init 8 = .ok (.dup, 1) := by decide +kernel
theorem dX7_init_9 : decode cX7_init 9 = .ok (.invokespecial 9, 3) := by decide +kernel
theorem dX7_init_12 : decode cX7_init 12 = .ok (.putfield 10, 3) := by decide +kernel
theorem dX7_init_15 : decode cX7_init 15 = .ok (.aload_n 0, 1) := by decide +kernel
theorem dX7_init_16 : decode cX7_init 16 = .ok (.aload_n 0, 1) := by decide +kernel
theorem dX7_init_17 : decode cX7_init 17 = .ok (.getfield 10, 3) := by decide +kernel
theorem dX7_init_20 : decode cX7_init 20 = .ok (.getfield 16, 3) := by decide +kernel
theorem dX7_init_23 : decode cX7_init 23 = .ok (.putfield 20, 3) := by decide +kernel
theorem dX7_init_26 : decode cX7_init 26 = .ok (.aload_n 0, 1) := by decide +kernel
theorem dX7_init_27 : decode cX7_init 27 = .ok (.aload_n 0, 1) := by decide +kernel
theorem dX7_init_28 : decode cX7_init 28 = .ok (.getfield 10, 3) := by decide +kernel
theorem dX7_init_31 : decode cX7_init 31 = .ok (.getfield 21, 3) := by decide +kernel
theorem dX7_init_34 : decode cX7_init 34 = .ok (.putfield 25, 3) := by decide +kernel
theorem dX7_init_37 : decode cX7_init 37 = .ok (.aload_n 0, 1) := by decide +kernel
theorem dX7_init_38 : decode cX7_init 38 = .ok (.aload_n 0, 1) := by decide +kernel
theorem dX7_init_39 : decode cX7_init 39 = .ok (.getfield 10, 3) := by decide +kernel
theorem dX7_init_42 : decode cX7_init 42 = .ok (.getfield 26, 3) := by decide +kernel
theorem dX7_init_45 : decode cX7_init 45 = .ok (.putfield 30, 3) := by decide +kernel
theorem dX7_init_48 : decode cX7_init 48 = .ok (.aload_n 0, 1) := by decide +kernel
theorem dX7_init_49 : decode cX7_init 49 = .ok (.aload_n 0, 1) := by decide +kernel
theorem dX7_init_50 : decode cX7_init 50 = .ok (.getfield 10, 3) := by decide +kernel
theorem dX7_init_53 : decode cX7_init 53 = .ok (.getfield 31, 3) := by decide +kernel
theorem dX7_init_56 : decode cX7_init 56 = .ok (.putfield 35, 3) := by decide +kernel
theorem dX7_init_59 : decode cX7_init 59 = .ok (.return_, 1) := by decide +kernel
theorem dX7_action_0 : decode cX7_action 0 = .ok (.iload_n 1, 1) := by decide +kernel
theorem dX7_action_1 : decode cX7_action 1 = .ok (.iconst 0, 1) := by decide +kernel
theorem dX7_action_2 : decode cX7_action 2 = .ok (.sipush 255, 3) := by decide +kernel
theorem dX7_action_5 : decode cX7_action 5 = .ok (.invokestatic 36, 3) := by decide +kernel
theorem dX7_action_8 : decode cX7_action 8 = .ok (.invokestatic 40, 3) := by decide +kernel
theorem dX7_action_11 : decode cX7_action 11 = .ok (.iload_n 2, 1) := by decide +kernel
theorem dX7_action_12 : decode cX7_action 12 = .ok (.aload_n 0, 1) := by decide +kernel
theorem dX7_action_13 : decode cX7_action 13 = .ok (.getfield 20, 3) := by decide +kernel
theorem dX7_action_16 : decode cX7_action 16 = .ok (.invokevirtual 44, 3) := by decide +kernel
theorem dX7_action_19 : decode cX7_action 19 = .ok (.invokestatic 50, 3) := by decide +kernel
theorem dX7_action_22 : decode cX7_action 22 = .ok (.invokestatic 40, 3) := by decide +kernel
theorem dX7_action_25 : decode cX7_action 25 = .ok (.iload_n 3, 1) := by decide +kernel
theorem dX7_action_26 : decode cX7_action 26 = .ok (.iconst 0, 1) := by decide +kernel
theorem dX7_action_27 : decode cX7_action 27 = .ok (.bipush 63, 2) := by decide +kernel
theorem dX7_action_29 : decode cX7_action 29 = .ok (.invokestatic 36, 3) := by decide +kernel
theorem dX7_action_32 : decode cX7_action 32 = .ok (.invokestatic 40, 3) := by decide +kernel
theorem dX7_action_35 : decode cX7_action 35 = .ok (.iload 4, 2) := by decide +kernel
theorem dX7_action_37 : decode cX7_action 37 = .ok (.iload_n 3, 1) := by decide +kernel
theorem dX7_action_38 : decode cX7_action 38 = .ok (.invokestatic 50, 3) := by decide +kernel
theorem dX7_action_41 : decode cX7_action 41 = .ok (.invokestatic 40, 3) := by decide +kernel
theorem dX7_action_44 : decode cX7_action 44 = .ok (.iload 5, 2) := by decide +kernel
theorem dX7_action_46 : decode cX7_action 46 = .ok (.iconst 1, 1) := by decide +kernel
theorem dX7_action_47 : decode cX7_action 47 = .ok (.bipush 50, 2) := by decide +kernel
theorem dX7_action_49 : decode cX7_action 49 = .ok (.invokestatic 36, 3) := by decide +kernel
theorem dX7_action_52 : decode cX7_action 52 = .ok (.invokestatic 40, 3) := by decide +kernel
theorem dX7_action_55 : decode cX7_action 55 = .ok (.iload 6, 2) := by decide +kernel
theorem dX7_action_57 : decode cX7_action 57 = .ok (.iconst 1, 1) := by decide +kernel
theorem dX7_action_58 : decode cX7_action 58 = .ok (.bipush 20, 2) := by decide +kernel
theorem dX7_action_60 : decode cX7_action 60 = .ok (.invokestatic 36, 3) := by decide +kernel
theorem dX7_action_63 : decode cX7_action 63 = .ok (.invokestatic 40, 3) := by decide +kernel
theorem dX7_action_66 : decode cX7_action 66 = .ok (.aload_n 0, 1) := by decide +kernel
theorem dX7_action_67 : decode cX7_action 67 = .ok (.getfield 20, 3) := by decide +kernel
theorem dX7_action_70 : decode cX7_action 70 = .ok (.getfield 54, 3) := by decide +kernel
theorem dX7_action_73 : decode cX7_action 73 = .ok (.bipush 14, 2) := by decide +kernel
theorem dX7_action_75 : decode cX7_action 75 = .ok (.if_icmp .ge 7, 3) := by decide +kernel
theorem dX7_action_78 : decode cX7_action 78 = .ok (.iconst 1, 1) := by decide +kernel
theorem dX7_action_79 : decode cX7_action 79 = .ok (.goto 4, 3) := by decide +kernel
theorem dX7_action_82 : decode cX7_action 82 = .ok (.iconst 0, 1) := by decide +kernel
theorem dX7_action_83 : decode cX7_action 83 = .ok (.invokestatic 58, 3) := by decide +kernel
theorem dX7_action_86 : decode cX7_action 86 = .ok (.aload_n 0, 1) := by decide +kernel
theorem dX7_action_87 : decode cX7_action 87 = .ok (.getfield 20, 3) := by decide +kernel
theorem dX7_action_90 : decode cX7_action 90 = .ok (.getfield 54, 3) := by decide +kernel
theorem dX7_action_93 : decode cX7_action 93 = .ok (.istore 7, 2) := by decide +kernel
theorem dX7_action_95 : decode cX7_action 95 = .ok (.aload_n 0, 1) := by decide +kernel
theorem dX7_action_96 : decode cX7_action 96 = .ok (.getfield 20, 3) := by decide +kernel
theorem dX7_action_99 : decode cX7_action 99 = .ok (.getfield 61, 3) := by decide +kernel
theorem dX7_action_102 : decode cX7_action 102 = .ok (.iload 7, 2) := by decide +kernel
theorem dX7_action_104 : decode cX7_action 104 = .ok (.iload_n 1, 1) := by decide +kernel
theorem dX7_action_105 : decode cX7_action 105 = .ok (.iastore, 1) := by decide +kernel
theorem dX7_action_106 : decode cX7_action 106 = .ok (.aload_n 0, 1) := by decide +kernel
theorem dX7_action_107 : decode cX7_action 107 = .ok (.getfield 20, 3) := by decide +kernel
theorem dX7_action_110 : decode cX7_action 110 = .ok (.getfield 65, 3) := by decide +kernel
theorem dX7_action_113 : decode cX7_action 113 = .ok (.iload 7, 2) := by decide +kernel
theorem dX7_action_115 : decode cX7_action 115 = .ok (.iload_n 2, 1) := by decide +kernel
theorem dX7_action_116 : decode cX7_action 116 = .ok (.iastore, 1) := by decide +kernel
theorem dX7_action_117 : decode cX7_action 117 = .ok (.aload_n 0, 1) := by decide +kernel
theorem dX7_action_118 : decode cX7_action 118 = .ok (.getfield 20, 3) := by decide +kernel
theorem dX7_action_121 : decode cX7_action 121 = .ok (.getfield 68, 3) := by decide +kernel
theorem dX7_action_124 : decode cX7_action 124 = .ok (.iload 7, 2) := by decide +kernel
theorem dX7_action_126 : decode cX7_action 126 = .ok (.iload_n 3, 1) := by decide +kernel
theorem dX7_action_127 : decode cX7_action 127 = .ok (.iastore, 1) := by decide +kernel
theorem dX7_action_128 : decode cX7_action 128 = .ok (.aload_n 0, 1) := by decide +kernel
theorem dX7_action_129 : decode cX7_action 129 = .ok (.getfield 20, 3) := by decide +kernel
theorem dX7_action_132 : decode cX7_action 132 = .ok (.getfield 71, 3) := by decide +kernel
theorem dX7_action_135 : decode cX7_action 135 = .ok (.iload 7, 2) := by decide +kernel
theorem dX7_action_137 : decode cX7_action 137 = .ok (.iload 4, 2) := by decide +kernel
theorem dX7_action_139 : decode cX7_action 139 = .ok (.iastore, 1) := by decide +kernel
theorem dX7_action_140 : decode cX7_action 140 = .ok (.aload_n 0, 1) := by decide +kernel
theorem dX7_action_141 : decode cX7_action 141 = .ok (.getfield 20, 3) := by decide +kernel
theorem dX7_action_144 : decode cX7_action 144 = .ok (.getfield 74, 3) := by decide +kernel
theorem dX7_action_147 : decode cX7_action 147 = .ok (.iload 7, 2) := by decide +kernel
theorem dX7_action_149 : decode cX7_action 149 = .ok (.iload 5, 2) := by decide +kernel
theorem dX7_action_151 : decode cX7_action 151 = .ok (.iastore, 1) := by decide +kernel
theorem dX7_action_152 : decode cX7_action 152 = .ok (.aload_n 0, 1) := by decide +kernel
theorem dX7_action_153 : decode cX7_action 153 = .ok (.getfield 20, 3) := by decide +kernel
theorem dX7_action_156 : decode cX7_action 156 = .ok (.getfield 77, 3) := by decide +kernel
theorem dX7_action_159 : decode cX7_action 159 = .ok (.iload 7, 2) := by decide +kernel
theorem dX7_action_161 : decode cX7_action 161 = .ok (.iload 6, 2) := by decide +kernel
theorem dX7_action_163 : decode cX7_action 163 = .ok (.iastore, 1) := by decide +kernel
theorem dX7_action_164 : decode cX7_action 164 = .ok (.aload_n 0, 1) := by decide +kernel
theorem dX7_action_165 : decode cX7_action 165 = .ok (.getfield 20, 3) := by decide +kernel
theorem dX7_action_168 : decode cX7_action 168 = .ok (.dup, 1) := by decide +kernel
theorem dX7_action_169 : decode cX7_action 169 = .ok (.getfield 54, 3) := by decide +kernel
theorem dX7_action_172 : decode cX7_action 172 = .ok (.iconst 1, 1) := by decide +kernel
theorem dX7_action_173 : decode cX7_action 173 = .ok (.iadd, 1) := by decide +kernel
theorem dX7_action_174 : decode cX7_action 174 = .ok (.putfield 54, 3) := by decide +kernel
theorem dX7_action_177 : decode cX7_action 177 = .ok (.iload 7, 2) := by decide +kernel
theorem dX7_action_179 : decode cX7_action 179 = .ok (.ireturn, 1) := by decide +kernel
theorem dX7_file_0 : decode cX7_file 0 = .ok (.iload_n 1, 1) := by decide +kernel
theorem dX7_file_1 : decode cX7_file 1 = .ok (.bipush 8, 2) := by decide +kernel
theorem dX7_file_3 : decode cX7_file 3 = .ok (.invokestatic 80, 3) := by decide +kernel
theorem dX7_file_6 : decode cX7_file 6 = .ok (.iload_n 2, 1) := by decide +kernel
theorem dX7_file_7 : decode cX7_file 7 = .ok (.iconst 0, 1) := by decide +kernel
theorem dX7_file_8 : decode cX7_file 8 = .ok (.bipush 99, 2) := by decide +kernel
theorem dX7_file_10 : decode cX7_file 10 = .ok (.invokestatic 36, 3) := by decide +kernel
theorem dX7_file_13 : decode cX7_file 13 = .ok (.invokestatic 40, 3) := by decide +kernel
theorem dX7_file_16 : decode cX7_file 16 = .ok (.aload_n 0, 1) := by decide +kernel
theorem dX7_file_17 : decode cX7_file 17 = .ok (.getfield 20, 3) := by decide +kernel
theorem dX7_file_20 : decode cX7_file 20 = .ok (.getfield 84, 3) := by decide +kernel
theorem dX7_file_23 : decode cX7_file 23 = .ok (.iload_n 1, 1) := by decide +kernel
theorem dX7_file_24 : decode cX7_file 24 = .ok (.iaload, 1) := by decide +kernel
theorem dX7_file_25 : decode cX7_file 25 = .ok (.istore_n 3, 1) := by decide +kernel
theorem dX7_file_26 : decode cX7_file 26 = .ok (.aload_n 0, 1) := by decide +kernel
theorem dX7_file_27 : decode cX7_file 27 = .ok (.getfield 20, 3) := by decide +kernel
theorem dX7_file_30 : decode cX7_file 30 = .ok (.getfield 84, 3) := by decide +kernel
theorem dX7_file_33 : decode cX7_file 33 = .ok (.iload_n 1, 1) := by decide +kernel
theorem dX7_file_34 : decode cX7_file 34 = .ok (.iload_n 2, 1) := by decide +kernel
theorem dX7_file_35 : decode cX7_file 35 = .ok (.iastore, 1) := by decide +kernel
theorem dX7_file_36 : decode cX7_file 36 = .ok (.iload_n 3, 1) := by decide +kernel
theorem dX7_file_37 : decode cX7_file 37 = .ok (.ireturn, 1) := by decide +kernel
theorem dX7_set_0 : decode cX7_set 0 = .ok (.iload_n 1, 1) := by decide +kernel
theorem dX7_set_1 : decode cX7_set 1 = .ok (.bipush 6, 2) := by decide +kernel
theorem dX7_set_3 : decode cX7_set 3 = .ok (.invokestatic 80, 3) := by decide +kernel
theorem dX7_set_6 : decode cX7_set 6 = .ok (.iload_n 2, 1) := by decide +kernel
theorem dX7_set_7 : decode cX7_set 7 = .ok (.iconst 0, 1) := by decide +kernel
theorem dX7_set_8 : decode cX7_set 8 = .ok (.bipush 9, 2) := by decide +kernel
theorem dX7_set_10 : decode cX7_set 10 = .ok (.invokestatic 36, 3) := by decide +kernel
theorem dX7_set_13 : decode cX7_set 13 = .ok (.invokestatic 40, 3) := by decide +kernel
theorem dX7_set_16 : decode cX7_set 16 = .ok (.aload_n 0, 1) := by decide +kernel
theorem dX7_set_17 : decode cX7_set 17 = .ok (.getfield 20, 3) := by decide +kernel
theorem dX7_set_20 : decode cX7_set 20 = .ok (.getfield 87, 3) := by decide +kernel
theorem dX7_set_23 : decode cX7_set 23 = .ok (.iload_n 1, 1) := by decide +kernel
theorem dX7_set_24 : decode cX7_set 24 = .ok (.iaload, 1) := by decide +kernel
theorem dX7_set_25 : decode cX7_set 25 = .ok (.istore_n 3, 1) := by decide +kernel
theorem dX7_set_26 : decode cX7_set 26 = .ok (.aload_n 0, 1) := by decide +kernel
theorem dX7_set_27 : decode cX7_set 27 = .ok (.getfield 20, 3) := by decide +kernel
theorem dX7_set_30 : decode cX7_set 30 = .ok (.getfield 87, 3) := by decide +kernel
theorem dX7_set_33 : decode cX7_set 33 = .ok (.iload_n 1, 1) := by decide +kernel
theorem dX7_set_34 : decode cX7_set 34 = .ok (.iload_n 2, 1) := by decide +kernel
theorem dX7_set_35 : decode cX7_set 35 = .ok (.iastore, 1) := by decide +kernel
theorem dX7_set_36 : decode cX7_set 36 = .ok (.iload_n 3, 1) := by decide +kernel
theorem dX7_set_37 : decode cX7_set 37 = .ok (.ireturn, 1) := by decide +kernel
theorem dX7_ofAction_0 : decode cX7_ofAction 0 = .ok (.iload_n 1, 1) := by decide +kernel
theorem dX7_ofAction_1 : decode cX7_ofAction 1 = .ok (.aload_n 0, 1) := by decide +kernel
theorem dX7_ofAction_2 : decode cX7_ofAction 2 = .ok (.getfield 20, 3) := by decide +kernel
theorem dX7_ofAction_5 : decode cX7_ofAction 5 = .ok (.getfield 54, 3) := by decide +kernel
theorem dX7_ofAction_8 : decode cX7_ofAction 8 = .ok (.invokestatic 80, 3) := by decide +kernel
theorem dX7_ofAction_11 : decode cX7_ofAction 11 = .ok (.iload_n 2, 1) := by decide +kernel
theorem dX7_ofAction_12 : decode cX7_ofAction 12 = .ok (.iconst 0, 1) := by decide +kernel
theorem dX7_ofAction_13 : decode cX7_ofAction 13 = .ok (.bipush 7, 2) := by decide +kernel
theorem dX7_ofAction_15 : decode cX7_ofAction 15 = .ok (.invokestatic 36, 3) := by decide +kernel
theorem dX7_ofAction_18 : decode cX7_ofAction 18 = .ok (.invokestatic 40, 3) := by decide +kernel
theorem dX7_ofAction_21 : decode cX7_ofAction 21 = .ok (.iload_n 2, 1) := by decide +kernel
theorem dX7_ofAction_22 : decode cX7_ofAction 22 = .ok (.tableswitch 111 0 6 #[42, 52, 62, 72, 82, 92, 102], 42) := by decide +kernel
theorem dX7_ofAction_64 : decode cX7_ofAction 64 = .ok (.aload_n 0, 1) := by decide +kernel
theorem dX7_ofAction_65 : decode cX7_ofAction 65 = .ok (.getfield 20, 3) := by decide +kernel
theorem dX7_ofAction_68 : decode cX7_ofAction 68 = .ok (.getfield 61, 3) := by decide +kernel
theorem dX7_ofAction_71 : decode cX7_ofAction 71 = .ok (.iload_n 1, 1) := by decide +kernel
theorem dX7_ofAction_72 : decode cX7_ofAction 72 = .ok (.iaload, 1) := by decide +kernel
theorem dX7_ofAction_73 : decode cX7_ofAction 73 = .ok (.ireturn, 1) := by decide +kernel
theorem dX7_ofAction_74 : decode cX7_ofAction 74 = .ok (.aload_n 0, 1) := by decide +kernel
theorem dX7_ofAction_75 : decode cX7_ofAction 75 = .ok (.getfield 20, 3) := by decide +kernel
theorem dX7_ofAction_78 : decode cX7_ofAction 78 = .ok (.getfield 65, 3) := by decide +kernel
theorem dX7_ofAction_81 : decode cX7_ofAction 81 = .ok (.iload_n 1, 1) := by decide +kernel
theorem dX7_ofAction_82 : decode cX7_ofAction 82 = .ok (.iaload, 1) := by decide +kernel
theorem dX7_ofAction_83 : decode cX7_ofAction 83 = .ok (.ireturn, 1) := by decide +kernel
theorem dX7_ofAction_84 : decode cX7_ofAction 84 = .ok (.aload_n 0, 1) := by decide +kernel
theorem dX7_ofAction_85 : decode cX7_ofAction 85 = .ok (.getfield 20, 3) := by decide +kernel
theorem dX7_ofAction_88 : decode cX7_ofAction 88 = .ok (.getfield 68, 3) := by decide +kernel
theorem dX7_ofAction_91 : decode cX7_ofAction 91 = .ok (.iload_n 1, 1) := by decide +kernel
theorem dX7_ofAction_92 : decode cX7_ofAction 92 = .ok (.iaload, 1) := by decide +kernel
theorem dX7_ofAction_93 : decode cX7_ofAction 93 = .ok (.ireturn, 1) := by decide +kernel
theorem dX7_ofAction_94 : decode cX7_ofAction 94 = .ok (.aload_n 0, 1) := by decide +kernel
theorem dX7_ofAction_95 : decode cX7_ofAction 95 = .ok (.getfield 20, 3) := by decide +kernel
theorem dX7_ofAction_98 : decode cX7_ofAction 98 = .ok (.getfield 71, 3) := by decide +kernel
theorem dX7_ofAction_101 : decode cX7_ofAction 101 = .ok (.iload_n 1, 1) := by decide +kernel
theorem dX7_ofAction_102 : decode cX7_ofAction 102 = .ok (.iaload, 1) := by decide +kernel
theorem dX7_ofAction_103 : decode cX7_ofAction 103 = .ok (.ireturn, 1) := by decide +kernel
theorem dX7_ofAction_104 : decode cX7_ofAction 104 = .ok (.aload_n 0, 1) := by decide +kernel
theorem dX7_ofAction_105 : decode cX7_ofAction 105 = .ok (.getfield 20, 3) := by decide +kernel
theorem dX7_ofAction_108 : decode cX7_ofAction 108 = .ok (.getfield 74, 3) := by decide +kernel
theorem dX7_ofAction_111 : decode cX7_ofAction 111 = .ok (.iload_n 1, 1) := by decide +kernel
theorem dX7_ofAction_112 : decode cX7_ofAction 112 = .ok (.iaload, 1) := by decide +kernel
theorem dX7_ofAction_113 : decode cX7_ofAction 113 = .ok (.ireturn, 1) := by decide +kernel
theorem dX7_ofAction_114 : decode cX7_ofAction 114 = .ok (.aload_n 0, 1) := by decide +kernel
theorem dX7_ofAction_115 : decode cX7_ofAction 115 = .ok (.getfield 20, 3) := by decide +kernel
theorem dX7_ofAction_118 : decode cX7_ofAction 118 = .ok (.getfield 77, 3) := by decide +kernel
theorem dX7_ofAction_121 : decode cX7_ofAction 121 = .ok (.iload_n 1, 1) := by decide +kernel
theorem dX7_ofAction_122 : decode cX7_ofAction 122 = .ok (.iaload, 1) := by decide +kernel
theorem dX7_ofAction_123 : decode cX7_ofAction 123 = .ok (.ireturn, 1) := by decide +kernel
theorem dX7_ofAction_124 : decode cX7_ofAction 124 = .ok (.aload_n 0, 1) := by decide +kernel
theorem dX7_ofAction_125 : decode cX7_ofAction 125 = .ok (.getfield 20, 3) := by decide +kernel
theorem dX7_ofAction_128 : decode cX7_ofAction 128 = .ok (.iload_n 1, 1) := by decide +kernel
theorem dX7_ofAction_129 : decode cX7_ofAction 129 = .ok (.invokevirtual 90, 3) := by decide +kernel
theorem dX7_ofAction_132 : decode cX7_ofAction 132 = .ok (.ireturn, 1) := by decide +kernel
theorem dX7_ofAction_133 : decode cX7_ofAction 133 = .ok (.aload_n 0, 1) := by decide +kernel
theorem dX7_ofAction_134 : decode cX7_ofAction 134 = .ok (.getfield 35, 3) := by decide +kernel
theorem dX7_ofAction_137 : decode cX7_ofAction 137 = .ok (.iconst 1, 1) := by decide +kernel
theorem dX7_ofAction_138 : decode cX7_ofAction 138 = .ok (.iload_n 1, 1) := by decide +kernel
theorem dX7_ofAction_139 : decode cX7_ofAction 139 = .ok (.ishl, 1) := by decide +kernel
theorem dX7_ofAction_140 : decode cX7_ofAction 140 = .ok (.invokevirtual 94, 3) := by decide +kernel
theorem dX7_ofAction_143 : decode cX7_ofAction 143 = .ok (.ireturn, 1) := by decide +kernel
theorem dX7_worker_0 : decode cX7_worker 0 = .ok (.iload_n 1, 1) := by decide +kernel
theorem dX7_worker_1 : decode cX7_worker 1 = .ok (.iconst 0, 1) := by decide +kernel
theorem dX7_worker_2 : decode cX7_worker 2 = .ok (.bipush 9, 2) := by decide +kernel
theorem dX7_worker_4 : decode cX7_worker 4 = .ok (.invokestatic 36, 3) := by decide +kernel
theorem dX7_worker_7 : decode cX7_worker 7 = .ok (.invokestatic 40, 3) := by decide +kernel
theorem dX7_worker_10 : decode cX7_worker 10 = .ok (.aload_n 0, 1) := by decide +kernel
theorem dX7_worker_11 : decode cX7_worker 11 = .ok (.getfield 25, 3) := by decide +kernel
theorem dX7_worker_14 : decode cX7_worker 14 = .ok (.getfield 99, 3) := by decide +kernel
theorem dX7_worker_17 : decode cX7_worker 17 = .ok (.iconst 4, 1) := by decide +kernel
theorem dX7_worker_18 : decode cX7_worker 18 = .ok (.if_icmp .ge 7, 3) := by decide +kernel
theorem dX7_worker_21 : decode cX7_worker 21 = .ok (.iconst 1, 1) := by decide +kernel
theorem dX7_worker_22 : decode cX7_worker 22 = .ok (.goto 4, 3) := by decide +kernel
theorem dX7_worker_25 : decode cX7_worker 25 = .ok (.iconst 0, 1) := by decide +kernel
theorem dX7_worker_26 : decode cX7_worker 26 = .ok (.invokestatic 58, 3) := by decide +kernel
theorem dX7_worker_29 : decode cX7_worker 29 = .ok (.aload_n 0, 1) := by decide +kernel
theorem dX7_worker_30 : decode cX7_worker 30 = .ok (.getfield 25, 3) := by decide +kernel
theorem dX7_worker_33 : decode cX7_worker 33 = .ok (.getfield 99, 3) := by decide +kernel
theorem dX7_worker_36 : decode cX7_worker 36 = .ok (.istore_n 2, 1) := by decide +kernel
theorem dX7_worker_37 : decode cX7_worker 37 = .ok (.aload_n 0, 1) := by decide +kernel
theorem dX7_worker_38 : decode cX7_worker 38 = .ok (.getfield 25, 3) := by decide +kernel
theorem dX7_worker_41 : decode cX7_worker 41 = .ok (.getfield 102, 3) := by decide +kernel
theorem dX7_worker_44 : decode cX7_worker 44 = .ok (.iload_n 2, 1) := by decide +kernel
theorem dX7_worker_45 : decode cX7_worker 45 = .ok (.iload_n 1, 1) := by decide +kernel
theorem dX7_worker_46 : decode cX7_worker 46 = .ok (.iastore, 1) := by decide +kernel
theorem dX7_worker_47 : decode cX7_worker 47 = .ok (.aload_n 0, 1) := by decide +kernel
theorem dX7_worker_48 : decode cX7_worker 48 = .ok (.getfield 25, 3) := by decide +kernel
theorem dX7_worker_51 : decode cX7_worker 51 = .ok (.getfield 105, 3) := by decide +kernel
theorem dX7_worker_54 : decode cX7_worker 54 = .ok (.iload_n 2, 1) := by decide +kernel
theorem dX7_worker_55 : decode cX7_worker 55 = .ok (.bipush 50, 2) := by decide +kernel
theorem dX7_worker_57 : decode cX7_worker 57 = .ok (.iastore, 1) := by decide +kernel
theorem dX7_worker_58 : decode cX7_worker 58 = .ok (.aload_n 0, 1) := by decide +kernel
theorem dX7_worker_59 : decode cX7_worker 59 = .ok (.getfield 25, 3) := by decide +kernel
theorem dX7_worker_62 : decode cX7_worker 62 = .ok (.dup, 1) := by decide +kernel
theorem dX7_worker_63 : decode cX7_worker 63 = .ok (.getfield 99, 3) := by decide +kernel
theorem dX7_worker_66 : decode cX7_worker 66 = .ok (.iconst 1, 1) := by decide +kernel
theorem dX7_worker_67 : decode cX7_worker 67 = .ok (.iadd, 1) := by decide +kernel
theorem dX7_worker_68 : decode cX7_worker 68 = .ok (.putfield 99, 3) := by decide +kernel
theorem dX7_worker_71 : decode cX7_worker 71 = .ok (.iload_n 2, 1) := by decide +kernel
theorem dX7_worker_72 : decode cX7_worker 72 = .ok (.ireturn, 1) := by decide +kernel
theorem dX7_ofWorker_0 : decode cX7_ofWorker 0 = .ok (.iload_n 1, 1) := by decide +kernel
theorem dX7_ofWorker_1 : decode cX7_ofWorker 1 = .ok (.aload_n 0, 1) := by decide +kernel
theorem dX7_ofWorker_2 : decode cX7_ofWorker 2 = .ok (.getfield 25, 3) := by decide +kernel
theorem dX7_ofWorker_5 : decode cX7_ofWorker 5 = .ok (.getfield 99, 3) := by decide +kernel
theorem dX7_ofWorker_8 : decode cX7_ofWorker 8 = .ok (.invokestatic 80, 3) := by decide +kernel
theorem dX7_ofWorker_11 : decode cX7_ofWorker 11 = .ok (.iload_n 2, 1) := by decide +kernel
theorem dX7_ofWorker_12 : decode cX7_ofWorker 12 = .ok (.iconst 0, 1) := by decide +kernel
theorem dX7_ofWorker_13 : decode cX7_ofWorker 13 = .ok (.iconst 4, 1) := by decide +kernel
theorem dX7_ofWorker_14 : decode cX7_ofWorker 14 = .ok (.invokestatic 36, 3) := by decide +kernel
theorem dX7_ofWorker_17 : decode cX7_ofWorker 17 = .ok (.invokestatic 40, 3) := by decide +kernel
theorem dX7_ofWorker_20 : decode cX7_ofWorker 20 = .ok (.iload_n 2, 1) := by decide +kernel
theorem dX7_ofWorker_21 : decode cX7_ofWorker 21 = .ok (.tableswitch 70 0 3 #[31, 41, 51, 61], 31) := by decide +kernel
theorem dX7_ofWorker_52 : decode cX7_ofWorker 52 = .ok (.aload_n 0, 1) := by decide +kernel
theorem dX7_ofWorker_53 : decode cX7_ofWorker 53 = .ok (.getfield 25, 3) := by decide +kernel
theorem dX7_ofWorker_56 : decode cX7_ofWorker 56 = .ok (.getfield 105, 3) := by decide +kernel
theorem dX7_ofWorker_59 : decode cX7_ofWorker 59 = .ok (.iload_n 1, 1) := by decide +kernel
theorem dX7_ofWorker_60 : decode cX7_ofWorker 60 = .ok (.iaload, 1) := by decide +kernel
theorem dX7_ofWorker_61 : decode cX7_ofWorker 61 = .ok (.ireturn, 1) := by decide +kernel
theorem dX7_ofWorker_62 : decode cX7_ofWorker 62 = .ok (.aload_n 0, 1) := by decide +kernel
theorem dX7_ofWorker_63 : decode cX7_ofWorker 63 = .ok (.getfield 25, 3) := by decide +kernel
theorem dX7_ofWorker_66 : decode cX7_ofWorker 66 = .ok (.getfield 108, 3) := by decide +kernel
theorem dX7_ofWorker_69 : decode cX7_ofWorker 69 = .ok (.iload_n 1, 1) := by decide +kernel
theorem dX7_ofWorker_70 : decode cX7_ofWorker 70 = .ok (.iaload, 1) := by decide +kernel
theorem dX7_ofWorker_71 : decode cX7_ofWorker 71 = .ok (.ireturn, 1) := by decide +kernel
theorem dX7_ofWorker_72 : decode cX7_ofWorker 72 = .ok (.aload_n 0, 1) := by decide +kernel
theorem dX7_ofWorker_73 : decode cX7_ofWorker 73 = .ok (.getfield 25, 3) := by decide +kernel
theorem dX7_ofWorker_76 : decode cX7_ofWorker 76 = .ok (.getfield 111, 3) := by decide +kernel
theorem dX7_ofWorker_79 : decode cX7_ofWorker 79 = .ok (.iload_n 1, 1) := by decide +kernel
theorem dX7_ofWorker_80 : decode cX7_ofWorker 80 = .ok (.iaload, 1) := by decide +kernel
theorem dX7_ofWorker_81 : decode cX7_ofWorker 81 = .ok (.ireturn, 1) := by decide +kernel
theorem dX7_ofWorker_82 : decode cX7_ofWorker 82 = .ok (.aload_n 0, 1) := by decide +kernel
theorem dX7_ofWorker_83 : decode cX7_ofWorker 83 = .ok (.getfield 35, 3) := by decide +kernel
theorem dX7_ofWorker_86 : decode cX7_ofWorker 86 = .ok (.iload_n 1, 1) := by decide +kernel
theorem dX7_ofWorker_87 : decode cX7_ofWorker 87 = .ok (.invokevirtual 114, 3) := by decide +kernel
theorem dX7_ofWorker_90 : decode cX7_ofWorker 90 = .ok (.ireturn, 1) := by decide +kernel
theorem dX7_ofWorker_91 : decode cX7_ofWorker 91 = .ok (.aload_n 0, 1) := by decide +kernel
theorem dX7_ofWorker_92 : decode cX7_ofWorker 92 = .ok (.getfield 25, 3) := by decide +kernel
theorem dX7_ofWorker_95 : decode cX7_ofWorker 95 = .ok (.getfield 117, 3) := by decide +kernel
theorem dX7_ofWorker_98 : decode cX7_ofWorker 98 = .ok (.iload_n 1, 1) := by decide +kernel
theorem dX7_ofWorker_99 : decode cX7_ofWorker 99 = .ok (.iaload, 1) := by decide +kernel
theorem dX7_ofWorker_100 : decode cX7_ofWorker 100 = .ok (.ireturn, 1) := by decide +kernel
theorem dX7_team_0 : decode cX7_team 0 = .ok (.iload_n 1, 1) := by decide +kernel
theorem dX7_team_1 : decode cX7_team 1 = .ok (.iconst 0, 1) := by decide +kernel
theorem dX7_team_2 : decode cX7_team 2 = .ok (.bipush 100, 2) := by decide +kernel
theorem dX7_team_4 : decode cX7_team 4 = .ok (.invokestatic 36, 3) := by decide +kernel
theorem dX7_team_7 : decode cX7_team 7 = .ok (.invokestatic 40, 3) := by decide +kernel
theorem dX7_team_10 : decode cX7_team 10 = .ok (.aload_n 0, 1) := by decide +kernel
theorem dX7_team_11 : decode cX7_team 11 = .ok (.getfield 30, 3) := by decide +kernel
theorem dX7_team_14 : decode cX7_team 14 = .ok (.getfield 120, 3) := by decide +kernel
theorem dX7_team_17 : decode cX7_team 17 = .ok (.iconst 4, 1) := by decide +kernel
theorem dX7_team_18 : decode cX7_team 18 = .ok (.if_icmp .ge 7, 3) := by decide +kernel
theorem dX7_team_21 : decode cX7_team 21 = .ok (.iconst 1, 1) := by decide +kernel
theorem dX7_team_22 : decode cX7_team 22 = .ok (.goto 4, 3) := by decide +kernel
theorem dX7_team_25 : decode cX7_team 25 = .ok (.iconst 0, 1) := by decide +kernel
theorem dX7_team_26 : decode cX7_team 26 = .ok (.invokestatic 58, 3) := by decide +kernel
theorem dX7_team_29 : decode cX7_team 29 = .ok (.aload_n 0, 1) := by decide +kernel
theorem dX7_team_30 : decode cX7_team 30 = .ok (.getfield 30, 3) := by decide +kernel
theorem dX7_team_33 : decode cX7_team 33 = .ok (.getfield 120, 3) := by decide +kernel
theorem dX7_team_36 : decode cX7_team 36 = .ok (.istore_n 2, 1) := by decide +kernel
theorem dX7_team_37 : decode cX7_team 37 = .ok (.aload_n 0, 1) := by decide +kernel
theorem dX7_team_38 : decode cX7_team 38 = .ok (.getfield 30, 3) := by decide +kernel
theorem dX7_team_41 : decode cX7_team 41 = .ok (.getfield 123, 3) := by decide +kernel
theorem dX7_team_44 : decode cX7_team 44 = .ok (.iload_n 2, 1) := by decide +kernel
theorem dX7_team_45 : decode cX7_team 45 = .ok (.iload_n 1, 1) := by decide +kernel
theorem dX7_team_46 : decode cX7_team 46 = .ok (.iastore, 1) := by decide +kernel
theorem dX7_team_47 : decode cX7_team 47 = .ok (.aload_n 0, 1) := by decide +kernel
theorem dX7_team_48 : decode cX7_team 48 = .ok (.getfield 30, 3) := by decide +kernel
theorem dX7_team_51 : decode cX7_team 51 = .ok (.dup, 1) := by decide +kernel
theorem dX7_team_52 : decode cX7_team 52 = .ok (.getfield 120, 3) := by decide +kernel
theorem dX7_team_55 : decode cX7_team 55 = .ok (.iconst 1, 1) := by decide +kernel
theorem dX7_team_56 : decode cX7_team 56 = .ok (.iadd, 1) := by decide +kernel
theorem dX7_team_57 : decode cX7_team 57 = .ok (.putfield 120, 3) := by decide +kernel
theorem dX7_team_60 : decode cX7_team 60 = .ok (.iload_n 2, 1) := by decide +kernel
theorem dX7_team_61 : decode cX7_team 61 = .ok (.ireturn, 1) := by decide +kernel
theorem dX7_quota_0 : decode cX7_quota 0 = .ok (.iload_n 1, 1) := by decide +kernel
theorem dX7_quota_1 : decode cX7_quota 1 = .ok (.aload_n 0, 1) := by decide +kernel
theorem dX7_quota_2 : decode cX7_quota 2 = .ok (.getfield 30, 3) := by decide +kernel
theorem dX7_quota_5 : decode cX7_quota 5 = .ok (.getfield 120, 3) := by decide +kernel
theorem dX7_quota_8 : decode cX7_quota 8 = .ok (.invokestatic 80, 3) := by decide +kernel
theorem dX7_quota_11 : decode cX7_quota 11 = .ok (.iload_n 2, 1) := by decide +kernel
theorem dX7_quota_12 : decode cX7_quota 12 = .ok (.iconst 0, 1) := by decide +kernel
theorem dX7_quota_13 : decode cX7_quota 13 = .ok (.bipush 100, 2) := by decide +kernel
theorem dX7_quota_15 : decode cX7_quota 15 = .ok (.invokestatic 36, 3) := by decide +kernel
theorem dX7_quota_18 : decode cX7_quota 18 = .ok (.invokestatic 40, 3) := by decide +kernel
theorem dX7_quota_21 : decode cX7_quota 21 = .ok (.aload_n 0, 1) := by decide +kernel
theorem dX7_quota_22 : decode cX7_quota 22 = .ok (.getfield 30, 3) := by decide +kernel
theorem dX7_quota_25 : decode cX7_quota 25 = .ok (.getfield 123, 3) := by decide +kernel
theorem dX7_quota_28 : decode cX7_quota 28 = .ok (.iload_n 1, 1) := by decide +kernel
theorem dX7_quota_29 : decode cX7_quota 29 = .ok (.iload_n 2, 1) := by decide +kernel
theorem dX7_quota_30 : decode cX7_quota 30 = .ok (.iastore, 1) := by decide +kernel
theorem dX7_quota_31 : decode cX7_quota 31 = .ok (.aload_n 0, 1) := by decide +kernel
theorem dX7_quota_32 : decode cX7_quota 32 = .ok (.getfield 35, 3) := by decide +kernel
theorem dX7_quota_35 : decode cX7_quota 35 = .ok (.iload_n 1, 1) := by decide +kernel
theorem dX7_quota_36 : decode cX7_quota 36 = .ok (.iload_n 2, 1) := by decide +kernel
theorem dX7_quota_37 : decode cX7_quota 37 = .ok (.invokevirtual 126, 3) := by decide +kernel
theorem dX7_quota_40 : decode cX7_quota 40 = .ok (.ireturn, 1) := by decide +kernel
theorem dX7_ofTeam_0 : decode cX7_ofTeam 0 = .ok (.iload_n 1, 1) := by decide +kernel
theorem dX7_ofTeam_1 : decode cX7_ofTeam 1 = .ok (.aload_n 0, 1) := by decide +kernel
theorem dX7_ofTeam_2 : decode cX7_ofTeam 2 = .ok (.getfield 30, 3) := by decide +kernel
theorem dX7_ofTeam_5 : decode cX7_ofTeam 5 = .ok (.getfield 120, 3) := by decide +kernel
theorem dX7_ofTeam_8 : decode cX7_ofTeam 8 = .ok (.invokestatic 80, 3) := by decide +kernel
theorem dX7_ofTeam_11 : decode cX7_ofTeam 11 = .ok (.iload_n 2, 1) := by decide +kernel
theorem dX7_ofTeam_12 : decode cX7_ofTeam 12 = .ok (.iconst 0, 1) := by decide +kernel
theorem dX7_ofTeam_13 : decode cX7_ofTeam 13 = .ok (.iconst 4, 1) := by decide +kernel
theorem dX7_ofTeam_14 : decode cX7_ofTeam 14 = .ok (.invokestatic 36, 3) := by decide +kernel
theorem dX7_ofTeam_17 : decode cX7_ofTeam 17 = .ok (.invokestatic 40, 3) := by decide +kernel
theorem dX7_ofTeam_20 : decode cX7_ofTeam 20 = .ok (.iload_n 2, 1) := by decide +kernel
theorem dX7_ofTeam_21 : decode cX7_ofTeam 21 = .ok (.tableswitch 70 0 3 #[31, 41, 50, 60], 31) := by decide +kernel
theorem dX7_ofTeam_52 : decode cX7_ofTeam 52 = .ok (.aload_n 0, 1) := by decide +kernel
theorem dX7_ofTeam_53 : decode cX7_ofTeam 53 = .ok (.getfield 30, 3) := by decide +kernel
theorem dX7_ofTeam_56 : decode cX7_ofTeam 56 = .ok (.getfield 123, 3) := by decide +kernel
theorem dX7_ofTeam_59 : decode cX7_ofTeam 59 = .ok (.iload_n 1, 1) := by decide +kernel
theorem dX7_ofTeam_60 : decode cX7_ofTeam 60 = .ok (.iaload, 1) := by decide +kernel
theorem dX7_ofTeam_61 : decode cX7_ofTeam 61 = .ok (.ireturn, 1) := by decide +kernel
theorem dX7_ofTeam_62 : decode cX7_ofTeam 62 = .ok (.aload_n 0, 1) := by decide +kernel
theorem dX7_ofTeam_63 : decode cX7_ofTeam 63 = .ok (.getfield 35, 3) := by decide +kernel
theorem dX7_ofTeam_66 : decode cX7_ofTeam 66 = .ok (.iload_n 1, 1) := by decide +kernel
theorem dX7_ofTeam_67 : decode cX7_ofTeam 67 = .ok (.invokevirtual 130, 3) := by decide +kernel
theorem dX7_ofTeam_70 : decode cX7_ofTeam 70 = .ok (.ireturn, 1) := by decide +kernel
theorem dX7_ofTeam_71 : decode cX7_ofTeam 71 = .ok (.aload_n 0, 1) := by decide +kernel
theorem dX7_ofTeam_72 : decode cX7_ofTeam 72 = .ok (.getfield 30, 3) := by decide +kernel
theorem dX7_ofTeam_75 : decode cX7_ofTeam 75 = .ok (.getfield 133, 3) := by decide +kernel
theorem dX7_ofTeam_78 : decode cX7_ofTeam 78 = .ok (.iload_n 1, 1) := by decide +kernel
theorem dX7_ofTeam_79 : decode cX7_ofTeam 79 = .ok (.iaload, 1) := by decide +kernel
theorem dX7_ofTeam_80 : decode cX7_ofTeam 80 = .ok (.ireturn, 1) := by decide +kernel
theorem dX7_ofTeam_81 : decode cX7_ofTeam 81 = .ok (.aload_n 0, 1) := by decide +kernel
theorem dX7_ofTeam_82 : decode cX7_ofTeam 82 = .ok (.getfield 30, 3) := by decide +kernel
theorem dX7_ofTeam_85 : decode cX7_ofTeam 85 = .ok (.getfield 136, 3) := by decide +kernel
theorem dX7_ofTeam_88 : decode cX7_ofTeam 88 = .ok (.iload_n 1, 1) := by decide +kernel
theorem dX7_ofTeam_89 : decode cX7_ofTeam 89 = .ok (.iaload, 1) := by decide +kernel
theorem dX7_ofTeam_90 : decode cX7_ofTeam 90 = .ok (.ireturn, 1) := by decide +kernel
theorem dX7_ofTeam_91 : decode cX7_ofTeam 91 = .ok (.aload_n 0, 1) := by decide +kernel
theorem dX7_ofTeam_92 : decode cX7_ofTeam 92 = .ok (.getfield 35, 3) := by decide +kernel
theorem dX7_ofTeam_95 : decode cX7_ofTeam 95 = .ok (.iload_n 1, 1) := by decide +kernel
theorem dX7_ofTeam_96 : decode cX7_ofTeam 96 = .ok (.invokevirtual 139, 3) := by decide +kernel
theorem dX7_ofTeam_99 : decode cX7_ofTeam 99 = .ok (.ireturn, 1) := by decide +kernel
theorem dX7_build_0 : decode cX7_build 0 = .ok (.iload_n 1, 1) := by decide +kernel
theorem dX7_build_1 : decode cX7_build 1 = .ok (.aload_n 0, 1) := by decide +kernel
theorem dX7_build_2 : decode cX7_build 2 = .ok (.getfield 30, 3) := by decide +kernel
theorem dX7_build_5 : decode cX7_build 5 = .ok (.getfield 120, 3) := by decide +kernel
theorem dX7_build_8 : decode cX7_build 8 = .ok (.invokestatic 80, 3) := by decide +kernel
theorem dX7_build_11 : decode cX7_build 11 = .ok (.iload_n 2, 1) := by decide +kernel
theorem dX7_build_12 : decode cX7_build 12 = .ok (.aload_n 0, 1) := by decide +kernel
theorem dX7_build_13 : decode cX7_build 13 = .ok (.getfield 20, 3) := by decide +kernel
theorem dX7_build_16 : decode cX7_build 16 = .ok (.getfield 54, 3) := by decide +kernel
theorem dX7_build_19 : decode cX7_build 19 = .ok (.invokestatic 80, 3) := by decide +kernel
theorem dX7_build_22 : decode cX7_build 22 = .ok (.aload_n 0, 1) := by decide +kernel
theorem dX7_build_23 : decode cX7_build 23 = .ok (.getfield 10, 3) := by decide +kernel
theorem dX7_build_26 : decode cX7_build 26 = .ok (.iload_n 1, 1) := by decide +kernel
theorem dX7_build_27 : decode cX7_build 27 = .ok (.iload_n 2, 1) := by decide +kernel
theorem dX7_build_28 : decode cX7_build 28 = .ok (.invokevirtual 142, 3) := by decide +kernel
theorem dX7_build_31 : decode cX7_build 31 = .ok (.istore_n 3, 1) := by decide +kernel
theorem dX7_build_32 : decode cX7_build 32 = .ok (.iload_n 3, 1) := by decide +kernel
theorem dX7_build_33 : decode cX7_build 33 = .ok (.invokestatic 58, 3) := by decide +kernel
theorem dX7_build_36 : decode cX7_build 36 = .ok (.aload_n 0, 1) := by decide +kernel
theorem dX7_build_37 : decode cX7_build 37 = .ok (.getfield 10, 3) := by decide +kernel
theorem dX7_build_40 : decode cX7_build 40 = .ok (.getfield 145, 3) := by decide +kernel
theorem dX7_build_43 : decode cX7_build 43 = .ok (.getfield 149, 3) := by decide +kernel
theorem dX7_build_46 : decode cX7_build 46 = .ok (.iload_n 2, 1) := by decide +kernel
theorem dX7_build_47 : decode cX7_build 47 = .ok (.iaload, 1) := by decide +kernel
theorem dX7_build_48 : decode cX7_build 48 = .ok (.ireturn, 1) := by decide +kernel
theorem dX7_check_0 : decode cX7_check 0 = .ok (.iload_n 1, 1) := by decide +kernel
theorem dX7_check_1 : decode cX7_check 1 = .ok (.iconst 0, 1) := by decide +kernel
theorem dX7_check_2 : decode cX7_check 2 = .ok (.bipush 9, 2) := by decide +kernel
theorem dX7_check_4 : decode cX7_check 4 = .ok (.invokestatic 36, 3) := by decide +kernel
theorem dX7_check_7 : decode cX7_check 7 = .ok (.invokestatic 40, 3) := by decide +kernel
theorem dX7_check_10 : decode cX7_check 10 = .ok (.aload_n 0, 1) := by decide +kernel
theorem dX7_check_11 : decode cX7_check 11 = .ok (.getfield 10, 3) := by decide +kernel
theorem dX7_check_14 : decode cX7_check 14 = .ok (.getfield 154, 3) := by decide +kernel
theorem dX7_check_17 : decode cX7_check 17 = .ok (.istore_n 2, 1) := by decide +kernel
theorem dX7_check_18 : decode cX7_check 18 = .ok (.aload_n 0, 1) := by decide +kernel
theorem dX7_check_19 : decode cX7_check 19 = .ok (.getfield 10, 3) := by decide +kernel
theorem dX7_check_22 : decode cX7_check 22 = .ok (.iload_n 1, 1) := by decide +kernel
theorem dX7_check_23 : decode cX7_check 23 = .ok (.putfield 154, 3) := by decide +kernel
theorem dX7_check_26 : decode cX7_check 26 = .ok (.iload_n 2, 1) := by decide +kernel
theorem dX7_check_27 : decode cX7_check 27 = .ok (.ireturn, 1) := by decide +kernel
theorem dX7_recheck_0 : decode cX7_recheck 0 = .ok (.iload_n 1, 1) := by decide +kernel
theorem dX7_recheck_1 : decode cX7_recheck 1 = .ok (.aload_n 0, 1) := by decide +kernel
theorem dX7_recheck_2 : decode cX7_recheck 2 = .ok (.getfield 35, 3) := by decide +kernel
theorem dX7_recheck_5 : decode cX7_recheck 5 = .ok (.getfield 157, 3) := by decide +kernel
theorem dX7_recheck_8 : decode cX7_recheck 8 = .ok (.invokestatic 80, 3) := by decide +kernel
theorem dX7_recheck_11 : decode cX7_recheck 11 = .ok (.aload_n 0, 1) := by decide +kernel
theorem dX7_recheck_12 : decode cX7_recheck 12 = .ok (.getfield 35, 3) := by decide +kernel
theorem dX7_recheck_15 : decode cX7_recheck 15 = .ok (.getfield 158, 3) := by decide +kernel
theorem dX7_recheck_18 : decode cX7_recheck 18 = .ok (.iload_n 1, 1) := by decide +kernel
theorem dX7_recheck_19 : decode cX7_recheck 19 = .ok (.iaload, 1) := by decide +kernel
theorem dX7_recheck_20 : decode cX7_recheck 20 = .ok (.ifCond .ne 17, 3) := by decide +kernel
theorem dX7_recheck_23 : decode cX7_recheck 23 = .ok (.aload_n 0, 1) := by decide +kernel
theorem dX7_recheck_24 : decode cX7_recheck 24 = .ok (.getfield 35, 3) := by decide +kernel
theorem dX7_recheck_27 : decode cX7_recheck 27 = .ok (.invokevirtual 161, 3) := by decide +kernel
theorem dX7_recheck_30 : decode cX7_recheck 30 = .ok (.ifCond .ne 7, 3) := by decide +kernel
theorem dX7_recheck_33 : decode cX7_recheck 33 = .ok (.iconst 1, 1) := by decide +kernel
theorem dX7_recheck_34 : decode cX7_recheck 34 = .ok (.goto 4, 3) := by decide +kernel
theorem dX7_recheck_37 : decode cX7_recheck 37 = .ok (.iconst 0, 1) := by decide +kernel
theorem dX7_recheck_38 : decode cX7_recheck 38 = .ok (.invokestatic 58, 3) := by decide +kernel
theorem dX7_recheck_41 : decode cX7_recheck 41 = .ok (.aload_n 0, 1) := by decide +kernel
theorem dX7_recheck_42 : decode cX7_recheck 42 = .ok (.getfield 35, 3) := by decide +kernel
theorem dX7_recheck_45 : decode cX7_recheck 45 = .ok (.aload_n 0, 1) := by decide +kernel
theorem dX7_recheck_46 : decode cX7_recheck 46 = .ok (.getfield 20, 3) := by decide +kernel
theorem dX7_recheck_49 : decode cX7_recheck 49 = .ok (.iload_n 1, 1) := by decide +kernel
theorem dX7_recheck_50 : decode cX7_recheck 50 = .ok (.invokevirtual 165, 3) := by decide +kernel
theorem dX7_recheck_53 : decode cX7_recheck 53 = .ok (.invokestatic 58, 3) := by decide +kernel
theorem dX7_recheck_56 : decode cX7_recheck 56 = .ok (.aload_n 0, 1) := by decide +kernel
theorem dX7_recheck_57 : decode cX7_recheck 57 = .ok (.getfield 10, 3) := by decide +kernel
theorem dX7_recheck_60 : decode cX7_recheck 60 = .ok (.iload_n 1, 1) := by decide +kernel
theorem dX7_recheck_61 : decode cX7_recheck 61 = .ok (.invokevirtual 169, 3) := by decide +kernel
theorem dX7_recheck_64 : decode cX7_recheck 64 = .ok (.ireturn, 1) := by decide +kernel
theorem dX7_ofEntry_0 : decode cX7_ofEntry 0 = .ok (.iload_n 1, 1) := by decide +kernel
theorem dX7_ofEntry_1 : decode cX7_ofEntry 1 = .ok (.aload_n 0, 1) := by decide +kernel
theorem dX7_ofEntry_2 : decode cX7_ofEntry 2 = .ok (.getfield 35, 3) := by decide +kernel
theorem dX7_ofEntry_5 : decode cX7_ofEntry 5 = .ok (.getfield 157, 3) := by decide +kernel
theorem dX7_ofEntry_8 : decode cX7_ofEntry 8 = .ok (.invokestatic 80, 3) := by decide +kernel
theorem dX7_ofEntry_11 : decode cX7_ofEntry 11 = .ok (.iload_n 2, 1) := by decide +kernel
theorem dX7_ofEntry_12 : decode cX7_ofEntry 12 = .ok (.iconst 0, 1) := by decide +kernel
theorem dX7_ofEntry_13 : decode cX7_ofEntry 13 = .ok (.bipush 7, 2) := by decide +kernel
theorem dX7_ofEntry_15 : decode cX7_ofEntry 15 = .ok (.invokestatic 36, 3) := by decide +kernel
theorem dX7_ofEntry_18 : decode cX7_ofEntry 18 = .ok (.invokestatic 40, 3) := by decide +kernel
theorem dX7_ofEntry_21 : decode cX7_ofEntry 21 = .ok (.iload_n 2, 1) := by decide +kernel
theorem dX7_ofEntry_22 : decode cX7_ofEntry 22 = .ok (.tableswitch 111 0 6 #[42, 52, 62, 72, 82, 92, 102], 42) := by decide +kernel
theorem dX7_ofEntry_64 : decode cX7_ofEntry 64 = .ok (.aload_n 0, 1) := by decide +kernel
theorem dX7_ofEntry_65 : decode cX7_ofEntry 65 = .ok (.getfield 35, 3) := by decide +kernel
theorem dX7_ofEntry_68 : decode cX7_ofEntry 68 = .ok (.getfield 172, 3) := by decide +kernel
theorem dX7_ofEntry_71 : decode cX7_ofEntry 71 = .ok (.iload_n 1, 1) := by decide +kernel
theorem dX7_ofEntry_72 : decode cX7_ofEntry 72 = .ok (.iaload, 1) := by decide +kernel
theorem dX7_ofEntry_73 : decode cX7_ofEntry 73 = .ok (.ireturn, 1) := by decide +kernel
theorem dX7_ofEntry_74 : decode cX7_ofEntry 74 = .ok (.aload_n 0, 1) := by decide +kernel
theorem dX7_ofEntry_75 : decode cX7_ofEntry 75 = .ok (.getfield 35, 3) := by decide +kernel
theorem dX7_ofEntry_78 : decode cX7_ofEntry 78 = .ok (.getfield 175, 3) := by decide +kernel
theorem dX7_ofEntry_81 : decode cX7_ofEntry 81 = .ok (.iload_n 1, 1) := by decide +kernel
theorem dX7_ofEntry_82 : decode cX7_ofEntry 82 = .ok (.iaload, 1) := by decide +kernel
theorem dX7_ofEntry_83 : decode cX7_ofEntry 83 = .ok (.ireturn, 1) := by decide +kernel
theorem dX7_ofEntry_84 : decode cX7_ofEntry 84 = .ok (.aload_n 0, 1) := by decide +kernel
theorem dX7_ofEntry_85 : decode cX7_ofEntry 85 = .ok (.getfield 35, 3) := by decide +kernel
theorem dX7_ofEntry_88 : decode cX7_ofEntry 88 = .ok (.getfield 178, 3) := by decide +kernel
theorem dX7_ofEntry_91 : decode cX7_ofEntry 91 = .ok (.iload_n 1, 1) := by decide +kernel
theorem dX7_ofEntry_92 : decode cX7_ofEntry 92 = .ok (.iaload, 1) := by decide +kernel
theorem dX7_ofEntry_93 : decode cX7_ofEntry 93 = .ok (.ireturn, 1) := by decide +kernel
theorem dX7_ofEntry_94 : decode cX7_ofEntry 94 = .ok (.aload_n 0, 1) := by decide +kernel
theorem dX7_ofEntry_95 : decode cX7_ofEntry 95 = .ok (.getfield 35, 3) := by decide +kernel
theorem dX7_ofEntry_98 : decode cX7_ofEntry 98 = .ok (.getfield 181, 3) := by decide +kernel
theorem dX7_ofEntry_101 : decode cX7_ofEntry 101 = .ok (.iload_n 1, 1) := by decide +kernel
theorem dX7_ofEntry_102 : decode cX7_ofEntry 102 = .ok (.iaload, 1) := by decide +kernel
theorem dX7_ofEntry_103 : decode cX7_ofEntry 103 = .ok (.ireturn, 1) := by decide +kernel
theorem dX7_ofEntry_104 : decode cX7_ofEntry 104 = .ok (.aload_n 0, 1) := by decide +kernel
theorem dX7_ofEntry_105 : decode cX7_ofEntry 105 = .ok (.getfield 35, 3) := by decide +kernel
theorem dX7_ofEntry_108 : decode cX7_ofEntry 108 = .ok (.getfield 182, 3) := by decide +kernel
theorem dX7_ofEntry_111 : decode cX7_ofEntry 111 = .ok (.iload_n 1, 1) := by decide +kernel
theorem dX7_ofEntry_112 : decode cX7_ofEntry 112 = .ok (.iaload, 1) := by decide +kernel
theorem dX7_ofEntry_113 : decode cX7_ofEntry 113 = .ok (.ireturn, 1) := by decide +kernel
theorem dX7_ofEntry_114 : decode cX7_ofEntry 114 = .ok (.aload_n 0, 1) := by decide +kernel
theorem dX7_ofEntry_115 : decode cX7_ofEntry 115 = .ok (.getfield 35, 3) := by decide +kernel
theorem dX7_ofEntry_118 : decode cX7_ofEntry 118 = .ok (.getfield 158, 3) := by decide +kernel
theorem dX7_ofEntry_121 : decode cX7_ofEntry 121 = .ok (.iload_n 1, 1) := by decide +kernel
theorem dX7_ofEntry_122 : decode cX7_ofEntry 122 = .ok (.iaload, 1) := by decide +kernel
theorem dX7_ofEntry_123 : decode cX7_ofEntry 123 = .ok (.ireturn, 1) := by decide +kernel
theorem dX7_ofEntry_124 : decode cX7_ofEntry 124 = .ok (.aload_n 0, 1) := by decide +kernel
theorem dX7_ofEntry_125 : decode cX7_ofEntry 125 = .ok (.getfield 35, 3) := by decide +kernel
theorem dX7_ofEntry_128 : decode cX7_ofEntry 128 = .ok (.iload_n 1, 1) := by decide +kernel
theorem dX7_ofEntry_129 : decode cX7_ofEntry 129 = .ok (.invokevirtual 185, 3) := by decide +kernel
theorem dX7_ofEntry_132 : decode cX7_ofEntry 132 = .ok (.ireturn, 1) := by decide +kernel
theorem dX7_ofEntry_133 : decode cX7_ofEntry 133 = .ok (.aload_n 0, 1) := by decide +kernel
theorem dX7_ofEntry_134 : decode cX7_ofEntry 134 = .ok (.getfield 35, 3) := by decide +kernel
theorem dX7_ofEntry_137 : decode cX7_ofEntry 137 = .ok (.iload_n 1, 1) := by decide +kernel
theorem dX7_ofEntry_138 : decode cX7_ofEntry 138 = .ok (.invokevirtual 188, 3) := by decide +kernel
theorem dX7_ofEntry_141 : decode cX7_ofEntry 141 = .ok (.invokestatic 192, 3) := by decide +kernel
theorem dX7_ofEntry_144 : decode cX7_ofEntry 144 = .ok (.ireturn, 1) := by decide +kernel
theorem dX7_from_0 : decode cX7_from 0 = .ok (.iload_n 1, 1) := by decide +kernel
theorem dX7_from_1 : decode cX7_from 1 = .ok (.aload_n 0, 1) := by decide +kernel
theorem dX7_from_2 : decode cX7_from 2 = .ok (.getfield 35, 3) := by decide +kernel
theorem dX7_from_5 : decode cX7_from 5 = .ok (.getfield 157, 3) := by decide +kernel
theorem dX7_from_8 : decode cX7_from 8 = .ok (.invokestatic 80, 3) := by decide +kernel
theorem dX7_from_11 : decode cX7_from 11 = .ok (.iload_n 2, 1) := by decide +kernel
theorem dX7_from_12 : decode cX7_from 12 = .ok (.aload_n 0, 1) := by decide +kernel
theorem dX7_from_13 : decode cX7_from 13 = .ok (.getfield 20, 3) := by decide +kernel
theorem dX7_from_16 : decode cX7_from 16 = .ok (.getfield 54, 3) := by decide +kernel
theorem dX7_from_19 : decode cX7_from 19 = .ok (.invokestatic 80, 3) := by decide +kernel
theorem dX7_from_22 : decode cX7_from 22 = .ok (.aload_n 0, 1) := by decide +kernel
theorem dX7_from_23 : decode cX7_from 23 = .ok (.getfield 35, 3) := by decide +kernel
theorem dX7_from_26 : decode cX7_from 26 = .ok (.getfield 198, 3) := by decide +kernel
theorem dX7_from_29 : decode cX7_from 29 = .ok (.iload_n 1, 1) := by decide +kernel
theorem dX7_from_30 : decode cX7_from 30 = .ok (.bipush 14, 2) := by decide +kernel
theorem dX7_from_32 : decode cX7_from 32 = .ok (.imul, 1) := by decide +kernel
theorem dX7_from_33 : decode cX7_from 33 = .ok (.iload_n 2, 1) := by decide +kernel
theorem dX7_from_34 : decode cX7_from 34 = .ok (.iadd, 1) := by decide +kernel
theorem dX7_from_35 : decode cX7_from 35 = .ok (.iaload, 1) := by decide +kernel
theorem dX7_from_36 : decode cX7_from 36 = .ok (.istore_n 3, 1) := by decide +kernel
theorem dX7_from_37 : decode cX7_from 37 = .ok (.iload_n 3, 1) := by decide +kernel
theorem dX7_from_38 : decode cX7_from 38 = .ok (.aload_n 0, 1) := by decide +kernel
theorem dX7_from_39 : decode cX7_from 39 = .ok (.getfield 35, 3) := by decide +kernel
theorem dX7_from_42 : decode cX7_from 42 = .ok (.getfield 157, 3) := by decide +kernel
theorem dX7_from_45 : decode cX7_from 45 = .ok (.invokestatic 80, 3) := by decide +kernel
theorem dX7_from_48 : decode cX7_from 48 = .ok (.iload_n 3, 1) := by decide +kernel
theorem dX7_from_49 : decode cX7_from 49 = .ok (.ireturn, 1) := by decide +kernel
theorem dX7_many_0 : decode cX7_many 0 = .ok (.iload_n 1, 1) := by decide +kernel
theorem dX7_many_1 : decode cX7_many 1 = .ok (.iconst 0, 1) := by decide +kernel
theorem dX7_many_2 : decode cX7_many 2 = .ok (.bipush 9, 2) := by decide +kernel
theorem dX7_many_4 : decode cX7_many 4 = .ok (.invokestatic 36, 3) := by decide +kernel
theorem dX7_many_7 : decode cX7_many 7 = .ok (.invokestatic 40, 3) := by decide +kernel
theorem dX7_many_10 : decode cX7_many 10 = .ok (.iload_n 1, 1) := by decide +kernel
theorem dX7_many_11 : decode cX7_many 11 = .ok (.tableswitch 124 0 8 #[49, 57, 65, 73, 81, 90, 99, 108, 116], 49) := by decide +kernel
theorem dX7_many_60 : decode cX7_many 60 = .ok (.aload_n 0, 1) := by decide +kernel
theorem dX7_many_61 : decode cX7_many 61 = .ok (.getfield 20, 3) := by decide +kernel
theorem dX7_many_64 : decode cX7_many 64 = .ok (.getfield 54, 3) := by decide +kernel
theorem dX7_many_67 : decode cX7_many 67 = .ok (.ireturn, 1) := by decide +kernel
theorem dX7_many_68 : decode cX7_many 68 = .ok (.aload_n 0, 1) := by decide +kernel
theorem dX7_many_69 : decode cX7_many 69 = .ok (.getfield 25, 3) := by decide +kernel
theorem dX7_many_72 : decode cX7_many 72 = .ok (.getfield 99, 3) := by decide +kernel
theorem dX7_many_75 : decode cX7_many 75 = .ok (.ireturn, 1) := by decide +kernel
theorem dX7_many_76 : decode cX7_many 76 = .ok (.aload_n 0, 1) := by decide +kernel
theorem dX7_many_77 : decode cX7_many 77 = .ok (.getfield 30, 3) := by decide +kernel
theorem dX7_many_80 : decode cX7_many 80 = .ok (.getfield 120, 3) := by decide +kernel
theorem dX7_many_83 : decode cX7_many 83 = .ok (.ireturn, 1) := by decide +kernel
theorem dX7_many_84 : decode cX7_many 84 = .ok (.aload_n 0, 1) := by decide +kernel
theorem dX7_many_85 : decode cX7_many 85 = .ok (.getfield 35, 3) := by decide +kernel
theorem dX7_many_88 : decode cX7_many 88 = .ok (.getfield 157, 3) := by decide +kernel
theorem dX7_many_91 : decode cX7_many 91 = .ok (.ireturn, 1) := by decide +kernel
theorem dX7_many_92 : decode cX7_many 92 = .ok (.aload_n 0, 1) := by decide +kernel
theorem dX7_many_93 : decode cX7_many 93 = .ok (.getfield 35, 3) := by decide +kernel
theorem dX7_many_96 : decode cX7_many 96 = .ok (.iconst 0, 1) := by decide +kernel
theorem dX7_many_97 : decode cX7_many 97 = .ok (.invokevirtual 201, 3) := by decide +kernel
theorem dX7_many_100 : decode cX7_many 100 = .ok (.ireturn, 1) := by decide +kernel
theorem dX7_many_101 : decode cX7_many 101 = .ok (.aload_n 0, 1) := by decide +kernel
theorem dX7_many_102 : decode cX7_many 102 = .ok (.getfield 35, 3) := by decide +kernel
theorem dX7_many_105 : decode cX7_many 105 = .ok (.iconst 1, 1) := by decide +kernel
theorem dX7_many_106 : decode cX7_many 106 = .ok (.invokevirtual 201, 3) := by decide +kernel
theorem dX7_many_109 : decode cX7_many 109 = .ok (.ireturn, 1) := by decide +kernel
theorem dX7_many_110 : decode cX7_many 110 = .ok (.aload_n 0, 1) := by decide +kernel
theorem dX7_many_111 : decode cX7_many 111 = .ok (.getfield 35, 3) := by decide +kernel
theorem dX7_many_114 : decode cX7_many 114 = .ok (.iconst 2, 1) := by decide +kernel
theorem dX7_many_115 : decode cX7_many 115 = .ok (.invokevirtual 201, 3) := by decide +kernel
theorem dX7_many_118 : decode cX7_many 118 = .ok (.ireturn, 1) := by decide +kernel
theorem dX7_many_119 : decode cX7_many 119 = .ok (.aload_n 0, 1) := by decide +kernel
theorem dX7_many_120 : decode cX7_many 120 = .ok (.getfield 35, 3) := by decide +kernel
theorem dX7_many_123 : decode cX7_many 123 = .ok (.invokevirtual 204, 3) := by decide +kernel
theorem dX7_many_126 : decode cX7_many 126 = .ok (.ireturn, 1) := by decide +kernel
theorem dX7_many_127 : decode cX7_many 127 = .ok (.aload_n 0, 1) := by decide +kernel
theorem dX7_many_128 : decode cX7_many 128 = .ok (.getfield 25, 3) := by decide +kernel
theorem dX7_many_131 : decode cX7_many 131 = .ok (.invokevirtual 207, 3) := by decide +kernel
theorem dX7_many_134 : decode cX7_many 134 = .ok (.ireturn, 1) := by decide +kernel
theorem dX7_many_135 : decode cX7_many 135 = .ok (.aload_n 0, 1) := by decide +kernel
theorem dX7_many_136 : decode cX7_many 136 = .ok (.getfield 35, 3) := by decide +kernel
theorem dX7_many_139 : decode cX7_many 139 = .ok (.getfield 210, 3) := by decide +kernel
theorem dX7_many_142 : decode cX7_many 142 = .ok (.ireturn, 1) := by decide +kernel
theorem dX7_hitShare_0 : decode cX7_hitShare 0 = .ok (.aload_n 0, 1) := by decide +kernel
theorem dX7_hitShare_1 : decode cX7_hitShare 1 = .ok (.getfield 35, 3) := by decide +kernel
theorem dX7_hitShare_4 : decode cX7_hitShare 4 = .ok (.invokevirtual 204, 3) := by decide +kernel
theorem dX7_hitShare_7 : decode cX7_hitShare 7 = .ok (.istore_n 1, 1) := by decide +kernel
theorem dX7_hitShare_8 : decode cX7_hitShare 8 = .ok (.iload_n 1, 1) := by decide +kernel
theorem dX7_hitShare_9 : decode cX7_hitShare 9 = .ok (.aload_n 0, 1) := by decide +kernel
theorem dX7_hitShare_10 : decode cX7_hitShare 10 = .ok (.getfield 35, 3) := by decide +kernel
theorem dX7_hitShare_13 : decode cX7_hitShare 13 = .ok (.getfield 157, 3) := by decide +kernel
theorem dX7_hitShare_16 : decode cX7_hitShare 16 = .ok (.iadd, 1) := by decide +kernel
theorem dX7_hitShare_17 : decode cX7_hitShare 17 = .ok (.istore_n 2, 1) := by decide +kernel
theorem dX7_hitShare_18 : decode cX7_hitShare 18 = .ok (.iload_n 2, 1) := by decide +kernel
theorem dX7_hitShare_19 : decode cX7_hitShare 19 = .ok (.iconst 1, 1) := by decide +kernel
theorem dX7_hitShare_20 : decode cX7_hitShare 20 = .ok (.if_icmp .ge 7, 3) := by decide +kernel
theorem dX7_hitShare_23 : decode cX7_hitShare 23 = .ok (.dconst 0, 1) := by decide +kernel
theorem dX7_hitShare_24 : decode cX7_hitShare 24 = .ok (.goto 8, 3) := by decide +kernel
theorem dX7_hitShare_27 : decode cX7_hitShare 27 = .ok (.iload_n 1, 1) := by decide +kernel
theorem dX7_hitShare_28 : decode cX7_hitShare 28 = .ok (.i2d, 1) := by decide +kernel
theorem dX7_hitShare_29 : decode cX7_hitShare 29 = .ok (.iload_n 2, 1) := by decide +kernel
theorem dX7_hitShare_30 : decode cX7_hitShare 30 = .ok (.i2d, 1) := by decide +kernel
theorem dX7_hitShare_31 : decode cX7_hitShare 31 = .ok (.ddiv, 1) := by decide +kernel
theorem dX7_hitShare_32 : decode cX7_hitShare 32 = .ok (.dreturn, 1) := by decide +kernel
theorem dX7_wouldRun_0 : decode cX7_wouldRun 0 = .ok (.iload_n 1, 1) := by decide +kernel
theorem dX7_wouldRun_1 : decode cX7_wouldRun 1 = .ok (.aload_n 0, 1) := by decide +kernel
theorem dX7_wouldRun_2 : decode cX7_wouldRun 2 = .ok (.getfield 30, 3) := by decide +kernel
theorem dX7_wouldRun_5 : decode cX7_wouldRun 5 = .ok (.getfield 120, 3) := by decide +kernel
theorem dX7_wouldRun_8 : decode cX7_wouldRun 8 = .ok (.invokestatic 80, 3) := by decide +kernel
theorem dX7_wouldRun_11 : decode cX7_wouldRun 11 = .ok (.iload_n 2, 1) := by decide +kernel
theorem dX7_wouldRun_12 : decode cX7_wouldRun 12 = .ok (.aload_n 0, 1) := by decide +kernel
theorem dX7_wouldRun_13 : decode cX7_wouldRun 13 = .ok (.getfield 20, 3) := by decide +kernel
theorem dX7_wouldRun_16 : decode cX7_wouldRun 16 = .ok (.getfield 54, 3) := by decide +kernel
theorem dX7_wouldRun_19 : decode cX7_wouldRun 19 = .ok (.invokestatic 80, 3) := by decide +kernel
theorem dX7_wouldRun_22 : decode cX7_wouldRun 22 = .ok (.aload_n 0, 1) := by decide +kernel
theorem dX7_wouldRun_23 : decode cX7_wouldRun 23 = .ok (.getfield 10, 3) := by decide +kernel
theorem dX7_wouldRun_26 : decode cX7_wouldRun 26 = .ok (.iload_n 1, 1) := by decide +kernel
theorem dX7_wouldRun_27 : decode cX7_wouldRun 27 = .ok (.iload_n 2, 1) := by decide +kernel
theorem dX7_wouldRun_28 : decode cX7_wouldRun 28 = .ok (.invokevirtual 213, 3) := by decide +kernel
theorem dX7_wouldRun_31 : decode cX7_wouldRun 31 = .ok (.ireturn, 1) := by decide +kernel
theorem dX7_wouldBeWrong_0 : decode cX7_wouldBeWrong 0 = .ok (.iload_n 1, 1) := by decide +kernel
theorem dX7_wouldBeWrong_1 : decode cX7_wouldBeWrong 1 = .ok (.aload_n 0, 1) := by decide +kernel
theorem dX7_wouldBeWrong_2 : decode cX7_wouldBeWrong 2 = .ok (.getfield 30, 3) := by decide +kernel
theorem dX7_wouldBeWrong_5 : decode cX7_wouldBeWrong 5 = .ok (.getfield 120, 3) := by decide +kernel
theorem dX7_wouldBeWrong_8 : decode cX7_wouldBeWrong 8 = .ok (.invokestatic 80, 3) := by decide +kernel
theorem dX7_wouldBeWrong_11 : decode cX7_wouldBeWrong 11 = .ok (.iload_n 2, 1) := by decide +kernel
theorem dX7_wouldBeWrong_12 : decode cX7_wouldBeWrong 12 = .ok (.aload_n 0, 1) := by decide +kernel
theorem dX7_wouldBeWrong_13 : decode cX7_wouldBeWrong 13 = .ok (.getfield 20, 3) := by decide +kernel
theorem dX7_wouldBeWrong_16 : decode cX7_wouldBeWrong 16 = .ok (.getfield 54, 3) := by decide +kernel
theorem dX7_wouldBeWrong_19 : decode cX7_wouldBeWrong 19 = .ok (.invokestatic 80, 3) := by decide +kernel
theorem dX7_wouldBeWrong_22 : decode cX7_wouldBeWrong 22 = .ok (.aload_n 0, 1) := by decide +kernel
theorem dX7_wouldBeWrong_23 : decode cX7_wouldBeWrong 23 = .ok (.getfield 10, 3) := by decide +kernel
theorem dX7_wouldBeWrong_26 : decode cX7_wouldBeWrong 26 = .ok (.iload_n 1, 1) := by decide +kernel
theorem dX7_wouldBeWrong_27 : decode cX7_wouldBeWrong 27 = .ok (.iload_n 2, 1) := by decide +kernel
theorem dX7_wouldBeWrong_28 : decode cX7_wouldBeWrong 28 = .ok (.invokevirtual 216, 3) := by decide +kernel
theorem dX7_wouldBeWrong_31 : decode cX7_wouldBeWrong 31 = .ok (.ireturn, 1) := by decide +kernel
theorem dX7_touched_0 : decode cX7_touched 0 = .ok (.iload_n 1, 1) := by decide +kernel
theorem dX7_touched_1 : decode cX7_touched 1 = .ok (.bipush 8, 2) := by decide +kernel
theorem dX7_touched_3 : decode cX7_touched 3 = .ok (.invokestatic 80, 3) := by decide +kernel
theorem dX7_touched_6 : decode cX7_touched 6 = .ok (.aload_n 0, 1) := by decide +kernel
theorem dX7_touched_7 : decode cX7_touched 7 = .ok (.getfield 35, 3) := by decide +kernel
theorem dX7_touched_10 : decode cX7_touched 10 = .ok (.aload_n 0, 1) := by decide +kernel
theorem dX7_touched_11 : decode cX7_touched 11 = .ok (.getfield 20, 3) := by decide +kernel
theorem dX7_touched_14 : decode cX7_touched 14 = .ok (.iload_n 1, 1) := by decide +kernel
theorem dX7_touched_15 : decode cX7_touched 15 = .ok (.invokevirtual 219, 3) := by decide +kernel
theorem dX7_touched_18 : decode cX7_touched 18 = .ok (.invokevirtual 94, 3) := by decide +kernel
theorem dX7_touched_21 : decode cX7_touched 21 = .ok (.ireturn, 1) := by decide +kernel
theorem dX7_wouldGo_0 : decode cX7_wouldGo 0 = .ok (.iload_n 1, 1) := by decide +kernel
theorem dX7_wouldGo_1 : decode cX7_wouldGo 1 = .ok (.aload_n 0, 1) := by decide +kernel
theorem dX7_wouldGo_2 : decode cX7_wouldGo 2 = .ok (.getfield 30, 3) := by decide +kernel
theorem dX7_wouldGo_5 : decode cX7_wouldGo 5 = .ok (.getfield 120, 3) := by decide +kernel
theorem dX7_wouldGo_8 : decode cX7_wouldGo 8 = .ok (.invokestatic 80, 3) := by decide +kernel
theorem dX7_wouldGo_11 : decode cX7_wouldGo 11 = .ok (.iload_n 2, 1) := by decide +kernel
theorem dX7_wouldGo_12 : decode cX7_wouldGo 12 = .ok (.iconst 1, 1) := by decide +kernel
theorem dX7_wouldGo_13 : decode cX7_wouldGo 13 = .ok (.bipush 20, 2) := by decide +kernel
theorem dX7_wouldGo_15 : decode cX7_wouldGo 15 = .ok (.invokestatic 36, 3) := by decide +kernel
theorem dX7_wouldGo_18 : decode cX7_wouldGo 18 = .ok (.invokestatic 40, 3) := by decide +kernel
theorem dX7_wouldGo_21 : decode cX7_wouldGo 21 = .ok (.aload_n 0, 1) := by decide +kernel
theorem dX7_wouldGo_22 : decode cX7_wouldGo 22 = .ok (.getfield 10, 3) := by decide +kernel
theorem dX7_wouldGo_25 : decode cX7_wouldGo 25 = .ok (.iload_n 1, 1) := by decide +kernel
theorem dX7_wouldGo_26 : decode cX7_wouldGo 26 = .ok (.iload_n 2, 1) := by decide +kernel
theorem dX7_wouldGo_27 : decode cX7_wouldGo 27 = .ok (.invokevirtual 222, 3) := by decide +kernel
theorem dX7_wouldGo_30 : decode cX7_wouldGo 30 = .ok (.ireturn, 1) := by decide +kernel
theorem dX7_digest_0 : decode cX7_digest 0 = .ok (.ldc2_w 225, 3) := by decide +kernel
theorem dX7_digest_3 : decode cX7_digest 3 = .ok (.lstore_n 1, 1) := by decide +kernel
theorem dX7_digest_4 : decode cX7_digest 4 = .ok (.iconst 0, 1) := by decide +kernel
theorem dX7_digest_5 : decode cX7_digest 5 = .ok (.istore_n 3, 1) := by decide +kernel
theorem dX7_digest_6 : decode cX7_digest 6 = .ok (.iload_n 3, 1) := by decide +kernel
theorem dX7_digest_7 : decode cX7_digest 7 = .ok (.bipush 9, 2) := by decide +kernel
theorem dX7_digest_9 : decode cX7_digest 9 = .ok (.if_icmp .gt 22, 3) := by decide +kernel
theorem dX7_digest_12 : decode cX7_digest 12 = .ok (.lload_n 1, 1) := by decide +kernel
theorem dX7_digest_13 : decode cX7_digest 13 = .ok (.ldc2_w 227, 3) := by decide +kernel
theorem dX7_digest_16 : decode cX7_digest 16 = .ok (.lmul, 1) := by decide +kernel
theorem dX7_digest_17 : decode cX7_digest 17 = .ok (.aload_n 0, 1) := by decide +kernel
theorem dX7_digest_18 : decode cX7_digest 18 = .ok (.iload_n 3, 1) := by decide +kernel
theorem dX7_digest_19 : decode cX7_digest 19 = .ok (.invokevirtual 229, 3) := by decide +kernel
theorem dX7_digest_22 : decode cX7_digest 22 = .ok (.i2l, 1) := by decide +kernel
theorem dX7_digest_23 : decode cX7_digest 23 = .ok (.ladd, 1) := by decide +kernel
theorem dX7_digest_24 : decode cX7_digest 24 = .ok (.lstore_n 1, 1) := by decide +kernel
theorem dX7_digest_25 : decode cX7_digest 25 = .ok (.iinc 3 1, 3) := by decide +kernel
theorem dX7_digest_28 : decode cX7_digest 28 = .ok (.goto (-22), 3) := by decide +kernel
theorem dX7_digest_31 : decode cX7_digest 31 = .ok (.iconst 0, 1) := by decide +kernel
theorem dX7_digest_32 : decode cX7_digest 32 = .ok (.istore_n 3, 1) := by decide +kernel
theorem dX7_digest_33 : decode cX7_digest 33 = .ok (.iload_n 3, 1) := by decide +kernel
theorem dX7_digest_34 : decode cX7_digest 34 = .ok (.aload_n 0, 1) := by decide +kernel
theorem dX7_digest_35 : decode cX7_digest 35 = .ok (.getfield 20, 3) := by decide +kernel
theorem dX7_digest_38 : decode cX7_digest 38 = .ok (.getfield 54, 3) := by decide +kernel
theorem dX7_digest_41 : decode cX7_digest 41 = .ok (.if_icmp .ge 40, 3) := by decide +kernel
theorem dX7_digest_44 : decode cX7_digest 44 = .ok (.iconst 0, 1) := by decide +kernel
theorem dX7_digest_45 : decode cX7_digest 45 = .ok (.istore 4, 2) := by decide +kernel
theorem dX7_digest_47 : decode cX7_digest 47 = .ok (.iload 4, 2) := by decide +kernel
theorem dX7_digest_49 : decode cX7_digest 49 = .ok (.bipush 7, 2) := by decide +kernel
theorem dX7_digest_51 : decode cX7_digest 51 = .ok (.if_icmp .gt 24, 3) := by decide +kernel
theorem dX7_digest_54 : decode cX7_digest 54 = .ok (.lload_n 1, 1) := by decide +kernel
theorem dX7_digest_55 : decode cX7_digest 55 = .ok (.ldc2_w 227, 3) := by decide +kernel
theorem dX7_digest_58 : decode cX7_digest 58 = .ok (.lmul, 1) := by decide +kernel
theorem dX7_digest_59 : decode cX7_digest 59 = .ok (.aload_n 0, 1) := by decide +kernel
theorem dX7_digest_60 : decode cX7_digest 60 = .ok (.iload_n 3, 1) := by decide +kernel
theorem dX7_digest_61 : decode cX7_digest 61 = .ok (.iload 4, 2) := by decide +kernel
theorem dX7_digest_63 : decode cX7_digest 63 = .ok (.invokevirtual 232, 3) := by decide +kernel
theorem dX7_digest_66 : decode cX7_digest 66 = .ok (.i2l, 1) := by decide +kernel
theorem dX7_digest_67 : decode cX7_digest 67 = .ok (.ladd, 1) := by decide +kernel
theorem dX7_digest_68 : decode cX7_digest 68 = .ok (.lstore_n 1, 1) := by decide +kernel
theorem dX7_digest_69 : decode cX7_digest 69 = .ok (.iinc 4 1, 3) := by decide +kernel
theorem dX7_digest_72 : decode cX7_digest 72 = .ok (.goto (-25), 3) := by decide +kernel
theorem dX7_digest_75 : decode cX7_digest 75 = .ok (.iinc 3 1, 3) := by decide +kernel
theorem dX7_digest_78 : decode cX7_digest 78 = .ok (.goto (-45), 3) := by decide +kernel
theorem dX7_digest_81 : decode cX7_digest 81 = .ok (.iconst 0, 1) := by decide +kernel
theorem dX7_digest_82 : decode cX7_digest 82 = .ok (.istore_n 3, 1) := by decide +kernel
theorem dX7_digest_83 : decode cX7_digest 83 = .ok (.iload_n 3, 1) := by decide +kernel
theorem dX7_digest_84 : decode cX7_digest 84 = .ok (.aload_n 0, 1) := by decide +kernel
theorem dX7_digest_85 : decode cX7_digest 85 = .ok (.getfield 25, 3) := by decide +kernel
theorem dX7_digest_88 : decode cX7_digest 88 = .ok (.getfield 99, 3) := by decide +kernel
theorem dX7_digest_91 : decode cX7_digest 91 = .ok (.if_icmp .ge 39, 3) := by decide +kernel
theorem dX7_digest_94 : decode cX7_digest 94 = .ok (.iconst 0, 1) := by decide +kernel
theorem dX7_digest_95 : decode cX7_digest 95 = .ok (.istore 4, 2) := by decide +kernel
theorem dX7_digest_97 : decode cX7_digest 97 = .ok (.iload 4, 2) := by decide +kernel
theorem dX7_digest_99 : decode cX7_digest 99 = .ok (.iconst 4, 1) := by decide +kernel
theorem dX7_digest_100 : decode cX7_digest 100 = .ok (.if_icmp .gt 24, 3) := by decide +kernel
theorem dX7_digest_103 : decode cX7_digest 103 = .ok (.lload_n 1, 1) := by decide +kernel
theorem dX7_digest_104 : decode cX7_digest 104 = .ok (.ldc2_w 227, 3) := by decide +kernel
theorem dX7_digest_107 : decode cX7_digest 107 = .ok (.lmul, 1) := by decide +kernel
theorem dX7_digest_108 : decode cX7_digest 108 = .ok (.aload_n 0, 1) := by decide +kernel
theorem dX7_digest_109 : decode cX7_digest 109 = .ok (.iload_n 3, 1) := by decide +kernel
theorem dX7_digest_110 : decode cX7_digest 110 = .ok (.iload 4, 2) := by decide +kernel
theorem dX7_digest_112 : decode cX7_digest 112 = .ok (.invokevirtual 235, 3) := by decide +kernel
theorem dX7_digest_115 : decode cX7_digest 115 = .ok (.i2l, 1) := by decide +kernel
theorem dX7_digest_116 : decode cX7_digest 116 = .ok (.ladd, 1) := by decide +kernel
theorem dX7_digest_117 : decode cX7_digest 117 = .ok (.lstore_n 1, 1) := by decide +kernel
theorem dX7_digest_118 : decode cX7_digest 118 = .ok (.iinc 4 1, 3) := by decide +kernel
theorem dX7_digest_121 : decode cX7_digest 121 = .ok (.goto (-24), 3) := by decide +kernel
theorem dX7_digest_124 : decode cX7_digest 124 = .ok (.iinc 3 1, 3) := by decide +kernel
theorem dX7_digest_127 : decode cX7_digest 127 = .ok (.goto (-44), 3) := by decide +kernel
theorem dX7_digest_130 : decode cX7_digest 130 = .ok (.iconst 0, 1) := by decide +kernel
theorem dX7_digest_131 : decode cX7_digest 131 = .ok (.istore_n 3, 1) := by decide +kernel
theorem dX7_digest_132 : decode cX7_digest 132 = .ok (.iload_n 3, 1) := by decide +kernel
theorem dX7_digest_133 : decode cX7_digest 133 = .ok (.aload_n 0, 1) := by decide +kernel
theorem dX7_digest_134 : decode cX7_digest 134 = .ok (.getfield 30, 3) := by decide +kernel
theorem dX7_digest_137 : decode cX7_digest 137 = .ok (.getfield 120, 3) := by decide +kernel
theorem dX7_digest_140 : decode cX7_digest 140 = .ok (.if_icmp .ge 78, 3) := by decide +kernel
theorem dX7_digest_143 : decode cX7_digest 143 = .ok (.iconst 0, 1) := by decide +kernel
theorem dX7_digest_144 : decode cX7_digest 144 = .ok (.istore 4, 2) := by decide +kernel
theorem dX7_digest_146 : decode cX7_digest 146 = .ok (.iload 4, 2) := by decide +kernel
theorem dX7_digest_148 : decode cX7_digest 148 = .ok (.iconst 4, 1) := by decide +kernel
theorem dX7_digest_149 : decode cX7_digest 149 = .ok (.if_icmp .gt 24, 3) := by decide +kernel
theorem dX7_digest_152 : decode cX7_digest 152 = .ok (.lload_n 1, 1) := by decide +kernel
theorem dX7_digest_153 : decode cX7_digest 153 = .ok (.ldc2_w 227, 3) := by decide +kernel
theorem dX7_digest_156 : decode cX7_digest 156 = .ok (.lmul, 1) := by decide +kernel
theorem dX7_digest_157 : decode cX7_digest 157 = .ok (.aload_n 0, 1) := by decide +kernel
theorem dX7_digest_158 : decode cX7_digest 158 = .ok (.iload_n 3, 1) := by decide +kernel
theorem dX7_digest_159 : decode cX7_digest 159 = .ok (.iload 4, 2) := by decide +kernel
theorem dX7_digest_161 : decode cX7_digest 161 = .ok (.invokevirtual 238, 3) := by decide +kernel
theorem dX7_digest_164 : decode cX7_digest 164 = .ok (.i2l, 1) := by decide +kernel
theorem dX7_digest_165 : decode cX7_digest 165 = .ok (.ladd, 1) := by decide +kernel
theorem dX7_digest_166 : decode cX7_digest 166 = .ok (.lstore_n 1, 1) := by decide +kernel
theorem dX7_digest_167 : decode cX7_digest 167 = .ok (.iinc 4 1, 3) := by decide +kernel
theorem dX7_digest_170 : decode cX7_digest 170 = .ok (.goto (-24), 3) := by decide +kernel
theorem dX7_digest_173 : decode cX7_digest 173 = .ok (.iconst 0, 1) := by decide +kernel
theorem dX7_digest_174 : decode cX7_digest 174 = .ok (.istore 4, 2) := by decide +kernel
theorem dX7_digest_176 : decode cX7_digest 176 = .ok (.iload 4, 2) := by decide +kernel
theorem dX7_digest_178 : decode cX7_digest 178 = .ok (.aload_n 0, 1) := by decide +kernel
theorem dX7_digest_179 : decode cX7_digest 179 = .ok (.getfield 20, 3) := by decide +kernel
theorem dX7_digest_182 : decode cX7_digest 182 = .ok (.getfield 54, 3) := by decide +kernel
theorem dX7_digest_185 : decode cX7_digest 185 = .ok (.if_icmp .ge 27, 3) := by decide +kernel
theorem dX7_digest_188 : decode cX7_digest 188 = .ok (.lload_n 1, 1) := by decide +kernel
theorem dX7_digest_189 : decode cX7_digest 189 = .ok (.ldc2_w 227, 3) := by decide +kernel
theorem dX7_digest_192 : decode cX7_digest 192 = .ok (.lmul, 1) := by decide +kernel
theorem dX7_digest_193 : decode cX7_digest 193 = .ok (.aload_n 0, 1) := by decide +kernel
theorem dX7_digest_194 : decode cX7_digest 194 = .ok (.getfield 10, 3) := by decide +kernel
theorem dX7_digest_197 : decode cX7_digest 197 = .ok (.iload_n 3, 1) := by decide +kernel
theorem dX7_digest_198 : decode cX7_digest 198 = .ok (.iload 4, 2) := by decide +kernel
theorem dX7_digest_200 : decode cX7_digest 200 = .ok (.invokevirtual 213, 3) := by decide +kernel
theorem dX7_digest_203 : decode cX7_digest 203 = .ok (.i2l, 1) := by decide +kernel
theorem dX7_digest_204 : decode cX7_digest 204 = .ok (.ladd, 1) := by decide +kernel
theorem dX7_digest_205 : decode cX7_digest 205 = .ok (.lstore_n 1, 1) := by decide +kernel
theorem dX7_digest_206 : decode cX7_digest 206 = .ok (.iinc 4 1, 3) := by decide +kernel
theorem dX7_digest_209 : decode cX7_digest 209 = .ok (.goto (-33), 3) := by decide +kernel
theorem dX7_digest_212 : decode cX7_digest 212 = .ok (.iinc 3 1, 3) := by decide +kernel
theorem dX7_digest_215 : decode cX7_digest 215 = .ok (.goto (-83), 3) := by decide +kernel
theorem dX7_digest_218 : decode cX7_digest 218 = .ok (.iconst 0, 1) := by decide +kernel
theorem dX7_digest_219 : decode cX7_digest 219 = .ok (.istore_n 3, 1) := by decide +kernel
theorem dX7_digest_220 : decode cX7_digest 220 = .ok (.iload_n 3, 1) := by decide +kernel
theorem dX7_digest_221 : decode cX7_digest 221 = .ok (.aload_n 0, 1) := by decide +kernel
theorem dX7_digest_222 : decode cX7_digest 222 = .ok (.getfield 35, 3) := by decide +kernel
theorem dX7_digest_225 : decode cX7_digest 225 = .ok (.getfield 157, 3) := by decide +kernel
theorem dX7_digest_228 : decode cX7_digest 228 = .ok (.if_icmp .ge 40, 3) := by decide +kernel
theorem dX7_digest_231 : decode cX7_digest 231 = .ok (.iconst 0, 1) := by decide +kernel
theorem dX7_digest_232 : decode cX7_digest 232 = .ok (.istore 4, 2) := by decide +kernel
theorem dX7_digest_234 : decode cX7_digest 234 = .ok (.iload 4, 2) := by decide +kernel
theorem dX7_digest_236 : decode cX7_digest 236 = .ok (.bipush 7, 2) := by decide +kernel
theorem dX7_digest_238 : decode cX7_digest 238 = .ok (.if_icmp .gt 24, 3) := by decide +kernel
theorem dX7_digest_241 : decode cX7_digest 241 = .ok (.lload_n 1, 1) := by decide +kernel
theorem dX7_digest_242 : decode cX7_digest 242 = .ok (.ldc2_w 227, 3) := by decide +kernel
theorem dX7_digest_245 : decode cX7_digest 245 = .ok (.lmul, 1) := by decide +kernel
theorem dX7_digest_246 : decode cX7_digest 246 = .ok (.aload_n 0, 1) := by decide +kernel
theorem dX7_digest_247 : decode cX7_digest 247 = .ok (.iload_n 3, 1) := by decide +kernel
theorem dX7_digest_248 : decode cX7_digest 248 = .ok (.iload 4, 2) := by decide +kernel
theorem dX7_digest_250 : decode cX7_digest 250 = .ok (.invokevirtual 241, 3) := by decide +kernel
theorem dX7_digest_253 : decode cX7_digest 253 = .ok (.i2l, 1) := by decide +kernel
theorem dX7_digest_254 : decode cX7_digest 254 = .ok (.ladd, 1) := by decide +kernel
theorem dX7_digest_255 : decode cX7_digest 255 = .ok (.lstore_n 1, 1) := by decide +kernel
theorem dX7_digest_256 : decode cX7_digest 256 = .ok (.iinc 4 1, 3) := by decide +kernel
theorem dX7_digest_259 : decode cX7_digest 259 = .ok (.goto (-25), 3) := by decide +kernel
theorem dX7_digest_262 : decode cX7_digest 262 = .ok (.iinc 3 1, 3) := by decide +kernel
theorem dX7_digest_265 : decode cX7_digest 265 = .ok (.goto (-45), 3) := by decide +kernel
theorem dX7_digest_268 : decode cX7_digest 268 = .ok (.iconst 0, 1) := by decide +kernel
theorem dX7_digest_269 : decode cX7_digest 269 = .ok (.istore_n 3, 1) := by decide +kernel
theorem dX7_digest_270 : decode cX7_digest 270 = .ok (.iload_n 3, 1) := by decide +kernel
theorem dX7_digest_271 : decode cX7_digest 271 = .ok (.bipush 8, 2) := by decide +kernel
theorem dX7_digest_273 : decode cX7_digest 273 = .ok (.if_icmp .ge 22, 3) := by decide +kernel
theorem dX7_digest_276 : decode cX7_digest 276 = .ok (.lload_n 1, 1) := by decide +kernel
theorem dX7_digest_277 : decode cX7_digest 277 = .ok (.ldc2_w 227, 3) := by decide +kernel
theorem dX7_digest_280 : decode cX7_digest 280 = .ok (.lmul, 1) := by decide +kernel
theorem dX7_digest_281 : decode cX7_digest 281 = .ok (.aload_n 0, 1) := by decide +kernel
theorem dX7_digest_282 : decode cX7_digest 282 = .ok (.iload_n 3, 1) := by decide +kernel
theorem dX7_digest_283 : decode cX7_digest 283 = .ok (.invokevirtual 244, 3) := by decide +kernel
theorem dX7_digest_286 : decode cX7_digest 286 = .ok (.i2l, 1) := by decide +kernel
theorem dX7_digest_287 : decode cX7_digest 287 = .ok (.ladd, 1) := by decide +kernel
theorem dX7_digest_288 : decode cX7_digest 288 = .ok (.lstore_n 1, 1) := by decide +kernel
theorem dX7_digest_289 : decode cX7_digest 289 = .ok (.iinc 3 1, 3) := by decide +kernel
theorem dX7_digest_292 : decode cX7_digest 292 = .ok (.goto (-22), 3) := by decide +kernel
theorem dX7_digest_295 : decode cX7_digest 295 = .ok (.lload_n 1, 1) := by decide +kernel
theorem dX7_digest_296 : decode cX7_digest 296 = .ok (.lreturn, 1) := by decide +kernel
theorem dX7_needIndex_0 : decode cX7_needIndex 0 = .ok (.iload_n 0, 1) := by decide +kernel
theorem dX7_needIndex_1 : decode cX7_needIndex 1 = .ok (.iload_n 1, 1) := by decide +kernel
theorem dX7_needIndex_2 : decode cX7_needIndex 2 = .ok (.invokestatic 247, 3) := by decide +kernel
theorem dX7_needIndex_5 : decode cX7_needIndex 5 = .ok (.ifCond .ne 13, 3) := by decide +kernel
theorem dX7_needIndex_8 : decode cX7_needIndex 8 = .ok (.new 250, 3) := by decide +kernel
theorem dX7_needIndex_11 : decode cX7_needIndex 11 = .ok (.dup, 1) := by decide +kernel
theorem dX7_needIndex_12 : decode cX7_needIndex 12 = .ok (.ldc 252, 2) := by decide +kernel
theorem dX7_needIndex_14 : decode cX7_needIndex 14 = .ok (.invokespecial 254, 3) := by decide +kernel
theorem dX7_needIndex_17 : decode cX7_needIndex 17 = .ok (.athrow, 1) := by decide +kernel
theorem dX7_needIndex_18 : decode cX7_needIndex 18 = .ok (.return_, 1) := by decide +kernel
theorem dX7_needArgument_0 : decode cX7_needArgument 0 = .ok (.iload_n 0, 1) := by decide +kernel
theorem dX7_needArgument_1 : decode cX7_needArgument 1 = .ok (.ifCond .ne 14, 3) := by decide +kernel
theorem dX7_needArgument_4 : decode cX7_needArgument 4 = .ok (.new 257, 3) := by decide +kernel
theorem dX7_needArgument_7 : decode cX7_needArgument 7 = .ok (.dup, 1) := by decide +kernel
theorem dX7_needArgument_8 : decode cX7_needArgument 8 = .ok (.ldc_w 259, 3) := by decide +kernel
theorem dX7_needArgument_11 : decode cX7_needArgument 11 = .ok (.invokespecial 261, 3) := by decide +kernel
theorem dX7_needArgument_14 : decode cX7_needArgument 14 = .ok (.athrow, 1) := by decide +kernel
theorem dX7_needArgument_15 : decode cX7_needArgument 15 = .ok (.return_, 1) := by decide +kernel
theorem dX7_needState_0 : decode cX7_needState 0 = .ok (.iload_n 0, 1) := by decide +kernel
theorem dX7_needState_1 : decode cX7_needState 1 = .ok (.ifCond .ne 14, 3) := by decide +kernel
theorem dX7_needState_4 : decode cX7_needState 4 = .ok (.new 262, 3) := by decide +kernel
theorem dX7_needState_7 : decode cX7_needState 7 = .ok (.dup, 1) := by decide +kernel
theorem dX7_needState_8 : decode cX7_needState 8 = .ok (.ldc_w 264, 3) := by decide +kernel
theorem dX7_needState_11 : decode cX7_needState 11 = .ok (.invokespecial 266, 3) := by decide +kernel
theorem dX7_needState_14 : decode cX7_needState 14 = .ok (.athrow, 1) := by decide +kernel
theorem dX7_needState_15 : decode cX7_needState 15 = .ok (.return_, 1) := by decide +kernel
theorem dX7_isWithin_0 : decode cX7_isWithin 0 = .ok (.iload_n 0, 1) := by decide +kernel
theorem dX7_isWithin_1 : decode cX7_isWithin 1 = .ok (.iload_n 1, 1) := by decide +kernel
theorem dX7_isWithin_2 : decode cX7_isWithin 2 = .ok (.if_icmp .lt 12, 3) := by decide +kernel
theorem dX7_isWithin_5 : decode cX7_isWithin 5 = .ok (.iload_n 0, 1) := by decide +kernel
theorem dX7_isWithin_6 : decode cX7_isWithin 6 = .ok (.iload_n 2, 1) := by decide +kernel
theorem dX7_isWithin_7 : decode cX7_isWithin 7 = .ok (.if_icmp .gt 7, 3) := by decide +kernel
theorem dX7_isWithin_10 : decode cX7_isWithin 10 = .ok (.iconst 1, 1) := by decide +kernel
theorem dX7_isWithin_11 : decode cX7_isWithin 11 = .ok (.goto 4, 3) := by decide +kernel
theorem dX7_isWithin_14 : decode cX7_isWithin 14 = .ok (.iconst 0, 1) := by decide +kernel
theorem dX7_isWithin_15 : decode cX7_isWithin 15 = .ok (.ireturn, 1) := by decide +kernel
theorem dX7_isIndex_0 : decode cX7_isIndex 0 = .ok (.iload_n 0, 1) := by decide +kernel
theorem dX7_isIndex_1 : decode cX7_isIndex 1 = .ok (.iconst 0, 1) := by decide +kernel
theorem dX7_isIndex_2 : decode cX7_isIndex 2 = .ok (.iload_n 1, 1) := by decide +kernel
theorem dX7_isIndex_3 : decode cX7_isIndex 3 = .ok (.iconst 1, 1) := by decide +kernel
theorem dX7_isIndex_4 : decode cX7_isIndex 4 = .ok (.isub, 1) := by decide +kernel
theorem dX7_isIndex_5 : decode cX7_isIndex 5 = .ok (.invokestatic 36, 3) := by decide +kernel
theorem dX7_isIndex_8 : decode cX7_isIndex 8 = .ok (.ireturn, 1) := by decide +kernel
theorem dX7_isPartOf_0 : decode cX7_isPartOf 0 = .ok (.iload_n 0, 1) := by decide +kernel
theorem dX7_isPartOf_1 : decode cX7_isPartOf 1 = .ok (.iload_n 1, 1) := by decide +kernel
theorem dX7_isPartOf_2 : decode cX7_isPartOf 2 = .ok (.iconst (-1), 1) := by decide +kernel
theorem dX7_isPartOf_3 : decode cX7_isPartOf 3 = .ok (.ixor, 1) := by decide +kernel
theorem dX7_isPartOf_4 : decode cX7_isPartOf 4 = .ok (.iand, 1) := by decide +kernel
theorem dX7_isPartOf_5 : decode cX7_isPartOf 5 = .ok (.ifCond .ne 7, 3) := by decide +kernel
theorem dX7_isPartOf_8 : decode cX7_isPartOf 8 = .ok (.iconst 1, 1) := by decide +kernel
theorem dX7_isPartOf_9 : decode cX7_isPartOf 9 = .ok (.goto 4, 3) := by decide +kernel
theorem dX7_isPartOf_12 : decode cX7_isPartOf 12 = .ok (.iconst 0, 1) := by decide +kernel
theorem dX7_isPartOf_13 : decode cX7_isPartOf 13 = .ok (.ireturn, 1) := by decide +kernel
theorem dX7_has_0 : decode cX7_has 0 = .ok (.lload_n 0, 1) := by decide +kernel
theorem dX7_has_1 : decode cX7_has 1 = .ok (.iload_n 2, 1) := by decide +kernel
theorem dX7_has_2 : decode cX7_has 2 = .ok (.lshr, 1) := by decide +kernel
theorem dX7_has_3 : decode cX7_has 3 = .ok (.lconst 1, 1) := by decide +kernel
theorem dX7_has_4 : decode cX7_has 4 = .ok (.land, 1) := by decide +kernel
theorem dX7_has_5 : decode cX7_has 5 = .ok (.lconst 0, 1) := by decide +kernel
theorem dX7_has_6 : decode cX7_has 6 = .ok (.lcmp, 1) := by decide +kernel
theorem dX7_has_7 : decode cX7_has 7 = .ok (.ifCond .eq 7, 3) := by decide +kernel
theorem dX7_has_10 : decode cX7_has 10 = .ok (.iconst 1, 1) := by decide +kernel
theorem dX7_has_11 : decode cX7_has 11 = .ok (.goto 4, 3) := by decide +kernel
theorem dX7_has_14 : decode cX7_has 14 = .ok (.iconst 0, 1) := by decide +kernel
theorem dX7_has_15 : decode cX7_has 15 = .ok (.ireturn, 1) := by decide +kernel
theorem dX7_weigh_0 : decode cX7_weigh 0 = .ok (.iconst 0, 1) := by decide +kernel
theorem dX7_weigh_1 : decode cX7_weigh 1 = .ok (.istore_n 3, 1) := by decide +kernel
theorem dX7_weigh_2 : decode cX7_weigh 2 = .ok (.iconst 0, 1) := by decide +kernel
theorem dX7_weigh_3 : decode cX7_weigh 3 = .ok (.istore 4, 2) := by decide +kernel
theorem dX7_weigh_5 : decode cX7_weigh 5 = .ok (.iload 4, 2) := by decide +kernel
theorem dX7_weigh_7 : decode cX7_weigh 7 = .ok (.aload_n 1, 1) := by decide +kernel
theorem dX7_weigh_8 : decode cX7_weigh 8 = .ok (.arraylength, 1) := by decide +kernel
theorem dX7_weigh_9 : decode cX7_weigh 9 = .ok (.if_icmp .ge 31, 3) := by decide +kernel
theorem dX7_weigh_12 : decode cX7_weigh 12 = .ok (.iload_n 0, 1) := by decide +kernel
theorem dX7_weigh_13 : decode cX7_weigh 13 = .ok (.i2l, 1) := by decide +kernel
theorem dX7_weigh_14 : decode cX7_weigh 14 = .ok (.iload 4, 2) := by decide +kernel
theorem dX7_weigh_16 : decode cX7_weigh 16 = .ok (.invokestatic 267, 3) := by decide +kernel
theorem dX7_weigh_19 : decode cX7_weigh 19 = .ok (.ifCond .eq 15, 3) := by decide +kernel
theorem dX7_weigh_22 : decode cX7_weigh 22 = .ok (.iload_n 3, 1) := by decide +kernel
theorem dX7_weigh_23 : decode cX7_weigh 23 = .ok (.iload 4, 2) := by decide +kernel
theorem dX7_weigh_25 : decode cX7_weigh 25 = .ok (.iload_n 2, 1) := by decide +kernel
theorem dX7_weigh_26 : decode cX7_weigh 26 = .ok (.iadd, 1) := by decide +kernel
theorem dX7_weigh_27 : decode cX7_weigh 27 = .ok (.aload_n 1, 1) := by decide +kernel
theorem dX7_weigh_28 : decode cX7_weigh 28 = .ok (.iload 4, 2) := by decide +kernel
theorem dX7_weigh_30 : decode cX7_weigh 30 = .ok (.iaload, 1) := by decide +kernel
theorem dX7_weigh_31 : decode cX7_weigh 31 = .ok (.imul, 1) := by decide +kernel
theorem dX7_weigh_32 : decode cX7_weigh 32 = .ok (.iadd, 1) := by decide +kernel
theorem dX7_weigh_33 : decode cX7_weigh 33 = .ok (.istore_n 3, 1) := by decide +kernel
theorem dX7_weigh_34 : decode cX7_weigh 34 = .ok (.iinc 4 1, 3) := by decide +kernel
theorem dX7_weigh_37 : decode cX7_weigh 37 = .ok (.goto (-32), 3) := by decide +kernel
theorem dX7_weigh_40 : decode cX7_weigh 40 = .ok (.iload_n 3, 1) := by decide +kernel
theorem dX7_weigh_41 : decode cX7_weigh 41 = .ok (.ireturn, 1) := by decide +kernel
