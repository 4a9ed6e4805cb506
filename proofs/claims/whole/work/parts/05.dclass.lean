/-! decode rows: printed by the kit of the program itself -/
theorem dX0_init_0 : decode cX0_init 0 = .ok (.aload_n 0, 1) := by decide +kernel
theorem dX0_init_1 : decode cX0_init 1 = .ok (.invokespecial 3, 3) := by decide +kernel
theorem dX0_init_4 : decode cX0_init 4 = .ok (.aload_n 0, 1) := by decide +kernel
theorem dX0_init_5 : decode cX0_init 5 = .ok (.aload_n 1, 1) := by decide +kernel
theorem dX0_init_6 : decode cX0_init 6 = .ok (.putfield 9, 3) := by decide +kernel
theorem dX0_init_9 : decode cX0_init 9 = .ok (.aload_n 0, 1) := by decide +kernel
theorem dX0_init_10 : decode cX0_init 10 = .ok (.bipush 8, 2) := by decide +kernel
theorem dX0_init_12 : decode cX0_init 12 = .ok (.anewarray 15, 3) := by decide +kernel
theorem dX0_init_15 : decode cX0_init 15 = .ok (.putfield 17, 3) := by decide +kernel
theorem dX0_init_18 : decode cX0_init 18 = .ok (.iconst 0, 1) := by decide +kernel
theorem dX0_init_19 : decode cX0_init 19 = .ok (.istore_n 2, 1) := by decide +kernel
theorem dX0_init_20 : decode cX0_init 20 = .ok (.iload_n 2, 1) := by decide +kernel
theorem dX0_init_21 : decode cX0_init 21 = .ok (.bipush 8, 2) := by decide +kernel
theorem dX0_init_23 : decode cX0_init 23 = .ok (.if_icmp .ge 27, 3) := by decide +kernel
theorem dX0_init_26 : decode cX0_init 26 = .ok (.aload_n 0, 1) := by decide +kernel
theorem dX0_init_27 : decode cX0_init 27 = .ok (.getfield 17, 3) := by decide +kernel
theorem dX0_init_30 : decode cX0_init 30 = .ok (.iload_n 2, 1) := by decide +kernel
theorem dX0_init_31 : decode cX0_init 31 = .ok (.new 15, 3) := by decide +kernel
theorem dX0_init_34 : decode cX0_init 34 = .ok (.dup, 1) := by decide +kernel
theorem dX0_init_35 : decode cX0_init 35 = .ok (.iconst 0, 1) := by decide +kernel
theorem dX0_init_36 : decode cX0_init 36 = .ok (.iload_n 2, 1) := by decide +kernel
theorem dX0_init_37 : decode cX0_init 37 = .ok (.iconst 0, 1) := by decide +kernel
theorem dX0_init_38 : decode cX0_init 38 = .ok (.iconst 0, 1) := by decide +kernel
theorem dX0_init_39 : decode cX0_init 39 = .ok (.iconst 1, 1) := by decide +kernel
theorem dX0_init_40 : decode cX0_init 40 = .ok (.invokespecial 21, 3) := by decide +kernel
theorem dX0_init_43 : decode cX0_init 43 = .ok (.aastore, 1) := by decide +kernel
theorem dX0_init_44 : decode cX0_init 44 = .ok (.iinc 2 1, 3) := by decide +kernel
theorem dX0_init_47 : decode cX0_init 47 = .ok (.goto (-27), 3) := by decide +kernel
theorem dX0_init_50 : decode cX0_init 50 = .ok (.aload_n 0, 1) := by decide +kernel
theorem dX0_init_51 : decode cX0_init 51 = .ok (.new 24, 3) := by decide +kernel
theorem dX0_init_54 : decode cX0_init 54 = .ok (.dup, 1) := by decide +kernel
theorem dX0_init_55 : decode cX0_init 55 = .ok (.bipush 100, 2) := by decide +kernel
theorem dX0_init_57 : decode cX0_init 57 = .ok (.newarray .int, 2) := by decide +kernel
theorem dX0_init_59 : decode cX0_init 59 = .ok (.iconst 1, 1) := by decide +kernel
theorem dX0_init_60 : decode cX0_init 60 = .ok (.invokespecial 26, 3) := by decide +kernel
theorem dX0_init_63 : decode cX0_init 63 = .ok (.putfield 29, 3) := by decide +kernel
theorem dX0_init_66 : decode cX0_init 66 = .ok (.aload_n 0, 1) := by decide +kernel
theorem dX0_init_67 : decode cX0_init 67 = .ok (.new 24, 3) := by decide +kernel
theorem dX0_init_70 : decode cX0_init 70 = .ok (.dup, 1) := by decide +kernel
theorem dX0_init_71 : decode cX0_init 71 = .ok (.bipush 12, 2) := by decide +kernel
theorem dX0_init_73 : decode cX0_init 73 = .ok (.newarray .int, 2) := by decide +kernel
theorem dX0_init_75 : decode cX0_init 75 = .ok (.iconst 2, 1) := by decide +kernel
theorem dX0_init_76 : decode cX0_init 76 = .ok (.invokespecial 26, 3) := by decide +kernel
theorem dX0_init_79 : decode cX0_init 79 = .ok (.putfield 33, 3) := by decide +kernel
theorem dX0_init_82 : decode cX0_init 82 = .ok (.aload_n 0, 1) := by decide +kernel
theorem dX0_init_83 : decode cX0_init 83 = .ok (.new 24, 3) := by decide +kernel
theorem dX0_init_86 : decode cX0_init 86 = .ok (.dup, 1) := by decide +kernel
theorem dX0_init_87 : decode cX0_init 87 = .ok (.bipush 16, 2) := by decide +kernel
theorem dX0_init_89 : decode cX0_init 89 = .ok (.newarray .int, 2) := by decide +kernel
theorem dX0_init_91 : decode cX0_init 91 = .ok (.iconst 2, 1) := by decide +kernel
theorem dX0_init_92 : decode cX0_init 92 = .ok (.invokespecial 26, 3) := by decide +kernel
theorem dX0_init_95 : decode cX0_init 95 = .ok (.putfield 36, 3) := by decide +kernel
theorem dX0_init_98 : decode cX0_init 98 = .ok (.aload_n 0, 1) := by decide +kernel
theorem dX0_init_99 : decode cX0_init 99 = .ok (.new 24, 3) := by decide +kernel
theorem dX0_init_102 : decode cX0_init 102 = .ok (.dup, 1) := by decide +kernel
theorem dX0_init_103 : decode cX0_init 103 = .ok (.bipush 24, 2) := by decide +kernel
theorem dX0_init_105 : decode cX0_init 105 = .ok (.newarray .int, 2) := by decide +kernel
theorem dX0_init_107 : decode cX0_init 107 = .ok (.iconst 3, 1) := by decide +kernel
theorem dX0_init_108 : decode cX0_init 108 = .ok (.invokespecial 26, 3) := by decide +kernel
theorem dX0_init_111 : decode cX0_init 111 = .ok (.putfield 39, 3) := by decide +kernel
theorem dX0_init_114 : decode cX0_init 114 = .ok (.return_, 1) := by decide +kernel
theorem dX0_markAt_0 : decode cX0_markAt 0 = .ok (.iload_n 1, 1) := by decide +kernel
theorem dX0_markAt_1 : decode cX0_markAt 1 = .ok (.iconst 0, 1) := by decide +kernel
theorem dX0_markAt_2 : decode cX0_markAt 2 = .ok (.aload_n 0, 1) := by decide +kernel
theorem dX0_markAt_3 : decode cX0_markAt 3 = .ok (.getfield 42, 3) := by decide +kernel
theorem dX0_markAt_6 : decode cX0_markAt 6 = .ok (.iconst 1, 1) := by decide +kernel
theorem dX0_markAt_7 : decode cX0_markAt 7 = .ok (.isub, 1) := by decide +kernel
theorem dX0_markAt_8 : decode cX0_markAt 8 = .ok (.invokestatic 46, 3) := by decide +kernel
theorem dX0_markAt_11 : decode cX0_markAt 11 = .ok (.ifCond .eq 12, 3) := by decide +kernel
theorem dX0_markAt_14 : decode cX0_markAt 14 = .ok (.aload_n 0, 1) := by decide +kernel
theorem dX0_markAt_15 : decode cX0_markAt 15 = .ok (.getfield 17, 3) := by decide +kernel
theorem dX0_markAt_18 : decode cX0_markAt 18 = .ok (.iload_n 1, 1) := by decide +kernel
theorem dX0_markAt_19 : decode cX0_markAt 19 = .ok (.aaload, 1) := by decide +kernel
theorem dX0_markAt_20 : decode cX0_markAt 20 = .ok (.goto 4, 3) := by decide +kernel
theorem dX0_markAt_23 : decode cX0_markAt 23 = .ok (.aconst_null, 1) := by decide +kernel
theorem dX0_markAt_24 : decode cX0_markAt 24 = .ok (.areturn, 1) := by decide +kernel
theorem dX0_copyWork_0 : decode cX0_copyWork 0 = .ok (.aload_n 0, 1) := by decide +kernel
theorem dX0_copyWork_1 : decode cX0_copyWork 1 = .ok (.aload_n 1, 1) := by decide +kernel
theorem dX0_copyWork_2 : decode cX0_copyWork 2 = .ok (.getfield 50, 3) := by decide +kernel
theorem dX0_copyWork_5 : decode cX0_copyWork 5 = .ok (.putfield 50, 3) := by decide +kernel
theorem dX0_copyWork_8 : decode cX0_copyWork 8 = .ok (.aload_n 0, 1) := by decide +kernel
theorem dX0_copyWork_9 : decode cX0_copyWork 9 = .ok (.aload_n 1, 1) := by decide +kernel
theorem dX0_copyWork_10 : decode cX0_copyWork 10 = .ok (.getfield 53, 3) := by decide +kernel
theorem dX0_copyWork_13 : decode cX0_copyWork 13 = .ok (.putfield 53, 3) := by decide +kernel
theorem dX0_copyWork_16 : decode cX0_copyWork 16 = .ok (.aload_n 0, 1) := by decide +kernel
theorem dX0_copyWork_17 : decode cX0_copyWork 17 = .ok (.aload_n 1, 1) := by decide +kernel
theorem dX0_copyWork_18 : decode cX0_copyWork 18 = .ok (.getfield 56, 3) := by decide +kernel
theorem dX0_copyWork_21 : decode cX0_copyWork 21 = .ok (.putfield 56, 3) := by decide +kernel
theorem dX0_copyWork_24 : decode cX0_copyWork 24 = .ok (.aload_n 0, 1) := by decide +kernel
theorem dX0_copyWork_25 : decode cX0_copyWork 25 = .ok (.aload_n 1, 1) := by decide +kernel
theorem dX0_copyWork_26 : decode cX0_copyWork 26 = .ok (.getfield 42, 3) := by decide +kernel
theorem dX0_copyWork_29 : decode cX0_copyWork 29 = .ok (.putfield 42, 3) := by decide +kernel
theorem dX0_copyWork_32 : decode cX0_copyWork 32 = .ok (.aload_n 0, 1) := by decide +kernel
theorem dX0_copyWork_33 : decode cX0_copyWork 33 = .ok (.aload_n 1, 1) := by decide +kernel
theorem dX0_copyWork_34 : decode cX0_copyWork 34 = .ok (.getfield 59, 3) := by decide +kernel
theorem dX0_copyWork_37 : decode cX0_copyWork 37 = .ok (.putfield 59, 3) := by decide +kernel
theorem dX0_copyWork_40 : decode cX0_copyWork 40 = .ok (.aload_n 0, 1) := by decide +kernel
theorem dX0_copyWork_41 : decode cX0_copyWork 41 = .ok (.aload_n 1, 1) := by decide +kernel
theorem dX0_copyWork_42 : decode cX0_copyWork 42 = .ok (.getfield 9, 3) := by decide +kernel
theorem dX0_copyWork_45 : decode cX0_copyWork 45 = .ok (.putfield 9, 3) := by decide +kernel
theorem dX0_copyWork_48 : decode cX0_copyWork 48 = .ok (.iconst 0, 1) := by decide +kernel
theorem dX0_copyWork_49 : decode cX0_copyWork 49 = .ok (.istore_n 2, 1) := by decide +kernel
theorem dX0_copyWork_50 : decode cX0_copyWork 50 = .ok (.iload_n 2, 1) := by decide +kernel
theorem dX0_copyWork_51 : decode cX0_copyWork 51 = .ok (.aload_n 0, 1) := by decide +kernel
theorem dX0_copyWork_52 : decode cX0_copyWork 52 = .ok (.getfield 42, 3) := by decide +kernel
theorem dX0_copyWork_55 : decode cX0_copyWork 55 = .ok (.if_icmp .ge 24, 3) := by decide +kernel
theorem dX0_copyWork_58 : decode cX0_copyWork 58 = .ok (.aload_n 0, 1) := by decide +kernel
theorem dX0_copyWork_59 : decode cX0_copyWork 59 = .ok (.getfield 17, 3) := by decide +kernel
theorem dX0_copyWork_62 : decode cX0_copyWork 62 = .ok (.iload_n 2, 1) := by decide +kernel
theorem dX0_copyWork_63 : decode cX0_copyWork 63 = .ok (.aaload, 1) := by decide +kernel
theorem dX0_copyWork_64 : decode cX0_copyWork 64 = .ok (.aload_n 1, 1) := by decide +kernel
theorem dX0_copyWork_65 : decode cX0_copyWork 65 = .ok (.getfield 17, 3) := by decide +kernel
theorem dX0_copyWork_68 : decode cX0_copyWork 68 = .ok (.iload_n 2, 1) := by decide +kernel
theorem dX0_copyWork_69 : decode cX0_copyWork 69 = .ok (.aaload, 1) := by decide +kernel
theorem dX0_copyWork_70 : decode cX0_copyWork 70 = .ok (.invokevirtual 62, 3) := by decide +kernel
theorem dX0_copyWork_73 : decode cX0_copyWork 73 = .ok (.iinc 2 1, 3) := by decide +kernel
theorem dX0_copyWork_76 : decode cX0_copyWork 76 = .ok (.goto (-26), 3) := by decide +kernel
theorem dX0_copyWork_79 : decode cX0_copyWork 79 = .ok (.return_, 1) := by decide +kernel
theorem dX0_copyAll_0 : decode cX0_copyAll 0 = .ok (.aload_n 0, 1) := by decide +kernel
theorem dX0_copyAll_1 : decode cX0_copyAll 1 = .ok (.aload_n 1, 1) := by decide +kernel
theorem dX0_copyAll_2 : decode cX0_copyAll 2 = .ok (.invokevirtual 66, 3) := by decide +kernel
theorem dX0_copyAll_5 : decode cX0_copyAll 5 = .ok (.aload_n 0, 1) := by decide +kernel
theorem dX0_copyAll_6 : decode cX0_copyAll 6 = .ok (.getfield 29, 3) := by decide +kernel
theorem dX0_copyAll_9 : decode cX0_copyAll 9 = .ok (.aload_n 1, 1) := by decide +kernel
theorem dX0_copyAll_10 : decode cX0_copyAll 10 = .ok (.getfield 29, 3) := by decide +kernel
theorem dX0_copyAll_13 : decode cX0_copyAll 13 = .ok (.invokevirtual 70, 3) := by decide +kernel
theorem dX0_copyAll_16 : decode cX0_copyAll 16 = .ok (.aload_n 0, 1) := by decide +kernel
theorem dX0_copyAll_17 : decode cX0_copyAll 17 = .ok (.getfield 33, 3) := by decide +kernel
theorem dX0_copyAll_20 : decode cX0_copyAll 20 = .ok (.aload_n 1, 1) := by decide +kernel
theorem dX0_copyAll_21 : decode cX0_copyAll 21 = .ok (.getfield 33, 3) := by decide +kernel
theorem dX0_copyAll_24 : decode cX0_copyAll 24 = .ok (.invokevirtual 70, 3) := by decide +kernel
theorem dX0_copyAll_27 : decode cX0_copyAll 27 = .ok (.aload_n 0, 1) := by decide +kernel
theorem dX0_copyAll_28 : decode cX0_copyAll 28 = .ok (.getfield 36, 3) := by decide +kernel
theorem dX0_copyAll_31 : decode cX0_copyAll 31 = .ok (.aload_n 1, 1) := by decide +kernel
theorem dX0_copyAll_32 : decode cX0_copyAll 32 = .ok (.getfield 36, 3) := by decide +kernel
theorem dX0_copyAll_35 : decode cX0_copyAll 35 = .ok (.invokevirtual 70, 3) := by decide +kernel
theorem dX0_copyAll_38 : decode cX0_copyAll 38 = .ok (.aload_n 0, 1) := by decide +kernel
theorem dX0_copyAll_39 : decode cX0_copyAll 39 = .ok (.getfield 39, 3) := by decide +kernel
theorem dX0_copyAll_42 : decode cX0_copyAll 42 = .ok (.aload_n 1, 1) := by decide +kernel
theorem dX0_copyAll_43 : decode cX0_copyAll 43 = .ok (.getfield 39, 3) := by decide +kernel
theorem dX0_copyAll_46 : decode cX0_copyAll 46 = .ok (.invokevirtual 70, 3) := by decide +kernel
theorem dX0_copyAll_49 : decode cX0_copyAll 49 = .ok (.return_, 1) := by decide +kernel
theorem dX0_cutMark_0 : decode cX0_cutMark 0 = .ok (.aload_n 1, 1) := by decide +kernel
theorem dX0_cutMark_1 : decode cX0_cutMark 1 = .ok (.iload_n 2, 1) := by decide +kernel
theorem dX0_cutMark_2 : decode cX0_cutMark 2 = .ok (.aload_n 0, 1) := by decide +kernel
theorem dX0_cutMark_3 : decode cX0_cutMark 3 = .ok (.getfield 9, 3) := by decide +kernel
theorem dX0_cutMark_6 : decode cX0_cutMark 6 = .ok (.aload_n 1, 1) := by decide +kernel
theorem dX0_cutMark_7 : decode cX0_cutMark 7 = .ok (.aload_n 0, 1) := by decide +kernel
theorem dX0_cutMark_8 : decode cX0_cutMark 8 = .ok (.getfield 56, 3) := by decide +kernel
theorem dX0_cutMark_11 : decode cX0_cutMark 11 = .ok (.invokevirtual 73, 3) := by decide +kernel
theorem dX0_cutMark_14 : decode cX0_cutMark 14 = .ok (.if_icmp .ge 11, 3) := by decide +kernel
theorem dX0_cutMark_17 : decode cX0_cutMark 17 = .ok (.aload_n 1, 1) := by decide +kernel
theorem dX0_cutMark_18 : decode cX0_cutMark 18 = .ok (.iload_n 2, 1) := by decide +kernel
theorem dX0_cutMark_19 : decode cX0_cutMark 19 = .ok (.invokevirtual 79, 3) := by decide +kernel
theorem dX0_cutMark_22 : decode cX0_cutMark 22 = .ok (.goto 4, 3) := by decide +kernel
theorem dX0_cutMark_25 : decode cX0_cutMark 25 = .ok (.iconst 0, 1) := by decide +kernel
theorem dX0_cutMark_26 : decode cX0_cutMark 26 = .ok (.putfield 83, 3) := by decide +kernel
theorem dX0_cutMark_29 : decode cX0_cutMark 29 = .ok (.aload_n 1, 1) := by decide +kernel
theorem dX0_cutMark_30 : decode cX0_cutMark 30 = .ok (.iconst 1, 1) := by decide +kernel
theorem dX0_cutMark_31 : decode cX0_cutMark 31 = .ok (.putfield 86, 3) := by decide +kernel
theorem dX0_cutMark_34 : decode cX0_cutMark 34 = .ok (.aload_n 0, 1) := by decide +kernel
theorem dX0_cutMark_35 : decode cX0_cutMark 35 = .ok (.dup, 1) := by decide +kernel
theorem dX0_cutMark_36 : decode cX0_cutMark 36 = .ok (.getfield 50, 3) := by decide +kernel
theorem dX0_cutMark_39 : decode cX0_cutMark 39 = .ok (.aload_n 1, 1) := by decide +kernel
theorem dX0_cutMark_40 : decode cX0_cutMark 40 = .ok (.invokevirtual 90, 3) := by decide +kernel
theorem dX0_cutMark_43 : decode cX0_cutMark 43 = .ok (.iadd, 1) := by decide +kernel
theorem dX0_cutMark_44 : decode cX0_cutMark 44 = .ok (.putfield 50, 3) := by decide +kernel
theorem dX0_cutMark_47 : decode cX0_cutMark 47 = .ok (.aload_n 0, 1) := by decide +kernel
theorem dX0_cutMark_48 : decode cX0_cutMark 48 = .ok (.aload_n 1, 1) := by decide +kernel
theorem dX0_cutMark_49 : decode cX0_cutMark 49 = .ok (.aload_n 0, 1) := by decide +kernel
theorem dX0_cutMark_50 : decode cX0_cutMark 50 = .ok (.getfield 56, 3) := by decide +kernel
theorem dX0_cutMark_53 : decode cX0_cutMark 53 = .ok (.invokevirtual 94, 3) := by decide +kernel
theorem dX0_cutMark_56 : decode cX0_cutMark 56 = .ok (.putfield 56, 3) := by decide +kernel
theorem dX0_cutMark_59 : decode cX0_cutMark 59 = .ok (.return_, 1) := by decide +kernel
theorem dX0_restFor_0 : decode cX0_restFor 0 = .ok (.aload_n 0, 1) := by decide +kernel
theorem dX0_restFor_1 : decode cX0_restFor 1 = .ok (.dup, 1) := by decide +kernel
theorem dX0_restFor_2 : decode cX0_restFor 2 = .ok (.getfield 50, 3) := by decide +kernel
theorem dX0_restFor_5 : decode cX0_restFor 5 = .ok (.iload_n 1, 1) := by decide +kernel
theorem dX0_restFor_6 : decode cX0_restFor 6 = .ok (.iadd, 1) := by decide +kernel
theorem dX0_restFor_7 : decode cX0_restFor 7 = .ok (.putfield 50, 3) := by decide +kernel
theorem dX0_restFor_10 : decode cX0_restFor 10 = .ok (.aload_n 0, 1) := by decide +kernel
theorem dX0_restFor_11 : decode cX0_restFor 11 = .ok (.aload_n 0, 1) := by decide +kernel
theorem dX0_restFor_12 : decode cX0_restFor 12 = .ok (.getfield 56, 3) := by decide +kernel
theorem dX0_restFor_15 : decode cX0_restFor 15 = .ok (.iload_n 1, 1) := by decide +kernel
theorem dX0_restFor_16 : decode cX0_restFor 16 = .ok (.invokestatic 97, 3) := by decide +kernel
theorem dX0_restFor_19 : decode cX0_restFor 19 = .ok (.putfield 56, 3) := by decide +kernel
theorem dX0_restFor_22 : decode cX0_restFor 22 = .ok (.return_, 1) := by decide +kernel
theorem dX0_mendMark_0 : decode cX0_mendMark 0 = .ok (.aload_n 0, 1) := by decide +kernel
theorem dX0_mendMark_1 : decode cX0_mendMark 1 = .ok (.dup, 1) := by decide +kernel
theorem dX0_mendMark_2 : decode cX0_mendMark 2 = .ok (.getfield 50, 3) := by decide +kernel
theorem dX0_mendMark_5 : decode cX0_mendMark 5 = .ok (.aload_n 0, 1) := by decide +kernel
theorem dX0_mendMark_6 : decode cX0_mendMark 6 = .ok (.getfield 9, 3) := by decide +kernel
theorem dX0_mendMark_9 : decode cX0_mendMark 9 = .ok (.getfield 101, 3) := by decide +kernel
theorem dX0_mendMark_12 : decode cX0_mendMark 12 = .ok (.iadd, 1) := by decide +kernel
theorem dX0_mendMark_13 : decode cX0_mendMark 13 = .ok (.putfield 50, 3) := by decide +kernel
theorem dX0_mendMark_16 : decode cX0_mendMark 16 = .ok (.aload_n 1, 1) := by decide +kernel
theorem dX0_mendMark_17 : decode cX0_mendMark 17 = .ok (.iconst 0, 1) := by decide +kernel
theorem dX0_mendMark_18 : decode cX0_mendMark 18 = .ok (.putfield 83, 3) := by decide +kernel
theorem dX0_mendMark_21 : decode cX0_mendMark 21 = .ok (.aload_n 1, 1) := by decide +kernel
theorem dX0_mendMark_22 : decode cX0_mendMark 22 = .ok (.bipush 9, 2) := by decide +kernel
theorem dX0_mendMark_24 : decode cX0_mendMark 24 = .ok (.aload_n 1, 1) := by decide +kernel
theorem dX0_mendMark_25 : decode cX0_mendMark 25 = .ok (.getfield 104, 3) := by decide +kernel
theorem dX0_mendMark_28 : decode cX0_mendMark 28 = .ok (.iconst 1, 1) := by decide +kernel
theorem dX0_mendMark_29 : decode cX0_mendMark 29 = .ok (.iadd, 1) := by decide +kernel
theorem dX0_mendMark_30 : decode cX0_mendMark 30 = .ok (.invokestatic 107, 3) := by decide +kernel
theorem dX0_mendMark_33 : decode cX0_mendMark 33 = .ok (.putfield 104, 3) := by decide +kernel
theorem dX0_mendMark_36 : decode cX0_mendMark 36 = .ok (.aload_n 1, 1) := by decide +kernel
theorem dX0_mendMark_37 : decode cX0_mendMark 37 = .ok (.iconst 0, 1) := by decide +kernel
theorem dX0_mendMark_38 : decode cX0_mendMark 38 = .ok (.putfield 112, 3) := by decide +kernel
theorem dX0_mendMark_41 : decode cX0_mendMark 41 = .ok (.aload_n 0, 1) := by decide +kernel
theorem dX0_mendMark_42 : decode cX0_mendMark 42 = .ok (.aload_n 0, 1) := by decide +kernel
theorem dX0_mendMark_43 : decode cX0_mendMark 43 = .ok (.getfield 56, 3) := by decide +kernel
theorem dX0_mendMark_46 : decode cX0_mendMark 46 = .ok (.iconst 5, 1) := by decide +kernel
theorem dX0_mendMark_47 : decode cX0_mendMark 47 = .ok (.invokestatic 115, 3) := by decide +kernel
theorem dX0_mendMark_50 : decode cX0_mendMark 50 = .ok (.putfield 56, 3) := by decide +kernel
theorem dX0_mendMark_53 : decode cX0_mendMark 53 = .ok (.return_, 1) := by decide +kernel
theorem dX0_goOver_0 : decode cX0_goOver 0 = .ok (.aload_n 0, 1) := by decide +kernel
theorem dX0_goOver_1 : decode cX0_goOver 1 = .ok (.dup, 1) := by decide +kernel
theorem dX0_goOver_2 : decode cX0_goOver 2 = .ok (.getfield 50, 3) := by decide +kernel
theorem dX0_goOver_5 : decode cX0_goOver 5 = .ok (.aload_n 1, 1) := by decide +kernel
theorem dX0_goOver_6 : decode cX0_goOver 6 = .ok (.invokevirtual 90, 3) := by decide +kernel
theorem dX0_goOver_9 : decode cX0_goOver 9 = .ok (.iconst 2, 1) := by decide +kernel
theorem dX0_goOver_10 : decode cX0_goOver 10 = .ok (.idiv, 1) := by decide +kernel
theorem dX0_goOver_11 : decode cX0_goOver 11 = .ok (.iadd, 1) := by decide +kernel
theorem dX0_goOver_12 : decode cX0_goOver 12 = .ok (.putfield 50, 3) := by decide +kernel
theorem dX0_goOver_15 : decode cX0_goOver 15 = .ok (.aload_n 1, 1) := by decide +kernel
theorem dX0_goOver_16 : decode cX0_goOver 16 = .ok (.iconst 0, 1) := by decide +kernel
theorem dX0_goOver_17 : decode cX0_goOver 17 = .ok (.putfield 112, 3) := by decide +kernel
theorem dX0_goOver_20 : decode cX0_goOver 20 = .ok (.aload_n 1, 1) := by decide +kernel
theorem dX0_goOver_21 : decode cX0_goOver 21 = .ok (.bipush 9, 2) := by decide +kernel
theorem dX0_goOver_23 : decode cX0_goOver 23 = .ok (.aload_n 1, 1) := by decide +kernel
theorem dX0_goOver_24 : decode cX0_goOver 24 = .ok (.getfield 118, 3) := by decide +kernel
theorem dX0_goOver_27 : decode cX0_goOver 27 = .ok (.iconst 1, 1) := by decide +kernel
theorem dX0_goOver_28 : decode cX0_goOver 28 = .ok (.iadd, 1) := by decide +kernel
theorem dX0_goOver_29 : decode cX0_goOver 29 = .ok (.invokestatic 107, 3) := by decide +kernel
theorem dX0_goOver_32 : decode cX0_goOver 32 = .ok (.putfield 118, 3) := by decide +kernel
theorem dX0_goOver_35 : decode cX0_goOver 35 = .ok (.aload_n 0, 1) := by decide +kernel
theorem dX0_goOver_36 : decode cX0_goOver 36 = .ok (.aload_n 0, 1) := by decide +kernel
theorem dX0_goOver_37 : decode cX0_goOver 37 = .ok (.getfield 56, 3) := by decide +kernel
theorem dX0_goOver_40 : decode cX0_goOver 40 = .ok (.iconst 3, 1) := by decide +kernel
theorem dX0_goOver_41 : decode cX0_goOver 41 = .ok (.invokestatic 115, 3) := by decide +kernel
theorem dX0_goOver_44 : decode cX0_goOver 44 = .ok (.putfield 56, 3) := by decide +kernel
theorem dX0_goOver_47 : decode cX0_goOver 47 = .ok (.return_, 1) := by decide +kernel
theorem dX0_takePrints_0 : decode cX0_takePrints 0 = .ok (.aload_n 0, 1) := by decide +kernel
theorem dX0_takePrints_1 : decode cX0_takePrints 1 = .ok (.iload_n 2, 1) := by decide +kernel
theorem dX0_takePrints_2 : decode cX0_takePrints 2 = .ok (.aload_n 0, 1) := by decide +kernel
theorem dX0_takePrints_3 : decode cX0_takePrints 3 = .ok (.getfield 53, 3) := by decide +kernel
theorem dX0_takePrints_6 : decode cX0_takePrints 6 = .ok (.iload_n 1, 1) := by decide +kernel
theorem dX0_takePrints_7 : decode cX0_takePrints 7 = .ok (.iadd, 1) := by decide +kernel
theorem dX0_takePrints_8 : decode cX0_takePrints 8 = .ok (.invokestatic 107, 3) := by decide +kernel
theorem dX0_takePrints_11 : decode cX0_takePrints 11 = .ok (.putfield 53, 3) := by decide +kernel
theorem dX0_takePrints_14 : decode cX0_takePrints 14 = .ok (.iconst 0, 1) := by decide +kernel
theorem dX0_takePrints_15 : decode cX0_takePrints 15 = .ok (.istore_n 3, 1) := by decide +kernel
theorem dX0_takePrints_16 : decode cX0_takePrints 16 = .ok (.iload_n 3, 1) := by decide +kernel
theorem dX0_takePrints_17 : decode cX0_takePrints 17 = .ok (.aload_n 0, 1) := by decide +kernel
theorem dX0_takePrints_18 : decode cX0_takePrints 18 = .ok (.getfield 42, 3) := by decide +kernel
theorem dX0_takePrints_21 : decode cX0_takePrints 21 = .ok (.if_icmp .ge 41, 3) := by decide +kernel
theorem dX0_takePrints_24 : decode cX0_takePrints 24 = .ok (.aload_n 0, 1) := by decide +kernel
theorem dX0_takePrints_25 : decode cX0_takePrints 25 = .ok (.getfield 17, 3) := by decide +kernel
theorem dX0_takePrints_28 : decode cX0_takePrints 28 = .ok (.iload_n 3, 1) := by decide +kernel
theorem dX0_takePrints_29 : decode cX0_takePrints 29 = .ok (.aaload, 1) := by decide +kernel
theorem dX0_takePrints_30 : decode cX0_takePrints 30 = .ok (.astore 4, 2) := by decide +kernel
theorem dX0_takePrints_32 : decode cX0_takePrints 32 = .ok (.aload 4, 2) := by decide +kernel
theorem dX0_takePrints_34 : decode cX0_takePrints 34 = .ok (.getfield 86, 3) := by decide +kernel
theorem dX0_takePrints_37 : decode cX0_takePrints 37 = .ok (.ifCond .eq 19, 3) := by decide +kernel
theorem dX0_takePrints_40 : decode cX0_takePrints 40 = .ok (.aload 4, 2) := by decide +kernel
theorem dX0_takePrints_42 : decode cX0_takePrints 42 = .ok (.iload_n 2, 1) := by decide +kernel
theorem dX0_takePrints_43 : decode cX0_takePrints 43 = .ok (.aload 4, 2) := by decide +kernel
theorem dX0_takePrints_45 : decode cX0_takePrints 45 = .ok (.getfield 112, 3) := by decide +kernel
theorem dX0_takePrints_48 : decode cX0_takePrints 48 = .ok (.iload_n 1, 1) := by decide +kernel
theorem dX0_takePrints_49 : decode cX0_takePrints 49 = .ok (.iadd, 1) := by decide +kernel
theorem dX0_takePrints_50 : decode cX0_takePrints 50 = .ok (.invokestatic 107, 3) := by decide +kernel
theorem dX0_takePrints_53 : decode cX0_takePrints 53 = .ok (.putfield 112, 3) := by decide +kernel
theorem dX0_takePrints_56 : decode cX0_takePrints 56 = .ok (.iinc 3 1, 3) := by decide +kernel
theorem dX0_takePrints_59 : decode cX0_takePrints 59 = .ok (.goto (-43), 3) := by decide +kernel
theorem dX0_takePrints_62 : decode cX0_takePrints 62 = .ok (.return_, 1) := by decide +kernel
theorem dX0_darkBehind_0 : decode cX0_darkBehind 0 = .ok (.aload_n 1, 1) := by decide +kernel
theorem dX0_darkBehind_1 : decode cX0_darkBehind 1 = .ok (.aload_n 1, 1) := by decide +kernel
theorem dX0_darkBehind_2 : decode cX0_darkBehind 2 = .ok (.getfield 112, 3) := by decide +kernel
theorem dX0_darkBehind_5 : decode cX0_darkBehind 5 = .ok (.iload_n 2, 1) := by decide +kernel
theorem dX0_darkBehind_6 : decode cX0_darkBehind 6 = .ok (.iadd, 1) := by decide +kernel
theorem dX0_darkBehind_7 : decode cX0_darkBehind 7 = .ok (.aload_n 0, 1) := by decide +kernel
theorem dX0_darkBehind_8 : decode cX0_darkBehind 8 = .ok (.getfield 9, 3) := by decide +kernel
theorem dX0_darkBehind_11 : decode cX0_darkBehind 11 = .ok (.getfield 121, 3) := by decide +kernel
theorem dX0_darkBehind_14 : decode cX0_darkBehind 14 = .ok (.invokevirtual 124, 3) := by decide +kernel
theorem dX0_darkBehind_17 : decode cX0_darkBehind 17 = .ok (.ireturn, 1) := by decide +kernel
theorem dX0_printing_0 : decode cX0_printing 0 = .ok (.iconst 0, 1) := by decide +kernel
theorem dX0_printing_1 : decode cX0_printing 1 = .ok (.istore_n 2, 1) := by decide +kernel
theorem dX0_printing_2 : decode cX0_printing 2 = .ok (.iconst 0, 1) := by decide +kernel
theorem dX0_printing_3 : decode cX0_printing 3 = .ok (.istore_n 3, 1) := by decide +kernel
theorem dX0_printing_4 : decode cX0_printing 4 = .ok (.iload_n 3, 1) := by decide +kernel
theorem dX0_printing_5 : decode cX0_printing 5 = .ok (.aload_n 0, 1) := by decide +kernel
theorem dX0_printing_6 : decode cX0_printing 6 = .ok (.getfield 42, 3) := by decide +kernel
theorem dX0_printing_9 : decode cX0_printing 9 = .ok (.if_icmp .ge 29, 3) := by decide +kernel
theorem dX0_printing_12 : decode cX0_printing 12 = .ok (.aload_n 0, 1) := by decide +kernel
theorem dX0_printing_13 : decode cX0_printing 13 = .ok (.aload_n 0, 1) := by decide +kernel
theorem dX0_printing_14 : decode cX0_printing 14 = .ok (.getfield 17, 3) := by decide +kernel
theorem dX0_printing_17 : decode cX0_printing 17 = .ok (.iload_n 3, 1) := by decide +kernel
theorem dX0_printing_18 : decode cX0_printing 18 = .ok (.aaload, 1) := by decide +kernel
theorem dX0_printing_19 : decode cX0_printing 19 = .ok (.iload_n 1, 1) := by decide +kernel
theorem dX0_printing_20 : decode cX0_printing 20 = .ok (.invokevirtual 127, 3) := by decide +kernel
theorem dX0_printing_23 : decode cX0_printing 23 = .ok (.ifCond .le 9, 3) := by decide +kernel
theorem dX0_printing_26 : decode cX0_printing 26 = .ok (.iload_n 2, 1) := by decide +kernel
theorem dX0_printing_27 : decode cX0_printing 27 = .ok (.iconst 1, 1) := by decide +kernel
theorem dX0_printing_28 : decode cX0_printing 28 = .ok (.iload_n 3, 1) := by decide +kernel
theorem dX0_printing_29 : decode cX0_printing 29 = .ok (.ishl, 1) := by decide +kernel
theorem dX0_printing_30 : decode cX0_printing 30 = .ok (.ior, 1) := by decide +kernel
theorem dX0_printing_31 : decode cX0_printing 31 = .ok (.istore_n 2, 1) := by decide +kernel
theorem dX0_printing_32 : decode cX0_printing 32 = .ok (.iinc 3 1, 3) := by decide +kernel
theorem dX0_printing_35 : decode cX0_printing 35 = .ok (.goto (-31), 3) := by decide +kernel
theorem dX0_printing_38 : decode cX0_printing 38 = .ok (.iload_n 2, 1) := by decide +kernel
theorem dX0_printing_39 : decode cX0_printing 39 = .ok (.ireturn, 1) := by decide +kernel
theorem dX0_firstFaded_0 : decode cX0_firstFaded 0 = .ok (.iconst 0, 1) := by decide +kernel
theorem dX0_firstFaded_1 : decode cX0_firstFaded 1 = .ok (.istore_n 3, 1) := by decide +kernel
theorem dX0_firstFaded_2 : decode cX0_firstFaded 2 = .ok (.iload_n 3, 1) := by decide +kernel
theorem dX0_firstFaded_3 : decode cX0_firstFaded 3 = .ok (.aload_n 0, 1) := by decide +kernel
theorem dX0_firstFaded_4 : decode cX0_firstFaded 4 = .ok (.getfield 42, 3) := by decide +kernel
theorem dX0_firstFaded_7 : decode cX0_firstFaded 7 = .ok (.if_icmp .ge 50, 3) := by decide +kernel
theorem dX0_firstFaded_10 : decode cX0_firstFaded 10 = .ok (.aload_n 0, 1) := by decide +kernel
theorem dX0_firstFaded_11 : decode cX0_firstFaded 11 = .ok (.getfield 17, 3) := by decide +kernel
theorem dX0_firstFaded_14 : decode cX0_firstFaded 14 = .ok (.iload_n 3, 1) := by decide +kernel
theorem dX0_firstFaded_15 : decode cX0_firstFaded 15 = .ok (.aaload, 1) := by decide +kernel
theorem dX0_firstFaded_16 : decode cX0_firstFaded 16 = .ok (.astore 4, 2) := by decide +kernel
theorem dX0_firstFaded_18 : decode cX0_firstFaded 18 = .ok (.iload_n 1, 1) := by decide +kernel
theorem dX0_firstFaded_19 : decode cX0_firstFaded 19 = .ok (.iload_n 3, 1) := by decide +kernel
theorem dX0_firstFaded_20 : decode cX0_firstFaded 20 = .ok (.ishr, 1) := by decide +kernel
theorem dX0_firstFaded_21 : decode cX0_firstFaded 21 = .ok (.iconst 1, 1) := by decide +kernel
theorem dX0_firstFaded_22 : decode cX0_firstFaded 22 = .ok (.iand, 1) := by decide +kernel
theorem dX0_firstFaded_23 : decode cX0_firstFaded 23 = .ok (.iconst 1, 1) := by decide +kernel
theorem dX0_firstFaded_24 : decode cX0_firstFaded 24 = .ok (.if_icmp .ne 27, 3) := by decide +kernel
theorem dX0_firstFaded_27 : decode cX0_firstFaded 27 = .ok (.aload 4, 2) := by decide +kernel
theorem dX0_firstFaded_29 : decode cX0_firstFaded 29 = .ok (.aload 4, 2) := by decide +kernel
theorem dX0_firstFaded_31 : decode cX0_firstFaded 31 = .ok (.getfield 112, 3) := by decide +kernel
theorem dX0_firstFaded_34 : decode cX0_firstFaded 34 = .ok (.iload_n 2, 1) := by decide +kernel
theorem dX0_firstFaded_35 : decode cX0_firstFaded 35 = .ok (.iadd, 1) := by decide +kernel
theorem dX0_firstFaded_36 : decode cX0_firstFaded 36 = .ok (.aload_n 0, 1) := by decide +kernel
theorem dX0_firstFaded_37 : decode cX0_firstFaded 37 = .ok (.getfield 9, 3) := by decide +kernel
theorem dX0_firstFaded_40 : decode cX0_firstFaded 40 = .ok (.getfield 121, 3) := by decide +kernel
theorem dX0_firstFaded_43 : decode cX0_firstFaded 43 = .ok (.invokevirtual 124, 3) := by decide +kernel
theorem dX0_firstFaded_46 : decode cX0_firstFaded 46 = .ok (.ifCond .gt 5, 3) := by decide +kernel
theorem dX0_firstFaded_49 : decode cX0_firstFaded 49 = .ok (.iload_n 3, 1) := by decide +kernel
theorem dX0_firstFaded_50 : decode cX0_firstFaded 50 = .ok (.ireturn, 1) := by decide +kernel
theorem dX0_firstFaded_51 : decode cX0_firstFaded 51 = .ok (.iinc 3 1, 3) := by decide +kernel
theorem dX0_firstFaded_54 : decode cX0_firstFaded 54 = .ok (.goto (-52), 3) := by decide +kernel
theorem dX0_firstFaded_57 : decode cX0_firstFaded 57 = .ok (.iconst (-1), 1) := by decide +kernel
theorem dX0_firstFaded_58 : decode cX0_firstFaded 58 = .ok (.ireturn, 1) := by decide +kernel
theorem dX0_goodFor_0 : decode cX0_goodFor 0 = .ok (.iload_n 1, 1) := by decide +kernel
theorem dX0_goodFor_1 : decode cX0_goodFor 1 = .ok (.ifCond .ne 6, 3) := by decide +kernel
theorem dX0_goodFor_4 : decode cX0_goodFor 4 = .ok (.bipush (-5), 2) := by decide +kernel
theorem dX0_goodFor_6 : decode cX0_goodFor 6 = .ok (.ireturn, 1) := by decide +kernel
theorem dX0_goodFor_7 : decode cX0_goodFor 7 = .ok (.sipush 999, 3) := by decide +kernel
theorem dX0_goodFor_10 : decode cX0_goodFor 10 = .ok (.istore_n 2, 1) := by decide +kernel
theorem dX0_goodFor_11 : decode cX0_goodFor 11 = .ok (.iload_n 2, 1) := by decide +kernel
theorem dX0_goodFor_12 : decode cX0_goodFor 12 = .ok (.ifCond .le 20, 3) := by decide +kernel
theorem dX0_goodFor_15 : decode cX0_goodFor 15 = .ok (.aload_n 0, 1) := by decide +kernel
theorem dX0_goodFor_16 : decode cX0_goodFor 16 = .ok (.iload_n 1, 1) := by decide +kernel
theorem dX0_goodFor_17 : decode cX0_goodFor 17 = .ok (.iload_n 2, 1) := by decide +kernel
theorem dX0_goodFor_18 : decode cX0_goodFor 18 = .ok (.invokevirtual 130, 3) := by decide +kernel
theorem dX0_goodFor_21 : decode cX0_goodFor 21 = .ok (.ifCond .ge 5, 3) := by decide +kernel
theorem dX0_goodFor_24 : decode cX0_goodFor 24 = .ok (.iload_n 2, 1) := by decide +kernel
theorem dX0_goodFor_25 : decode cX0_goodFor 25 = .ok (.ireturn, 1) := by decide +kernel
theorem dX0_goodFor_26 : decode cX0_goodFor 26 = .ok (.iinc 2 (-1), 3) := by decide +kernel
theorem dX0_goodFor_29 : decode cX0_goodFor 29 = .ok (.goto (-18), 3) := by decide +kernel
theorem dX0_goodFor_32 : decode cX0_goodFor 32 = .ok (.iconst 0, 1) := by decide +kernel
theorem dX0_goodFor_33 : decode cX0_goodFor 33 = .ok (.ireturn, 1) := by decide +kernel
theorem dX0_riskWithRest_0 : decode cX0_riskWithRest 0 = .ok (.aload_n 0, 1) := by decide +kernel
theorem dX0_riskWithRest_1 : decode cX0_riskWithRest 1 = .ok (.getfield 56, 3) := by decide +kernel
theorem dX0_riskWithRest_4 : decode cX0_riskWithRest 4 = .ok (.istore_n 2, 1) := by decide +kernel
theorem dX0_riskWithRest_5 : decode cX0_riskWithRest 5 = .ok (.iconst 0, 1) := by decide +kernel
theorem dX0_riskWithRest_6 : decode cX0_riskWithRest 6 = .ok (.istore_n 3, 1) := by decide +kernel
theorem dX0_riskWithRest_7 : decode cX0_riskWithRest 7 = .ok (.iconst 0, 1) := by decide +kernel
theorem dX0_riskWithRest_8 : decode cX0_riskWithRest 8 = .ok (.istore 4, 2) := by decide +kernel
theorem dX0_riskWithRest_10 : decode cX0_riskWithRest 10 = .ok (.iload 4, 2) := by decide +kernel
theorem dX0_riskWithRest_12 : decode cX0_riskWithRest 12 = .ok (.aload_n 0, 1) := by decide +kernel
theorem dX0_riskWithRest_13 : decode cX0_riskWithRest 13 = .ok (.getfield 42, 3) := by decide +kernel
theorem dX0_riskWithRest_16 : decode cX0_riskWithRest 16 = .ok (.if_icmp .ge 59, 3) := by decide +kernel
theorem dX0_riskWithRest_19 : decode cX0_riskWithRest 19 = .ok (.aload_n 0, 1) := by decide +kernel
theorem dX0_riskWithRest_20 : decode cX0_riskWithRest 20 = .ok (.getfield 17, 3) := by decide +kernel
theorem dX0_riskWithRest_23 : decode cX0_riskWithRest 23 = .ok (.iload 4, 2) := by decide +kernel
theorem dX0_riskWithRest_25 : decode cX0_riskWithRest 25 = .ok (.aaload, 1) := by decide +kernel
theorem dX0_riskWithRest_26 : decode cX0_riskWithRest 26 = .ok (.astore 5, 2) := by decide +kernel
theorem dX0_riskWithRest_28 : decode cX0_riskWithRest 28 = .ok (.aload 5, 2) := by decide +kernel
theorem dX0_riskWithRest_30 : decode cX0_riskWithRest 30 = .ok (.getfield 86, 3) := by decide +kernel
theorem dX0_riskWithRest_33 : decode cX0_riskWithRest 33 = .ok (.ifCond .ne 36, 3) := by decide +kernel
theorem dX0_riskWithRest_36 : decode cX0_riskWithRest 36 = .ok (.iload 4, 2) := by decide +kernel
theorem dX0_riskWithRest_38 : decode cX0_riskWithRest 38 = .ok (.iload_n 1, 1) := by decide +kernel
theorem dX0_riskWithRest_39 : decode cX0_riskWithRest 39 = .ok (.if_icmp .ne 10, 3) := by decide +kernel
theorem dX0_riskWithRest_42 : decode cX0_riskWithRest 42 = .ok (.iload_n 2, 1) := by decide +kernel
theorem dX0_riskWithRest_43 : decode cX0_riskWithRest 43 = .ok (.bipush 10, 2) := by decide +kernel
theorem dX0_riskWithRest_45 : decode cX0_riskWithRest 45 = .ok (.invokestatic 97, 3) := by decide +kernel
theorem dX0_riskWithRest_48 : decode cX0_riskWithRest 48 = .ok (.istore_n 2, 1) := by decide +kernel
theorem dX0_riskWithRest_49 : decode cX0_riskWithRest 49 = .ok (.iload_n 3, 1) := by decide +kernel
theorem dX0_riskWithRest_50 : decode cX0_riskWithRest 50 = .ok (.aload_n 0, 1) := by decide +kernel
theorem dX0_riskWithRest_51 : decode cX0_riskWithRest 51 = .ok (.getfield 9, 3) := by decide +kernel
theorem dX0_riskWithRest_54 : decode cX0_riskWithRest 54 = .ok (.aload 5, 2) := by decide +kernel
theorem dX0_riskWithRest_56 : decode cX0_riskWithRest 56 = .ok (.iload_n 2, 1) := by decide +kernel
theorem dX0_riskWithRest_57 : decode cX0_riskWithRest 57 = .ok (.invokevirtual 73, 3) := by decide +kernel
theorem dX0_riskWithRest_60 : decode cX0_riskWithRest 60 = .ok (.iadd, 1) := by decide +kernel
theorem dX0_riskWithRest_61 : decode cX0_riskWithRest 61 = .ok (.istore_n 3, 1) := by decide +kernel
theorem dX0_riskWithRest_62 : decode cX0_riskWithRest 62 = .ok (.aload 5, 2) := by decide +kernel
theorem dX0_riskWithRest_64 : decode cX0_riskWithRest 64 = .ok (.iload_n 2, 1) := by decide +kernel
theorem dX0_riskWithRest_65 : decode cX0_riskWithRest 65 = .ok (.invokevirtual 94, 3) := by decide +kernel
theorem dX0_riskWithRest_68 : decode cX0_riskWithRest 68 = .ok (.istore_n 2, 1) := by decide +kernel
theorem dX0_riskWithRest_69 : decode cX0_riskWithRest 69 = .ok (.iinc 4 1, 3) := by decide +kernel
theorem dX0_riskWithRest_72 : decode cX0_riskWithRest 72 = .ok (.goto (-62), 3) := by decide +kernel
theorem dX0_riskWithRest_75 : decode cX0_riskWithRest 75 = .ok (.iload_n 3, 1) := by decide +kernel
theorem dX0_riskWithRest_76 : decode cX0_riskWithRest 76 = .ok (.ireturn, 1) := by decide +kernel
theorem dX0_besideOf_0 : decode cX0_besideOf 0 = .ok (.iconst 0, 1) := by decide +kernel
theorem dX0_besideOf_1 : decode cX0_besideOf 1 = .ok (.istore_n 2, 1) := by decide +kernel
theorem dX0_besideOf_2 : decode cX0_besideOf 2 = .ok (.aload_n 0, 1) := by decide +kernel
theorem dX0_besideOf_3 : decode cX0_besideOf 3 = .ok (.iload_n 1, 1) := by decide +kernel
theorem dX0_besideOf_4 : decode cX0_besideOf 4 = .ok (.invokevirtual 133, 3) := by decide +kernel
theorem dX0_besideOf_7 : decode cX0_besideOf 7 = .ok (.astore_n 3, 1) := by decide +kernel
theorem dX0_besideOf_8 : decode cX0_besideOf 8 = .ok (.iconst 0, 1) := by decide +kernel
theorem dX0_besideOf_9 : decode cX0_besideOf 9 = .ok (.istore 4, 2) := by decide +kernel
theorem dX0_besideOf_11 : decode cX0_besideOf 11 = .ok (.aload_n 3, 1) := by decide +kernel
theorem dX0_besideOf_12 : decode cX0_besideOf 12 = .ok (.ifnull 53, 3) := by decide +kernel
theorem dX0_besideOf_15 : decode cX0_besideOf 15 = .ok (.iload 4, 2) := by decide +kernel
theorem dX0_besideOf_17 : decode cX0_besideOf 17 = .ok (.aload_n 0, 1) := by decide +kernel
theorem dX0_besideOf_18 : decode cX0_besideOf 18 = .ok (.getfield 42, 3) := by decide +kernel
theorem dX0_besideOf_21 : decode cX0_besideOf 21 = .ok (.if_icmp .ge 44, 3) := by decide +kernel
theorem dX0_besideOf_24 : decode cX0_besideOf 24 = .ok (.iload 4, 2) := by decide +kernel
theorem dX0_besideOf_26 : decode cX0_besideOf 26 = .ok (.iload_n 1, 1) := by decide +kernel
theorem dX0_besideOf_27 : decode cX0_besideOf 27 = .ok (.if_icmp .eq 32, 3) := by decide +kernel
theorem dX0_besideOf_30 : decode cX0_besideOf 30 = .ok (.aload_n 0, 1) := by decide +kernel
theorem dX0_besideOf_31 : decode cX0_besideOf 31 = .ok (.getfield 17, 3) := by decide +kernel
theorem dX0_besideOf_34 : decode cX0_besideOf 34 = .ok (.iload 4, 2) := by decide +kernel
theorem dX0_besideOf_36 : decode cX0_besideOf 36 = .ok (.aaload, 1) := by decide +kernel
theorem dX0_besideOf_37 : decode cX0_besideOf 37 = .ok (.getfield 137, 3) := by decide +kernel
theorem dX0_besideOf_40 : decode cX0_besideOf 40 = .ok (.aload_n 3, 1) := by decide +kernel
theorem dX0_besideOf_41 : decode cX0_besideOf 41 = .ok (.getfield 137, 3) := by decide +kernel
theorem dX0_besideOf_44 : decode cX0_besideOf 44 = .ok (.isub, 1) := by decide +kernel
theorem dX0_besideOf_45 : decode cX0_besideOf 45 = .ok (.invokestatic 140, 3) := by decide +kernel
theorem dX0_besideOf_48 : decode cX0_besideOf 48 = .ok (.iconst 3, 1) := by decide +kernel
theorem dX0_besideOf_49 : decode cX0_besideOf 49 = .ok (.if_icmp .gt 10, 3) := by decide +kernel
theorem dX0_besideOf_52 : decode cX0_besideOf 52 = .ok (.iload_n 2, 1) := by decide +kernel
theorem dX0_besideOf_53 : decode cX0_besideOf 53 = .ok (.iconst 1, 1) := by decide +kernel
theorem dX0_besideOf_54 : decode cX0_besideOf 54 = .ok (.iload 4, 2) := by decide +kernel
theorem dX0_besideOf_56 : decode cX0_besideOf 56 = .ok (.ishl, 1) := by decide +kernel
theorem dX0_besideOf_57 : decode cX0_besideOf 57 = .ok (.ior, 1) := by decide +kernel
theorem dX0_besideOf_58 : decode cX0_besideOf 58 = .ok (.istore_n 2, 1) := by decide +kernel
theorem dX0_besideOf_59 : decode cX0_besideOf 59 = .ok (.iinc 4 1, 3) := by decide +kernel
theorem dX0_besideOf_62 : decode cX0_besideOf 62 = .ok (.goto (-51), 3) := by decide +kernel
theorem dX0_besideOf_65 : decode cX0_besideOf 65 = .ok (.iload_n 2, 1) := by decide +kernel
theorem dX0_besideOf_66 : decode cX0_besideOf 66 = .ok (.ireturn, 1) := by decide +kernel
theorem dX0_isFree_0 : decode cX0_isFree 0 = .ok (.iconst 0, 1) := by decide +kernel
theorem dX0_isFree_1 : decode cX0_isFree 1 = .ok (.istore_n 3, 1) := by decide +kernel
theorem dX0_isFree_2 : decode cX0_isFree 2 = .ok (.iload_n 3, 1) := by decide +kernel
theorem dX0_isFree_3 : decode cX0_isFree 3 = .ok (.aload_n 0, 1) := by decide +kernel
theorem dX0_isFree_4 : decode cX0_isFree 4 = .ok (.getfield 42, 3) := by decide +kernel
theorem dX0_isFree_7 : decode cX0_isFree 7 = .ok (.if_icmp .ge 29, 3) := by decide +kernel
theorem dX0_isFree_10 : decode cX0_isFree 10 = .ok (.aload_n 0, 1) := by decide +kernel
theorem dX0_isFree_11 : decode cX0_isFree 11 = .ok (.getfield 17, 3) := by decide +kernel
theorem dX0_isFree_14 : decode cX0_isFree 14 = .ok (.iload_n 3, 1) := by decide +kernel
theorem dX0_isFree_15 : decode cX0_isFree 15 = .ok (.aaload, 1) := by decide +kernel
theorem dX0_isFree_16 : decode cX0_isFree 16 = .ok (.getfield 137, 3) := by decide +kernel
theorem dX0_isFree_19 : decode cX0_isFree 19 = .ok (.iload_n 1, 1) := by decide +kernel
theorem dX0_isFree_20 : decode cX0_isFree 20 = .ok (.isub, 1) := by decide +kernel
theorem dX0_isFree_21 : decode cX0_isFree 21 = .ok (.invokestatic 140, 3) := by decide +kernel
theorem dX0_isFree_24 : decode cX0_isFree 24 = .ok (.iload_n 2, 1) := by decide +kernel
theorem dX0_isFree_25 : decode cX0_isFree 25 = .ok (.if_icmp .ge 5, 3) := by decide +kernel
theorem dX0_isFree_28 : decode cX0_isFree 28 = .ok (.iconst 0, 1) := by decide +kernel
theorem dX0_isFree_29 : decode cX0_isFree 29 = .ok (.ireturn, 1) := by decide +kernel
theorem dX0_isFree_30 : decode cX0_isFree 30 = .ok (.iinc 3 1, 3) := by decide +kernel
theorem dX0_isFree_33 : decode cX0_isFree 33 = .ok (.goto (-31), 3) := by decide +kernel
theorem dX0_isFree_36 : decode cX0_isFree 36 = .ok (.iconst 1, 1) := by decide +kernel
theorem dX0_isFree_37 : decode cX0_isFree 37 = .ok (.ireturn, 1) := by decide +kernel
theorem dX0_flawed_0 : decode cX0_flawed 0 = .ok (.iconst 0, 1) := by decide +kernel
theorem dX0_flawed_1 : decode cX0_flawed 1 = .ok (.istore_n 1, 1) := by decide +kernel
theorem dX0_flawed_2 : decode cX0_flawed 2 = .ok (.iconst 0, 1) := by decide +kernel
theorem dX0_flawed_3 : decode cX0_flawed 3 = .ok (.istore_n 2, 1) := by decide +kernel
theorem dX0_flawed_4 : decode cX0_flawed 4 = .ok (.iload_n 2, 1) := by decide +kernel
theorem dX0_flawed_5 : decode cX0_flawed 5 = .ok (.aload_n 0, 1) := by decide +kernel
theorem dX0_flawed_6 : decode cX0_flawed 6 = .ok (.getfield 42, 3) := by decide +kernel
theorem dX0_flawed_9 : decode cX0_flawed 9 = .ok (.if_icmp .ge 27, 3) := by decide +kernel
theorem dX0_flawed_12 : decode cX0_flawed 12 = .ok (.aload_n 0, 1) := by decide +kernel
theorem dX0_flawed_13 : decode cX0_flawed 13 = .ok (.getfield 17, 3) := by decide +kernel
theorem dX0_flawed_16 : decode cX0_flawed 16 = .ok (.iload_n 2, 1) := by decide +kernel
theorem dX0_flawed_17 : decode cX0_flawed 17 = .ok (.aaload, 1) := by decide +kernel
theorem dX0_flawed_18 : decode cX0_flawed 18 = .ok (.getfield 83, 3) := by decide +kernel
theorem dX0_flawed_21 : decode cX0_flawed 21 = .ok (.ifCond .eq 9, 3) := by decide +kernel
theorem dX0_flawed_24 : decode cX0_flawed 24 = .ok (.iload_n 1, 1) := by decide +kernel
theorem dX0_flawed_25 : decode cX0_flawed 25 = .ok (.iconst 1, 1) := by decide +kernel
theorem dX0_flawed_26 : decode cX0_flawed 26 = .ok (.iload_n 2, 1) := by decide +kernel
theorem dX0_flawed_27 : decode cX0_flawed 27 = .ok (.ishl, 1) := by decide +kernel
theorem dX0_flawed_28 : decode cX0_flawed 28 = .ok (.ior, 1) := by decide +kernel
theorem dX0_flawed_29 : decode cX0_flawed 29 = .ok (.istore_n 1, 1) := by decide +kernel
theorem dX0_flawed_30 : decode cX0_flawed 30 = .ok (.iinc 2 1, 3) := by decide +kernel
theorem dX0_flawed_33 : decode cX0_flawed 33 = .ok (.goto (-29), 3) := by decide +kernel
theorem dX0_flawed_36 : decode cX0_flawed 36 = .ok (.iload_n 1, 1) := by decide +kernel
theorem dX0_flawed_37 : decode cX0_flawed 37 = .ok (.ireturn, 1) := by decide +kernel
theorem dX0_countFlaw_0 : decode cX0_countFlaw 0 = .ok (.iconst 0, 1) := by decide +kernel
theorem dX0_countFlaw_1 : decode cX0_countFlaw 1 = .ok (.istore_n 2, 1) := by decide +kernel
theorem dX0_countFlaw_2 : decode cX0_countFlaw 2 = .ok (.iconst 0, 1) := by decide +kernel
theorem dX0_countFlaw_3 : decode cX0_countFlaw 3 = .ok (.istore_n 3, 1) := by decide +kernel
theorem dX0_countFlaw_4 : decode cX0_countFlaw 4 = .ok (.iload_n 3, 1) := by decide +kernel
theorem dX0_countFlaw_5 : decode cX0_countFlaw 5 = .ok (.aload_n 0, 1) := by decide +kernel
theorem dX0_countFlaw_6 : decode cX0_countFlaw 6 = .ok (.getfield 42, 3) := by decide +kernel
theorem dX0_countFlaw_9 : decode cX0_countFlaw 9 = .ok (.if_icmp .ge 25, 3) := by decide +kernel
theorem dX0_countFlaw_12 : decode cX0_countFlaw 12 = .ok (.aload_n 0, 1) := by decide +kernel
theorem dX0_countFlaw_13 : decode cX0_countFlaw 13 = .ok (.getfield 17, 3) := by decide +kernel
theorem dX0_countFlaw_16 : decode cX0_countFlaw 16 = .ok (.iload_n 3, 1) := by decide +kernel
theorem dX0_countFlaw_17 : decode cX0_countFlaw 17 = .ok (.aaload, 1) := by decide +kernel
theorem dX0_countFlaw_18 : decode cX0_countFlaw 18 = .ok (.getfield 83, 3) := by decide +kernel
theorem dX0_countFlaw_21 : decode cX0_countFlaw 21 = .ok (.iload_n 1, 1) := by decide +kernel
theorem dX0_countFlaw_22 : decode cX0_countFlaw 22 = .ok (.if_icmp .ne 6, 3) := by decide +kernel
theorem dX0_countFlaw_25 : decode cX0_countFlaw 25 = .ok (.iinc 2 1, 3) := by decide +kernel
theorem dX0_countFlaw_28 : decode cX0_countFlaw 28 = .ok (.iinc 3 1, 3) := by decide +kernel
theorem dX0_countFlaw_31 : decode cX0_countFlaw 31 = .ok (.goto (-27), 3) := by decide +kernel
theorem dX0_countFlaw_34 : decode cX0_countFlaw 34 = .ok (.iload_n 2, 1) := by decide +kernel
theorem dX0_countFlaw_35 : decode cX0_countFlaw 35 = .ok (.ireturn, 1) := by decide +kernel
theorem dX0_provedBy_0 : decode cX0_provedBy 0 = .ok (.iconst 0, 1) := by decide +kernel
theorem dX0_provedBy_1 : decode cX0_provedBy 1 = .ok (.istore_n 2, 1) := by decide +kernel
theorem dX0_provedBy_2 : decode cX0_provedBy 2 = .ok (.iconst 0, 1) := by decide +kernel
theorem dX0_provedBy_3 : decode cX0_provedBy 3 = .ok (.istore_n 3, 1) := by decide +kernel
theorem dX0_provedBy_4 : decode cX0_provedBy 4 = .ok (.iload_n 3, 1) := by decide +kernel
theorem dX0_provedBy_5 : decode cX0_provedBy 5 = .ok (.aload_n 0, 1) := by decide +kernel
theorem dX0_provedBy_6 : decode cX0_provedBy 6 = .ok (.getfield 42, 3) := by decide +kernel
theorem dX0_provedBy_9 : decode cX0_provedBy 9 = .ok (.if_icmp .ge 45, 3) := by decide +kernel
theorem dX0_provedBy_12 : decode cX0_provedBy 12 = .ok (.aload_n 0, 1) := by decide +kernel
theorem dX0_provedBy_13 : decode cX0_provedBy 13 = .ok (.getfield 17, 3) := by decide +kernel
theorem dX0_provedBy_16 : decode cX0_provedBy 16 = .ok (.iload_n 3, 1) := by decide +kernel
theorem dX0_provedBy_17 : decode cX0_provedBy 17 = .ok (.aaload, 1) := by decide +kernel
theorem dX0_provedBy_18 : decode cX0_provedBy 18 = .ok (.astore 4, 2) := by decide +kernel
theorem dX0_provedBy_20 : decode cX0_provedBy 20 = .ok (.aload 4, 2) := by decide +kernel
theorem dX0_provedBy_22 : decode cX0_provedBy 22 = .ok (.getfield 83, 3) := by decide +kernel
theorem dX0_provedBy_25 : decode cX0_provedBy 25 = .ok (.ifCond .eq 23, 3) := by decide +kernel
theorem dX0_provedBy_28 : decode cX0_provedBy 28 = .ok (.aload_n 0, 1) := by decide +kernel
theorem dX0_provedBy_29 : decode cX0_provedBy 29 = .ok (.aload 4, 2) := by decide +kernel
theorem dX0_provedBy_31 : decode cX0_provedBy 31 = .ok (.iconst 0, 1) := by decide +kernel
theorem dX0_provedBy_32 : decode cX0_provedBy 32 = .ok (.invokevirtual 127, 3) := by decide +kernel
theorem dX0_provedBy_35 : decode cX0_provedBy 35 = .ok (.iload_n 1, 1) := by decide +kernel
theorem dX0_provedBy_36 : decode cX0_provedBy 36 = .ok (.iadd, 1) := by decide +kernel
theorem dX0_provedBy_37 : decode cX0_provedBy 37 = .ok (.bipush 6, 2) := by decide +kernel
theorem dX0_provedBy_39 : decode cX0_provedBy 39 = .ok (.if_icmp .lt 9, 3) := by decide +kernel
theorem dX0_provedBy_42 : decode cX0_provedBy 42 = .ok (.iload_n 2, 1) := by decide +kernel
theorem dX0_provedBy_43 : decode cX0_provedBy 43 = .ok (.iconst 1, 1) := by decide +kernel
theorem dX0_provedBy_44 : decode cX0_provedBy 44 = .ok (.iload_n 3, 1) := by decide +kernel
theorem dX0_provedBy_45 : decode cX0_provedBy 45 = .ok (.ishl, 1) := by decide +kernel
theorem dX0_provedBy_46 : decode cX0_provedBy 46 = .ok (.ior, 1) := by decide +kernel
theorem dX0_provedBy_47 : decode cX0_provedBy 47 = .ok (.istore_n 2, 1) := by decide +kernel
theorem dX0_provedBy_48 : decode cX0_provedBy 48 = .ok (.iinc 3 1, 3) := by decide +kernel
theorem dX0_provedBy_51 : decode cX0_provedBy 51 = .ok (.goto (-47), 3) := by decide +kernel
theorem dX0_provedBy_54 : decode cX0_provedBy 54 = .ok (.iload_n 2, 1) := by decide +kernel
theorem dX0_provedBy_55 : decode cX0_provedBy 55 = .ok (.ireturn, 1) := by decide +kernel
theorem dX0_isAsSeen_0 : decode cX0_isAsSeen 0 = .ok (.iconst 0, 1) := by decide +kernel
theorem dX0_isAsSeen_1 : decode cX0_isAsSeen 1 = .ok (.istore_n 2, 1) := by decide +kernel
theorem dX0_isAsSeen_2 : decode cX0_isAsSeen 2 = .ok (.iload_n 2, 1) := by decide +kernel
theorem dX0_isAsSeen_3 : decode cX0_isAsSeen 3 = .ok (.aload_n 0, 1) := by decide +kernel
theorem dX0_isAsSeen_4 : decode cX0_isAsSeen 4 = .ok (.getfield 33, 3) := by decide +kernel
theorem dX0_isAsSeen_7 : decode cX0_isAsSeen 7 = .ok (.getfield 143, 3) := by decide +kernel
theorem dX0_isAsSeen_10 : decode cX0_isAsSeen 10 = .ok (.if_icmp .ge 47, 3) := by decide +kernel
theorem dX0_isAsSeen_13 : decode cX0_isAsSeen 13 = .ok (.aload_n 0, 1) := by decide +kernel
theorem dX0_isAsSeen_14 : decode cX0_isAsSeen 14 = .ok (.aload_n 0, 1) := by decide +kernel
theorem dX0_isAsSeen_15 : decode cX0_isAsSeen 15 = .ok (.getfield 33, 3) := by decide +kernel
theorem dX0_isAsSeen_18 : decode cX0_isAsSeen 18 = .ok (.iload_n 2, 1) := by decide +kernel
theorem dX0_isAsSeen_19 : decode cX0_isAsSeen 19 = .ok (.iconst 0, 1) := by decide +kernel
theorem dX0_isAsSeen_20 : decode cX0_isAsSeen 20 = .ok (.invokevirtual 144, 3) := by decide +kernel
theorem dX0_isAsSeen_23 : decode cX0_isAsSeen 23 = .ok (.invokevirtual 133, 3) := by decide +kernel
theorem dX0_isAsSeen_26 : decode cX0_isAsSeen 26 = .ok (.astore_n 3, 1) := by decide +kernel
theorem dX0_isAsSeen_27 : decode cX0_isAsSeen 27 = .ok (.aload_n 3, 1) := by decide +kernel
theorem dX0_isAsSeen_28 : decode cX0_isAsSeen 28 = .ok (.ifnull 21, 3) := by decide +kernel
theorem dX0_isAsSeen_31 : decode cX0_isAsSeen 31 = .ok (.aload_n 0, 1) := by decide +kernel
theorem dX0_isAsSeen_32 : decode cX0_isAsSeen 32 = .ok (.aload_n 3, 1) := by decide +kernel
theorem dX0_isAsSeen_33 : decode cX0_isAsSeen 33 = .ok (.iload_n 1, 1) := by decide +kernel
theorem dX0_isAsSeen_34 : decode cX0_isAsSeen 34 = .ok (.invokevirtual 127, 3) := by decide +kernel
theorem dX0_isAsSeen_37 : decode cX0_isAsSeen 37 = .ok (.aload_n 0, 1) := by decide +kernel
theorem dX0_isAsSeen_38 : decode cX0_isAsSeen 38 = .ok (.getfield 33, 3) := by decide +kernel
theorem dX0_isAsSeen_41 : decode cX0_isAsSeen 41 = .ok (.iload_n 2, 1) := by decide +kernel
theorem dX0_isAsSeen_42 : decode cX0_isAsSeen 42 = .ok (.iconst 1, 1) := by decide +kernel
theorem dX0_isAsSeen_43 : decode cX0_isAsSeen 43 = .ok (.invokevirtual 144, 3) := by decide +kernel
theorem dX0_isAsSeen_46 : decode cX0_isAsSeen 46 = .ok (.if_icmp .eq 5, 3) := by decide +kernel
theorem dX0_isAsSeen_49 : decode cX0_isAsSeen 49 = .ok (.iconst 0, 1) := by decide +kernel
theorem dX0_isAsSeen_50 : decode cX0_isAsSeen 50 = .ok (.ireturn, 1) := by decide +kernel
theorem dX0_isAsSeen_51 : decode cX0_isAsSeen 51 = .ok (.iinc 2 1, 3) := by decide +kernel
theorem dX0_isAsSeen_54 : decode cX0_isAsSeen 54 = .ok (.goto (-52), 3) := by decide +kernel
theorem dX0_isAsSeen_57 : decode cX0_isAsSeen 57 = .ok (.iconst 1, 1) := by decide +kernel
theorem dX0_isAsSeen_58 : decode cX0_isAsSeen 58 = .ok (.ireturn, 1) := by decide +kernel
theorem dX1_init_0 : decode cX1_init 0 = .ok (.aload_n 0, 1) := by decide +kernel
theorem dX1_init_1 : decode cX1_init 1 = .ok (.iload_n 1, 1) := by decide +kernel
theorem dX1_init_2 : decode cX1_init 2 = .ok (.iload_n 2, 1) := by decide +kernel
theorem dX1_init_3 : decode cX1_init 3 = .ok (.iload_n 3, 1) := by decide +kernel
theorem dX1_init_4 : decode cX1_init 4 = .ok (.iload 4, 2) := by decide +kernel
theorem dX1_init_6 : decode cX1_init 6 = .ok (.iload 5, 2) := by decide +kernel
theorem dX1_init_8 : decode cX1_init 8 = .ok (.invokespecial 1, 3) := by decide +kernel
theorem dX1_init_11 : decode cX1_init 11 = .ok (.return_, 1) := by decide +kernel
theorem dX1_needs_0 : decode cX1_needs 0 = .ok (.aload_n 0, 1) := by decide +kernel
theorem dX1_needs_1 : decode cX1_needs 1 = .ok (.invokespecial 7, 3) := by decide +kernel
theorem dX1_needs_4 : decode cX1_needs 4 = .ok (.aload_n 0, 1) := by decide +kernel
theorem dX1_needs_5 : decode cX1_needs 5 = .ok (.getfield 11, 3) := by decide +kernel
theorem dX1_needs_8 : decode cX1_needs 8 = .ok (.iconst 1, 1) := by decide +kernel
theorem dX1_needs_9 : decode cX1_needs 9 = .ok (.iadd, 1) := by decide +kernel
theorem dX1_needs_10 : decode cX1_needs 10 = .ok (.imul, 1) := by decide +kernel
theorem dX1_needs_11 : decode cX1_needs 11 = .ok (.ireturn, 1) := by decide +kernel
theorem dX1_strength_0 : decode cX1_strength 0 = .ok (.aload_n 0, 1) := by decide +kernel
theorem dX1_strength_1 : decode cX1_strength 1 = .ok (.iload_n 1, 1) := by decide +kernel
theorem dX1_strength_2 : decode cX1_strength 2 = .ok (.iload_n 2, 1) := by decide +kernel
theorem dX1_strength_3 : decode cX1_strength 3 = .ok (.invokespecial 17, 3) := by decide +kernel
theorem dX1_strength_6 : decode cX1_strength 6 = .ok (.iconst 2, 1) := by decide +kernel
theorem dX1_strength_7 : decode cX1_strength 7 = .ok (.idiv, 1) := by decide +kernel
theorem dX1_strength_8 : decode cX1_strength 8 = .ok (.iconst 1, 1) := by decide +kernel
theorem dX1_strength_9 : decode cX1_strength 9 = .ok (.isub, 1) := by decide +kernel
theorem dX1_strength_10 : decode cX1_strength 10 = .ok (.ireturn, 1) := by decide +kernel
theorem dX1_tells_0 : decode cX1_tells 0 = .ok (.aload_n 2, 1) := by decide +kernel
theorem dX1_tells_1 : decode cX1_tells 1 = .ok (.bipush 41, 2) := by decide +kernel
theorem dX1_tells_3 : decode cX1_tells 3 = .ok (.invokevirtual 21, 3) := by decide +kernel
theorem dX1_tells_6 : decode cX1_tells 6 = .ok (.aload_n 0, 1) := by decide +kernel
theorem dX1_tells_7 : decode cX1_tells 7 = .ok (.iload_n 1, 1) := by decide +kernel
theorem dX1_tells_8 : decode cX1_tells 8 = .ok (.iconst 1, 1) := by decide +kernel
theorem dX1_tells_9 : decode cX1_tells 9 = .ok (.isub, 1) := by decide +kernel
theorem dX1_tells_10 : decode cX1_tells 10 = .ok (.aload_n 2, 1) := by decide +kernel
theorem dX1_tells_11 : decode cX1_tells 11 = .ok (.invokespecial 27, 3) := by decide +kernel
theorem dX1_tells_14 : decode cX1_tells 14 = .ok (.istore_n 3, 1) := by decide +kernel
theorem dX1_tells_15 : decode cX1_tells 15 = .ok (.iload_n 3, 1) := by decide +kernel
theorem dX1_tells_16 : decode cX1_tells 16 = .ok (.aload_n 0, 1) := by decide +kernel
theorem dX1_tells_17 : decode cX1_tells 17 = .ok (.iconst 2, 1) := by decide +kernel
theorem dX1_tells_18 : decode cX1_tells 18 = .ok (.aload_n 2, 1) := by decide +kernel
theorem dX1_tells_19 : decode cX1_tells 19 = .ok (.invokevirtual 31, 3) := by decide +kernel
theorem dX1_tells_22 : decode cX1_tells 22 = .ok (.iadd, 1) := by decide +kernel
theorem dX1_tells_23 : decode cX1_tells 23 = .ok (.ireturn, 1) := by decide +kernel
theorem dX2_init_0 : decode cX2_init 0 = .ok (.aload_n 0, 1) := by decide +kernel
theorem dX2_init_1 : decode cX2_init 1 = .ok (.iload_n 1, 1) := by decide +kernel
theorem dX2_init_2 : decode cX2_init 2 = .ok (.iload_n 2, 1) := by decide +kernel
theorem dX2_init_3 : decode cX2_init 3 = .ok (.iload_n 3, 1) := by decide +kernel
theorem dX2_init_4 : decode cX2_init 4 = .ok (.iload 4, 2) := by decide +kernel
theorem dX2_init_6 : decode cX2_init 6 = .ok (.iload 5, 2) := by decide +kernel
theorem dX2_init_8 : decode cX2_init 8 = .ok (.invokespecial 1, 3) := by decide +kernel
theorem dX2_init_11 : decode cX2_init 11 = .ok (.return_, 1) := by decide +kernel
theorem dX2_needs_0 : decode cX2_needs 0 = .ok (.aload_n 0, 1) := by decide +kernel
theorem dX2_needs_1 : decode cX2_needs 1 = .ok (.invokespecial 7, 3) := by decide +kernel
theorem dX2_needs_4 : decode cX2_needs 4 = .ok (.aload_n 0, 1) := by decide +kernel
theorem dX2_needs_5 : decode cX2_needs 5 = .ok (.getfield 11, 3) := by decide +kernel
theorem dX2_needs_8 : decode cX2_needs 8 = .ok (.iadd, 1) := by decide +kernel
theorem dX2_needs_9 : decode cX2_needs 9 = .ok (.ireturn, 1) := by decide +kernel
theorem dX2_strength_0 : decode cX2_strength 0 = .ok (.iconst 2, 1) := by decide +kernel
theorem dX2_strength_1 : decode cX2_strength 1 = .ok (.aload_n 0, 1) := by decide +kernel
theorem dX2_strength_2 : decode cX2_strength 2 = .ok (.getfield 17, 3) := by decide +kernel
theorem dX2_strength_5 : decode cX2_strength 5 = .ok (.imul, 1) := by decide +kernel
theorem dX2_strength_6 : decode cX2_strength 6 = .ok (.iload_n 2, 1) := by decide +kernel
theorem dX2_strength_7 : decode cX2_strength 7 = .ok (.isub, 1) := by decide +kernel
theorem dX2_strength_8 : decode cX2_strength 8 = .ok (.ireturn, 1) := by decide +kernel
theorem dX2_prints_0 : decode cX2_prints 0 = .ok (.aload_n 2, 1) := by decide +kernel
theorem dX2_prints_1 : decode cX2_prints 1 = .ok (.bipush 21, 2) := by decide +kernel
theorem dX2_prints_3 : decode cX2_prints 3 = .ok (.invokevirtual 20, 3) := by decide +kernel
theorem dX2_prints_6 : decode cX2_prints 6 = .ok (.aload_n 0, 1) := by decide +kernel
theorem dX2_prints_7 : decode cX2_prints 7 = .ok (.iload_n 1, 1) := by decide +kernel
theorem dX2_prints_8 : decode cX2_prints 8 = .ok (.aload_n 2, 1) := by decide +kernel
theorem dX2_prints_9 : decode cX2_prints 9 = .ok (.invokespecial 26, 3) := by decide +kernel
theorem dX2_prints_12 : decode cX2_prints 12 = .ok (.ineg, 1) := by decide +kernel
theorem dX2_prints_13 : decode cX2_prints 13 = .ok (.ireturn, 1) := by decide +kernel
theorem dX3_init_0 : decode cX3_init 0 = .ok (.aload_n 0, 1) := by decide +kernel
theorem dX3_init_1 : decode cX3_init 1 = .ok (.iload_n 1, 1) := by decide +kernel
theorem dX3_init_2 : decode cX3_init 2 = .ok (.iload_n 2, 1) := by decide +kernel
theorem dX3_init_3 : decode cX3_init 3 = .ok (.iload_n 3, 1) := by decide +kernel
theorem dX3_init_4 : decode cX3_init 4 = .ok (.iload 4, 2) := by decide +kernel
theorem dX3_init_6 : decode cX3_init 6 = .ok (.iload 5, 2) := by decide +kernel
theorem dX3_init_8 : decode cX3_init 8 = .ok (.invokespecial 1, 3) := by decide +kernel
theorem dX3_init_11 : decode cX3_init 11 = .ok (.return_, 1) := by decide +kernel
theorem dX3_needs_0 : decode cX3_needs 0 = .ok (.iconst 2, 1) := by decide +kernel
theorem dX3_needs_1 : decode cX3_needs 1 = .ok (.aload_n 0, 1) := by decide +kernel
theorem dX3_needs_2 : decode cX3_needs 2 = .ok (.getfield 7, 3) := by decide +kernel
theorem dX3_needs_5 : decode cX3_needs 5 = .ok (.imul, 1) := by decide +kernel
theorem dX3_needs_6 : decode cX3_needs 6 = .ok (.ireturn, 1) := by decide +kernel
theorem dX3_strength_0 : decode cX3_strength 0 = .ok (.aload_n 0, 1) := by decide +kernel
theorem dX3_strength_1 : decode cX3_strength 1 = .ok (.iload_n 1, 1) := by decide +kernel
theorem dX3_strength_2 : decode cX3_strength 2 = .ok (.iload_n 2, 1) := by decide +kernel
theorem dX3_strength_3 : decode cX3_strength 3 = .ok (.invokespecial 13, 3) := by decide +kernel
theorem dX3_strength_6 : decode cX3_strength 6 = .ok (.iconst 1, 1) := by decide +kernel
theorem dX3_strength_7 : decode cX3_strength 7 = .ok (.iadd, 1) := by decide +kernel
theorem dX3_strength_8 : decode cX3_strength 8 = .ok (.ireturn, 1) := by decide +kernel
theorem dX3_cuts_0 : decode cX3_cuts 0 = .ok (.aload_n 2, 1) := by decide +kernel
theorem dX3_cuts_1 : decode cX3_cuts 1 = .ok (.bipush 11, 2) := by decide +kernel
theorem dX3_cuts_3 : decode cX3_cuts 3 = .ok (.invokevirtual 17, 3) := by decide +kernel
theorem dX3_cuts_6 : decode cX3_cuts 6 = .ok (.aload_n 0, 1) := by decide +kernel
theorem dX3_cuts_7 : decode cX3_cuts 7 = .ok (.iload_n 1, 1) := by decide +kernel
theorem dX3_cuts_8 : decode cX3_cuts 8 = .ok (.iconst 3, 1) := by decide +kernel
theorem dX3_cuts_9 : decode cX3_cuts 9 = .ok (.imul, 1) := by decide +kernel
theorem dX3_cuts_10 : decode cX3_cuts 10 = .ok (.aload_n 2, 1) := by decide +kernel
theorem dX3_cuts_11 : decode cX3_cuts 11 = .ok (.invokespecial 23, 3) := by decide +kernel
theorem dX3_cuts_14 : decode cX3_cuts 14 = .ok (.ireturn, 1) := by decide +kernel
theorem dX4_init_0 : decode cX4_init 0 = .ok (.aload_n 0, 1) := by decide +kernel
theorem dX4_init_1 : decode cX4_init 1 = .ok (.invokespecial 1, 3) := by decide +kernel
theorem dX4_init_4 : decode cX4_init 4 = .ok (.aload_n 0, 1) := by decide +kernel
theorem dX4_init_5 : decode cX4_init 5 = .ok (.iload_n 1, 1) := by decide +kernel
theorem dX4_init_6 : decode cX4_init 6 = .ok (.putfield 7, 3) := by decide +kernel
theorem dX4_init_9 : decode cX4_init 9 = .ok (.aload_n 0, 1) := by decide +kernel
theorem dX4_init_10 : decode cX4_init 10 = .ok (.iload_n 2, 1) := by decide +kernel
theorem dX4_init_11 : decode cX4_init 11 = .ok (.putfield 13, 3) := by decide +kernel
theorem dX4_init_14 : decode cX4_init 14 = .ok (.aload_n 0, 1) := by decide +kernel
theorem dX4_init_15 : decode cX4_init 15 = .ok (.iload_n 3, 1) := by decide +kernel
theorem dX4_init_16 : decode cX4_init 16 = .ok (.putfield 16, 3) := by decide +kernel
theorem dX4_init_19 : decode cX4_init 19 = .ok (.aload_n 0, 1) := by decide +kernel
theorem dX4_init_20 : decode cX4_init 20 = .ok (.iload 4, 2) := by decide +kernel
theorem dX4_init_22 : decode cX4_init 22 = .ok (.putfield 19, 3) := by decide +kernel
theorem dX4_init_25 : decode cX4_init 25 = .ok (.aload_n 0, 1) := by decide +kernel
theorem dX4_init_26 : decode cX4_init 26 = .ok (.iload 5, 2) := by decide +kernel
theorem dX4_init_28 : decode cX4_init 28 = .ok (.putfield 22, 3) := by decide +kernel
theorem dX4_init_31 : decode cX4_init 31 = .ok (.return_, 1) := by decide +kernel
theorem dX4_copyFrom_0 : decode cX4_copyFrom 0 = .ok (.aload_n 0, 1) := by decide +kernel
theorem dX4_copyFrom_1 : decode cX4_copyFrom 1 = .ok (.aload_n 1, 1) := by decide +kernel
theorem dX4_copyFrom_2 : decode cX4_copyFrom 2 = .ok (.getfield 22, 3) := by decide +kernel
theorem dX4_copyFrom_5 : decode cX4_copyFrom 5 = .ok (.putfield 22, 3) := by decide +kernel
theorem dX4_copyFrom_8 : decode cX4_copyFrom 8 = .ok (.aload_n 0, 1) := by decide +kernel
theorem dX4_copyFrom_9 : decode cX4_copyFrom 9 = .ok (.aload_n 1, 1) := by decide +kernel
theorem dX4_copyFrom_10 : decode cX4_copyFrom 10 = .ok (.getfield 25, 3) := by decide +kernel
theorem dX4_copyFrom_13 : decode cX4_copyFrom 13 = .ok (.putfield 25, 3) := by decide +kernel
theorem dX4_copyFrom_16 : decode cX4_copyFrom 16 = .ok (.aload_n 0, 1) := by decide +kernel
theorem dX4_copyFrom_17 : decode cX4_copyFrom 17 = .ok (.aload_n 1, 1) := by decide +kernel
theorem dX4_copyFrom_18 : decode cX4_copyFrom 18 = .ok (.getfield 29, 3) := by decide +kernel
theorem dX4_copyFrom_21 : decode cX4_copyFrom 21 = .ok (.putfield 29, 3) := by decide +kernel
theorem dX4_copyFrom_24 : decode cX4_copyFrom 24 = .ok (.aload_n 0, 1) := by decide +kernel
theorem dX4_copyFrom_25 : decode cX4_copyFrom 25 = .ok (.aload_n 1, 1) := by decide +kernel
theorem dX4_copyFrom_26 : decode cX4_copyFrom 26 = .ok (.getfield 32, 3) := by decide +kernel
theorem dX4_copyFrom_29 : decode cX4_copyFrom 29 = .ok (.putfield 32, 3) := by decide +kernel
theorem dX4_copyFrom_32 : decode cX4_copyFrom 32 = .ok (.aload_n 0, 1) := by decide +kernel
theorem dX4_copyFrom_33 : decode cX4_copyFrom 33 = .ok (.aload_n 1, 1) := by decide +kernel
theorem dX4_copyFrom_34 : decode cX4_copyFrom 34 = .ok (.getfield 35, 3) := by decide +kernel
theorem dX4_copyFrom_37 : decode cX4_copyFrom 37 = .ok (.putfield 35, 3) := by decide +kernel
theorem dX4_copyFrom_40 : decode cX4_copyFrom 40 = .ok (.return_, 1) := by decide +kernel
theorem dX4_needs_0 : decode cX4_needs 0 = .ok (.iconst 3, 1) := by decide +kernel
theorem dX4_needs_1 : decode cX4_needs 1 = .ok (.aload_n 0, 1) := by decide +kernel
theorem dX4_needs_2 : decode cX4_needs 2 = .ok (.getfield 22, 3) := by decide +kernel
theorem dX4_needs_5 : decode cX4_needs 5 = .ok (.imul, 1) := by decide +kernel
theorem dX4_needs_6 : decode cX4_needs 6 = .ok (.ireturn, 1) := by decide +kernel
theorem dX4_tiredBehindCut_0 : decode cX4_tiredBehindCut 0 = .ok (.iload_n 1, 1) := by decide +kernel
theorem dX4_tiredBehindCut_1 : decode cX4_tiredBehindCut 1 = .ok (.aload_n 0, 1) := by decide +kernel
theorem dX4_tiredBehindCut_2 : decode cX4_tiredBehindCut 2 = .ok (.invokevirtual 38, 3) := by decide +kernel
theorem dX4_tiredBehindCut_5 : decode cX4_tiredBehindCut 5 = .ok (.iconst 2, 1) := by decide +kernel
theorem dX4_tiredBehindCut_6 : decode cX4_tiredBehindCut 6 = .ok (.idiv, 1) := by decide +kernel
theorem dX4_tiredBehindCut_7 : decode cX4_tiredBehindCut 7 = .ok (.invokestatic 42, 3) := by decide +kernel
theorem dX4_tiredBehindCut_10 : decode cX4_tiredBehindCut 10 = .ok (.ireturn, 1) := by decide +kernel
theorem dX4_flawBy_0 : decode cX4_flawBy 0 = .ok (.iconst 1, 1) := by decide +kernel
theorem dX4_flawBy_1 : decode cX4_flawBy 1 = .ok (.iload_n 1, 1) := by decide +kernel
theorem dX4_flawBy_2 : decode cX4_flawBy 2 = .ok (.iconst 3, 1) := by decide +kernel
theorem dX4_flawBy_3 : decode cX4_flawBy 3 = .ok (.invokestatic 48, 3) := by decide +kernel
theorem dX4_flawBy_6 : decode cX4_flawBy 6 = .ok (.iadd, 1) := by decide +kernel
theorem dX4_flawBy_7 : decode cX4_flawBy 7 = .ok (.ireturn, 1) := by decide +kernel
theorem dX4_darkWorn_0 : decode cX4_darkWorn 0 = .ok (.aload_n 0, 1) := by decide +kernel
theorem dX4_darkWorn_1 : decode cX4_darkWorn 1 = .ok (.getfield 25, 3) := by decide +kernel
theorem dX4_darkWorn_4 : decode cX4_darkWorn 4 = .ok (.ifCond .ne 5, 3) := by decide +kernel
theorem dX4_darkWorn_7 : decode cX4_darkWorn 7 = .ok (.iconst 0, 1) := by decide +kernel
theorem dX4_darkWorn_8 : decode cX4_darkWorn 8 = .ok (.ireturn, 1) := by decide +kernel
theorem dX4_darkWorn_9 : decode cX4_darkWorn 9 = .ok (.aload_n 0, 1) := by decide +kernel
theorem dX4_darkWorn_10 : decode cX4_darkWorn 10 = .ok (.getfield 35, 3) := by decide +kernel
theorem dX4_darkWorn_13 : decode cX4_darkWorn 13 = .ok (.iload_n 2, 1) := by decide +kernel
theorem dX4_darkWorn_14 : decode cX4_darkWorn 14 = .ok (.ifCond .le 9, 3) := by decide +kernel
theorem dX4_darkWorn_17 : decode cX4_darkWorn 17 = .ok (.iload_n 1, 1) := by decide +kernel
theorem dX4_darkWorn_18 : decode cX4_darkWorn 18 = .ok (.iload_n 2, 1) := by decide +kernel
theorem dX4_darkWorn_19 : decode cX4_darkWorn 19 = .ok (.idiv, 1) := by decide +kernel
theorem dX4_darkWorn_20 : decode cX4_darkWorn 20 = .ok (.goto 4, 3) := by decide +kernel
theorem dX4_darkWorn_23 : decode cX4_darkWorn 23 = .ok (.iload_n 1, 1) := by decide +kernel
theorem dX4_darkWorn_24 : decode cX4_darkWorn 24 = .ok (.iadd, 1) := by decide +kernel
theorem dX4_darkWorn_25 : decode cX4_darkWorn 25 = .ok (.istore_n 3, 1) := by decide +kernel
theorem dX4_darkWorn_26 : decode cX4_darkWorn 26 = .ok (.aload_n 0, 1) := by decide +kernel
theorem dX4_darkWorn_27 : decode cX4_darkWorn 27 = .ok (.getfield 29, 3) := by decide +kernel
theorem dX4_darkWorn_30 : decode cX4_darkWorn 30 = .ok (.iconst 3, 1) := by decide +kernel
theorem dX4_darkWorn_31 : decode cX4_darkWorn 31 = .ok (.if_icmp .ne 7, 3) := by decide +kernel
theorem dX4_darkWorn_34 : decode cX4_darkWorn 34 = .ok (.iconst 2, 1) := by decide +kernel
theorem dX4_darkWorn_35 : decode cX4_darkWorn 35 = .ok (.goto 4, 3) := by decide +kernel
theorem dX4_darkWorn_38 : decode cX4_darkWorn 38 = .ok (.iconst 0, 1) := by decide +kernel
theorem dX4_darkWorn_39 : decode cX4_darkWorn 39 = .ok (.istore 4, 2) := by decide +kernel
theorem dX4_darkWorn_41 : decode cX4_darkWorn 41 = .ok (.iconst 0, 1) := by decide +kernel
theorem dX4_darkWorn_42 : decode cX4_darkWorn 42 = .ok (.aload_n 0, 1) := by decide +kernel
theorem dX4_darkWorn_43 : decode cX4_darkWorn 43 = .ok (.iload_n 1, 1) := by decide +kernel
theorem dX4_darkWorn_44 : decode cX4_darkWorn 44 = .ok (.iload_n 3, 1) := by decide +kernel
theorem dX4_darkWorn_45 : decode cX4_darkWorn 45 = .ok (.invokevirtual 53, 3) := by decide +kernel
theorem dX4_darkWorn_48 : decode cX4_darkWorn 48 = .ok (.iload 4, 2) := by decide +kernel
theorem dX4_darkWorn_50 : decode cX4_darkWorn 50 = .ok (.isub, 1) := by decide +kernel
theorem dX4_darkWorn_51 : decode cX4_darkWorn 51 = .ok (.invokestatic 56, 3) := by decide +kernel
theorem dX4_darkWorn_54 : decode cX4_darkWorn 54 = .ok (.ireturn, 1) := by decide +kernel
theorem dX4_strength_0 : decode cX4_strength 0 = .ok (.aload_n 0, 1) := by decide +kernel
theorem dX4_strength_1 : decode cX4_strength 1 = .ok (.getfield 22, 3) := by decide +kernel
theorem dX4_strength_4 : decode cX4_strength 4 = .ok (.iload_n 2, 1) := by decide +kernel
theorem dX4_strength_5 : decode cX4_strength 5 = .ok (.isub, 1) := by decide +kernel
theorem dX4_strength_6 : decode cX4_strength 6 = .ok (.ireturn, 1) := by decide +kernel
theorem dX4_cuts_0 : decode cX4_cuts 0 = .ok (.aload_n 2, 1) := by decide +kernel
theorem dX4_cuts_1 : decode cX4_cuts 1 = .ok (.iconst 1, 1) := by decide +kernel
theorem dX4_cuts_2 : decode cX4_cuts 2 = .ok (.invokevirtual 59, 3) := by decide +kernel
theorem dX4_cuts_5 : decode cX4_cuts 5 = .ok (.iload_n 1, 1) := by decide +kernel
theorem dX4_cuts_6 : decode cX4_cuts 6 = .ok (.aload_n 0, 1) := by decide +kernel
theorem dX4_cuts_7 : decode cX4_cuts 7 = .ok (.getfield 13, 3) := by decide +kernel
theorem dX4_cuts_10 : decode cX4_cuts 10 = .ok (.iadd, 1) := by decide +kernel
theorem dX4_cuts_11 : decode cX4_cuts 11 = .ok (.ireturn, 1) := by decide +kernel
theorem dX4_prints_0 : decode cX4_prints 0 = .ok (.aload_n 2, 1) := by decide +kernel
theorem dX4_prints_1 : decode cX4_prints 1 = .ok (.iconst 2, 1) := by decide +kernel
theorem dX4_prints_2 : decode cX4_prints 2 = .ok (.invokevirtual 59, 3) := by decide +kernel
theorem dX4_prints_5 : decode cX4_prints 5 = .ok (.aload_n 0, 1) := by decide +kernel
theorem dX4_prints_6 : decode cX4_prints 6 = .ok (.iload_n 1, 1) := by decide +kernel
theorem dX4_prints_7 : decode cX4_prints 7 = .ok (.aload_n 2, 1) := by decide +kernel
theorem dX4_prints_8 : decode cX4_prints 8 = .ok (.invokevirtual 65, 3) := by decide +kernel
theorem dX4_prints_11 : decode cX4_prints 11 = .ok (.aload_n 0, 1) := by decide +kernel
theorem dX4_prints_12 : decode cX4_prints 12 = .ok (.getfield 16, 3) := by decide +kernel
theorem dX4_prints_15 : decode cX4_prints 15 = .ok (.isub, 1) := by decide +kernel
theorem dX4_prints_16 : decode cX4_prints 16 = .ok (.ireturn, 1) := by decide +kernel
theorem dX4_tells_0 : decode cX4_tells 0 = .ok (.aload_n 2, 1) := by decide +kernel
theorem dX4_tells_1 : decode cX4_tells 1 = .ok (.iconst 3, 1) := by decide +kernel
theorem dX4_tells_2 : decode cX4_tells 2 = .ok (.invokevirtual 59, 3) := by decide +kernel
theorem dX4_tells_5 : decode cX4_tells 5 = .ok (.aload_n 0, 1) := by decide +kernel
theorem dX4_tells_6 : decode cX4_tells 6 = .ok (.iload_n 1, 1) := by decide +kernel
theorem dX4_tells_7 : decode cX4_tells 7 = .ok (.aload_n 2, 1) := by decide +kernel
theorem dX4_tells_8 : decode cX4_tells 8 = .ok (.invokevirtual 69, 3) := by decide +kernel
theorem dX4_tells_11 : decode cX4_tells 11 = .ok (.iconst 2, 1) := by decide +kernel
theorem dX4_tells_12 : decode cX4_tells 12 = .ok (.imul, 1) := by decide +kernel
theorem dX4_tells_13 : decode cX4_tells 13 = .ok (.ireturn, 1) := by decide +kernel
theorem dX5_init_0 : decode cX5_init 0 = .ok (.aload_n 0, 1) := by decide +kernel
theorem dX5_init_1 : decode cX5_init 1 = .ok (.iload_n 1, 1) := by decide +kernel
theorem dX5_init_2 : decode cX5_init 2 = .ok (.iload_n 2, 1) := by decide +kernel
theorem dX5_init_3 : decode cX5_init 3 = .ok (.iload_n 3, 1) := by decide +kernel
theorem dX5_init_4 : decode cX5_init 4 = .ok (.iload 4, 2) := by decide +kernel
theorem dX5_init_6 : decode cX5_init 6 = .ok (.iload 5, 2) := by decide +kernel
theorem dX5_init_8 : decode cX5_init 8 = .ok (.invokespecial 1, 3) := by decide +kernel
theorem dX5_init_11 : decode cX5_init 11 = .ok (.return_, 1) := by decide +kernel
theorem dX5_needs_0 : decode cX5_needs 0 = .ok (.aload_n 0, 1) := by decide +kernel
theorem dX5_needs_1 : decode cX5_needs 1 = .ok (.invokespecial 7, 3) := by decide +kernel
theorem dX5_needs_4 : decode cX5_needs 4 = .ok (.iconst 4, 1) := by decide +kernel
theorem dX5_needs_5 : decode cX5_needs 5 = .ok (.iadd, 1) := by decide +kernel
theorem dX5_needs_6 : decode cX5_needs 6 = .ok (.ireturn, 1) := by decide +kernel
theorem dX5_tells_0 : decode cX5_tells 0 = .ok (.aload_n 2, 1) := by decide +kernel
theorem dX5_tells_1 : decode cX5_tells 1 = .ok (.bipush 31, 2) := by decide +kernel
theorem dX5_tells_3 : decode cX5_tells 3 = .ok (.invokevirtual 11, 3) := by decide +kernel
theorem dX5_tells_6 : decode cX5_tells 6 = .ok (.aload_n 0, 1) := by decide +kernel
theorem dX5_tells_7 : decode cX5_tells 7 = .ok (.iload_n 1, 1) := by decide +kernel
theorem dX5_tells_8 : decode cX5_tells 8 = .ok (.aload_n 2, 1) := by decide +kernel
theorem dX5_tells_9 : decode cX5_tells 9 = .ok (.invokespecial 17, 3) := by decide +kernel
theorem dX5_tells_12 : decode cX5_tells 12 = .ok (.bipush 7, 2) := by decide +kernel
theorem dX5_tells_14 : decode cX5_tells 14 = .ok (.ixor, 1) := by decide +kernel
theorem dX5_tells_15 : decode cX5_tells 15 = .ok (.ireturn, 1) := by decide +kernel
theorem dX6_init_0 : decode cX6_init 0 = .ok (.aload_n 0, 1) := by decide +kernel
theorem dX6_init_1 : decode cX6_init 1 = .ok (.invokespecial 3, 3) := by decide +kernel
theorem dX6_init_4 : decode cX6_init 4 = .ok (.aload_n 0, 1) := by decide +kernel
theorem dX6_init_5 : decode cX6_init 5 = .ok (.bipush 10, 2) := by decide +kernel
theorem dX6_init_7 : decode cX6_init 7 = .ok (.newarray .int, 2) := by decide +kernel
theorem dX6_init_9 : decode cX6_init 9 = .ok (.putfield 11, 3) := by decide +kernel
theorem dX6_init_12 : decode cX6_init 12 = .ok (.aload_n 0, 1) := by decide +kernel
theorem dX6_init_13 : decode cX6_init 13 = .ok (.bipush 10, 2) := by decide +kernel
theorem dX6_init_15 : decode cX6_init 15 = .ok (.newarray .int, 2) := by decide +kernel
theorem dX6_init_17 : decode cX6_init 17 = .ok (.putfield 15, 3) := by decide +kernel
theorem dX6_init_20 : decode cX6_init 20 = .ok (.aload_n 0, 1) := by decide +kernel
theorem dX6_init_21 : decode cX6_init 21 = .ok (.bipush 10, 2) := by decide +kernel
theorem dX6_init_23 : decode cX6_init 23 = .ok (.newarray .int, 2) := by decide +kernel
theorem dX6_init_25 : decode cX6_init 25 = .ok (.putfield 18, 3) := by decide +kernel
theorem dX6_init_28 : decode cX6_init 28 = .ok (.aload_n 0, 1) := by decide +kernel
theorem dX6_init_29 : decode cX6_init 29 = .ok (.bipush 100, 2) := by decide +kernel
theorem dX6_init_31 : decode cX6_init 31 = .ok (.newarray .int, 2) := by decide +kernel
theorem dX6_init_33 : decode cX6_init 33 = .ok (.putfield 21, 3) := by decide +kernel
theorem dX6_init_36 : decode cX6_init 36 = .ok (.aload_n 0, 1) := by decide +kernel
theorem dX6_init_37 : decode cX6_init 37 = .ok (.iconst 0, 1) := by decide +kernel
theorem dX6_init_38 : decode cX6_init 38 = .ok (.newarray .int, 2) := by decide +kernel
theorem dX6_init_40 : decode cX6_init 40 = .ok (.putfield 24, 3) := by decide +kernel
theorem dX6_init_43 : decode cX6_init 43 = .ok (.aload_n 0, 1) := by decide +kernel
theorem dX6_init_44 : decode cX6_init 44 = .ok (.bipush 20, 2) := by decide +kernel
theorem dX6_init_46 : decode cX6_init 46 = .ok (.putfield 27, 3) := by decide +kernel
theorem dX6_init_49 : decode cX6_init 49 = .ok (.aload_n 0, 1) := by decide +kernel
theorem dX6_init_50 : decode cX6_init 50 = .ok (.bipush 8, 2) := by decide +kernel
theorem dX6_init_52 : decode cX6_init 52 = .ok (.putfield 31, 3) := by decide +kernel
theorem dX6_init_55 : decode cX6_init 55 = .ok (.return_, 1) := by decide +kernel
theorem dX6_readTape_0 : decode cX6_readTape 0 = .ok (.aload_n 0, 1) := by decide +kernel
theorem dX6_readTape_1 : decode cX6_readTape 1 = .ok (.aload_n 1, 1) := by decide +kernel
theorem dX6_readTape_2 : decode cX6_readTape 2 = .ok (.putfield 24, 3) := by decide +kernel
theorem dX6_readTape_5 : decode cX6_readTape 5 = .ok (.aload_n 0, 1) := by decide +kernel
theorem dX6_readTape_6 : decode cX6_readTape 6 = .ok (.iload_n 2, 1) := by decide +kernel
theorem dX6_readTape_7 : decode cX6_readTape 7 = .ok (.aload_n 1, 1) := by decide +kernel
theorem dX6_readTape_8 : decode cX6_readTape 8 = .ok (.arraylength, 1) := by decide +kernel
theorem dX6_readTape_9 : decode cX6_readTape 9 = .ok (.invokestatic 34, 3) := by decide +kernel
theorem dX6_readTape_12 : decode cX6_readTape 12 = .ok (.putfield 40, 3) := by decide +kernel
theorem dX6_readTape_15 : decode cX6_readTape 15 = .ok (.aload_n 0, 1) := by decide +kernel
theorem dX6_readTape_16 : decode cX6_readTape 16 = .ok (.iconst 0, 1) := by decide +kernel
theorem dX6_readTape_17 : decode cX6_readTape 17 = .ok (.putfield 43, 3) := by decide +kernel
theorem dX6_readTape_20 : decode cX6_readTape 20 = .ok (.aload_n 0, 1) := by decide +kernel
theorem dX6_readTape_21 : decode cX6_readTape 21 = .ok (.iconst 0, 1) := by decide +kernel
theorem dX6_readTape_22 : decode cX6_readTape 22 = .ok (.putfield 46, 3) := by decide +kernel
theorem dX6_readTape_25 : decode cX6_readTape 25 = .ok (.aload_n 0, 1) := by decide +kernel
theorem dX6_readTape_26 : decode cX6_readTape 26 = .ok (.iconst 0, 1) := by decide +kernel
theorem dX6_readTape_27 : decode cX6_readTape 27 = .ok (.putfield 49, 3) := by decide +kernel
theorem dX6_readTape_30 : decode cX6_readTape 30 = .ok (.aload_n 0, 1) := by decide +kernel
theorem dX6_readTape_31 : decode cX6_readTape 31 = .ok (.bipush 20, 2) := by decide +kernel
theorem dX6_readTape_33 : decode cX6_readTape 33 = .ok (.putfield 27, 3) := by decide +kernel
theorem dX6_readTape_36 : decode cX6_readTape 36 = .ok (.aload_n 0, 1) := by decide +kernel
theorem dX6_readTape_37 : decode cX6_readTape 37 = .ok (.bipush 8, 2) := by decide +kernel
theorem dX6_readTape_39 : decode cX6_readTape 39 = .ok (.putfield 31, 3) := by decide +kernel
theorem dX6_readTape_42 : decode cX6_readTape 42 = .ok (.iconst 1, 1) := by decide +kernel
theorem dX6_readTape_43 : decode cX6_readTape 43 = .ok (.istore_n 3, 1) := by decide +kernel
theorem dX6_readTape_44 : decode cX6_readTape 44 = .ok (.iload_n 3, 1) := by decide +kernel
theorem dX6_readTape_45 : decode cX6_readTape 45 = .ok (.bipush 10, 2) := by decide +kernel
theorem dX6_readTape_47 : decode cX6_readTape 47 = .ok (.if_icmp .gt 54, 3) := by decide +kernel
theorem dX6_readTape_50 : decode cX6_readTape 50 = .ok (.aload_n 0, 1) := by decide +kernel
theorem dX6_readTape_51 : decode cX6_readTape 51 = .ok (.invokevirtual 52, 3) := by decide +kernel
theorem dX6_readTape_54 : decode cX6_readTape 54 = .ok (.ifCond .ne 8, 3) := by decide +kernel
theorem dX6_readTape_57 : decode cX6_readTape 57 = .ok (.aload_n 0, 1) := by decide +kernel
theorem dX6_readTape_58 : decode cX6_readTape 58 = .ok (.getfield 43, 3) := by decide +kernel
theorem dX6_readTape_61 : decode cX6_readTape 61 = .ok (.ireturn, 1) := by decide +kernel
theorem dX6_readTape_62 : decode cX6_readTape 62 = .ok (.aload_n 0, 1) := by decide +kernel
theorem dX6_readTape_63 : decode cX6_readTape 63 = .ok (.getfield 43, 3) := by decide +kernel
theorem dX6_readTape_66 : decode cX6_readTape 66 = .ok (.aload_n 0, 1) := by decide +kernel
theorem dX6_readTape_67 : decode cX6_readTape 67 = .ok (.getfield 40, 3) := by decide +kernel
theorem dX6_readTape_70 : decode cX6_readTape 70 = .ok (.if_icmp .lt 5, 3) := by decide +kernel
theorem dX6_readTape_73 : decode cX6_readTape 73 = .ok (.iconst (-1), 1) := by decide +kernel
theorem dX6_readTape_74 : decode cX6_readTape 74 = .ok (.ireturn, 1) := by decide +kernel
theorem dX6_readTape_75 : decode cX6_readTape 75 = .ok (.iload_n 3, 1) := by decide +kernel
theorem dX6_readTape_76 : decode cX6_readTape 76 = .ok (.bipush 10, 2) := by decide +kernel
theorem dX6_readTape_78 : decode cX6_readTape 78 = .ok (.if_icmp .eq 12, 3) := by decide +kernel
theorem dX6_readTape_81 : decode cX6_readTape 81 = .ok (.aload_n 0, 1) := by decide +kernel
theorem dX6_readTape_82 : decode cX6_readTape 82 = .ok (.bipush 59, 2) := by decide +kernel
theorem dX6_readTape_84 : decode cX6_readTape 84 = .ok (.invokevirtual 56, 3) := by decide +kernel
theorem dX6_readTape_87 : decode cX6_readTape 87 = .ok (.ifCond .ne 8, 3) := by decide +kernel
theorem dX6_readTape_90 : decode cX6_readTape 90 = .ok (.aload_n 0, 1) := by decide +kernel
theorem dX6_readTape_91 : decode cX6_readTape 91 = .ok (.getfield 43, 3) := by decide +kernel
theorem dX6_readTape_94 : decode cX6_readTape 94 = .ok (.ireturn, 1) := by decide +kernel
theorem dX6_readTape_95 : decode cX6_readTape 95 = .ok (.iinc 3 1, 3) := by decide +kernel
theorem dX6_readTape_98 : decode cX6_readTape 98 = .ok (.goto (-54), 3) := by decide +kernel
theorem dX6_readTape_101 : decode cX6_readTape 101 = .ok (.aload_n 0, 1) := by decide +kernel
theorem dX6_readTape_102 : decode cX6_readTape 102 = .ok (.getfield 43, 3) := by decide +kernel
theorem dX6_readTape_105 : decode cX6_readTape 105 = .ok (.ireturn, 1) := by decide +kernel
theorem dX6_readClause_0 : decode cX6_readClause 0 = .ok (.aload_n 0, 1) := by decide +kernel
theorem dX6_readClause_1 : decode cX6_readClause 1 = .ok (.invokevirtual 60, 3) := by decide +kernel
theorem dX6_readClause_4 : decode cX6_readClause 4 = .ok (.istore_n 1, 1) := by decide +kernel
theorem dX6_readClause_5 : decode cX6_readClause 5 = .ok (.iload_n 1, 1) := by decide +kernel
theorem dX6_readClause_6 : decode cX6_readClause 6 = .ok (.ifCond .lt 12, 3) := by decide +kernel
theorem dX6_readClause_9 : decode cX6_readClause 9 = .ok (.aload_n 0, 1) := by decide +kernel
theorem dX6_readClause_10 : decode cX6_readClause 10 = .ok (.bipush 32, 2) := by decide +kernel
theorem dX6_readClause_12 : decode cX6_readClause 12 = .ok (.invokevirtual 56, 3) := by decide +kernel
theorem dX6_readClause_15 : decode cX6_readClause 15 = .ok (.ifCond .ne 5, 3) := by decide +kernel
theorem dX6_readClause_18 : decode cX6_readClause 18 = .ok (.iconst 0, 1) := by decide +kernel
theorem dX6_readClause_19 : decode cX6_readClause 19 = .ok (.ireturn, 1) := by decide +kernel
theorem dX6_readClause_20 : decode cX6_readClause 20 = .ok (.aload_n 0, 1) := by decide +kernel
theorem dX6_readClause_21 : decode cX6_readClause 21 = .ok (.invokevirtual 64, 3) := by decide +kernel
theorem dX6_readClause_24 : decode cX6_readClause 24 = .ok (.istore_n 2, 1) := by decide +kernel
theorem dX6_readClause_25 : decode cX6_readClause 25 = .ok (.iload_n 2, 1) := by decide +kernel
theorem dX6_readClause_26 : decode cX6_readClause 26 = .ok (.ifCond .lt 12, 3) := by decide +kernel
theorem dX6_readClause_29 : decode cX6_readClause 29 = .ok (.aload_n 0, 1) := by decide +kernel
theorem dX6_readClause_30 : decode cX6_readClause 30 = .ok (.getfield 46, 3) := by decide +kernel
theorem dX6_readClause_33 : decode cX6_readClause 33 = .ok (.bipush 10, 2) := by decide +kernel
theorem dX6_readClause_35 : decode cX6_readClause 35 = .ok (.if_icmp .lt 5, 3) := by decide +kernel
theorem dX6_readClause_38 : decode cX6_readClause 38 = .ok (.iconst 0, 1) := by decide +kernel
theorem dX6_readClause_39 : decode cX6_readClause 39 = .ok (.ireturn, 1) := by decide +kernel
theorem dX6_readClause_40 : decode cX6_readClause 40 = .ok (.iload_n 1, 1) := by decide +kernel
theorem dX6_readClause_41 : decode cX6_readClause 41 = .ok (.ifCond .ne 15, 3) := by decide +kernel
theorem dX6_readClause_44 : decode cX6_readClause 44 = .ok (.aload_n 0, 1) := by decide +kernel
theorem dX6_readClause_45 : decode cX6_readClause 45 = .ok (.iconst 1, 1) := by decide +kernel
theorem dX6_readClause_46 : decode cX6_readClause 46 = .ok (.iload_n 2, 1) := by decide +kernel
theorem dX6_readClause_47 : decode cX6_readClause 47 = .ok (.invokestatic 67, 3) := by decide +kernel
theorem dX6_readClause_50 : decode cX6_readClause 50 = .ok (.putfield 27, 3) := by decide +kernel
theorem dX6_readClause_53 : decode cX6_readClause 53 = .ok (.goto 35, 3) := by decide +kernel
theorem dX6_readClause_56 : decode cX6_readClause 56 = .ok (.iload_n 1, 1) := by decide +kernel
theorem dX6_readClause_57 : decode cX6_readClause 57 = .ok (.iconst 1, 1) := by decide +kernel
theorem dX6_readClause_58 : decode cX6_readClause 58 = .ok (.if_icmp .ne 11, 3) := by decide +kernel
theorem dX6_readClause_61 : decode cX6_readClause 61 = .ok (.aload_n 0, 1) := by decide +kernel
theorem dX6_readClause_62 : decode cX6_readClause 62 = .ok (.iload_n 2, 1) := by decide +kernel
theorem dX6_readClause_63 : decode cX6_readClause 63 = .ok (.putfield 31, 3) := by decide +kernel
theorem dX6_readClause_66 : decode cX6_readClause 66 = .ok (.goto 22, 3) := by decide +kernel
theorem dX6_readClause_69 : decode cX6_readClause 69 = .ok (.aload_n 0, 1) := by decide +kernel
theorem dX6_readClause_70 : decode cX6_readClause 70 = .ok (.bipush 32, 2) := by decide +kernel
theorem dX6_readClause_72 : decode cX6_readClause 72 = .ok (.invokevirtual 56, 3) := by decide +kernel
theorem dX6_readClause_75 : decode cX6_readClause 75 = .ok (.ifCond .eq 11, 3) := by decide +kernel
theorem dX6_readClause_78 : decode cX6_readClause 78 = .ok (.aload_n 0, 1) := by decide +kernel
theorem dX6_readClause_79 : decode cX6_readClause 79 = .ok (.iconst 0, 1) := by decide +kernel
theorem dX6_readClause_80 : decode cX6_readClause 80 = .ok (.invokevirtual 70, 3) := by decide +kernel
theorem dX6_readClause_83 : decode cX6_readClause 83 = .ok (.ifCond .ne 5, 3) := by decide +kernel
theorem dX6_readClause_86 : decode cX6_readClause 86 = .ok (.iconst 0, 1) := by decide +kernel
theorem dX6_readClause_87 : decode cX6_readClause 87 = .ok (.ireturn, 1) := by decide +kernel
theorem dX6_readClause_88 : decode cX6_readClause 88 = .ok (.aload_n 0, 1) := by decide +kernel
theorem dX6_readClause_89 : decode cX6_readClause 89 = .ok (.getfield 11, 3) := by decide +kernel
theorem dX6_readClause_92 : decode cX6_readClause 92 = .ok (.aload_n 0, 1) := by decide +kernel
theorem dX6_readClause_93 : decode cX6_readClause 93 = .ok (.getfield 46, 3) := by decide +kernel
theorem dX6_readClause_96 : decode cX6_readClause 96 = .ok (.iload_n 1, 1) := by decide +kernel
theorem dX6_readClause_97 : decode cX6_readClause 97 = .ok (.iastore, 1) := by decide +kernel
theorem dX6_readClause_98 : decode cX6_readClause 98 = .ok (.aload_n 0, 1) := by decide +kernel
theorem dX6_readClause_99 : decode cX6_readClause 99 = .ok (.getfield 15, 3) := by decide +kernel
theorem dX6_readClause_102 : decode cX6_readClause 102 = .ok (.aload_n 0, 1) := by decide +kernel
theorem dX6_readClause_103 : decode cX6_readClause 103 = .ok (.getfield 46, 3) := by decide +kernel
theorem dX6_readClause_106 : decode cX6_readClause 106 = .ok (.iload_n 2, 1) := by decide +kernel
theorem dX6_readClause_107 : decode cX6_readClause 107 = .ok (.iastore, 1) := by decide +kernel
theorem dX6_readClause_108 : decode cX6_readClause 108 = .ok (.aload_n 0, 1) := by decide +kernel
theorem dX6_readClause_109 : decode cX6_readClause 109 = .ok (.getfield 18, 3) := by decide +kernel
theorem dX6_readClause_112 : decode cX6_readClause 112 = .ok (.aload_n 0, 1) := by decide +kernel
theorem dX6_readClause_113 : decode cX6_readClause 113 = .ok (.getfield 46, 3) := by decide +kernel
theorem dX6_readClause_116 : decode cX6_readClause 116 = .ok (.aload_n 0, 1) := by decide +kernel
theorem dX6_readClause_117 : decode cX6_readClause 117 = .ok (.getfield 49, 3) := by decide +kernel
theorem dX6_readClause_120 : decode cX6_readClause 120 = .ok (.iastore, 1) := by decide +kernel
theorem dX6_readClause_121 : decode cX6_readClause 121 = .ok (.aload_n 0, 1) := by decide +kernel
theorem dX6_readClause_122 : decode cX6_readClause 122 = .ok (.dup, 1) := by decide +kernel
theorem dX6_readClause_123 : decode cX6_readClause 123 = .ok (.getfield 46, 3) := by decide +kernel
theorem dX6_readClause_126 : decode cX6_readClause 126 = .ok (.iconst 1, 1) := by decide +kernel
theorem dX6_readClause_127 : decode cX6_readClause 127 = .ok (.iadd, 1) := by decide +kernel
theorem dX6_readClause_128 : decode cX6_readClause 128 = .ok (.putfield 46, 3) := by decide +kernel
theorem dX6_readClause_131 : decode cX6_readClause 131 = .ok (.iconst 1, 1) := by decide +kernel
theorem dX6_readClause_132 : decode cX6_readClause 132 = .ok (.ireturn, 1) := by decide +kernel
theorem dX6_readWord_0 : decode cX6_readWord 0 = .ok (.iconst 0, 1) := by decide +kernel
theorem dX6_readWord_1 : decode cX6_readWord 1 = .ok (.istore_n 1, 1) := by decide +kernel
theorem dX6_readWord_2 : decode cX6_readWord 2 = .ok (.iload_n 1, 1) := by decide +kernel
theorem dX6_readWord_3 : decode cX6_readWord 3 = .ok (.ldc 74, 2) := by decide +kernel
theorem dX6_readWord_5 : decode cX6_readWord 5 = .ok (.invokevirtual 76, 3) := by decide +kernel
theorem dX6_readWord_8 : decode cX6_readWord 8 = .ok (.if_icmp .ge 56, 3) := by decide +kernel
theorem dX6_readWord_11 : decode cX6_readWord 11 = .ok (.aload_n 0, 1) := by decide +kernel
theorem dX6_readWord_12 : decode cX6_readWord 12 = .ok (.ldc 74, 2) := by decide +kernel
theorem dX6_readWord_14 : decode cX6_readWord 14 = .ok (.iload_n 1, 1) := by decide +kernel
theorem dX6_readWord_15 : decode cX6_readWord 15 = .ok (.invokevirtual 81, 3) := by decide +kernel
theorem dX6_readWord_18 : decode cX6_readWord 18 = .ok (.invokevirtual 56, 3) := by decide +kernel
theorem dX6_readWord_21 : decode cX6_readWord 21 = .ok (.ifCond .eq 37, 3) := by decide +kernel
theorem dX6_readWord_24 : decode cX6_readWord 24 = .ok (.iconst 1, 1) := by decide +kernel
theorem dX6_readWord_25 : decode cX6_readWord 25 = .ok (.istore_n 2, 1) := by decide +kernel
theorem dX6_readWord_26 : decode cX6_readWord 26 = .ok (.iload_n 2, 1) := by decide +kernel
theorem dX6_readWord_27 : decode cX6_readWord 27 = .ok (.iconst 4, 1) := by decide +kernel
theorem dX6_readWord_28 : decode cX6_readWord 28 = .ok (.if_icmp .ge 26, 3) := by decide +kernel
theorem dX6_readWord_31 : decode cX6_readWord 31 = .ok (.aload_n 0, 1) := by decide +kernel
theorem dX6_readWord_32 : decode cX6_readWord 32 = .ok (.ldc 74, 2) := by decide +kernel
theorem dX6_readWord_34 : decode cX6_readWord 34 = .ok (.iload_n 1, 1) := by decide +kernel
theorem dX6_readWord_35 : decode cX6_readWord 35 = .ok (.iload_n 2, 1) := by decide +kernel
theorem dX6_readWord_36 : decode cX6_readWord 36 = .ok (.iadd, 1) := by decide +kernel
theorem dX6_readWord_37 : decode cX6_readWord 37 = .ok (.invokevirtual 81, 3) := by decide +kernel
theorem dX6_readWord_40 : decode cX6_readWord 40 = .ok (.invokevirtual 56, 3) := by decide +kernel
theorem dX6_readWord_43 : decode cX6_readWord 43 = .ok (.ifCond .ne 5, 3) := by decide +kernel
theorem dX6_readWord_46 : decode cX6_readWord 46 = .ok (.iconst (-1), 1) := by decide +kernel
theorem dX6_readWord_47 : decode cX6_readWord 47 = .ok (.ireturn, 1) := by decide +kernel
theorem dX6_readWord_48 : decode cX6_readWord 48 = .ok (.iinc 2 1, 3) := by decide +kernel
theorem dX6_readWord_51 : decode cX6_readWord 51 = .ok (.goto (-25), 3) := by decide +kernel
theorem dX6_readWord_54 : decode cX6_readWord 54 = .ok (.iload_n 1, 1) := by decide +kernel
theorem dX6_readWord_55 : decode cX6_readWord 55 = .ok (.iconst 4, 1) := by decide +kernel
theorem dX6_readWord_56 : decode cX6_readWord 56 = .ok (.idiv, 1) := by decide +kernel
theorem dX6_readWord_57 : decode cX6_readWord 57 = .ok (.ireturn, 1) := by decide +kernel
theorem dX6_readWord_58 : decode cX6_readWord 58 = .ok (.iinc 1 4, 3) := by decide +kernel
theorem dX6_readWord_61 : decode cX6_readWord 61 = .ok (.goto (-59), 3) := by decide +kernel
theorem dX6_readWord_64 : decode cX6_readWord 64 = .ok (.iconst (-1), 1) := by decide +kernel
theorem dX6_readWord_65 : decode cX6_readWord 65 = .ok (.ireturn, 1) := by decide +kernel
theorem dX6_readNumber_0 : decode cX6_readNumber 0 = .ok (.iconst (-1), 1) := by decide +kernel
theorem dX6_readNumber_1 : decode cX6_readNumber 1 = .ok (.istore_n 1, 1) := by decide +kernel
theorem dX6_readNumber_2 : decode cX6_readNumber 2 = .ok (.iconst 0, 1) := by decide +kernel
theorem dX6_readNumber_3 : decode cX6_readNumber 3 = .ok (.istore_n 2, 1) := by decide +kernel
theorem dX6_readNumber_4 : decode cX6_readNumber 4 = .ok (.iload_n 2, 1) := by decide +kernel
theorem dX6_readNumber_5 : decode cX6_readNumber 5 = .ok (.iconst 2, 1) := by decide +kernel
theorem dX6_readNumber_6 : decode cX6_readNumber 6 = .ok (.if_icmp .ge 75, 3) := by decide +kernel
theorem dX6_readNumber_9 : decode cX6_readNumber 9 = .ok (.iload_n 1, 1) := by decide +kernel
theorem dX6_readNumber_10 : decode cX6_readNumber 10 = .ok (.ifCond .eq 71, 3) := by decide +kernel
theorem dX6_readNumber_13 : decode cX6_readNumber 13 = .ok (.aload_n 0, 1) := by decide +kernel
theorem dX6_readNumber_14 : decode cX6_readNumber 14 = .ok (.getfield 43, 3) := by decide +kernel
theorem dX6_readNumber_17 : decode cX6_readNumber 17 = .ok (.aload_n 0, 1) := by decide +kernel
theorem dX6_readNumber_18 : decode cX6_readNumber 18 = .ok (.getfield 40, 3) := by decide +kernel
theorem dX6_readNumber_21 : decode cX6_readNumber 21 = .ok (.if_icmp .ge 60, 3) := by decide +kernel
theorem dX6_readNumber_24 : decode cX6_readNumber 24 = .ok (.aload_n 0, 1) := by decide +kernel
theorem dX6_readNumber_25 : decode cX6_readNumber 25 = .ok (.getfield 24, 3) := by decide +kernel
theorem dX6_readNumber_28 : decode cX6_readNumber 28 = .ok (.aload_n 0, 1) := by decide +kernel
theorem dX6_readNumber_29 : decode cX6_readNumber 29 = .ok (.getfield 43, 3) := by decide +kernel
theorem dX6_readNumber_32 : decode cX6_readNumber 32 = .ok (.iaload, 1) := by decide +kernel
theorem dX6_readNumber_33 : decode cX6_readNumber 33 = .ok (.bipush 48, 2) := by decide +kernel
theorem dX6_readNumber_35 : decode cX6_readNumber 35 = .ok (.isub, 1) := by decide +kernel
theorem dX6_readNumber_36 : decode cX6_readNumber 36 = .ok (.istore_n 3, 1) := by decide +kernel
theorem dX6_readNumber_37 : decode cX6_readNumber 37 = .ok (.iload_n 3, 1) := by decide +kernel
theorem dX6_readNumber_38 : decode cX6_readNumber 38 = .ok (.ifCond .lt 43, 3) := by decide +kernel
theorem dX6_readNumber_41 : decode cX6_readNumber 41 = .ok (.iload_n 3, 1) := by decide +kernel
theorem dX6_readNumber_42 : decode cX6_readNumber 42 = .ok (.bipush 9, 2) := by decide +kernel
theorem dX6_readNumber_44 : decode cX6_readNumber 44 = .ok (.if_icmp .le 6, 3) := by decide +kernel
theorem dX6_readNumber_47 : decode cX6_readNumber 47 = .ok (.goto 34, 3) := by decide +kernel
theorem dX6_readNumber_50 : decode cX6_readNumber 50 = .ok (.iload_n 1, 1) := by decide +kernel
theorem dX6_readNumber_51 : decode cX6_readNumber 51 = .ok (.ifCond .ge 7, 3) := by decide +kernel
theorem dX6_readNumber_54 : decode cX6_readNumber 54 = .ok (.iload_n 3, 1) := by decide +kernel
theorem dX6_readNumber_55 : decode cX6_readNumber 55 = .ok (.goto 9, 3) := by decide +kernel
theorem dX6_readNumber_58 : decode cX6_readNumber 58 = .ok (.iload_n 1, 1) := by decide +kernel
theorem dX6_readNumber_59 : decode cX6_readNumber 59 = .ok (.bipush 10, 2) := by decide +kernel
theorem dX6_readNumber_61 : decode cX6_readNumber 61 = .ok (.imul, 1) := by decide +kernel
theorem dX6_readNumber_62 : decode cX6_readNumber 62 = .ok (.iload_n 3, 1) := by decide +kernel
theorem dX6_readNumber_63 : decode cX6_readNumber 63 = .ok (.iadd, 1) := by decide +kernel
theorem dX6_readNumber_64 : decode cX6_readNumber 64 = .ok (.istore_n 1, 1) := by decide +kernel
theorem dX6_readNumber_65 : decode cX6_readNumber 65 = .ok (.aload_n 0, 1) := by decide +kernel
theorem dX6_readNumber_66 : decode cX6_readNumber 66 = .ok (.dup, 1) := by decide +kernel
theorem dX6_readNumber_67 : decode cX6_readNumber 67 = .ok (.getfield 43, 3) := by decide +kernel
theorem dX6_readNumber_70 : decode cX6_readNumber 70 = .ok (.iconst 1, 1) := by decide +kernel
theorem dX6_readNumber_71 : decode cX6_readNumber 71 = .ok (.iadd, 1) := by decide +kernel
theorem dX6_readNumber_72 : decode cX6_readNumber 72 = .ok (.putfield 43, 3) := by decide +kernel
theorem dX6_readNumber_75 : decode cX6_readNumber 75 = .ok (.iinc 2 1, 3) := by decide +kernel
theorem dX6_readNumber_78 : decode cX6_readNumber 78 = .ok (.goto (-74), 3) := by decide +kernel
theorem dX6_readNumber_81 : decode cX6_readNumber 81 = .ok (.iload_n 1, 1) := by decide +kernel
theorem dX6_readNumber_82 : decode cX6_readNumber 82 = .ok (.ireturn, 1) := by decide +kernel
theorem dX6_readEither_0 : decode cX6_readEither 0 = .ok (.iconst 1, 1) := by decide +kernel
theorem dX6_readEither_1 : decode cX6_readEither 1 = .ok (.istore_n 2, 1) := by decide +kernel
theorem dX6_readEither_2 : decode cX6_readEither 2 = .ok (.iload_n 2, 1) := by decide +kernel
theorem dX6_readEither_3 : decode cX6_readEither 3 = .ok (.bipush 100, 2) := by decide +kernel
theorem dX6_readEither_5 : decode cX6_readEither 5 = .ok (.if_icmp .gt 41, 3) := by decide +kernel
theorem dX6_readEither_8 : decode cX6_readEither 8 = .ok (.aload_n 0, 1) := by decide +kernel
theorem dX6_readEither_9 : decode cX6_readEither 9 = .ok (.iload_n 1, 1) := by decide +kernel
theorem dX6_readEither_10 : decode cX6_readEither 10 = .ok (.invokevirtual 85, 3) := by decide +kernel
theorem dX6_readEither_13 : decode cX6_readEither 13 = .ok (.ifCond .ne 5, 3) := by decide +kernel
theorem dX6_readEither_16 : decode cX6_readEither 16 = .ok (.iconst 0, 1) := by decide +kernel
theorem dX6_readEither_17 : decode cX6_readEither 17 = .ok (.ireturn, 1) := by decide +kernel
theorem dX6_readEither_18 : decode cX6_readEither 18 = .ok (.iload_n 2, 1) := by decide +kernel
theorem dX6_readEither_19 : decode cX6_readEither 19 = .ok (.iconst 1, 1) := by decide +kernel
theorem dX6_readEither_20 : decode cX6_readEither 20 = .ok (.if_icmp .le 9, 3) := by decide +kernel
theorem dX6_readEither_23 : decode cX6_readEither 23 = .ok (.aload_n 0, 1) := by decide +kernel
theorem dX6_readEither_24 : decode cX6_readEither 24 = .ok (.bipush (-3), 2) := by decide +kernel
theorem dX6_readEither_26 : decode cX6_readEither 26 = .ok (.invokevirtual 88, 3) := by decide +kernel
theorem dX6_readEither_29 : decode cX6_readEither 29 = .ok (.aload_n 0, 1) := by decide +kernel
theorem dX6_readEither_30 : decode cX6_readEither 30 = .ok (.bipush 124, 2) := by decide +kernel
theorem dX6_readEither_32 : decode cX6_readEither 32 = .ok (.invokevirtual 56, 3) := by decide +kernel
theorem dX6_readEither_35 : decode cX6_readEither 35 = .ok (.ifCond .ne 5, 3) := by decide +kernel
theorem dX6_readEither_38 : decode cX6_readEither 38 = .ok (.iconst 1, 1) := by decide +kernel
theorem dX6_readEither_39 : decode cX6_readEither 39 = .ok (.ireturn, 1) := by decide +kernel
theorem dX6_readEither_40 : decode cX6_readEither 40 = .ok (.iinc 2 1, 3) := by decide +kernel
theorem dX6_readEither_43 : decode cX6_readEither 43 = .ok (.goto (-41), 3) := by decide +kernel
theorem dX6_readEither_46 : decode cX6_readEither 46 = .ok (.iconst 0, 1) := by decide +kernel
theorem dX6_readEither_47 : decode cX6_readEither 47 = .ok (.ireturn, 1) := by decide +kernel
theorem dX6_readBoth_0 : decode cX6_readBoth 0 = .ok (.iconst 1, 1) := by decide +kernel
theorem dX6_readBoth_1 : decode cX6_readBoth 1 = .ok (.istore_n 2, 1) := by decide +kernel
theorem dX6_readBoth_2 : decode cX6_readBoth 2 = .ok (.iload_n 2, 1) := by decide +kernel
theorem dX6_readBoth_3 : decode cX6_readBoth 3 = .ok (.bipush 100, 2) := by decide +kernel
theorem dX6_readBoth_5 : decode cX6_readBoth 5 = .ok (.if_icmp .gt 41, 3) := by decide +kernel
theorem dX6_readBoth_8 : decode cX6_readBoth 8 = .ok (.aload_n 0, 1) := by decide +kernel
theorem dX6_readBoth_9 : decode cX6_readBoth 9 = .ok (.iload_n 1, 1) := by decide +kernel
theorem dX6_readBoth_10 : decode cX6_readBoth 10 = .ok (.invokevirtual 92, 3) := by decide +kernel
theorem dX6_readBoth_13 : decode cX6_readBoth 13 = .ok (.ifCond .ne 5, 3) := by decide +kernel
theorem dX6_readBoth_16 : decode cX6_readBoth 16 = .ok (.iconst 0, 1) := by decide +kernel
theorem dX6_readBoth_17 : decode cX6_readBoth 17 = .ok (.ireturn, 1) := by decide +kernel
theorem dX6_readBoth_18 : decode cX6_readBoth 18 = .ok (.iload_n 2, 1) := by decide +kernel
theorem dX6_readBoth_19 : decode cX6_readBoth 19 = .ok (.iconst 1, 1) := by decide +kernel
theorem dX6_readBoth_20 : decode cX6_readBoth 20 = .ok (.if_icmp .le 9, 3) := by decide +kernel
theorem dX6_readBoth_23 : decode cX6_readBoth 23 = .ok (.aload_n 0, 1) := by decide +kernel
theorem dX6_readBoth_24 : decode cX6_readBoth 24 = .ok (.bipush (-2), 2) := by decide +kernel
theorem dX6_readBoth_26 : decode cX6_readBoth 26 = .ok (.invokevirtual 88, 3) := by decide +kernel
theorem dX6_readBoth_29 : decode cX6_readBoth 29 = .ok (.aload_n 0, 1) := by decide +kernel
theorem dX6_readBoth_30 : decode cX6_readBoth 30 = .ok (.bipush 38, 2) := by decide +kernel
theorem dX6_readBoth_32 : decode cX6_readBoth 32 = .ok (.invokevirtual 56, 3) := by decide +kernel
theorem dX6_readBoth_35 : decode cX6_readBoth 35 = .ok (.ifCond .ne 5, 3) := by decide +kernel
theorem dX6_readBoth_38 : decode cX6_readBoth 38 = .ok (.iconst 1, 1) := by decide +kernel
theorem dX6_readBoth_39 : decode cX6_readBoth 39 = .ok (.ireturn, 1) := by decide +kernel
theorem dX6_readBoth_40 : decode cX6_readBoth 40 = .ok (.iinc 2 1, 3) := by decide +kernel
theorem dX6_readBoth_43 : decode cX6_readBoth 43 = .ok (.goto (-41), 3) := by decide +kernel
theorem dX6_readBoth_46 : decode cX6_readBoth 46 = .ok (.iconst 0, 1) := by decide +kernel
theorem dX6_readBoth_47 : decode cX6_readBoth 47 = .ok (.ireturn, 1) := by decide +kernel
theorem dX6_readOne_0 : decode cX6_readOne 0 = .ok (.iload_n 1, 1) := by decide +kernel
theorem dX6_readOne_1 : decode cX6_readOne 1 = .ok (.iconst 5, 1) := by decide +kernel
theorem dX6_readOne_2 : decode cX6_readOne 2 = .ok (.if_icmp .ge 61, 3) := by decide +kernel
theorem dX6_readOne_5 : decode cX6_readOne 5 = .ok (.aload_n 0, 1) := by decide +kernel
theorem dX6_readOne_6 : decode cX6_readOne 6 = .ok (.bipush 33, 2) := by decide +kernel
theorem dX6_readOne_8 : decode cX6_readOne 8 = .ok (.invokevirtual 56, 3) := by decide +kernel
theorem dX6_readOne_11 : decode cX6_readOne 11 = .ok (.ifCond .eq 18, 3) := by decide +kernel
theorem dX6_readOne_14 : decode cX6_readOne 14 = .ok (.aload_n 0, 1) := by decide +kernel
theorem dX6_readOne_15 : decode cX6_readOne 15 = .ok (.iload_n 1, 1) := by decide +kernel
theorem dX6_readOne_16 : decode cX6_readOne 16 = .ok (.iconst 1, 1) := by decide +kernel
theorem dX6_readOne_17 : decode cX6_readOne 17 = .ok (.iadd, 1) := by decide +kernel
theorem dX6_readOne_18 : decode cX6_readOne 18 = .ok (.invokevirtual 92, 3) := by decide +kernel
theorem dX6_readOne_21 : decode cX6_readOne 21 = .ok (.istore_n 2, 1) := by decide +kernel
theorem dX6_readOne_22 : decode cX6_readOne 22 = .ok (.aload_n 0, 1) := by decide +kernel
theorem dX6_readOne_23 : decode cX6_readOne 23 = .ok (.iconst (-1), 1) := by decide +kernel
theorem dX6_readOne_24 : decode cX6_readOne 24 = .ok (.invokevirtual 88, 3) := by decide +kernel
theorem dX6_readOne_27 : decode cX6_readOne 27 = .ok (.iload_n 2, 1) := by decide +kernel
theorem dX6_readOne_28 : decode cX6_readOne 28 = .ok (.ireturn, 1) := by decide +kernel
theorem dX6_readOne_29 : decode cX6_readOne 29 = .ok (.aload_n 0, 1) := by decide +kernel
theorem dX6_readOne_30 : decode cX6_readOne 30 = .ok (.bipush 40, 2) := by decide +kernel
theorem dX6_readOne_32 : decode cX6_readOne 32 = .ok (.invokevirtual 56, 3) := by decide +kernel
theorem dX6_readOne_35 : decode cX6_readOne 35 = .ok (.ifCond .eq 28, 3) := by decide +kernel
theorem dX6_readOne_38 : decode cX6_readOne 38 = .ok (.aload_n 0, 1) := by decide +kernel
theorem dX6_readOne_39 : decode cX6_readOne 39 = .ok (.iload_n 1, 1) := by decide +kernel
theorem dX6_readOne_40 : decode cX6_readOne 40 = .ok (.iconst 1, 1) := by decide +kernel
theorem dX6_readOne_41 : decode cX6_readOne 41 = .ok (.iadd, 1) := by decide +kernel
theorem dX6_readOne_42 : decode cX6_readOne 42 = .ok (.invokevirtual 70, 3) := by decide +kernel
theorem dX6_readOne_45 : decode cX6_readOne 45 = .ok (.ifCond .eq 16, 3) := by decide +kernel
theorem dX6_readOne_48 : decode cX6_readOne 48 = .ok (.aload_n 0, 1) := by decide +kernel
theorem dX6_readOne_49 : decode cX6_readOne 49 = .ok (.bipush 41, 2) := by decide +kernel
theorem dX6_readOne_51 : decode cX6_readOne 51 = .ok (.invokevirtual 56, 3) := by decide +kernel
theorem dX6_readOne_54 : decode cX6_readOne 54 = .ok (.ifCond .eq 7, 3) := by decide +kernel
theorem dX6_readOne_57 : decode cX6_readOne 57 = .ok (.iconst 1, 1) := by decide +kernel
theorem dX6_readOne_58 : decode cX6_readOne 58 = .ok (.goto 4, 3) := by decide +kernel
theorem dX6_readOne_61 : decode cX6_readOne 61 = .ok (.iconst 0, 1) := by decide +kernel
theorem dX6_readOne_62 : decode cX6_readOne 62 = .ok (.ireturn, 1) := by decide +kernel
theorem dX6_readOne_63 : decode cX6_readOne 63 = .ok (.aload_n 0, 1) := by decide +kernel
theorem dX6_readOne_64 : decode cX6_readOne 64 = .ok (.ldc 95, 2) := by decide +kernel
theorem dX6_readOne_66 : decode cX6_readOne 66 = .ok (.invokevirtual 97, 3) := by decide +kernel
theorem dX6_readOne_69 : decode cX6_readOne 69 = .ok (.istore_n 2, 1) := by decide +kernel
theorem dX6_readOne_70 : decode cX6_readOne 70 = .ok (.iload_n 2, 1) := by decide +kernel
theorem dX6_readOne_71 : decode cX6_readOne 71 = .ok (.ifCond .ge 7, 3) := by decide +kernel
theorem dX6_readOne_74 : decode cX6_readOne 74 = .ok (.iconst (-1), 1) := by decide +kernel
theorem dX6_readOne_75 : decode cX6_readOne 75 = .ok (.goto 9, 3) := by decide +kernel
theorem dX6_readOne_78 : decode cX6_readOne 78 = .ok (.aload_n 0, 1) := by decide +kernel
theorem dX6_readOne_79 : decode cX6_readOne 79 = .ok (.ldc 101, 2) := by decide +kernel
theorem dX6_readOne_81 : decode cX6_readOne 81 = .ok (.invokevirtual 97, 3) := by decide +kernel
theorem dX6_readOne_84 : decode cX6_readOne 84 = .ok (.istore_n 3, 1) := by decide +kernel
theorem dX6_readOne_85 : decode cX6_readOne 85 = .ok (.iload_n 3, 1) := by decide +kernel
theorem dX6_readOne_86 : decode cX6_readOne 86 = .ok (.ifCond .ge 7, 3) := by decide +kernel
theorem dX6_readOne_89 : decode cX6_readOne 89 = .ok (.iconst (-1), 1) := by decide +kernel
theorem dX6_readOne_90 : decode cX6_readOne 90 = .ok (.goto 7, 3) := by decide +kernel
theorem dX6_readOne_93 : decode cX6_readOne 93 = .ok (.aload_n 0, 1) := by decide +kernel
theorem dX6_readOne_94 : decode cX6_readOne 94 = .ok (.invokevirtual 64, 3) := by decide +kernel
theorem dX6_readOne_97 : decode cX6_readOne 97 = .ok (.istore 4, 2) := by decide +kernel
theorem dX6_readOne_99 : decode cX6_readOne 99 = .ok (.iload 4, 2) := by decide +kernel
theorem dX6_readOne_101 : decode cX6_readOne 101 = .ok (.ifCond .ge 5, 3) := by decide +kernel
theorem dX6_readOne_104 : decode cX6_readOne 104 = .ok (.iconst 0, 1) := by decide +kernel
theorem dX6_readOne_105 : decode cX6_readOne 105 = .ok (.ireturn, 1) := by decide +kernel
theorem dX6_readOne_106 : decode cX6_readOne 106 = .ok (.aload_n 0, 1) := by decide +kernel
theorem dX6_readOne_107 : decode cX6_readOne 107 = .ok (.iload_n 2, 1) := by decide +kernel
theorem dX6_readOne_108 : decode cX6_readOne 108 = .ok (.iconst 3, 1) := by decide +kernel
theorem dX6_readOne_109 : decode cX6_readOne 109 = .ok (.imul, 1) := by decide +kernel
theorem dX6_readOne_110 : decode cX6_readOne 110 = .ok (.iload_n 3, 1) := by decide +kernel
theorem dX6_readOne_111 : decode cX6_readOne 111 = .ok (.iadd, 1) := by decide +kernel
theorem dX6_readOne_112 : decode cX6_readOne 112 = .ok (.bipush 100, 2) := by decide +kernel
theorem dX6_readOne_114 : decode cX6_readOne 114 = .ok (.imul, 1) := by decide +kernel
theorem dX6_readOne_115 : decode cX6_readOne 115 = .ok (.iload 4, 2) := by decide +kernel
theorem dX6_readOne_117 : decode cX6_readOne 117 = .ok (.iadd, 1) := by decide +kernel
theorem dX6_readOne_118 : decode cX6_readOne 118 = .ok (.invokevirtual 88, 3) := by decide +kernel
theorem dX6_readOne_121 : decode cX6_readOne 121 = .ok (.iconst 1, 1) := by decide +kernel
theorem dX6_readOne_122 : decode cX6_readOne 122 = .ok (.ireturn, 1) := by decide +kernel
theorem dX6_readOneOf_0 : decode cX6_readOneOf 0 = .ok (.aload_n 0, 1) := by decide +kernel
theorem dX6_readOneOf_1 : decode cX6_readOneOf 1 = .ok (.getfield 43, 3) := by decide +kernel
theorem dX6_readOneOf_4 : decode cX6_readOneOf 4 = .ok (.aload_n 0, 1) := by decide +kernel
theorem dX6_readOneOf_5 : decode cX6_readOneOf 5 = .ok (.getfield 40, 3) := by decide +kernel
theorem dX6_readOneOf_8 : decode cX6_readOneOf 8 = .ok (.if_icmp .ge 20, 3) := by decide +kernel
theorem dX6_readOneOf_11 : decode cX6_readOneOf 11 = .ok (.aload_n 1, 1) := by decide +kernel
theorem dX6_readOneOf_12 : decode cX6_readOneOf 12 = .ok (.aload_n 0, 1) := by decide +kernel
theorem dX6_readOneOf_13 : decode cX6_readOneOf 13 = .ok (.getfield 24, 3) := by decide +kernel
theorem dX6_readOneOf_16 : decode cX6_readOneOf 16 = .ok (.aload_n 0, 1) := by decide +kernel
theorem dX6_readOneOf_17 : decode cX6_readOneOf 17 = .ok (.getfield 43, 3) := by decide +kernel
theorem dX6_readOneOf_20 : decode cX6_readOneOf 20 = .ok (.iaload, 1) := by decide +kernel
theorem dX6_readOneOf_21 : decode cX6_readOneOf 21 = .ok (.i2c, 1) := by decide +kernel
theorem dX6_readOneOf_22 : decode cX6_readOneOf 22 = .ok (.invokevirtual 103, 3) := by decide +kernel
theorem dX6_readOneOf_25 : decode cX6_readOneOf 25 = .ok (.goto 4, 3) := by decide +kernel
theorem dX6_readOneOf_28 : decode cX6_readOneOf 28 = .ok (.iconst (-1), 1) := by decide +kernel
theorem dX6_readOneOf_29 : decode cX6_readOneOf 29 = .ok (.istore_n 2, 1) := by decide +kernel
theorem dX6_readOneOf_30 : decode cX6_readOneOf 30 = .ok (.iload_n 2, 1) := by decide +kernel
theorem dX6_readOneOf_31 : decode cX6_readOneOf 31 = .ok (.ifCond .lt 13, 3) := by decide +kernel
theorem dX6_readOneOf_34 : decode cX6_readOneOf 34 = .ok (.aload_n 0, 1) := by decide +kernel
theorem dX6_readOneOf_35 : decode cX6_readOneOf 35 = .ok (.dup, 1) := by decide +kernel
theorem dX6_readOneOf_36 : decode cX6_readOneOf 36 = .ok (.getfield 43, 3) := by decide +kernel
theorem dX6_readOneOf_39 : decode cX6_readOneOf 39 = .ok (.iconst 1, 1) := by decide +kernel
theorem dX6_readOneOf_40 : decode cX6_readOneOf 40 = .ok (.iadd, 1) := by decide +kernel
theorem dX6_readOneOf_41 : decode cX6_readOneOf 41 = .ok (.putfield 43, 3) := by decide +kernel
theorem dX6_readOneOf_44 : decode cX6_readOneOf 44 = .ok (.iload_n 2, 1) := by decide +kernel
theorem dX6_readOneOf_45 : decode cX6_readOneOf 45 = .ok (.ireturn, 1) := by decide +kernel
theorem dX6_skip_0 : decode cX6_skip 0 = .ok (.aload_n 0, 1) := by decide +kernel
theorem dX6_skip_1 : decode cX6_skip 1 = .ok (.getfield 43, 3) := by decide +kernel
theorem dX6_skip_4 : decode cX6_skip 4 = .ok (.aload_n 0, 1) := by decide +kernel
theorem dX6_skip_5 : decode cX6_skip 5 = .ok (.getfield 40, 3) := by decide +kernel
theorem dX6_skip_8 : decode cX6_skip 8 = .ok (.if_icmp .ge 16, 3) := by decide +kernel
theorem dX6_skip_11 : decode cX6_skip 11 = .ok (.aload_n 0, 1) := by decide +kernel
theorem dX6_skip_12 : decode cX6_skip 12 = .ok (.getfield 24, 3) := by decide +kernel
theorem dX6_skip_15 : decode cX6_skip 15 = .ok (.aload_n 0, 1) := by decide +kernel
theorem dX6_skip_16 : decode cX6_skip 16 = .ok (.getfield 43, 3) := by decide +kernel
theorem dX6_skip_19 : decode cX6_skip 19 = .ok (.iaload, 1) := by decide +kernel
theorem dX6_skip_20 : decode cX6_skip 20 = .ok (.iload_n 1, 1) := by decide +kernel
theorem dX6_skip_21 : decode cX6_skip 21 = .ok (.if_icmp .eq 5, 3) := by decide +kernel
theorem dX6_skip_24 : decode cX6_skip 24 = .ok (.iconst 0, 1) := by decide +kernel
theorem dX6_skip_25 : decode cX6_skip 25 = .ok (.ireturn, 1) := by decide +kernel
theorem dX6_skip_26 : decode cX6_skip 26 = .ok (.aload_n 0, 1) := by decide +kernel
theorem dX6_skip_27 : decode cX6_skip 27 = .ok (.dup, 1) := by decide +kernel
theorem dX6_skip_28 : decode cX6_skip 28 = .ok (.getfield 43, 3) := by decide +kernel
theorem dX6_skip_31 : decode cX6_skip 31 = .ok (.iconst 1, 1) := by decide +kernel
theorem dX6_skip_32 : decode cX6_skip 32 = .ok (.iadd, 1) := by decide +kernel
theorem dX6_skip_33 : decode cX6_skip 33 = .ok (.putfield 43, 3) := by decide +kernel
theorem dX6_skip_36 : decode cX6_skip 36 = .ok (.iconst 1, 1) := by decide +kernel
theorem dX6_skip_37 : decode cX6_skip 37 = .ok (.ireturn, 1) := by decide +kernel
theorem dX6_keep_0 : decode cX6_keep 0 = .ok (.aload_n 0, 1) := by decide +kernel
theorem dX6_keep_1 : decode cX6_keep 1 = .ok (.getfield 49, 3) := by decide +kernel
theorem dX6_keep_4 : decode cX6_keep 4 = .ok (.aload_n 0, 1) := by decide +kernel
theorem dX6_keep_5 : decode cX6_keep 5 = .ok (.getfield 21, 3) := by decide +kernel
theorem dX6_keep_8 : decode cX6_keep 8 = .ok (.arraylength, 1) := by decide +kernel
theorem dX6_keep_9 : decode cX6_keep 9 = .ok (.if_icmp .ge 23, 3) := by decide +kernel
theorem dX6_keep_12 : decode cX6_keep 12 = .ok (.aload_n 0, 1) := by decide +kernel
theorem dX6_keep_13 : decode cX6_keep 13 = .ok (.getfield 21, 3) := by decide +kernel
theorem dX6_keep_16 : decode cX6_keep 16 = .ok (.aload_n 0, 1) := by decide +kernel
theorem dX6_keep_17 : decode cX6_keep 17 = .ok (.getfield 49, 3) := by decide +kernel
theorem dX6_keep_20 : decode cX6_keep 20 = .ok (.iload_n 1, 1) := by decide +kernel
theorem dX6_keep_21 : decode cX6_keep 21 = .ok (.iastore, 1) := by decide +kernel
theorem dX6_keep_22 : decode cX6_keep 22 = .ok (.aload_n 0, 1) := by decide +kernel
theorem dX6_keep_23 : decode cX6_keep 23 = .ok (.dup, 1) := by decide +kernel
theorem dX6_keep_24 : decode cX6_keep 24 = .ok (.getfield 49, 3) := by decide +kernel
theorem dX6_keep_27 : decode cX6_keep 27 = .ok (.iconst 1, 1) := by decide +kernel
theorem dX6_keep_28 : decode cX6_keep 28 = .ok (.iadd, 1) := by decide +kernel
theorem dX6_keep_29 : decode cX6_keep 29 = .ok (.putfield 49, 3) := by decide +kernel
theorem dX6_keep_32 : decode cX6_keep 32 = .ok (.return_, 1) := by decide +kernel
theorem dX6_riskOf_0 : decode cX6_riskOf 0 = .ok (.iload_n 2, 1) := by decide +kernel
theorem dX6_riskOf_1 : decode cX6_riskOf 1 = .ok (.iconst 5, 1) := by decide +kernel
theorem dX6_riskOf_2 : decode cX6_riskOf 2 = .ok (.idiv, 1) := by decide +kernel
theorem dX6_riskOf_3 : decode cX6_riskOf 3 = .ok (.istore_n 3, 1) := by decide +kernel
theorem dX6_riskOf_4 : decode cX6_riskOf 4 = .ok (.iconst 0, 1) := by decide +kernel
theorem dX6_riskOf_5 : decode cX6_riskOf 5 = .ok (.istore 4, 2) := by decide +kernel
theorem dX6_riskOf_7 : decode cX6_riskOf 7 = .ok (.iconst 0, 1) := by decide +kernel
theorem dX6_riskOf_8 : decode cX6_riskOf 8 = .ok (.istore 5, 2) := by decide +kernel
theorem dX6_riskOf_10 : decode cX6_riskOf 10 = .ok (.iload 5, 2) := by decide +kernel
theorem dX6_riskOf_12 : decode cX6_riskOf 12 = .ok (.aload_n 0, 1) := by decide +kernel
theorem dX6_riskOf_13 : decode cX6_riskOf 13 = .ok (.getfield 46, 3) := by decide +kernel
theorem dX6_riskOf_16 : decode cX6_riskOf 16 = .ok (.if_icmp .ge 79, 3) := by decide +kernel
theorem dX6_riskOf_19 : decode cX6_riskOf 19 = .ok (.aload_n 0, 1) := by decide +kernel
theorem dX6_riskOf_20 : decode cX6_riskOf 20 = .ok (.getfield 11, 3) := by decide +kernel
theorem dX6_riskOf_23 : decode cX6_riskOf 23 = .ok (.iload 5, 2) := by decide +kernel
theorem dX6_riskOf_25 : decode cX6_riskOf 25 = .ok (.iaload, 1) := by decide +kernel
theorem dX6_riskOf_26 : decode cX6_riskOf 26 = .ok (.iconst 2, 1) := by decide +kernel
theorem dX6_riskOf_27 : decode cX6_riskOf 27 = .ok (.if_icmp .lt 53, 3) := by decide +kernel
theorem dX6_riskOf_30 : decode cX6_riskOf 30 = .ok (.aload_n 0, 1) := by decide +kernel
theorem dX6_riskOf_31 : decode cX6_riskOf 31 = .ok (.iload 4, 2) := by decide +kernel
theorem dX6_riskOf_33 : decode cX6_riskOf 33 = .ok (.aload_n 0, 1) := by decide +kernel
theorem dX6_riskOf_34 : decode cX6_riskOf 34 = .ok (.getfield 18, 3) := by decide +kernel
theorem dX6_riskOf_37 : decode cX6_riskOf 37 = .ok (.iload 5, 2) := by decide +kernel
theorem dX6_riskOf_39 : decode cX6_riskOf 39 = .ok (.iaload, 1) := by decide +kernel
theorem dX6_riskOf_40 : decode cX6_riskOf 40 = .ok (.aload_n 1, 1) := by decide +kernel
theorem dX6_riskOf_41 : decode cX6_riskOf 41 = .ok (.iload_n 2, 1) := by decide +kernel
theorem dX6_riskOf_42 : decode cX6_riskOf 42 = .ok (.invokevirtual 107, 3) := by decide +kernel
theorem dX6_riskOf_45 : decode cX6_riskOf 45 = .ok (.ifCond .eq 35, 3) := by decide +kernel
theorem dX6_riskOf_48 : decode cX6_riskOf 48 = .ok (.iload_n 3, 1) := by decide +kernel
theorem dX6_riskOf_49 : decode cX6_riskOf 49 = .ok (.aload_n 0, 1) := by decide +kernel
theorem dX6_riskOf_50 : decode cX6_riskOf 50 = .ok (.getfield 11, 3) := by decide +kernel
theorem dX6_riskOf_53 : decode cX6_riskOf 53 = .ok (.iload 5, 2) := by decide +kernel
theorem dX6_riskOf_55 : decode cX6_riskOf 55 = .ok (.iaload, 1) := by decide +kernel
theorem dX6_riskOf_56 : decode cX6_riskOf 56 = .ok (.iconst 2, 1) := by decide +kernel
theorem dX6_riskOf_57 : decode cX6_riskOf 57 = .ok (.if_icmp .ne 13, 3) := by decide +kernel
theorem dX6_riskOf_60 : decode cX6_riskOf 60 = .ok (.aload_n 0, 1) := by decide +kernel
theorem dX6_riskOf_61 : decode cX6_riskOf 61 = .ok (.getfield 15, 3) := by decide +kernel
theorem dX6_riskOf_64 : decode cX6_riskOf 64 = .ok (.iload 5, 2) := by decide +kernel
theorem dX6_riskOf_66 : decode cX6_riskOf 66 = .ok (.iaload, 1) := by decide +kernel
theorem dX6_riskOf_67 : decode cX6_riskOf 67 = .ok (.goto 11, 3) := by decide +kernel
theorem dX6_riskOf_70 : decode cX6_riskOf 70 = .ok (.aload_n 0, 1) := by decide +kernel
theorem dX6_riskOf_71 : decode cX6_riskOf 71 = .ok (.getfield 15, 3) := by decide +kernel
theorem dX6_riskOf_74 : decode cX6_riskOf 74 = .ok (.iload 5, 2) := by decide +kernel
theorem dX6_riskOf_76 : decode cX6_riskOf 76 = .ok (.iaload, 1) := by decide +kernel
theorem dX6_riskOf_77 : decode cX6_riskOf 77 = .ok (.ineg, 1) := by decide +kernel
theorem dX6_riskOf_78 : decode cX6_riskOf 78 = .ok (.iadd, 1) := by decide +kernel
theorem dX6_riskOf_79 : decode cX6_riskOf 79 = .ok (.istore_n 3, 1) := by decide +kernel
theorem dX6_riskOf_80 : decode cX6_riskOf 80 = .ok (.aload_n 0, 1) := by decide +kernel
theorem dX6_riskOf_81 : decode cX6_riskOf 81 = .ok (.getfield 18, 3) := by decide +kernel
theorem dX6_riskOf_84 : decode cX6_riskOf 84 = .ok (.iload 5, 2) := by decide +kernel
theorem dX6_riskOf_86 : decode cX6_riskOf 86 = .ok (.iaload, 1) := by decide +kernel
theorem dX6_riskOf_87 : decode cX6_riskOf 87 = .ok (.istore 4, 2) := by decide +kernel
theorem dX6_riskOf_89 : decode cX6_riskOf 89 = .ok (.iinc 5 1, 3) := by decide +kernel
theorem dX6_riskOf_92 : decode cX6_riskOf 92 = .ok (.goto (-82), 3) := by decide +kernel
theorem dX6_riskOf_95 : decode cX6_riskOf 95 = .ok (.iconst 0, 1) := by decide +kernel
theorem dX6_riskOf_96 : decode cX6_riskOf 96 = .ok (.bipush 99, 2) := by decide +kernel
theorem dX6_riskOf_98 : decode cX6_riskOf 98 = .ok (.iload_n 3, 1) := by decide +kernel
theorem dX6_riskOf_99 : decode cX6_riskOf 99 = .ok (.invokestatic 34, 3) := by decide +kernel
theorem dX6_riskOf_102 : decode cX6_riskOf 102 = .ok (.invokestatic 67, 3) := by decide +kernel
theorem dX6_riskOf_105 : decode cX6_riskOf 105 = .ok (.ireturn, 1) := by decide +kernel
theorem dX6_holds_0 : decode cX6_holds 0 = .ok (.iconst 0, 1) := by decide +kernel
theorem dX6_holds_1 : decode cX6_holds 1 = .ok (.istore 5, 2) := by decide +kernel
theorem dX6_holds_3 : decode cX6_holds 3 = .ok (.iload_n 1, 1) := by decide +kernel
theorem dX6_holds_4 : decode cX6_holds 4 = .ok (.istore 6, 2) := by decide +kernel
theorem dX6_holds_6 : decode cX6_holds 6 = .ok (.iload 6, 2) := by decide +kernel
theorem dX6_holds_8 : decode cX6_holds 8 = .ok (.iload_n 2, 1) := by decide +kernel
theorem dX6_holds_9 : decode cX6_holds 9 = .ok (.if_icmp .ge 111, 3) := by decide +kernel
theorem dX6_holds_12 : decode cX6_holds 12 = .ok (.iload 6, 2) := by decide +kernel
theorem dX6_holds_14 : decode cX6_holds 14 = .ok (.aload_n 0, 1) := by decide +kernel
theorem dX6_holds_15 : decode cX6_holds 15 = .ok (.getfield 21, 3) := by decide +kernel
theorem dX6_holds_18 : decode cX6_holds 18 = .ok (.arraylength, 1) := by decide +kernel
theorem dX6_holds_19 : decode cX6_holds 19 = .ok (.if_icmp .ge 101, 3) := by decide +kernel
theorem dX6_holds_22 : decode cX6_holds 22 = .ok (.aload_n 0, 1) := by decide +kernel
theorem dX6_holds_23 : decode cX6_holds 23 = .ok (.getfield 21, 3) := by decide +kernel
theorem dX6_holds_26 : decode cX6_holds 26 = .ok (.iload 6, 2) := by decide +kernel
theorem dX6_holds_28 : decode cX6_holds 28 = .ok (.iaload, 1) := by decide +kernel
theorem dX6_holds_29 : decode cX6_holds 29 = .ok (.istore 7, 2) := by decide +kernel
theorem dX6_holds_31 : decode cX6_holds 31 = .ok (.iload 7, 2) := by decide +kernel
theorem dX6_holds_33 : decode cX6_holds 33 = .ok (.ifCond .lt 29, 3) := by decide +kernel
theorem dX6_holds_36 : decode cX6_holds 36 = .ok (.iload 5, 2) := by decide +kernel
theorem dX6_holds_38 : decode cX6_holds 38 = .ok (.iconst 1, 1) := by decide +kernel
theorem dX6_holds_39 : decode cX6_holds 39 = .ok (.ishl, 1) := by decide +kernel
theorem dX6_holds_40 : decode cX6_holds 40 = .ok (.iload 7, 2) := by decide +kernel
theorem dX6_holds_42 : decode cX6_holds 42 = .ok (.aload_n 3, 1) := by decide +kernel
theorem dX6_holds_43 : decode cX6_holds 43 = .ok (.iload 4, 2) := by decide +kernel
theorem dX6_holds_45 : decode cX6_holds 45 = .ok (.invokestatic 111, 3) := by decide +kernel
theorem dX6_holds_48 : decode cX6_holds 48 = .ok (.ifCond .eq 7, 3) := by decide +kernel
theorem dX6_holds_51 : decode cX6_holds 51 = .ok (.iconst 1, 1) := by decide +kernel
theorem dX6_holds_52 : decode cX6_holds 52 = .ok (.goto 4, 3) := by decide +kernel
theorem dX6_holds_55 : decode cX6_holds 55 = .ok (.iconst 0, 1) := by decide +kernel
theorem dX6_holds_56 : decode cX6_holds 56 = .ok (.ior, 1) := by decide +kernel
theorem dX6_holds_57 : decode cX6_holds 57 = .ok (.istore 5, 2) := by decide +kernel
theorem dX6_holds_59 : decode cX6_holds 59 = .ok (.goto 55, 3) := by decide +kernel
theorem dX6_holds_62 : decode cX6_holds 62 = .ok (.iload 7, 2) := by decide +kernel
theorem dX6_holds_64 : decode cX6_holds 64 = .ok (.iconst (-1), 1) := by decide +kernel
theorem dX6_holds_65 : decode cX6_holds 65 = .ok (.if_icmp .ne 12, 3) := by decide +kernel
theorem dX6_holds_68 : decode cX6_holds 68 = .ok (.iload 5, 2) := by decide +kernel
theorem dX6_holds_70 : decode cX6_holds 70 = .ok (.iconst 1, 1) := by decide +kernel
theorem dX6_holds_71 : decode cX6_holds 71 = .ok (.ixor, 1) := by decide +kernel
theorem dX6_holds_72 : decode cX6_holds 72 = .ok (.istore 5, 2) := by decide +kernel
theorem dX6_holds_74 : decode cX6_holds 74 = .ok (.goto 40, 3) := by decide +kernel
theorem dX6_holds_77 : decode cX6_holds 77 = .ok (.iload 5, 2) := by decide +kernel
theorem dX6_holds_79 : decode cX6_holds 79 = .ok (.iconst 1, 1) := by decide +kernel
theorem dX6_holds_80 : decode cX6_holds 80 = .ok (.iand, 1) := by decide +kernel
theorem dX6_holds_81 : decode cX6_holds 81 = .ok (.istore 8, 2) := by decide +kernel
theorem dX6_holds_83 : decode cX6_holds 83 = .ok (.iload 5, 2) := by decide +kernel
theorem dX6_holds_85 : decode cX6_holds 85 = .ok (.iconst 1, 1) := by decide +kernel
theorem dX6_holds_86 : decode cX6_holds 86 = .ok (.ishr, 1) := by decide +kernel
theorem dX6_holds_87 : decode cX6_holds 87 = .ok (.istore 5, 2) := by decide +kernel
theorem dX6_holds_89 : decode cX6_holds 89 = .ok (.iload 7, 2) := by decide +kernel
theorem dX6_holds_91 : decode cX6_holds 91 = .ok (.bipush (-2), 2) := by decide +kernel
theorem dX6_holds_93 : decode cX6_holds 93 = .ok (.if_icmp .ne 14, 3) := by decide +kernel
theorem dX6_holds_96 : decode cX6_holds 96 = .ok (.iload 5, 2) := by decide +kernel
theorem dX6_holds_98 : decode cX6_holds 98 = .ok (.bipush (-2), 2) := by decide +kernel
theorem dX6_holds_100 : decode cX6_holds 100 = .ok (.iload 8, 2) := by decide +kernel
theorem dX6_holds_102 : decode cX6_holds 102 = .ok (.ior, 1) := by decide +kernel
theorem dX6_holds_103 : decode cX6_holds 103 = .ok (.iand, 1) := by decide +kernel
theorem dX6_holds_104 : decode cX6_holds 104 = .ok (.goto 8, 3) := by decide +kernel
theorem dX6_holds_107 : decode cX6_holds 107 = .ok (.iload 5, 2) := by decide +kernel
theorem dX6_holds_109 : decode cX6_holds 109 = .ok (.iload 8, 2) := by decide +kernel
theorem dX6_holds_111 : decode cX6_holds 111 = .ok (.ior, 1) := by decide +kernel
theorem dX6_holds_112 : decode cX6_holds 112 = .ok (.istore 5, 2) := by decide +kernel
theorem dX6_holds_114 : decode cX6_holds 114 = .ok (.iinc 6 1, 3) := by decide +kernel
theorem dX6_holds_117 : decode cX6_holds 117 = .ok (.goto (-111), 3) := by decide +kernel
theorem dX6_holds_120 : decode cX6_holds 120 = .ok (.iload 5, 2) := by decide +kernel
theorem dX6_holds_122 : decode cX6_holds 122 = .ok (.iconst 1, 1) := by decide +kernel
theorem dX6_holds_123 : decode cX6_holds 123 = .ok (.iand, 1) := by decide +kernel
theorem dX6_holds_124 : decode cX6_holds 124 = .ok (.iconst 1, 1) := by decide +kernel
theorem dX6_holds_125 : decode cX6_holds 125 = .ok (.if_icmp .ne 7, 3) := by decide +kernel
theorem dX6_holds_128 : decode cX6_holds 128 = .ok (.iconst 1, 1) := by decide +kernel
theorem dX6_holds_129 : decode cX6_holds 129 = .ok (.goto 4, 3) := by decide +kernel
theorem dX6_holds_132 : decode cX6_holds 132 = .ok (.iconst 0, 1) := by decide +kernel
theorem dX6_holds_133 : decode cX6_holds 133 = .ok (.ireturn, 1) := by decide +kernel
theorem dX6_isSo_0 : decode cX6_isSo 0 = .ok (.iload_n 0, 1) := by decide +kernel
theorem dX6_isSo_1 : decode cX6_isSo 1 = .ok (.bipush 100, 2) := by decide +kernel
theorem dX6_isSo_3 : decode cX6_isSo 3 = .ok (.irem, 1) := by decide +kernel
theorem dX6_isSo_4 : decode cX6_isSo 4 = .ok (.istore_n 3, 1) := by decide +kernel
theorem dX6_isSo_5 : decode cX6_isSo 5 = .ok (.iload_n 0, 1) := by decide +kernel
theorem dX6_isSo_6 : decode cX6_isSo 6 = .ok (.sipush 300, 3) := by decide +kernel
theorem dX6_isSo_9 : decode cX6_isSo 9 = .ok (.idiv, 1) := by decide +kernel
theorem dX6_isSo_10 : decode cX6_isSo 10 = .ok (.aload_n 1, 1) := by decide +kernel
theorem dX6_isSo_11 : decode cX6_isSo 11 = .ok (.iload_n 2, 1) := by decide +kernel
theorem dX6_isSo_12 : decode cX6_isSo 12 = .ok (.invokestatic 115, 3) := by decide +kernel
theorem dX6_isSo_15 : decode cX6_isSo 15 = .ok (.istore 4, 2) := by decide +kernel
theorem dX6_isSo_17 : decode cX6_isSo 17 = .ok (.iload_n 0, 1) := by decide +kernel
theorem dX6_isSo_18 : decode cX6_isSo 18 = .ok (.bipush 100, 2) := by decide +kernel
theorem dX6_isSo_20 : decode cX6_isSo 20 = .ok (.idiv, 1) := by decide +kernel
theorem dX6_isSo_21 : decode cX6_isSo 21 = .ok (.iconst 3, 1) := by decide +kernel
theorem dX6_isSo_22 : decode cX6_isSo 22 = .ok (.irem, 1) := by decide +kernel
theorem dX6_isSo_23 : decode cX6_isSo 23 = .ok (.lookupswitch 49 #[(0, 25), (1, 37)], 25) := by decide +kernel
theorem dX6_isSo_48 : decode cX6_isSo 48 = .ok (.iload 4, 2) := by decide +kernel
theorem dX6_isSo_50 : decode cX6_isSo 50 = .ok (.iload_n 3, 1) := by decide +kernel
theorem dX6_isSo_51 : decode cX6_isSo 51 = .ok (.if_icmp .ge 7, 3) := by decide +kernel
theorem dX6_isSo_54 : decode cX6_isSo 54 = .ok (.iconst 1, 1) := by decide +kernel
theorem dX6_isSo_55 : decode cX6_isSo 55 = .ok (.goto 4, 3) := by decide +kernel
theorem dX6_isSo_58 : decode cX6_isSo 58 = .ok (.iconst 0, 1) := by decide +kernel
theorem dX6_isSo_59 : decode cX6_isSo 59 = .ok (.ireturn, 1) := by decide +kernel
theorem dX6_isSo_60 : decode cX6_isSo 60 = .ok (.iload 4, 2) := by decide +kernel
theorem dX6_isSo_62 : decode cX6_isSo 62 = .ok (.iload_n 3, 1) := by decide +kernel
theorem dX6_isSo_63 : decode cX6_isSo 63 = .ok (.if_icmp .ne 7, 3) := by decide +kernel
theorem dX6_isSo_66 : decode cX6_isSo 66 = .ok (.iconst 1, 1) := by decide +kernel
theorem dX6_isSo_67 : decode cX6_isSo 67 = .ok (.goto 4, 3) := by decide +kernel
theorem dX6_isSo_70 : decode cX6_isSo 70 = .ok (.iconst 0, 1) := by decide +kernel
theorem dX6_isSo_71 : decode cX6_isSo 71 = .ok (.ireturn, 1) := by decide +kernel
theorem dX6_isSo_72 : decode cX6_isSo 72 = .ok (.iload 4, 2) := by decide +kernel
theorem dX6_isSo_74 : decode cX6_isSo 74 = .ok (.iload_n 3, 1) := by decide +kernel
theorem dX6_isSo_75 : decode cX6_isSo 75 = .ok (.if_icmp .le 7, 3) := by decide +kernel
theorem dX6_isSo_78 : decode cX6_isSo 78 = .ok (.iconst 1, 1) := by decide +kernel
theorem dX6_isSo_79 : decode cX6_isSo 79 = .ok (.goto 4, 3) := by decide +kernel
theorem dX6_isSo_82 : decode cX6_isSo 82 = .ok (.iconst 0, 1) := by decide +kernel
theorem dX6_isSo_83 : decode cX6_isSo 83 = .ok (.ireturn, 1) := by decide +kernel
theorem dX6_valueOf_0 : decode cX6_valueOf 0 = .ok (.iload_n 0, 1) := by decide +kernel
theorem dX6_valueOf_1 : decode cX6_valueOf 1 = .ok (.tableswitch 63 0 4 #[35, 40, 45, 50, 58], 35) := by decide +kernel
theorem dX6_valueOf_36 : decode cX6_valueOf 36 = .ok (.aload_n 1, 1) := by decide +kernel
theorem dX6_valueOf_37 : decode cX6_valueOf 37 = .ok (.getfield 119, 3) := by decide +kernel
theorem dX6_valueOf_40 : decode cX6_valueOf 40 = .ok (.ireturn, 1) := by decide +kernel
theorem dX6_valueOf_41 : decode cX6_valueOf 41 = .ok (.aload_n 1, 1) := by decide +kernel
theorem dX6_valueOf_42 : decode cX6_valueOf 42 = .ok (.getfield 124, 3) := by decide +kernel
theorem dX6_valueOf_45 : decode cX6_valueOf 45 = .ok (.ireturn, 1) := by decide +kernel
theorem dX6_valueOf_46 : decode cX6_valueOf 46 = .ok (.aload_n 1, 1) := by decide +kernel
theorem dX6_valueOf_47 : decode cX6_valueOf 47 = .ok (.getfield 127, 3) := by decide +kernel
theorem dX6_valueOf_50 : decode cX6_valueOf 50 = .ok (.ireturn, 1) := by decide +kernel
theorem dX6_valueOf_51 : decode cX6_valueOf 51 = .ok (.aload_n 1, 1) := by decide +kernel
theorem dX6_valueOf_52 : decode cX6_valueOf 52 = .ok (.getfield 130, 3) := by decide +kernel
theorem dX6_valueOf_55 : decode cX6_valueOf 55 = .ok (.bipush 10, 2) := by decide +kernel
theorem dX6_valueOf_57 : decode cX6_valueOf 57 = .ok (.idiv, 1) := by decide +kernel
theorem dX6_valueOf_58 : decode cX6_valueOf 58 = .ok (.ireturn, 1) := by decide +kernel
theorem dX6_valueOf_59 : decode cX6_valueOf 59 = .ok (.iload_n 2, 1) := by decide +kernel
theorem dX6_valueOf_60 : decode cX6_valueOf 60 = .ok (.bipush 10, 2) := by decide +kernel
theorem dX6_valueOf_62 : decode cX6_valueOf 62 = .ok (.idiv, 1) := by decide +kernel
theorem dX6_valueOf_63 : decode cX6_valueOf 63 = .ok (.ireturn, 1) := by decide +kernel
theorem dX6_valueOf_64 : decode cX6_valueOf 64 = .ok (.aload_n 1, 1) := by decide +kernel
theorem dX6_valueOf_65 : decode cX6_valueOf 65 = .ok (.getfield 133, 3) := by decide +kernel
theorem dX6_valueOf_68 : decode cX6_valueOf 68 = .ok (.ireturn, 1) := by decide +kernel
theorem dX7_init_0 : decode cX7_init 0 = .ok (.aload_n 0, 1) := by decide +kernel
theorem dX7_init_1 : decode cX7_init 1 = .ok (.invokespecial 3, 3) := by decide +kernel
theorem dX7_init_4 : decode cX7_init 4 = .ok (.aload_n 0, 1) := by decide +kernel
theorem dX7_init_5 : decode cX7_init 5 = .ok (.aload_n 1, 1) := by decide +kernel
theorem dX7_init_6 : decode cX7_init 6 = .ok (.putfield 9, 3) := by decide +kernel
theorem dX7_init_9 : decode cX7_init 9 = .ok (.aload_n 0, 1) := by decide +kernel
theorem dX7_init_10 : decode cX7_init 10 = .ok (.iload_n 2, 1) := by decide +kernel
theorem dX7_init_11 : decode cX7_init 11 = .ok (.putfield 15, 3) := by decide +kernel
theorem dX7_init_14 : decode cX7_init 14 = .ok (.return_, 1) := by decide +kernel
theorem dX7_isFull_0 : decode cX7_isFull 0 = .ok (.aload_n 0, 1) := by decide +kernel
theorem dX7_isFull_1 : decode cX7_isFull 1 = .ok (.getfield 19, 3) := by decide +kernel
theorem dX7_isFull_4 : decode cX7_isFull 4 = .ok (.iconst 1, 1) := by decide +kernel
theorem dX7_isFull_5 : decode cX7_isFull 5 = .ok (.iadd, 1) := by decide +kernel
theorem dX7_isFull_6 : decode cX7_isFull 6 = .ok (.aload_n 0, 1) := by decide +kernel
theorem dX7_isFull_7 : decode cX7_isFull 7 = .ok (.getfield 15, 3) := by decide +kernel
theorem dX7_isFull_10 : decode cX7_isFull 10 = .ok (.imul, 1) := by decide +kernel
theorem dX7_isFull_11 : decode cX7_isFull 11 = .ok (.aload_n 0, 1) := by decide +kernel
theorem dX7_isFull_12 : decode cX7_isFull 12 = .ok (.getfield 9, 3) := by decide +kernel
theorem dX7_isFull_15 : decode cX7_isFull 15 = .ok (.arraylength, 1) := by decide +kernel
theorem dX7_isFull_16 : decode cX7_isFull 16 = .ok (.if_icmp .le 7, 3) := by decide +kernel
theorem dX7_isFull_19 : decode cX7_isFull 19 = .ok (.iconst 1, 1) := by decide +kernel
theorem dX7_isFull_20 : decode cX7_isFull 20 = .ok (.goto 4, 3) := by decide +kernel
theorem dX7_isFull_23 : decode cX7_isFull 23 = .ok (.iconst 0, 1) := by decide +kernel
theorem dX7_isFull_24 : decode cX7_isFull 24 = .ok (.ireturn, 1) := by decide +kernel
theorem dX7_empty_0 : decode cX7_empty 0 = .ok (.aload_n 0, 1) := by decide +kernel
theorem dX7_empty_1 : decode cX7_empty 1 = .ok (.iconst 0, 1) := by decide +kernel
theorem dX7_empty_2 : decode cX7_empty 2 = .ok (.putfield 19, 3) := by decide +kernel
theorem dX7_empty_5 : decode cX7_empty 5 = .ok (.iconst 0, 1) := by decide +kernel
theorem dX7_empty_6 : decode cX7_empty 6 = .ok (.ireturn, 1) := by decide +kernel
theorem dX7_add_0 : decode cX7_add 0 = .ok (.aload_n 0, 1) := by decide +kernel
theorem dX7_add_1 : decode cX7_add 1 = .ok (.invokevirtual 22, 3) := by decide +kernel
theorem dX7_add_4 : decode cX7_add 4 = .ok (.ifCond .ne 72, 3) := by decide +kernel
theorem dX7_add_7 : decode cX7_add 7 = .ok (.aload_n 0, 1) := by decide +kernel
theorem dX7_add_8 : decode cX7_add 8 = .ok (.getfield 19, 3) := by decide +kernel
theorem dX7_add_11 : decode cX7_add 11 = .ok (.aload_n 0, 1) := by decide +kernel
theorem dX7_add_12 : decode cX7_add 12 = .ok (.getfield 15, 3) := by decide +kernel
theorem dX7_add_15 : decode cX7_add 15 = .ok (.imul, 1) := by decide +kernel
theorem dX7_add_16 : decode cX7_add 16 = .ok (.istore 4, 2) := by decide +kernel
theorem dX7_add_18 : decode cX7_add 18 = .ok (.iconst 0, 1) := by decide +kernel
theorem dX7_add_19 : decode cX7_add 19 = .ok (.istore 5, 2) := by decide +kernel
theorem dX7_add_21 : decode cX7_add 21 = .ok (.iload 5, 2) := by decide +kernel
theorem dX7_add_23 : decode cX7_add 23 = .ok (.aload_n 0, 1) := by decide +kernel
theorem dX7_add_24 : decode cX7_add 24 = .ok (.getfield 15, 3) := by decide +kernel
theorem dX7_add_27 : decode cX7_add 27 = .ok (.if_icmp .ge 39, 3) := by decide +kernel
theorem dX7_add_30 : decode cX7_add 30 = .ok (.aload_n 0, 1) := by decide +kernel
theorem dX7_add_31 : decode cX7_add 31 = .ok (.getfield 9, 3) := by decide +kernel
theorem dX7_add_34 : decode cX7_add 34 = .ok (.iload 4, 2) := by decide +kernel
theorem dX7_add_36 : decode cX7_add 36 = .ok (.iload 5, 2) := by decide +kernel
theorem dX7_add_38 : decode cX7_add 38 = .ok (.iadd, 1) := by decide +kernel
theorem dX7_add_39 : decode cX7_add 39 = .ok (.iload 5, 2) := by decide +kernel
theorem dX7_add_41 : decode cX7_add 41 = .ok (.ifCond .ne 7, 3) := by decide +kernel
theorem dX7_add_44 : decode cX7_add 44 = .ok (.iload_n 1, 1) := by decide +kernel
theorem dX7_add_45 : decode cX7_add 45 = .ok (.goto 14, 3) := by decide +kernel
theorem dX7_add_48 : decode cX7_add 48 = .ok (.iload 5, 2) := by decide +kernel
theorem dX7_add_50 : decode cX7_add 50 = .ok (.iconst 1, 1) := by decide +kernel
theorem dX7_add_51 : decode cX7_add 51 = .ok (.if_icmp .ne 7, 3) := by decide +kernel
theorem dX7_add_54 : decode cX7_add 54 = .ok (.iload_n 2, 1) := by decide +kernel
theorem dX7_add_55 : decode cX7_add 55 = .ok (.goto 4, 3) := by decide +kernel
theorem dX7_add_58 : decode cX7_add 58 = .ok (.iload_n 3, 1) := by decide +kernel
theorem dX7_add_59 : decode cX7_add 59 = .ok (.iastore, 1) := by decide +kernel
theorem dX7_add_60 : decode cX7_add 60 = .ok (.iinc 5 1, 3) := by decide +kernel
theorem dX7_add_63 : decode cX7_add 63 = .ok (.goto (-42), 3) := by decide +kernel
theorem dX7_add_66 : decode cX7_add 66 = .ok (.aload_n 0, 1) := by decide +kernel
theorem dX7_add_67 : decode cX7_add 67 = .ok (.dup, 1) := by decide +kernel
theorem dX7_add_68 : decode cX7_add 68 = .ok (.getfield 19, 3) := by decide +kernel
theorem dX7_add_71 : decode cX7_add 71 = .ok (.iconst 1, 1) := by decide +kernel
theorem dX7_add_72 : decode cX7_add 72 = .ok (.iadd, 1) := by decide +kernel
theorem dX7_add_73 : decode cX7_add 73 = .ok (.putfield 19, 3) := by decide +kernel
theorem dX7_add_76 : decode cX7_add 76 = .ok (.aload_n 0, 1) := by decide +kernel
theorem dX7_add_77 : decode cX7_add 77 = .ok (.getfield 19, 3) := by decide +kernel
theorem dX7_add_80 : decode cX7_add 80 = .ok (.ireturn, 1) := by decide +kernel
theorem dX7_at_0 : decode cX7_at 0 = .ok (.iload_n 1, 1) := by decide +kernel
theorem dX7_at_1 : decode cX7_at 1 = .ok (.iconst 0, 1) := by decide +kernel
theorem dX7_at_2 : decode cX7_at 2 = .ok (.aload_n 0, 1) := by decide +kernel
theorem dX7_at_3 : decode cX7_at 3 = .ok (.getfield 19, 3) := by decide +kernel
theorem dX7_at_6 : decode cX7_at 6 = .ok (.iconst 1, 1) := by decide +kernel
theorem dX7_at_7 : decode cX7_at 7 = .ok (.isub, 1) := by decide +kernel
theorem dX7_at_8 : decode cX7_at 8 = .ok (.invokestatic 26, 3) := by decide +kernel
theorem dX7_at_11 : decode cX7_at 11 = .ok (.ifCond .eq 17, 3) := by decide +kernel
theorem dX7_at_14 : decode cX7_at 14 = .ok (.iload_n 2, 1) := by decide +kernel
theorem dX7_at_15 : decode cX7_at 15 = .ok (.iconst 0, 1) := by decide +kernel
theorem dX7_at_16 : decode cX7_at 16 = .ok (.aload_n 0, 1) := by decide +kernel
theorem dX7_at_17 : decode cX7_at 17 = .ok (.getfield 15, 3) := by decide +kernel
theorem dX7_at_20 : decode cX7_at 20 = .ok (.iconst 1, 1) := by decide +kernel
theorem dX7_at_21 : decode cX7_at 21 = .ok (.isub, 1) := by decide +kernel
theorem dX7_at_22 : decode cX7_at 22 = .ok (.invokestatic 26, 3) := by decide +kernel
theorem dX7_at_25 : decode cX7_at 25 = .ok (.ifCond .ne 5, 3) := by decide +kernel
theorem dX7_at_28 : decode cX7_at 28 = .ok (.iconst (-1), 1) := by decide +kernel
theorem dX7_at_29 : decode cX7_at 29 = .ok (.ireturn, 1) := by decide +kernel
theorem dX7_at_30 : decode cX7_at 30 = .ok (.aload_n 0, 1) := by decide +kernel
theorem dX7_at_31 : decode cX7_at 31 = .ok (.getfield 9, 3) := by decide +kernel
theorem dX7_at_34 : decode cX7_at 34 = .ok (.iload_n 1, 1) := by decide +kernel
theorem dX7_at_35 : decode cX7_at 35 = .ok (.aload_n 0, 1) := by decide +kernel
theorem dX7_at_36 : decode cX7_at 36 = .ok (.getfield 15, 3) := by decide +kernel
theorem dX7_at_39 : decode cX7_at 39 = .ok (.imul, 1) := by decide +kernel
theorem dX7_at_40 : decode cX7_at 40 = .ok (.iload_n 2, 1) := by decide +kernel
theorem dX7_at_41 : decode cX7_at 41 = .ok (.iadd, 1) := by decide +kernel
theorem dX7_at_42 : decode cX7_at 42 = .ok (.iaload, 1) := by decide +kernel
theorem dX7_at_43 : decode cX7_at 43 = .ok (.ireturn, 1) := by decide +kernel
theorem dX7_copyFrom_0 : decode cX7_copyFrom 0 = .ok (.aload_n 0, 1) := by decide +kernel
theorem dX7_copyFrom_1 : decode cX7_copyFrom 1 = .ok (.aload_n 1, 1) := by decide +kernel
theorem dX7_copyFrom_2 : decode cX7_copyFrom 2 = .ok (.getfield 19, 3) := by decide +kernel
theorem dX7_copyFrom_5 : decode cX7_copyFrom 5 = .ok (.putfield 19, 3) := by decide +kernel
theorem dX7_copyFrom_8 : decode cX7_copyFrom 8 = .ok (.iconst 0, 1) := by decide +kernel
theorem dX7_copyFrom_9 : decode cX7_copyFrom 9 = .ok (.istore_n 2, 1) := by decide +kernel
theorem dX7_copyFrom_10 : decode cX7_copyFrom 10 = .ok (.iload_n 2, 1) := by decide +kernel
theorem dX7_copyFrom_11 : decode cX7_copyFrom 11 = .ok (.aload_n 0, 1) := by decide +kernel
theorem dX7_copyFrom_12 : decode cX7_copyFrom 12 = .ok (.getfield 19, 3) := by decide +kernel
theorem dX7_copyFrom_15 : decode cX7_copyFrom 15 = .ok (.aload_n 0, 1) := by decide +kernel
theorem dX7_copyFrom_16 : decode cX7_copyFrom 16 = .ok (.getfield 15, 3) := by decide +kernel
theorem dX7_copyFrom_19 : decode cX7_copyFrom 19 = .ok (.imul, 1) := by decide +kernel
theorem dX7_copyFrom_20 : decode cX7_copyFrom 20 = .ok (.if_icmp .ge 39, 3) := by decide +kernel
theorem dX7_copyFrom_23 : decode cX7_copyFrom 23 = .ok (.iload_n 2, 1) := by decide +kernel
theorem dX7_copyFrom_24 : decode cX7_copyFrom 24 = .ok (.aload_n 0, 1) := by decide +kernel
theorem dX7_copyFrom_25 : decode cX7_copyFrom 25 = .ok (.getfield 9, 3) := by decide +kernel
theorem dX7_copyFrom_28 : decode cX7_copyFrom 28 = .ok (.arraylength, 1) := by decide +kernel
theorem dX7_copyFrom_29 : decode cX7_copyFrom 29 = .ok (.if_icmp .ge 30, 3) := by decide +kernel
theorem dX7_copyFrom_32 : decode cX7_copyFrom 32 = .ok (.iload_n 2, 1) := by decide +kernel
theorem dX7_copyFrom_33 : decode cX7_copyFrom 33 = .ok (.aload_n 1, 1) := by decide +kernel
theorem dX7_copyFrom_34 : decode cX7_copyFrom 34 = .ok (.getfield 9, 3) := by decide +kernel
theorem dX7_copyFrom_37 : decode cX7_copyFrom 37 = .ok (.arraylength, 1) := by decide +kernel
theorem dX7_copyFrom_38 : decode cX7_copyFrom 38 = .ok (.if_icmp .ge 21, 3) := by decide +kernel
theorem dX7_copyFrom_41 : decode cX7_copyFrom 41 = .ok (.aload_n 0, 1) := by decide +kernel
theorem dX7_copyFrom_42 : decode cX7_copyFrom 42 = .ok (.getfield 9, 3) := by decide +kernel
theorem dX7_copyFrom_45 : decode cX7_copyFrom 45 = .ok (.iload_n 2, 1) := by decide +kernel
theorem dX7_copyFrom_46 : decode cX7_copyFrom 46 = .ok (.aload_n 1, 1) := by decide +kernel
theorem dX7_copyFrom_47 : decode cX7_copyFrom 47 = .ok (.getfield 9, 3) := by decide +kernel
theorem dX7_copyFrom_50 : decode cX7_copyFrom 50 = .ok (.iload_n 2, 1) := by decide +kernel
theorem dX7_copyFrom_51 : decode cX7_copyFrom 51 = .ok (.iaload, 1) := by decide +kernel
theorem dX7_copyFrom_52 : decode cX7_copyFrom 52 = .ok (.iastore, 1) := by decide +kernel
theorem dX7_copyFrom_53 : decode cX7_copyFrom 53 = .ok (.iinc 2 1, 3) := by decide +kernel
theorem dX7_copyFrom_56 : decode cX7_copyFrom 56 = .ok (.goto (-46), 3) := by decide +kernel
theorem dX7_copyFrom_59 : decode cX7_copyFrom 59 = .ok (.return_, 1) := by decide +kernel
theorem dX8_init_0 : decode cX8_init 0 = .ok (.aload_n 0, 1) := by decide +kernel
theorem dX8_init_1 : decode cX8_init 1 = .ok (.iload_n 1, 1) := by decide +kernel
theorem dX8_init_2 : decode cX8_init 2 = .ok (.iload_n 2, 1) := by decide +kernel
theorem dX8_init_3 : decode cX8_init 3 = .ok (.iload_n 3, 1) := by decide +kernel
theorem dX8_init_4 : decode cX8_init 4 = .ok (.iload 4, 2) := by decide +kernel
theorem dX8_init_6 : decode cX8_init 6 = .ok (.iload 5, 2) := by decide +kernel
theorem dX8_init_8 : decode cX8_init 8 = .ok (.invokespecial 3, 3) := by decide +kernel
theorem dX8_init_11 : decode cX8_init 11 = .ok (.aload_n 0, 1) := by decide +kernel
theorem dX8_init_12 : decode cX8_init 12 = .ok (.iconst 4, 1) := by decide +kernel
theorem dX8_init_13 : decode cX8_init 13 = .ok (.newarray .int, 2) := by decide +kernel
theorem dX8_init_15 : decode cX8_init 15 = .ok (.putfield 9, 3) := by decide +kernel
theorem dX8_init_18 : decode cX8_init 18 = .ok (.return_, 1) := by decide +kernel
theorem dX8_copyFrom_0 : decode cX8_copyFrom 0 = .ok (.aload_n 0, 1) := by decide +kernel
theorem dX8_copyFrom_1 : decode cX8_copyFrom 1 = .ok (.aload_n 1, 1) := by decide +kernel
theorem dX8_copyFrom_2 : decode cX8_copyFrom 2 = .ok (.invokespecial 15, 3) := by decide +kernel
theorem dX8_copyFrom_5 : decode cX8_copyFrom 5 = .ok (.aload_n 1, 1) := by decide +kernel
theorem dX8_copyFrom_6 : decode cX8_copyFrom 6 = .ok (.instanceof 10, 3) := by decide +kernel
theorem dX8_copyFrom_9 : decode cX8_copyFrom 9 = .ok (.ifCond .eq 46, 3) := by decide +kernel
theorem dX8_copyFrom_12 : decode cX8_copyFrom 12 = .ok (.aload_n 1, 1) := by decide +kernel
theorem dX8_copyFrom_13 : decode cX8_copyFrom 13 = .ok (.checkcast 10, 3) := by decide +kernel
theorem dX8_copyFrom_16 : decode cX8_copyFrom 16 = .ok (.astore_n 2, 1) := by decide +kernel
theorem dX8_copyFrom_17 : decode cX8_copyFrom 17 = .ok (.iconst 0, 1) := by decide +kernel
theorem dX8_copyFrom_18 : decode cX8_copyFrom 18 = .ok (.istore_n 3, 1) := by decide +kernel
theorem dX8_copyFrom_19 : decode cX8_copyFrom 19 = .ok (.iload_n 3, 1) := by decide +kernel
theorem dX8_copyFrom_20 : decode cX8_copyFrom 20 = .ok (.aload_n 0, 1) := by decide +kernel
theorem dX8_copyFrom_21 : decode cX8_copyFrom 21 = .ok (.getfield 9, 3) := by decide +kernel
theorem dX8_copyFrom_24 : decode cX8_copyFrom 24 = .ok (.arraylength, 1) := by decide +kernel
theorem dX8_copyFrom_25 : decode cX8_copyFrom 25 = .ok (.if_icmp .ge 30, 3) := by decide +kernel
theorem dX8_copyFrom_28 : decode cX8_copyFrom 28 = .ok (.iload_n 3, 1) := by decide +kernel
theorem dX8_copyFrom_29 : decode cX8_copyFrom 29 = .ok (.aload_n 2, 1) := by decide +kernel
theorem dX8_copyFrom_30 : decode cX8_copyFrom 30 = .ok (.getfield 9, 3) := by decide +kernel
theorem dX8_copyFrom_33 : decode cX8_copyFrom 33 = .ok (.arraylength, 1) := by decide +kernel
theorem dX8_copyFrom_34 : decode cX8_copyFrom 34 = .ok (.if_icmp .ge 21, 3) := by decide +kernel
theorem dX8_copyFrom_37 : decode cX8_copyFrom 37 = .ok (.aload_n 0, 1) := by decide +kernel
theorem dX8_copyFrom_38 : decode cX8_copyFrom 38 = .ok (.getfield 9, 3) := by decide +kernel
theorem dX8_copyFrom_41 : decode cX8_copyFrom 41 = .ok (.iload_n 3, 1) := by decide +kernel
theorem dX8_copyFrom_42 : decode cX8_copyFrom 42 = .ok (.aload_n 2, 1) := by decide +kernel
theorem dX8_copyFrom_43 : decode cX8_copyFrom 43 = .ok (.getfield 9, 3) := by decide +kernel
theorem dX8_copyFrom_46 : decode cX8_copyFrom 46 = .ok (.iload_n 3, 1) := by decide +kernel
theorem dX8_copyFrom_47 : decode cX8_copyFrom 47 = .ok (.iaload, 1) := by decide +kernel
theorem dX8_copyFrom_48 : decode cX8_copyFrom 48 = .ok (.iastore, 1) := by decide +kernel
theorem dX8_copyFrom_49 : decode cX8_copyFrom 49 = .ok (.iinc 3 1, 3) := by decide +kernel
theorem dX8_copyFrom_52 : decode cX8_copyFrom 52 = .ok (.goto (-33), 3) := by decide +kernel
theorem dX8_copyFrom_55 : decode cX8_copyFrom 55 = .ok (.return_, 1) := by decide +kernel
theorem dX8_tell_0 : decode cX8_tell 0 = .ok (.iload_n 1, 1) := by decide +kernel
theorem dX8_tell_1 : decode cX8_tell 1 = .ok (.iconst 0, 1) := by decide +kernel
theorem dX8_tell_2 : decode cX8_tell 2 = .ok (.aload_n 0, 1) := by decide +kernel
theorem dX8_tell_3 : decode cX8_tell 3 = .ok (.getfield 9, 3) := by decide +kernel
theorem dX8_tell_6 : decode cX8_tell 6 = .ok (.arraylength, 1) := by decide +kernel
theorem dX8_tell_7 : decode cX8_tell 7 = .ok (.iconst 1, 1) := by decide +kernel
theorem dX8_tell_8 : decode cX8_tell 8 = .ok (.isub, 1) := by decide +kernel
theorem dX8_tell_9 : decode cX8_tell 9 = .ok (.invokestatic 19, 3) := by decide +kernel
theorem dX8_tell_12 : decode cX8_tell 12 = .ok (.ifCond .ne 5, 3) := by decide +kernel
theorem dX8_tell_15 : decode cX8_tell 15 = .ok (.iconst (-1), 1) := by decide +kernel
theorem dX8_tell_16 : decode cX8_tell 16 = .ok (.ireturn, 1) := by decide +kernel
theorem dX8_tell_17 : decode cX8_tell 17 = .ok (.aload_n 0, 1) := by decide +kernel
theorem dX8_tell_18 : decode cX8_tell 18 = .ok (.getfield 9, 3) := by decide +kernel
theorem dX8_tell_21 : decode cX8_tell 21 = .ok (.iload_n 1, 1) := by decide +kernel
theorem dX8_tell_22 : decode cX8_tell 22 = .ok (.iaload, 1) := by decide +kernel
theorem dX8_tell_23 : decode cX8_tell 23 = .ok (.istore_n 3, 1) := by decide +kernel
theorem dX8_tell_24 : decode cX8_tell 24 = .ok (.aload_n 0, 1) := by decide +kernel
theorem dX8_tell_25 : decode cX8_tell 25 = .ok (.getfield 9, 3) := by decide +kernel
theorem dX8_tell_28 : decode cX8_tell 28 = .ok (.iload_n 1, 1) := by decide +kernel
theorem dX8_tell_29 : decode cX8_tell 29 = .ok (.iload_n 2, 1) := by decide +kernel
theorem dX8_tell_30 : decode cX8_tell 30 = .ok (.iastore, 1) := by decide +kernel
theorem dX8_tell_31 : decode cX8_tell 31 = .ok (.iload_n 3, 1) := by decide +kernel
theorem dX8_tell_32 : decode cX8_tell 32 = .ok (.ireturn, 1) := by decide +kernel
theorem dX8_strength_0 : decode cX8_strength 0 = .ok (.aload_n 0, 1) := by decide +kernel
theorem dX8_strength_1 : decode cX8_strength 1 = .ok (.iload_n 1, 1) := by decide +kernel
theorem dX8_strength_2 : decode cX8_strength 2 = .ok (.iload_n 2, 1) := by decide +kernel
theorem dX8_strength_3 : decode cX8_strength 3 = .ok (.invokespecial 23, 3) := by decide +kernel
theorem dX8_strength_6 : decode cX8_strength 6 = .ok (.aload_n 0, 1) := by decide +kernel
theorem dX8_strength_7 : decode cX8_strength 7 = .ok (.getfield 9, 3) := by decide +kernel
theorem dX8_strength_10 : decode cX8_strength 10 = .ok (.iload_n 1, 1) := by decide +kernel
theorem dX8_strength_11 : decode cX8_strength 11 = .ok (.aload_n 0, 1) := by decide +kernel
theorem dX8_strength_12 : decode cX8_strength 12 = .ok (.getfield 9, 3) := by decide +kernel
theorem dX8_strength_15 : decode cX8_strength 15 = .ok (.arraylength, 1) := by decide +kernel
theorem dX8_strength_16 : decode cX8_strength 16 = .ok (.invokestatic 27, 3) := by decide +kernel
theorem dX8_strength_19 : decode cX8_strength 19 = .ok (.iaload, 1) := by decide +kernel
theorem dX8_strength_20 : decode cX8_strength 20 = .ok (.iadd, 1) := by decide +kernel
theorem dX8_strength_21 : decode cX8_strength 21 = .ok (.ireturn, 1) := by decide +kernel
theorem dX8_prints_0 : decode cX8_prints 0 = .ok (.aload_n 2, 1) := by decide +kernel
theorem dX8_prints_1 : decode cX8_prints 1 = .ok (.bipush 61, 2) := by decide +kernel
theorem dX8_prints_3 : decode cX8_prints 3 = .ok (.invokevirtual 32, 3) := by decide +kernel
theorem dX8_prints_6 : decode cX8_prints 6 = .ok (.aload_n 0, 1) := by decide +kernel
theorem dX8_prints_7 : decode cX8_prints 7 = .ok (.iload_n 1, 1) := by decide +kernel
theorem dX8_prints_8 : decode cX8_prints 8 = .ok (.aload_n 2, 1) := by decide +kernel
theorem dX8_prints_9 : decode cX8_prints 9 = .ok (.invokespecial 38, 3) := by decide +kernel
theorem dX8_prints_12 : decode cX8_prints 12 = .ok (.aload_n 0, 1) := by decide +kernel
theorem dX8_prints_13 : decode cX8_prints 13 = .ok (.getfield 42, 3) := by decide +kernel
theorem dX8_prints_16 : decode cX8_prints 16 = .ok (.iadd, 1) := by decide +kernel
theorem dX8_prints_17 : decode cX8_prints 17 = .ok (.ireturn, 1) := by decide +kernel
theorem dX9_init_0 : decode cX9_init 0 = .ok (.aload_n 0, 1) := by decide +kernel
theorem dX9_init_1 : decode cX9_init 1 = .ok (.invokespecial 1, 3) := by decide +kernel
theorem dX9_init_4 : decode cX9_init 4 = .ok (.aload_n 0, 1) := by decide +kernel
theorem dX9_init_5 : decode cX9_init 5 = .ok (.bipush 20, 2) := by decide +kernel
theorem dX9_init_7 : decode cX9_init 7 = .ok (.newarray .int, 2) := by decide +kernel
theorem dX9_init_9 : decode cX9_init 9 = .ok (.putfield 7, 3) := by decide +kernel
theorem dX9_init_12 : decode cX9_init 12 = .ok (.return_, 1) := by decide +kernel
theorem dX9_began_0 : decode cX9_began 0 = .ok (.aload_n 0, 1) := by decide +kernel
theorem dX9_began_1 : decode cX9_began 1 = .ok (.getfield 13, 3) := by decide +kernel
theorem dX9_began_4 : decode cX9_began 4 = .ok (.aload_n 0, 1) := by decide +kernel
theorem dX9_began_5 : decode cX9_began 5 = .ok (.getfield 7, 3) := by decide +kernel
theorem dX9_began_8 : decode cX9_began 8 = .ok (.arraylength, 1) := by decide +kernel
theorem dX9_began_9 : decode cX9_began 9 = .ok (.if_icmp .ge 13, 3) := by decide +kernel
theorem dX9_began_12 : decode cX9_began 12 = .ok (.aload_n 0, 1) := by decide +kernel
theorem dX9_began_13 : decode cX9_began 13 = .ok (.getfield 7, 3) := by decide +kernel
theorem dX9_began_16 : decode cX9_began 16 = .ok (.aload_n 0, 1) := by decide +kernel
theorem dX9_began_17 : decode cX9_began 17 = .ok (.getfield 13, 3) := by decide +kernel
theorem dX9_began_20 : decode cX9_began 20 = .ok (.iload_n 1, 1) := by decide +kernel
theorem dX9_began_21 : decode cX9_began 21 = .ok (.iastore, 1) := by decide +kernel
theorem dX9_began_22 : decode cX9_began 22 = .ok (.aload_n 0, 1) := by decide +kernel
theorem dX9_began_23 : decode cX9_began 23 = .ok (.dup, 1) := by decide +kernel
theorem dX9_began_24 : decode cX9_began 24 = .ok (.getfield 13, 3) := by decide +kernel
theorem dX9_began_27 : decode cX9_began 27 = .ok (.iconst 1, 1) := by decide +kernel
theorem dX9_began_28 : decode cX9_began 28 = .ok (.iadd, 1) := by decide +kernel
theorem dX9_began_29 : decode cX9_began 29 = .ok (.putfield 13, 3) := by decide +kernel
theorem dX9_began_32 : decode cX9_began 32 = .ok (.return_, 1) := by decide +kernel
theorem dX10_init_0 : decode cX10_init 0 = .ok (.aload_n 0, 1) := by decide +kernel
theorem dX10_init_1 : decode cX10_init 1 = .ok (.iload_n 1, 1) := by decide +kernel
theorem dX10_init_2 : decode cX10_init 2 = .ok (.iload_n 2, 1) := by decide +kernel
theorem dX10_init_3 : decode cX10_init 3 = .ok (.iload_n 3, 1) := by decide +kernel
theorem dX10_init_4 : decode cX10_init 4 = .ok (.iload 4, 2) := by decide +kernel
theorem dX10_init_6 : decode cX10_init 6 = .ok (.iload 5, 2) := by decide +kernel
theorem dX10_init_8 : decode cX10_init 8 = .ok (.invokespecial 1, 3) := by decide +kernel
theorem dX10_init_11 : decode cX10_init 11 = .ok (.return_, 1) := by decide +kernel
theorem dX10_flawBy_0 : decode cX10_flawBy 0 = .ok (.aload_n 0, 1) := by decide +kernel
theorem dX10_flawBy_1 : decode cX10_flawBy 1 = .ok (.iload_n 1, 1) := by decide +kernel
theorem dX10_flawBy_2 : decode cX10_flawBy 2 = .ok (.invokespecial 7, 3) := by decide +kernel
theorem dX10_flawBy_5 : decode cX10_flawBy 5 = .ok (.istore_n 2, 1) := by decide +kernel
theorem dX10_flawBy_6 : decode cX10_flawBy 6 = .ok (.iload_n 2, 1) := by decide +kernel
theorem dX10_flawBy_7 : decode cX10_flawBy 7 = .ok (.iconst 2, 1) := by decide +kernel
theorem dX10_flawBy_8 : decode cX10_flawBy 8 = .ok (.if_icmp .ne 7, 3) := by decide +kernel
theorem dX10_flawBy_11 : decode cX10_flawBy 11 = .ok (.iconst 1, 1) := by decide +kernel
theorem dX10_flawBy_12 : decode cX10_flawBy 12 = .ok (.goto 4, 3) := by decide +kernel
theorem dX10_flawBy_15 : decode cX10_flawBy 15 = .ok (.iload_n 2, 1) := by decide +kernel
theorem dX10_flawBy_16 : decode cX10_flawBy 16 = .ok (.ireturn, 1) := by decide +kernel
theorem dX10_strength_0 : decode cX10_strength 0 = .ok (.aload_n 0, 1) := by decide +kernel
theorem dX10_strength_1 : decode cX10_strength 1 = .ok (.iload_n 1, 1) := by decide +kernel
theorem dX10_strength_2 : decode cX10_strength 2 = .ok (.iload_n 2, 1) := by decide +kernel
theorem dX10_strength_3 : decode cX10_strength 3 = .ok (.invokespecial 11, 3) := by decide +kernel
theorem dX10_strength_6 : decode cX10_strength 6 = .ok (.aload_n 0, 1) := by decide +kernel
theorem dX10_strength_7 : decode cX10_strength 7 = .ok (.getfield 15, 3) := by decide +kernel
theorem dX10_strength_10 : decode cX10_strength 10 = .ok (.iconst 1, 1) := by decide +kernel
theorem dX10_strength_11 : decode cX10_strength 11 = .ok (.if_icmp .ne 7, 3) := by decide +kernel
theorem dX10_strength_14 : decode cX10_strength 14 = .ok (.iconst 2, 1) := by decide +kernel
theorem dX10_strength_15 : decode cX10_strength 15 = .ok (.goto 4, 3) := by decide +kernel
theorem dX10_strength_18 : decode cX10_strength 18 = .ok (.iconst 0, 1) := by decide +kernel
theorem dX10_strength_19 : decode cX10_strength 19 = .ok (.iadd, 1) := by decide +kernel
theorem dX10_strength_20 : decode cX10_strength 20 = .ok (.ireturn, 1) := by decide +kernel
theorem dX10_cuts_0 : decode cX10_cuts 0 = .ok (.aload_n 2, 1) := by decide +kernel
theorem dX10_cuts_1 : decode cX10_cuts 1 = .ok (.bipush 51, 2) := by decide +kernel
theorem dX10_cuts_3 : decode cX10_cuts 3 = .ok (.invokevirtual 21, 3) := by decide +kernel
theorem dX10_cuts_6 : decode cX10_cuts 6 = .ok (.aload_n 0, 1) := by decide +kernel
theorem dX10_cuts_7 : decode cX10_cuts 7 = .ok (.iload_n 1, 1) := by decide +kernel
theorem dX10_cuts_8 : decode cX10_cuts 8 = .ok (.aload_n 2, 1) := by decide +kernel
theorem dX10_cuts_9 : decode cX10_cuts 9 = .ok (.invokespecial 27, 3) := by decide +kernel
theorem dX10_cuts_12 : decode cX10_cuts 12 = .ok (.aload_n 0, 1) := by decide +kernel
theorem dX10_cuts_13 : decode cX10_cuts 13 = .ok (.getfield 31, 3) := by decide +kernel
theorem dX10_cuts_16 : decode cX10_cuts 16 = .ok (.ixor, 1) := by decide +kernel
theorem dX10_cuts_17 : decode cX10_cuts 17 = .ok (.ireturn, 1) := by decide +kernel
theorem dJ11_isValidCodePoint_9a6ad_0 : decode cJ11_isValidCodePoint_9a6ad 0 = .ok (.iload_n 0, 1) := by decide +kernel
theorem dJ11_isValidCodePoint_9a6ad_1 : decode cJ11_isValidCodePoint_9a6ad 1 = .ok (.bipush 16, 2) := by decide +kernel
theorem dJ11_isValidCodePoint_9a6ad_3 : decode cJ11_isValidCodePoint_9a6ad 3 = .ok (.iushr, 1) := by decide +kernel
theorem dJ11_isValidCodePoint_9a6ad_4 : decode cJ11_isValidCodePoint_9a6ad 4 = .ok (.istore_n 1, 1) := by decide +kernel
theorem dJ11_isValidCodePoint_9a6ad_5 : decode cJ11_isValidCodePoint_9a6ad 5 = .ok (.iload_n 1, 1) := by decide +kernel
theorem dJ11_isValidCodePoint_9a6ad_6 : decode cJ11_isValidCodePoint_9a6ad 6 = .ok (.bipush 17, 2) := by decide +kernel
theorem dJ11_isValidCodePoint_9a6ad_8 : decode cJ11_isValidCodePoint_9a6ad 8 = .ok (.if_icmp .ge 7, 3) := by decide +kernel
theorem dJ11_isValidCodePoint_9a6ad_11 : decode cJ11_isValidCodePoint_9a6ad 11 = .ok (.iconst 1, 1) := by decide +kernel
theorem dJ11_isValidCodePoint_9a6ad_12 : decode cJ11_isValidCodePoint_9a6ad 12 = .ok (.goto 4, 3) := by decide +kernel
theorem dJ11_isValidCodePoint_9a6ad_15 : decode cJ11_isValidCodePoint_9a6ad 15 = .ok (.iconst 0, 1) := by decide +kernel
theorem dJ11_isValidCodePoint_9a6ad_16 : decode cJ11_isValidCodePoint_9a6ad 16 = .ok (.ireturn, 1) := by decide +kernel
theorem dJ11_highSurrogate_5068e_0 : decode cJ11_highSurrogate_5068e 0 = .ok (.iload_n 0, 1) := by decide +kernel
theorem dJ11_highSurrogate_5068e_1 : decode cJ11_highSurrogate_5068e 1 = .ok (.bipush 10, 2) := by decide +kernel
theorem dJ11_highSurrogate_5068e_3 : decode cJ11_highSurrogate_5068e 3 = .ok (.iushr, 1) := by decide +kernel
theorem dJ11_highSurrogate_5068e_4 : decode cJ11_highSurrogate_5068e 4 = .ok (.ldc 110, 2) := by decide +kernel
theorem dJ11_highSurrogate_5068e_6 : decode cJ11_highSurrogate_5068e 6 = .ok (.iadd, 1) := by decide +kernel
theorem dJ11_highSurrogate_5068e_7 : decode cJ11_highSurrogate_5068e 7 = .ok (.i2c, 1) := by decide +kernel
theorem dJ11_highSurrogate_5068e_8 : decode cJ11_highSurrogate_5068e 8 = .ok (.ireturn, 1) := by decide +kernel
theorem dJ11_lowSurrogate_5068e_0 : decode cJ11_lowSurrogate_5068e 0 = .ok (.iload_n 0, 1) := by decide +kernel
theorem dJ11_lowSurrogate_5068e_1 : decode cJ11_lowSurrogate_5068e 1 = .ok (.sipush 1023, 3) := by decide +kernel
theorem dJ11_lowSurrogate_5068e_4 : decode cJ11_lowSurrogate_5068e 4 = .ok (.iand, 1) := by decide +kernel
theorem dJ11_lowSurrogate_5068e_5 : decode cJ11_lowSurrogate_5068e 5 = .ok (.ldc 76, 2) := by decide +kernel
theorem dJ11_lowSurrogate_5068e_7 : decode cJ11_lowSurrogate_5068e 7 = .ok (.iadd, 1) := by decide +kernel
theorem dJ11_lowSurrogate_5068e_8 : decode cJ11_lowSurrogate_5068e 8 = .ok (.i2c, 1) := by decide +kernel
theorem dJ11_lowSurrogate_5068e_9 : decode cJ11_lowSurrogate_5068e 9 = .ok (.ireturn, 1) := by decide +kernel
theorem dJ6_bitCount_0f7a4_0 : decode cJ6_bitCount_0f7a4 0 = .ok (.iload_n 0, 1) := by decide +kernel
theorem dJ6_bitCount_0f7a4_1 : decode cJ6_bitCount_0f7a4 1 = .ok (.iload_n 0, 1) := by decide +kernel
theorem dJ6_bitCount_0f7a4_2 : decode cJ6_bitCount_0f7a4 2 = .ok (.iconst 1, 1) := by decide +kernel
theorem dJ6_bitCount_0f7a4_3 : decode cJ6_bitCount_0f7a4 3 = .ok (.iushr, 1) := by decide +kernel
theorem dJ6_bitCount_0f7a4_4 : decode cJ6_bitCount_0f7a4 4 = .ok (.ldc_w 265, 3) := by decide +kernel
theorem dJ6_bitCount_0f7a4_7 : decode cJ6_bitCount_0f7a4 7 = .ok (.iand, 1) := by decide +kernel
theorem dJ6_bitCount_0f7a4_8 : decode cJ6_bitCount_0f7a4 8 = .ok (.isub, 1) := by decide +kernel
theorem dJ6_bitCount_0f7a4_9 : decode cJ6_bitCount_0f7a4 9 = .ok (.istore_n 0, 1) := by decide +kernel
theorem dJ6_bitCount_0f7a4_10 : decode cJ6_bitCount_0f7a4 10 = .ok (.iload_n 0, 1) := by decide +kernel
theorem dJ6_bitCount_0f7a4_11 : decode cJ6_bitCount_0f7a4 11 = .ok (.ldc_w 266, 3) := by decide +kernel
theorem dJ6_bitCount_0f7a4_14 : decode cJ6_bitCount_0f7a4 14 = .ok (.iand, 1) := by decide +kernel
theorem dJ6_bitCount_0f7a4_15 : decode cJ6_bitCount_0f7a4 15 = .ok (.iload_n 0, 1) := by decide +kernel
theorem dJ6_bitCount_0f7a4_16 : decode cJ6_bitCount_0f7a4 16 = .ok (.iconst 2, 1) := by decide +kernel
theorem dJ6_bitCount_0f7a4_17 : decode cJ6_bitCount_0f7a4 17 = .ok (.iushr, 1) := by decide +kernel
theorem dJ6_bitCount_0f7a4_18 : decode cJ6_bitCount_0f7a4 18 = .ok (.ldc_w 266, 3) := by decide +kernel
theorem dJ6_bitCount_0f7a4_21 : decode cJ6_bitCount_0f7a4 21 = .ok (.iand, 1) := by decide +kernel
theorem dJ6_bitCount_0f7a4_22 : decode cJ6_bitCount_0f7a4 22 = .ok (.iadd, 1) := by decide +kernel
theorem dJ6_bitCount_0f7a4_23 : decode cJ6_bitCount_0f7a4 23 = .ok (.istore_n 0, 1) := by decide +kernel
theorem dJ6_bitCount_0f7a4_24 : decode cJ6_bitCount_0f7a4 24 = .ok (.iload_n 0, 1) := by decide +kernel
theorem dJ6_bitCount_0f7a4_25 : decode cJ6_bitCount_0f7a4 25 = .ok (.iload_n 0, 1) := by decide +kernel
theorem dJ6_bitCount_0f7a4_26 : decode cJ6_bitCount_0f7a4 26 = .ok (.iconst 4, 1) := by decide +kernel
theorem dJ6_bitCount_0f7a4_27 : decode cJ6_bitCount_0f7a4 27 = .ok (.iushr, 1) := by decide +kernel
theorem dJ6_bitCount_0f7a4_28 : decode cJ6_bitCount_0f7a4 28 = .ok (.iadd, 1) := by decide +kernel
theorem dJ6_bitCount_0f7a4_29 : decode cJ6_bitCount_0f7a4 29 = .ok (.ldc_w 267, 3) := by decide +kernel
theorem dJ6_bitCount_0f7a4_32 : decode cJ6_bitCount_0f7a4 32 = .ok (.iand, 1) := by decide +kernel
theorem dJ6_bitCount_0f7a4_33 : decode cJ6_bitCount_0f7a4 33 = .ok (.istore_n 0, 1) := by decide +kernel
theorem dJ6_bitCount_0f7a4_34 : decode cJ6_bitCount_0f7a4 34 = .ok (.iload_n 0, 1) := by decide +kernel
theorem dJ6_bitCount_0f7a4_35 : decode cJ6_bitCount_0f7a4 35 = .ok (.iload_n 0, 1) := by decide +kernel
theorem dJ6_bitCount_0f7a4_36 : decode cJ6_bitCount_0f7a4 36 = .ok (.bipush 8, 2) := by decide +kernel
theorem dJ6_bitCount_0f7a4_38 : decode cJ6_bitCount_0f7a4 38 = .ok (.iushr, 1) := by decide +kernel
theorem dJ6_bitCount_0f7a4_39 : decode cJ6_bitCount_0f7a4 39 = .ok (.iadd, 1) := by decide +kernel
theorem dJ6_bitCount_0f7a4_40 : decode cJ6_bitCount_0f7a4 40 = .ok (.istore_n 0, 1) := by decide +kernel
theorem dJ6_bitCount_0f7a4_41 : decode cJ6_bitCount_0f7a4 41 = .ok (.iload_n 0, 1) := by decide +kernel
theorem dJ6_bitCount_0f7a4_42 : decode cJ6_bitCount_0f7a4 42 = .ok (.iload_n 0, 1) := by decide +kernel
theorem dJ6_bitCount_0f7a4_43 : decode cJ6_bitCount_0f7a4 43 = .ok (.bipush 16, 2) := by decide +kernel
theorem dJ6_bitCount_0f7a4_45 : decode cJ6_bitCount_0f7a4 45 = .ok (.iushr, 1) := by decide +kernel
theorem dJ6_bitCount_0f7a4_46 : decode cJ6_bitCount_0f7a4 46 = .ok (.iadd, 1) := by decide +kernel
theorem dJ6_bitCount_0f7a4_47 : decode cJ6_bitCount_0f7a4 47 = .ok (.istore_n 0, 1) := by decide +kernel
theorem dJ6_bitCount_0f7a4_48 : decode cJ6_bitCount_0f7a4 48 = .ok (.iload_n 0, 1) := by decide +kernel
theorem dJ6_bitCount_0f7a4_49 : decode cJ6_bitCount_0f7a4 49 = .ok (.bipush 63, 2) := by decide +kernel
theorem dJ6_bitCount_0f7a4_51 : decode cJ6_bitCount_0f7a4 51 = .ok (.iand, 1) := by decide +kernel
theorem dJ6_bitCount_0f7a4_52 : decode cJ6_bitCount_0f7a4 52 = .ok (.ireturn, 1) := by decide +kernel
theorem dJ9_floorMod_7cf53_0 : decode cJ9_floorMod_7cf53 0 = .ok (.iload_n 0, 1) := by decide +kernel
theorem dJ9_floorMod_7cf53_1 : decode cJ9_floorMod_7cf53 1 = .ok (.iload_n 1, 1) := by decide +kernel
theorem dJ9_floorMod_7cf53_2 : decode cJ9_floorMod_7cf53 2 = .ok (.irem, 1) := by decide +kernel
theorem dJ9_floorMod_7cf53_3 : decode cJ9_floorMod_7cf53 3 = .ok (.istore_n 2, 1) := by decide +kernel
theorem dJ9_floorMod_7cf53_4 : decode cJ9_floorMod_7cf53 4 = .ok (.iload_n 0, 1) := by decide +kernel
theorem dJ9_floorMod_7cf53_5 : decode cJ9_floorMod_7cf53 5 = .ok (.iload_n 1, 1) := by decide +kernel
theorem dJ9_floorMod_7cf53_6 : decode cJ9_floorMod_7cf53 6 = .ok (.ixor, 1) := by decide +kernel
theorem dJ9_floorMod_7cf53_7 : decode cJ9_floorMod_7cf53 7 = .ok (.ifCond .ge 11, 3) := by decide +kernel
theorem dJ9_floorMod_7cf53_10 : decode cJ9_floorMod_7cf53 10 = .ok (.iload_n 2, 1) := by decide +kernel
theorem dJ9_floorMod_7cf53_11 : decode cJ9_floorMod_7cf53 11 = .ok (.ifCond .eq 7, 3) := by decide +kernel
theorem dJ9_floorMod_7cf53_14 : decode cJ9_floorMod_7cf53 14 = .ok (.iload_n 2, 1) := by decide +kernel
theorem dJ9_floorMod_7cf53_15 : decode cJ9_floorMod_7cf53 15 = .ok (.iload_n 1, 1) := by decide +kernel
theorem dJ9_floorMod_7cf53_16 : decode cJ9_floorMod_7cf53 16 = .ok (.iadd, 1) := by decide +kernel
theorem dJ9_floorMod_7cf53_17 : decode cJ9_floorMod_7cf53 17 = .ok (.ireturn, 1) := by decide +kernel
theorem dJ9_floorMod_7cf53_18 : decode cJ9_floorMod_7cf53 18 = .ok (.iload_n 2, 1) := by decide +kernel
theorem dJ9_floorMod_7cf53_19 : decode cJ9_floorMod_7cf53 19 = .ok (.ireturn, 1) := by decide +kernel
theorem dJ9_abs_0f7a4_0 : decode cJ9_abs_0f7a4 0 = .ok (.iload_n 0, 1) := by decide +kernel
theorem dJ9_abs_0f7a4_1 : decode cJ9_abs_0f7a4 1 = .ok (.ifCond .ge 8, 3) := by decide +kernel
theorem dJ9_abs_0f7a4_4 : decode cJ9_abs_0f7a4 4 = .ok (.iload_n 0, 1) := by decide +kernel
theorem dJ9_abs_0f7a4_5 : decode cJ9_abs_0f7a4 5 = .ok (.ineg, 1) := by decide +kernel
theorem dJ9_abs_0f7a4_6 : decode cJ9_abs_0f7a4 6 = .ok (.goto 4, 3) := by decide +kernel
theorem dJ9_abs_0f7a4_9 : decode cJ9_abs_0f7a4 9 = .ok (.iload_n 0, 1) := by decide +kernel
theorem dJ9_abs_0f7a4_10 : decode cJ9_abs_0f7a4 10 = .ok (.ireturn, 1) := by decide +kernel
theorem dJ9_max_7cf53_0 : decode cJ9_max_7cf53 0 = .ok (.iload_n 0, 1) := by decide +kernel
theorem dJ9_max_7cf53_1 : decode cJ9_max_7cf53 1 = .ok (.iload_n 1, 1) := by decide +kernel
theorem dJ9_max_7cf53_2 : decode cJ9_max_7cf53 2 = .ok (.if_icmp .lt 7, 3) := by decide +kernel
theorem dJ9_max_7cf53_5 : decode cJ9_max_7cf53 5 = .ok (.iload_n 0, 1) := by decide +kernel
theorem dJ9_max_7cf53_6 : decode cJ9_max_7cf53 6 = .ok (.goto 4, 3) := by decide +kernel
theorem dJ9_max_7cf53_9 : decode cJ9_max_7cf53 9 = .ok (.iload_n 1, 1) := by decide +kernel
theorem dJ9_max_7cf53_10 : decode cJ9_max_7cf53 10 = .ok (.ireturn, 1) := by decide +kernel
theorem dJ9_min_7cf53_0 : decode cJ9_min_7cf53 0 = .ok (.iload_n 0, 1) := by decide +kernel
theorem dJ9_min_7cf53_1 : decode cJ9_min_7cf53 1 = .ok (.iload_n 1, 1) := by decide +kernel
theorem dJ9_min_7cf53_2 : decode cJ9_min_7cf53 2 = .ok (.if_icmp .gt 7, 3) := by decide +kernel
theorem dJ9_min_7cf53_5 : decode cJ9_min_7cf53 5 = .ok (.iload_n 0, 1) := by decide +kernel
theorem dJ9_min_7cf53_6 : decode cJ9_min_7cf53 6 = .ok (.goto 4, 3) := by decide +kernel
theorem dJ9_min_7cf53_9 : decode cJ9_min_7cf53 9 = .ok (.iload_n 1, 1) := by decide +kernel
theorem dJ9_min_7cf53_10 : decode cJ9_min_7cf53 10 = .ok (.ireturn, 1) := by decide +kernel
theorem dJ0_length_8abf5_0 : decode cJ0_length_8abf5 0 = .ok (.aload_n 0, 1) := by decide +kernel
theorem dJ0_length_8abf5_1 : decode cJ0_length_8abf5 1 = .ok (.getfield 9, 3) := by decide +kernel
theorem dJ0_length_8abf5_4 : decode cJ0_length_8abf5 4 = .ok (.arraylength, 1) := by decide +kernel
theorem dJ0_length_8abf5_5 : decode cJ0_length_8abf5 5 = .ok (.aload_n 0, 1) := by decide +kernel
theorem dJ0_length_8abf5_6 : decode cJ0_length_8abf5 6 = .ok (.invokevirtual 335, 3) := by decide +kernel
theorem dJ0_length_8abf5_9 : decode cJ0_length_8abf5 9 = .ok (.ishr, 1) := by decide +kernel
theorem dJ0_length_8abf5_10 : decode cJ0_length_8abf5 10 = .ok (.ireturn, 1) := by decide +kernel
theorem dJ0_charAt_5068e_0 : decode cJ0_charAt_5068e 0 = .ok (.aload_n 0, 1) := by decide +kernel
theorem dJ0_charAt_5068e_1 : decode cJ0_charAt_5068e 1 = .ok (.invokevirtual 492, 3) := by decide +kernel
theorem dJ0_charAt_5068e_4 : decode cJ0_charAt_5068e 4 = .ok (.ifCond .eq 12, 3) := by decide +kernel
theorem dJ0_charAt_5068e_7 : decode cJ0_charAt_5068e 7 = .ok (.aload_n 0, 1) := by decide +kernel
theorem dJ0_charAt_5068e_8 : decode cJ0_charAt_5068e 8 = .ok (.getfield 9, 3) := by decide +kernel
theorem dJ0_charAt_5068e_11 : decode cJ0_charAt_5068e 11 = .ok (.iload_n 1, 1) := by decide +kernel
theorem dJ0_charAt_5068e_12 : decode cJ0_charAt_5068e 12 = .ok (.invokestatic 495, 3) := by decide +kernel
theorem dJ0_charAt_5068e_15 : decode cJ0_charAt_5068e 15 = .ok (.ireturn, 1) := by decide +kernel
theorem dJ0_charAt_5068e_16 : decode cJ0_charAt_5068e 16 = .ok (.aload_n 0, 1) := by decide +kernel
theorem dJ0_charAt_5068e_17 : decode cJ0_charAt_5068e 17 = .ok (.getfield 9, 3) := by decide +kernel
theorem dJ0_charAt_5068e_20 : decode cJ0_charAt_5068e 20 = .ok (.iload_n 1, 1) := by decide +kernel
theorem dJ0_charAt_5068e_21 : decode cJ0_charAt_5068e 21 = .ok (.invokestatic 498, 3) := by decide +kernel
theorem dJ0_charAt_5068e_24 : decode cJ0_charAt_5068e 24 = .ok (.ireturn, 1) := by decide +kernel
theorem dJ0_indexOf_0f7a4_0 : decode cJ0_indexOf_0f7a4 0 = .ok (.aload_n 0, 1) := by decide +kernel
theorem dJ0_indexOf_0f7a4_1 : decode cJ0_indexOf_0f7a4 1 = .ok (.iload_n 1, 1) := by decide +kernel
theorem dJ0_indexOf_0f7a4_2 : decode cJ0_indexOf_0f7a4 2 = .ok (.iconst 0, 1) := by decide +kernel
theorem dJ0_indexOf_0f7a4_3 : decode cJ0_indexOf_0f7a4 3 = .ok (.invokevirtual 633, 3) := by decide +kernel
theorem dJ0_indexOf_0f7a4_6 : decode cJ0_indexOf_0f7a4 6 = .ok (.ireturn, 1) := by decide +kernel
theorem dJ0_indexOf_7cf53_0 : decode cJ0_indexOf_7cf53 0 = .ok (.aload_n 0, 1) := by decide +kernel
theorem dJ0_indexOf_7cf53_1 : decode cJ0_indexOf_7cf53 1 = .ok (.invokevirtual 492, 3) := by decide +kernel
theorem dJ0_indexOf_7cf53_4 : decode cJ0_indexOf_7cf53 4 = .ok (.ifCond .eq 19, 3) := by decide +kernel
theorem dJ0_indexOf_7cf53_7 : decode cJ0_indexOf_7cf53 7 = .ok (.aload_n 0, 1) := by decide +kernel
theorem dJ0_indexOf_7cf53_8 : decode cJ0_indexOf_7cf53 8 = .ok (.getfield 9, 3) := by decide +kernel
theorem dJ0_indexOf_7cf53_11 : decode cJ0_indexOf_7cf53 11 = .ok (.iload_n 1, 1) := by decide +kernel
theorem dJ0_indexOf_7cf53_12 : decode cJ0_indexOf_7cf53 12 = .ok (.iload_n 2, 1) := by decide +kernel
theorem dJ0_indexOf_7cf53_13 : decode cJ0_indexOf_7cf53 13 = .ok (.aload_n 0, 1) := by decide +kernel
theorem dJ0_indexOf_7cf53_14 : decode cJ0_indexOf_7cf53 14 = .ok (.invokevirtual 505, 3) := by decide +kernel
theorem dJ0_indexOf_7cf53_17 : decode cJ0_indexOf_7cf53 17 = .ok (.invokestatic 637, 3) := by decide +kernel
theorem dJ0_indexOf_7cf53_20 : decode cJ0_indexOf_7cf53 20 = .ok (.goto 16, 3) := by decide +kernel
theorem dJ0_indexOf_7cf53_23 : decode cJ0_indexOf_7cf53 23 = .ok (.aload_n 0, 1) := by decide +kernel
theorem dJ0_indexOf_7cf53_24 : decode cJ0_indexOf_7cf53 24 = .ok (.getfield 9, 3) := by decide +kernel
theorem dJ0_indexOf_7cf53_27 : decode cJ0_indexOf_7cf53 27 = .ok (.iload_n 1, 1) := by decide +kernel
theorem dJ0_indexOf_7cf53_28 : decode cJ0_indexOf_7cf53 28 = .ok (.iload_n 2, 1) := by decide +kernel
theorem dJ0_indexOf_7cf53_29 : decode cJ0_indexOf_7cf53 29 = .ok (.aload_n 0, 1) := by decide +kernel
theorem dJ0_indexOf_7cf53_30 : decode cJ0_indexOf_7cf53 30 = .ok (.invokevirtual 505, 3) := by decide +kernel
theorem dJ0_indexOf_7cf53_33 : decode cJ0_indexOf_7cf53 33 = .ok (.invokestatic 640, 3) := by decide +kernel
theorem dJ0_indexOf_7cf53_36 : decode cJ0_indexOf_7cf53 36 = .ok (.ireturn, 1) := by decide +kernel
theorem dJ0_coder_7d493_0 : decode cJ0_coder_7d493 0 = .ok (.getstatic 38, 3) := by decide +kernel
theorem dJ0_coder_7d493_3 : decode cJ0_coder_7d493 3 = .ok (.ifCond .eq 10, 3) := by decide +kernel
theorem dJ0_coder_7d493_6 : decode cJ0_coder_7d493 6 = .ok (.aload_n 0, 1) := by decide +kernel
theorem dJ0_coder_7d493_7 : decode cJ0_coder_7d493 7 = .ok (.getfield 15, 3) := by decide +kernel
theorem dJ0_coder_7d493_10 : decode cJ0_coder_7d493 10 = .ok (.goto 4, 3) := by decide +kernel
theorem dJ0_coder_7d493_13 : decode cJ0_coder_7d493 13 = .ok (.iconst 1, 1) := by decide +kernel
theorem dJ0_coder_7d493_14 : decode cJ0_coder_7d493 14 = .ok (.ireturn, 1) := by decide +kernel
theorem dJ0_isLatin1_aae02_0 : decode cJ0_isLatin1_aae02 0 = .ok (.getstatic 38, 3) := by decide +kernel
theorem dJ0_isLatin1_aae02_3 : decode cJ0_isLatin1_aae02 3 = .ok (.ifCond .eq 14, 3) := by decide +kernel
theorem dJ0_isLatin1_aae02_6 : decode cJ0_isLatin1_aae02 6 = .ok (.aload_n 0, 1) := by decide +kernel
theorem dJ0_isLatin1_aae02_7 : decode cJ0_isLatin1_aae02 7 = .ok (.getfield 15, 3) := by decide +kernel
theorem dJ0_isLatin1_aae02_10 : decode cJ0_isLatin1_aae02 10 = .ok (.ifCond .ne 7, 3) := by decide +kernel
theorem dJ0_isLatin1_aae02_13 : decode cJ0_isLatin1_aae02 13 = .ok (.iconst 1, 1) := by decide +kernel
theorem dJ0_isLatin1_aae02_14 : decode cJ0_isLatin1_aae02 14 = .ok (.goto 4, 3) := by decide +kernel
theorem dJ0_isLatin1_aae02_17 : decode cJ0_isLatin1_aae02 17 = .ok (.iconst 0, 1) := by decide +kernel
theorem dJ0_isLatin1_aae02_18 : decode cJ0_isLatin1_aae02 18 = .ok (.ireturn, 1) := by decide +kernel
theorem dJ0_checkIndex_df160_0 : decode cJ0_checkIndex_df160 0 = .ok (.iload_n 0, 1) := by decide +kernel
theorem dJ0_checkIndex_df160_1 : decode cJ0_checkIndex_df160 1 = .ok (.iload_n 1, 1) := by decide +kernel
theorem dJ0_checkIndex_df160_2 : decode cJ0_checkIndex_df160 2 = .ok (.getstatic 1053, 3) := by decide +kernel
theorem dJ0_checkIndex_df160_5 : decode cJ0_checkIndex_df160 5 = .ok (.invokestatic 1059, 3) := by decide +kernel
theorem dJ0_checkIndex_df160_8 : decode cJ0_checkIndex_df160 8 = .ok (.pop, 1) := by decide +kernel
theorem dJ0_checkIndex_df160_9 : decode cJ0_checkIndex_df160 9 = .ok (.return_, 1) := by decide +kernel
theorem dJ0_checkBoundsBeginEnd_23922_0 : decode cJ0_checkBoundsBeginEnd_23922 0 = .ok (.iload_n 0, 1) := by decide +kernel
theorem dJ0_checkBoundsBeginEnd_23922_1 : decode cJ0_checkBoundsBeginEnd_23922 1 = .ok (.iload_n 1, 1) := by decide +kernel
theorem dJ0_checkBoundsBeginEnd_23922_2 : decode cJ0_checkBoundsBeginEnd_23922 2 = .ok (.iload_n 2, 1) := by decide +kernel
theorem dJ0_checkBoundsBeginEnd_23922_3 : decode cJ0_checkBoundsBeginEnd_23922 3 = .ok (.getstatic 1053, 3) := by decide +kernel
theorem dJ0_checkBoundsBeginEnd_23922_6 : decode cJ0_checkBoundsBeginEnd_23922 6 = .ok (.invokestatic 1062, 3) := by decide +kernel
theorem dJ0_checkBoundsBeginEnd_23922_9 : decode cJ0_checkBoundsBeginEnd_23922 9 = .ok (.pop, 1) := by decide +kernel
theorem dJ0_checkBoundsBeginEnd_23922_10 : decode cJ0_checkBoundsBeginEnd_23922 10 = .ok (.return_, 1) := by decide +kernel
theorem dJ1_charAt_3b067_0 : decode cJ1_charAt_3b067 0 = .ok (.iload_n 1, 1) := by decide +kernel
theorem dJ1_charAt_3b067_1 : decode cJ1_charAt_3b067 1 = .ok (.aload_n 0, 1) := by decide +kernel
theorem dJ1_charAt_3b067_2 : decode cJ1_charAt_3b067 2 = .ok (.arraylength, 1) := by decide +kernel
theorem dJ1_charAt_3b067_3 : decode cJ1_charAt_3b067 3 = .ok (.invokestatic 9, 3) := by decide +kernel
theorem dJ1_charAt_3b067_6 : decode cJ1_charAt_3b067 6 = .ok (.aload_n 0, 1) := by decide +kernel
theorem dJ1_charAt_3b067_7 : decode cJ1_charAt_3b067 7 = .ok (.iload_n 1, 1) := by decide +kernel
theorem dJ1_charAt_3b067_8 : decode cJ1_charAt_3b067 8 = .ok (.baload, 1) := by decide +kernel
theorem dJ1_charAt_3b067_9 : decode cJ1_charAt_3b067 9 = .ok (.sipush 255, 3) := by decide +kernel
theorem dJ1_charAt_3b067_12 : decode cJ1_charAt_3b067 12 = .ok (.iand, 1) := by decide +kernel
theorem dJ1_charAt_3b067_13 : decode cJ1_charAt_3b067 13 = .ok (.i2c, 1) := by decide +kernel
theorem dJ1_charAt_3b067_14 : decode cJ1_charAt_3b067 14 = .ok (.ireturn, 1) := by decide +kernel
theorem dJ1_canEncode_9a6ad_0 : decode cJ1_canEncode_9a6ad 0 = .ok (.iload_n 0, 1) := by decide +kernel
theorem dJ1_canEncode_9a6ad_1 : decode cJ1_canEncode_9a6ad 1 = .ok (.ifCond .lt 14, 3) := by decide +kernel
theorem dJ1_canEncode_9a6ad_4 : decode cJ1_canEncode_9a6ad 4 = .ok (.iload_n 0, 1) := by decide +kernel
theorem dJ1_canEncode_9a6ad_5 : decode cJ1_canEncode_9a6ad 5 = .ok (.sipush 255, 3) := by decide +kernel
theorem dJ1_canEncode_9a6ad_8 : decode cJ1_canEncode_9a6ad 8 = .ok (.if_icmp .gt 7, 3) := by decide +kernel
theorem dJ1_canEncode_9a6ad_11 : decode cJ1_canEncode_9a6ad 11 = .ok (.iconst 1, 1) := by decide +kernel
theorem dJ1_canEncode_9a6ad_12 : decode cJ1_canEncode_9a6ad 12 = .ok (.goto 4, 3) := by decide +kernel
theorem dJ1_canEncode_9a6ad_15 : decode cJ1_canEncode_9a6ad 15 = .ok (.iconst 0, 1) := by decide +kernel
theorem dJ1_canEncode_9a6ad_16 : decode cJ1_canEncode_9a6ad 16 = .ok (.ireturn, 1) := by decide +kernel
theorem dJ1_indexOf_4cfef_0 : decode cJ1_indexOf_4cfef 0 = .ok (.iload_n 1, 1) := by decide +kernel
theorem dJ1_indexOf_4cfef_1 : decode cJ1_indexOf_4cfef 1 = .ok (.invokestatic 88, 3) := by decide +kernel
theorem dJ1_indexOf_4cfef_4 : decode cJ1_indexOf_4cfef 4 = .ok (.ifCond .ne 5, 3) := by decide +kernel
theorem dJ1_indexOf_4cfef_7 : decode cJ1_indexOf_4cfef 7 = .ok (.iconst (-1), 1) := by decide +kernel
theorem dJ1_indexOf_4cfef_8 : decode cJ1_indexOf_4cfef 8 = .ok (.ireturn, 1) := by decide +kernel
theorem dJ1_indexOf_4cfef_9 : decode cJ1_indexOf_4cfef 9 = .ok (.iload_n 2, 1) := by decide +kernel
theorem dJ1_indexOf_4cfef_10 : decode cJ1_indexOf_4cfef 10 = .ok (.iconst 0, 1) := by decide +kernel
theorem dJ1_indexOf_4cfef_11 : decode cJ1_indexOf_4cfef 11 = .ok (.invokestatic 92, 3) := by decide +kernel
theorem dJ1_indexOf_4cfef_14 : decode cJ1_indexOf_4cfef 14 = .ok (.istore_n 2, 1) := by decide +kernel
theorem dJ1_indexOf_4cfef_15 : decode cJ1_indexOf_4cfef 15 = .ok (.iload_n 3, 1) := by decide +kernel
theorem dJ1_indexOf_4cfef_16 : decode cJ1_indexOf_4cfef 16 = .ok (.aload_n 0, 1) := by decide +kernel
theorem dJ1_indexOf_4cfef_17 : decode cJ1_indexOf_4cfef 17 = .ok (.arraylength, 1) := by decide +kernel
theorem dJ1_indexOf_4cfef_18 : decode cJ1_indexOf_4cfef 18 = .ok (.invokestatic 38, 3) := by decide +kernel
theorem dJ1_indexOf_4cfef_21 : decode cJ1_indexOf_4cfef 21 = .ok (.istore_n 3, 1) := by decide +kernel
theorem dJ1_indexOf_4cfef_22 : decode cJ1_indexOf_4cfef 22 = .ok (.iload_n 2, 1) := by decide +kernel
theorem dJ1_indexOf_4cfef_23 : decode cJ1_indexOf_4cfef 23 = .ok (.iload_n 3, 1) := by decide +kernel
theorem dJ1_indexOf_4cfef_24 : decode cJ1_indexOf_4cfef 24 = .ok (.if_icmp .lt 5, 3) := by decide +kernel
theorem dJ1_indexOf_4cfef_27 : decode cJ1_indexOf_4cfef 27 = .ok (.iconst (-1), 1) := by decide +kernel
theorem dJ1_indexOf_4cfef_28 : decode cJ1_indexOf_4cfef 28 = .ok (.ireturn, 1) := by decide +kernel
theorem dJ1_indexOf_4cfef_29 : decode cJ1_indexOf_4cfef 29 = .ok (.aload_n 0, 1) := by decide +kernel
theorem dJ1_indexOf_4cfef_30 : decode cJ1_indexOf_4cfef 30 = .ok (.iload_n 1, 1) := by decide +kernel
theorem dJ1_indexOf_4cfef_31 : decode cJ1_indexOf_4cfef 31 = .ok (.iload_n 2, 1) := by decide +kernel
theorem dJ1_indexOf_4cfef_32 : decode cJ1_indexOf_4cfef 32 = .ok (.iload_n 3, 1) := by decide +kernel
theorem dJ1_indexOf_4cfef_33 : decode cJ1_indexOf_4cfef 33 = .ok (.invokestatic 95, 3) := by decide +kernel
theorem dJ1_indexOf_4cfef_36 : decode cJ1_indexOf_4cfef 36 = .ok (.ireturn, 1) := by decide +kernel
theorem dJ1_indexOfChar_4cfef_0 : decode cJ1_indexOfChar_4cfef 0 = .ok (.iload_n 1, 1) := by decide +kernel
theorem dJ1_indexOfChar_4cfef_1 : decode cJ1_indexOfChar_4cfef 1 = .ok (.i2b, 1) := by decide +kernel
theorem dJ1_indexOfChar_4cfef_2 : decode cJ1_indexOfChar_4cfef 2 = .ok (.istore 4, 2) := by decide +kernel
theorem dJ1_indexOfChar_4cfef_4 : decode cJ1_indexOfChar_4cfef 4 = .ok (.iload_n 2, 1) := by decide +kernel
theorem dJ1_indexOfChar_4cfef_5 : decode cJ1_indexOfChar_4cfef 5 = .ok (.istore 5, 2) := by decide +kernel
theorem dJ1_indexOfChar_4cfef_7 : decode cJ1_indexOfChar_4cfef 7 = .ok (.iload 5, 2) := by decide +kernel
theorem dJ1_indexOfChar_4cfef_9 : decode cJ1_indexOfChar_4cfef 9 = .ok (.iload_n 3, 1) := by decide +kernel
theorem dJ1_indexOfChar_4cfef_10 : decode cJ1_indexOfChar_4cfef 10 = .ok (.if_icmp .ge 21, 3) := by decide +kernel
theorem dJ1_indexOfChar_4cfef_13 : decode cJ1_indexOfChar_4cfef 13 = .ok (.aload_n 0, 1) := by decide +kernel
theorem dJ1_indexOfChar_4cfef_14 : decode cJ1_indexOfChar_4cfef 14 = .ok (.iload 5, 2) := by decide +kernel
theorem dJ1_indexOfChar_4cfef_16 : decode cJ1_indexOfChar_4cfef 16 = .ok (.baload, 1) := by decide +kernel
theorem dJ1_indexOfChar_4cfef_17 : decode cJ1_indexOfChar_4cfef 17 = .ok (.iload 4, 2) := by decide +kernel
theorem dJ1_indexOfChar_4cfef_19 : decode cJ1_indexOfChar_4cfef 19 = .ok (.if_icmp .ne 6, 3) := by decide +kernel
theorem dJ1_indexOfChar_4cfef_22 : decode cJ1_indexOfChar_4cfef 22 = .ok (.iload 5, 2) := by decide +kernel
theorem dJ1_indexOfChar_4cfef_24 : decode cJ1_indexOfChar_4cfef 24 = .ok (.ireturn, 1) := by decide +kernel
theorem dJ1_indexOfChar_4cfef_25 : decode cJ1_indexOfChar_4cfef 25 = .ok (.iinc 5 1, 3) := by decide +kernel
theorem dJ1_indexOfChar_4cfef_28 : decode cJ1_indexOfChar_4cfef 28 = .ok (.goto (-21), 3) := by decide +kernel
theorem dJ1_indexOfChar_4cfef_31 : decode cJ1_indexOfChar_4cfef 31 = .ok (.iconst (-1), 1) := by decide +kernel
theorem dJ1_indexOfChar_4cfef_32 : decode cJ1_indexOfChar_4cfef 32 = .ok (.ireturn, 1) := by decide +kernel
theorem dJ2_getChar_3b067_0 : decode cJ2_getChar_3b067 0 = .ok (.getstatic 44, 3) := by decide +kernel
theorem dJ2_getChar_3b067_3 : decode cJ2_getChar_3b067 3 = .ok (.ifCond .ne 25, 3) := by decide +kernel
theorem dJ2_getChar_3b067_6 : decode cJ2_getChar_3b067 6 = .ok (.iload_n 1, 1) := by decide +kernel
theorem dJ2_getChar_3b067_7 : decode cJ2_getChar_3b067 7 = .ok (.ifCond .lt 11, 3) := by decide +kernel
theorem dJ2_getChar_3b067_10 : decode cJ2_getChar_3b067 10 = .ok (.iload_n 1, 1) := by decide +kernel
theorem dJ2_getChar_3b067_11 : decode cJ2_getChar_3b067 11 = .ok (.aload_n 0, 1) := by decide +kernel
theorem dJ2_getChar_3b067_12 : decode cJ2_getChar_3b067 12 = .ok (.invokestatic 48, 3) := by decide +kernel
theorem dJ2_getChar_3b067_15 : decode cJ2_getChar_3b067 15 = .ok (.if_icmp .lt 13, 3) := by decide +kernel
theorem dJ2_getChar_3b067_18 : decode cJ2_getChar_3b067 18 = .ok (.new 52, 3) := by decide +kernel
theorem dJ2_getChar_3b067_21 : decode cJ2_getChar_3b067 21 = .ok (.dup, 1) := by decide +kernel
theorem dJ2_getChar_3b067_22 : decode cJ2_getChar_3b067 22 = .ok (.ldc 54, 2) := by decide +kernel
theorem dJ2_getChar_3b067_24 : decode cJ2_getChar_3b067 24 = .ok (.invokespecial 56, 3) := by decide +kernel
theorem dJ2_getChar_3b067_27 : decode cJ2_getChar_3b067 27 = .ok (.athrow, 1) := by decide +kernel
theorem dJ2_getChar_3b067_28 : decode cJ2_getChar_3b067 28 = .ok (.iload_n 1, 1) := by decide +kernel
theorem dJ2_getChar_3b067_29 : decode cJ2_getChar_3b067 29 = .ok (.iconst 1, 1) := by decide +kernel
theorem dJ2_getChar_3b067_30 : decode cJ2_getChar_3b067 30 = .ok (.ishl, 1) := by decide +kernel
theorem dJ2_getChar_3b067_31 : decode cJ2_getChar_3b067 31 = .ok (.istore_n 1, 1) := by decide +kernel
theorem dJ2_getChar_3b067_32 : decode cJ2_getChar_3b067 32 = .ok (.aload_n 0, 1) := by decide +kernel
theorem dJ2_getChar_3b067_33 : decode cJ2_getChar_3b067 33 = .ok (.iload_n 1, 1) := by decide +kernel
theorem dJ2_getChar_3b067_34 : decode cJ2_getChar_3b067 34 = .ok (.iinc 1 1, 3) := by decide +kernel
theorem dJ2_getChar_3b067_37 : decode cJ2_getChar_3b067 37 = .ok (.baload, 1) := by decide +kernel
theorem dJ2_getChar_3b067_38 : decode cJ2_getChar_3b067 38 = .ok (.sipush 255, 3) := by decide +kernel
theorem dJ2_getChar_3b067_41 : decode cJ2_getChar_3b067 41 = .ok (.iand, 1) := by decide +kernel
theorem dJ2_getChar_3b067_42 : decode cJ2_getChar_3b067 42 = .ok (.getstatic 59, 3) := by decide +kernel
theorem dJ2_getChar_3b067_45 : decode cJ2_getChar_3b067 45 = .ok (.ishl, 1) := by decide +kernel
theorem dJ2_getChar_3b067_46 : decode cJ2_getChar_3b067 46 = .ok (.aload_n 0, 1) := by decide +kernel
theorem dJ2_getChar_3b067_47 : decode cJ2_getChar_3b067 47 = .ok (.iload_n 1, 1) := by decide +kernel
theorem dJ2_getChar_3b067_48 : decode cJ2_getChar_3b067 48 = .ok (.baload, 1) := by decide +kernel
theorem dJ2_getChar_3b067_49 : decode cJ2_getChar_3b067 49 = .ok (.sipush 255, 3) := by decide +kernel
theorem dJ2_getChar_3b067_52 : decode cJ2_getChar_3b067 52 = .ok (.iand, 1) := by decide +kernel
theorem dJ2_getChar_3b067_53 : decode cJ2_getChar_3b067 53 = .ok (.getstatic 63, 3) := by decide +kernel
theorem dJ2_getChar_3b067_56 : decode cJ2_getChar_3b067 56 = .ok (.ishl, 1) := by decide +kernel
theorem dJ2_getChar_3b067_57 : decode cJ2_getChar_3b067 57 = .ok (.ior, 1) := by decide +kernel
theorem dJ2_getChar_3b067_58 : decode cJ2_getChar_3b067 58 = .ok (.i2c, 1) := by decide +kernel
theorem dJ2_getChar_3b067_59 : decode cJ2_getChar_3b067 59 = .ok (.ireturn, 1) := by decide +kernel
theorem dJ2_length_9d52b_0 : decode cJ2_length_9d52b 0 = .ok (.aload_n 0, 1) := by decide +kernel
theorem dJ2_length_9d52b_1 : decode cJ2_length_9d52b 1 = .ok (.arraylength, 1) := by decide +kernel
theorem dJ2_length_9d52b_2 : decode cJ2_length_9d52b 2 = .ok (.iconst 1, 1) := by decide +kernel
theorem dJ2_length_9d52b_3 : decode cJ2_length_9d52b 3 = .ok (.ishr, 1) := by decide +kernel
theorem dJ2_length_9d52b_4 : decode cJ2_length_9d52b 4 = .ok (.ireturn, 1) := by decide +kernel
theorem dJ2_indexOf_4cfef_0 : decode cJ2_indexOf_4cfef 0 = .ok (.iload_n 2, 1) := by decide +kernel
theorem dJ2_indexOf_4cfef_1 : decode cJ2_indexOf_4cfef 1 = .ok (.iconst 0, 1) := by decide +kernel
theorem dJ2_indexOf_4cfef_2 : decode cJ2_indexOf_4cfef 2 = .ok (.invokestatic 224, 3) := by decide +kernel
theorem dJ2_indexOf_4cfef_5 : decode cJ2_indexOf_4cfef 5 = .ok (.istore_n 2, 1) := by decide +kernel
theorem dJ2_indexOf_4cfef_6 : decode cJ2_indexOf_4cfef 6 = .ok (.iload_n 3, 1) := by decide +kernel
theorem dJ2_indexOf_4cfef_7 : decode cJ2_indexOf_4cfef 7 = .ok (.aload_n 0, 1) := by decide +kernel
theorem dJ2_indexOf_4cfef_8 : decode cJ2_indexOf_4cfef 8 = .ok (.arraylength, 1) := by decide +kernel
theorem dJ2_indexOf_4cfef_9 : decode cJ2_indexOf_4cfef 9 = .ok (.iconst 1, 1) := by decide +kernel
theorem dJ2_indexOf_4cfef_10 : decode cJ2_indexOf_4cfef 10 = .ok (.ishr, 1) := by decide +kernel
theorem dJ2_indexOf_4cfef_11 : decode cJ2_indexOf_4cfef 11 = .ok (.invokestatic 183, 3) := by decide +kernel
theorem dJ2_indexOf_4cfef_14 : decode cJ2_indexOf_4cfef 14 = .ok (.istore_n 3, 1) := by decide +kernel
theorem dJ2_indexOf_4cfef_15 : decode cJ2_indexOf_4cfef 15 = .ok (.iload_n 2, 1) := by decide +kernel
theorem dJ2_indexOf_4cfef_16 : decode cJ2_indexOf_4cfef 16 = .ok (.iload_n 3, 1) := by decide +kernel
theorem dJ2_indexOf_4cfef_17 : decode cJ2_indexOf_4cfef 17 = .ok (.if_icmp .lt 5, 3) := by decide +kernel
theorem dJ2_indexOf_4cfef_20 : decode cJ2_indexOf_4cfef 20 = .ok (.iconst (-1), 1) := by decide +kernel
theorem dJ2_indexOf_4cfef_21 : decode cJ2_indexOf_4cfef 21 = .ok (.ireturn, 1) := by decide +kernel
theorem dJ2_indexOf_4cfef_22 : decode cJ2_indexOf_4cfef 22 = .ok (.iload_n 1, 1) := by decide +kernel
theorem dJ2_indexOf_4cfef_23 : decode cJ2_indexOf_4cfef 23 = .ok (.ldc 227, 2) := by decide +kernel
theorem dJ2_indexOf_4cfef_25 : decode cJ2_indexOf_4cfef 25 = .ok (.if_icmp .ge 11, 3) := by decide +kernel
theorem dJ2_indexOf_4cfef_28 : decode cJ2_indexOf_4cfef 28 = .ok (.aload_n 0, 1) := by decide +kernel
theorem dJ2_indexOf_4cfef_29 : decode cJ2_indexOf_4cfef 29 = .ok (.iload_n 1, 1) := by decide +kernel
theorem dJ2_indexOf_4cfef_30 : decode cJ2_indexOf_4cfef 30 = .ok (.iload_n 2, 1) := by decide +kernel
theorem dJ2_indexOf_4cfef_31 : decode cJ2_indexOf_4cfef 31 = .ok (.iload_n 3, 1) := by decide +kernel
theorem dJ2_indexOf_4cfef_32 : decode cJ2_indexOf_4cfef 32 = .ok (.invokestatic 228, 3) := by decide +kernel
theorem dJ2_indexOf_4cfef_35 : decode cJ2_indexOf_4cfef 35 = .ok (.ireturn, 1) := by decide +kernel
theorem dJ2_indexOf_4cfef_36 : decode cJ2_indexOf_4cfef 36 = .ok (.aload_n 0, 1) := by decide +kernel
theorem dJ2_indexOf_4cfef_37 : decode cJ2_indexOf_4cfef 37 = .ok (.iload_n 1, 1) := by decide +kernel
theorem dJ2_indexOf_4cfef_38 : decode cJ2_indexOf_4cfef 38 = .ok (.iload_n 2, 1) := by decide +kernel
theorem dJ2_indexOf_4cfef_39 : decode cJ2_indexOf_4cfef 39 = .ok (.iload_n 3, 1) := by decide +kernel
theorem dJ2_indexOf_4cfef_40 : decode cJ2_indexOf_4cfef 40 = .ok (.invokestatic 232, 3) := by decide +kernel
theorem dJ2_indexOf_4cfef_43 : decode cJ2_indexOf_4cfef 43 = .ok (.ireturn, 1) := by decide +kernel
theorem dJ2_indexOfChar_4cfef_0 : decode cJ2_indexOfChar_4cfef 0 = .ok (.iload_n 2, 1) := by decide +kernel
theorem dJ2_indexOfChar_4cfef_1 : decode cJ2_indexOfChar_4cfef 1 = .ok (.iload_n 3, 1) := by decide +kernel
theorem dJ2_indexOfChar_4cfef_2 : decode cJ2_indexOfChar_4cfef 2 = .ok (.aload_n 0, 1) := by decide +kernel
theorem dJ2_indexOfChar_4cfef_3 : decode cJ2_indexOfChar_4cfef 3 = .ok (.invokestatic 96, 3) := by decide +kernel
theorem dJ2_indexOfChar_4cfef_6 : decode cJ2_indexOfChar_4cfef 6 = .ok (.aload_n 0, 1) := by decide +kernel
theorem dJ2_indexOfChar_4cfef_7 : decode cJ2_indexOfChar_4cfef 7 = .ok (.iload_n 1, 1) := by decide +kernel
theorem dJ2_indexOfChar_4cfef_8 : decode cJ2_indexOfChar_4cfef 8 = .ok (.iload_n 2, 1) := by decide +kernel
theorem dJ2_indexOfChar_4cfef_9 : decode cJ2_indexOfChar_4cfef 9 = .ok (.iload_n 3, 1) := by decide +kernel
theorem dJ2_indexOfChar_4cfef_10 : decode cJ2_indexOfChar_4cfef 10 = .ok (.invokestatic 244, 3) := by decide +kernel
theorem dJ2_indexOfChar_4cfef_13 : decode cJ2_indexOfChar_4cfef 13 = .ok (.ireturn, 1) := by decide +kernel
theorem dJ2_indexOfCharUnsafe_4cfef_0 : decode cJ2_indexOfCharUnsafe_4cfef 0 = .ok (.iload_n 2, 1) := by decide +kernel
theorem dJ2_indexOfCharUnsafe_4cfef_1 : decode cJ2_indexOfCharUnsafe_4cfef 1 = .ok (.istore 4, 2) := by decide +kernel
theorem dJ2_indexOfCharUnsafe_4cfef_3 : decode cJ2_indexOfCharUnsafe_4cfef 3 = .ok (.iload 4, 2) := by decide +kernel
theorem dJ2_indexOfCharUnsafe_4cfef_5 : decode cJ2_indexOfCharUnsafe_4cfef 5 = .ok (.iload_n 3, 1) := by decide +kernel
theorem dJ2_indexOfCharUnsafe_4cfef_6 : decode cJ2_indexOfCharUnsafe_4cfef 6 = .ok (.if_icmp .ge 22, 3) := by decide +kernel
theorem dJ2_indexOfCharUnsafe_4cfef_9 : decode cJ2_indexOfCharUnsafe_4cfef 9 = .ok (.aload_n 0, 1) := by decide +kernel
theorem dJ2_indexOfCharUnsafe_4cfef_10 : decode cJ2_indexOfCharUnsafe_4cfef 10 = .ok (.iload 4, 2) := by decide +kernel
theorem dJ2_indexOfCharUnsafe_4cfef_12 : decode cJ2_indexOfCharUnsafe_4cfef 12 = .ok (.invokestatic 71, 3) := by decide +kernel
theorem dJ2_indexOfCharUnsafe_4cfef_15 : decode cJ2_indexOfCharUnsafe_4cfef 15 = .ok (.iload_n 1, 1) := by decide +kernel
theorem dJ2_indexOfCharUnsafe_4cfef_16 : decode cJ2_indexOfCharUnsafe_4cfef 16 = .ok (.if_icmp .ne 6, 3) := by decide +kernel
theorem dJ2_indexOfCharUnsafe_4cfef_19 : decode cJ2_indexOfCharUnsafe_4cfef 19 = .ok (.iload 4, 2) := by decide +kernel
theorem dJ2_indexOfCharUnsafe_4cfef_21 : decode cJ2_indexOfCharUnsafe_4cfef 21 = .ok (.ireturn, 1) := by decide +kernel
theorem dJ2_indexOfCharUnsafe_4cfef_22 : decode cJ2_indexOfCharUnsafe_4cfef 22 = .ok (.iinc 4 1, 3) := by decide +kernel
theorem dJ2_indexOfCharUnsafe_4cfef_25 : decode cJ2_indexOfCharUnsafe_4cfef 25 = .ok (.goto (-22), 3) := by decide +kernel
theorem dJ2_indexOfCharUnsafe_4cfef_28 : decode cJ2_indexOfCharUnsafe_4cfef 28 = .ok (.iconst (-1), 1) := by decide +kernel
theorem dJ2_indexOfCharUnsafe_4cfef_29 : decode cJ2_indexOfCharUnsafe_4cfef 29 = .ok (.ireturn, 1) := by decide +kernel
theorem dJ2_indexOfSupplementary_4cfef_0 : decode cJ2_indexOfSupplementary_4cfef 0 = .ok (.iload_n 1, 1) := by decide +kernel
theorem dJ2_indexOfSupplementary_4cfef_1 : decode cJ2_indexOfSupplementary_4cfef 1 = .ok (.invokestatic 164, 3) := by decide +kernel
theorem dJ2_indexOfSupplementary_4cfef_4 : decode cJ2_indexOfSupplementary_4cfef 4 = .ok (.ifCond .eq 65, 3) := by decide +kernel
theorem dJ2_indexOfSupplementary_4cfef_7 : decode cJ2_indexOfSupplementary_4cfef 7 = .ok (.iload_n 1, 1) := by decide +kernel
theorem dJ2_indexOfSupplementary_4cfef_8 : decode cJ2_indexOfSupplementary_4cfef 8 = .ok (.invokestatic 157, 3) := by decide +kernel
theorem dJ2_indexOfSupplementary_4cfef_11 : decode cJ2_indexOfSupplementary_4cfef 11 = .ok (.istore 4, 2) := by decide +kernel
theorem dJ2_indexOfSupplementary_4cfef_13 : decode cJ2_indexOfSupplementary_4cfef 13 = .ok (.iload_n 1, 1) := by decide +kernel
theorem dJ2_indexOfSupplementary_4cfef_14 : decode cJ2_indexOfSupplementary_4cfef 14 = .ok (.invokestatic 161, 3) := by decide +kernel
theorem dJ2_indexOfSupplementary_4cfef_17 : decode cJ2_indexOfSupplementary_4cfef 17 = .ok (.istore 5, 2) := by decide +kernel
theorem dJ2_indexOfSupplementary_4cfef_19 : decode cJ2_indexOfSupplementary_4cfef 19 = .ok (.iload_n 2, 1) := by decide +kernel
theorem dJ2_indexOfSupplementary_4cfef_20 : decode cJ2_indexOfSupplementary_4cfef 20 = .ok (.iload_n 3, 1) := by decide +kernel
theorem dJ2_indexOfSupplementary_4cfef_21 : decode cJ2_indexOfSupplementary_4cfef 21 = .ok (.aload_n 0, 1) := by decide +kernel
theorem dJ2_indexOfSupplementary_4cfef_22 : decode cJ2_indexOfSupplementary_4cfef 22 = .ok (.invokestatic 96, 3) := by decide +kernel
theorem dJ2_indexOfSupplementary_4cfef_25 : decode cJ2_indexOfSupplementary_4cfef 25 = .ok (.iload_n 2, 1) := by decide +kernel
theorem dJ2_indexOfSupplementary_4cfef_26 : decode cJ2_indexOfSupplementary_4cfef 26 = .ok (.istore 6, 2) := by decide +kernel
theorem dJ2_indexOfSupplementary_4cfef_28 : decode cJ2_indexOfSupplementary_4cfef 28 = .ok (.iload 6, 2) := by decide +kernel
theorem dJ2_indexOfSupplementary_4cfef_30 : decode cJ2_indexOfSupplementary_4cfef 30 = .ok (.iload_n 3, 1) := by decide +kernel
theorem dJ2_indexOfSupplementary_4cfef_31 : decode cJ2_indexOfSupplementary_4cfef 31 = .ok (.iconst 1, 1) := by decide +kernel
theorem dJ2_indexOfSupplementary_4cfef_32 : decode cJ2_indexOfSupplementary_4cfef 32 = .ok (.isub, 1) := by decide +kernel
theorem dJ2_indexOfSupplementary_4cfef_33 : decode cJ2_indexOfSupplementary_4cfef 33 = .ok (.if_icmp .ge 36, 3) := by decide +kernel
theorem dJ2_indexOfSupplementary_4cfef_36 : decode cJ2_indexOfSupplementary_4cfef 36 = .ok (.aload_n 0, 1) := by decide +kernel
theorem dJ2_indexOfSupplementary_4cfef_37 : decode cJ2_indexOfSupplementary_4cfef 37 = .ok (.iload 6, 2) := by decide +kernel
theorem dJ2_indexOfSupplementary_4cfef_39 : decode cJ2_indexOfSupplementary_4cfef 39 = .ok (.invokestatic 71, 3) := by decide +kernel
theorem dJ2_indexOfSupplementary_4cfef_42 : decode cJ2_indexOfSupplementary_4cfef 42 = .ok (.iload 4, 2) := by decide +kernel
theorem dJ2_indexOfSupplementary_4cfef_44 : decode cJ2_indexOfSupplementary_4cfef 44 = .ok (.if_icmp .ne 19, 3) := by decide +kernel
theorem dJ2_indexOfSupplementary_4cfef_47 : decode cJ2_indexOfSupplementary_4cfef 47 = .ok (.aload_n 0, 1) := by decide +kernel
theorem dJ2_indexOfSupplementary_4cfef_48 : decode cJ2_indexOfSupplementary_4cfef 48 = .ok (.iload 6, 2) := by decide +kernel
theorem dJ2_indexOfSupplementary_4cfef_50 : decode cJ2_indexOfSupplementary_4cfef 50 = .ok (.iconst 1, 1) := by decide +kernel
theorem dJ2_indexOfSupplementary_4cfef_51 : decode cJ2_indexOfSupplementary_4cfef 51 = .ok (.iadd, 1) := by decide +kernel
theorem dJ2_indexOfSupplementary_4cfef_52 : decode cJ2_indexOfSupplementary_4cfef 52 = .ok (.invokestatic 71, 3) := by decide +kernel
theorem dJ2_indexOfSupplementary_4cfef_55 : decode cJ2_indexOfSupplementary_4cfef 55 = .ok (.iload 5, 2) := by decide +kernel
theorem dJ2_indexOfSupplementary_4cfef_57 : decode cJ2_indexOfSupplementary_4cfef 57 = .ok (.if_icmp .ne 6, 3) := by decide +kernel
theorem dJ2_indexOfSupplementary_4cfef_60 : decode cJ2_indexOfSupplementary_4cfef 60 = .ok (.iload 6, 2) := by decide +kernel
theorem dJ2_indexOfSupplementary_4cfef_62 : decode cJ2_indexOfSupplementary_4cfef 62 = .ok (.ireturn, 1) := by decide +kernel
theorem dJ2_indexOfSupplementary_4cfef_63 : decode cJ2_indexOfSupplementary_4cfef 63 = .ok (.iinc 6 1, 3) := by decide +kernel
theorem dJ2_indexOfSupplementary_4cfef_66 : decode cJ2_indexOfSupplementary_4cfef 66 = .ok (.goto (-38), 3) := by decide +kernel
theorem dJ2_indexOfSupplementary_4cfef_69 : decode cJ2_indexOfSupplementary_4cfef 69 = .ok (.iconst (-1), 1) := by decide +kernel
theorem dJ2_indexOfSupplementary_4cfef_70 : decode cJ2_indexOfSupplementary_4cfef 70 = .ok (.ireturn, 1) := by decide +kernel
theorem dJ2_charAt_3b067_0 : decode cJ2_charAt_3b067 0 = .ok (.iload_n 1, 1) := by decide +kernel
theorem dJ2_charAt_3b067_1 : decode cJ2_charAt_3b067 1 = .ok (.aload_n 0, 1) := by decide +kernel
theorem dJ2_charAt_3b067_2 : decode cJ2_charAt_3b067 2 = .ok (.invokestatic 67, 3) := by decide +kernel
theorem dJ2_charAt_3b067_5 : decode cJ2_charAt_3b067 5 = .ok (.aload_n 0, 1) := by decide +kernel
theorem dJ2_charAt_3b067_6 : decode cJ2_charAt_3b067 6 = .ok (.iload_n 1, 1) := by decide +kernel
theorem dJ2_charAt_3b067_7 : decode cJ2_charAt_3b067 7 = .ok (.invokestatic 71, 3) := by decide +kernel
theorem dJ2_charAt_3b067_10 : decode cJ2_charAt_3b067 10 = .ok (.ireturn, 1) := by decide +kernel
theorem dJ2_checkIndex_2214a_0 : decode cJ2_checkIndex_2214a 0 = .ok (.iload_n 0, 1) := by decide +kernel
theorem dJ2_checkIndex_2214a_1 : decode cJ2_checkIndex_2214a 1 = .ok (.aload_n 1, 1) := by decide +kernel
theorem dJ2_checkIndex_2214a_2 : decode cJ2_checkIndex_2214a 2 = .ok (.invokestatic 48, 3) := by decide +kernel
theorem dJ2_checkIndex_2214a_5 : decode cJ2_checkIndex_2214a 5 = .ok (.invokestatic 414, 3) := by decide +kernel
theorem dJ2_checkIndex_2214a_8 : decode cJ2_checkIndex_2214a 8 = .ok (.return_, 1) := by decide +kernel
theorem dJ2_checkBoundsBeginEnd_d044e_0 : decode cJ2_checkBoundsBeginEnd_d044e 0 = .ok (.iload_n 0, 1) := by decide +kernel
theorem dJ2_checkBoundsBeginEnd_d044e_1 : decode cJ2_checkBoundsBeginEnd_d044e 1 = .ok (.iload_n 1, 1) := by decide +kernel
theorem dJ2_checkBoundsBeginEnd_d044e_2 : decode cJ2_checkBoundsBeginEnd_d044e 2 = .ok (.aload_n 2, 1) := by decide +kernel
theorem dJ2_checkBoundsBeginEnd_d044e_3 : decode cJ2_checkBoundsBeginEnd_d044e 3 = .ok (.invokestatic 48, 3) := by decide +kernel
theorem dJ2_checkBoundsBeginEnd_d044e_6 : decode cJ2_checkBoundsBeginEnd_d044e 6 = .ok (.invokestatic 241, 3) := by decide +kernel
theorem dJ2_checkBoundsBeginEnd_d044e_9 : decode cJ2_checkBoundsBeginEnd_d044e 9 = .ok (.return_, 1) := by decide +kernel
theorem dJ3_checkIndex_8e157_0 : decode cJ3_checkIndex_8e157 0 = .ok (.iload_n 0, 1) := by decide +kernel
theorem dJ3_checkIndex_8e157_1 : decode cJ3_checkIndex_8e157 1 = .ok (.ifCond .lt 8, 3) := by decide +kernel
theorem dJ3_checkIndex_8e157_4 : decode cJ3_checkIndex_8e157 4 = .ok (.iload_n 0, 1) := by decide +kernel
theorem dJ3_checkIndex_8e157_5 : decode cJ3_checkIndex_8e157 5 = .ok (.iload_n 1, 1) := by decide +kernel
theorem dJ3_checkIndex_8e157_6 : decode cJ3_checkIndex_8e157 6 = .ok (.if_icmp .lt 10, 3) := by decide +kernel
theorem dJ3_checkIndex_8e157_9 : decode cJ3_checkIndex_8e157 9 = .ok (.aload_n 2, 1) := by decide +kernel
theorem dJ3_checkIndex_8e157_10 : decode cJ3_checkIndex_8e157 10 = .ok (.iload_n 0, 1) := by decide +kernel
theorem dJ3_checkIndex_8e157_11 : decode cJ3_checkIndex_8e157 11 = .ok (.iload_n 1, 1) := by decide +kernel
theorem dJ3_checkIndex_8e157_12 : decode cJ3_checkIndex_8e157 12 = .ok (.invokestatic 95, 3) := by decide +kernel
theorem dJ3_checkIndex_8e157_15 : decode cJ3_checkIndex_8e157 15 = .ok (.athrow, 1) := by decide +kernel
theorem dJ3_checkIndex_8e157_16 : decode cJ3_checkIndex_8e157 16 = .ok (.iload_n 0, 1) := by decide +kernel
theorem dJ3_checkIndex_8e157_17 : decode cJ3_checkIndex_8e157 17 = .ok (.ireturn, 1) := by decide +kernel
theorem dJ3_checkFromToIndex_8c36e_0 : decode cJ3_checkFromToIndex_8c36e 0 = .ok (.iload_n 0, 1) := by decide +kernel
theorem dJ3_checkFromToIndex_8c36e_1 : decode cJ3_checkFromToIndex_8c36e 1 = .ok (.ifCond .lt 13, 3) := by decide +kernel
theorem dJ3_checkFromToIndex_8c36e_4 : decode cJ3_checkFromToIndex_8c36e 4 = .ok (.iload_n 0, 1) := by decide +kernel
theorem dJ3_checkFromToIndex_8c36e_5 : decode cJ3_checkFromToIndex_8c36e 5 = .ok (.iload_n 1, 1) := by decide +kernel
theorem dJ3_checkFromToIndex_8c36e_6 : decode cJ3_checkFromToIndex_8c36e 6 = .ok (.if_icmp .gt 8, 3) := by decide +kernel
theorem dJ3_checkFromToIndex_8c36e_9 : decode cJ3_checkFromToIndex_8c36e 9 = .ok (.iload_n 1, 1) := by decide +kernel
theorem dJ3_checkFromToIndex_8c36e_10 : decode cJ3_checkFromToIndex_8c36e 10 = .ok (.iload_n 2, 1) := by decide +kernel
theorem dJ3_checkFromToIndex_8c36e_11 : decode cJ3_checkFromToIndex_8c36e 11 = .ok (.if_icmp .le 11, 3) := by decide +kernel
theorem dJ3_checkFromToIndex_8c36e_14 : decode cJ3_checkFromToIndex_8c36e 14 = .ok (.aload_n 3, 1) := by decide +kernel
theorem dJ3_checkFromToIndex_8c36e_15 : decode cJ3_checkFromToIndex_8c36e 15 = .ok (.iload_n 0, 1) := by decide +kernel
theorem dJ3_checkFromToIndex_8c36e_16 : decode cJ3_checkFromToIndex_8c36e 16 = .ok (.iload_n 1, 1) := by decide +kernel
theorem dJ3_checkFromToIndex_8c36e_17 : decode cJ3_checkFromToIndex_8c36e 17 = .ok (.iload_n 2, 1) := by decide +kernel
theorem dJ3_checkFromToIndex_8c36e_18 : decode cJ3_checkFromToIndex_8c36e 18 = .ok (.invokestatic 99, 3) := by decide +kernel
theorem dJ3_checkFromToIndex_8c36e_21 : decode cJ3_checkFromToIndex_8c36e 21 = .ok (.athrow, 1) := by decide +kernel
theorem dJ3_checkFromToIndex_8c36e_22 : decode cJ3_checkFromToIndex_8c36e 22 = .ok (.iload_n 0, 1) := by decide +kernel
theorem dJ3_checkFromToIndex_8c36e_23 : decode cJ3_checkFromToIndex_8c36e 23 = .ok (.ireturn, 1) := by decide +kernel
