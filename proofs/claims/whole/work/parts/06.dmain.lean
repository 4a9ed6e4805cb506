/-! decode rows: printed by the kit of the program itself -/
theorem dX11_init_0 : decode cX11_init 0 = .ok (.aload_n 0, 1) := by decide +kernel
theorem dX11_init_1 : decode cX11_init 1 = .ok (.invokespecial 3, 3) := by decide +kernel
theorem dX11_init_4 : decode cX11_init 4 = .ok (.new 9, 3) := by decide +kernel
theorem dX11_init_7 : decode cX11_init 7 = .ok (.dup, 1) := by decide +kernel
theorem dX11_init_8 : decode cX11_init 8 = .ok (.invokespecial 11, 3) := by decide +kernel
theorem dX11_init_11 : decode cX11_init 11 = .ok (.astore_n 1, 1) := by decide +kernel
theorem dX11_init_12 : decode cX11_init 12 = .ok (.aload_n 0, 1) := by decide +kernel
theorem dX11_init_13 : decode cX11_init 13 = .ok (.new 12, 3) := by decide +kernel
theorem dX11_init_16 : decode cX11_init 16 = .ok (.dup, 1) := by decide +kernel
theorem dX11_init_17 : decode cX11_init 17 = .ok (.aload_n 1, 1) := by decide +kernel
theorem dX11_init_18 : decode cX11_init 18 = .ok (.invokespecial 14, 3) := by decide +kernel
theorem dX11_init_21 : decode cX11_init 21 = .ok (.putfield 17, 3) := by decide +kernel
theorem dX11_init_24 : decode cX11_init 24 = .ok (.aload_n 0, 1) := by decide +kernel
theorem dX11_init_25 : decode cX11_init 25 = .ok (.new 12, 3) := by decide +kernel
theorem dX11_init_28 : decode cX11_init 28 = .ok (.dup, 1) := by decide +kernel
theorem dX11_init_29 : decode cX11_init 29 = .ok (.aload_n 1, 1) := by decide +kernel
theorem dX11_init_30 : decode cX11_init 30 = .ok (.invokespecial 14, 3) := by decide +kernel
theorem dX11_init_33 : decode cX11_init 33 = .ok (.putfield 23, 3) := by decide +kernel
theorem dX11_init_36 : decode cX11_init 36 = .ok (.aload_n 0, 1) := by decide +kernel
theorem dX11_init_37 : decode cX11_init 37 = .ok (.new 12, 3) := by decide +kernel
theorem dX11_init_40 : decode cX11_init 40 = .ok (.dup, 1) := by decide +kernel
theorem dX11_init_41 : decode cX11_init 41 = .ok (.aload_n 1, 1) := by decide +kernel
theorem dX11_init_42 : decode cX11_init 42 = .ok (.invokespecial 14, 3) := by decide +kernel
theorem dX11_init_45 : decode cX11_init 45 = .ok (.putfield 26, 3) := by decide +kernel
theorem dX11_init_48 : decode cX11_init 48 = .ok (.aload_n 0, 1) := by decide +kernel
theorem dX11_init_49 : decode cX11_init 49 = .ok (.iconst 5, 1) := by decide +kernel
theorem dX11_init_50 : decode cX11_init 50 = .ok (.anewarray 9, 3) := by decide +kernel
theorem dX11_init_53 : decode cX11_init 53 = .ok (.putfield 29, 3) := by decide +kernel
theorem dX11_init_56 : decode cX11_init 56 = .ok (.iconst 0, 1) := by decide +kernel
theorem dX11_init_57 : decode cX11_init 57 = .ok (.istore_n 2, 1) := by decide +kernel
theorem dX11_init_58 : decode cX11_init 58 = .ok (.iload_n 2, 1) := by decide +kernel
theorem dX11_init_59 : decode cX11_init 59 = .ok (.iconst 5, 1) := by decide +kernel
theorem dX11_init_60 : decode cX11_init 60 = .ok (.if_icmp .ge 22, 3) := by decide +kernel
theorem dX11_init_63 : decode cX11_init 63 = .ok (.aload_n 0, 1) := by decide +kernel
theorem dX11_init_64 : decode cX11_init 64 = .ok (.getfield 29, 3) := by decide +kernel
theorem dX11_init_67 : decode cX11_init 67 = .ok (.iload_n 2, 1) := by decide +kernel
theorem dX11_init_68 : decode cX11_init 68 = .ok (.new 9, 3) := by decide +kernel
theorem dX11_init_71 : decode cX11_init 71 = .ok (.dup, 1) := by decide +kernel
theorem dX11_init_72 : decode cX11_init 72 = .ok (.invokespecial 11, 3) := by decide +kernel
theorem dX11_init_75 : decode cX11_init 75 = .ok (.aastore, 1) := by decide +kernel
theorem dX11_init_76 : decode cX11_init 76 = .ok (.iinc 2 1, 3) := by decide +kernel
theorem dX11_init_79 : decode cX11_init 79 = .ok (.goto (-21), 3) := by decide +kernel
theorem dX11_init_82 : decode cX11_init 82 = .ok (.aload_n 0, 1) := by decide +kernel
theorem dX11_init_83 : decode cX11_init 83 = .ok (.new 33, 3) := by decide +kernel
theorem dX11_init_86 : decode cX11_init 86 = .ok (.dup, 1) := by decide +kernel
theorem dX11_init_87 : decode cX11_init 87 = .ok (.invokespecial 35, 3) := by decide +kernel
theorem dX11_init_90 : decode cX11_init 90 = .ok (.putfield 36, 3) := by decide +kernel
theorem dX11_init_93 : decode cX11_init 93 = .ok (.aload_n 0, 1) := by decide +kernel
theorem dX11_init_94 : decode cX11_init 94 = .ok (.bipush 8, 2) := by decide +kernel
theorem dX11_init_96 : decode cX11_init 96 = .ok (.newarray .int, 2) := by decide +kernel
theorem dX11_init_98 : decode cX11_init 98 = .ok (.putfield 40, 3) := by decide +kernel
theorem dX11_init_101 : decode cX11_init 101 = .ok (.aload_n 0, 1) := by decide +kernel
theorem dX11_init_102 : decode cX11_init 102 = .ok (.bipush 64, 2) := by decide +kernel
theorem dX11_init_104 : decode cX11_init 104 = .ok (.newarray .int, 2) := by decide +kernel
theorem dX11_init_106 : decode cX11_init 106 = .ok (.putfield 44, 3) := by decide +kernel
theorem dX11_init_109 : decode cX11_init 109 = .ok (.aload_n 0, 1) := by decide +kernel
theorem dX11_init_110 : decode cX11_init 110 = .ok (.bipush 64, 2) := by decide +kernel
theorem dX11_init_112 : decode cX11_init 112 = .ok (.newarray .int, 2) := by decide +kernel
theorem dX11_init_114 : decode cX11_init 114 = .ok (.putfield 47, 3) := by decide +kernel
theorem dX11_init_117 : decode cX11_init 117 = .ok (.return_, 1) := by decide +kernel
theorem dX11_feed_0 : decode cX11_feed 0 = .ok (.iload_n 1, 1) := by decide +kernel
theorem dX11_feed_1 : decode cX11_feed 1 = .ok (.iconst 0, 1) := by decide +kernel
theorem dX11_feed_2 : decode cX11_feed 2 = .ok (.bipush 127, 2) := by decide +kernel
theorem dX11_feed_4 : decode cX11_feed 4 = .ok (.invokestatic 50, 3) := by decide +kernel
theorem dX11_feed_7 : decode cX11_feed 7 = .ok (.ifCond .ne 6, 3) := by decide +kernel
theorem dX11_feed_10 : decode cX11_feed 10 = .ok (.bipush (-2), 2) := by decide +kernel
theorem dX11_feed_12 : decode cX11_feed 12 = .ok (.ireturn, 1) := by decide +kernel
theorem dX11_feed_13 : decode cX11_feed 13 = .ok (.aload_n 0, 1) := by decide +kernel
theorem dX11_feed_14 : decode cX11_feed 14 = .ok (.getfield 17, 3) := by decide +kernel
theorem dX11_feed_17 : decode cX11_feed 17 = .ok (.getfield 54, 3) := by decide +kernel
theorem dX11_feed_20 : decode cX11_feed 20 = .ok (.invokevirtual 58, 3) := by decide +kernel
theorem dX11_feed_23 : decode cX11_feed 23 = .ok (.ifCond .eq 8, 3) := by decide +kernel
theorem dX11_feed_26 : decode cX11_feed 26 = .ok (.bipush (-4), 2) := by decide +kernel
theorem dX11_feed_28 : decode cX11_feed 28 = .ok (.goto 16, 3) := by decide +kernel
theorem dX11_feed_31 : decode cX11_feed 31 = .ok (.aload_n 0, 1) := by decide +kernel
theorem dX11_feed_32 : decode cX11_feed 32 = .ok (.getfield 17, 3) := by decide +kernel
theorem dX11_feed_35 : decode cX11_feed 35 = .ok (.getfield 54, 3) := by decide +kernel
theorem dX11_feed_38 : decode cX11_feed 38 = .ok (.iload_n 1, 1) := by decide +kernel
theorem dX11_feed_39 : decode cX11_feed 39 = .ok (.iconst 0, 1) := by decide +kernel
theorem dX11_feed_40 : decode cX11_feed 40 = .ok (.iconst 0, 1) := by decide +kernel
theorem dX11_feed_41 : decode cX11_feed 41 = .ok (.invokevirtual 64, 3) := by decide +kernel
theorem dX11_feed_44 : decode cX11_feed 44 = .ok (.ireturn, 1) := by decide +kernel
theorem dX11_plate_0 : decode cX11_plate 0 = .ok (.aload_n 0, 1) := by decide +kernel
theorem dX11_plate_1 : decode cX11_plate 1 = .ok (.getfield 17, 3) := by decide +kernel
theorem dX11_plate_4 : decode cX11_plate 4 = .ok (.getfield 68, 3) := by decide +kernel
theorem dX11_plate_7 : decode cX11_plate 7 = .ok (.iconst 5, 1) := by decide +kernel
theorem dX11_plate_8 : decode cX11_plate 8 = .ok (.if_icmp .lt 6, 3) := by decide +kernel
theorem dX11_plate_11 : decode cX11_plate 11 = .ok (.bipush (-4), 2) := by decide +kernel
theorem dX11_plate_13 : decode cX11_plate 13 = .ok (.ireturn, 1) := by decide +kernel
theorem dX11_plate_14 : decode cX11_plate 14 = .ok (.aload_n 0, 1) := by decide +kernel
theorem dX11_plate_15 : decode cX11_plate 15 = .ok (.getfield 29, 3) := by decide +kernel
theorem dX11_plate_18 : decode cX11_plate 18 = .ok (.aload_n 0, 1) := by decide +kernel
theorem dX11_plate_19 : decode cX11_plate 19 = .ok (.getfield 17, 3) := by decide +kernel
theorem dX11_plate_22 : decode cX11_plate 22 = .ok (.getfield 68, 3) := by decide +kernel
theorem dX11_plate_25 : decode cX11_plate 25 = .ok (.aaload, 1) := by decide +kernel
theorem dX11_plate_26 : decode cX11_plate 26 = .ok (.astore_n 1, 1) := by decide +kernel
theorem dX11_plate_27 : decode cX11_plate 27 = .ok (.aload_n 1, 1) := by decide +kernel
theorem dX11_plate_28 : decode cX11_plate 28 = .ok (.aload_n 0, 1) := by decide +kernel
theorem dX11_plate_29 : decode cX11_plate 29 = .ok (.getfield 17, 3) := by decide +kernel
theorem dX11_plate_32 : decode cX11_plate 32 = .ok (.getfield 54, 3) := by decide +kernel
theorem dX11_plate_35 : decode cX11_plate 35 = .ok (.getfield 72, 3) := by decide +kernel
theorem dX11_plate_38 : decode cX11_plate 38 = .ok (.aload_n 0, 1) := by decide +kernel
theorem dX11_plate_39 : decode cX11_plate 39 = .ok (.getfield 17, 3) := by decide +kernel
theorem dX11_plate_42 : decode cX11_plate 42 = .ok (.getfield 54, 3) := by decide +kernel
theorem dX11_plate_45 : decode cX11_plate 45 = .ok (.getfield 75, 3) := by decide +kernel
theorem dX11_plate_48 : decode cX11_plate 48 = .ok (.invokevirtual 78, 3) := by decide +kernel
theorem dX11_plate_51 : decode cX11_plate 51 = .ok (.istore_n 2, 1) := by decide +kernel
theorem dX11_plate_52 : decode cX11_plate 52 = .ok (.aload_n 0, 1) := by decide +kernel
theorem dX11_plate_53 : decode cX11_plate 53 = .ok (.getfield 17, 3) := by decide +kernel
theorem dX11_plate_56 : decode cX11_plate 56 = .ok (.getfield 54, 3) := by decide +kernel
theorem dX11_plate_59 : decode cX11_plate 59 = .ok (.invokevirtual 82, 3) := by decide +kernel
theorem dX11_plate_62 : decode cX11_plate 62 = .ok (.pop, 1) := by decide +kernel
theorem dX11_plate_63 : decode cX11_plate 63 = .ok (.iload_n 2, 1) := by decide +kernel
theorem dX11_plate_64 : decode cX11_plate 64 = .ok (.ifCond .lt 8, 3) := by decide +kernel
theorem dX11_plate_67 : decode cX11_plate 67 = .ok (.bipush (-10), 2) := by decide +kernel
theorem dX11_plate_69 : decode cX11_plate 69 = .ok (.iload_n 2, 1) := by decide +kernel
theorem dX11_plate_70 : decode cX11_plate 70 = .ok (.isub, 1) := by decide +kernel
theorem dX11_plate_71 : decode cX11_plate 71 = .ok (.ireturn, 1) := by decide +kernel
theorem dX11_plate_72 : decode cX11_plate 72 = .ok (.aload_n 0, 1) := by decide +kernel
theorem dX11_plate_73 : decode cX11_plate 73 = .ok (.getfield 17, 3) := by decide +kernel
theorem dX11_plate_76 : decode cX11_plate 76 = .ok (.aload_n 1, 1) := by decide +kernel
theorem dX11_plate_77 : decode cX11_plate 77 = .ok (.putfield 86, 3) := by decide +kernel
theorem dX11_plate_80 : decode cX11_plate 80 = .ok (.aload_n 0, 1) := by decide +kernel
theorem dX11_plate_81 : decode cX11_plate 81 = .ok (.getfield 17, 3) := by decide +kernel
theorem dX11_plate_84 : decode cX11_plate 84 = .ok (.dup, 1) := by decide +kernel
theorem dX11_plate_85 : decode cX11_plate 85 = .ok (.getfield 68, 3) := by decide +kernel
theorem dX11_plate_88 : decode cX11_plate 88 = .ok (.dup_x1, 1) := by decide +kernel
theorem dX11_plate_89 : decode cX11_plate 89 = .ok (.iconst 1, 1) := by decide +kernel
theorem dX11_plate_90 : decode cX11_plate 90 = .ok (.iadd, 1) := by decide +kernel
theorem dX11_plate_91 : decode cX11_plate 91 = .ok (.putfield 68, 3) := by decide +kernel
theorem dX11_plate_94 : decode cX11_plate 94 = .ok (.ireturn, 1) := by decide +kernel
theorem dX11_mark_0 : decode cX11_mark 0 = .ok (.iload_n 1, 1) := by decide +kernel
theorem dX11_mark_1 : decode cX11_mark 1 = .ok (.iconst 0, 1) := by decide +kernel
theorem dX11_mark_2 : decode cX11_mark 2 = .ok (.bipush 6, 2) := by decide +kernel
theorem dX11_mark_4 : decode cX11_mark 4 = .ok (.invokestatic 50, 3) := by decide +kernel
theorem dX11_mark_7 : decode cX11_mark 7 = .ok (.ifCond .ne 5, 3) := by decide +kernel
theorem dX11_mark_10 : decode cX11_mark 10 = .ok (.iconst (-1), 1) := by decide +kernel
theorem dX11_mark_11 : decode cX11_mark 11 = .ok (.ireturn, 1) := by decide +kernel
theorem dX11_mark_12 : decode cX11_mark 12 = .ok (.iload_n 2, 1) := by decide +kernel
theorem dX11_mark_13 : decode cX11_mark 13 = .ok (.iconst 0, 1) := by decide +kernel
theorem dX11_mark_14 : decode cX11_mark 14 = .ok (.bipush 9, 2) := by decide +kernel
theorem dX11_mark_16 : decode cX11_mark 16 = .ok (.invokestatic 50, 3) := by decide +kernel
theorem dX11_mark_19 : decode cX11_mark 19 = .ok (.ifCond .eq 24, 3) := by decide +kernel
theorem dX11_mark_22 : decode cX11_mark 22 = .ok (.iload_n 3, 1) := by decide +kernel
theorem dX11_mark_23 : decode cX11_mark 23 = .ok (.iconst 0, 1) := by decide +kernel
theorem dX11_mark_24 : decode cX11_mark 24 = .ok (.bipush 99, 2) := by decide +kernel
theorem dX11_mark_26 : decode cX11_mark 26 = .ok (.invokestatic 50, 3) := by decide +kernel
theorem dX11_mark_29 : decode cX11_mark 29 = .ok (.ifCond .eq 14, 3) := by decide +kernel
theorem dX11_mark_32 : decode cX11_mark 32 = .ok (.iload 4, 2) := by decide +kernel
theorem dX11_mark_34 : decode cX11_mark 34 = .ok (.iconst 1, 1) := by decide +kernel
theorem dX11_mark_35 : decode cX11_mark 35 = .ok (.bipush 9, 2) := by decide +kernel
theorem dX11_mark_37 : decode cX11_mark 37 = .ok (.invokestatic 50, 3) := by decide +kernel
theorem dX11_mark_40 : decode cX11_mark 40 = .ok (.ifCond .ne 6, 3) := by decide +kernel
theorem dX11_mark_43 : decode cX11_mark 43 = .ok (.bipush (-2), 2) := by decide +kernel
theorem dX11_mark_45 : decode cX11_mark 45 = .ok (.ireturn, 1) := by decide +kernel
theorem dX11_mark_46 : decode cX11_mark 46 = .ok (.aload_n 0, 1) := by decide +kernel
theorem dX11_mark_47 : decode cX11_mark 47 = .ok (.getfield 17, 3) := by decide +kernel
theorem dX11_mark_50 : decode cX11_mark 50 = .ok (.getfield 90, 3) := by decide +kernel
theorem dX11_mark_53 : decode cX11_mark 53 = .ok (.istore 5, 2) := by decide +kernel
theorem dX11_mark_55 : decode cX11_mark 55 = .ok (.iload 5, 2) := by decide +kernel
theorem dX11_mark_57 : decode cX11_mark 57 = .ok (.bipush 8, 2) := by decide +kernel
theorem dX11_mark_59 : decode cX11_mark 59 = .ok (.if_icmp .lt 6, 3) := by decide +kernel
theorem dX11_mark_62 : decode cX11_mark 62 = .ok (.bipush (-4), 2) := by decide +kernel
theorem dX11_mark_64 : decode cX11_mark 64 = .ok (.ireturn, 1) := by decide +kernel
theorem dX11_mark_65 : decode cX11_mark 65 = .ok (.aload_n 0, 1) := by decide +kernel
theorem dX11_mark_66 : decode cX11_mark 66 = .ok (.getfield 17, 3) := by decide +kernel
theorem dX11_mark_69 : decode cX11_mark 69 = .ok (.getfield 91, 3) := by decide +kernel
theorem dX11_mark_72 : decode cX11_mark 72 = .ok (.iload 5, 2) := by decide +kernel
theorem dX11_mark_74 : decode cX11_mark 74 = .ok (.iload_n 1, 1) := by decide +kernel
theorem dX11_mark_75 : decode cX11_mark 75 = .ok (.iload 5, 2) := by decide +kernel
theorem dX11_mark_77 : decode cX11_mark 77 = .ok (.iload_n 2, 1) := by decide +kernel
theorem dX11_mark_78 : decode cX11_mark 78 = .ok (.iload_n 3, 1) := by decide +kernel
theorem dX11_mark_79 : decode cX11_mark 79 = .ok (.iload 4, 2) := by decide +kernel
theorem dX11_mark_81 : decode cX11_mark 81 = .ok (.invokestatic 95, 3) := by decide +kernel
theorem dX11_mark_84 : decode cX11_mark 84 = .ok (.aastore, 1) := by decide +kernel
theorem dX11_mark_85 : decode cX11_mark 85 = .ok (.aload_n 0, 1) := by decide +kernel
theorem dX11_mark_86 : decode cX11_mark 86 = .ok (.getfield 23, 3) := by decide +kernel
theorem dX11_mark_89 : decode cX11_mark 89 = .ok (.getfield 91, 3) := by decide +kernel
theorem dX11_mark_92 : decode cX11_mark 92 = .ok (.iload 5, 2) := by decide +kernel
theorem dX11_mark_94 : decode cX11_mark 94 = .ok (.iload_n 1, 1) := by decide +kernel
theorem dX11_mark_95 : decode cX11_mark 95 = .ok (.iload 5, 2) := by decide +kernel
theorem dX11_mark_97 : decode cX11_mark 97 = .ok (.iload_n 2, 1) := by decide +kernel
theorem dX11_mark_98 : decode cX11_mark 98 = .ok (.iload_n 3, 1) := by decide +kernel
theorem dX11_mark_99 : decode cX11_mark 99 = .ok (.iload 4, 2) := by decide +kernel
theorem dX11_mark_101 : decode cX11_mark 101 = .ok (.invokestatic 95, 3) := by decide +kernel
theorem dX11_mark_104 : decode cX11_mark 104 = .ok (.aastore, 1) := by decide +kernel
theorem dX11_mark_105 : decode cX11_mark 105 = .ok (.aload_n 0, 1) := by decide +kernel
theorem dX11_mark_106 : decode cX11_mark 106 = .ok (.getfield 26, 3) := by decide +kernel
theorem dX11_mark_109 : decode cX11_mark 109 = .ok (.getfield 91, 3) := by decide +kernel
theorem dX11_mark_112 : decode cX11_mark 112 = .ok (.iload 5, 2) := by decide +kernel
theorem dX11_mark_114 : decode cX11_mark 114 = .ok (.iload_n 1, 1) := by decide +kernel
theorem dX11_mark_115 : decode cX11_mark 115 = .ok (.iload 5, 2) := by decide +kernel
theorem dX11_mark_117 : decode cX11_mark 117 = .ok (.iload_n 2, 1) := by decide +kernel
theorem dX11_mark_118 : decode cX11_mark 118 = .ok (.iload_n 3, 1) := by decide +kernel
theorem dX11_mark_119 : decode cX11_mark 119 = .ok (.iload 4, 2) := by decide +kernel
theorem dX11_mark_121 : decode cX11_mark 121 = .ok (.invokestatic 95, 3) := by decide +kernel
theorem dX11_mark_124 : decode cX11_mark 124 = .ok (.aastore, 1) := by decide +kernel
theorem dX11_mark_125 : decode cX11_mark 125 = .ok (.aload_n 0, 1) := by decide +kernel
theorem dX11_mark_126 : decode cX11_mark 126 = .ok (.getfield 17, 3) := by decide +kernel
theorem dX11_mark_129 : decode cX11_mark 129 = .ok (.iload 5, 2) := by decide +kernel
theorem dX11_mark_131 : decode cX11_mark 131 = .ok (.iconst 1, 1) := by decide +kernel
theorem dX11_mark_132 : decode cX11_mark 132 = .ok (.iadd, 1) := by decide +kernel
theorem dX11_mark_133 : decode cX11_mark 133 = .ok (.putfield 90, 3) := by decide +kernel
theorem dX11_mark_136 : decode cX11_mark 136 = .ok (.iload 5, 2) := by decide +kernel
theorem dX11_mark_138 : decode cX11_mark 138 = .ok (.ireturn, 1) := by decide +kernel
theorem dX11_of_0 : decode cX11_of 0 = .ok (.aload_n 0, 1) := by decide +kernel
theorem dX11_of_1 : decode cX11_of 1 = .ok (.getfield 17, 3) := by decide +kernel
theorem dX11_of_4 : decode cX11_of 4 = .ok (.iload_n 1, 1) := by decide +kernel
theorem dX11_of_5 : decode cX11_of 5 = .ok (.invokevirtual 99, 3) := by decide +kernel
theorem dX11_of_8 : decode cX11_of 8 = .ok (.astore_n 3, 1) := by decide +kernel
theorem dX11_of_9 : decode cX11_of 9 = .ok (.aload_n 3, 1) := by decide +kernel
theorem dX11_of_10 : decode cX11_of 10 = .ok (.ifnonnull 5, 3) := by decide +kernel
theorem dX11_of_13 : decode cX11_of 13 = .ok (.iconst (-1), 1) := by decide +kernel
theorem dX11_of_14 : decode cX11_of 14 = .ok (.ireturn, 1) := by decide +kernel
theorem dX11_of_15 : decode cX11_of 15 = .ok (.iload_n 2, 1) := by decide +kernel
theorem dX11_of_16 : decode cX11_of 16 = .ok (.tableswitch 142 0 10 #[60, 65, 70, 75, 80, 93, 98, 103, 108, 127, 132], 60) := by decide +kernel
theorem dX11_of_76 : decode cX11_of 76 = .ok (.aload_n 3, 1) := by decide +kernel
theorem dX11_of_77 : decode cX11_of 77 = .ok (.getfield 103, 3) := by decide +kernel
theorem dX11_of_80 : decode cX11_of 80 = .ok (.ireturn, 1) := by decide +kernel
theorem dX11_of_81 : decode cX11_of 81 = .ok (.aload_n 3, 1) := by decide +kernel
theorem dX11_of_82 : decode cX11_of 82 = .ok (.getfield 108, 3) := by decide +kernel
theorem dX11_of_85 : decode cX11_of 85 = .ok (.ireturn, 1) := by decide +kernel
theorem dX11_of_86 : decode cX11_of 86 = .ok (.aload_n 3, 1) := by decide +kernel
theorem dX11_of_87 : decode cX11_of 87 = .ok (.getfield 111, 3) := by decide +kernel
theorem dX11_of_90 : decode cX11_of 90 = .ok (.ireturn, 1) := by decide +kernel
theorem dX11_of_91 : decode cX11_of 91 = .ok (.aload_n 3, 1) := by decide +kernel
theorem dX11_of_92 : decode cX11_of 92 = .ok (.getfield 114, 3) := by decide +kernel
theorem dX11_of_95 : decode cX11_of 95 = .ok (.ireturn, 1) := by decide +kernel
theorem dX11_of_96 : decode cX11_of 96 = .ok (.aload_n 3, 1) := by decide +kernel
theorem dX11_of_97 : decode cX11_of 97 = .ok (.getfield 117, 3) := by decide +kernel
theorem dX11_of_100 : decode cX11_of 100 = .ok (.ifCond .eq 7, 3) := by decide +kernel
theorem dX11_of_103 : decode cX11_of 103 = .ok (.iconst 1, 1) := by decide +kernel
theorem dX11_of_104 : decode cX11_of 104 = .ok (.goto 4, 3) := by decide +kernel
theorem dX11_of_107 : decode cX11_of 107 = .ok (.iconst 0, 1) := by decide +kernel
theorem dX11_of_108 : decode cX11_of 108 = .ok (.ireturn, 1) := by decide +kernel
theorem dX11_of_109 : decode cX11_of 109 = .ok (.aload_n 3, 1) := by decide +kernel
theorem dX11_of_110 : decode cX11_of 110 = .ok (.getfield 121, 3) := by decide +kernel
theorem dX11_of_113 : decode cX11_of 113 = .ok (.ireturn, 1) := by decide +kernel
theorem dX11_of_114 : decode cX11_of 114 = .ok (.aload_n 3, 1) := by decide +kernel
theorem dX11_of_115 : decode cX11_of 115 = .ok (.getfield 124, 3) := by decide +kernel
theorem dX11_of_118 : decode cX11_of 118 = .ok (.ireturn, 1) := by decide +kernel
theorem dX11_of_119 : decode cX11_of 119 = .ok (.aload_n 3, 1) := by decide +kernel
theorem dX11_of_120 : decode cX11_of 120 = .ok (.getfield 127, 3) := by decide +kernel
theorem dX11_of_123 : decode cX11_of 123 = .ok (.ireturn, 1) := by decide +kernel
theorem dX11_of_124 : decode cX11_of 124 = .ok (.aload_n 0, 1) := by decide +kernel
theorem dX11_of_125 : decode cX11_of 125 = .ok (.getfield 17, 3) := by decide +kernel
theorem dX11_of_128 : decode cX11_of 128 = .ok (.getfield 86, 3) := by decide +kernel
theorem dX11_of_131 : decode cX11_of 131 = .ok (.aload_n 3, 1) := by decide +kernel
theorem dX11_of_132 : decode cX11_of 132 = .ok (.aload_n 0, 1) := by decide +kernel
theorem dX11_of_133 : decode cX11_of 133 = .ok (.getfield 17, 3) := by decide +kernel
theorem dX11_of_136 : decode cX11_of 136 = .ok (.getfield 130, 3) := by decide +kernel
theorem dX11_of_139 : decode cX11_of 139 = .ok (.invokevirtual 133, 3) := by decide +kernel
theorem dX11_of_142 : decode cX11_of 142 = .ok (.ireturn, 1) := by decide +kernel
theorem dX11_of_143 : decode cX11_of 143 = .ok (.aload_n 3, 1) := by decide +kernel
theorem dX11_of_144 : decode cX11_of 144 = .ok (.invokevirtual 137, 3) := by decide +kernel
theorem dX11_of_147 : decode cX11_of 147 = .ok (.ireturn, 1) := by decide +kernel
theorem dX11_of_148 : decode cX11_of 148 = .ok (.aload_n 0, 1) := by decide +kernel
theorem dX11_of_149 : decode cX11_of 149 = .ok (.getfield 17, 3) := by decide +kernel
theorem dX11_of_152 : decode cX11_of 152 = .ok (.aload_n 3, 1) := by decide +kernel
theorem dX11_of_153 : decode cX11_of 153 = .ok (.iconst 0, 1) := by decide +kernel
theorem dX11_of_154 : decode cX11_of 154 = .ok (.invokevirtual 140, 3) := by decide +kernel
theorem dX11_of_157 : decode cX11_of 157 = .ok (.ireturn, 1) := by decide +kernel
theorem dX11_of_158 : decode cX11_of 158 = .ok (.iconst (-1), 1) := by decide +kernel
theorem dX11_of_159 : decode cX11_of 159 = .ok (.ireturn, 1) := by decide +kernel
theorem dX11_row_0 : decode cX11_row 0 = .ok (.aload_n 0, 1) := by decide +kernel
theorem dX11_row_1 : decode cX11_row 1 = .ok (.getfield 17, 3) := by decide +kernel
theorem dX11_row_4 : decode cX11_row 4 = .ok (.iload_n 1, 1) := by decide +kernel
theorem dX11_row_5 : decode cX11_row 5 = .ok (.invokevirtual 99, 3) := by decide +kernel
theorem dX11_row_8 : decode cX11_row 8 = .ok (.astore 4, 2) := by decide +kernel
theorem dX11_row_10 : decode cX11_row 10 = .ok (.aload 4, 2) := by decide +kernel
theorem dX11_row_12 : decode cX11_row 12 = .ok (.ifnull 12, 3) := by decide +kernel
theorem dX11_row_15 : decode cX11_row 15 = .ok (.iload_n 2, 1) := by decide +kernel
theorem dX11_row_16 : decode cX11_row 16 = .ok (.iconst 0, 1) := by decide +kernel
theorem dX11_row_17 : decode cX11_row 17 = .ok (.iconst 3, 1) := by decide +kernel
theorem dX11_row_18 : decode cX11_row 18 = .ok (.invokestatic 50, 3) := by decide +kernel
theorem dX11_row_21 : decode cX11_row 21 = .ok (.ifCond .ne 5, 3) := by decide +kernel
theorem dX11_row_24 : decode cX11_row 24 = .ok (.iconst (-1), 1) := by decide +kernel
theorem dX11_row_25 : decode cX11_row 25 = .ok (.ireturn, 1) := by decide +kernel
theorem dX11_row_26 : decode cX11_row 26 = .ok (.iload_n 3, 1) := by decide +kernel
theorem dX11_row_27 : decode cX11_row 27 = .ok (.iconst 0, 1) := by decide +kernel
theorem dX11_row_28 : decode cX11_row 28 = .ok (.bipush 9, 2) := by decide +kernel
theorem dX11_row_30 : decode cX11_row 30 = .ok (.invokestatic 50, 3) := by decide +kernel
theorem dX11_row_33 : decode cX11_row 33 = .ok (.ifCond .ne 6, 3) := by decide +kernel
theorem dX11_row_36 : decode cX11_row 36 = .ok (.bipush (-2), 2) := by decide +kernel
theorem dX11_row_38 : decode cX11_row 38 = .ok (.ireturn, 1) := by decide +kernel
theorem dX11_row_39 : decode cX11_row 39 = .ok (.aload 4, 2) := by decide +kernel
theorem dX11_row_41 : decode cX11_row 41 = .ok (.instanceof 143, 3) := by decide +kernel
theorem dX11_row_44 : decode cX11_row 44 = .ok (.ifCond .eq 20, 3) := by decide +kernel
theorem dX11_row_47 : decode cX11_row 47 = .ok (.aload 4, 2) := by decide +kernel
theorem dX11_row_49 : decode cX11_row 49 = .ok (.checkcast 143, 3) := by decide +kernel
theorem dX11_row_52 : decode cX11_row 52 = .ok (.astore 5, 2) := by decide +kernel
theorem dX11_row_54 : decode cX11_row 54 = .ok (.aload 5, 2) := by decide +kernel
theorem dX11_row_56 : decode cX11_row 56 = .ok (.iload_n 2, 1) := by decide +kernel
theorem dX11_row_57 : decode cX11_row 57 = .ok (.iload_n 3, 1) := by decide +kernel
theorem dX11_row_58 : decode cX11_row 58 = .ok (.invokevirtual 145, 3) := by decide +kernel
theorem dX11_row_61 : decode cX11_row 61 = .ok (.goto 5, 3) := by decide +kernel
theorem dX11_row_64 : decode cX11_row 64 = .ok (.bipush (-3), 2) := by decide +kernel
theorem dX11_row_66 : decode cX11_row 66 = .ok (.ireturn, 1) := by decide +kernel
theorem dX11_told_0 : decode cX11_told 0 = .ok (.iload_n 1, 1) := by decide +kernel
theorem dX11_told_1 : decode cX11_told 1 = .ok (.tableswitch 81 0 4 #[35, 43, 51, 59, 70], 35) := by decide +kernel
theorem dX11_told_36 : decode cX11_told 36 = .ok (.aload_n 0, 1) := by decide +kernel
theorem dX11_told_37 : decode cX11_told 37 = .ok (.getfield 17, 3) := by decide +kernel
theorem dX11_told_40 : decode cX11_told 40 = .ok (.getfield 149, 3) := by decide +kernel
theorem dX11_told_43 : decode cX11_told 43 = .ok (.ireturn, 1) := by decide +kernel
theorem dX11_told_44 : decode cX11_told 44 = .ok (.aload_n 0, 1) := by decide +kernel
theorem dX11_told_45 : decode cX11_told 45 = .ok (.getfield 17, 3) := by decide +kernel
theorem dX11_told_48 : decode cX11_told 48 = .ok (.getfield 152, 3) := by decide +kernel
theorem dX11_told_51 : decode cX11_told 51 = .ok (.ireturn, 1) := by decide +kernel
theorem dX11_told_52 : decode cX11_told 52 = .ok (.aload_n 0, 1) := by decide +kernel
theorem dX11_told_53 : decode cX11_told 53 = .ok (.getfield 17, 3) := by decide +kernel
theorem dX11_told_56 : decode cX11_told 56 = .ok (.getfield 130, 3) := by decide +kernel
theorem dX11_told_59 : decode cX11_told 59 = .ok (.ireturn, 1) := by decide +kernel
theorem dX11_told_60 : decode cX11_told 60 = .ok (.aload_n 0, 1) := by decide +kernel
theorem dX11_told_61 : decode cX11_told 61 = .ok (.getfield 17, 3) := by decide +kernel
theorem dX11_told_64 : decode cX11_told 64 = .ok (.getfield 86, 3) := by decide +kernel
theorem dX11_told_67 : decode cX11_told 67 = .ok (.getfield 155, 3) := by decide +kernel
theorem dX11_told_70 : decode cX11_told 70 = .ok (.ireturn, 1) := by decide +kernel
theorem dX11_told_71 : decode cX11_told 71 = .ok (.aload_n 0, 1) := by decide +kernel
theorem dX11_told_72 : decode cX11_told 72 = .ok (.getfield 17, 3) := by decide +kernel
theorem dX11_told_75 : decode cX11_told 75 = .ok (.getfield 86, 3) := by decide +kernel
theorem dX11_told_78 : decode cX11_told 78 = .ok (.getfield 158, 3) := by decide +kernel
theorem dX11_told_81 : decode cX11_told 81 = .ok (.ireturn, 1) := by decide +kernel
theorem dX11_told_82 : decode cX11_told 82 = .ok (.iconst (-1), 1) := by decide +kernel
theorem dX11_told_83 : decode cX11_told 83 = .ok (.ireturn, 1) := by decide +kernel
theorem dX11_cut_0 : decode cX11_cut 0 = .ok (.aload_n 0, 1) := by decide +kernel
theorem dX11_cut_1 : decode cX11_cut 1 = .ok (.getfield 17, 3) := by decide +kernel
theorem dX11_cut_4 : decode cX11_cut 4 = .ok (.iload_n 1, 1) := by decide +kernel
theorem dX11_cut_5 : decode cX11_cut 5 = .ok (.invokevirtual 99, 3) := by decide +kernel
theorem dX11_cut_8 : decode cX11_cut 8 = .ok (.astore_n 3, 1) := by decide +kernel
theorem dX11_cut_9 : decode cX11_cut 9 = .ok (.aload_n 3, 1) := by decide +kernel
theorem dX11_cut_10 : decode cX11_cut 10 = .ok (.ifnonnull 5, 3) := by decide +kernel
theorem dX11_cut_13 : decode cX11_cut 13 = .ok (.iconst (-1), 1) := by decide +kernel
theorem dX11_cut_14 : decode cX11_cut 14 = .ok (.ireturn, 1) := by decide +kernel
theorem dX11_cut_15 : decode cX11_cut 15 = .ok (.iload_n 2, 1) := by decide +kernel
theorem dX11_cut_16 : decode cX11_cut 16 = .ok (.iconst 0, 1) := by decide +kernel
theorem dX11_cut_17 : decode cX11_cut 17 = .ok (.bipush 99, 2) := by decide +kernel
theorem dX11_cut_19 : decode cX11_cut 19 = .ok (.invokestatic 50, 3) := by decide +kernel
theorem dX11_cut_22 : decode cX11_cut 22 = .ok (.ifCond .ne 6, 3) := by decide +kernel
theorem dX11_cut_25 : decode cX11_cut 25 = .ok (.bipush (-2), 2) := by decide +kernel
theorem dX11_cut_27 : decode cX11_cut 27 = .ok (.ireturn, 1) := by decide +kernel
theorem dX11_cut_28 : decode cX11_cut 28 = .ok (.aload_n 3, 1) := by decide +kernel
theorem dX11_cut_29 : decode cX11_cut 29 = .ok (.getfield 117, 3) := by decide +kernel
theorem dX11_cut_32 : decode cX11_cut 32 = .ok (.ifCond .ne 15, 3) := by decide +kernel
theorem dX11_cut_35 : decode cX11_cut 35 = .ok (.aload_n 0, 1) := by decide +kernel
theorem dX11_cut_36 : decode cX11_cut 36 = .ok (.getfield 17, 3) := by decide +kernel
theorem dX11_cut_39 : decode cX11_cut 39 = .ok (.getfield 149, 3) := by decide +kernel
theorem dX11_cut_42 : decode cX11_cut 42 = .ok (.ldc 161, 2) := by decide +kernel
theorem dX11_cut_44 : decode cX11_cut 44 = .ok (.if_icmp .le 6, 3) := by decide +kernel
theorem dX11_cut_47 : decode cX11_cut 47 = .ok (.bipush (-3), 2) := by decide +kernel
theorem dX11_cut_49 : decode cX11_cut 49 = .ok (.ireturn, 1) := by decide +kernel
theorem dX11_cut_50 : decode cX11_cut 50 = .ok (.aload_n 0, 1) := by decide +kernel
theorem dX11_cut_51 : decode cX11_cut 51 = .ok (.getfield 17, 3) := by decide +kernel
theorem dX11_cut_54 : decode cX11_cut 54 = .ok (.aload_n 3, 1) := by decide +kernel
theorem dX11_cut_55 : decode cX11_cut 55 = .ok (.iload_n 2, 1) := by decide +kernel
theorem dX11_cut_56 : decode cX11_cut 56 = .ok (.invokevirtual 162, 3) := by decide +kernel
theorem dX11_cut_59 : decode cX11_cut 59 = .ok (.aload_n 3, 1) := by decide +kernel
theorem dX11_cut_60 : decode cX11_cut 60 = .ok (.getfield 121, 3) := by decide +kernel
theorem dX11_cut_63 : decode cX11_cut 63 = .ok (.ireturn, 1) := by decide +kernel
theorem dX11_rest_0 : decode cX11_rest 0 = .ok (.iload_n 1, 1) := by decide +kernel
theorem dX11_rest_1 : decode cX11_rest 1 = .ok (.iconst 0, 1) := by decide +kernel
theorem dX11_rest_2 : decode cX11_rest 2 = .ok (.bipush 60, 2) := by decide +kernel
theorem dX11_rest_4 : decode cX11_rest 4 = .ok (.invokestatic 50, 3) := by decide +kernel
theorem dX11_rest_7 : decode cX11_rest 7 = .ok (.ifCond .ne 6, 3) := by decide +kernel
theorem dX11_rest_10 : decode cX11_rest 10 = .ok (.bipush (-2), 2) := by decide +kernel
theorem dX11_rest_12 : decode cX11_rest 12 = .ok (.ireturn, 1) := by decide +kernel
theorem dX11_rest_13 : decode cX11_rest 13 = .ok (.aload_n 0, 1) := by decide +kernel
theorem dX11_rest_14 : decode cX11_rest 14 = .ok (.getfield 17, 3) := by decide +kernel
theorem dX11_rest_17 : decode cX11_rest 17 = .ok (.getfield 149, 3) := by decide +kernel
theorem dX11_rest_20 : decode cX11_rest 20 = .ok (.ldc 161, 2) := by decide +kernel
theorem dX11_rest_22 : decode cX11_rest 22 = .ok (.if_icmp .le 6, 3) := by decide +kernel
theorem dX11_rest_25 : decode cX11_rest 25 = .ok (.bipush (-3), 2) := by decide +kernel
theorem dX11_rest_27 : decode cX11_rest 27 = .ok (.ireturn, 1) := by decide +kernel
theorem dX11_rest_28 : decode cX11_rest 28 = .ok (.aload_n 0, 1) := by decide +kernel
theorem dX11_rest_29 : decode cX11_rest 29 = .ok (.getfield 17, 3) := by decide +kernel
theorem dX11_rest_32 : decode cX11_rest 32 = .ok (.iload_n 1, 1) := by decide +kernel
theorem dX11_rest_33 : decode cX11_rest 33 = .ok (.invokevirtual 166, 3) := by decide +kernel
theorem dX11_rest_36 : decode cX11_rest 36 = .ok (.aload_n 0, 1) := by decide +kernel
theorem dX11_rest_37 : decode cX11_rest 37 = .ok (.getfield 17, 3) := by decide +kernel
theorem dX11_rest_40 : decode cX11_rest 40 = .ok (.getfield 130, 3) := by decide +kernel
theorem dX11_rest_43 : decode cX11_rest 43 = .ok (.ireturn, 1) := by decide +kernel
theorem dX11_mend_0 : decode cX11_mend 0 = .ok (.aload_n 0, 1) := by decide +kernel
theorem dX11_mend_1 : decode cX11_mend 1 = .ok (.getfield 17, 3) := by decide +kernel
theorem dX11_mend_4 : decode cX11_mend 4 = .ok (.iload_n 1, 1) := by decide +kernel
theorem dX11_mend_5 : decode cX11_mend 5 = .ok (.invokevirtual 99, 3) := by decide +kernel
theorem dX11_mend_8 : decode cX11_mend 8 = .ok (.astore_n 2, 1) := by decide +kernel
theorem dX11_mend_9 : decode cX11_mend 9 = .ok (.aload_n 2, 1) := by decide +kernel
theorem dX11_mend_10 : decode cX11_mend 10 = .ok (.ifnonnull 5, 3) := by decide +kernel
theorem dX11_mend_13 : decode cX11_mend 13 = .ok (.iconst (-1), 1) := by decide +kernel
theorem dX11_mend_14 : decode cX11_mend 14 = .ok (.ireturn, 1) := by decide +kernel
theorem dX11_mend_15 : decode cX11_mend 15 = .ok (.aload_n 2, 1) := by decide +kernel
theorem dX11_mend_16 : decode cX11_mend 16 = .ok (.getfield 117, 3) := by decide +kernel
theorem dX11_mend_19 : decode cX11_mend 19 = .ok (.ifCond .eq 24, 3) := by decide +kernel
theorem dX11_mend_22 : decode cX11_mend 22 = .ok (.aload_n 2, 1) := by decide +kernel
theorem dX11_mend_23 : decode cX11_mend 23 = .ok (.getfield 127, 3) := by decide +kernel
theorem dX11_mend_26 : decode cX11_mend 26 = .ok (.bipush 9, 2) := by decide +kernel
theorem dX11_mend_28 : decode cX11_mend 28 = .ok (.if_icmp .ge 15, 3) := by decide +kernel
theorem dX11_mend_31 : decode cX11_mend 31 = .ok (.aload_n 0, 1) := by decide +kernel
theorem dX11_mend_32 : decode cX11_mend 32 = .ok (.getfield 17, 3) := by decide +kernel
theorem dX11_mend_35 : decode cX11_mend 35 = .ok (.getfield 149, 3) := by decide +kernel
theorem dX11_mend_38 : decode cX11_mend 38 = .ok (.ldc 161, 2) := by decide +kernel
theorem dX11_mend_40 : decode cX11_mend 40 = .ok (.if_icmp .le 6, 3) := by decide +kernel
theorem dX11_mend_43 : decode cX11_mend 43 = .ok (.bipush (-3), 2) := by decide +kernel
theorem dX11_mend_45 : decode cX11_mend 45 = .ok (.ireturn, 1) := by decide +kernel
theorem dX11_mend_46 : decode cX11_mend 46 = .ok (.aload_n 0, 1) := by decide +kernel
theorem dX11_mend_47 : decode cX11_mend 47 = .ok (.getfield 17, 3) := by decide +kernel
theorem dX11_mend_50 : decode cX11_mend 50 = .ok (.aload_n 2, 1) := by decide +kernel
theorem dX11_mend_51 : decode cX11_mend 51 = .ok (.invokevirtual 170, 3) := by decide +kernel
theorem dX11_mend_54 : decode cX11_mend 54 = .ok (.aload_n 0, 1) := by decide +kernel
theorem dX11_mend_55 : decode cX11_mend 55 = .ok (.getfield 17, 3) := by decide +kernel
theorem dX11_mend_58 : decode cX11_mend 58 = .ok (.aload_n 2, 1) := by decide +kernel
theorem dX11_mend_59 : decode cX11_mend 59 = .ok (.iconst 0, 1) := by decide +kernel
theorem dX11_mend_60 : decode cX11_mend 60 = .ok (.invokevirtual 140, 3) := by decide +kernel
theorem dX11_mend_63 : decode cX11_mend 63 = .ok (.ireturn, 1) := by decide +kernel
theorem dX11_over_0 : decode cX11_over 0 = .ok (.aload_n 0, 1) := by decide +kernel
theorem dX11_over_1 : decode cX11_over 1 = .ok (.getfield 17, 3) := by decide +kernel
theorem dX11_over_4 : decode cX11_over 4 = .ok (.iload_n 1, 1) := by decide +kernel
theorem dX11_over_5 : decode cX11_over 5 = .ok (.invokevirtual 99, 3) := by decide +kernel
theorem dX11_over_8 : decode cX11_over 8 = .ok (.astore_n 2, 1) := by decide +kernel
theorem dX11_over_9 : decode cX11_over 9 = .ok (.aload_n 2, 1) := by decide +kernel
theorem dX11_over_10 : decode cX11_over 10 = .ok (.ifnonnull 5, 3) := by decide +kernel
theorem dX11_over_13 : decode cX11_over 13 = .ok (.iconst (-1), 1) := by decide +kernel
theorem dX11_over_14 : decode cX11_over 14 = .ok (.ireturn, 1) := by decide +kernel
theorem dX11_over_15 : decode cX11_over 15 = .ok (.aload_n 2, 1) := by decide +kernel
theorem dX11_over_16 : decode cX11_over 16 = .ok (.getfield 117, 3) := by decide +kernel
theorem dX11_over_19 : decode cX11_over 19 = .ok (.ifCond .eq 15, 3) := by decide +kernel
theorem dX11_over_22 : decode cX11_over 22 = .ok (.aload_n 0, 1) := by decide +kernel
theorem dX11_over_23 : decode cX11_over 23 = .ok (.getfield 17, 3) := by decide +kernel
theorem dX11_over_26 : decode cX11_over 26 = .ok (.getfield 149, 3) := by decide +kernel
theorem dX11_over_29 : decode cX11_over 29 = .ok (.ldc 161, 2) := by decide +kernel
theorem dX11_over_31 : decode cX11_over 31 = .ok (.if_icmp .le 6, 3) := by decide +kernel
theorem dX11_over_34 : decode cX11_over 34 = .ok (.bipush (-3), 2) := by decide +kernel
theorem dX11_over_36 : decode cX11_over 36 = .ok (.ireturn, 1) := by decide +kernel
theorem dX11_over_37 : decode cX11_over 37 = .ok (.aload_n 0, 1) := by decide +kernel
theorem dX11_over_38 : decode cX11_over 38 = .ok (.getfield 17, 3) := by decide +kernel
theorem dX11_over_41 : decode cX11_over 41 = .ok (.aload_n 2, 1) := by decide +kernel
theorem dX11_over_42 : decode cX11_over 42 = .ok (.invokevirtual 174, 3) := by decide +kernel
theorem dX11_over_45 : decode cX11_over 45 = .ok (.aload_n 0, 1) := by decide +kernel
theorem dX11_over_46 : decode cX11_over 46 = .ok (.getfield 17, 3) := by decide +kernel
theorem dX11_over_49 : decode cX11_over 49 = .ok (.aload_n 2, 1) := by decide +kernel
theorem dX11_over_50 : decode cX11_over 50 = .ok (.iconst 0, 1) := by decide +kernel
theorem dX11_over_51 : decode cX11_over 51 = .ok (.invokevirtual 140, 3) := by decide +kernel
theorem dX11_over_54 : decode cX11_over 54 = .ok (.ireturn, 1) := by decide +kernel
theorem dX11_print_0 : decode cX11_print 0 = .ok (.iload_n 1, 1) := by decide +kernel
theorem dX11_print_1 : decode cX11_print 1 = .ok (.iconst 0, 1) := by decide +kernel
theorem dX11_print_2 : decode cX11_print 2 = .ok (.sipush 999, 3) := by decide +kernel
theorem dX11_print_5 : decode cX11_print 5 = .ok (.invokestatic 50, 3) := by decide +kernel
theorem dX11_print_8 : decode cX11_print 8 = .ok (.ifCond .ne 6, 3) := by decide +kernel
theorem dX11_print_11 : decode cX11_print 11 = .ok (.bipush (-2), 2) := by decide +kernel
theorem dX11_print_13 : decode cX11_print 13 = .ok (.ireturn, 1) := by decide +kernel
theorem dX11_print_14 : decode cX11_print 14 = .ok (.aload_n 0, 1) := by decide +kernel
theorem dX11_print_15 : decode cX11_print 15 = .ok (.getfield 17, 3) := by decide +kernel
theorem dX11_print_18 : decode cX11_print 18 = .ok (.iload_n 1, 1) := by decide +kernel
theorem dX11_print_19 : decode cX11_print 19 = .ok (.sipush 9999, 3) := by decide +kernel
theorem dX11_print_22 : decode cX11_print 22 = .ok (.invokevirtual 177, 3) := by decide +kernel
theorem dX11_print_25 : decode cX11_print 25 = .ok (.aload_n 0, 1) := by decide +kernel
theorem dX11_print_26 : decode cX11_print 26 = .ok (.getfield 17, 3) := by decide +kernel
theorem dX11_print_29 : decode cX11_print 29 = .ok (.iconst 0, 1) := by decide +kernel
theorem dX11_print_30 : decode cX11_print 30 = .ok (.invokevirtual 181, 3) := by decide +kernel
theorem dX11_print_33 : decode cX11_print 33 = .ok (.invokestatic 185, 3) := by decide +kernel
theorem dX11_print_36 : decode cX11_print 36 = .ok (.ireturn, 1) := by decide +kernel
theorem dX11_dark_0 : decode cX11_dark 0 = .ok (.aload_n 0, 1) := by decide +kernel
theorem dX11_dark_1 : decode cX11_dark 1 = .ok (.getfield 17, 3) := by decide +kernel
theorem dX11_dark_4 : decode cX11_dark 4 = .ok (.iload_n 1, 1) := by decide +kernel
theorem dX11_dark_5 : decode cX11_dark 5 = .ok (.invokevirtual 99, 3) := by decide +kernel
theorem dX11_dark_8 : decode cX11_dark 8 = .ok (.astore_n 3, 1) := by decide +kernel
theorem dX11_dark_9 : decode cX11_dark 9 = .ok (.aload_n 3, 1) := by decide +kernel
theorem dX11_dark_10 : decode cX11_dark 10 = .ok (.ifnonnull 5, 3) := by decide +kernel
theorem dX11_dark_13 : decode cX11_dark 13 = .ok (.iconst (-1), 1) := by decide +kernel
theorem dX11_dark_14 : decode cX11_dark 14 = .ok (.ireturn, 1) := by decide +kernel
theorem dX11_dark_15 : decode cX11_dark 15 = .ok (.iload_n 2, 1) := by decide +kernel
theorem dX11_dark_16 : decode cX11_dark 16 = .ok (.iconst 0, 1) := by decide +kernel
theorem dX11_dark_17 : decode cX11_dark 17 = .ok (.sipush 999, 3) := by decide +kernel
theorem dX11_dark_20 : decode cX11_dark 20 = .ok (.invokestatic 50, 3) := by decide +kernel
theorem dX11_dark_23 : decode cX11_dark 23 = .ok (.ifCond .eq 15, 3) := by decide +kernel
theorem dX11_dark_26 : decode cX11_dark 26 = .ok (.aload_n 0, 1) := by decide +kernel
theorem dX11_dark_27 : decode cX11_dark 27 = .ok (.getfield 17, 3) := by decide +kernel
theorem dX11_dark_30 : decode cX11_dark 30 = .ok (.aload_n 3, 1) := by decide +kernel
theorem dX11_dark_31 : decode cX11_dark 31 = .ok (.iload_n 2, 1) := by decide +kernel
theorem dX11_dark_32 : decode cX11_dark 32 = .ok (.invokevirtual 140, 3) := by decide +kernel
theorem dX11_dark_35 : decode cX11_dark 35 = .ok (.goto 5, 3) := by decide +kernel
theorem dX11_dark_38 : decode cX11_dark 38 = .ok (.bipush (-2), 2) := by decide +kernel
theorem dX11_dark_40 : decode cX11_dark 40 = .ok (.ireturn, 1) := by decide +kernel
theorem dX11_good_0 : decode cX11_good 0 = .ok (.iload_n 1, 1) := by decide +kernel
theorem dX11_good_1 : decode cX11_good 1 = .ok (.iconst (-1), 1) := by decide +kernel
theorem dX11_good_2 : decode cX11_good 2 = .ok (.if_icmp .ne 19, 3) := by decide +kernel
theorem dX11_good_5 : decode cX11_good 5 = .ok (.aload_n 0, 1) := by decide +kernel
theorem dX11_good_6 : decode cX11_good 6 = .ok (.getfield 17, 3) := by decide +kernel
theorem dX11_good_9 : decode cX11_good 9 = .ok (.aload_n 0, 1) := by decide +kernel
theorem dX11_good_10 : decode cX11_good 10 = .ok (.getfield 17, 3) := by decide +kernel
theorem dX11_good_13 : decode cX11_good 13 = .ok (.iconst 0, 1) := by decide +kernel
theorem dX11_good_14 : decode cX11_good 14 = .ok (.invokevirtual 181, 3) := by decide +kernel
theorem dX11_good_17 : decode cX11_good 17 = .ok (.invokevirtual 190, 3) := by decide +kernel
theorem dX11_good_20 : decode cX11_good 20 = .ok (.ireturn, 1) := by decide +kernel
theorem dX11_good_21 : decode cX11_good 21 = .ok (.aload_n 0, 1) := by decide +kernel
theorem dX11_good_22 : decode cX11_good 22 = .ok (.getfield 17, 3) := by decide +kernel
theorem dX11_good_25 : decode cX11_good 25 = .ok (.iload_n 1, 1) := by decide +kernel
theorem dX11_good_26 : decode cX11_good 26 = .ok (.invokevirtual 99, 3) := by decide +kernel
theorem dX11_good_29 : decode cX11_good 29 = .ok (.ifnonnull 5, 3) := by decide +kernel
theorem dX11_good_32 : decode cX11_good 32 = .ok (.iconst (-1), 1) := by decide +kernel
theorem dX11_good_33 : decode cX11_good 33 = .ok (.ireturn, 1) := by decide +kernel
theorem dX11_good_34 : decode cX11_good 34 = .ok (.aload_n 0, 1) := by decide +kernel
theorem dX11_good_35 : decode cX11_good 35 = .ok (.getfield 17, 3) := by decide +kernel
theorem dX11_good_38 : decode cX11_good 38 = .ok (.aload_n 0, 1) := by decide +kernel
theorem dX11_good_39 : decode cX11_good 39 = .ok (.getfield 17, 3) := by decide +kernel
theorem dX11_good_42 : decode cX11_good 42 = .ok (.iconst 0, 1) := by decide +kernel
theorem dX11_good_43 : decode cX11_good 43 = .ok (.invokevirtual 181, 3) := by decide +kernel
theorem dX11_good_46 : decode cX11_good 46 = .ok (.iconst 1, 1) := by decide +kernel
theorem dX11_good_47 : decode cX11_good 47 = .ok (.iload_n 1, 1) := by decide +kernel
theorem dX11_good_48 : decode cX11_good 48 = .ok (.ishl, 1) := by decide +kernel
theorem dX11_good_49 : decode cX11_good 49 = .ok (.iand, 1) := by decide +kernel
theorem dX11_good_50 : decode cX11_good 50 = .ok (.invokevirtual 190, 3) := by decide +kernel
theorem dX11_good_53 : decode cX11_good 53 = .ok (.ireturn, 1) := by decide +kernel
theorem dX11_first_0 : decode cX11_first 0 = .ok (.aload_n 0, 1) := by decide +kernel
theorem dX11_first_1 : decode cX11_first 1 = .ok (.getfield 17, 3) := by decide +kernel
theorem dX11_first_4 : decode cX11_first 4 = .ok (.iconst 0, 1) := by decide +kernel
theorem dX11_first_5 : decode cX11_first 5 = .ok (.invokevirtual 181, 3) := by decide +kernel
theorem dX11_first_8 : decode cX11_first 8 = .ok (.istore_n 1, 1) := by decide +kernel
theorem dX11_first_9 : decode cX11_first 9 = .ok (.iconst 1, 1) := by decide +kernel
theorem dX11_first_10 : decode cX11_first 10 = .ok (.istore_n 2, 1) := by decide +kernel
theorem dX11_first_11 : decode cX11_first 11 = .ok (.iload_n 2, 1) := by decide +kernel
theorem dX11_first_12 : decode cX11_first 12 = .ok (.sipush 999, 3) := by decide +kernel
theorem dX11_first_15 : decode cX11_first 15 = .ok (.if_icmp .gt 25, 3) := by decide +kernel
theorem dX11_first_18 : decode cX11_first 18 = .ok (.aload_n 0, 1) := by decide +kernel
theorem dX11_first_19 : decode cX11_first 19 = .ok (.getfield 17, 3) := by decide +kernel
theorem dX11_first_22 : decode cX11_first 22 = .ok (.iload_n 1, 1) := by decide +kernel
theorem dX11_first_23 : decode cX11_first 23 = .ok (.iload_n 2, 1) := by decide +kernel
theorem dX11_first_24 : decode cX11_first 24 = .ok (.invokevirtual 193, 3) := by decide +kernel
theorem dX11_first_27 : decode cX11_first 27 = .ok (.istore_n 3, 1) := by decide +kernel
theorem dX11_first_28 : decode cX11_first 28 = .ok (.iload_n 3, 1) := by decide +kernel
theorem dX11_first_29 : decode cX11_first 29 = .ok (.ifCond .lt 5, 3) := by decide +kernel
theorem dX11_first_32 : decode cX11_first 32 = .ok (.iload_n 3, 1) := by decide +kernel
theorem dX11_first_33 : decode cX11_first 33 = .ok (.ireturn, 1) := by decide +kernel
theorem dX11_first_34 : decode cX11_first 34 = .ok (.iinc 2 1, 3) := by decide +kernel
theorem dX11_first_37 : decode cX11_first 37 = .ok (.goto (-26), 3) := by decide +kernel
theorem dX11_first_40 : decode cX11_first 40 = .ok (.bipush (-5), 2) := by decide +kernel
theorem dX11_first_42 : decode cX11_first 42 = .ok (.ireturn, 1) := by decide +kernel
theorem dX11_faded_0 : decode cX11_faded 0 = .ok (.iload_n 1, 1) := by decide +kernel
theorem dX11_faded_1 : decode cX11_faded 1 = .ok (.iconst 0, 1) := by decide +kernel
theorem dX11_faded_2 : decode cX11_faded 2 = .ok (.sipush 999, 3) := by decide +kernel
theorem dX11_faded_5 : decode cX11_faded 5 = .ok (.invokestatic 50, 3) := by decide +kernel
theorem dX11_faded_8 : decode cX11_faded 8 = .ok (.ifCond .eq 25, 3) := by decide +kernel
theorem dX11_faded_11 : decode cX11_faded 11 = .ok (.aload_n 0, 1) := by decide +kernel
theorem dX11_faded_12 : decode cX11_faded 12 = .ok (.getfield 17, 3) := by decide +kernel
theorem dX11_faded_15 : decode cX11_faded 15 = .ok (.iconst 0, 1) := by decide +kernel
theorem dX11_faded_16 : decode cX11_faded 16 = .ok (.invokevirtual 181, 3) := by decide +kernel
theorem dX11_faded_19 : decode cX11_faded 19 = .ok (.aload_n 0, 1) := by decide +kernel
theorem dX11_faded_20 : decode cX11_faded 20 = .ok (.getfield 17, 3) := by decide +kernel
theorem dX11_faded_23 : decode cX11_faded 23 = .ok (.iload_n 1, 1) := by decide +kernel
theorem dX11_faded_24 : decode cX11_faded 24 = .ok (.invokevirtual 181, 3) := by decide +kernel
theorem dX11_faded_27 : decode cX11_faded 27 = .ok (.iconst (-1), 1) := by decide +kernel
theorem dX11_faded_28 : decode cX11_faded 28 = .ok (.ixor, 1) := by decide +kernel
theorem dX11_faded_29 : decode cX11_faded 29 = .ok (.iand, 1) := by decide +kernel
theorem dX11_faded_30 : decode cX11_faded 30 = .ok (.goto 5, 3) := by decide +kernel
theorem dX11_faded_33 : decode cX11_faded 33 = .ok (.bipush (-2), 2) := by decide +kernel
theorem dX11_faded_35 : decode cX11_faded 35 = .ok (.ireturn, 1) := by decide +kernel
theorem dX11_order_0 : decode cX11_order 0 = .ok (.iload_n 1, 1) := by decide +kernel
theorem dX11_order_1 : decode cX11_order 1 = .ok (.iconst (-1), 1) := by decide +kernel
theorem dX11_order_2 : decode cX11_order 2 = .ok (.iconst 5, 1) := by decide +kernel
theorem dX11_order_3 : decode cX11_order 3 = .ok (.invokestatic 50, 3) := by decide +kernel
theorem dX11_order_6 : decode cX11_order 6 = .ok (.ifCond .ne 5, 3) := by decide +kernel
theorem dX11_order_9 : decode cX11_order 9 = .ok (.iconst (-1), 1) := by decide +kernel
theorem dX11_order_10 : decode cX11_order 10 = .ok (.ireturn, 1) := by decide +kernel
theorem dX11_order_11 : decode cX11_order 11 = .ok (.aload_n 0, 1) := by decide +kernel
theorem dX11_order_12 : decode cX11_order 12 = .ok (.invokevirtual 196, 3) := by decide +kernel
theorem dX11_order_15 : decode cX11_order 15 = .ok (.istore_n 2, 1) := by decide +kernel
theorem dX11_order_16 : decode cX11_order 16 = .ok (.iload_n 2, 1) := by decide +kernel
theorem dX11_order_17 : decode cX11_order 17 = .ok (.bipush 6, 2) := by decide +kernel
theorem dX11_order_19 : decode cX11_order 19 = .ok (.if_icmp .le 6, 3) := by decide +kernel
theorem dX11_order_22 : decode cX11_order 22 = .ok (.bipush (-9), 2) := by decide +kernel
theorem dX11_order_24 : decode cX11_order 24 = .ok (.ireturn, 1) := by decide +kernel
theorem dX11_order_25 : decode cX11_order 25 = .ok (.aload_n 0, 1) := by decide +kernel
theorem dX11_order_26 : decode cX11_order 26 = .ok (.iload_n 2, 1) := by decide +kernel
theorem dX11_order_27 : decode cX11_order 27 = .ok (.invokevirtual 199, 3) := by decide +kernel
theorem dX11_order_30 : decode cX11_order 30 = .ok (.iload_n 1, 1) := by decide +kernel
theorem dX11_order_31 : decode cX11_order 31 = .ok (.iconst (-1), 1) := by decide +kernel
theorem dX11_order_32 : decode cX11_order 32 = .ok (.if_icmp .ne 10, 3) := by decide +kernel
theorem dX11_order_35 : decode cX11_order 35 = .ok (.aload_n 0, 1) := by decide +kernel
theorem dX11_order_36 : decode cX11_order 36 = .ok (.getfield 44, 3) := by decide +kernel
theorem dX11_order_39 : decode cX11_order 39 = .ok (.iconst 0, 1) := by decide +kernel
theorem dX11_order_40 : decode cX11_order 40 = .ok (.iaload, 1) := by decide +kernel
theorem dX11_order_41 : decode cX11_order 41 = .ok (.ireturn, 1) := by decide +kernel
theorem dX11_order_42 : decode cX11_order 42 = .ok (.iload_n 1, 1) := by decide +kernel
theorem dX11_order_43 : decode cX11_order 43 = .ok (.iload_n 2, 1) := by decide +kernel
theorem dX11_order_44 : decode cX11_order 44 = .ok (.if_icmp .lt 6, 3) := by decide +kernel
theorem dX11_order_47 : decode cX11_order 47 = .ok (.bipush (-5), 2) := by decide +kernel
theorem dX11_order_49 : decode cX11_order 49 = .ok (.ireturn, 1) := by decide +kernel
theorem dX11_order_50 : decode cX11_order 50 = .ok (.iconst 0, 1) := by decide +kernel
theorem dX11_order_51 : decode cX11_order 51 = .ok (.istore_n 3, 1) := by decide +kernel
theorem dX11_order_52 : decode cX11_order 52 = .ok (.iconst 0, 1) := by decide +kernel
theorem dX11_order_53 : decode cX11_order 53 = .ok (.istore 4, 2) := by decide +kernel
theorem dX11_order_55 : decode cX11_order 55 = .ok (.iload 4, 2) := by decide +kernel
theorem dX11_order_57 : decode cX11_order 57 = .ok (.iload_n 1, 1) := by decide +kernel
theorem dX11_order_58 : decode cX11_order 58 = .ok (.if_icmp .ge 20, 3) := by decide +kernel
theorem dX11_order_61 : decode cX11_order 61 = .ok (.iload_n 3, 1) := by decide +kernel
theorem dX11_order_62 : decode cX11_order 62 = .ok (.iconst 1, 1) := by decide +kernel
theorem dX11_order_63 : decode cX11_order 63 = .ok (.aload_n 0, 1) := by decide +kernel
theorem dX11_order_64 : decode cX11_order 64 = .ok (.getfield 47, 3) := by decide +kernel
theorem dX11_order_67 : decode cX11_order 67 = .ok (.iload_n 3, 1) := by decide +kernel
theorem dX11_order_68 : decode cX11_order 68 = .ok (.iaload, 1) := by decide +kernel
theorem dX11_order_69 : decode cX11_order 69 = .ok (.ishl, 1) := by decide +kernel
theorem dX11_order_70 : decode cX11_order 70 = .ok (.ior, 1) := by decide +kernel
theorem dX11_order_71 : decode cX11_order 71 = .ok (.istore_n 3, 1) := by decide +kernel
theorem dX11_order_72 : decode cX11_order 72 = .ok (.iinc 4 1, 3) := by decide +kernel
theorem dX11_order_75 : decode cX11_order 75 = .ok (.goto (-20), 3) := by decide +kernel
theorem dX11_order_78 : decode cX11_order 78 = .ok (.aload_n 0, 1) := by decide +kernel
theorem dX11_order_79 : decode cX11_order 79 = .ok (.getfield 40, 3) := by decide +kernel
theorem dX11_order_82 : decode cX11_order 82 = .ok (.aload_n 0, 1) := by decide +kernel
theorem dX11_order_83 : decode cX11_order 83 = .ok (.getfield 47, 3) := by decide +kernel
theorem dX11_order_86 : decode cX11_order 86 = .ok (.iload_n 3, 1) := by decide +kernel
theorem dX11_order_87 : decode cX11_order 87 = .ok (.iaload, 1) := by decide +kernel
theorem dX11_order_88 : decode cX11_order 88 = .ok (.iaload, 1) := by decide +kernel
theorem dX11_order_89 : decode cX11_order 89 = .ok (.ireturn, 1) := by decide +kernel
theorem dX11_rested_0 : decode cX11_rested 0 = .ok (.aload_n 0, 1) := by decide +kernel
theorem dX11_rested_1 : decode cX11_rested 1 = .ok (.getfield 17, 3) := by decide +kernel
theorem dX11_rested_4 : decode cX11_rested 4 = .ok (.iconst (-1), 1) := by decide +kernel
theorem dX11_rested_5 : decode cX11_rested 5 = .ok (.invokevirtual 202, 3) := by decide +kernel
theorem dX11_rested_8 : decode cX11_rested 8 = .ok (.istore_n 1, 1) := by decide +kernel
theorem dX11_rested_9 : decode cX11_rested 9 = .ok (.bipush (-5), 2) := by decide +kernel
theorem dX11_rested_11 : decode cX11_rested 11 = .ok (.istore_n 2, 1) := by decide +kernel
theorem dX11_rested_12 : decode cX11_rested 12 = .ok (.iconst 0, 1) := by decide +kernel
theorem dX11_rested_13 : decode cX11_rested 13 = .ok (.istore_n 3, 1) := by decide +kernel
theorem dX11_rested_14 : decode cX11_rested 14 = .ok (.iload_n 3, 1) := by decide +kernel
theorem dX11_rested_15 : decode cX11_rested 15 = .ok (.aload_n 0, 1) := by decide +kernel
theorem dX11_rested_16 : decode cX11_rested 16 = .ok (.getfield 17, 3) := by decide +kernel
theorem dX11_rested_19 : decode cX11_rested 19 = .ok (.getfield 90, 3) := by decide +kernel
theorem dX11_rested_22 : decode cX11_rested 22 = .ok (.if_icmp .ge 45, 3) := by decide +kernel
theorem dX11_rested_25 : decode cX11_rested 25 = .ok (.aload_n 0, 1) := by decide +kernel
theorem dX11_rested_26 : decode cX11_rested 26 = .ok (.getfield 17, 3) := by decide +kernel
theorem dX11_rested_29 : decode cX11_rested 29 = .ok (.getfield 91, 3) := by decide +kernel
theorem dX11_rested_32 : decode cX11_rested 32 = .ok (.iload_n 3, 1) := by decide +kernel
theorem dX11_rested_33 : decode cX11_rested 33 = .ok (.aaload, 1) := by decide +kernel
theorem dX11_rested_34 : decode cX11_rested 34 = .ok (.getfield 117, 3) := by decide +kernel
theorem dX11_rested_37 : decode cX11_rested 37 = .ok (.ifCond .ne 24, 3) := by decide +kernel
theorem dX11_rested_40 : decode cX11_rested 40 = .ok (.aload_n 0, 1) := by decide +kernel
theorem dX11_rested_41 : decode cX11_rested 41 = .ok (.getfield 17, 3) := by decide +kernel
theorem dX11_rested_44 : decode cX11_rested 44 = .ok (.iload_n 3, 1) := by decide +kernel
theorem dX11_rested_45 : decode cX11_rested 45 = .ok (.invokevirtual 202, 3) := by decide +kernel
theorem dX11_rested_48 : decode cX11_rested 48 = .ok (.istore 4, 2) := by decide +kernel
theorem dX11_rested_50 : decode cX11_rested 50 = .ok (.iload 4, 2) := by decide +kernel
theorem dX11_rested_52 : decode cX11_rested 52 = .ok (.iload_n 1, 1) := by decide +kernel
theorem dX11_rested_53 : decode cX11_rested 53 = .ok (.if_icmp .ge 8, 3) := by decide +kernel
theorem dX11_rested_56 : decode cX11_rested 56 = .ok (.iload 4, 2) := by decide +kernel
theorem dX11_rested_58 : decode cX11_rested 58 = .ok (.istore_n 1, 1) := by decide +kernel
theorem dX11_rested_59 : decode cX11_rested 59 = .ok (.iload_n 3, 1) := by decide +kernel
theorem dX11_rested_60 : decode cX11_rested 60 = .ok (.istore_n 2, 1) := by decide +kernel
theorem dX11_rested_61 : decode cX11_rested 61 = .ok (.iinc 3 1, 3) := by decide +kernel
theorem dX11_rested_64 : decode cX11_rested 64 = .ok (.goto (-50), 3) := by decide +kernel
theorem dX11_rested_67 : decode cX11_rested 67 = .ok (.iload_n 2, 1) := by decide +kernel
theorem dX11_rested_68 : decode cX11_rested 68 = .ok (.ireturn, 1) := by decide +kernel
theorem dX11_flaws_0 : decode cX11_flaws 0 = .ok (.aload_n 0, 1) := by decide +kernel
theorem dX11_flaws_1 : decode cX11_flaws 1 = .ok (.invokevirtual 196, 3) := by decide +kernel
theorem dX11_flaws_4 : decode cX11_flaws 4 = .ok (.iconst 4, 1) := by decide +kernel
theorem dX11_flaws_5 : decode cX11_flaws 5 = .ok (.invokestatic 205, 3) := by decide +kernel
theorem dX11_flaws_8 : decode cX11_flaws 8 = .ok (.istore_n 2, 1) := by decide +kernel
theorem dX11_flaws_9 : decode cX11_flaws 9 = .ok (.aload_n 0, 1) := by decide +kernel
theorem dX11_flaws_10 : decode cX11_flaws 10 = .ok (.getfield 17, 3) := by decide +kernel
theorem dX11_flaws_13 : decode cX11_flaws 13 = .ok (.getfield 130, 3) := by decide +kernel
theorem dX11_flaws_16 : decode cX11_flaws 16 = .ok (.istore_n 3, 1) := by decide +kernel
theorem dX11_flaws_17 : decode cX11_flaws 17 = .ok (.lconst 0, 1) := by decide +kernel
theorem dX11_flaws_18 : decode cX11_flaws 18 = .ok (.lstore 4, 2) := by decide +kernel
theorem dX11_flaws_20 : decode cX11_flaws 20 = .ok (.iconst 0, 1) := by decide +kernel
theorem dX11_flaws_21 : decode cX11_flaws 21 = .ok (.istore 6, 2) := by decide +kernel
theorem dX11_flaws_23 : decode cX11_flaws 23 = .ok (.iload 6, 2) := by decide +kernel
theorem dX11_flaws_25 : decode cX11_flaws 25 = .ok (.iload_n 2, 1) := by decide +kernel
theorem dX11_flaws_26 : decode cX11_flaws 26 = .ok (.if_icmp .ge 52, 3) := by decide +kernel
theorem dX11_flaws_29 : decode cX11_flaws 29 = .ok (.aload_n 0, 1) := by decide +kernel
theorem dX11_flaws_30 : decode cX11_flaws 30 = .ok (.getfield 17, 3) := by decide +kernel
theorem dX11_flaws_33 : decode cX11_flaws 33 = .ok (.getfield 91, 3) := by decide +kernel
theorem dX11_flaws_36 : decode cX11_flaws 36 = .ok (.aload_n 0, 1) := by decide +kernel
theorem dX11_flaws_37 : decode cX11_flaws 37 = .ok (.getfield 40, 3) := by decide +kernel
theorem dX11_flaws_40 : decode cX11_flaws 40 = .ok (.iload 6, 2) := by decide +kernel
theorem dX11_flaws_42 : decode cX11_flaws 42 = .ok (.iaload, 1) := by decide +kernel
theorem dX11_flaws_43 : decode cX11_flaws 43 = .ok (.aaload, 1) := by decide +kernel
theorem dX11_flaws_44 : decode cX11_flaws 44 = .ok (.astore 7, 2) := by decide +kernel
theorem dX11_flaws_46 : decode cX11_flaws 46 = .ok (.lload 4, 2) := by decide +kernel
theorem dX11_flaws_48 : decode cX11_flaws 48 = .ok (.aload_n 0, 1) := by decide +kernel
theorem dX11_flaws_49 : decode cX11_flaws 49 = .ok (.getfield 17, 3) := by decide +kernel
theorem dX11_flaws_52 : decode cX11_flaws 52 = .ok (.getfield 86, 3) := by decide +kernel
theorem dX11_flaws_55 : decode cX11_flaws 55 = .ok (.aload 7, 2) := by decide +kernel
theorem dX11_flaws_57 : decode cX11_flaws 57 = .ok (.iload_n 3, 1) := by decide +kernel
theorem dX11_flaws_58 : decode cX11_flaws 58 = .ok (.invokevirtual 133, 3) := by decide +kernel
theorem dX11_flaws_61 : decode cX11_flaws 61 = .ok (.i2l, 1) := by decide +kernel
theorem dX11_flaws_62 : decode cX11_flaws 62 = .ok (.ladd, 1) := by decide +kernel
theorem dX11_flaws_63 : decode cX11_flaws 63 = .ok (.lstore 4, 2) := by decide +kernel
theorem dX11_flaws_65 : decode cX11_flaws 65 = .ok (.aload 7, 2) := by decide +kernel
theorem dX11_flaws_67 : decode cX11_flaws 67 = .ok (.iload_n 3, 1) := by decide +kernel
theorem dX11_flaws_68 : decode cX11_flaws 68 = .ok (.invokevirtual 210, 3) := by decide +kernel
theorem dX11_flaws_71 : decode cX11_flaws 71 = .ok (.istore_n 3, 1) := by decide +kernel
theorem dX11_flaws_72 : decode cX11_flaws 72 = .ok (.iinc 6 1, 3) := by decide +kernel
theorem dX11_flaws_75 : decode cX11_flaws 75 = .ok (.goto (-52), 3) := by decide +kernel
theorem dX11_flaws_78 : decode cX11_flaws 78 = .ok (.lload 4, 2) := by decide +kernel
theorem dX11_flaws_80 : decode cX11_flaws 80 = .ok (.ldc2_w 213, 3) := by decide +kernel
theorem dX11_flaws_83 : decode cX11_flaws 83 = .ok (.iload_n 1, 1) := by decide +kernel
theorem dX11_flaws_84 : decode cX11_flaws 84 = .ok (.invokestatic 215, 3) := by decide +kernel
theorem dX11_flaws_87 : decode cX11_flaws 87 = .ok (.lreturn, 1) := by decide +kernel
theorem dX11_clean_0 : decode cX11_clean 0 = .ok (.aload_n 0, 1) := by decide +kernel
theorem dX11_clean_1 : decode cX11_clean 1 = .ok (.invokevirtual 196, 3) := by decide +kernel
theorem dX11_clean_4 : decode cX11_clean 4 = .ok (.iconst 4, 1) := by decide +kernel
theorem dX11_clean_5 : decode cX11_clean 5 = .ok (.invokestatic 205, 3) := by decide +kernel
theorem dX11_clean_8 : decode cX11_clean 8 = .ok (.istore_n 2, 1) := by decide +kernel
theorem dX11_clean_9 : decode cX11_clean 9 = .ok (.aload_n 0, 1) := by decide +kernel
theorem dX11_clean_10 : decode cX11_clean 10 = .ok (.getfield 17, 3) := by decide +kernel
theorem dX11_clean_13 : decode cX11_clean 13 = .ok (.getfield 130, 3) := by decide +kernel
theorem dX11_clean_16 : decode cX11_clean 16 = .ok (.istore_n 3, 1) := by decide +kernel
theorem dX11_clean_17 : decode cX11_clean 17 = .ok (.lconst 1, 1) := by decide +kernel
theorem dX11_clean_18 : decode cX11_clean 18 = .ok (.lstore 4, 2) := by decide +kernel
theorem dX11_clean_20 : decode cX11_clean 20 = .ok (.lconst 1, 1) := by decide +kernel
theorem dX11_clean_21 : decode cX11_clean 21 = .ok (.lstore 6, 2) := by decide +kernel
theorem dX11_clean_23 : decode cX11_clean 23 = .ok (.iconst 0, 1) := by decide +kernel
theorem dX11_clean_24 : decode cX11_clean 24 = .ok (.istore 8, 2) := by decide +kernel
theorem dX11_clean_26 : decode cX11_clean 26 = .ok (.iload 8, 2) := by decide +kernel
theorem dX11_clean_28 : decode cX11_clean 28 = .ok (.iload_n 2, 1) := by decide +kernel
theorem dX11_clean_29 : decode cX11_clean 29 = .ok (.if_icmp .ge 63, 3) := by decide +kernel
theorem dX11_clean_32 : decode cX11_clean 32 = .ok (.aload_n 0, 1) := by decide +kernel
theorem dX11_clean_33 : decode cX11_clean 33 = .ok (.getfield 17, 3) := by decide +kernel
theorem dX11_clean_36 : decode cX11_clean 36 = .ok (.getfield 91, 3) := by decide +kernel
theorem dX11_clean_39 : decode cX11_clean 39 = .ok (.aload_n 0, 1) := by decide +kernel
theorem dX11_clean_40 : decode cX11_clean 40 = .ok (.getfield 40, 3) := by decide +kernel
theorem dX11_clean_43 : decode cX11_clean 43 = .ok (.iload 8, 2) := by decide +kernel
theorem dX11_clean_45 : decode cX11_clean 45 = .ok (.iaload, 1) := by decide +kernel
theorem dX11_clean_46 : decode cX11_clean 46 = .ok (.aaload, 1) := by decide +kernel
theorem dX11_clean_47 : decode cX11_clean 47 = .ok (.astore 9, 2) := by decide +kernel
theorem dX11_clean_49 : decode cX11_clean 49 = .ok (.lload 4, 2) := by decide +kernel
theorem dX11_clean_51 : decode cX11_clean 51 = .ok (.bipush 100, 2) := by decide +kernel
theorem dX11_clean_53 : decode cX11_clean 53 = .ok (.aload_n 0, 1) := by decide +kernel
theorem dX11_clean_54 : decode cX11_clean 54 = .ok (.getfield 17, 3) := by decide +kernel
theorem dX11_clean_57 : decode cX11_clean 57 = .ok (.getfield 86, 3) := by decide +kernel
theorem dX11_clean_60 : decode cX11_clean 60 = .ok (.aload 9, 2) := by decide +kernel
theorem dX11_clean_62 : decode cX11_clean 62 = .ok (.iload_n 3, 1) := by decide +kernel
theorem dX11_clean_63 : decode cX11_clean 63 = .ok (.invokevirtual 133, 3) := by decide +kernel
theorem dX11_clean_66 : decode cX11_clean 66 = .ok (.isub, 1) := by decide +kernel
theorem dX11_clean_67 : decode cX11_clean 67 = .ok (.i2l, 1) := by decide +kernel
theorem dX11_clean_68 : decode cX11_clean 68 = .ok (.lmul, 1) := by decide +kernel
theorem dX11_clean_69 : decode cX11_clean 69 = .ok (.lstore 4, 2) := by decide +kernel
theorem dX11_clean_71 : decode cX11_clean 71 = .ok (.lload 6, 2) := by decide +kernel
theorem dX11_clean_73 : decode cX11_clean 73 = .ok (.ldc2_w 213, 3) := by decide +kernel
theorem dX11_clean_76 : decode cX11_clean 76 = .ok (.lmul, 1) := by decide +kernel
theorem dX11_clean_77 : decode cX11_clean 77 = .ok (.lstore 6, 2) := by decide +kernel
theorem dX11_clean_79 : decode cX11_clean 79 = .ok (.aload 9, 2) := by decide +kernel
theorem dX11_clean_81 : decode cX11_clean 81 = .ok (.iload_n 3, 1) := by decide +kernel
theorem dX11_clean_82 : decode cX11_clean 82 = .ok (.invokevirtual 210, 3) := by decide +kernel
theorem dX11_clean_85 : decode cX11_clean 85 = .ok (.istore_n 3, 1) := by decide +kernel
theorem dX11_clean_86 : decode cX11_clean 86 = .ok (.iinc 8 1, 3) := by decide +kernel
theorem dX11_clean_89 : decode cX11_clean 89 = .ok (.goto (-63), 3) := by decide +kernel
theorem dX11_clean_92 : decode cX11_clean 92 = .ok (.lload 4, 2) := by decide +kernel
theorem dX11_clean_94 : decode cX11_clean 94 = .ok (.lload 6, 2) := by decide +kernel
theorem dX11_clean_96 : decode cX11_clean 96 = .ok (.iload_n 1, 1) := by decide +kernel
theorem dX11_clean_97 : decode cX11_clean 97 = .ok (.invokestatic 215, 3) := by decide +kernel
theorem dX11_clean_100 : decode cX11_clean 100 = .ok (.lreturn, 1) := by decide +kernel
theorem dX11_mirror_0 : decode cX11_mirror 0 = .ok (.aload_n 0, 1) := by decide +kernel
theorem dX11_mirror_1 : decode cX11_mirror 1 = .ok (.getfield 17, 3) := by decide +kernel
theorem dX11_mirror_4 : decode cX11_mirror 4 = .ok (.iload_n 1, 1) := by decide +kernel
theorem dX11_mirror_5 : decode cX11_mirror 5 = .ok (.invokevirtual 99, 3) := by decide +kernel
theorem dX11_mirror_8 : decode cX11_mirror 8 = .ok (.astore_n 2, 1) := by decide +kernel
theorem dX11_mirror_9 : decode cX11_mirror 9 = .ok (.aload_n 2, 1) := by decide +kernel
theorem dX11_mirror_10 : decode cX11_mirror 10 = .ok (.ifnonnull 7, 3) := by decide +kernel
theorem dX11_mirror_13 : decode cX11_mirror 13 = .ok (.iconst (-1), 1) := by decide +kernel
theorem dX11_mirror_14 : decode cX11_mirror 14 = .ok (.goto 10, 3) := by decide +kernel
theorem dX11_mirror_17 : decode cX11_mirror 17 = .ok (.bipush 99, 2) := by decide +kernel
theorem dX11_mirror_19 : decode cX11_mirror 19 = .ok (.aload_n 2, 1) := by decide +kernel
theorem dX11_mirror_20 : decode cX11_mirror 20 = .ok (.getfield 111, 3) := by decide +kernel
theorem dX11_mirror_23 : decode cX11_mirror 23 = .ok (.isub, 1) := by decide +kernel
theorem dX11_mirror_24 : decode cX11_mirror 24 = .ok (.ireturn, 1) := by decide +kernel
theorem dX11_beside_0 : decode cX11_beside 0 = .ok (.aload_n 0, 1) := by decide +kernel
theorem dX11_beside_1 : decode cX11_beside 1 = .ok (.getfield 17, 3) := by decide +kernel
theorem dX11_beside_4 : decode cX11_beside 4 = .ok (.iload_n 1, 1) := by decide +kernel
theorem dX11_beside_5 : decode cX11_beside 5 = .ok (.invokevirtual 99, 3) := by decide +kernel
theorem dX11_beside_8 : decode cX11_beside 8 = .ok (.ifnonnull 7, 3) := by decide +kernel
theorem dX11_beside_11 : decode cX11_beside 11 = .ok (.iconst (-1), 1) := by decide +kernel
theorem dX11_beside_12 : decode cX11_beside 12 = .ok (.goto 11, 3) := by decide +kernel
theorem dX11_beside_15 : decode cX11_beside 15 = .ok (.aload_n 0, 1) := by decide +kernel
theorem dX11_beside_16 : decode cX11_beside 16 = .ok (.getfield 17, 3) := by decide +kernel
theorem dX11_beside_19 : decode cX11_beside 19 = .ok (.iload_n 1, 1) := by decide +kernel
theorem dX11_beside_20 : decode cX11_beside 20 = .ok (.invokevirtual 219, 3) := by decide +kernel
theorem dX11_beside_23 : decode cX11_beside 23 = .ok (.ireturn, 1) := by decide +kernel
theorem dX11_crowd_0 : decode cX11_crowd 0 = .ok (.iconst (-1), 1) := by decide +kernel
theorem dX11_crowd_1 : decode cX11_crowd 1 = .ok (.istore_n 1, 1) := by decide +kernel
theorem dX11_crowd_2 : decode cX11_crowd 2 = .ok (.bipush (-5), 2) := by decide +kernel
theorem dX11_crowd_4 : decode cX11_crowd 4 = .ok (.istore_n 2, 1) := by decide +kernel
theorem dX11_crowd_5 : decode cX11_crowd 5 = .ok (.iconst 0, 1) := by decide +kernel
theorem dX11_crowd_6 : decode cX11_crowd 6 = .ok (.istore_n 3, 1) := by decide +kernel
theorem dX11_crowd_7 : decode cX11_crowd 7 = .ok (.iload_n 3, 1) := by decide +kernel
theorem dX11_crowd_8 : decode cX11_crowd 8 = .ok (.aload_n 0, 1) := by decide +kernel
theorem dX11_crowd_9 : decode cX11_crowd 9 = .ok (.getfield 17, 3) := by decide +kernel
theorem dX11_crowd_12 : decode cX11_crowd 12 = .ok (.getfield 90, 3) := by decide +kernel
theorem dX11_crowd_15 : decode cX11_crowd 15 = .ok (.if_icmp .ge 33, 3) := by decide +kernel
theorem dX11_crowd_18 : decode cX11_crowd 18 = .ok (.aload_n 0, 1) := by decide +kernel
theorem dX11_crowd_19 : decode cX11_crowd 19 = .ok (.getfield 17, 3) := by decide +kernel
theorem dX11_crowd_22 : decode cX11_crowd 22 = .ok (.iload_n 3, 1) := by decide +kernel
theorem dX11_crowd_23 : decode cX11_crowd 23 = .ok (.invokevirtual 219, 3) := by decide +kernel
theorem dX11_crowd_26 : decode cX11_crowd 26 = .ok (.invokestatic 185, 3) := by decide +kernel
theorem dX11_crowd_29 : decode cX11_crowd 29 = .ok (.istore 4, 2) := by decide +kernel
theorem dX11_crowd_31 : decode cX11_crowd 31 = .ok (.iload 4, 2) := by decide +kernel
theorem dX11_crowd_33 : decode cX11_crowd 33 = .ok (.iload_n 1, 1) := by decide +kernel
theorem dX11_crowd_34 : decode cX11_crowd 34 = .ok (.if_icmp .le 8, 3) := by decide +kernel
theorem dX11_crowd_37 : decode cX11_crowd 37 = .ok (.iload 4, 2) := by decide +kernel
theorem dX11_crowd_39 : decode cX11_crowd 39 = .ok (.istore_n 1, 1) := by decide +kernel
theorem dX11_crowd_40 : decode cX11_crowd 40 = .ok (.iload_n 3, 1) := by decide +kernel
theorem dX11_crowd_41 : decode cX11_crowd 41 = .ok (.istore_n 2, 1) := by decide +kernel
theorem dX11_crowd_42 : decode cX11_crowd 42 = .ok (.iinc 3 1, 3) := by decide +kernel
theorem dX11_crowd_45 : decode cX11_crowd 45 = .ok (.goto (-38), 3) := by decide +kernel
theorem dX11_crowd_48 : decode cX11_crowd 48 = .ok (.iload_n 2, 1) := by decide +kernel
theorem dX11_crowd_49 : decode cX11_crowd 49 = .ok (.ireturn, 1) := by decide +kernel
theorem dX11_room_0 : decode cX11_room 0 = .ok (.iload_n 1, 1) := by decide +kernel
theorem dX11_room_1 : decode cX11_room 1 = .ok (.iconst 1, 1) := by decide +kernel
theorem dX11_room_2 : decode cX11_room 2 = .ok (.bipush 9, 2) := by decide +kernel
theorem dX11_room_4 : decode cX11_room 4 = .ok (.invokestatic 50, 3) := by decide +kernel
theorem dX11_room_7 : decode cX11_room 7 = .ok (.ifCond .ne 6, 3) := by decide +kernel
theorem dX11_room_10 : decode cX11_room 10 = .ok (.bipush (-2), 2) := by decide +kernel
theorem dX11_room_12 : decode cX11_room 12 = .ok (.ireturn, 1) := by decide +kernel
theorem dX11_room_13 : decode cX11_room 13 = .ok (.iconst 0, 1) := by decide +kernel
theorem dX11_room_14 : decode cX11_room 14 = .ok (.istore_n 2, 1) := by decide +kernel
theorem dX11_room_15 : decode cX11_room 15 = .ok (.iload_n 2, 1) := by decide +kernel
theorem dX11_room_16 : decode cX11_room 16 = .ok (.bipush 99, 2) := by decide +kernel
theorem dX11_room_18 : decode cX11_room 18 = .ok (.if_icmp .gt 23, 3) := by decide +kernel
theorem dX11_room_21 : decode cX11_room 21 = .ok (.aload_n 0, 1) := by decide +kernel
theorem dX11_room_22 : decode cX11_room 22 = .ok (.getfield 17, 3) := by decide +kernel
theorem dX11_room_25 : decode cX11_room 25 = .ok (.iload_n 2, 1) := by decide +kernel
theorem dX11_room_26 : decode cX11_room 26 = .ok (.iload_n 1, 1) := by decide +kernel
theorem dX11_room_27 : decode cX11_room 27 = .ok (.invokevirtual 222, 3) := by decide +kernel
theorem dX11_room_30 : decode cX11_room 30 = .ok (.ifCond .eq 5, 3) := by decide +kernel
theorem dX11_room_33 : decode cX11_room 33 = .ok (.iload_n 2, 1) := by decide +kernel
theorem dX11_room_34 : decode cX11_room 34 = .ok (.ireturn, 1) := by decide +kernel
theorem dX11_room_35 : decode cX11_room 35 = .ok (.iinc 2 1, 3) := by decide +kernel
theorem dX11_room_38 : decode cX11_room 38 = .ok (.goto (-23), 3) := by decide +kernel
theorem dX11_room_41 : decode cX11_room 41 = .ok (.bipush (-5), 2) := by decide +kernel
theorem dX11_room_43 : decode cX11_room 43 = .ok (.ireturn, 1) := by decide +kernel
theorem dX11_proof_0 : decode cX11_proof 0 = .ok (.iload_n 1, 1) := by decide +kernel
theorem dX11_proof_1 : decode cX11_proof 1 = .ok (.iconst 0, 1) := by decide +kernel
theorem dX11_proof_2 : decode cX11_proof 2 = .ok (.bipush 9, 2) := by decide +kernel
theorem dX11_proof_4 : decode cX11_proof 4 = .ok (.invokestatic 50, 3) := by decide +kernel
theorem dX11_proof_7 : decode cX11_proof 7 = .ok (.ifCond .eq 14, 3) := by decide +kernel
theorem dX11_proof_10 : decode cX11_proof 10 = .ok (.aload_n 0, 1) := by decide +kernel
theorem dX11_proof_11 : decode cX11_proof 11 = .ok (.getfield 17, 3) := by decide +kernel
theorem dX11_proof_14 : decode cX11_proof 14 = .ok (.iload_n 1, 1) := by decide +kernel
theorem dX11_proof_15 : decode cX11_proof 15 = .ok (.invokevirtual 226, 3) := by decide +kernel
theorem dX11_proof_18 : decode cX11_proof 18 = .ok (.goto 5, 3) := by decide +kernel
theorem dX11_proof_21 : decode cX11_proof 21 = .ok (.bipush (-2), 2) := by decide +kernel
theorem dX11_proof_23 : decode cX11_proof 23 = .ok (.ireturn, 1) := by decide +kernel
theorem dX11_proofs_0 : decode cX11_proofs 0 = .ok (.aload_n 0, 1) := by decide +kernel
theorem dX11_proofs_1 : decode cX11_proofs 1 = .ok (.getfield 17, 3) := by decide +kernel
theorem dX11_proofs_4 : decode cX11_proofs 4 = .ok (.invokevirtual 229, 3) := by decide +kernel
theorem dX11_proofs_7 : decode cX11_proofs 7 = .ok (.istore_n 1, 1) := by decide +kernel
theorem dX11_proofs_8 : decode cX11_proofs 8 = .ok (.iconst 0, 1) := by decide +kernel
theorem dX11_proofs_9 : decode cX11_proofs 9 = .ok (.istore_n 2, 1) := by decide +kernel
theorem dX11_proofs_10 : decode cX11_proofs 10 = .ok (.iload_n 2, 1) := by decide +kernel
theorem dX11_proofs_11 : decode cX11_proofs 11 = .ok (.bipush 9, 2) := by decide +kernel
theorem dX11_proofs_13 : decode cX11_proofs 13 = .ok (.if_icmp .gt 23, 3) := by decide +kernel
theorem dX11_proofs_16 : decode cX11_proofs 16 = .ok (.aload_n 0, 1) := by decide +kernel
theorem dX11_proofs_17 : decode cX11_proofs 17 = .ok (.getfield 17, 3) := by decide +kernel
theorem dX11_proofs_20 : decode cX11_proofs 20 = .ok (.iload_n 2, 1) := by decide +kernel
theorem dX11_proofs_21 : decode cX11_proofs 21 = .ok (.invokevirtual 226, 3) := by decide +kernel
theorem dX11_proofs_24 : decode cX11_proofs 24 = .ok (.iload_n 1, 1) := by decide +kernel
theorem dX11_proofs_25 : decode cX11_proofs 25 = .ok (.if_icmp .ne 5, 3) := by decide +kernel
theorem dX11_proofs_28 : decode cX11_proofs 28 = .ok (.iload_n 2, 1) := by decide +kernel
theorem dX11_proofs_29 : decode cX11_proofs 29 = .ok (.ireturn, 1) := by decide +kernel
theorem dX11_proofs_30 : decode cX11_proofs 30 = .ok (.iinc 2 1, 3) := by decide +kernel
theorem dX11_proofs_33 : decode cX11_proofs 33 = .ok (.goto (-23), 3) := by decide +kernel
theorem dX11_proofs_36 : decode cX11_proofs 36 = .ok (.bipush (-5), 2) := by decide +kernel
theorem dX11_proofs_38 : decode cX11_proofs 38 = .ok (.ireturn, 1) := by decide +kernel
theorem dX11_mends_0 : decode cX11_mends 0 = .ok (.aload_n 0, 1) := by decide +kernel
theorem dX11_mends_1 : decode cX11_mends 1 = .ok (.getfield 17, 3) := by decide +kernel
theorem dX11_mends_4 : decode cX11_mends 4 = .ok (.invokevirtual 229, 3) := by decide +kernel
theorem dX11_mends_7 : decode cX11_mends 7 = .ok (.istore_n 1, 1) := by decide +kernel
theorem dX11_mends_8 : decode cX11_mends 8 = .ok (.aload_n 0, 1) := by decide +kernel
theorem dX11_mends_9 : decode cX11_mends 9 = .ok (.getfield 26, 3) := by decide +kernel
theorem dX11_mends_12 : decode cX11_mends 12 = .ok (.aload_n 0, 1) := by decide +kernel
theorem dX11_mends_13 : decode cX11_mends 13 = .ok (.getfield 17, 3) := by decide +kernel
theorem dX11_mends_16 : decode cX11_mends 16 = .ok (.invokevirtual 232, 3) := by decide +kernel
theorem dX11_mends_19 : decode cX11_mends 19 = .ok (.iconst 0, 1) := by decide +kernel
theorem dX11_mends_20 : decode cX11_mends 20 = .ok (.istore_n 2, 1) := by decide +kernel
theorem dX11_mends_21 : decode cX11_mends 21 = .ok (.iload_n 2, 1) := by decide +kernel
theorem dX11_mends_22 : decode cX11_mends 22 = .ok (.aload_n 0, 1) := by decide +kernel
theorem dX11_mends_23 : decode cX11_mends 23 = .ok (.getfield 26, 3) := by decide +kernel
theorem dX11_mends_26 : decode cX11_mends 26 = .ok (.getfield 90, 3) := by decide +kernel
theorem dX11_mends_29 : decode cX11_mends 29 = .ok (.if_icmp .ge 34, 3) := by decide +kernel
theorem dX11_mends_32 : decode cX11_mends 32 = .ok (.iload_n 1, 1) := by decide +kernel
theorem dX11_mends_33 : decode cX11_mends 33 = .ok (.iload_n 2, 1) := by decide +kernel
theorem dX11_mends_34 : decode cX11_mends 34 = .ok (.ishr, 1) := by decide +kernel
theorem dX11_mends_35 : decode cX11_mends 35 = .ok (.iconst 1, 1) := by decide +kernel
theorem dX11_mends_36 : decode cX11_mends 36 = .ok (.iand, 1) := by decide +kernel
theorem dX11_mends_37 : decode cX11_mends 37 = .ok (.iconst 1, 1) := by decide +kernel
theorem dX11_mends_38 : decode cX11_mends 38 = .ok (.if_icmp .ne 19, 3) := by decide +kernel
theorem dX11_mends_41 : decode cX11_mends 41 = .ok (.aload_n 0, 1) := by decide +kernel
theorem dX11_mends_42 : decode cX11_mends 42 = .ok (.getfield 26, 3) := by decide +kernel
theorem dX11_mends_45 : decode cX11_mends 45 = .ok (.aload_n 0, 1) := by decide +kernel
theorem dX11_mends_46 : decode cX11_mends 46 = .ok (.getfield 26, 3) := by decide +kernel
theorem dX11_mends_49 : decode cX11_mends 49 = .ok (.getfield 91, 3) := by decide +kernel
theorem dX11_mends_52 : decode cX11_mends 52 = .ok (.iload_n 2, 1) := by decide +kernel
theorem dX11_mends_53 : decode cX11_mends 53 = .ok (.aaload, 1) := by decide +kernel
theorem dX11_mends_54 : decode cX11_mends 54 = .ok (.invokevirtual 170, 3) := by decide +kernel
theorem dX11_mends_57 : decode cX11_mends 57 = .ok (.iinc 2 1, 3) := by decide +kernel
theorem dX11_mends_60 : decode cX11_mends 60 = .ok (.goto (-39), 3) := by decide +kernel
theorem dX11_mends_63 : decode cX11_mends 63 = .ok (.iload_n 1, 1) := by decide +kernel
theorem dX11_mends_64 : decode cX11_mends 64 = .ok (.aload_n 0, 1) := by decide +kernel
theorem dX11_mends_65 : decode cX11_mends 65 = .ok (.getfield 26, 3) := by decide +kernel
theorem dX11_mends_68 : decode cX11_mends 68 = .ok (.iconst 0, 1) := by decide +kernel
theorem dX11_mends_69 : decode cX11_mends 69 = .ok (.invokevirtual 181, 3) := by decide +kernel
theorem dX11_mends_72 : decode cX11_mends 72 = .ok (.iand, 1) := by decide +kernel
theorem dX11_mends_73 : decode cX11_mends 73 = .ok (.ireturn, 1) := by decide +kernel
theorem dX11_worth_0 : decode cX11_worth 0 = .ok (.aload_n 0, 1) := by decide +kernel
theorem dX11_worth_1 : decode cX11_worth 1 = .ok (.getfield 17, 3) := by decide +kernel
theorem dX11_worth_4 : decode cX11_worth 4 = .ok (.iload_n 1, 1) := by decide +kernel
theorem dX11_worth_5 : decode cX11_worth 5 = .ok (.invokevirtual 99, 3) := by decide +kernel
theorem dX11_worth_8 : decode cX11_worth 8 = .ok (.astore_n 2, 1) := by decide +kernel
theorem dX11_worth_9 : decode cX11_worth 9 = .ok (.aload_n 2, 1) := by decide +kernel
theorem dX11_worth_10 : decode cX11_worth 10 = .ok (.ifnonnull 7, 3) := by decide +kernel
theorem dX11_worth_13 : decode cX11_worth 13 = .ok (.sipush (-1001), 3) := by decide +kernel
theorem dX11_worth_16 : decode cX11_worth 16 = .ok (.ireturn, 1) := by decide +kernel
theorem dX11_worth_17 : decode cX11_worth 17 = .ok (.aload_n 2, 1) := by decide +kernel
theorem dX11_worth_18 : decode cX11_worth 18 = .ok (.getfield 117, 3) := by decide +kernel
theorem dX11_worth_21 : decode cX11_worth 21 = .ok (.ifCond .eq 16, 3) := by decide +kernel
theorem dX11_worth_24 : decode cX11_worth 24 = .ok (.aload_n 0, 1) := by decide +kernel
theorem dX11_worth_25 : decode cX11_worth 25 = .ok (.iload_n 1, 1) := by decide +kernel
theorem dX11_worth_26 : decode cX11_worth 26 = .ok (.invokevirtual 236, 3) := by decide +kernel
theorem dX11_worth_29 : decode cX11_worth 29 = .ok (.aload_n 0, 1) := by decide +kernel
theorem dX11_worth_30 : decode cX11_worth 30 = .ok (.invokevirtual 239, 3) := by decide +kernel
theorem dX11_worth_33 : decode cX11_worth 33 = .ok (.isub, 1) := by decide +kernel
theorem dX11_worth_34 : decode cX11_worth 34 = .ok (.goto 6, 3) := by decide +kernel
theorem dX11_worth_37 : decode cX11_worth 37 = .ok (.sipush (-1002), 3) := by decide +kernel
theorem dX11_worth_40 : decode cX11_worth 40 = .ok (.ireturn, 1) := by decide +kernel
theorem dX11_best_0 : decode cX11_best 0 = .ok (.aload_n 0, 1) := by decide +kernel
theorem dX11_best_1 : decode cX11_best 1 = .ok (.invokevirtual 239, 3) := by decide +kernel
theorem dX11_best_4 : decode cX11_best 4 = .ok (.istore_n 1, 1) := by decide +kernel
theorem dX11_best_5 : decode cX11_best 5 = .ok (.bipush (-5), 2) := by decide +kernel
theorem dX11_best_7 : decode cX11_best 7 = .ok (.istore_n 2, 1) := by decide +kernel
theorem dX11_best_8 : decode cX11_best 8 = .ok (.iconst 0, 1) := by decide +kernel
theorem dX11_best_9 : decode cX11_best 9 = .ok (.istore_n 3, 1) := by decide +kernel
theorem dX11_best_10 : decode cX11_best 10 = .ok (.iload_n 3, 1) := by decide +kernel
theorem dX11_best_11 : decode cX11_best 11 = .ok (.aload_n 0, 1) := by decide +kernel
theorem dX11_best_12 : decode cX11_best 12 = .ok (.getfield 17, 3) := by decide +kernel
theorem dX11_best_15 : decode cX11_best 15 = .ok (.getfield 90, 3) := by decide +kernel
theorem dX11_best_18 : decode cX11_best 18 = .ok (.if_icmp .ge 42, 3) := by decide +kernel
theorem dX11_best_21 : decode cX11_best 21 = .ok (.aload_n 0, 1) := by decide +kernel
theorem dX11_best_22 : decode cX11_best 22 = .ok (.getfield 17, 3) := by decide +kernel
theorem dX11_best_25 : decode cX11_best 25 = .ok (.getfield 91, 3) := by decide +kernel
theorem dX11_best_28 : decode cX11_best 28 = .ok (.iload_n 3, 1) := by decide +kernel
theorem dX11_best_29 : decode cX11_best 29 = .ok (.aaload, 1) := by decide +kernel
theorem dX11_best_30 : decode cX11_best 30 = .ok (.getfield 117, 3) := by decide +kernel
theorem dX11_best_33 : decode cX11_best 33 = .ok (.ifCond .eq 21, 3) := by decide +kernel
theorem dX11_best_36 : decode cX11_best 36 = .ok (.aload_n 0, 1) := by decide +kernel
theorem dX11_best_37 : decode cX11_best 37 = .ok (.iload_n 3, 1) := by decide +kernel
theorem dX11_best_38 : decode cX11_best 38 = .ok (.invokevirtual 236, 3) := by decide +kernel
theorem dX11_best_41 : decode cX11_best 41 = .ok (.istore 4, 2) := by decide +kernel
theorem dX11_best_43 : decode cX11_best 43 = .ok (.iload 4, 2) := by decide +kernel
theorem dX11_best_45 : decode cX11_best 45 = .ok (.iload_n 1, 1) := by decide +kernel
theorem dX11_best_46 : decode cX11_best 46 = .ok (.if_icmp .le 8, 3) := by decide +kernel
theorem dX11_best_49 : decode cX11_best 49 = .ok (.iload 4, 2) := by decide +kernel
theorem dX11_best_51 : decode cX11_best 51 = .ok (.istore_n 1, 1) := by decide +kernel
theorem dX11_best_52 : decode cX11_best 52 = .ok (.iload_n 3, 1) := by decide +kernel
theorem dX11_best_53 : decode cX11_best 53 = .ok (.istore_n 2, 1) := by decide +kernel
theorem dX11_best_54 : decode cX11_best 54 = .ok (.iinc 3 1, 3) := by decide +kernel
theorem dX11_best_57 : decode cX11_best 57 = .ok (.goto (-47), 3) := by decide +kernel
theorem dX11_best_60 : decode cX11_best 60 = .ok (.iload_n 2, 1) := by decide +kernel
theorem dX11_best_61 : decode cX11_best 61 = .ok (.ireturn, 1) := by decide +kernel
theorem dX11_see_0 : decode cX11_see 0 = .ok (.iload_n 1, 1) := by decide +kernel
theorem dX11_see_1 : decode cX11_see 1 = .ok (.iconst (-1), 1) := by decide +kernel
theorem dX11_see_2 : decode cX11_see 2 = .ok (.if_icmp .ne 14, 3) := by decide +kernel
theorem dX11_see_5 : decode cX11_see 5 = .ok (.aload_n 0, 1) := by decide +kernel
theorem dX11_see_6 : decode cX11_see 6 = .ok (.getfield 17, 3) := by decide +kernel
theorem dX11_see_9 : decode cX11_see 9 = .ok (.getfield 242, 3) := by decide +kernel
theorem dX11_see_12 : decode cX11_see 12 = .ok (.invokevirtual 82, 3) := by decide +kernel
theorem dX11_see_15 : decode cX11_see 15 = .ok (.ireturn, 1) := by decide +kernel
theorem dX11_see_16 : decode cX11_see 16 = .ok (.aload_n 0, 1) := by decide +kernel
theorem dX11_see_17 : decode cX11_see 17 = .ok (.getfield 17, 3) := by decide +kernel
theorem dX11_see_20 : decode cX11_see 20 = .ok (.iload_n 1, 1) := by decide +kernel
theorem dX11_see_21 : decode cX11_see 21 = .ok (.invokevirtual 99, 3) := by decide +kernel
theorem dX11_see_24 : decode cX11_see 24 = .ok (.ifnonnull 5, 3) := by decide +kernel
theorem dX11_see_27 : decode cX11_see 27 = .ok (.iconst (-1), 1) := by decide +kernel
theorem dX11_see_28 : decode cX11_see 28 = .ok (.ireturn, 1) := by decide +kernel
theorem dX11_see_29 : decode cX11_see 29 = .ok (.iload_n 2, 1) := by decide +kernel
theorem dX11_see_30 : decode cX11_see 30 = .ok (.iconst 0, 1) := by decide +kernel
theorem dX11_see_31 : decode cX11_see 31 = .ok (.bipush 30, 2) := by decide +kernel
theorem dX11_see_33 : decode cX11_see 33 = .ok (.invokestatic 50, 3) := by decide +kernel
theorem dX11_see_36 : decode cX11_see 36 = .ok (.ifCond .ne 6, 3) := by decide +kernel
theorem dX11_see_39 : decode cX11_see 39 = .ok (.bipush (-2), 2) := by decide +kernel
theorem dX11_see_41 : decode cX11_see 41 = .ok (.ireturn, 1) := by decide +kernel
theorem dX11_see_42 : decode cX11_see 42 = .ok (.aload_n 0, 1) := by decide +kernel
theorem dX11_see_43 : decode cX11_see 43 = .ok (.getfield 17, 3) := by decide +kernel
theorem dX11_see_46 : decode cX11_see 46 = .ok (.getfield 242, 3) := by decide +kernel
theorem dX11_see_49 : decode cX11_see 49 = .ok (.invokevirtual 58, 3) := by decide +kernel
theorem dX11_see_52 : decode cX11_see 52 = .ok (.ifCond .eq 8, 3) := by decide +kernel
theorem dX11_see_55 : decode cX11_see 55 = .ok (.bipush (-4), 2) := by decide +kernel
theorem dX11_see_57 : decode cX11_see 57 = .ok (.goto 16, 3) := by decide +kernel
theorem dX11_see_60 : decode cX11_see 60 = .ok (.aload_n 0, 1) := by decide +kernel
theorem dX11_see_61 : decode cX11_see 61 = .ok (.getfield 17, 3) := by decide +kernel
theorem dX11_see_64 : decode cX11_see 64 = .ok (.getfield 242, 3) := by decide +kernel
theorem dX11_see_67 : decode cX11_see 67 = .ok (.iload_n 1, 1) := by decide +kernel
theorem dX11_see_68 : decode cX11_see 68 = .ok (.iload_n 2, 1) := by decide +kernel
theorem dX11_see_69 : decode cX11_see 69 = .ok (.iconst 0, 1) := by decide +kernel
theorem dX11_see_70 : decode cX11_see 70 = .ok (.invokevirtual 64, 3) := by decide +kernel
theorem dX11_see_73 : decode cX11_see 73 = .ok (.ireturn, 1) := by decide +kernel
theorem dX11_ran_0 : decode cX11_ran 0 = .ok (.iload_n 1, 1) := by decide +kernel
theorem dX11_ran_1 : decode cX11_ran 1 = .ok (.iconst 0, 1) := by decide +kernel
theorem dX11_ran_2 : decode cX11_ran 2 = .ok (.iconst 1, 1) := by decide +kernel
theorem dX11_ran_3 : decode cX11_ran 3 = .ok (.invokestatic 50, 3) := by decide +kernel
theorem dX11_ran_6 : decode cX11_ran 6 = .ok (.ifCond .ne 5, 3) := by decide +kernel
theorem dX11_ran_9 : decode cX11_ran 9 = .ok (.iconst (-1), 1) := by decide +kernel
theorem dX11_ran_10 : decode cX11_ran 10 = .ok (.ireturn, 1) := by decide +kernel
theorem dX11_ran_11 : decode cX11_ran 11 = .ok (.iconst 0, 1) := by decide +kernel
theorem dX11_ran_12 : decode cX11_ran 12 = .ok (.istore_n 2, 1) := by decide +kernel
theorem dX11_ran_13 : decode cX11_ran 13 = .ok (.bipush (-5), 2) := by decide +kernel
theorem dX11_ran_15 : decode cX11_ran 15 = .ok (.istore_n 3, 1) := by decide +kernel
theorem dX11_ran_16 : decode cX11_ran 16 = .ok (.iconst 0, 1) := by decide +kernel
theorem dX11_ran_17 : decode cX11_ran 17 = .ok (.istore 4, 2) := by decide +kernel
theorem dX11_ran_19 : decode cX11_ran 19 = .ok (.iload 4, 2) := by decide +kernel
theorem dX11_ran_21 : decode cX11_ran 21 = .ok (.sipush 999, 3) := by decide +kernel
theorem dX11_ran_24 : decode cX11_ran 24 = .ok (.if_icmp .gt 31, 3) := by decide +kernel
theorem dX11_ran_27 : decode cX11_ran 27 = .ok (.aload_n 0, 1) := by decide +kernel
theorem dX11_ran_28 : decode cX11_ran 28 = .ok (.getfield 17, 3) := by decide +kernel
theorem dX11_ran_31 : decode cX11_ran 31 = .ok (.iload 4, 2) := by decide +kernel
theorem dX11_ran_33 : decode cX11_ran 33 = .ok (.invokevirtual 245, 3) := by decide +kernel
theorem dX11_ran_36 : decode cX11_ran 36 = .ok (.ifCond .eq 13, 3) := by decide +kernel
theorem dX11_ran_39 : decode cX11_ran 39 = .ok (.iload_n 2, 1) := by decide +kernel
theorem dX11_ran_40 : decode cX11_ran 40 = .ok (.ifCond .ne 6, 3) := by decide +kernel
theorem dX11_ran_43 : decode cX11_ran 43 = .ok (.iload 4, 2) := by decide +kernel
theorem dX11_ran_45 : decode cX11_ran 45 = .ok (.istore_n 3, 1) := by decide +kernel
theorem dX11_ran_46 : decode cX11_ran 46 = .ok (.iinc 2 1, 3) := by decide +kernel
theorem dX11_ran_49 : decode cX11_ran 49 = .ok (.iinc 4 1, 3) := by decide +kernel
theorem dX11_ran_52 : decode cX11_ran 52 = .ok (.goto (-33), 3) := by decide +kernel
theorem dX11_ran_55 : decode cX11_ran 55 = .ok (.iload_n 1, 1) := by decide +kernel
theorem dX11_ran_56 : decode cX11_ran 56 = .ok (.ifCond .ne 7, 3) := by decide +kernel
theorem dX11_ran_59 : decode cX11_ran 59 = .ok (.iload_n 2, 1) := by decide +kernel
theorem dX11_ran_60 : decode cX11_ran 60 = .ok (.goto 4, 3) := by decide +kernel
theorem dX11_ran_63 : decode cX11_ran 63 = .ok (.iload_n 3, 1) := by decide +kernel
theorem dX11_ran_64 : decode cX11_ran 64 = .ok (.ireturn, 1) := by decide +kernel
theorem dX11_hand_0 : decode cX11_hand 0 = .ok (.iload_n 1, 1) := by decide +kernel
theorem dX11_hand_1 : decode cX11_hand 1 = .ok (.iconst 0, 1) := by decide +kernel
theorem dX11_hand_2 : decode cX11_hand 2 = .ok (.bipush 99, 2) := by decide +kernel
theorem dX11_hand_4 : decode cX11_hand 4 = .ok (.invokestatic 50, 3) := by decide +kernel
theorem dX11_hand_7 : decode cX11_hand 7 = .ok (.ifCond .ne 6, 3) := by decide +kernel
theorem dX11_hand_10 : decode cX11_hand 10 = .ok (.bipush (-2), 2) := by decide +kernel
theorem dX11_hand_12 : decode cX11_hand 12 = .ok (.ireturn, 1) := by decide +kernel
theorem dX11_hand_13 : decode cX11_hand 13 = .ok (.iconst 0, 1) := by decide +kernel
theorem dX11_hand_14 : decode cX11_hand 14 = .ok (.istore_n 2, 1) := by decide +kernel
theorem dX11_hand_15 : decode cX11_hand 15 = .ok (.iconst 0, 1) := by decide +kernel
theorem dX11_hand_16 : decode cX11_hand 16 = .ok (.istore_n 3, 1) := by decide +kernel
theorem dX11_hand_17 : decode cX11_hand 17 = .ok (.iload_n 3, 1) := by decide +kernel
theorem dX11_hand_18 : decode cX11_hand 18 = .ok (.aload_n 0, 1) := by decide +kernel
theorem dX11_hand_19 : decode cX11_hand 19 = .ok (.getfield 17, 3) := by decide +kernel
theorem dX11_hand_22 : decode cX11_hand 22 = .ok (.getfield 90, 3) := by decide +kernel
theorem dX11_hand_25 : decode cX11_hand 25 = .ok (.if_icmp .ge 57, 3) := by decide +kernel
theorem dX11_hand_28 : decode cX11_hand 28 = .ok (.aload_n 0, 1) := by decide +kernel
theorem dX11_hand_29 : decode cX11_hand 29 = .ok (.getfield 17, 3) := by decide +kernel
theorem dX11_hand_32 : decode cX11_hand 32 = .ok (.getfield 91, 3) := by decide +kernel
theorem dX11_hand_35 : decode cX11_hand 35 = .ok (.iload_n 3, 1) := by decide +kernel
theorem dX11_hand_36 : decode cX11_hand 36 = .ok (.aaload, 1) := by decide +kernel
theorem dX11_hand_37 : decode cX11_hand 37 = .ok (.astore 4, 2) := by decide +kernel
theorem dX11_hand_39 : decode cX11_hand 39 = .ok (.aload 4, 2) := by decide +kernel
theorem dX11_hand_41 : decode cX11_hand 41 = .ok (.getfield 117, 3) := by decide +kernel
theorem dX11_hand_44 : decode cX11_hand 44 = .ok (.ifCond .ne 32, 3) := by decide +kernel
theorem dX11_hand_47 : decode cX11_hand 47 = .ok (.iload_n 1, 1) := by decide +kernel
theorem dX11_hand_48 : decode cX11_hand 48 = .ok (.aload_n 0, 1) := by decide +kernel
theorem dX11_hand_49 : decode cX11_hand 49 = .ok (.getfield 17, 3) := by decide +kernel
theorem dX11_hand_52 : decode cX11_hand 52 = .ok (.getfield 86, 3) := by decide +kernel
theorem dX11_hand_55 : decode cX11_hand 55 = .ok (.aload 4, 2) := by decide +kernel
theorem dX11_hand_57 : decode cX11_hand 57 = .ok (.aload_n 0, 1) := by decide +kernel
theorem dX11_hand_58 : decode cX11_hand 58 = .ok (.getfield 17, 3) := by decide +kernel
theorem dX11_hand_61 : decode cX11_hand 61 = .ok (.getfield 130, 3) := by decide +kernel
theorem dX11_hand_64 : decode cX11_hand 64 = .ok (.invokevirtual 133, 3) := by decide +kernel
theorem dX11_hand_67 : decode cX11_hand 67 = .ok (.if_icmp .ge 9, 3) := by decide +kernel
theorem dX11_hand_70 : decode cX11_hand 70 = .ok (.iload_n 2, 1) := by decide +kernel
theorem dX11_hand_71 : decode cX11_hand 71 = .ok (.iconst 1, 1) := by decide +kernel
theorem dX11_hand_72 : decode cX11_hand 72 = .ok (.iload_n 3, 1) := by decide +kernel
theorem dX11_hand_73 : decode cX11_hand 73 = .ok (.ishl, 1) := by decide +kernel
theorem dX11_hand_74 : decode cX11_hand 74 = .ok (.ior, 1) := by decide +kernel
theorem dX11_hand_75 : decode cX11_hand 75 = .ok (.istore_n 2, 1) := by decide +kernel
theorem dX11_hand_76 : decode cX11_hand 76 = .ok (.iinc 3 1, 3) := by decide +kernel
theorem dX11_hand_79 : decode cX11_hand 79 = .ok (.goto (-62), 3) := by decide +kernel
theorem dX11_hand_82 : decode cX11_hand 82 = .ok (.iload_n 2, 1) := by decide +kernel
theorem dX11_hand_83 : decode cX11_hand 83 = .ok (.ireturn, 1) := by decide +kernel
theorem dX11_errs_0 : decode cX11_errs 0 = .ok (.iconst 0, 1) := by decide +kernel
theorem dX11_errs_1 : decode cX11_errs 1 = .ok (.istore_n 1, 1) := by decide +kernel
theorem dX11_errs_2 : decode cX11_errs 2 = .ok (.iconst 0, 1) := by decide +kernel
theorem dX11_errs_3 : decode cX11_errs 3 = .ok (.istore_n 2, 1) := by decide +kernel
theorem dX11_errs_4 : decode cX11_errs 4 = .ok (.iconst 1, 1) := by decide +kernel
theorem dX11_errs_5 : decode cX11_errs 5 = .ok (.istore_n 3, 1) := by decide +kernel
theorem dX11_errs_6 : decode cX11_errs 6 = .ok (.iload_n 3, 1) := by decide +kernel
theorem dX11_errs_7 : decode cX11_errs 7 = .ok (.iconst 3, 1) := by decide +kernel
theorem dX11_errs_8 : decode cX11_errs 8 = .ok (.if_icmp .gt 30, 3) := by decide +kernel
theorem dX11_errs_11 : decode cX11_errs 11 = .ok (.aload_n 0, 1) := by decide +kernel
theorem dX11_errs_12 : decode cX11_errs 12 = .ok (.getfield 17, 3) := by decide +kernel
theorem dX11_errs_15 : decode cX11_errs 15 = .ok (.iload_n 3, 1) := by decide +kernel
theorem dX11_errs_16 : decode cX11_errs 16 = .ok (.invokevirtual 249, 3) := by decide +kernel
theorem dX11_errs_19 : decode cX11_errs 19 = .ok (.istore 4, 2) := by decide +kernel
theorem dX11_errs_21 : decode cX11_errs 21 = .ok (.iload 4, 2) := by decide +kernel
theorem dX11_errs_23 : decode cX11_errs 23 = .ok (.iload_n 1, 1) := by decide +kernel
theorem dX11_errs_24 : decode cX11_errs 24 = .ok (.if_icmp .le 8, 3) := by decide +kernel
theorem dX11_errs_27 : decode cX11_errs 27 = .ok (.iload 4, 2) := by decide +kernel
theorem dX11_errs_29 : decode cX11_errs 29 = .ok (.istore_n 1, 1) := by decide +kernel
theorem dX11_errs_30 : decode cX11_errs 30 = .ok (.iload_n 3, 1) := by decide +kernel
theorem dX11_errs_31 : decode cX11_errs 31 = .ok (.istore_n 2, 1) := by decide +kernel
theorem dX11_errs_32 : decode cX11_errs 32 = .ok (.iinc 3 1, 3) := by decide +kernel
theorem dX11_errs_35 : decode cX11_errs 35 = .ok (.goto (-29), 3) := by decide +kernel
theorem dX11_errs_38 : decode cX11_errs 38 = .ok (.iload_n 2, 1) := by decide +kernel
theorem dX11_errs_39 : decode cX11_errs 39 = .ok (.ireturn, 1) := by decide +kernel
theorem dX11_odds_0 : decode cX11_odds 0 = .ok (.iload_n 1, 1) := by decide +kernel
theorem dX11_odds_1 : decode cX11_odds 1 = .ok (.iconst 0, 1) := by decide +kernel
theorem dX11_odds_2 : decode cX11_odds 2 = .ok (.bipush 30, 2) := by decide +kernel
theorem dX11_odds_4 : decode cX11_odds 4 = .ok (.invokestatic 50, 3) := by decide +kernel
theorem dX11_odds_7 : decode cX11_odds 7 = .ok (.ifCond .eq 14, 3) := by decide +kernel
theorem dX11_odds_10 : decode cX11_odds 10 = .ok (.iload_n 2, 1) := by decide +kernel
theorem dX11_odds_11 : decode cX11_odds 11 = .ok (.iconst 0, 1) := by decide +kernel
theorem dX11_odds_12 : decode cX11_odds 12 = .ok (.sipush 999, 3) := by decide +kernel
theorem dX11_odds_15 : decode cX11_odds 15 = .ok (.invokestatic 50, 3) := by decide +kernel
theorem dX11_odds_18 : decode cX11_odds 18 = .ok (.ifCond .ne 7, 3) := by decide +kernel
theorem dX11_odds_21 : decode cX11_odds 21 = .ok (.ldc2_w 252, 3) := by decide +kernel
theorem dX11_odds_24 : decode cX11_odds 24 = .ok (.lreturn, 1) := by decide +kernel
theorem dX11_odds_25 : decode cX11_odds 25 = .ok (.lconst 0, 1) := by decide +kernel
theorem dX11_odds_26 : decode cX11_odds 26 = .ok (.lstore 4, 2) := by decide +kernel
theorem dX11_odds_28 : decode cX11_odds 28 = .ok (.lconst 0, 1) := by decide +kernel
theorem dX11_odds_29 : decode cX11_odds 29 = .ok (.lstore 6, 2) := by decide +kernel
theorem dX11_odds_31 : decode cX11_odds 31 = .ok (.iconst 0, 1) := by decide +kernel
theorem dX11_odds_32 : decode cX11_odds 32 = .ok (.istore 8, 2) := by decide +kernel
theorem dX11_odds_34 : decode cX11_odds 34 = .ok (.iload 8, 2) := by decide +kernel
theorem dX11_odds_36 : decode cX11_odds 36 = .ok (.aload_n 0, 1) := by decide +kernel
theorem dX11_odds_37 : decode cX11_odds 37 = .ok (.getfield 17, 3) := by decide +kernel
theorem dX11_odds_40 : decode cX11_odds 40 = .ok (.getfield 90, 3) := by decide +kernel
theorem dX11_odds_43 : decode cX11_odds 43 = .ok (.if_icmp .ge 55, 3) := by decide +kernel
theorem dX11_odds_46 : decode cX11_odds 46 = .ok (.aload_n 0, 1) := by decide +kernel
theorem dX11_odds_47 : decode cX11_odds 47 = .ok (.getfield 17, 3) := by decide +kernel
theorem dX11_odds_50 : decode cX11_odds 50 = .ok (.getfield 91, 3) := by decide +kernel
theorem dX11_odds_53 : decode cX11_odds 53 = .ok (.iload 8, 2) := by decide +kernel
theorem dX11_odds_55 : decode cX11_odds 55 = .ok (.aaload, 1) := by decide +kernel
theorem dX11_odds_56 : decode cX11_odds 56 = .ok (.astore 9, 2) := by decide +kernel
theorem dX11_odds_58 : decode cX11_odds 58 = .ok (.aload 9, 2) := by decide +kernel
theorem dX11_odds_60 : decode cX11_odds 60 = .ok (.getfield 117, 3) := by decide +kernel
theorem dX11_odds_63 : decode cX11_odds 63 = .ok (.ifCond .eq 29, 3) := by decide +kernel
theorem dX11_odds_66 : decode cX11_odds 66 = .ok (.lload 4, 2) := by decide +kernel
theorem dX11_odds_68 : decode cX11_odds 68 = .ok (.lconst 1, 1) := by decide +kernel
theorem dX11_odds_69 : decode cX11_odds 69 = .ok (.ladd, 1) := by decide +kernel
theorem dX11_odds_70 : decode cX11_odds 70 = .ok (.lstore 4, 2) := by decide +kernel
theorem dX11_odds_72 : decode cX11_odds 72 = .ok (.aload_n 0, 1) := by decide +kernel
theorem dX11_odds_73 : decode cX11_odds 73 = .ok (.getfield 17, 3) := by decide +kernel
theorem dX11_odds_76 : decode cX11_odds 76 = .ok (.aload 9, 2) := by decide +kernel
theorem dX11_odds_78 : decode cX11_odds 78 = .ok (.iload_n 2, 1) := by decide +kernel
theorem dX11_odds_79 : decode cX11_odds 79 = .ok (.invokevirtual 140, 3) := by decide +kernel
theorem dX11_odds_82 : decode cX11_odds 82 = .ok (.iload_n 1, 1) := by decide +kernel
theorem dX11_odds_83 : decode cX11_odds 83 = .ok (.if_icmp .lt 9, 3) := by decide +kernel
theorem dX11_odds_86 : decode cX11_odds 86 = .ok (.lload 6, 2) := by decide +kernel
theorem dX11_odds_88 : decode cX11_odds 88 = .ok (.lconst 1, 1) := by decide +kernel
theorem dX11_odds_89 : decode cX11_odds 89 = .ok (.ladd, 1) := by decide +kernel
theorem dX11_odds_90 : decode cX11_odds 90 = .ok (.lstore 6, 2) := by decide +kernel
theorem dX11_odds_92 : decode cX11_odds 92 = .ok (.iinc 8 1, 3) := by decide +kernel
theorem dX11_odds_95 : decode cX11_odds 95 = .ok (.goto (-61), 3) := by decide +kernel
theorem dX11_odds_98 : decode cX11_odds 98 = .ok (.lload 6, 2) := by decide +kernel
theorem dX11_odds_100 : decode cX11_odds 100 = .ok (.lload 4, 2) := by decide +kernel
theorem dX11_odds_102 : decode cX11_odds 102 = .ok (.iload_n 3, 1) := by decide +kernel
theorem dX11_odds_103 : decode cX11_odds 103 = .ok (.invokestatic 215, 3) := by decide +kernel
theorem dX11_odds_106 : decode cX11_odds 106 = .ok (.lreturn, 1) := by decide +kernel
theorem dX11_mean_0 : decode cX11_mean 0 = .ok (.iload_n 1, 1) := by decide +kernel
theorem dX11_mean_1 : decode cX11_mean 1 = .ok (.iconst 0, 1) := by decide +kernel
theorem dX11_mean_2 : decode cX11_mean 2 = .ok (.sipush 999, 3) := by decide +kernel
theorem dX11_mean_5 : decode cX11_mean 5 = .ok (.invokestatic 50, 3) := by decide +kernel
theorem dX11_mean_8 : decode cX11_mean 8 = .ok (.ifCond .ne 7, 3) := by decide +kernel
theorem dX11_mean_11 : decode cX11_mean 11 = .ok (.ldc2_w 252, 3) := by decide +kernel
theorem dX11_mean_14 : decode cX11_mean 14 = .ok (.lreturn, 1) := by decide +kernel
theorem dX11_mean_15 : decode cX11_mean 15 = .ok (.lconst 0, 1) := by decide +kernel
theorem dX11_mean_16 : decode cX11_mean 16 = .ok (.lstore_n 3, 1) := by decide +kernel
theorem dX11_mean_17 : decode cX11_mean 17 = .ok (.lconst 0, 1) := by decide +kernel
theorem dX11_mean_18 : decode cX11_mean 18 = .ok (.lstore 5, 2) := by decide +kernel
theorem dX11_mean_20 : decode cX11_mean 20 = .ok (.iconst 0, 1) := by decide +kernel
theorem dX11_mean_21 : decode cX11_mean 21 = .ok (.istore 7, 2) := by decide +kernel
theorem dX11_mean_23 : decode cX11_mean 23 = .ok (.iload 7, 2) := by decide +kernel
theorem dX11_mean_25 : decode cX11_mean 25 = .ok (.aload_n 0, 1) := by decide +kernel
theorem dX11_mean_26 : decode cX11_mean 26 = .ok (.getfield 17, 3) := by decide +kernel
theorem dX11_mean_29 : decode cX11_mean 29 = .ok (.getfield 90, 3) := by decide +kernel
theorem dX11_mean_32 : decode cX11_mean 32 = .ok (.if_icmp .ge 49, 3) := by decide +kernel
theorem dX11_mean_35 : decode cX11_mean 35 = .ok (.aload_n 0, 1) := by decide +kernel
theorem dX11_mean_36 : decode cX11_mean 36 = .ok (.getfield 17, 3) := by decide +kernel
theorem dX11_mean_39 : decode cX11_mean 39 = .ok (.getfield 91, 3) := by decide +kernel
theorem dX11_mean_42 : decode cX11_mean 42 = .ok (.iload 7, 2) := by decide +kernel
theorem dX11_mean_44 : decode cX11_mean 44 = .ok (.aaload, 1) := by decide +kernel
theorem dX11_mean_45 : decode cX11_mean 45 = .ok (.astore 8, 2) := by decide +kernel
theorem dX11_mean_47 : decode cX11_mean 47 = .ok (.aload 8, 2) := by decide +kernel
theorem dX11_mean_49 : decode cX11_mean 49 = .ok (.getfield 117, 3) := by decide +kernel
theorem dX11_mean_52 : decode cX11_mean 52 = .ok (.ifCond .eq 23, 3) := by decide +kernel
theorem dX11_mean_55 : decode cX11_mean 55 = .ok (.lload_n 3, 1) := by decide +kernel
theorem dX11_mean_56 : decode cX11_mean 56 = .ok (.lconst 1, 1) := by decide +kernel
theorem dX11_mean_57 : decode cX11_mean 57 = .ok (.ladd, 1) := by decide +kernel
theorem dX11_mean_58 : decode cX11_mean 58 = .ok (.lstore_n 3, 1) := by decide +kernel
theorem dX11_mean_59 : decode cX11_mean 59 = .ok (.lload 5, 2) := by decide +kernel
theorem dX11_mean_61 : decode cX11_mean 61 = .ok (.aload_n 0, 1) := by decide +kernel
theorem dX11_mean_62 : decode cX11_mean 62 = .ok (.getfield 17, 3) := by decide +kernel
theorem dX11_mean_65 : decode cX11_mean 65 = .ok (.aload 8, 2) := by decide +kernel
theorem dX11_mean_67 : decode cX11_mean 67 = .ok (.iload_n 1, 1) := by decide +kernel
theorem dX11_mean_68 : decode cX11_mean 68 = .ok (.invokevirtual 140, 3) := by decide +kernel
theorem dX11_mean_71 : decode cX11_mean 71 = .ok (.i2l, 1) := by decide +kernel
theorem dX11_mean_72 : decode cX11_mean 72 = .ok (.ladd, 1) := by decide +kernel
theorem dX11_mean_73 : decode cX11_mean 73 = .ok (.lstore 5, 2) := by decide +kernel
theorem dX11_mean_75 : decode cX11_mean 75 = .ok (.iinc 7 1, 3) := by decide +kernel
theorem dX11_mean_78 : decode cX11_mean 78 = .ok (.goto (-55), 3) := by decide +kernel
theorem dX11_mean_81 : decode cX11_mean 81 = .ok (.lload 5, 2) := by decide +kernel
theorem dX11_mean_83 : decode cX11_mean 83 = .ok (.lload_n 3, 1) := by decide +kernel
theorem dX11_mean_84 : decode cX11_mean 84 = .ok (.iload_n 2, 1) := by decide +kernel
theorem dX11_mean_85 : decode cX11_mean 85 = .ok (.invokestatic 215, 3) := by decide +kernel
theorem dX11_mean_88 : decode cX11_mean 88 = .ok (.lreturn, 1) := by decide +kernel
theorem dX11_plan_0 : decode cX11_plan 0 = .ok (.iload_n 1, 1) := by decide +kernel
theorem dX11_plan_1 : decode cX11_plan 1 = .ok (.iconst (-1), 1) := by decide +kernel
theorem dX11_plan_2 : decode cX11_plan 2 = .ok (.if_icmp .ne 14, 3) := by decide +kernel
theorem dX11_plan_5 : decode cX11_plan 5 = .ok (.aload_n 0, 1) := by decide +kernel
theorem dX11_plan_6 : decode cX11_plan 6 = .ok (.getfield 17, 3) := by decide +kernel
theorem dX11_plan_9 : decode cX11_plan 9 = .ok (.getfield 254, 3) := by decide +kernel
theorem dX11_plan_12 : decode cX11_plan 12 = .ok (.invokevirtual 82, 3) := by decide +kernel
theorem dX11_plan_15 : decode cX11_plan 15 = .ok (.ireturn, 1) := by decide +kernel
theorem dX11_plan_16 : decode cX11_plan 16 = .ok (.iload_n 1, 1) := by decide +kernel
theorem dX11_plan_17 : decode cX11_plan 17 = .ok (.iconst 0, 1) := by decide +kernel
theorem dX11_plan_18 : decode cX11_plan 18 = .ok (.iconst 4, 1) := by decide +kernel
theorem dX11_plan_19 : decode cX11_plan 19 = .ok (.invokestatic 50, 3) := by decide +kernel
theorem dX11_plan_22 : decode cX11_plan 22 = .ok (.ifCond .eq 19, 3) := by decide +kernel
theorem dX11_plan_25 : decode cX11_plan 25 = .ok (.iload_n 1, 1) := by decide +kernel
theorem dX11_plan_26 : decode cX11_plan 26 = .ok (.iconst 2, 1) := by decide +kernel
theorem dX11_plan_27 : decode cX11_plan 27 = .ok (.if_icmp .gt 16, 3) := by decide +kernel
theorem dX11_plan_30 : decode cX11_plan 30 = .ok (.aload_n 0, 1) := by decide +kernel
theorem dX11_plan_31 : decode cX11_plan 31 = .ok (.getfield 17, 3) := by decide +kernel
theorem dX11_plan_34 : decode cX11_plan 34 = .ok (.iload_n 2, 1) := by decide +kernel
theorem dX11_plan_35 : decode cX11_plan 35 = .ok (.invokevirtual 99, 3) := by decide +kernel
theorem dX11_plan_38 : decode cX11_plan 38 = .ok (.ifnonnull 5, 3) := by decide +kernel
theorem dX11_plan_41 : decode cX11_plan 41 = .ok (.iconst (-1), 1) := by decide +kernel
theorem dX11_plan_42 : decode cX11_plan 42 = .ok (.ireturn, 1) := by decide +kernel
theorem dX11_plan_43 : decode cX11_plan 43 = .ok (.aload_n 0, 1) := by decide +kernel
theorem dX11_plan_44 : decode cX11_plan 44 = .ok (.getfield 17, 3) := by decide +kernel
theorem dX11_plan_47 : decode cX11_plan 47 = .ok (.getfield 254, 3) := by decide +kernel
theorem dX11_plan_50 : decode cX11_plan 50 = .ok (.invokevirtual 58, 3) := by decide +kernel
theorem dX11_plan_53 : decode cX11_plan 53 = .ok (.ifCond .eq 8, 3) := by decide +kernel
theorem dX11_plan_56 : decode cX11_plan 56 = .ok (.bipush (-4), 2) := by decide +kernel
theorem dX11_plan_58 : decode cX11_plan 58 = .ok (.goto 16, 3) := by decide +kernel
theorem dX11_plan_61 : decode cX11_plan 61 = .ok (.aload_n 0, 1) := by decide +kernel
theorem dX11_plan_62 : decode cX11_plan 62 = .ok (.getfield 17, 3) := by decide +kernel
theorem dX11_plan_65 : decode cX11_plan 65 = .ok (.getfield 254, 3) := by decide +kernel
theorem dX11_plan_68 : decode cX11_plan 68 = .ok (.iload_n 1, 1) := by decide +kernel
theorem dX11_plan_69 : decode cX11_plan 69 = .ok (.iload_n 2, 1) := by decide +kernel
theorem dX11_plan_70 : decode cX11_plan 70 = .ok (.iconst 0, 1) := by decide +kernel
theorem dX11_plan_71 : decode cX11_plan 71 = .ok (.invokevirtual 64, 3) := by decide +kernel
theorem dX11_plan_74 : decode cX11_plan 74 = .ok (.ireturn, 1) := by decide +kernel
theorem dX11_done_0 : decode cX11_done 0 = .ok (.iload_n 1, 1) := by decide +kernel
theorem dX11_done_1 : decode cX11_done 1 = .ok (.iconst 0, 1) := by decide +kernel
theorem dX11_done_2 : decode cX11_done 2 = .ok (.iconst 2, 1) := by decide +kernel
theorem dX11_done_3 : decode cX11_done 3 = .ok (.invokestatic 50, 3) := by decide +kernel
theorem dX11_done_6 : decode cX11_done 6 = .ok (.ifCond .ne 5, 3) := by decide +kernel
theorem dX11_done_9 : decode cX11_done 9 = .ok (.iconst (-1), 1) := by decide +kernel
theorem dX11_done_10 : decode cX11_done 10 = .ok (.ireturn, 1) := by decide +kernel
theorem dX11_done_11 : decode cX11_done 11 = .ok (.aload_n 0, 1) := by decide +kernel
theorem dX11_done_12 : decode cX11_done 12 = .ok (.getfield 26, 3) := by decide +kernel
theorem dX11_done_15 : decode cX11_done 15 = .ok (.aload_n 0, 1) := by decide +kernel
theorem dX11_done_16 : decode cX11_done 16 = .ok (.getfield 17, 3) := by decide +kernel
theorem dX11_done_19 : decode cX11_done 19 = .ok (.invokevirtual 232, 3) := by decide +kernel
theorem dX11_done_22 : decode cX11_done 22 = .ok (.iconst 0, 1) := by decide +kernel
theorem dX11_done_23 : decode cX11_done 23 = .ok (.istore_n 2, 1) := by decide +kernel
theorem dX11_done_24 : decode cX11_done 24 = .ok (.iload_n 2, 1) := by decide +kernel
theorem dX11_done_25 : decode cX11_done 25 = .ok (.aload_n 0, 1) := by decide +kernel
theorem dX11_done_26 : decode cX11_done 26 = .ok (.getfield 17, 3) := by decide +kernel
theorem dX11_done_29 : decode cX11_done 29 = .ok (.getfield 254, 3) := by decide +kernel
theorem dX11_done_32 : decode cX11_done 32 = .ok (.getfield 75, 3) := by decide +kernel
theorem dX11_done_35 : decode cX11_done 35 = .ok (.if_icmp .ge 37, 3) := by decide +kernel
theorem dX11_done_38 : decode cX11_done 38 = .ok (.aload_n 0, 1) := by decide +kernel
theorem dX11_done_39 : decode cX11_done 39 = .ok (.aload_n 0, 1) := by decide +kernel
theorem dX11_done_40 : decode cX11_done 40 = .ok (.getfield 17, 3) := by decide +kernel
theorem dX11_done_43 : decode cX11_done 43 = .ok (.getfield 254, 3) := by decide +kernel
theorem dX11_done_46 : decode cX11_done 46 = .ok (.iload_n 2, 1) := by decide +kernel
theorem dX11_done_47 : decode cX11_done 47 = .ok (.iconst 0, 1) := by decide +kernel
theorem dX11_done_48 : decode cX11_done 48 = .ok (.invokevirtual 257, 3) := by decide +kernel
theorem dX11_done_51 : decode cX11_done 51 = .ok (.aload_n 0, 1) := by decide +kernel
theorem dX11_done_52 : decode cX11_done 52 = .ok (.getfield 17, 3) := by decide +kernel
theorem dX11_done_55 : decode cX11_done 55 = .ok (.getfield 254, 3) := by decide +kernel
theorem dX11_done_58 : decode cX11_done 58 = .ok (.iload_n 2, 1) := by decide +kernel
theorem dX11_done_59 : decode cX11_done 59 = .ok (.iconst 1, 1) := by decide +kernel
theorem dX11_done_60 : decode cX11_done 60 = .ok (.invokevirtual 257, 3) := by decide +kernel
theorem dX11_done_63 : decode cX11_done 63 = .ok (.invokevirtual 260, 3) := by decide +kernel
theorem dX11_done_66 : decode cX11_done 66 = .ok (.iinc 2 1, 3) := by decide +kernel
theorem dX11_done_69 : decode cX11_done 69 = .ok (.goto (-45), 3) := by decide +kernel
theorem dX11_done_72 : decode cX11_done 72 = .ok (.iload_n 1, 1) := by decide +kernel
theorem dX11_done_73 : decode cX11_done 73 = .ok (.lookupswitch 51 #[(0, 27), (1, 43)], 27) := by decide +kernel
theorem dX11_done_100 : decode cX11_done 100 = .ok (.aload_n 0, 1) := by decide +kernel
theorem dX11_done_101 : decode cX11_done 101 = .ok (.getfield 26, 3) := by decide +kernel
theorem dX11_done_104 : decode cX11_done 104 = .ok (.getfield 149, 3) := by decide +kernel
theorem dX11_done_107 : decode cX11_done 107 = .ok (.aload_n 0, 1) := by decide +kernel
theorem dX11_done_108 : decode cX11_done 108 = .ok (.getfield 17, 3) := by decide +kernel
theorem dX11_done_111 : decode cX11_done 111 = .ok (.getfield 149, 3) := by decide +kernel
theorem dX11_done_114 : decode cX11_done 114 = .ok (.isub, 1) := by decide +kernel
theorem dX11_done_115 : decode cX11_done 115 = .ok (.ireturn, 1) := by decide +kernel
theorem dX11_done_116 : decode cX11_done 116 = .ok (.aload_n 0, 1) := by decide +kernel
theorem dX11_done_117 : decode cX11_done 117 = .ok (.getfield 26, 3) := by decide +kernel
theorem dX11_done_120 : decode cX11_done 120 = .ok (.getfield 130, 3) := by decide +kernel
theorem dX11_done_123 : decode cX11_done 123 = .ok (.ireturn, 1) := by decide +kernel
theorem dX11_done_124 : decode cX11_done 124 = .ok (.aload_n 0, 1) := by decide +kernel
theorem dX11_done_125 : decode cX11_done 125 = .ok (.getfield 26, 3) := by decide +kernel
theorem dX11_done_128 : decode cX11_done 128 = .ok (.iconst 0, 1) := by decide +kernel
theorem dX11_done_129 : decode cX11_done 129 = .ok (.invokevirtual 181, 3) := by decide +kernel
theorem dX11_done_132 : decode cX11_done 132 = .ok (.invokestatic 185, 3) := by decide +kernel
theorem dX11_done_135 : decode cX11_done 135 = .ok (.ireturn, 1) := by decide +kernel
theorem dX11_book_0 : decode cX11_book 0 = .ok (.iload_n 1, 1) := by decide +kernel
theorem dX11_book_1 : decode cX11_book 1 = .ok (.iconst (-1), 1) := by decide +kernel
theorem dX11_book_2 : decode cX11_book 2 = .ok (.if_icmp .ne 14, 3) := by decide +kernel
theorem dX11_book_5 : decode cX11_book 5 = .ok (.aload_n 0, 1) := by decide +kernel
theorem dX11_book_6 : decode cX11_book 6 = .ok (.getfield 17, 3) := by decide +kernel
theorem dX11_book_9 : decode cX11_book 9 = .ok (.getfield 263, 3) := by decide +kernel
theorem dX11_book_12 : decode cX11_book 12 = .ok (.invokevirtual 82, 3) := by decide +kernel
theorem dX11_book_15 : decode cX11_book 15 = .ok (.ireturn, 1) := by decide +kernel
theorem dX11_book_16 : decode cX11_book 16 = .ok (.aload_n 0, 1) := by decide +kernel
theorem dX11_book_17 : decode cX11_book 17 = .ok (.getfield 17, 3) := by decide +kernel
theorem dX11_book_20 : decode cX11_book 20 = .ok (.iload_n 1, 1) := by decide +kernel
theorem dX11_book_21 : decode cX11_book 21 = .ok (.invokevirtual 99, 3) := by decide +kernel
theorem dX11_book_24 : decode cX11_book 24 = .ok (.ifnonnull 5, 3) := by decide +kernel
theorem dX11_book_27 : decode cX11_book 27 = .ok (.iconst (-1), 1) := by decide +kernel
theorem dX11_book_28 : decode cX11_book 28 = .ok (.ireturn, 1) := by decide +kernel
theorem dX11_book_29 : decode cX11_book 29 = .ok (.iload_n 2, 1) := by decide +kernel
theorem dX11_book_30 : decode cX11_book 30 = .ok (.iconst 0, 1) := by decide +kernel
theorem dX11_book_31 : decode cX11_book 31 = .ok (.sipush 999, 3) := by decide +kernel
theorem dX11_book_34 : decode cX11_book 34 = .ok (.invokestatic 50, 3) := by decide +kernel
theorem dX11_book_37 : decode cX11_book 37 = .ok (.ifCond .eq 13, 3) := by decide +kernel
theorem dX11_book_40 : decode cX11_book 40 = .ok (.iload_n 3, 1) := by decide +kernel
theorem dX11_book_41 : decode cX11_book 41 = .ok (.iconst 0, 1) := by decide +kernel
theorem dX11_book_42 : decode cX11_book 42 = .ok (.bipush 30, 2) := by decide +kernel
theorem dX11_book_44 : decode cX11_book 44 = .ok (.invokestatic 50, 3) := by decide +kernel
theorem dX11_book_47 : decode cX11_book 47 = .ok (.ifCond .ne 6, 3) := by decide +kernel
theorem dX11_book_50 : decode cX11_book 50 = .ok (.bipush (-2), 2) := by decide +kernel
theorem dX11_book_52 : decode cX11_book 52 = .ok (.ireturn, 1) := by decide +kernel
theorem dX11_book_53 : decode cX11_book 53 = .ok (.aload_n 0, 1) := by decide +kernel
theorem dX11_book_54 : decode cX11_book 54 = .ok (.getfield 17, 3) := by decide +kernel
theorem dX11_book_57 : decode cX11_book 57 = .ok (.getfield 263, 3) := by decide +kernel
theorem dX11_book_60 : decode cX11_book 60 = .ok (.invokevirtual 58, 3) := by decide +kernel
theorem dX11_book_63 : decode cX11_book 63 = .ok (.ifCond .eq 8, 3) := by decide +kernel
theorem dX11_book_66 : decode cX11_book 66 = .ok (.bipush (-4), 2) := by decide +kernel
theorem dX11_book_68 : decode cX11_book 68 = .ok (.goto 16, 3) := by decide +kernel
theorem dX11_book_71 : decode cX11_book 71 = .ok (.aload_n 0, 1) := by decide +kernel
theorem dX11_book_72 : decode cX11_book 72 = .ok (.getfield 17, 3) := by decide +kernel
theorem dX11_book_75 : decode cX11_book 75 = .ok (.getfield 263, 3) := by decide +kernel
theorem dX11_book_78 : decode cX11_book 78 = .ok (.iload_n 1, 1) := by decide +kernel
theorem dX11_book_79 : decode cX11_book 79 = .ok (.iload_n 2, 1) := by decide +kernel
theorem dX11_book_80 : decode cX11_book 80 = .ok (.iload_n 3, 1) := by decide +kernel
theorem dX11_book_81 : decode cX11_book 81 = .ok (.invokevirtual 64, 3) := by decide +kernel
theorem dX11_book_84 : decode cX11_book 84 = .ok (.ireturn, 1) := by decide +kernel
theorem dX11_looked_0 : decode cX11_looked 0 = .ok (.iconst 0, 1) := by decide +kernel
theorem dX11_looked_1 : decode cX11_looked 1 = .ok (.istore_n 1, 1) := by decide +kernel
theorem dX11_looked_2 : decode cX11_looked 2 = .ok (.iload_n 1, 1) := by decide +kernel
theorem dX11_looked_3 : decode cX11_looked 3 = .ok (.aload_n 0, 1) := by decide +kernel
theorem dX11_looked_4 : decode cX11_looked 4 = .ok (.getfield 17, 3) := by decide +kernel
theorem dX11_looked_7 : decode cX11_looked 7 = .ok (.getfield 263, 3) := by decide +kernel
theorem dX11_looked_10 : decode cX11_looked 10 = .ok (.getfield 75, 3) := by decide +kernel
theorem dX11_looked_13 : decode cX11_looked 13 = .ok (.if_icmp .ge 70, 3) := by decide +kernel
theorem dX11_looked_16 : decode cX11_looked 16 = .ok (.aload_n 0, 1) := by decide +kernel
theorem dX11_looked_17 : decode cX11_looked 17 = .ok (.getfield 17, 3) := by decide +kernel
theorem dX11_looked_20 : decode cX11_looked 20 = .ok (.aload_n 0, 1) := by decide +kernel
theorem dX11_looked_21 : decode cX11_looked 21 = .ok (.getfield 17, 3) := by decide +kernel
theorem dX11_looked_24 : decode cX11_looked 24 = .ok (.getfield 263, 3) := by decide +kernel
theorem dX11_looked_27 : decode cX11_looked 27 = .ok (.iload_n 1, 1) := by decide +kernel
theorem dX11_looked_28 : decode cX11_looked 28 = .ok (.iconst 0, 1) := by decide +kernel
theorem dX11_looked_29 : decode cX11_looked 29 = .ok (.invokevirtual 257, 3) := by decide +kernel
theorem dX11_looked_32 : decode cX11_looked 32 = .ok (.invokevirtual 99, 3) := by decide +kernel
theorem dX11_looked_35 : decode cX11_looked 35 = .ok (.astore_n 2, 1) := by decide +kernel
theorem dX11_looked_36 : decode cX11_looked 36 = .ok (.aload_n 2, 1) := by decide +kernel
theorem dX11_looked_37 : decode cX11_looked 37 = .ok (.ifnull 38, 3) := by decide +kernel
theorem dX11_looked_40 : decode cX11_looked 40 = .ok (.aload_n 0, 1) := by decide +kernel
theorem dX11_looked_41 : decode cX11_looked 41 = .ok (.getfield 17, 3) := by decide +kernel
theorem dX11_looked_44 : decode cX11_looked 44 = .ok (.aload_n 2, 1) := by decide +kernel
theorem dX11_looked_45 : decode cX11_looked 45 = .ok (.aload_n 0, 1) := by decide +kernel
theorem dX11_looked_46 : decode cX11_looked 46 = .ok (.getfield 17, 3) := by decide +kernel
theorem dX11_looked_49 : decode cX11_looked 49 = .ok (.getfield 263, 3) := by decide +kernel
theorem dX11_looked_52 : decode cX11_looked 52 = .ok (.iload_n 1, 1) := by decide +kernel
theorem dX11_looked_53 : decode cX11_looked 53 = .ok (.iconst 1, 1) := by decide +kernel
theorem dX11_looked_54 : decode cX11_looked 54 = .ok (.invokevirtual 257, 3) := by decide +kernel
theorem dX11_looked_57 : decode cX11_looked 57 = .ok (.invokevirtual 140, 3) := by decide +kernel
theorem dX11_looked_60 : decode cX11_looked 60 = .ok (.aload_n 0, 1) := by decide +kernel
theorem dX11_looked_61 : decode cX11_looked 61 = .ok (.getfield 17, 3) := by decide +kernel
theorem dX11_looked_64 : decode cX11_looked 64 = .ok (.getfield 263, 3) := by decide +kernel
theorem dX11_looked_67 : decode cX11_looked 67 = .ok (.iload_n 1, 1) := by decide +kernel
theorem dX11_looked_68 : decode cX11_looked 68 = .ok (.iconst 2, 1) := by decide +kernel
theorem dX11_looked_69 : decode cX11_looked 69 = .ok (.invokevirtual 257, 3) := by decide +kernel
theorem dX11_looked_72 : decode cX11_looked 72 = .ok (.if_icmp .eq 5, 3) := by decide +kernel
theorem dX11_looked_75 : decode cX11_looked 75 = .ok (.iload_n 1, 1) := by decide +kernel
theorem dX11_looked_76 : decode cX11_looked 76 = .ok (.ireturn, 1) := by decide +kernel
theorem dX11_looked_77 : decode cX11_looked 77 = .ok (.iinc 1 1, 3) := by decide +kernel
theorem dX11_looked_80 : decode cX11_looked 80 = .ok (.goto (-78), 3) := by decide +kernel
theorem dX11_looked_83 : decode cX11_looked 83 = .ok (.bipush (-5), 2) := by decide +kernel
theorem dX11_looked_85 : decode cX11_looked 85 = .ok (.ireturn, 1) := by decide +kernel
theorem dX11_act_0 : decode cX11_act 0 = .ok (.aload_n 0, 1) := by decide +kernel
theorem dX11_act_1 : decode cX11_act 1 = .ok (.getfield 36, 3) := by decide +kernel
theorem dX11_act_4 : decode cX11_act 4 = .ok (.iconst 0, 1) := by decide +kernel
theorem dX11_act_5 : decode cX11_act 5 = .ok (.putfield 266, 3) := by decide +kernel
theorem dX11_act_8 : decode cX11_act 8 = .ok (.aload_n 0, 1) := by decide +kernel
theorem dX11_act_9 : decode cX11_act 9 = .ok (.getfield 17, 3) := by decide +kernel
theorem dX11_act_12 : decode cX11_act 12 = .ok (.iload_n 1, 1) := by decide +kernel
theorem dX11_act_13 : decode cX11_act 13 = .ok (.invokevirtual 99, 3) := by decide +kernel
theorem dX11_act_16 : decode cX11_act 16 = .ok (.astore 4, 2) := by decide +kernel
theorem dX11_act_18 : decode cX11_act 18 = .ok (.aload 4, 2) := by decide +kernel
theorem dX11_act_20 : decode cX11_act 20 = .ok (.ifnonnull 5, 3) := by decide +kernel
theorem dX11_act_23 : decode cX11_act 23 = .ok (.iconst 0, 1) := by decide +kernel
theorem dX11_act_24 : decode cX11_act 24 = .ok (.ireturn, 1) := by decide +kernel
theorem dX11_act_25 : decode cX11_act 25 = .ok (.iload_n 2, 1) := by decide +kernel
theorem dX11_act_26 : decode cX11_act 26 = .ok (.tableswitch 59 0 2 #[26, 37, 48], 26) := by decide +kernel
theorem dX11_act_52 : decode cX11_act 52 = .ok (.aload 4, 2) := by decide +kernel
theorem dX11_act_54 : decode cX11_act 54 = .ok (.iload_n 3, 1) := by decide +kernel
theorem dX11_act_55 : decode cX11_act 55 = .ok (.aload_n 0, 1) := by decide +kernel
theorem dX11_act_56 : decode cX11_act 56 = .ok (.getfield 36, 3) := by decide +kernel
theorem dX11_act_59 : decode cX11_act 59 = .ok (.invokevirtual 269, 3) := by decide +kernel
theorem dX11_act_62 : decode cX11_act 62 = .ok (.ireturn, 1) := by decide +kernel
theorem dX11_act_63 : decode cX11_act 63 = .ok (.aload 4, 2) := by decide +kernel
theorem dX11_act_65 : decode cX11_act 65 = .ok (.iload_n 3, 1) := by decide +kernel
theorem dX11_act_66 : decode cX11_act 66 = .ok (.aload_n 0, 1) := by decide +kernel
theorem dX11_act_67 : decode cX11_act 67 = .ok (.getfield 36, 3) := by decide +kernel
theorem dX11_act_70 : decode cX11_act 70 = .ok (.invokevirtual 273, 3) := by decide +kernel
theorem dX11_act_73 : decode cX11_act 73 = .ok (.ireturn, 1) := by decide +kernel
theorem dX11_act_74 : decode cX11_act 74 = .ok (.aload 4, 2) := by decide +kernel
theorem dX11_act_76 : decode cX11_act 76 = .ok (.iload_n 3, 1) := by decide +kernel
theorem dX11_act_77 : decode cX11_act 77 = .ok (.aload_n 0, 1) := by decide +kernel
theorem dX11_act_78 : decode cX11_act 78 = .ok (.getfield 36, 3) := by decide +kernel
theorem dX11_act_81 : decode cX11_act 81 = .ok (.invokevirtual 276, 3) := by decide +kernel
theorem dX11_act_84 : decode cX11_act 84 = .ok (.ireturn, 1) := by decide +kernel
theorem dX11_act_85 : decode cX11_act 85 = .ok (.iconst 0, 1) := by decide +kernel
theorem dX11_act_86 : decode cX11_act 86 = .ok (.ireturn, 1) := by decide +kernel
theorem dX11_trace_0 : decode cX11_trace 0 = .ok (.iload_n 1, 1) := by decide +kernel
theorem dX11_trace_1 : decode cX11_trace 1 = .ok (.iconst 0, 1) := by decide +kernel
theorem dX11_trace_2 : decode cX11_trace 2 = .ok (.aload_n 0, 1) := by decide +kernel
theorem dX11_trace_3 : decode cX11_trace 3 = .ok (.getfield 36, 3) := by decide +kernel
theorem dX11_trace_6 : decode cX11_trace 6 = .ok (.getfield 266, 3) := by decide +kernel
theorem dX11_trace_9 : decode cX11_trace 9 = .ok (.aload_n 0, 1) := by decide +kernel
theorem dX11_trace_10 : decode cX11_trace 10 = .ok (.getfield 36, 3) := by decide +kernel
theorem dX11_trace_13 : decode cX11_trace 13 = .ok (.getfield 279, 3) := by decide +kernel
theorem dX11_trace_16 : decode cX11_trace 16 = .ok (.arraylength, 1) := by decide +kernel
theorem dX11_trace_17 : decode cX11_trace 17 = .ok (.invokestatic 205, 3) := by decide +kernel
theorem dX11_trace_20 : decode cX11_trace 20 = .ok (.iconst 1, 1) := by decide +kernel
theorem dX11_trace_21 : decode cX11_trace 21 = .ok (.isub, 1) := by decide +kernel
theorem dX11_trace_22 : decode cX11_trace 22 = .ok (.invokestatic 50, 3) := by decide +kernel
theorem dX11_trace_25 : decode cX11_trace 25 = .ok (.ifCond .eq 15, 3) := by decide +kernel
theorem dX11_trace_28 : decode cX11_trace 28 = .ok (.aload_n 0, 1) := by decide +kernel
theorem dX11_trace_29 : decode cX11_trace 29 = .ok (.getfield 36, 3) := by decide +kernel
theorem dX11_trace_32 : decode cX11_trace 32 = .ok (.getfield 279, 3) := by decide +kernel
theorem dX11_trace_35 : decode cX11_trace 35 = .ok (.iload_n 1, 1) := by decide +kernel
theorem dX11_trace_36 : decode cX11_trace 36 = .ok (.iaload, 1) := by decide +kernel
theorem dX11_trace_37 : decode cX11_trace 37 = .ok (.goto 4, 3) := by decide +kernel
theorem dX11_trace_40 : decode cX11_trace 40 = .ok (.iconst (-1), 1) := by decide +kernel
theorem dX11_trace_41 : decode cX11_trace 41 = .ok (.ireturn, 1) := by decide +kernel
theorem dX11_as_0 : decode cX11_as 0 = .ok (.aload_n 0, 1) := by decide +kernel
theorem dX11_as_1 : decode cX11_as 1 = .ok (.getfield 17, 3) := by decide +kernel
theorem dX11_as_4 : decode cX11_as 4 = .ok (.iload_n 1, 1) := by decide +kernel
theorem dX11_as_5 : decode cX11_as 5 = .ok (.invokevirtual 99, 3) := by decide +kernel
theorem dX11_as_8 : decode cX11_as 8 = .ok (.astore_n 3, 1) := by decide +kernel
theorem dX11_as_9 : decode cX11_as 9 = .ok (.aload_n 3, 1) := by decide +kernel
theorem dX11_as_10 : decode cX11_as 10 = .ok (.ifnull 13, 3) := by decide +kernel
theorem dX11_as_13 : decode cX11_as 13 = .ok (.iload_n 2, 1) := by decide +kernel
theorem dX11_as_14 : decode cX11_as 14 = .ok (.iconst 0, 1) := by decide +kernel
theorem dX11_as_15 : decode cX11_as 15 = .ok (.bipush 6, 2) := by decide +kernel
theorem dX11_as_17 : decode cX11_as 17 = .ok (.invokestatic 50, 3) := by decide +kernel
theorem dX11_as_20 : decode cX11_as 20 = .ok (.ifCond .ne 5, 3) := by decide +kernel
theorem dX11_as_23 : decode cX11_as 23 = .ok (.iconst (-1), 1) := by decide +kernel
theorem dX11_as_24 : decode cX11_as 24 = .ok (.ireturn, 1) := by decide +kernel
theorem dX11_as_25 : decode cX11_as 25 = .ok (.aload_n 3, 1) := by decide +kernel
theorem dX11_as_26 : decode cX11_as 26 = .ok (.iload_n 2, 1) := by decide +kernel
theorem dX11_as_27 : decode cX11_as 27 = .ok (.invokestatic 282, 3) := by decide +kernel
theorem dX11_as_30 : decode cX11_as 30 = .ok (.ifCond .eq 10, 3) := by decide +kernel
theorem dX11_as_33 : decode cX11_as 33 = .ok (.aload_n 3, 1) := by decide +kernel
theorem dX11_as_34 : decode cX11_as 34 = .ok (.getfield 108, 3) := by decide +kernel
theorem dX11_as_37 : decode cX11_as 37 = .ok (.goto 5, 3) := by decide +kernel
theorem dX11_as_40 : decode cX11_as 40 = .ok (.bipush (-6), 2) := by decide +kernel
theorem dX11_as_42 : decode cX11_as 42 = .ok (.ireturn, 1) := by decide +kernel
theorem dX11_image_0 : decode cX11_image 0 = .ok (.aload_n 0, 1) := by decide +kernel
theorem dX11_image_1 : decode cX11_image 1 = .ok (.getfield 23, 3) := by decide +kernel
theorem dX11_image_4 : decode cX11_image 4 = .ok (.aload_n 0, 1) := by decide +kernel
theorem dX11_image_5 : decode cX11_image 5 = .ok (.getfield 17, 3) := by decide +kernel
theorem dX11_image_8 : decode cX11_image 8 = .ok (.invokevirtual 286, 3) := by decide +kernel
theorem dX11_image_11 : decode cX11_image 11 = .ok (.aload_n 0, 1) := by decide +kernel
theorem dX11_image_12 : decode cX11_image 12 = .ok (.iconst 1, 1) := by decide +kernel
theorem dX11_image_13 : decode cX11_image 13 = .ok (.putfield 289, 3) := by decide +kernel
theorem dX11_image_16 : decode cX11_image 16 = .ok (.aload_n 0, 1) := by decide +kernel
theorem dX11_image_17 : decode cX11_image 17 = .ok (.getfield 17, 3) := by decide +kernel
theorem dX11_image_20 : decode cX11_image 20 = .ok (.getfield 90, 3) := by decide +kernel
theorem dX11_image_23 : decode cX11_image 23 = .ok (.ireturn, 1) := by decide +kernel
theorem dX11_undo_0 : decode cX11_undo 0 = .ok (.aload_n 0, 1) := by decide +kernel
theorem dX11_undo_1 : decode cX11_undo 1 = .ok (.getfield 289, 3) := by decide +kernel
theorem dX11_undo_4 : decode cX11_undo 4 = .ok (.ifCond .ne 6, 3) := by decide +kernel
theorem dX11_undo_7 : decode cX11_undo 7 = .ok (.bipush (-3), 2) := by decide +kernel
theorem dX11_undo_9 : decode cX11_undo 9 = .ok (.ireturn, 1) := by decide +kernel
theorem dX11_undo_10 : decode cX11_undo 10 = .ok (.aload_n 0, 1) := by decide +kernel
theorem dX11_undo_11 : decode cX11_undo 11 = .ok (.getfield 17, 3) := by decide +kernel
theorem dX11_undo_14 : decode cX11_undo 14 = .ok (.aload_n 0, 1) := by decide +kernel
theorem dX11_undo_15 : decode cX11_undo 15 = .ok (.getfield 23, 3) := by decide +kernel
theorem dX11_undo_18 : decode cX11_undo 18 = .ok (.invokevirtual 286, 3) := by decide +kernel
theorem dX11_undo_21 : decode cX11_undo 21 = .ok (.aload_n 0, 1) := by decide +kernel
theorem dX11_undo_22 : decode cX11_undo 22 = .ok (.getfield 17, 3) := by decide +kernel
theorem dX11_undo_25 : decode cX11_undo 25 = .ok (.getfield 90, 3) := by decide +kernel
theorem dX11_undo_28 : decode cX11_undo 28 = .ok (.ireturn, 1) := by decide +kernel
theorem dX11_count_0 : decode cX11_count 0 = .ok (.iload_n 1, 1) := by decide +kernel
theorem dX11_count_1 : decode cX11_count 1 = .ok (.tableswitch 111 0 6 #[43, 51, 59, 70, 81, 92, 103], 43) := by decide +kernel
theorem dX11_count_44 : decode cX11_count 44 = .ok (.aload_n 0, 1) := by decide +kernel
theorem dX11_count_45 : decode cX11_count 45 = .ok (.getfield 17, 3) := by decide +kernel
theorem dX11_count_48 : decode cX11_count 48 = .ok (.getfield 90, 3) := by decide +kernel
theorem dX11_count_51 : decode cX11_count 51 = .ok (.ireturn, 1) := by decide +kernel
theorem dX11_count_52 : decode cX11_count 52 = .ok (.aload_n 0, 1) := by decide +kernel
theorem dX11_count_53 : decode cX11_count 53 = .ok (.getfield 17, 3) := by decide +kernel
theorem dX11_count_56 : decode cX11_count 56 = .ok (.getfield 68, 3) := by decide +kernel
theorem dX11_count_59 : decode cX11_count 59 = .ok (.ireturn, 1) := by decide +kernel
theorem dX11_count_60 : decode cX11_count 60 = .ok (.aload_n 0, 1) := by decide +kernel
theorem dX11_count_61 : decode cX11_count 61 = .ok (.getfield 17, 3) := by decide +kernel
theorem dX11_count_64 : decode cX11_count 64 = .ok (.getfield 242, 3) := by decide +kernel
theorem dX11_count_67 : decode cX11_count 67 = .ok (.getfield 75, 3) := by decide +kernel
theorem dX11_count_70 : decode cX11_count 70 = .ok (.ireturn, 1) := by decide +kernel
theorem dX11_count_71 : decode cX11_count 71 = .ok (.aload_n 0, 1) := by decide +kernel
theorem dX11_count_72 : decode cX11_count 72 = .ok (.getfield 17, 3) := by decide +kernel
theorem dX11_count_75 : decode cX11_count 75 = .ok (.getfield 254, 3) := by decide +kernel
theorem dX11_count_78 : decode cX11_count 78 = .ok (.getfield 75, 3) := by decide +kernel
theorem dX11_count_81 : decode cX11_count 81 = .ok (.ireturn, 1) := by decide +kernel
theorem dX11_count_82 : decode cX11_count 82 = .ok (.aload_n 0, 1) := by decide +kernel
theorem dX11_count_83 : decode cX11_count 83 = .ok (.getfield 17, 3) := by decide +kernel
theorem dX11_count_86 : decode cX11_count 86 = .ok (.getfield 263, 3) := by decide +kernel
theorem dX11_count_89 : decode cX11_count 89 = .ok (.getfield 75, 3) := by decide +kernel
theorem dX11_count_92 : decode cX11_count 92 = .ok (.ireturn, 1) := by decide +kernel
theorem dX11_count_93 : decode cX11_count 93 = .ok (.aload_n 0, 1) := by decide +kernel
theorem dX11_count_94 : decode cX11_count 94 = .ok (.getfield 17, 3) := by decide +kernel
theorem dX11_count_97 : decode cX11_count 97 = .ok (.getfield 54, 3) := by decide +kernel
theorem dX11_count_100 : decode cX11_count 100 = .ok (.getfield 75, 3) := by decide +kernel
theorem dX11_count_103 : decode cX11_count 103 = .ok (.ireturn, 1) := by decide +kernel
theorem dX11_count_104 : decode cX11_count 104 = .ok (.aload_n 0, 1) := by decide +kernel
theorem dX11_count_105 : decode cX11_count 105 = .ok (.getfield 36, 3) := by decide +kernel
theorem dX11_count_108 : decode cX11_count 108 = .ok (.getfield 266, 3) := by decide +kernel
theorem dX11_count_111 : decode cX11_count 111 = .ok (.ireturn, 1) := by decide +kernel
theorem dX11_count_112 : decode cX11_count 112 = .ok (.iconst (-1), 1) := by decide +kernel
theorem dX11_count_113 : decode cX11_count 113 = .ok (.ireturn, 1) := by decide +kernel
theorem dX11_within_0 : decode cX11_within 0 = .ok (.iload_n 0, 1) := by decide +kernel
theorem dX11_within_1 : decode cX11_within 1 = .ok (.iload_n 1, 1) := by decide +kernel
theorem dX11_within_2 : decode cX11_within 2 = .ok (.if_icmp .lt 12, 3) := by decide +kernel
theorem dX11_within_5 : decode cX11_within 5 = .ok (.iload_n 0, 1) := by decide +kernel
theorem dX11_within_6 : decode cX11_within 6 = .ok (.iload_n 2, 1) := by decide +kernel
theorem dX11_within_7 : decode cX11_within 7 = .ok (.if_icmp .gt 7, 3) := by decide +kernel
theorem dX11_within_10 : decode cX11_within 10 = .ok (.iconst 1, 1) := by decide +kernel
theorem dX11_within_11 : decode cX11_within 11 = .ok (.goto 4, 3) := by decide +kernel
theorem dX11_within_14 : decode cX11_within 14 = .ok (.iconst 0, 1) := by decide +kernel
theorem dX11_within_15 : decode cX11_within 15 = .ok (.ireturn, 1) := by decide +kernel
theorem dX11_moreTired_0 : decode cX11_moreTired 0 = .ok (.bipush 99, 2) := by decide +kernel
theorem dX11_moreTired_2 : decode cX11_moreTired 2 = .ok (.iload_n 0, 1) := by decide +kernel
theorem dX11_moreTired_3 : decode cX11_moreTired 3 = .ok (.iload_n 1, 1) := by decide +kernel
theorem dX11_moreTired_4 : decode cX11_moreTired 4 = .ok (.iadd, 1) := by decide +kernel
theorem dX11_moreTired_5 : decode cX11_moreTired 5 = .ok (.invokestatic 205, 3) := by decide +kernel
theorem dX11_moreTired_8 : decode cX11_moreTired 8 = .ok (.ireturn, 1) := by decide +kernel
theorem dX11_lessTired_0 : decode cX11_lessTired 0 = .ok (.iconst 0, 1) := by decide +kernel
theorem dX11_lessTired_1 : decode cX11_lessTired 1 = .ok (.iload_n 0, 1) := by decide +kernel
theorem dX11_lessTired_2 : decode cX11_lessTired 2 = .ok (.iconst 2, 1) := by decide +kernel
theorem dX11_lessTired_3 : decode cX11_lessTired 3 = .ok (.iload_n 1, 1) := by decide +kernel
theorem dX11_lessTired_4 : decode cX11_lessTired 4 = .ok (.imul, 1) := by decide +kernel
theorem dX11_lessTired_5 : decode cX11_lessTired 5 = .ok (.isub, 1) := by decide +kernel
theorem dX11_lessTired_6 : decode cX11_lessTired 6 = .ok (.invokestatic 292, 3) := by decide +kernel
theorem dX11_lessTired_9 : decode cX11_lessTired 9 = .ok (.ireturn, 1) := by decide +kernel
theorem dX11_fraction_0 : decode cX11_fraction 0 = .ok (.iload 4, 2) := by decide +kernel
theorem dX11_fraction_2 : decode cX11_fraction 2 = .ok (.iconst 0, 1) := by decide +kernel
theorem dX11_fraction_3 : decode cX11_fraction 3 = .ok (.iconst 1, 1) := by decide +kernel
theorem dX11_fraction_4 : decode cX11_fraction 4 = .ok (.invokestatic 50, 3) := by decide +kernel
theorem dX11_fraction_7 : decode cX11_fraction 7 = .ok (.ifCond .eq 9, 3) := by decide +kernel
theorem dX11_fraction_10 : decode cX11_fraction 10 = .ok (.lload_n 2, 1) := by decide +kernel
theorem dX11_fraction_11 : decode cX11_fraction 11 = .ok (.lconst 0, 1) := by decide +kernel
theorem dX11_fraction_12 : decode cX11_fraction 12 = .ok (.lcmp, 1) := by decide +kernel
theorem dX11_fraction_13 : decode cX11_fraction 13 = .ok (.ifCond .gt 7, 3) := by decide +kernel
theorem dX11_fraction_16 : decode cX11_fraction 16 = .ok (.ldc2_w 252, 3) := by decide +kernel
theorem dX11_fraction_19 : decode cX11_fraction 19 = .ok (.lreturn, 1) := by decide +kernel
theorem dX11_fraction_20 : decode cX11_fraction 20 = .ok (.lload_n 0, 1) := by decide +kernel
theorem dX11_fraction_21 : decode cX11_fraction 21 = .ok (.lstore 5, 2) := by decide +kernel
theorem dX11_fraction_23 : decode cX11_fraction 23 = .ok (.lload_n 2, 1) := by decide +kernel
theorem dX11_fraction_24 : decode cX11_fraction 24 = .ok (.lstore 7, 2) := by decide +kernel
theorem dX11_fraction_26 : decode cX11_fraction 26 = .ok (.iconst 0, 1) := by decide +kernel
theorem dX11_fraction_27 : decode cX11_fraction 27 = .ok (.istore 9, 2) := by decide +kernel
theorem dX11_fraction_29 : decode cX11_fraction 29 = .ok (.iload 9, 2) := by decide +kernel
theorem dX11_fraction_31 : decode cX11_fraction 31 = .ok (.bipush 100, 2) := by decide +kernel
theorem dX11_fraction_33 : decode cX11_fraction 33 = .ok (.if_icmp .ge 31, 3) := by decide +kernel
theorem dX11_fraction_36 : decode cX11_fraction 36 = .ok (.lload 5, 2) := by decide +kernel
theorem dX11_fraction_38 : decode cX11_fraction 38 = .ok (.lconst 0, 1) := by decide +kernel
theorem dX11_fraction_39 : decode cX11_fraction 39 = .ok (.lcmp, 1) := by decide +kernel
theorem dX11_fraction_40 : decode cX11_fraction 40 = .ok (.ifCond .eq 24, 3) := by decide +kernel
theorem dX11_fraction_43 : decode cX11_fraction 43 = .ok (.lload 7, 2) := by decide +kernel
theorem dX11_fraction_45 : decode cX11_fraction 45 = .ok (.lload 5, 2) := by decide +kernel
theorem dX11_fraction_47 : decode cX11_fraction 47 = .ok (.lrem, 1) := by decide +kernel
theorem dX11_fraction_48 : decode cX11_fraction 48 = .ok (.lstore 10, 2) := by decide +kernel
theorem dX11_fraction_50 : decode cX11_fraction 50 = .ok (.lload 5, 2) := by decide +kernel
theorem dX11_fraction_52 : decode cX11_fraction 52 = .ok (.lstore 7, 2) := by decide +kernel
theorem dX11_fraction_54 : decode cX11_fraction 54 = .ok (.lload 10, 2) := by decide +kernel
theorem dX11_fraction_56 : decode cX11_fraction 56 = .ok (.lstore 5, 2) := by decide +kernel
theorem dX11_fraction_58 : decode cX11_fraction 58 = .ok (.iinc 9 1, 3) := by decide +kernel
theorem dX11_fraction_61 : decode cX11_fraction 61 = .ok (.goto (-32), 3) := by decide +kernel
theorem dX11_fraction_64 : decode cX11_fraction 64 = .ok (.lload 7, 2) := by decide +kernel
theorem dX11_fraction_66 : decode cX11_fraction 66 = .ok (.lconst 0, 1) := by decide +kernel
theorem dX11_fraction_67 : decode cX11_fraction 67 = .ok (.lcmp, 1) := by decide +kernel
theorem dX11_fraction_68 : decode cX11_fraction 68 = .ok (.ifCond .gt 7, 3) := by decide +kernel
theorem dX11_fraction_71 : decode cX11_fraction 71 = .ok (.ldc2_w 252, 3) := by decide +kernel
theorem dX11_fraction_74 : decode cX11_fraction 74 = .ok (.lreturn, 1) := by decide +kernel
theorem dX11_fraction_75 : decode cX11_fraction 75 = .ok (.iload 4, 2) := by decide +kernel
theorem dX11_fraction_77 : decode cX11_fraction 77 = .ok (.ifCond .ne 10, 3) := by decide +kernel
theorem dX11_fraction_80 : decode cX11_fraction 80 = .ok (.lload_n 0, 1) := by decide +kernel
theorem dX11_fraction_81 : decode cX11_fraction 81 = .ok (.lload 7, 2) := by decide +kernel
theorem dX11_fraction_83 : decode cX11_fraction 83 = .ok (.ldiv, 1) := by decide +kernel
theorem dX11_fraction_84 : decode cX11_fraction 84 = .ok (.goto 7, 3) := by decide +kernel
theorem dX11_fraction_87 : decode cX11_fraction 87 = .ok (.lload_n 2, 1) := by decide +kernel
theorem dX11_fraction_88 : decode cX11_fraction 88 = .ok (.lload 7, 2) := by decide +kernel
theorem dX11_fraction_90 : decode cX11_fraction 90 = .ok (.ldiv, 1) := by decide +kernel
theorem dX11_fraction_91 : decode cX11_fraction 91 = .ok (.lreturn, 1) := by decide +kernel
theorem dX11_newMark_0 : decode cX11_newMark 0 = .ok (.iload_n 0, 1) := by decide +kernel
theorem dX11_newMark_1 : decode cX11_newMark 1 = .ok (.tableswitch 123 1 6 #[39, 53, 67, 81, 95, 109], 39) := by decide +kernel
theorem dX11_newMark_40 : decode cX11_newMark 40 = .ok (.new 295, 3) := by decide +kernel
theorem dX11_newMark_43 : decode cX11_newMark 43 = .ok (.dup, 1) := by decide +kernel
theorem dX11_newMark_44 : decode cX11_newMark 44 = .ok (.iload_n 0, 1) := by decide +kernel
theorem dX11_newMark_45 : decode cX11_newMark 45 = .ok (.iload_n 1, 1) := by decide +kernel
theorem dX11_newMark_46 : decode cX11_newMark 46 = .ok (.iload_n 2, 1) := by decide +kernel
theorem dX11_newMark_47 : decode cX11_newMark 47 = .ok (.iload_n 3, 1) := by decide +kernel
theorem dX11_newMark_48 : decode cX11_newMark 48 = .ok (.iload 4, 2) := by decide +kernel
theorem dX11_newMark_50 : decode cX11_newMark 50 = .ok (.invokespecial 297, 3) := by decide +kernel
theorem dX11_newMark_53 : decode cX11_newMark 53 = .ok (.areturn, 1) := by decide +kernel
theorem dX11_newMark_54 : decode cX11_newMark 54 = .ok (.new 300, 3) := by decide +kernel
theorem dX11_newMark_57 : decode cX11_newMark 57 = .ok (.dup, 1) := by decide +kernel
theorem dX11_newMark_58 : decode cX11_newMark 58 = .ok (.iload_n 0, 1) := by decide +kernel
theorem dX11_newMark_59 : decode cX11_newMark 59 = .ok (.iload_n 1, 1) := by decide +kernel
theorem dX11_newMark_60 : decode cX11_newMark 60 = .ok (.iload_n 2, 1) := by decide +kernel
theorem dX11_newMark_61 : decode cX11_newMark 61 = .ok (.iload_n 3, 1) := by decide +kernel
theorem dX11_newMark_62 : decode cX11_newMark 62 = .ok (.iload 4, 2) := by decide +kernel
theorem dX11_newMark_64 : decode cX11_newMark 64 = .ok (.invokespecial 302, 3) := by decide +kernel
theorem dX11_newMark_67 : decode cX11_newMark 67 = .ok (.areturn, 1) := by decide +kernel
theorem dX11_newMark_68 : decode cX11_newMark 68 = .ok (.new 303, 3) := by decide +kernel
theorem dX11_newMark_71 : decode cX11_newMark 71 = .ok (.dup, 1) := by decide +kernel
theorem dX11_newMark_72 : decode cX11_newMark 72 = .ok (.iload_n 0, 1) := by decide +kernel
theorem dX11_newMark_73 : decode cX11_newMark 73 = .ok (.iload_n 1, 1) := by decide +kernel
theorem dX11_newMark_74 : decode cX11_newMark 74 = .ok (.iload_n 2, 1) := by decide +kernel
theorem dX11_newMark_75 : decode cX11_newMark 75 = .ok (.iload_n 3, 1) := by decide +kernel
theorem dX11_newMark_76 : decode cX11_newMark 76 = .ok (.iload 4, 2) := by decide +kernel
theorem dX11_newMark_78 : decode cX11_newMark 78 = .ok (.invokespecial 305, 3) := by decide +kernel
theorem dX11_newMark_81 : decode cX11_newMark 81 = .ok (.areturn, 1) := by decide +kernel
theorem dX11_newMark_82 : decode cX11_newMark 82 = .ok (.new 306, 3) := by decide +kernel
theorem dX11_newMark_85 : decode cX11_newMark 85 = .ok (.dup, 1) := by decide +kernel
theorem dX11_newMark_86 : decode cX11_newMark 86 = .ok (.iload_n 0, 1) := by decide +kernel
theorem dX11_newMark_87 : decode cX11_newMark 87 = .ok (.iload_n 1, 1) := by decide +kernel
theorem dX11_newMark_88 : decode cX11_newMark 88 = .ok (.iload_n 2, 1) := by decide +kernel
theorem dX11_newMark_89 : decode cX11_newMark 89 = .ok (.iload_n 3, 1) := by decide +kernel
theorem dX11_newMark_90 : decode cX11_newMark 90 = .ok (.iload 4, 2) := by decide +kernel
theorem dX11_newMark_92 : decode cX11_newMark 92 = .ok (.invokespecial 308, 3) := by decide +kernel
theorem dX11_newMark_95 : decode cX11_newMark 95 = .ok (.areturn, 1) := by decide +kernel
theorem dX11_newMark_96 : decode cX11_newMark 96 = .ok (.new 309, 3) := by decide +kernel
theorem dX11_newMark_99 : decode cX11_newMark 99 = .ok (.dup, 1) := by decide +kernel
theorem dX11_newMark_100 : decode cX11_newMark 100 = .ok (.iload_n 0, 1) := by decide +kernel
theorem dX11_newMark_101 : decode cX11_newMark 101 = .ok (.iload_n 1, 1) := by decide +kernel
theorem dX11_newMark_102 : decode cX11_newMark 102 = .ok (.iload_n 2, 1) := by decide +kernel
theorem dX11_newMark_103 : decode cX11_newMark 103 = .ok (.iload_n 3, 1) := by decide +kernel
theorem dX11_newMark_104 : decode cX11_newMark 104 = .ok (.iload 4, 2) := by decide +kernel
theorem dX11_newMark_106 : decode cX11_newMark 106 = .ok (.invokespecial 311, 3) := by decide +kernel
theorem dX11_newMark_109 : decode cX11_newMark 109 = .ok (.areturn, 1) := by decide +kernel
theorem dX11_newMark_110 : decode cX11_newMark 110 = .ok (.new 143, 3) := by decide +kernel
theorem dX11_newMark_113 : decode cX11_newMark 113 = .ok (.dup, 1) := by decide +kernel
theorem dX11_newMark_114 : decode cX11_newMark 114 = .ok (.iload_n 0, 1) := by decide +kernel
theorem dX11_newMark_115 : decode cX11_newMark 115 = .ok (.iload_n 1, 1) := by decide +kernel
theorem dX11_newMark_116 : decode cX11_newMark 116 = .ok (.iload_n 2, 1) := by decide +kernel
theorem dX11_newMark_117 : decode cX11_newMark 117 = .ok (.iload_n 3, 1) := by decide +kernel
theorem dX11_newMark_118 : decode cX11_newMark 118 = .ok (.iload 4, 2) := by decide +kernel
theorem dX11_newMark_120 : decode cX11_newMark 120 = .ok (.invokespecial 312, 3) := by decide +kernel
theorem dX11_newMark_123 : decode cX11_newMark 123 = .ok (.areturn, 1) := by decide +kernel
theorem dX11_newMark_124 : decode cX11_newMark 124 = .ok (.new 104, 3) := by decide +kernel
theorem dX11_newMark_127 : decode cX11_newMark 127 = .ok (.dup, 1) := by decide +kernel
theorem dX11_newMark_128 : decode cX11_newMark 128 = .ok (.iload_n 0, 1) := by decide +kernel
theorem dX11_newMark_129 : decode cX11_newMark 129 = .ok (.iload_n 1, 1) := by decide +kernel
theorem dX11_newMark_130 : decode cX11_newMark 130 = .ok (.iload_n 2, 1) := by decide +kernel
theorem dX11_newMark_131 : decode cX11_newMark 131 = .ok (.iload_n 3, 1) := by decide +kernel
theorem dX11_newMark_132 : decode cX11_newMark 132 = .ok (.iload 4, 2) := by decide +kernel
theorem dX11_newMark_134 : decode cX11_newMark 134 = .ok (.invokespecial 313, 3) := by decide +kernel
theorem dX11_newMark_137 : decode cX11_newMark 137 = .ok (.areturn, 1) := by decide +kernel
theorem dX11_isOfKind_0 : decode cX11_isOfKind 0 = .ok (.iload_n 1, 1) := by decide +kernel
theorem dX11_isOfKind_1 : decode cX11_isOfKind 1 = .ok (.tableswitch 69 1 6 #[39, 44, 49, 54, 59, 64], 39) := by decide +kernel
theorem dX11_isOfKind_40 : decode cX11_isOfKind 40 = .ok (.aload_n 0, 1) := by decide +kernel
theorem dX11_isOfKind_41 : decode cX11_isOfKind 41 = .ok (.instanceof 295, 3) := by decide +kernel
theorem dX11_isOfKind_44 : decode cX11_isOfKind 44 = .ok (.ireturn, 1) := by decide +kernel
theorem dX11_isOfKind_45 : decode cX11_isOfKind 45 = .ok (.aload_n 0, 1) := by decide +kernel
theorem dX11_isOfKind_46 : decode cX11_isOfKind 46 = .ok (.instanceof 300, 3) := by decide +kernel
theorem dX11_isOfKind_49 : decode cX11_isOfKind 49 = .ok (.ireturn, 1) := by decide +kernel
theorem dX11_isOfKind_50 : decode cX11_isOfKind 50 = .ok (.aload_n 0, 1) := by decide +kernel
theorem dX11_isOfKind_51 : decode cX11_isOfKind 51 = .ok (.instanceof 303, 3) := by decide +kernel
theorem dX11_isOfKind_54 : decode cX11_isOfKind 54 = .ok (.ireturn, 1) := by decide +kernel
theorem dX11_isOfKind_55 : decode cX11_isOfKind 55 = .ok (.aload_n 0, 1) := by decide +kernel
theorem dX11_isOfKind_56 : decode cX11_isOfKind 56 = .ok (.instanceof 306, 3) := by decide +kernel
theorem dX11_isOfKind_59 : decode cX11_isOfKind 59 = .ok (.ireturn, 1) := by decide +kernel
theorem dX11_isOfKind_60 : decode cX11_isOfKind 60 = .ok (.aload_n 0, 1) := by decide +kernel
theorem dX11_isOfKind_61 : decode cX11_isOfKind 61 = .ok (.instanceof 309, 3) := by decide +kernel
theorem dX11_isOfKind_64 : decode cX11_isOfKind 64 = .ok (.ireturn, 1) := by decide +kernel
theorem dX11_isOfKind_65 : decode cX11_isOfKind 65 = .ok (.aload_n 0, 1) := by decide +kernel
theorem dX11_isOfKind_66 : decode cX11_isOfKind 66 = .ok (.instanceof 143, 3) := by decide +kernel
theorem dX11_isOfKind_69 : decode cX11_isOfKind 69 = .ok (.ireturn, 1) := by decide +kernel
theorem dX11_isOfKind_70 : decode cX11_isOfKind 70 = .ok (.iconst 1, 1) := by decide +kernel
theorem dX11_isOfKind_71 : decode cX11_isOfKind 71 = .ok (.ireturn, 1) := by decide +kernel
theorem dX11_gatherUncut_0 : decode cX11_gatherUncut 0 = .ok (.iconst 0, 1) := by decide +kernel
theorem dX11_gatherUncut_1 : decode cX11_gatherUncut 1 = .ok (.istore_n 1, 1) := by decide +kernel
theorem dX11_gatherUncut_2 : decode cX11_gatherUncut 2 = .ok (.iconst 0, 1) := by decide +kernel
theorem dX11_gatherUncut_3 : decode cX11_gatherUncut 3 = .ok (.istore_n 2, 1) := by decide +kernel
theorem dX11_gatherUncut_4 : decode cX11_gatherUncut 4 = .ok (.iload_n 2, 1) := by decide +kernel
theorem dX11_gatherUncut_5 : decode cX11_gatherUncut 5 = .ok (.aload_n 0, 1) := by decide +kernel
theorem dX11_gatherUncut_6 : decode cX11_gatherUncut 6 = .ok (.getfield 17, 3) := by decide +kernel
theorem dX11_gatherUncut_9 : decode cX11_gatherUncut 9 = .ok (.getfield 90, 3) := by decide +kernel
theorem dX11_gatherUncut_12 : decode cX11_gatherUncut 12 = .ok (.if_icmp .ge 34, 3) := by decide +kernel
theorem dX11_gatherUncut_15 : decode cX11_gatherUncut 15 = .ok (.aload_n 0, 1) := by decide +kernel
theorem dX11_gatherUncut_16 : decode cX11_gatherUncut 16 = .ok (.getfield 17, 3) := by decide +kernel
theorem dX11_gatherUncut_19 : decode cX11_gatherUncut 19 = .ok (.getfield 91, 3) := by decide +kernel
theorem dX11_gatherUncut_22 : decode cX11_gatherUncut 22 = .ok (.iload_n 2, 1) := by decide +kernel
theorem dX11_gatherUncut_23 : decode cX11_gatherUncut 23 = .ok (.aaload, 1) := by decide +kernel
theorem dX11_gatherUncut_24 : decode cX11_gatherUncut 24 = .ok (.getfield 117, 3) := by decide +kernel
theorem dX11_gatherUncut_27 : decode cX11_gatherUncut 27 = .ok (.ifCond .ne 13, 3) := by decide +kernel
theorem dX11_gatherUncut_30 : decode cX11_gatherUncut 30 = .ok (.aload_n 0, 1) := by decide +kernel
theorem dX11_gatherUncut_31 : decode cX11_gatherUncut 31 = .ok (.getfield 40, 3) := by decide +kernel
theorem dX11_gatherUncut_34 : decode cX11_gatherUncut 34 = .ok (.iload_n 1, 1) := by decide +kernel
theorem dX11_gatherUncut_35 : decode cX11_gatherUncut 35 = .ok (.iload_n 2, 1) := by decide +kernel
theorem dX11_gatherUncut_36 : decode cX11_gatherUncut 36 = .ok (.iastore, 1) := by decide +kernel
theorem dX11_gatherUncut_37 : decode cX11_gatherUncut 37 = .ok (.iinc 1 1, 3) := by decide +kernel
theorem dX11_gatherUncut_40 : decode cX11_gatherUncut 40 = .ok (.iinc 2 1, 3) := by decide +kernel
theorem dX11_gatherUncut_43 : decode cX11_gatherUncut 43 = .ok (.goto (-39), 3) := by decide +kernel
theorem dX11_gatherUncut_46 : decode cX11_gatherUncut 46 = .ok (.iload_n 1, 1) := by decide +kernel
theorem dX11_gatherUncut_47 : decode cX11_gatherUncut 47 = .ok (.ireturn, 1) := by decide +kernel
theorem dX11_findOrder_0 : decode cX11_findOrder 0 = .ok (.iconst 1, 1) := by decide +kernel
theorem dX11_findOrder_1 : decode cX11_findOrder 1 = .ok (.iload_n 1, 1) := by decide +kernel
theorem dX11_findOrder_2 : decode cX11_findOrder 2 = .ok (.ishl, 1) := by decide +kernel
theorem dX11_findOrder_3 : decode cX11_findOrder 3 = .ok (.iconst 1, 1) := by decide +kernel
theorem dX11_findOrder_4 : decode cX11_findOrder 4 = .ok (.isub, 1) := by decide +kernel
theorem dX11_findOrder_5 : decode cX11_findOrder 5 = .ok (.istore_n 2, 1) := by decide +kernel
theorem dX11_findOrder_6 : decode cX11_findOrder 6 = .ok (.aload_n 0, 1) := by decide +kernel
theorem dX11_findOrder_7 : decode cX11_findOrder 7 = .ok (.getfield 44, 3) := by decide +kernel
theorem dX11_findOrder_10 : decode cX11_findOrder 10 = .ok (.iload_n 2, 1) := by decide +kernel
theorem dX11_findOrder_11 : decode cX11_findOrder 11 = .ok (.iconst 0, 1) := by decide +kernel
theorem dX11_findOrder_12 : decode cX11_findOrder 12 = .ok (.iastore, 1) := by decide +kernel
theorem dX11_findOrder_13 : decode cX11_findOrder 13 = .ok (.iload_n 2, 1) := by decide +kernel
theorem dX11_findOrder_14 : decode cX11_findOrder 14 = .ok (.iconst 1, 1) := by decide +kernel
theorem dX11_findOrder_15 : decode cX11_findOrder 15 = .ok (.isub, 1) := by decide +kernel
theorem dX11_findOrder_16 : decode cX11_findOrder 16 = .ok (.istore_n 3, 1) := by decide +kernel
theorem dX11_findOrder_17 : decode cX11_findOrder 17 = .ok (.iload_n 3, 1) := by decide +kernel
theorem dX11_findOrder_18 : decode cX11_findOrder 18 = .ok (.ifCond .lt 118, 3) := by decide +kernel
theorem dX11_findOrder_21 : decode cX11_findOrder 21 = .ok (.aload_n 0, 1) := by decide +kernel
theorem dX11_findOrder_22 : decode cX11_findOrder 22 = .ok (.iload_n 3, 1) := by decide +kernel
theorem dX11_findOrder_23 : decode cX11_findOrder 23 = .ok (.iload_n 1, 1) := by decide +kernel
theorem dX11_findOrder_24 : decode cX11_findOrder 24 = .ok (.invokevirtual 314, 3) := by decide +kernel
theorem dX11_findOrder_27 : decode cX11_findOrder 27 = .ok (.istore 4, 2) := by decide +kernel
theorem dX11_findOrder_29 : decode cX11_findOrder 29 = .ok (.aload_n 0, 1) := by decide +kernel
theorem dX11_findOrder_30 : decode cX11_findOrder 30 = .ok (.getfield 44, 3) := by decide +kernel
theorem dX11_findOrder_33 : decode cX11_findOrder 33 = .ok (.iload_n 3, 1) := by decide +kernel
theorem dX11_findOrder_34 : decode cX11_findOrder 34 = .ok (.ldc_w 317, 3) := by decide +kernel
theorem dX11_findOrder_37 : decode cX11_findOrder 37 = .ok (.iastore, 1) := by decide +kernel
theorem dX11_findOrder_38 : decode cX11_findOrder 38 = .ok (.iconst 0, 1) := by decide +kernel
theorem dX11_findOrder_39 : decode cX11_findOrder 39 = .ok (.istore 5, 2) := by decide +kernel
theorem dX11_findOrder_41 : decode cX11_findOrder 41 = .ok (.iload 5, 2) := by decide +kernel
theorem dX11_findOrder_43 : decode cX11_findOrder 43 = .ok (.iload_n 1, 1) := by decide +kernel
theorem dX11_findOrder_44 : decode cX11_findOrder 44 = .ok (.if_icmp .ge 86, 3) := by decide +kernel
theorem dX11_findOrder_47 : decode cX11_findOrder 47 = .ok (.iload_n 3, 1) := by decide +kernel
theorem dX11_findOrder_48 : decode cX11_findOrder 48 = .ok (.iload 5, 2) := by decide +kernel
theorem dX11_findOrder_50 : decode cX11_findOrder 50 = .ok (.ishr, 1) := by decide +kernel
theorem dX11_findOrder_51 : decode cX11_findOrder 51 = .ok (.iconst 1, 1) := by decide +kernel
theorem dX11_findOrder_52 : decode cX11_findOrder 52 = .ok (.iand, 1) := by decide +kernel
theorem dX11_findOrder_53 : decode cX11_findOrder 53 = .ok (.ifCond .ne 71, 3) := by decide +kernel
theorem dX11_findOrder_56 : decode cX11_findOrder 56 = .ok (.aload_n 0, 1) := by decide +kernel
theorem dX11_findOrder_57 : decode cX11_findOrder 57 = .ok (.getfield 17, 3) := by decide +kernel
theorem dX11_findOrder_60 : decode cX11_findOrder 60 = .ok (.getfield 86, 3) := by decide +kernel
theorem dX11_findOrder_63 : decode cX11_findOrder 63 = .ok (.aload_n 0, 1) := by decide +kernel
theorem dX11_findOrder_64 : decode cX11_findOrder 64 = .ok (.getfield 17, 3) := by decide +kernel
theorem dX11_findOrder_67 : decode cX11_findOrder 67 = .ok (.getfield 91, 3) := by decide +kernel
theorem dX11_findOrder_70 : decode cX11_findOrder 70 = .ok (.aload_n 0, 1) := by decide +kernel
theorem dX11_findOrder_71 : decode cX11_findOrder 71 = .ok (.getfield 40, 3) := by decide +kernel
theorem dX11_findOrder_74 : decode cX11_findOrder 74 = .ok (.iload 5, 2) := by decide +kernel
theorem dX11_findOrder_76 : decode cX11_findOrder 76 = .ok (.iaload, 1) := by decide +kernel
theorem dX11_findOrder_77 : decode cX11_findOrder 77 = .ok (.aaload, 1) := by decide +kernel
theorem dX11_findOrder_78 : decode cX11_findOrder 78 = .ok (.iload 4, 2) := by decide +kernel
theorem dX11_findOrder_80 : decode cX11_findOrder 80 = .ok (.invokevirtual 133, 3) := by decide +kernel
theorem dX11_findOrder_83 : decode cX11_findOrder 83 = .ok (.aload_n 0, 1) := by decide +kernel
theorem dX11_findOrder_84 : decode cX11_findOrder 84 = .ok (.getfield 44, 3) := by decide +kernel
theorem dX11_findOrder_87 : decode cX11_findOrder 87 = .ok (.iload_n 3, 1) := by decide +kernel
theorem dX11_findOrder_88 : decode cX11_findOrder 88 = .ok (.iconst 1, 1) := by decide +kernel
theorem dX11_findOrder_89 : decode cX11_findOrder 89 = .ok (.iload 5, 2) := by decide +kernel
theorem dX11_findOrder_91 : decode cX11_findOrder 91 = .ok (.ishl, 1) := by decide +kernel
theorem dX11_findOrder_92 : decode cX11_findOrder 92 = .ok (.ior, 1) := by decide +kernel
theorem dX11_findOrder_93 : decode cX11_findOrder 93 = .ok (.iaload, 1) := by decide +kernel
theorem dX11_findOrder_94 : decode cX11_findOrder 94 = .ok (.iadd, 1) := by decide +kernel
theorem dX11_findOrder_95 : decode cX11_findOrder 95 = .ok (.istore 6, 2) := by decide +kernel
theorem dX11_findOrder_97 : decode cX11_findOrder 97 = .ok (.iload 6, 2) := by decide +kernel
theorem dX11_findOrder_99 : decode cX11_findOrder 99 = .ok (.aload_n 0, 1) := by decide +kernel
theorem dX11_findOrder_100 : decode cX11_findOrder 100 = .ok (.getfield 44, 3) := by decide +kernel
theorem dX11_findOrder_103 : decode cX11_findOrder 103 = .ok (.iload_n 3, 1) := by decide +kernel
theorem dX11_findOrder_104 : decode cX11_findOrder 104 = .ok (.iaload, 1) := by decide +kernel
theorem dX11_findOrder_105 : decode cX11_findOrder 105 = .ok (.if_icmp .ge 19, 3) := by decide +kernel
theorem dX11_findOrder_108 : decode cX11_findOrder 108 = .ok (.aload_n 0, 1) := by decide +kernel
theorem dX11_findOrder_109 : decode cX11_findOrder 109 = .ok (.getfield 44, 3) := by decide +kernel
theorem dX11_findOrder_112 : decode cX11_findOrder 112 = .ok (.iload_n 3, 1) := by decide +kernel
theorem dX11_findOrder_113 : decode cX11_findOrder 113 = .ok (.iload 6, 2) := by decide +kernel
theorem dX11_findOrder_115 : decode cX11_findOrder 115 = .ok (.iastore, 1) := by decide +kernel
theorem dX11_findOrder_116 : decode cX11_findOrder 116 = .ok (.aload_n 0, 1) := by decide +kernel
theorem dX11_findOrder_117 : decode cX11_findOrder 117 = .ok (.getfield 47, 3) := by decide +kernel
theorem dX11_findOrder_120 : decode cX11_findOrder 120 = .ok (.iload_n 3, 1) := by decide +kernel
theorem dX11_findOrder_121 : decode cX11_findOrder 121 = .ok (.iload 5, 2) := by decide +kernel
theorem dX11_findOrder_123 : decode cX11_findOrder 123 = .ok (.iastore, 1) := by decide +kernel
theorem dX11_findOrder_124 : decode cX11_findOrder 124 = .ok (.iinc 5 1, 3) := by decide +kernel
theorem dX11_findOrder_127 : decode cX11_findOrder 127 = .ok (.goto (-86), 3) := by decide +kernel
theorem dX11_findOrder_130 : decode cX11_findOrder 130 = .ok (.iinc 3 (-1), 3) := by decide +kernel
theorem dX11_findOrder_133 : decode cX11_findOrder 133 = .ok (.goto (-116), 3) := by decide +kernel
theorem dX11_findOrder_136 : decode cX11_findOrder 136 = .ok (.return_, 1) := by decide +kernel
theorem dX11_tiredBehindSet_0 : decode cX11_tiredBehindSet 0 = .ok (.aload_n 0, 1) := by decide +kernel
theorem dX11_tiredBehindSet_1 : decode cX11_tiredBehindSet 1 = .ok (.getfield 17, 3) := by decide +kernel
theorem dX11_tiredBehindSet_4 : decode cX11_tiredBehindSet 4 = .ok (.getfield 130, 3) := by decide +kernel
theorem dX11_tiredBehindSet_7 : decode cX11_tiredBehindSet 7 = .ok (.istore_n 3, 1) := by decide +kernel
theorem dX11_tiredBehindSet_8 : decode cX11_tiredBehindSet 8 = .ok (.iconst 0, 1) := by decide +kernel
theorem dX11_tiredBehindSet_9 : decode cX11_tiredBehindSet 9 = .ok (.istore 4, 2) := by decide +kernel
theorem dX11_tiredBehindSet_11 : decode cX11_tiredBehindSet 11 = .ok (.iload 4, 2) := by decide +kernel
theorem dX11_tiredBehindSet_13 : decode cX11_tiredBehindSet 13 = .ok (.iload_n 2, 1) := by decide +kernel
theorem dX11_tiredBehindSet_14 : decode cX11_tiredBehindSet 14 = .ok (.if_icmp .ge 39, 3) := by decide +kernel
theorem dX11_tiredBehindSet_17 : decode cX11_tiredBehindSet 17 = .ok (.iload_n 1, 1) := by decide +kernel
theorem dX11_tiredBehindSet_18 : decode cX11_tiredBehindSet 18 = .ok (.iload 4, 2) := by decide +kernel
theorem dX11_tiredBehindSet_20 : decode cX11_tiredBehindSet 20 = .ok (.ishr, 1) := by decide +kernel
theorem dX11_tiredBehindSet_21 : decode cX11_tiredBehindSet 21 = .ok (.iconst 1, 1) := by decide +kernel
theorem dX11_tiredBehindSet_22 : decode cX11_tiredBehindSet 22 = .ok (.iand, 1) := by decide +kernel
theorem dX11_tiredBehindSet_23 : decode cX11_tiredBehindSet 23 = .ok (.iconst 1, 1) := by decide +kernel
theorem dX11_tiredBehindSet_24 : decode cX11_tiredBehindSet 24 = .ok (.if_icmp .ne 23, 3) := by decide +kernel
theorem dX11_tiredBehindSet_27 : decode cX11_tiredBehindSet 27 = .ok (.aload_n 0, 1) := by decide +kernel
theorem dX11_tiredBehindSet_28 : decode cX11_tiredBehindSet 28 = .ok (.getfield 17, 3) := by decide +kernel
theorem dX11_tiredBehindSet_31 : decode cX11_tiredBehindSet 31 = .ok (.getfield 91, 3) := by decide +kernel
theorem dX11_tiredBehindSet_34 : decode cX11_tiredBehindSet 34 = .ok (.aload_n 0, 1) := by decide +kernel
theorem dX11_tiredBehindSet_35 : decode cX11_tiredBehindSet 35 = .ok (.getfield 40, 3) := by decide +kernel
theorem dX11_tiredBehindSet_38 : decode cX11_tiredBehindSet 38 = .ok (.iload 4, 2) := by decide +kernel
theorem dX11_tiredBehindSet_40 : decode cX11_tiredBehindSet 40 = .ok (.iaload, 1) := by decide +kernel
theorem dX11_tiredBehindSet_41 : decode cX11_tiredBehindSet 41 = .ok (.aaload, 1) := by decide +kernel
theorem dX11_tiredBehindSet_42 : decode cX11_tiredBehindSet 42 = .ok (.iload_n 3, 1) := by decide +kernel
theorem dX11_tiredBehindSet_43 : decode cX11_tiredBehindSet 43 = .ok (.invokevirtual 210, 3) := by decide +kernel
theorem dX11_tiredBehindSet_46 : decode cX11_tiredBehindSet 46 = .ok (.istore_n 3, 1) := by decide +kernel
theorem dX11_tiredBehindSet_47 : decode cX11_tiredBehindSet 47 = .ok (.iinc 4 1, 3) := by decide +kernel
theorem dX11_tiredBehindSet_50 : decode cX11_tiredBehindSet 50 = .ok (.goto (-39), 3) := by decide +kernel
theorem dX11_tiredBehindSet_53 : decode cX11_tiredBehindSet 53 = .ok (.iload_n 3, 1) := by decide +kernel
theorem dX11_tiredBehindSet_54 : decode cX11_tiredBehindSet 54 = .ok (.ireturn, 1) := by decide +kernel
theorem dX11_goodAsItIs_0 : decode cX11_goodAsItIs 0 = .ok (.iconst 0, 1) := by decide +kernel
theorem dX11_goodAsItIs_1 : decode cX11_goodAsItIs 1 = .ok (.aload_n 0, 1) := by decide +kernel
theorem dX11_goodAsItIs_2 : decode cX11_goodAsItIs 2 = .ok (.getfield 17, 3) := by decide +kernel
theorem dX11_goodAsItIs_5 : decode cX11_goodAsItIs 5 = .ok (.aload_n 0, 1) := by decide +kernel
theorem dX11_goodAsItIs_6 : decode cX11_goodAsItIs 6 = .ok (.getfield 17, 3) := by decide +kernel
theorem dX11_goodAsItIs_9 : decode cX11_goodAsItIs 9 = .ok (.iconst 0, 1) := by decide +kernel
theorem dX11_goodAsItIs_10 : decode cX11_goodAsItIs 10 = .ok (.invokevirtual 181, 3) := by decide +kernel
theorem dX11_goodAsItIs_13 : decode cX11_goodAsItIs 13 = .ok (.invokevirtual 190, 3) := by decide +kernel
theorem dX11_goodAsItIs_16 : decode cX11_goodAsItIs 16 = .ok (.invokestatic 292, 3) := by decide +kernel
theorem dX11_goodAsItIs_19 : decode cX11_goodAsItIs 19 = .ok (.ireturn, 1) := by decide +kernel
theorem dX11_goodGoneOver_0 : decode cX11_goodGoneOver 0 = .ok (.aload_n 0, 1) := by decide +kernel
theorem dX11_goodGoneOver_1 : decode cX11_goodGoneOver 1 = .ok (.getfield 26, 3) := by decide +kernel
theorem dX11_goodGoneOver_4 : decode cX11_goodGoneOver 4 = .ok (.aload_n 0, 1) := by decide +kernel
theorem dX11_goodGoneOver_5 : decode cX11_goodGoneOver 5 = .ok (.getfield 17, 3) := by decide +kernel
theorem dX11_goodGoneOver_8 : decode cX11_goodGoneOver 8 = .ok (.invokevirtual 232, 3) := by decide +kernel
theorem dX11_goodGoneOver_11 : decode cX11_goodGoneOver 11 = .ok (.aload_n 0, 1) := by decide +kernel
theorem dX11_goodGoneOver_12 : decode cX11_goodGoneOver 12 = .ok (.getfield 26, 3) := by decide +kernel
theorem dX11_goodGoneOver_15 : decode cX11_goodGoneOver 15 = .ok (.iload_n 1, 1) := by decide +kernel
theorem dX11_goodGoneOver_16 : decode cX11_goodGoneOver 16 = .ok (.invokevirtual 99, 3) := by decide +kernel
theorem dX11_goodGoneOver_19 : decode cX11_goodGoneOver 19 = .ok (.astore_n 2, 1) := by decide +kernel
theorem dX11_goodGoneOver_20 : decode cX11_goodGoneOver 20 = .ok (.aload_n 2, 1) := by decide +kernel
theorem dX11_goodGoneOver_21 : decode cX11_goodGoneOver 21 = .ok (.ifnull 11, 3) := by decide +kernel
theorem dX11_goodGoneOver_24 : decode cX11_goodGoneOver 24 = .ok (.aload_n 0, 1) := by decide +kernel
theorem dX11_goodGoneOver_25 : decode cX11_goodGoneOver 25 = .ok (.getfield 26, 3) := by decide +kernel
theorem dX11_goodGoneOver_28 : decode cX11_goodGoneOver 28 = .ok (.aload_n 2, 1) := by decide +kernel
theorem dX11_goodGoneOver_29 : decode cX11_goodGoneOver 29 = .ok (.invokevirtual 174, 3) := by decide +kernel
theorem dX11_goodGoneOver_32 : decode cX11_goodGoneOver 32 = .ok (.iconst 0, 1) := by decide +kernel
theorem dX11_goodGoneOver_33 : decode cX11_goodGoneOver 33 = .ok (.aload_n 0, 1) := by decide +kernel
theorem dX11_goodGoneOver_34 : decode cX11_goodGoneOver 34 = .ok (.getfield 26, 3) := by decide +kernel
theorem dX11_goodGoneOver_37 : decode cX11_goodGoneOver 37 = .ok (.aload_n 0, 1) := by decide +kernel
theorem dX11_goodGoneOver_38 : decode cX11_goodGoneOver 38 = .ok (.getfield 26, 3) := by decide +kernel
theorem dX11_goodGoneOver_41 : decode cX11_goodGoneOver 41 = .ok (.iconst 0, 1) := by decide +kernel
theorem dX11_goodGoneOver_42 : decode cX11_goodGoneOver 42 = .ok (.invokevirtual 181, 3) := by decide +kernel
theorem dX11_goodGoneOver_45 : decode cX11_goodGoneOver 45 = .ok (.invokevirtual 190, 3) := by decide +kernel
theorem dX11_goodGoneOver_48 : decode cX11_goodGoneOver 48 = .ok (.invokestatic 292, 3) := by decide +kernel
theorem dX11_goodGoneOver_51 : decode cX11_goodGoneOver 51 = .ok (.ireturn, 1) := by decide +kernel
theorem dX11_planInThought_0 : decode cX11_planInThought 0 = .ok (.iload_n 1, 1) := by decide +kernel
theorem dX11_planInThought_1 : decode cX11_planInThought 1 = .ok (.iconst 3, 1) := by decide +kernel
theorem dX11_planInThought_2 : decode cX11_planInThought 2 = .ok (.if_icmp .ne 13, 3) := by decide +kernel
theorem dX11_planInThought_5 : decode cX11_planInThought 5 = .ok (.aload_n 0, 1) := by decide +kernel
theorem dX11_planInThought_6 : decode cX11_planInThought 6 = .ok (.getfield 26, 3) := by decide +kernel
theorem dX11_planInThought_9 : decode cX11_planInThought 9 = .ok (.bipush 10, 2) := by decide +kernel
theorem dX11_planInThought_11 : decode cX11_planInThought 11 = .ok (.invokevirtual 166, 3) := by decide +kernel
theorem dX11_planInThought_14 : decode cX11_planInThought 14 = .ok (.return_, 1) := by decide +kernel
theorem dX11_planInThought_15 : decode cX11_planInThought 15 = .ok (.iload_n 1, 1) := by decide +kernel
theorem dX11_planInThought_16 : decode cX11_planInThought 16 = .ok (.iconst 4, 1) := by decide +kernel
theorem dX11_planInThought_17 : decode cX11_planInThought 17 = .ok (.if_icmp .ne 16, 3) := by decide +kernel
theorem dX11_planInThought_20 : decode cX11_planInThought 20 = .ok (.aload_n 0, 1) := by decide +kernel
theorem dX11_planInThought_21 : decode cX11_planInThought 21 = .ok (.getfield 26, 3) := by decide +kernel
theorem dX11_planInThought_24 : decode cX11_planInThought 24 = .ok (.bipush 50, 2) := by decide +kernel
theorem dX11_planInThought_26 : decode cX11_planInThought 26 = .ok (.ldc_w 317, 3) := by decide +kernel
theorem dX11_planInThought_29 : decode cX11_planInThought 29 = .ok (.invokevirtual 177, 3) := by decide +kernel
theorem dX11_planInThought_32 : decode cX11_planInThought 32 = .ok (.return_, 1) := by decide +kernel
theorem dX11_planInThought_33 : decode cX11_planInThought 33 = .ok (.aload_n 0, 1) := by decide +kernel
theorem dX11_planInThought_34 : decode cX11_planInThought 34 = .ok (.getfield 26, 3) := by decide +kernel
theorem dX11_planInThought_37 : decode cX11_planInThought 37 = .ok (.iload_n 2, 1) := by decide +kernel
theorem dX11_planInThought_38 : decode cX11_planInThought 38 = .ok (.invokevirtual 99, 3) := by decide +kernel
theorem dX11_planInThought_41 : decode cX11_planInThought 41 = .ok (.astore_n 3, 1) := by decide +kernel
theorem dX11_planInThought_42 : decode cX11_planInThought 42 = .ok (.aload_n 3, 1) := by decide +kernel
theorem dX11_planInThought_43 : decode cX11_planInThought 43 = .ok (.ifnull 19, 3) := by decide +kernel
theorem dX11_planInThought_46 : decode cX11_planInThought 46 = .ok (.aload_n 3, 1) := by decide +kernel
theorem dX11_planInThought_47 : decode cX11_planInThought 47 = .ok (.getfield 117, 3) := by decide +kernel
theorem dX11_planInThought_50 : decode cX11_planInThought 50 = .ok (.iload_n 1, 1) := by decide +kernel
theorem dX11_planInThought_51 : decode cX11_planInThought 51 = .ok (.ifCond .ne 7, 3) := by decide +kernel
theorem dX11_planInThought_54 : decode cX11_planInThought 54 = .ok (.iconst 1, 1) := by decide +kernel
theorem dX11_planInThought_55 : decode cX11_planInThought 55 = .ok (.goto 4, 3) := by decide +kernel
theorem dX11_planInThought_58 : decode cX11_planInThought 58 = .ok (.iconst 0, 1) := by decide +kernel
theorem dX11_planInThought_59 : decode cX11_planInThought 59 = .ok (.if_icmp .ne 4, 3) := by decide +kernel
theorem dX11_planInThought_62 : decode cX11_planInThought 62 = .ok (.return_, 1) := by decide +kernel
theorem dX11_planInThought_63 : decode cX11_planInThought 63 = .ok (.iload_n 1, 1) := by decide +kernel
theorem dX11_planInThought_64 : decode cX11_planInThought 64 = .ok (.ifCond .ne 16, 3) := by decide +kernel
theorem dX11_planInThought_67 : decode cX11_planInThought 67 = .ok (.aload_n 0, 1) := by decide +kernel
theorem dX11_planInThought_68 : decode cX11_planInThought 68 = .ok (.getfield 26, 3) := by decide +kernel
theorem dX11_planInThought_71 : decode cX11_planInThought 71 = .ok (.aload_n 3, 1) := by decide +kernel
theorem dX11_planInThought_72 : decode cX11_planInThought 72 = .ok (.bipush 99, 2) := by decide +kernel
theorem dX11_planInThought_74 : decode cX11_planInThought 74 = .ok (.invokevirtual 162, 3) := by decide +kernel
theorem dX11_planInThought_77 : decode cX11_planInThought 77 = .ok (.goto 27, 3) := by decide +kernel
theorem dX11_planInThought_80 : decode cX11_planInThought 80 = .ok (.iload_n 1, 1) := by decide +kernel
theorem dX11_planInThought_81 : decode cX11_planInThought 81 = .ok (.iconst 1, 1) := by decide +kernel
theorem dX11_planInThought_82 : decode cX11_planInThought 82 = .ok (.if_icmp .ne 14, 3) := by decide +kernel
theorem dX11_planInThought_85 : decode cX11_planInThought 85 = .ok (.aload_n 0, 1) := by decide +kernel
theorem dX11_planInThought_86 : decode cX11_planInThought 86 = .ok (.getfield 26, 3) := by decide +kernel
theorem dX11_planInThought_89 : decode cX11_planInThought 89 = .ok (.aload_n 3, 1) := by decide +kernel
theorem dX11_planInThought_90 : decode cX11_planInThought 90 = .ok (.invokevirtual 170, 3) := by decide +kernel
theorem dX11_planInThought_93 : decode cX11_planInThought 93 = .ok (.goto 11, 3) := by decide +kernel
theorem dX11_planInThought_96 : decode cX11_planInThought 96 = .ok (.aload_n 0, 1) := by decide +kernel
theorem dX11_planInThought_97 : decode cX11_planInThought 97 = .ok (.getfield 26, 3) := by decide +kernel
theorem dX11_planInThought_100 : decode cX11_planInThought 100 = .ok (.aload_n 3, 1) := by decide +kernel
theorem dX11_planInThought_101 : decode cX11_planInThought 101 = .ok (.invokevirtual 174, 3) := by decide +kernel
theorem dX11_planInThought_104 : decode cX11_planInThought 104 = .ok (.return_, 1) := by decide +kernel
