/-! decode rows: printed by the kit of the program itself -/
theorem dX12_init_0 : decode cX12_init 0 = .ok (.aload_n 0, 1) := by decide +kernel
theorem dX12_init_1 : decode cX12_init 1 = .ok (.invokespecial 3, 3) := by decide +kernel
theorem dX12_init_4 : decode cX12_init 4 = .ok (.aload_n 0, 1) := by decide +kernel
theorem dX12_init_5 : decode cX12_init 5 = .ok (.sipush 973, 3) := by decide +kernel
theorem dX12_init_8 : decode cX12_init 8 = .ok (.newarray .int, 2) := by decide +kernel
theorem dX12_init_10 : decode cX12_init 10 = .ok (.putfield 9, 3) := by decide +kernel
theorem dX12_init_13 : decode cX12_init 13 = .ok (.aload_n 0, 1) := by decide +kernel
theorem dX12_init_14 : decode cX12_init 14 = .ok (.sipush 973, 3) := by decide +kernel
theorem dX12_init_17 : decode cX12_init 17 = .ok (.newarray .int, 2) := by decide +kernel
theorem dX12_init_19 : decode cX12_init 19 = .ok (.putfield 15, 3) := by decide +kernel
theorem dX12_init_22 : decode cX12_init 22 = .ok (.aload_n 0, 1) := by decide +kernel
theorem dX12_init_23 : decode cX12_init 23 = .ok (.bipush 43, 2) := by decide +kernel
theorem dX12_init_25 : decode cX12_init 25 = .ok (.newarray .int, 2) := by decide +kernel
theorem dX12_init_27 : decode cX12_init 27 = .ok (.putfield 18, 3) := by decide +kernel
theorem dX12_init_30 : decode cX12_init 30 = .ok (.aload_n 0, 1) := by decide +kernel
theorem dX12_init_31 : decode cX12_init 31 = .ok (.bipush 6, 2) := by decide +kernel
theorem dX12_init_33 : decode cX12_init 33 = .ok (.newarray .int, 2) := by decide +kernel
theorem dX12_init_35 : decode cX12_init 35 = .ok (.putfield 21, 3) := by decide +kernel
theorem dX12_init_38 : decode cX12_init 38 = .ok (.aload_n 0, 1) := by decide +kernel
theorem dX12_init_39 : decode cX12_init 39 = .ok (.bipush 64, 2) := by decide +kernel
theorem dX12_init_41 : decode cX12_init 41 = .ok (.newarray .boolean, 2) := by decide +kernel
theorem dX12_init_43 : decode cX12_init 43 = .ok (.putfield 24, 3) := by decide +kernel
theorem dX12_init_46 : decode cX12_init 46 = .ok (.aload_n 0, 1) := by decide +kernel
theorem dX12_init_47 : decode cX12_init 47 = .ok (.bipush 8, 2) := by decide +kernel
theorem dX12_init_49 : decode cX12_init 49 = .ok (.newarray .int, 2) := by decide +kernel
theorem dX12_init_51 : decode cX12_init 51 = .ok (.putfield 28, 3) := by decide +kernel
theorem dX12_init_54 : decode cX12_init 54 = .ok (.aload_n 0, 1) := by decide +kernel
theorem dX12_init_55 : decode cX12_init 55 = .ok (.bipush 8, 2) := by decide +kernel
theorem dX12_init_57 : decode cX12_init 57 = .ok (.newarray .int, 2) := by decide +kernel
theorem dX12_init_59 : decode cX12_init 59 = .ok (.putfield 31, 3) := by decide +kernel
theorem dX12_init_62 : decode cX12_init 62 = .ok (.aload_n 0, 1) := by decide +kernel
theorem dX12_init_63 : decode cX12_init 63 = .ok (.bipush 20, 2) := by decide +kernel
theorem dX12_init_65 : decode cX12_init 65 = .ok (.newarray .int, 2) := by decide +kernel
theorem dX12_init_67 : decode cX12_init 67 = .ok (.putfield 34, 3) := by decide +kernel
theorem dX12_init_70 : decode cX12_init 70 = .ok (.aload_n 0, 1) := by decide +kernel
theorem dX12_init_71 : decode cX12_init 71 = .ok (.getfield 9, 3) := by decide +kernel
theorem dX12_init_74 : decode cX12_init 74 = .ok (.bipush 49, 2) := by decide +kernel
theorem dX12_init_76 : decode cX12_init 76 = .ok (.iconst (-1), 1) := by decide +kernel
theorem dX12_init_77 : decode cX12_init 77 = .ok (.iastore, 1) := by decide +kernel
theorem dX12_init_78 : decode cX12_init 78 = .ok (.return_, 1) := by decide +kernel
theorem dX12_in_0 : decode cX12_in 0 = .ok (.iload_n 0, 1) := by decide +kernel
theorem dX12_in_1 : decode cX12_in 1 = .ok (.iload_n 1, 1) := by decide +kernel
theorem dX12_in_2 : decode cX12_in 2 = .ok (.if_icmp .lt 12, 3) := by decide +kernel
theorem dX12_in_5 : decode cX12_in 5 = .ok (.iload_n 0, 1) := by decide +kernel
theorem dX12_in_6 : decode cX12_in 6 = .ok (.iload_n 2, 1) := by decide +kernel
theorem dX12_in_7 : decode cX12_in 7 = .ok (.if_icmp .gt 7, 3) := by decide +kernel
theorem dX12_in_10 : decode cX12_in 10 = .ok (.iconst 1, 1) := by decide +kernel
theorem dX12_in_11 : decode cX12_in 11 = .ok (.goto 4, 3) := by decide +kernel
theorem dX12_in_14 : decode cX12_in 14 = .ok (.iconst 0, 1) := by decide +kernel
theorem dX12_in_15 : decode cX12_in 15 = .ok (.ireturn, 1) := by decide +kernel
theorem dX12_within_0 : decode cX12_within 0 = .ok (.iload_n 0, 1) := by decide +kernel
theorem dX12_within_1 : decode cX12_within 1 = .ok (.iload_n 1, 1) := by decide +kernel
theorem dX12_within_2 : decode cX12_within 2 = .ok (.if_icmp .ge 7, 3) := by decide +kernel
theorem dX12_within_5 : decode cX12_within 5 = .ok (.iload_n 1, 1) := by decide +kernel
theorem dX12_within_6 : decode cX12_within 6 = .ok (.goto 13, 3) := by decide +kernel
theorem dX12_within_9 : decode cX12_within 9 = .ok (.iload_n 0, 1) := by decide +kernel
theorem dX12_within_10 : decode cX12_within 10 = .ok (.iload_n 2, 1) := by decide +kernel
theorem dX12_within_11 : decode cX12_within 11 = .ok (.if_icmp .le 7, 3) := by decide +kernel
theorem dX12_within_14 : decode cX12_within 14 = .ok (.iload_n 2, 1) := by decide +kernel
theorem dX12_within_15 : decode cX12_within 15 = .ok (.goto 4, 3) := by decide +kernel
theorem dX12_within_18 : decode cX12_within 18 = .ok (.iload_n 0, 1) := by decide +kernel
theorem dX12_within_19 : decode cX12_within 19 = .ok (.ireturn, 1) := by decide +kernel
theorem dX12_isMark_0 : decode cX12_isMark 0 = .ok (.iload_n 1, 1) := by decide +kernel
theorem dX12_isMark_1 : decode cX12_isMark 1 = .ok (.iconst 0, 1) := by decide +kernel
theorem dX12_isMark_2 : decode cX12_isMark 2 = .ok (.aload_n 0, 1) := by decide +kernel
theorem dX12_isMark_3 : decode cX12_isMark 3 = .ok (.getfield 9, 3) := by decide +kernel
theorem dX12_isMark_6 : decode cX12_isMark 6 = .ok (.bipush 43, 2) := by decide +kernel
theorem dX12_isMark_8 : decode cX12_isMark 8 = .ok (.iaload, 1) := by decide +kernel
theorem dX12_isMark_9 : decode cX12_isMark 9 = .ok (.iconst 1, 1) := by decide +kernel
theorem dX12_isMark_10 : decode cX12_isMark 10 = .ok (.isub, 1) := by decide +kernel
theorem dX12_isMark_11 : decode cX12_isMark 11 = .ok (.invokestatic 41, 3) := by decide +kernel
theorem dX12_isMark_14 : decode cX12_isMark 14 = .ok (.ireturn, 1) := by decide +kernel
theorem dX12_isCut_0 : decode cX12_isCut 0 = .ok (.aload_n 0, 1) := by decide +kernel
theorem dX12_isCut_1 : decode cX12_isCut 1 = .ok (.getfield 9, 3) := by decide +kernel
theorem dX12_isCut_4 : decode cX12_isCut 4 = .ok (.bipush 11, 2) := by decide +kernel
theorem dX12_isCut_6 : decode cX12_isCut 6 = .ok (.iload_n 1, 1) := by decide +kernel
theorem dX12_isCut_7 : decode cX12_isCut 7 = .ok (.iadd, 1) := by decide +kernel
theorem dX12_isCut_8 : decode cX12_isCut 8 = .ok (.iaload, 1) := by decide +kernel
theorem dX12_isCut_9 : decode cX12_isCut 9 = .ok (.iconst 1, 1) := by decide +kernel
theorem dX12_isCut_10 : decode cX12_isCut 10 = .ok (.if_icmp .ne 7, 3) := by decide +kernel
theorem dX12_isCut_13 : decode cX12_isCut 13 = .ok (.iconst 1, 1) := by decide +kernel
theorem dX12_isCut_14 : decode cX12_isCut 14 = .ok (.goto 4, 3) := by decide +kernel
theorem dX12_isCut_17 : decode cX12_isCut 17 = .ok (.iconst 0, 1) := by decide +kernel
theorem dX12_isCut_18 : decode cX12_isCut 18 = .ok (.ireturn, 1) := by decide +kernel
theorem dX12_keeps_0 : decode cX12_keeps 0 = .ok (.iconst 0, 1) := by decide +kernel
theorem dX12_keeps_1 : decode cX12_keeps 1 = .ok (.istore_n 1, 1) := by decide +kernel
theorem dX12_keeps_2 : decode cX12_keeps 2 = .ok (.iload_n 1, 1) := by decide +kernel
theorem dX12_keeps_3 : decode cX12_keeps 3 = .ok (.bipush 43, 2) := by decide +kernel
theorem dX12_keeps_5 : decode cX12_keeps 5 = .ok (.if_icmp .ge 21, 3) := by decide +kernel
theorem dX12_keeps_8 : decode cX12_keeps 8 = .ok (.aload_n 0, 1) := by decide +kernel
theorem dX12_keeps_9 : decode cX12_keeps 9 = .ok (.getfield 18, 3) := by decide +kernel
theorem dX12_keeps_12 : decode cX12_keeps 12 = .ok (.iload_n 1, 1) := by decide +kernel
theorem dX12_keeps_13 : decode cX12_keeps 13 = .ok (.aload_n 0, 1) := by decide +kernel
theorem dX12_keeps_14 : decode cX12_keeps 14 = .ok (.getfield 9, 3) := by decide +kernel
theorem dX12_keeps_17 : decode cX12_keeps 17 = .ok (.iload_n 1, 1) := by decide +kernel
theorem dX12_keeps_18 : decode cX12_keeps 18 = .ok (.iaload, 1) := by decide +kernel
theorem dX12_keeps_19 : decode cX12_keeps 19 = .ok (.iastore, 1) := by decide +kernel
theorem dX12_keeps_20 : decode cX12_keeps 20 = .ok (.iinc 1 1, 3) := by decide +kernel
theorem dX12_keeps_23 : decode cX12_keeps 23 = .ok (.goto (-21), 3) := by decide +kernel
theorem dX12_keeps_26 : decode cX12_keeps 26 = .ok (.return_, 1) := by decide +kernel
theorem dX12_goesBack_0 : decode cX12_goesBack 0 = .ok (.iconst 0, 1) := by decide +kernel
theorem dX12_goesBack_1 : decode cX12_goesBack 1 = .ok (.istore_n 1, 1) := by decide +kernel
theorem dX12_goesBack_2 : decode cX12_goesBack 2 = .ok (.iload_n 1, 1) := by decide +kernel
theorem dX12_goesBack_3 : decode cX12_goesBack 3 = .ok (.bipush 43, 2) := by decide +kernel
theorem dX12_goesBack_5 : decode cX12_goesBack 5 = .ok (.if_icmp .ge 21, 3) := by decide +kernel
theorem dX12_goesBack_8 : decode cX12_goesBack 8 = .ok (.aload_n 0, 1) := by decide +kernel
theorem dX12_goesBack_9 : decode cX12_goesBack 9 = .ok (.getfield 9, 3) := by decide +kernel
theorem dX12_goesBack_12 : decode cX12_goesBack 12 = .ok (.iload_n 1, 1) := by decide +kernel
theorem dX12_goesBack_13 : decode cX12_goesBack 13 = .ok (.aload_n 0, 1) := by decide +kernel
theorem dX12_goesBack_14 : decode cX12_goesBack 14 = .ok (.getfield 18, 3) := by decide +kernel
theorem dX12_goesBack_17 : decode cX12_goesBack 17 = .ok (.iload_n 1, 1) := by decide +kernel
theorem dX12_goesBack_18 : decode cX12_goesBack 18 = .ok (.iaload, 1) := by decide +kernel
theorem dX12_goesBack_19 : decode cX12_goesBack 19 = .ok (.iastore, 1) := by decide +kernel
theorem dX12_goesBack_20 : decode cX12_goesBack 20 = .ok (.iinc 1 1, 3) := by decide +kernel
theorem dX12_goesBack_23 : decode cX12_goesBack 23 = .ok (.goto (-21), 3) := by decide +kernel
theorem dX12_goesBack_26 : decode cX12_goesBack 26 = .ok (.return_, 1) := by decide +kernel
theorem dX12_feed_0 : decode cX12_feed 0 = .ok (.iload_n 1, 1) := by decide +kernel
theorem dX12_feed_1 : decode cX12_feed 1 = .ok (.iconst 0, 1) := by decide +kernel
theorem dX12_feed_2 : decode cX12_feed 2 = .ok (.bipush 127, 2) := by decide +kernel
theorem dX12_feed_4 : decode cX12_feed 4 = .ok (.invokestatic 41, 3) := by decide +kernel
theorem dX12_feed_7 : decode cX12_feed 7 = .ok (.ifCond .ne 6, 3) := by decide +kernel
theorem dX12_feed_10 : decode cX12_feed 10 = .ok (.bipush (-2), 2) := by decide +kernel
theorem dX12_feed_12 : decode cX12_feed 12 = .ok (.ireturn, 1) := by decide +kernel
theorem dX12_feed_13 : decode cX12_feed 13 = .ok (.aload_n 0, 1) := by decide +kernel
theorem dX12_feed_14 : decode cX12_feed 14 = .ok (.getfield 9, 3) := by decide +kernel
theorem dX12_feed_17 : decode cX12_feed 17 = .ok (.bipush 48, 2) := by decide +kernel
theorem dX12_feed_19 : decode cX12_feed 19 = .ok (.iaload, 1) := by decide +kernel
theorem dX12_feed_20 : decode cX12_feed 20 = .ok (.bipush 100, 2) := by decide +kernel
theorem dX12_feed_22 : decode cX12_feed 22 = .ok (.if_icmp .ne 6, 3) := by decide +kernel
theorem dX12_feed_25 : decode cX12_feed 25 = .ok (.bipush (-4), 2) := by decide +kernel
theorem dX12_feed_27 : decode cX12_feed 27 = .ok (.ireturn, 1) := by decide +kernel
theorem dX12_feed_28 : decode cX12_feed 28 = .ok (.aload_n 0, 1) := by decide +kernel
theorem dX12_feed_29 : decode cX12_feed 29 = .ok (.getfield 9, 3) := by decide +kernel
theorem dX12_feed_32 : decode cX12_feed 32 = .ok (.sipush 158, 3) := by decide +kernel
theorem dX12_feed_35 : decode cX12_feed 35 = .ok (.aload_n 0, 1) := by decide +kernel
theorem dX12_feed_36 : decode cX12_feed 36 = .ok (.getfield 9, 3) := by decide +kernel
theorem dX12_feed_39 : decode cX12_feed 39 = .ok (.bipush 48, 2) := by decide +kernel
theorem dX12_feed_41 : decode cX12_feed 41 = .ok (.iaload, 1) := by decide +kernel
theorem dX12_feed_42 : decode cX12_feed 42 = .ok (.iadd, 1) := by decide +kernel
theorem dX12_feed_43 : decode cX12_feed 43 = .ok (.iload_n 1, 1) := by decide +kernel
theorem dX12_feed_44 : decode cX12_feed 44 = .ok (.iastore, 1) := by decide +kernel
theorem dX12_feed_45 : decode cX12_feed 45 = .ok (.aload_n 0, 1) := by decide +kernel
theorem dX12_feed_46 : decode cX12_feed 46 = .ok (.getfield 9, 3) := by decide +kernel
theorem dX12_feed_49 : decode cX12_feed 49 = .ok (.bipush 48, 2) := by decide +kernel
theorem dX12_feed_51 : decode cX12_feed 51 = .ok (.dup2, 1) := by decide +kernel
theorem dX12_feed_52 : decode cX12_feed 52 = .ok (.iaload, 1) := by decide +kernel
theorem dX12_feed_53 : decode cX12_feed 53 = .ok (.iconst 1, 1) := by decide +kernel
theorem dX12_feed_54 : decode cX12_feed 54 = .ok (.iadd, 1) := by decide +kernel
theorem dX12_feed_55 : decode cX12_feed 55 = .ok (.iastore, 1) := by decide +kernel
theorem dX12_feed_56 : decode cX12_feed 56 = .ok (.aload_n 0, 1) := by decide +kernel
theorem dX12_feed_57 : decode cX12_feed 57 = .ok (.getfield 9, 3) := by decide +kernel
theorem dX12_feed_60 : decode cX12_feed 60 = .ok (.bipush 48, 2) := by decide +kernel
theorem dX12_feed_62 : decode cX12_feed 62 = .ok (.iaload, 1) := by decide +kernel
theorem dX12_feed_63 : decode cX12_feed 63 = .ok (.ireturn, 1) := by decide +kernel
theorem dX12_here_0 : decode cX12_here 0 = .ok (.aload_n 0, 1) := by decide +kernel
theorem dX12_here_1 : decode cX12_here 1 = .ok (.getfield 45, 3) := by decide +kernel
theorem dX12_here_4 : decode cX12_here 4 = .ok (.aload_n 0, 1) := by decide +kernel
theorem dX12_here_5 : decode cX12_here 5 = .ok (.getfield 48, 3) := by decide +kernel
theorem dX12_here_8 : decode cX12_here 8 = .ok (.if_icmp .ge 19, 3) := by decide +kernel
theorem dX12_here_11 : decode cX12_here 11 = .ok (.aload_n 0, 1) := by decide +kernel
theorem dX12_here_12 : decode cX12_here 12 = .ok (.getfield 9, 3) := by decide +kernel
theorem dX12_here_15 : decode cX12_here 15 = .ok (.sipush 158, 3) := by decide +kernel
theorem dX12_here_18 : decode cX12_here 18 = .ok (.aload_n 0, 1) := by decide +kernel
theorem dX12_here_19 : decode cX12_here 19 = .ok (.getfield 45, 3) := by decide +kernel
theorem dX12_here_22 : decode cX12_here 22 = .ok (.iadd, 1) := by decide +kernel
theorem dX12_here_23 : decode cX12_here 23 = .ok (.iaload, 1) := by decide +kernel
theorem dX12_here_24 : decode cX12_here 24 = .ok (.goto 4, 3) := by decide +kernel
theorem dX12_here_27 : decode cX12_here 27 = .ok (.iconst (-1), 1) := by decide +kernel
theorem dX12_here_28 : decode cX12_here 28 = .ok (.ireturn, 1) := by decide +kernel
theorem dX12_must_0 : decode cX12_must 0 = .ok (.aload_n 0, 1) := by decide +kernel
theorem dX12_must_1 : decode cX12_must 1 = .ok (.aload_n 0, 1) := by decide +kernel
theorem dX12_must_2 : decode cX12_must 2 = .ok (.getfield 51, 3) := by decide +kernel
theorem dX12_must_5 : decode cX12_must 5 = .ok (.ifCond .ne 11, 3) := by decide +kernel
theorem dX12_must_8 : decode cX12_must 8 = .ok (.aload_n 0, 1) := by decide +kernel
theorem dX12_must_9 : decode cX12_must 9 = .ok (.invokevirtual 55, 3) := by decide +kernel
theorem dX12_must_12 : decode cX12_must 12 = .ok (.iload_n 1, 1) := by decide +kernel
theorem dX12_must_13 : decode cX12_must 13 = .ok (.if_icmp .eq 7, 3) := by decide +kernel
theorem dX12_must_16 : decode cX12_must 16 = .ok (.iconst 1, 1) := by decide +kernel
theorem dX12_must_17 : decode cX12_must 17 = .ok (.goto 4, 3) := by decide +kernel
theorem dX12_must_20 : decode cX12_must 20 = .ok (.iconst 0, 1) := by decide +kernel
theorem dX12_must_21 : decode cX12_must 21 = .ok (.putfield 51, 3) := by decide +kernel
theorem dX12_must_24 : decode cX12_must 24 = .ok (.aload_n 0, 1) := by decide +kernel
theorem dX12_must_25 : decode cX12_must 25 = .ok (.dup, 1) := by decide +kernel
theorem dX12_must_26 : decode cX12_must 26 = .ok (.getfield 45, 3) := by decide +kernel
theorem dX12_must_29 : decode cX12_must 29 = .ok (.aload_n 0, 1) := by decide +kernel
theorem dX12_must_30 : decode cX12_must 30 = .ok (.getfield 51, 3) := by decide +kernel
theorem dX12_must_33 : decode cX12_must 33 = .ok (.ifCond .eq 7, 3) := by decide +kernel
theorem dX12_must_36 : decode cX12_must 36 = .ok (.iconst 0, 1) := by decide +kernel
theorem dX12_must_37 : decode cX12_must 37 = .ok (.goto 4, 3) := by decide +kernel
theorem dX12_must_40 : decode cX12_must 40 = .ok (.iconst 1, 1) := by decide +kernel
theorem dX12_must_41 : decode cX12_must 41 = .ok (.iadd, 1) := by decide +kernel
theorem dX12_must_42 : decode cX12_must 42 = .ok (.putfield 45, 3) := by decide +kernel
theorem dX12_must_45 : decode cX12_must 45 = .ok (.return_, 1) := by decide +kernel
theorem dX12_spells_0 : decode cX12_spells 0 = .ok (.iconst 0, 1) := by decide +kernel
theorem dX12_spells_1 : decode cX12_spells 1 = .ok (.istore_n 2, 1) := by decide +kernel
theorem dX12_spells_2 : decode cX12_spells 2 = .ok (.iload_n 2, 1) := by decide +kernel
theorem dX12_spells_3 : decode cX12_spells 3 = .ok (.aload_n 1, 1) := by decide +kernel
theorem dX12_spells_4 : decode cX12_spells 4 = .ok (.invokevirtual 59, 3) := by decide +kernel
theorem dX12_spells_7 : decode cX12_spells 7 = .ok (.if_icmp .ge 18, 3) := by decide +kernel
theorem dX12_spells_10 : decode cX12_spells 10 = .ok (.aload_n 0, 1) := by decide +kernel
theorem dX12_spells_11 : decode cX12_spells 11 = .ok (.aload_n 1, 1) := by decide +kernel
theorem dX12_spells_12 : decode cX12_spells 12 = .ok (.iload_n 2, 1) := by decide +kernel
theorem dX12_spells_13 : decode cX12_spells 13 = .ok (.invokevirtual 64, 3) := by decide +kernel
theorem dX12_spells_16 : decode cX12_spells 16 = .ok (.invokevirtual 68, 3) := by decide +kernel
theorem dX12_spells_19 : decode cX12_spells 19 = .ok (.iinc 2 1, 3) := by decide +kernel
theorem dX12_spells_22 : decode cX12_spells 22 = .ok (.goto (-20), 3) := by decide +kernel
theorem dX12_spells_25 : decode cX12_spells 25 = .ok (.return_, 1) := by decide +kernel
theorem dX12_figures_0 : decode cX12_figures 0 = .ok (.aload_n 0, 1) := by decide +kernel
theorem dX12_figures_1 : decode cX12_figures 1 = .ok (.aload_n 0, 1) := by decide +kernel
theorem dX12_figures_2 : decode cX12_figures 2 = .ok (.getfield 51, 3) := by decide +kernel
theorem dX12_figures_5 : decode cX12_figures 5 = .ok (.ifCond .ne 17, 3) := by decide +kernel
theorem dX12_figures_8 : decode cX12_figures 8 = .ok (.aload_n 0, 1) := by decide +kernel
theorem dX12_figures_9 : decode cX12_figures 9 = .ok (.invokevirtual 55, 3) := by decide +kernel
theorem dX12_figures_12 : decode cX12_figures 12 = .ok (.bipush 48, 2) := by decide +kernel
theorem dX12_figures_14 : decode cX12_figures 14 = .ok (.bipush 57, 2) := by decide +kernel
theorem dX12_figures_16 : decode cX12_figures 16 = .ok (.invokestatic 41, 3) := by decide +kernel
theorem dX12_figures_19 : decode cX12_figures 19 = .ok (.ifCond .ne 7, 3) := by decide +kernel
theorem dX12_figures_22 : decode cX12_figures 22 = .ok (.iconst 1, 1) := by decide +kernel
theorem dX12_figures_23 : decode cX12_figures 23 = .ok (.goto 4, 3) := by decide +kernel
theorem dX12_figures_26 : decode cX12_figures 26 = .ok (.iconst 0, 1) := by decide +kernel
theorem dX12_figures_27 : decode cX12_figures 27 = .ok (.putfield 51, 3) := by decide +kernel
theorem dX12_figures_30 : decode cX12_figures 30 = .ok (.iconst 0, 1) := by decide +kernel
theorem dX12_figures_31 : decode cX12_figures 31 = .ok (.istore_n 1, 1) := by decide +kernel
theorem dX12_figures_32 : decode cX12_figures 32 = .ok (.iconst 0, 1) := by decide +kernel
theorem dX12_figures_33 : decode cX12_figures 33 = .ok (.istore_n 2, 1) := by decide +kernel
theorem dX12_figures_34 : decode cX12_figures 34 = .ok (.iload_n 2, 1) := by decide +kernel
theorem dX12_figures_35 : decode cX12_figures 35 = .ok (.iconst 2, 1) := by decide +kernel
theorem dX12_figures_36 : decode cX12_figures 36 = .ok (.if_icmp .ge 61, 3) := by decide +kernel
theorem dX12_figures_39 : decode cX12_figures 39 = .ok (.aload_n 0, 1) := by decide +kernel
theorem dX12_figures_40 : decode cX12_figures 40 = .ok (.getfield 51, 3) := by decide +kernel
theorem dX12_figures_43 : decode cX12_figures 43 = .ok (.ifCond .ne 54, 3) := by decide +kernel
theorem dX12_figures_46 : decode cX12_figures 46 = .ok (.aload_n 0, 1) := by decide +kernel
theorem dX12_figures_47 : decode cX12_figures 47 = .ok (.invokevirtual 55, 3) := by decide +kernel
theorem dX12_figures_50 : decode cX12_figures 50 = .ok (.bipush 48, 2) := by decide +kernel
theorem dX12_figures_52 : decode cX12_figures 52 = .ok (.bipush 57, 2) := by decide +kernel
theorem dX12_figures_54 : decode cX12_figures 54 = .ok (.invokestatic 41, 3) := by decide +kernel
theorem dX12_figures_57 : decode cX12_figures 57 = .ok (.ifCond .eq 40, 3) := by decide +kernel
theorem dX12_figures_60 : decode cX12_figures 60 = .ok (.iload_n 2, 1) := by decide +kernel
theorem dX12_figures_61 : decode cX12_figures 61 = .ok (.ifCond .eq 7, 3) := by decide +kernel
theorem dX12_figures_64 : decode cX12_figures 64 = .ok (.iload_n 1, 1) := by decide +kernel
theorem dX12_figures_65 : decode cX12_figures 65 = .ok (.ifCond .le 32, 3) := by decide +kernel
theorem dX12_figures_68 : decode cX12_figures 68 = .ok (.bipush 10, 2) := by decide +kernel
theorem dX12_figures_70 : decode cX12_figures 70 = .ok (.iload_n 1, 1) := by decide +kernel
theorem dX12_figures_71 : decode cX12_figures 71 = .ok (.imul, 1) := by decide +kernel
theorem dX12_figures_72 : decode cX12_figures 72 = .ok (.aload_n 0, 1) := by decide +kernel
theorem dX12_figures_73 : decode cX12_figures 73 = .ok (.invokevirtual 55, 3) := by decide +kernel
theorem dX12_figures_76 : decode cX12_figures 76 = .ok (.iadd, 1) := by decide +kernel
theorem dX12_figures_77 : decode cX12_figures 77 = .ok (.bipush 48, 2) := by decide +kernel
theorem dX12_figures_79 : decode cX12_figures 79 = .ok (.isub, 1) := by decide +kernel
theorem dX12_figures_80 : decode cX12_figures 80 = .ok (.istore_n 1, 1) := by decide +kernel
theorem dX12_figures_81 : decode cX12_figures 81 = .ok (.aload_n 0, 1) := by decide +kernel
theorem dX12_figures_82 : decode cX12_figures 82 = .ok (.dup, 1) := by decide +kernel
theorem dX12_figures_83 : decode cX12_figures 83 = .ok (.getfield 45, 3) := by decide +kernel
theorem dX12_figures_86 : decode cX12_figures 86 = .ok (.iconst 1, 1) := by decide +kernel
theorem dX12_figures_87 : decode cX12_figures 87 = .ok (.iadd, 1) := by decide +kernel
theorem dX12_figures_88 : decode cX12_figures 88 = .ok (.putfield 45, 3) := by decide +kernel
theorem dX12_figures_91 : decode cX12_figures 91 = .ok (.iinc 2 1, 3) := by decide +kernel
theorem dX12_figures_94 : decode cX12_figures 94 = .ok (.goto (-60), 3) := by decide +kernel
theorem dX12_figures_97 : decode cX12_figures 97 = .ok (.iload_n 1, 1) := by decide +kernel
theorem dX12_figures_98 : decode cX12_figures 98 = .ok (.ireturn, 1) := by decide +kernel
theorem dX12_among_0 : decode cX12_among 0 = .ok (.iconst 0, 1) := by decide +kernel
theorem dX12_among_1 : decode cX12_among 1 = .ok (.istore_n 2, 1) := by decide +kernel
theorem dX12_among_2 : decode cX12_among 2 = .ok (.iload_n 2, 1) := by decide +kernel
theorem dX12_among_3 : decode cX12_among 3 = .ok (.aload_n 1, 1) := by decide +kernel
theorem dX12_among_4 : decode cX12_among 4 = .ok (.invokevirtual 59, 3) := by decide +kernel
theorem dX12_among_7 : decode cX12_among 7 = .ok (.if_icmp .ge 33, 3) := by decide +kernel
theorem dX12_among_10 : decode cX12_among 10 = .ok (.aload_n 0, 1) := by decide +kernel
theorem dX12_among_11 : decode cX12_among 11 = .ok (.invokevirtual 55, 3) := by decide +kernel
theorem dX12_among_14 : decode cX12_among 14 = .ok (.aload_n 1, 1) := by decide +kernel
theorem dX12_among_15 : decode cX12_among 15 = .ok (.iload_n 2, 1) := by decide +kernel
theorem dX12_among_16 : decode cX12_among 16 = .ok (.invokevirtual 64, 3) := by decide +kernel
theorem dX12_among_19 : decode cX12_among 19 = .ok (.if_icmp .ne 15, 3) := by decide +kernel
theorem dX12_among_22 : decode cX12_among 22 = .ok (.aload_n 0, 1) := by decide +kernel
theorem dX12_among_23 : decode cX12_among 23 = .ok (.dup, 1) := by decide +kernel
theorem dX12_among_24 : decode cX12_among 24 = .ok (.getfield 45, 3) := by decide +kernel
theorem dX12_among_27 : decode cX12_among 27 = .ok (.iconst 1, 1) := by decide +kernel
theorem dX12_among_28 : decode cX12_among 28 = .ok (.iadd, 1) := by decide +kernel
theorem dX12_among_29 : decode cX12_among 29 = .ok (.putfield 45, 3) := by decide +kernel
theorem dX12_among_32 : decode cX12_among 32 = .ok (.iload_n 2, 1) := by decide +kernel
theorem dX12_among_33 : decode cX12_among 33 = .ok (.ireturn, 1) := by decide +kernel
theorem dX12_among_34 : decode cX12_among 34 = .ok (.iinc 2 1, 3) := by decide +kernel
theorem dX12_among_37 : decode cX12_among 37 = .ok (.goto (-35), 3) := by decide +kernel
theorem dX12_among_40 : decode cX12_among 40 = .ok (.iconst (-1), 1) := by decide +kernel
theorem dX12_among_41 : decode cX12_among 41 = .ok (.ireturn, 1) := by decide +kernel
theorem dX12_emits_0 : decode cX12_emits 0 = .ok (.aload_n 0, 1) := by decide +kernel
theorem dX12_emits_1 : decode cX12_emits 1 = .ok (.getfield 51, 3) := by decide +kernel
theorem dX12_emits_4 : decode cX12_emits 4 = .ok (.ifCond .ne 52, 3) := by decide +kernel
theorem dX12_emits_7 : decode cX12_emits 7 = .ok (.aload_n 0, 1) := by decide +kernel
theorem dX12_emits_8 : decode cX12_emits 8 = .ok (.getfield 9, 3) := by decide +kernel
theorem dX12_emits_11 : decode cX12_emits 11 = .ok (.sipush 273, 3) := by decide +kernel
theorem dX12_emits_14 : decode cX12_emits 14 = .ok (.sipush 140, 3) := by decide +kernel
theorem dX12_emits_17 : decode cX12_emits 17 = .ok (.aload_n 0, 1) := by decide +kernel
theorem dX12_emits_18 : decode cX12_emits 18 = .ok (.getfield 72, 3) := by decide +kernel
theorem dX12_emits_21 : decode cX12_emits 21 = .ok (.imul, 1) := by decide +kernel
theorem dX12_emits_22 : decode cX12_emits 22 = .ok (.iadd, 1) := by decide +kernel
theorem dX12_emits_23 : decode cX12_emits 23 = .ok (.aload_n 0, 1) := by decide +kernel
theorem dX12_emits_24 : decode cX12_emits 24 = .ok (.getfield 9, 3) := by decide +kernel
theorem dX12_emits_27 : decode cX12_emits 27 = .ok (.sipush 268, 3) := by decide +kernel
theorem dX12_emits_30 : decode cX12_emits 30 = .ok (.aload_n 0, 1) := by decide +kernel
theorem dX12_emits_31 : decode cX12_emits 31 = .ok (.getfield 72, 3) := by decide +kernel
theorem dX12_emits_34 : decode cX12_emits 34 = .ok (.iadd, 1) := by decide +kernel
theorem dX12_emits_35 : decode cX12_emits 35 = .ok (.iaload, 1) := by decide +kernel
theorem dX12_emits_36 : decode cX12_emits 36 = .ok (.iadd, 1) := by decide +kernel
theorem dX12_emits_37 : decode cX12_emits 37 = .ok (.iload_n 1, 1) := by decide +kernel
theorem dX12_emits_38 : decode cX12_emits 38 = .ok (.iastore, 1) := by decide +kernel
theorem dX12_emits_39 : decode cX12_emits 39 = .ok (.aload_n 0, 1) := by decide +kernel
theorem dX12_emits_40 : decode cX12_emits 40 = .ok (.getfield 9, 3) := by decide +kernel
theorem dX12_emits_43 : decode cX12_emits 43 = .ok (.sipush 268, 3) := by decide +kernel
theorem dX12_emits_46 : decode cX12_emits 46 = .ok (.aload_n 0, 1) := by decide +kernel
theorem dX12_emits_47 : decode cX12_emits 47 = .ok (.getfield 72, 3) := by decide +kernel
theorem dX12_emits_50 : decode cX12_emits 50 = .ok (.iadd, 1) := by decide +kernel
theorem dX12_emits_51 : decode cX12_emits 51 = .ok (.dup2, 1) := by decide +kernel
theorem dX12_emits_52 : decode cX12_emits 52 = .ok (.iaload, 1) := by decide +kernel
theorem dX12_emits_53 : decode cX12_emits 53 = .ok (.iconst 1, 1) := by decide +kernel
theorem dX12_emits_54 : decode cX12_emits 54 = .ok (.iadd, 1) := by decide +kernel
theorem dX12_emits_55 : decode cX12_emits 55 = .ok (.iastore, 1) := by decide +kernel
theorem dX12_emits_56 : decode cX12_emits 56 = .ok (.return_, 1) := by decide +kernel
theorem dX12_factor_0 : decode cX12_factor 0 = .ok (.aload_n 0, 1) := by decide +kernel
theorem dX12_factor_1 : decode cX12_factor 1 = .ok (.getfield 51, 3) := by decide +kernel
theorem dX12_factor_4 : decode cX12_factor 4 = .ok (.ifCond .eq 4, 3) := by decide +kernel
theorem dX12_factor_7 : decode cX12_factor 7 = .ok (.return_, 1) := by decide +kernel
theorem dX12_factor_8 : decode cX12_factor 8 = .ok (.aload_n 0, 1) := by decide +kernel
theorem dX12_factor_9 : decode cX12_factor 9 = .ok (.invokevirtual 55, 3) := by decide +kernel
theorem dX12_factor_12 : decode cX12_factor 12 = .ok (.istore_n 1, 1) := by decide +kernel
theorem dX12_factor_13 : decode cX12_factor 13 = .ok (.iload_n 1, 1) := by decide +kernel
theorem dX12_factor_14 : decode cX12_factor 14 = .ok (.bipush 33, 2) := by decide +kernel
theorem dX12_factor_16 : decode cX12_factor 16 = .ok (.if_icmp .eq 9, 3) := by decide +kernel
theorem dX12_factor_19 : decode cX12_factor 19 = .ok (.iload_n 1, 1) := by decide +kernel
theorem dX12_factor_20 : decode cX12_factor 20 = .ok (.bipush 40, 2) := by decide +kernel
theorem dX12_factor_22 : decode cX12_factor 22 = .ok (.if_icmp .ne 90, 3) := by decide +kernel
theorem dX12_factor_25 : decode cX12_factor 25 = .ok (.aload_n 0, 1) := by decide +kernel
theorem dX12_factor_26 : decode cX12_factor 26 = .ok (.aload_n 0, 1) := by decide +kernel
theorem dX12_factor_27 : decode cX12_factor 27 = .ok (.getfield 75, 3) := by decide +kernel
theorem dX12_factor_30 : decode cX12_factor 30 = .ok (.iconst 5, 1) := by decide +kernel
theorem dX12_factor_31 : decode cX12_factor 31 = .ok (.if_icmp .ne 7, 3) := by decide +kernel
theorem dX12_factor_34 : decode cX12_factor 34 = .ok (.iconst 1, 1) := by decide +kernel
theorem dX12_factor_35 : decode cX12_factor 35 = .ok (.goto 4, 3) := by decide +kernel
theorem dX12_factor_38 : decode cX12_factor 38 = .ok (.iconst 0, 1) := by decide +kernel
theorem dX12_factor_39 : decode cX12_factor 39 = .ok (.putfield 51, 3) := by decide +kernel
theorem dX12_factor_42 : decode cX12_factor 42 = .ok (.aload_n 0, 1) := by decide +kernel
theorem dX12_factor_43 : decode cX12_factor 43 = .ok (.dup, 1) := by decide +kernel
theorem dX12_factor_44 : decode cX12_factor 44 = .ok (.getfield 75, 3) := by decide +kernel
theorem dX12_factor_47 : decode cX12_factor 47 = .ok (.iconst 1, 1) := by decide +kernel
theorem dX12_factor_48 : decode cX12_factor 48 = .ok (.iadd, 1) := by decide +kernel
theorem dX12_factor_49 : decode cX12_factor 49 = .ok (.putfield 75, 3) := by decide +kernel
theorem dX12_factor_52 : decode cX12_factor 52 = .ok (.aload_n 0, 1) := by decide +kernel
theorem dX12_factor_53 : decode cX12_factor 53 = .ok (.dup, 1) := by decide +kernel
theorem dX12_factor_54 : decode cX12_factor 54 = .ok (.getfield 45, 3) := by decide +kernel
theorem dX12_factor_57 : decode cX12_factor 57 = .ok (.aload_n 0, 1) := by decide +kernel
theorem dX12_factor_58 : decode cX12_factor 58 = .ok (.getfield 51, 3) := by decide +kernel
theorem dX12_factor_61 : decode cX12_factor 61 = .ok (.ifCond .eq 7, 3) := by decide +kernel
theorem dX12_factor_64 : decode cX12_factor 64 = .ok (.iconst 0, 1) := by decide +kernel
theorem dX12_factor_65 : decode cX12_factor 65 = .ok (.goto 4, 3) := by decide +kernel
theorem dX12_factor_68 : decode cX12_factor 68 = .ok (.iconst 1, 1) := by decide +kernel
theorem dX12_factor_69 : decode cX12_factor 69 = .ok (.iadd, 1) := by decide +kernel
theorem dX12_factor_70 : decode cX12_factor 70 = .ok (.putfield 45, 3) := by decide +kernel
theorem dX12_factor_73 : decode cX12_factor 73 = .ok (.iload_n 1, 1) := by decide +kernel
theorem dX12_factor_74 : decode cX12_factor 74 = .ok (.bipush 33, 2) := by decide +kernel
theorem dX12_factor_76 : decode cX12_factor 76 = .ok (.if_icmp .ne 15, 3) := by decide +kernel
theorem dX12_factor_79 : decode cX12_factor 79 = .ok (.aload_n 0, 1) := by decide +kernel
theorem dX12_factor_80 : decode cX12_factor 80 = .ok (.invokevirtual 78, 3) := by decide +kernel
theorem dX12_factor_83 : decode cX12_factor 83 = .ok (.aload_n 0, 1) := by decide +kernel
theorem dX12_factor_84 : decode cX12_factor 84 = .ok (.iconst (-1), 1) := by decide +kernel
theorem dX12_factor_85 : decode cX12_factor 85 = .ok (.invokevirtual 81, 3) := by decide +kernel
theorem dX12_factor_88 : decode cX12_factor 88 = .ok (.goto 13, 3) := by decide +kernel
theorem dX12_factor_91 : decode cX12_factor 91 = .ok (.aload_n 0, 1) := by decide +kernel
theorem dX12_factor_92 : decode cX12_factor 92 = .ok (.invokevirtual 84, 3) := by decide +kernel
theorem dX12_factor_95 : decode cX12_factor 95 = .ok (.aload_n 0, 1) := by decide +kernel
theorem dX12_factor_96 : decode cX12_factor 96 = .ok (.bipush 41, 2) := by decide +kernel
theorem dX12_factor_98 : decode cX12_factor 98 = .ok (.invokevirtual 68, 3) := by decide +kernel
theorem dX12_factor_101 : decode cX12_factor 101 = .ok (.aload_n 0, 1) := by decide +kernel
theorem dX12_factor_102 : decode cX12_factor 102 = .ok (.dup, 1) := by decide +kernel
theorem dX12_factor_103 : decode cX12_factor 103 = .ok (.getfield 75, 3) := by decide +kernel
theorem dX12_factor_106 : decode cX12_factor 106 = .ok (.iconst 1, 1) := by decide +kernel
theorem dX12_factor_107 : decode cX12_factor 107 = .ok (.isub, 1) := by decide +kernel
theorem dX12_factor_108 : decode cX12_factor 108 = .ok (.putfield 75, 3) := by decide +kernel
theorem dX12_factor_111 : decode cX12_factor 111 = .ok (.return_, 1) := by decide +kernel
theorem dX12_factor_112 : decode cX12_factor 112 = .ok (.aload_n 0, 1) := by decide +kernel
theorem dX12_factor_113 : decode cX12_factor 113 = .ok (.ldc 87, 2) := by decide +kernel
theorem dX12_factor_115 : decode cX12_factor 115 = .ok (.invokevirtual 89, 3) := by decide +kernel
theorem dX12_factor_118 : decode cX12_factor 118 = .ok (.istore_n 2, 1) := by decide +kernel
theorem dX12_factor_119 : decode cX12_factor 119 = .ok (.aload_n 0, 1) := by decide +kernel
theorem dX12_factor_120 : decode cX12_factor 120 = .ok (.iload_n 2, 1) := by decide +kernel
theorem dX12_factor_121 : decode cX12_factor 121 = .ok (.iconst (-1), 1) := by decide +kernel
theorem dX12_factor_122 : decode cX12_factor 122 = .ok (.if_icmp .ne 7, 3) := by decide +kernel
theorem dX12_factor_125 : decode cX12_factor 125 = .ok (.iconst 1, 1) := by decide +kernel
theorem dX12_factor_126 : decode cX12_factor 126 = .ok (.goto 4, 3) := by decide +kernel
theorem dX12_factor_129 : decode cX12_factor 129 = .ok (.iconst 0, 1) := by decide +kernel
theorem dX12_factor_130 : decode cX12_factor 130 = .ok (.putfield 51, 3) := by decide +kernel
theorem dX12_factor_133 : decode cX12_factor 133 = .ok (.aload_n 0, 1) := by decide +kernel
theorem dX12_factor_134 : decode cX12_factor 134 = .ok (.getfield 51, 3) := by decide +kernel
theorem dX12_factor_137 : decode cX12_factor 137 = .ok (.ifCond .eq 7, 3) := by decide +kernel
theorem dX12_factor_140 : decode cX12_factor 140 = .ok (.iconst 0, 1) := by decide +kernel
theorem dX12_factor_141 : decode cX12_factor 141 = .ok (.goto 9, 3) := by decide +kernel
theorem dX12_factor_144 : decode cX12_factor 144 = .ok (.aload_n 0, 1) := by decide +kernel
theorem dX12_factor_145 : decode cX12_factor 145 = .ok (.ldc 93, 2) := by decide +kernel
theorem dX12_factor_147 : decode cX12_factor 147 = .ok (.invokevirtual 89, 3) := by decide +kernel
theorem dX12_factor_150 : decode cX12_factor 150 = .ok (.istore_n 3, 1) := by decide +kernel
theorem dX12_factor_151 : decode cX12_factor 151 = .ok (.aload_n 0, 1) := by decide +kernel
theorem dX12_factor_152 : decode cX12_factor 152 = .ok (.aload_n 0, 1) := by decide +kernel
theorem dX12_factor_153 : decode cX12_factor 153 = .ok (.getfield 51, 3) := by decide +kernel
theorem dX12_factor_156 : decode cX12_factor 156 = .ok (.ifCond .ne 8, 3) := by decide +kernel
theorem dX12_factor_159 : decode cX12_factor 159 = .ok (.iload_n 3, 1) := by decide +kernel
theorem dX12_factor_160 : decode cX12_factor 160 = .ok (.iconst (-1), 1) := by decide +kernel
theorem dX12_factor_161 : decode cX12_factor 161 = .ok (.if_icmp .ne 7, 3) := by decide +kernel
theorem dX12_factor_164 : decode cX12_factor 164 = .ok (.iconst 1, 1) := by decide +kernel
theorem dX12_factor_165 : decode cX12_factor 165 = .ok (.goto 4, 3) := by decide +kernel
theorem dX12_factor_168 : decode cX12_factor 168 = .ok (.iconst 0, 1) := by decide +kernel
theorem dX12_factor_169 : decode cX12_factor 169 = .ok (.putfield 51, 3) := by decide +kernel
theorem dX12_factor_172 : decode cX12_factor 172 = .ok (.aload_n 0, 1) := by decide +kernel
theorem dX12_factor_173 : decode cX12_factor 173 = .ok (.invokevirtual 95, 3) := by decide +kernel
theorem dX12_factor_176 : decode cX12_factor 176 = .ok (.istore 4, 2) := by decide +kernel
theorem dX12_factor_178 : decode cX12_factor 178 = .ok (.aload_n 0, 1) := by decide +kernel
theorem dX12_factor_179 : decode cX12_factor 179 = .ok (.iload_n 2, 1) := by decide +kernel
theorem dX12_factor_180 : decode cX12_factor 180 = .ok (.bipush 8, 2) := by decide +kernel
theorem dX12_factor_182 : decode cX12_factor 182 = .ok (.iload_n 3, 1) := by decide +kernel
theorem dX12_factor_183 : decode cX12_factor 183 = .ok (.imul, 1) := by decide +kernel
theorem dX12_factor_184 : decode cX12_factor 184 = .ok (.iadd, 1) := by decide +kernel
theorem dX12_factor_185 : decode cX12_factor 185 = .ok (.bipush 32, 2) := by decide +kernel
theorem dX12_factor_187 : decode cX12_factor 187 = .ok (.iload 4, 2) := by decide +kernel
theorem dX12_factor_189 : decode cX12_factor 189 = .ok (.imul, 1) := by decide +kernel
theorem dX12_factor_190 : decode cX12_factor 190 = .ok (.iadd, 1) := by decide +kernel
theorem dX12_factor_191 : decode cX12_factor 191 = .ok (.invokevirtual 81, 3) := by decide +kernel
theorem dX12_factor_194 : decode cX12_factor 194 = .ok (.return_, 1) := by decide +kernel
theorem dX12_every_0 : decode cX12_every 0 = .ok (.aload_n 0, 1) := by decide +kernel
theorem dX12_every_1 : decode cX12_every 1 = .ok (.invokevirtual 78, 3) := by decide +kernel
theorem dX12_every_4 : decode cX12_every 4 = .ok (.aload_n 0, 1) := by decide +kernel
theorem dX12_every_5 : decode cX12_every 5 = .ok (.getfield 51, 3) := by decide +kernel
theorem dX12_every_8 : decode cX12_every 8 = .ok (.ifCond .ne 35, 3) := by decide +kernel
theorem dX12_every_11 : decode cX12_every 11 = .ok (.aload_n 0, 1) := by decide +kernel
theorem dX12_every_12 : decode cX12_every 12 = .ok (.invokevirtual 55, 3) := by decide +kernel
theorem dX12_every_15 : decode cX12_every 15 = .ok (.bipush 38, 2) := by decide +kernel
theorem dX12_every_17 : decode cX12_every 17 = .ok (.if_icmp .ne 26, 3) := by decide +kernel
theorem dX12_every_20 : decode cX12_every 20 = .ok (.aload_n 0, 1) := by decide +kernel
theorem dX12_every_21 : decode cX12_every 21 = .ok (.dup, 1) := by decide +kernel
theorem dX12_every_22 : decode cX12_every 22 = .ok (.getfield 45, 3) := by decide +kernel
theorem dX12_every_25 : decode cX12_every 25 = .ok (.iconst 1, 1) := by decide +kernel
theorem dX12_every_26 : decode cX12_every 26 = .ok (.iadd, 1) := by decide +kernel
theorem dX12_every_27 : decode cX12_every 27 = .ok (.putfield 45, 3) := by decide +kernel
theorem dX12_every_30 : decode cX12_every 30 = .ok (.aload_n 0, 1) := by decide +kernel
theorem dX12_every_31 : decode cX12_every 31 = .ok (.invokevirtual 78, 3) := by decide +kernel
theorem dX12_every_34 : decode cX12_every 34 = .ok (.aload_n 0, 1) := by decide +kernel
theorem dX12_every_35 : decode cX12_every 35 = .ok (.bipush (-2), 2) := by decide +kernel
theorem dX12_every_37 : decode cX12_every 37 = .ok (.invokevirtual 81, 3) := by decide +kernel
theorem dX12_every_40 : decode cX12_every 40 = .ok (.goto (-36), 3) := by decide +kernel
theorem dX12_every_43 : decode cX12_every 43 = .ok (.return_, 1) := by decide +kernel
theorem dX12_some_0 : decode cX12_some 0 = .ok (.aload_n 0, 1) := by decide +kernel
theorem dX12_some_1 : decode cX12_some 1 = .ok (.invokevirtual 98, 3) := by decide +kernel
theorem dX12_some_4 : decode cX12_some 4 = .ok (.aload_n 0, 1) := by decide +kernel
theorem dX12_some_5 : decode cX12_some 5 = .ok (.getfield 51, 3) := by decide +kernel
theorem dX12_some_8 : decode cX12_some 8 = .ok (.ifCond .ne 35, 3) := by decide +kernel
theorem dX12_some_11 : decode cX12_some 11 = .ok (.aload_n 0, 1) := by decide +kernel
theorem dX12_some_12 : decode cX12_some 12 = .ok (.invokevirtual 55, 3) := by decide +kernel
theorem dX12_some_15 : decode cX12_some 15 = .ok (.bipush 124, 2) := by decide +kernel
theorem dX12_some_17 : decode cX12_some 17 = .ok (.if_icmp .ne 26, 3) := by decide +kernel
theorem dX12_some_20 : decode cX12_some 20 = .ok (.aload_n 0, 1) := by decide +kernel
theorem dX12_some_21 : decode cX12_some 21 = .ok (.dup, 1) := by decide +kernel
theorem dX12_some_22 : decode cX12_some 22 = .ok (.getfield 45, 3) := by decide +kernel
theorem dX12_some_25 : decode cX12_some 25 = .ok (.iconst 1, 1) := by decide +kernel
theorem dX12_some_26 : decode cX12_some 26 = .ok (.iadd, 1) := by decide +kernel
theorem dX12_some_27 : decode cX12_some 27 = .ok (.putfield 45, 3) := by decide +kernel
theorem dX12_some_30 : decode cX12_some 30 = .ok (.aload_n 0, 1) := by decide +kernel
theorem dX12_some_31 : decode cX12_some 31 = .ok (.invokevirtual 98, 3) := by decide +kernel
theorem dX12_some_34 : decode cX12_some 34 = .ok (.aload_n 0, 1) := by decide +kernel
theorem dX12_some_35 : decode cX12_some 35 = .ok (.bipush (-3), 2) := by decide +kernel
theorem dX12_some_37 : decode cX12_some 37 = .ok (.invokevirtual 81, 3) := by decide +kernel
theorem dX12_some_40 : decode cX12_some 40 = .ok (.goto (-36), 3) := by decide +kernel
theorem dX12_some_43 : decode cX12_some 43 = .ok (.return_, 1) := by decide +kernel
theorem dX12_much_0 : decode cX12_much 0 = .ok (.aload_n 0, 1) := by decide +kernel
theorem dX12_much_1 : decode cX12_much 1 = .ok (.aload_n 2, 1) := by decide +kernel
theorem dX12_much_2 : decode cX12_much 2 = .ok (.invokevirtual 101, 3) := by decide +kernel
theorem dX12_much_5 : decode cX12_much 5 = .ok (.aload_n 0, 1) := by decide +kernel
theorem dX12_much_6 : decode cX12_much 6 = .ok (.invokevirtual 95, 3) := by decide +kernel
theorem dX12_much_9 : decode cX12_much 9 = .ok (.istore_n 3, 1) := by decide +kernel
theorem dX12_much_10 : decode cX12_much 10 = .ok (.aload_n 0, 1) := by decide +kernel
theorem dX12_much_11 : decode cX12_much 11 = .ok (.bipush 32, 2) := by decide +kernel
theorem dX12_much_13 : decode cX12_much 13 = .ok (.invokevirtual 68, 3) := by decide +kernel
theorem dX12_much_16 : decode cX12_much 16 = .ok (.aload_n 0, 1) := by decide +kernel
theorem dX12_much_17 : decode cX12_much 17 = .ok (.invokevirtual 84, 3) := by decide +kernel
theorem dX12_much_20 : decode cX12_much 20 = .ok (.aload_n 0, 1) := by decide +kernel
theorem dX12_much_21 : decode cX12_much 21 = .ok (.iload_n 1, 1) := by decide +kernel
theorem dX12_much_22 : decode cX12_much 22 = .ok (.iload_n 3, 1) := by decide +kernel
theorem dX12_much_23 : decode cX12_much 23 = .ok (.isub, 1) := by decide +kernel
theorem dX12_much_24 : decode cX12_much 24 = .ok (.invokevirtual 81, 3) := by decide +kernel
theorem dX12_much_27 : decode cX12_much 27 = .ok (.return_, 1) := by decide +kernel
theorem dX12_tellsHere_0 : decode cX12_tellsHere 0 = .ok (.aload_n 0, 1) := by decide +kernel
theorem dX12_tellsHere_1 : decode cX12_tellsHere 1 = .ok (.aload_n 2, 1) := by decide +kernel
theorem dX12_tellsHere_2 : decode cX12_tellsHere 2 = .ok (.invokevirtual 101, 3) := by decide +kernel
theorem dX12_tellsHere_5 : decode cX12_tellsHere 5 = .ok (.aload_n 0, 1) := by decide +kernel
theorem dX12_tellsHere_6 : decode cX12_tellsHere 6 = .ok (.invokevirtual 95, 3) := by decide +kernel
theorem dX12_tellsHere_9 : decode cX12_tellsHere 9 = .ok (.istore_n 3, 1) := by decide +kernel
theorem dX12_tellsHere_10 : decode cX12_tellsHere 10 = .ok (.aload_n 0, 1) := by decide +kernel
theorem dX12_tellsHere_11 : decode cX12_tellsHere 11 = .ok (.getfield 51, 3) := by decide +kernel
theorem dX12_tellsHere_14 : decode cX12_tellsHere 14 = .ok (.ifCond .ne 15, 3) := by decide +kernel
theorem dX12_tellsHere_17 : decode cX12_tellsHere 17 = .ok (.aload_n 0, 1) := by decide +kernel
theorem dX12_tellsHere_18 : decode cX12_tellsHere 18 = .ok (.getfield 9, 3) := by decide +kernel
theorem dX12_tellsHere_21 : decode cX12_tellsHere 21 = .ok (.iload_n 1, 1) := by decide +kernel
theorem dX12_tellsHere_22 : decode cX12_tellsHere 22 = .ok (.aload_n 0, 1) := by decide +kernel
theorem dX12_tellsHere_23 : decode cX12_tellsHere 23 = .ok (.getfield 72, 3) := by decide +kernel
theorem dX12_tellsHere_26 : decode cX12_tellsHere 26 = .ok (.iadd, 1) := by decide +kernel
theorem dX12_tellsHere_27 : decode cX12_tellsHere 27 = .ok (.iload_n 3, 1) := by decide +kernel
theorem dX12_tellsHere_28 : decode cX12_tellsHere 28 = .ok (.iastore, 1) := by decide +kernel
theorem dX12_tellsHere_29 : decode cX12_tellsHere 29 = .ok (.return_, 1) := by decide +kernel
theorem dX12_clauseHere_0 : decode cX12_clauseHere 0 = .ok (.aload_n 0, 1) := by decide +kernel
theorem dX12_clauseHere_1 : decode cX12_clauseHere 1 = .ok (.invokevirtual 55, 3) := by decide +kernel
theorem dX12_clauseHere_4 : decode cX12_clauseHere 4 = .ok (.lookupswitch 91 #[(109, 56), (114, 68), (115, 79), (119, 44)], 44) := by decide +kernel
theorem dX12_clauseHere_48 : decode cX12_clauseHere 48 = .ok (.aload_n 0, 1) := by decide +kernel
theorem dX12_clauseHere_49 : decode cX12_clauseHere 49 = .ok (.sipush 258, 3) := by decide +kernel
theorem dX12_clauseHere_52 : decode cX12_clauseHere 52 = .ok (.ldc 105, 2) := by decide +kernel
theorem dX12_clauseHere_54 : decode cX12_clauseHere 54 = .ok (.invokevirtual 107, 3) := by decide +kernel
theorem dX12_clauseHere_57 : decode cX12_clauseHere 57 = .ok (.goto 43, 3) := by decide +kernel
theorem dX12_clauseHere_60 : decode cX12_clauseHere 60 = .ok (.aload_n 0, 1) := by decide +kernel
theorem dX12_clauseHere_61 : decode cX12_clauseHere 61 = .ok (.sipush 263, 3) := by decide +kernel
theorem dX12_clauseHere_64 : decode cX12_clauseHere 64 = .ok (.ldc 111, 2) := by decide +kernel
theorem dX12_clauseHere_66 : decode cX12_clauseHere 66 = .ok (.invokevirtual 107, 3) := by decide +kernel
theorem dX12_clauseHere_69 : decode cX12_clauseHere 69 = .ok (.goto 31, 3) := by decide +kernel
theorem dX12_clauseHere_72 : decode cX12_clauseHere 72 = .ok (.aload_n 0, 1) := by decide +kernel
theorem dX12_clauseHere_73 : decode cX12_clauseHere 73 = .ok (.bipush (-10), 2) := by decide +kernel
theorem dX12_clauseHere_75 : decode cX12_clauseHere 75 = .ok (.ldc 113, 2) := by decide +kernel
theorem dX12_clauseHere_77 : decode cX12_clauseHere 77 = .ok (.invokevirtual 115, 3) := by decide +kernel
theorem dX12_clauseHere_80 : decode cX12_clauseHere 80 = .ok (.goto 20, 3) := by decide +kernel
theorem dX12_clauseHere_83 : decode cX12_clauseHere 83 = .ok (.aload_n 0, 1) := by decide +kernel
theorem dX12_clauseHere_84 : decode cX12_clauseHere 84 = .ok (.sipush (-200), 3) := by decide +kernel
theorem dX12_clauseHere_87 : decode cX12_clauseHere 87 = .ok (.ldc 118, 2) := by decide +kernel
theorem dX12_clauseHere_89 : decode cX12_clauseHere 89 = .ok (.invokevirtual 115, 3) := by decide +kernel
theorem dX12_clauseHere_92 : decode cX12_clauseHere 92 = .ok (.goto 8, 3) := by decide +kernel
theorem dX12_clauseHere_95 : decode cX12_clauseHere 95 = .ok (.aload_n 0, 1) := by decide +kernel
theorem dX12_clauseHere_96 : decode cX12_clauseHere 96 = .ok (.iconst 1, 1) := by decide +kernel
theorem dX12_clauseHere_97 : decode cX12_clauseHere 97 = .ok (.putfield 51, 3) := by decide +kernel
theorem dX12_clauseHere_100 : decode cX12_clauseHere 100 = .ok (.return_, 1) := by decide +kernel
theorem dX12_plate_0 : decode cX12_plate 0 = .ok (.aload_n 0, 1) := by decide +kernel
theorem dX12_plate_1 : decode cX12_plate 1 = .ok (.getfield 9, 3) := by decide +kernel
theorem dX12_plate_4 : decode cX12_plate 4 = .ok (.bipush 44, 2) := by decide +kernel
theorem dX12_plate_6 : decode cX12_plate 6 = .ok (.iaload, 1) := by decide +kernel
theorem dX12_plate_7 : decode cX12_plate 7 = .ok (.iconst 5, 1) := by decide +kernel
theorem dX12_plate_8 : decode cX12_plate 8 = .ok (.if_icmp .ne 6, 3) := by decide +kernel
theorem dX12_plate_11 : decode cX12_plate 11 = .ok (.bipush (-4), 2) := by decide +kernel
theorem dX12_plate_13 : decode cX12_plate 13 = .ok (.ireturn, 1) := by decide +kernel
theorem dX12_plate_14 : decode cX12_plate 14 = .ok (.aload_n 0, 1) := by decide +kernel
theorem dX12_plate_15 : decode cX12_plate 15 = .ok (.aload_n 0, 1) := by decide +kernel
theorem dX12_plate_16 : decode cX12_plate 16 = .ok (.getfield 9, 3) := by decide +kernel
theorem dX12_plate_19 : decode cX12_plate 19 = .ok (.bipush 44, 2) := by decide +kernel
theorem dX12_plate_21 : decode cX12_plate 21 = .ok (.iaload, 1) := by decide +kernel
theorem dX12_plate_22 : decode cX12_plate 22 = .ok (.putfield 72, 3) := by decide +kernel
theorem dX12_plate_25 : decode cX12_plate 25 = .ok (.aload_n 0, 1) := by decide +kernel
theorem dX12_plate_26 : decode cX12_plate 26 = .ok (.aload_n 0, 1) := by decide +kernel
theorem dX12_plate_27 : decode cX12_plate 27 = .ok (.getfield 9, 3) := by decide +kernel
theorem dX12_plate_30 : decode cX12_plate 30 = .ok (.bipush 48, 2) := by decide +kernel
theorem dX12_plate_32 : decode cX12_plate 32 = .ok (.iaload, 1) := by decide +kernel
theorem dX12_plate_33 : decode cX12_plate 33 = .ok (.putfield 48, 3) := by decide +kernel
theorem dX12_plate_36 : decode cX12_plate 36 = .ok (.aload_n 0, 1) := by decide +kernel
theorem dX12_plate_37 : decode cX12_plate 37 = .ok (.getfield 9, 3) := by decide +kernel
theorem dX12_plate_40 : decode cX12_plate 40 = .ok (.bipush 48, 2) := by decide +kernel
theorem dX12_plate_42 : decode cX12_plate 42 = .ok (.iconst 0, 1) := by decide +kernel
theorem dX12_plate_43 : decode cX12_plate 43 = .ok (.iastore, 1) := by decide +kernel
theorem dX12_plate_44 : decode cX12_plate 44 = .ok (.aload_n 0, 1) := by decide +kernel
theorem dX12_plate_45 : decode cX12_plate 45 = .ok (.getfield 9, 3) := by decide +kernel
theorem dX12_plate_48 : decode cX12_plate 48 = .ok (.sipush 258, 3) := by decide +kernel
theorem dX12_plate_51 : decode cX12_plate 51 = .ok (.aload_n 0, 1) := by decide +kernel
theorem dX12_plate_52 : decode cX12_plate 52 = .ok (.getfield 72, 3) := by decide +kernel
theorem dX12_plate_55 : decode cX12_plate 55 = .ok (.iadd, 1) := by decide +kernel
theorem dX12_plate_56 : decode cX12_plate 56 = .ok (.bipush 20, 2) := by decide +kernel
theorem dX12_plate_58 : decode cX12_plate 58 = .ok (.iastore, 1) := by decide +kernel
theorem dX12_plate_59 : decode cX12_plate 59 = .ok (.aload_n 0, 1) := by decide +kernel
theorem dX12_plate_60 : decode cX12_plate 60 = .ok (.getfield 9, 3) := by decide +kernel
theorem dX12_plate_63 : decode cX12_plate 63 = .ok (.sipush 263, 3) := by decide +kernel
theorem dX12_plate_66 : decode cX12_plate 66 = .ok (.aload_n 0, 1) := by decide +kernel
theorem dX12_plate_67 : decode cX12_plate 67 = .ok (.getfield 72, 3) := by decide +kernel
theorem dX12_plate_70 : decode cX12_plate 70 = .ok (.iadd, 1) := by decide +kernel
theorem dX12_plate_71 : decode cX12_plate 71 = .ok (.bipush 8, 2) := by decide +kernel
theorem dX12_plate_73 : decode cX12_plate 73 = .ok (.iastore, 1) := by decide +kernel
theorem dX12_plate_74 : decode cX12_plate 74 = .ok (.aload_n 0, 1) := by decide +kernel
theorem dX12_plate_75 : decode cX12_plate 75 = .ok (.getfield 9, 3) := by decide +kernel
theorem dX12_plate_78 : decode cX12_plate 78 = .ok (.sipush 268, 3) := by decide +kernel
theorem dX12_plate_81 : decode cX12_plate 81 = .ok (.aload_n 0, 1) := by decide +kernel
theorem dX12_plate_82 : decode cX12_plate 82 = .ok (.getfield 72, 3) := by decide +kernel
theorem dX12_plate_85 : decode cX12_plate 85 = .ok (.iadd, 1) := by decide +kernel
theorem dX12_plate_86 : decode cX12_plate 86 = .ok (.iconst 0, 1) := by decide +kernel
theorem dX12_plate_87 : decode cX12_plate 87 = .ok (.iastore, 1) := by decide +kernel
theorem dX12_plate_88 : decode cX12_plate 88 = .ok (.aload_n 0, 1) := by decide +kernel
theorem dX12_plate_89 : decode cX12_plate 89 = .ok (.iconst 0, 1) := by decide +kernel
theorem dX12_plate_90 : decode cX12_plate 90 = .ok (.putfield 45, 3) := by decide +kernel
theorem dX12_plate_93 : decode cX12_plate 93 = .ok (.aload_n 0, 1) := by decide +kernel
theorem dX12_plate_94 : decode cX12_plate 94 = .ok (.iconst 0, 1) := by decide +kernel
theorem dX12_plate_95 : decode cX12_plate 95 = .ok (.putfield 51, 3) := by decide +kernel
theorem dX12_plate_98 : decode cX12_plate 98 = .ok (.aload_n 0, 1) := by decide +kernel
theorem dX12_plate_99 : decode cX12_plate 99 = .ok (.iconst 0, 1) := by decide +kernel
theorem dX12_plate_100 : decode cX12_plate 100 = .ok (.putfield 75, 3) := by decide +kernel
theorem dX12_plate_103 : decode cX12_plate 103 = .ok (.iconst 1, 1) := by decide +kernel
theorem dX12_plate_104 : decode cX12_plate 104 = .ok (.istore_n 1, 1) := by decide +kernel
theorem dX12_plate_105 : decode cX12_plate 105 = .ok (.aload_n 0, 1) := by decide +kernel
theorem dX12_plate_106 : decode cX12_plate 106 = .ok (.invokevirtual 120, 3) := by decide +kernel
theorem dX12_plate_109 : decode cX12_plate 109 = .ok (.aload_n 0, 1) := by decide +kernel
theorem dX12_plate_110 : decode cX12_plate 110 = .ok (.getfield 51, 3) := by decide +kernel
theorem dX12_plate_113 : decode cX12_plate 113 = .ok (.ifCond .ne 38, 3) := by decide +kernel
theorem dX12_plate_116 : decode cX12_plate 116 = .ok (.iload_n 1, 1) := by decide +kernel
theorem dX12_plate_117 : decode cX12_plate 117 = .ok (.bipush 10, 2) := by decide +kernel
theorem dX12_plate_119 : decode cX12_plate 119 = .ok (.if_icmp .ge 32, 3) := by decide +kernel
theorem dX12_plate_122 : decode cX12_plate 122 = .ok (.aload_n 0, 1) := by decide +kernel
theorem dX12_plate_123 : decode cX12_plate 123 = .ok (.invokevirtual 55, 3) := by decide +kernel
theorem dX12_plate_126 : decode cX12_plate 126 = .ok (.bipush 59, 2) := by decide +kernel
theorem dX12_plate_128 : decode cX12_plate 128 = .ok (.if_icmp .ne 23, 3) := by decide +kernel
theorem dX12_plate_131 : decode cX12_plate 131 = .ok (.aload_n 0, 1) := by decide +kernel
theorem dX12_plate_132 : decode cX12_plate 132 = .ok (.dup, 1) := by decide +kernel
theorem dX12_plate_133 : decode cX12_plate 133 = .ok (.getfield 45, 3) := by decide +kernel
theorem dX12_plate_136 : decode cX12_plate 136 = .ok (.iconst 1, 1) := by decide +kernel
theorem dX12_plate_137 : decode cX12_plate 137 = .ok (.iadd, 1) := by decide +kernel
theorem dX12_plate_138 : decode cX12_plate 138 = .ok (.putfield 45, 3) := by decide +kernel
theorem dX12_plate_141 : decode cX12_plate 141 = .ok (.aload_n 0, 1) := by decide +kernel
theorem dX12_plate_142 : decode cX12_plate 142 = .ok (.invokevirtual 120, 3) := by decide +kernel
theorem dX12_plate_145 : decode cX12_plate 145 = .ok (.iinc 1 1, 3) := by decide +kernel
theorem dX12_plate_148 : decode cX12_plate 148 = .ok (.goto (-39), 3) := by decide +kernel
theorem dX12_plate_151 : decode cX12_plate 151 = .ok (.aload_n 0, 1) := by decide +kernel
theorem dX12_plate_152 : decode cX12_plate 152 = .ok (.getfield 51, 3) := by decide +kernel
theorem dX12_plate_155 : decode cX12_plate 155 = .ok (.ifCond .ne 14, 3) := by decide +kernel
theorem dX12_plate_158 : decode cX12_plate 158 = .ok (.aload_n 0, 1) := by decide +kernel
theorem dX12_plate_159 : decode cX12_plate 159 = .ok (.getfield 45, 3) := by decide +kernel
theorem dX12_plate_162 : decode cX12_plate 162 = .ok (.aload_n 0, 1) := by decide +kernel
theorem dX12_plate_163 : decode cX12_plate 163 = .ok (.getfield 48, 3) := by decide +kernel
theorem dX12_plate_166 : decode cX12_plate 166 = .ok (.if_icmp .eq 11, 3) := by decide +kernel
theorem dX12_plate_169 : decode cX12_plate 169 = .ok (.bipush (-10), 2) := by decide +kernel
theorem dX12_plate_171 : decode cX12_plate 171 = .ok (.aload_n 0, 1) := by decide +kernel
theorem dX12_plate_172 : decode cX12_plate 172 = .ok (.getfield 45, 3) := by decide +kernel
theorem dX12_plate_175 : decode cX12_plate 175 = .ok (.isub, 1) := by decide +kernel
theorem dX12_plate_176 : decode cX12_plate 176 = .ok (.ireturn, 1) := by decide +kernel
theorem dX12_plate_177 : decode cX12_plate 177 = .ok (.aload_n 0, 1) := by decide +kernel
theorem dX12_plate_178 : decode cX12_plate 178 = .ok (.getfield 9, 3) := by decide +kernel
theorem dX12_plate_181 : decode cX12_plate 181 = .ok (.bipush 44, 2) := by decide +kernel
theorem dX12_plate_183 : decode cX12_plate 183 = .ok (.dup2, 1) := by decide +kernel
theorem dX12_plate_184 : decode cX12_plate 184 = .ok (.iaload, 1) := by decide +kernel
theorem dX12_plate_185 : decode cX12_plate 185 = .ok (.iconst 1, 1) := by decide +kernel
theorem dX12_plate_186 : decode cX12_plate 186 = .ok (.iadd, 1) := by decide +kernel
theorem dX12_plate_187 : decode cX12_plate 187 = .ok (.iastore, 1) := by decide +kernel
theorem dX12_plate_188 : decode cX12_plate 188 = .ok (.aload_n 0, 1) := by decide +kernel
theorem dX12_plate_189 : decode cX12_plate 189 = .ok (.getfield 9, 3) := by decide +kernel
theorem dX12_plate_192 : decode cX12_plate 192 = .ok (.bipush 49, 2) := by decide +kernel
theorem dX12_plate_194 : decode cX12_plate 194 = .ok (.aload_n 0, 1) := by decide +kernel
theorem dX12_plate_195 : decode cX12_plate 195 = .ok (.getfield 72, 3) := by decide +kernel
theorem dX12_plate_198 : decode cX12_plate 198 = .ok (.iastore, 1) := by decide +kernel
theorem dX12_plate_199 : decode cX12_plate 199 = .ok (.aload_n 0, 1) := by decide +kernel
theorem dX12_plate_200 : decode cX12_plate 200 = .ok (.getfield 72, 3) := by decide +kernel
theorem dX12_plate_203 : decode cX12_plate 203 = .ok (.ireturn, 1) := by decide +kernel
theorem dX12_tellsOf_0 : decode cX12_tellsOf 0 = .ok (.aload_n 0, 1) := by decide +kernel
theorem dX12_tellsOf_1 : decode cX12_tellsOf 1 = .ok (.getfield 9, 3) := by decide +kernel
theorem dX12_tellsOf_4 : decode cX12_tellsOf 4 = .ok (.bipush 49, 2) := by decide +kernel
theorem dX12_tellsOf_6 : decode cX12_tellsOf 6 = .ok (.iaload, 1) := by decide +kernel
theorem dX12_tellsOf_7 : decode cX12_tellsOf 7 = .ok (.iconst (-1), 1) := by decide +kernel
theorem dX12_tellsOf_8 : decode cX12_tellsOf 8 = .ok (.if_icmp .ne 7, 3) := by decide +kernel
theorem dX12_tellsOf_11 : decode cX12_tellsOf 11 = .ok (.iload_n 2, 1) := by decide +kernel
theorem dX12_tellsOf_12 : decode cX12_tellsOf 12 = .ok (.goto 17, 3) := by decide +kernel
theorem dX12_tellsOf_15 : decode cX12_tellsOf 15 = .ok (.aload_n 0, 1) := by decide +kernel
theorem dX12_tellsOf_16 : decode cX12_tellsOf 16 = .ok (.getfield 9, 3) := by decide +kernel
theorem dX12_tellsOf_19 : decode cX12_tellsOf 19 = .ok (.iload_n 1, 1) := by decide +kernel
theorem dX12_tellsOf_20 : decode cX12_tellsOf 20 = .ok (.aload_n 0, 1) := by decide +kernel
theorem dX12_tellsOf_21 : decode cX12_tellsOf 21 = .ok (.getfield 9, 3) := by decide +kernel
theorem dX12_tellsOf_24 : decode cX12_tellsOf 24 = .ok (.bipush 49, 2) := by decide +kernel
theorem dX12_tellsOf_26 : decode cX12_tellsOf 26 = .ok (.iaload, 1) := by decide +kernel
theorem dX12_tellsOf_27 : decode cX12_tellsOf 27 = .ok (.iadd, 1) := by decide +kernel
theorem dX12_tellsOf_28 : decode cX12_tellsOf 28 = .ok (.iaload, 1) := by decide +kernel
theorem dX12_tellsOf_29 : decode cX12_tellsOf 29 = .ok (.ireturn, 1) := by decide +kernel
theorem dX12_wearNow_0 : decode cX12_wearNow 0 = .ok (.aload_n 0, 1) := by decide +kernel
theorem dX12_wearNow_1 : decode cX12_wearNow 1 = .ok (.sipush 258, 3) := by decide +kernel
theorem dX12_wearNow_4 : decode cX12_wearNow 4 = .ok (.bipush 20, 2) := by decide +kernel
theorem dX12_wearNow_6 : decode cX12_wearNow 6 = .ok (.invokevirtual 123, 3) := by decide +kernel
theorem dX12_wearNow_9 : decode cX12_wearNow 9 = .ok (.istore_n 1, 1) := by decide +kernel
theorem dX12_wearNow_10 : decode cX12_wearNow 10 = .ok (.iload_n 1, 1) := by decide +kernel
theorem dX12_wearNow_11 : decode cX12_wearNow 11 = .ok (.iconst 1, 1) := by decide +kernel
theorem dX12_wearNow_12 : decode cX12_wearNow 12 = .ok (.if_icmp .ge 7, 3) := by decide +kernel
theorem dX12_wearNow_15 : decode cX12_wearNow 15 = .ok (.iconst 1, 1) := by decide +kernel
theorem dX12_wearNow_16 : decode cX12_wearNow 16 = .ok (.goto 4, 3) := by decide +kernel
theorem dX12_wearNow_19 : decode cX12_wearNow 19 = .ok (.iload_n 1, 1) := by decide +kernel
theorem dX12_wearNow_20 : decode cX12_wearNow 20 = .ok (.ireturn, 1) := by decide +kernel
theorem dX12_mendNow_0 : decode cX12_mendNow 0 = .ok (.aload_n 0, 1) := by decide +kernel
theorem dX12_mendNow_1 : decode cX12_mendNow 1 = .ok (.sipush 263, 3) := by decide +kernel
theorem dX12_mendNow_4 : decode cX12_mendNow 4 = .ok (.bipush 8, 2) := by decide +kernel
theorem dX12_mendNow_6 : decode cX12_mendNow 6 = .ok (.invokevirtual 123, 3) := by decide +kernel
theorem dX12_mendNow_9 : decode cX12_mendNow 9 = .ok (.ireturn, 1) := by decide +kernel
theorem dX12_looks_0 : decode cX12_looks 0 = .ok (.aload_n 0, 1) := by decide +kernel
theorem dX12_looks_1 : decode cX12_looks 1 = .ok (.getfield 21, 3) := by decide +kernel
theorem dX12_looks_4 : decode cX12_looks 4 = .ok (.iconst 0, 1) := by decide +kernel
theorem dX12_looks_5 : decode cX12_looks 5 = .ok (.iload_n 1, 1) := by decide +kernel
theorem dX12_looks_6 : decode cX12_looks 6 = .ok (.iastore, 1) := by decide +kernel
theorem dX12_looks_7 : decode cX12_looks 7 = .ok (.aload_n 0, 1) := by decide +kernel
theorem dX12_looks_8 : decode cX12_looks 8 = .ok (.getfield 21, 3) := by decide +kernel
theorem dX12_looks_11 : decode cX12_looks 11 = .ok (.iconst 1, 1) := by decide +kernel
theorem dX12_looks_12 : decode cX12_looks 12 = .ok (.aload_n 0, 1) := by decide +kernel
theorem dX12_looks_13 : decode cX12_looks 13 = .ok (.getfield 9, 3) := by decide +kernel
theorem dX12_looks_16 : decode cX12_looks 16 = .ok (.bipush 50, 2) := by decide +kernel
theorem dX12_looks_18 : decode cX12_looks 18 = .ok (.iload_n 1, 1) := by decide +kernel
theorem dX12_looks_19 : decode cX12_looks 19 = .ok (.iadd, 1) := by decide +kernel
theorem dX12_looks_20 : decode cX12_looks 20 = .ok (.iaload, 1) := by decide +kernel
theorem dX12_looks_21 : decode cX12_looks 21 = .ok (.iastore, 1) := by decide +kernel
theorem dX12_looks_22 : decode cX12_looks 22 = .ok (.aload_n 0, 1) := by decide +kernel
theorem dX12_looks_23 : decode cX12_looks 23 = .ok (.getfield 21, 3) := by decide +kernel
theorem dX12_looks_26 : decode cX12_looks 26 = .ok (.iconst 2, 1) := by decide +kernel
theorem dX12_looks_27 : decode cX12_looks 27 = .ok (.aload_n 0, 1) := by decide +kernel
theorem dX12_looks_28 : decode cX12_looks 28 = .ok (.getfield 9, 3) := by decide +kernel
theorem dX12_looks_31 : decode cX12_looks 31 = .ok (.iconst 3, 1) := by decide +kernel
theorem dX12_looks_32 : decode cX12_looks 32 = .ok (.iload_n 1, 1) := by decide +kernel
theorem dX12_looks_33 : decode cX12_looks 33 = .ok (.iadd, 1) := by decide +kernel
theorem dX12_looks_34 : decode cX12_looks 34 = .ok (.iaload, 1) := by decide +kernel
theorem dX12_looks_35 : decode cX12_looks 35 = .ok (.iastore, 1) := by decide +kernel
theorem dX12_looks_36 : decode cX12_looks 36 = .ok (.aload_n 0, 1) := by decide +kernel
theorem dX12_looks_37 : decode cX12_looks 37 = .ok (.getfield 21, 3) := by decide +kernel
theorem dX12_looks_40 : decode cX12_looks 40 = .ok (.iconst 3, 1) := by decide +kernel
theorem dX12_looks_41 : decode cX12_looks 41 = .ok (.aload_n 0, 1) := by decide +kernel
theorem dX12_looks_42 : decode cX12_looks 42 = .ok (.getfield 9, 3) := by decide +kernel
theorem dX12_looks_45 : decode cX12_looks 45 = .ok (.bipush 66, 2) := by decide +kernel
theorem dX12_looks_47 : decode cX12_looks 47 = .ok (.iload_n 1, 1) := by decide +kernel
theorem dX12_looks_48 : decode cX12_looks 48 = .ok (.iadd, 1) := by decide +kernel
theorem dX12_looks_49 : decode cX12_looks 49 = .ok (.iaload, 1) := by decide +kernel
theorem dX12_looks_50 : decode cX12_looks 50 = .ok (.bipush 10, 2) := by decide +kernel
theorem dX12_looks_52 : decode cX12_looks 52 = .ok (.idiv, 1) := by decide +kernel
theorem dX12_looks_53 : decode cX12_looks 53 = .ok (.iastore, 1) := by decide +kernel
theorem dX12_looks_54 : decode cX12_looks 54 = .ok (.aload_n 0, 1) := by decide +kernel
theorem dX12_looks_55 : decode cX12_looks 55 = .ok (.getfield 21, 3) := by decide +kernel
theorem dX12_looks_58 : decode cX12_looks 58 = .ok (.iconst 4, 1) := by decide +kernel
theorem dX12_looks_59 : decode cX12_looks 59 = .ok (.iload_n 2, 1) := by decide +kernel
theorem dX12_looks_60 : decode cX12_looks 60 = .ok (.bipush 10, 2) := by decide +kernel
theorem dX12_looks_62 : decode cX12_looks 62 = .ok (.idiv, 1) := by decide +kernel
theorem dX12_looks_63 : decode cX12_looks 63 = .ok (.iastore, 1) := by decide +kernel
theorem dX12_looks_64 : decode cX12_looks 64 = .ok (.aload_n 0, 1) := by decide +kernel
theorem dX12_looks_65 : decode cX12_looks 65 = .ok (.getfield 21, 3) := by decide +kernel
theorem dX12_looks_68 : decode cX12_looks 68 = .ok (.iconst 5, 1) := by decide +kernel
theorem dX12_looks_69 : decode cX12_looks 69 = .ok (.aload_n 0, 1) := by decide +kernel
theorem dX12_looks_70 : decode cX12_looks 70 = .ok (.getfield 9, 3) := by decide +kernel
theorem dX12_looks_73 : decode cX12_looks 73 = .ok (.bipush 58, 2) := by decide +kernel
theorem dX12_looks_75 : decode cX12_looks 75 = .ok (.iload_n 1, 1) := by decide +kernel
theorem dX12_looks_76 : decode cX12_looks 76 = .ok (.iadd, 1) := by decide +kernel
theorem dX12_looks_77 : decode cX12_looks 77 = .ok (.iaload, 1) := by decide +kernel
theorem dX12_looks_78 : decode cX12_looks 78 = .ok (.iastore, 1) := by decide +kernel
theorem dX12_looks_79 : decode cX12_looks 79 = .ok (.iconst 0, 1) := by decide +kernel
theorem dX12_looks_80 : decode cX12_looks 80 = .ok (.istore_n 3, 1) := by decide +kernel
theorem dX12_looks_81 : decode cX12_looks 81 = .ok (.aload_n 0, 1) := by decide +kernel
theorem dX12_looks_82 : decode cX12_looks 82 = .ok (.sipush 268, 3) := by decide +kernel
theorem dX12_looks_85 : decode cX12_looks 85 = .ok (.iconst 0, 1) := by decide +kernel
theorem dX12_looks_86 : decode cX12_looks 86 = .ok (.invokevirtual 123, 3) := by decide +kernel
theorem dX12_looks_89 : decode cX12_looks 89 = .ok (.istore 4, 2) := by decide +kernel
theorem dX12_looks_91 : decode cX12_looks 91 = .ok (.sipush 273, 3) := by decide +kernel
theorem dX12_looks_94 : decode cX12_looks 94 = .ok (.sipush 140, 3) := by decide +kernel
theorem dX12_looks_97 : decode cX12_looks 97 = .ok (.aload_n 0, 1) := by decide +kernel
theorem dX12_looks_98 : decode cX12_looks 98 = .ok (.getfield 9, 3) := by decide +kernel
theorem dX12_looks_101 : decode cX12_looks 101 = .ok (.bipush 49, 2) := by decide +kernel
theorem dX12_looks_103 : decode cX12_looks 103 = .ok (.iaload, 1) := by decide +kernel
theorem dX12_looks_104 : decode cX12_looks 104 = .ok (.imul, 1) := by decide +kernel
theorem dX12_looks_105 : decode cX12_looks 105 = .ok (.iadd, 1) := by decide +kernel
theorem dX12_looks_106 : decode cX12_looks 106 = .ok (.istore 5, 2) := by decide +kernel
theorem dX12_looks_108 : decode cX12_looks 108 = .ok (.iconst 0, 1) := by decide +kernel
theorem dX12_looks_109 : decode cX12_looks 109 = .ok (.istore 6, 2) := by decide +kernel
theorem dX12_looks_111 : decode cX12_looks 111 = .ok (.iload 5, 2) := by decide +kernel
theorem dX12_looks_113 : decode cX12_looks 113 = .ok (.istore 7, 2) := by decide +kernel
theorem dX12_looks_115 : decode cX12_looks 115 = .ok (.iload 7, 2) := by decide +kernel
theorem dX12_looks_117 : decode cX12_looks 117 = .ok (.iload 5, 2) := by decide +kernel
theorem dX12_looks_119 : decode cX12_looks 119 = .ok (.iload 4, 2) := by decide +kernel
theorem dX12_looks_121 : decode cX12_looks 121 = .ok (.iadd, 1) := by decide +kernel
theorem dX12_looks_122 : decode cX12_looks 122 = .ok (.if_icmp .ge 300, 3) := by decide +kernel
theorem dX12_looks_125 : decode cX12_looks 125 = .ok (.aload_n 0, 1) := by decide +kernel
theorem dX12_looks_126 : decode cX12_looks 126 = .ok (.getfield 9, 3) := by decide +kernel
theorem dX12_looks_129 : decode cX12_looks 129 = .ok (.iload 7, 2) := by decide +kernel
theorem dX12_looks_131 : decode cX12_looks 131 = .ok (.iaload, 1) := by decide +kernel
theorem dX12_looks_132 : decode cX12_looks 132 = .ok (.istore 8, 2) := by decide +kernel
theorem dX12_looks_134 : decode cX12_looks 134 = .ok (.iload 8, 2) := by decide +kernel
theorem dX12_looks_136 : decode cX12_looks 136 = .ok (.ifCond .lt 97, 3) := by decide +kernel
theorem dX12_looks_139 : decode cX12_looks 139 = .ok (.aload_n 0, 1) := by decide +kernel
theorem dX12_looks_140 : decode cX12_looks 140 = .ok (.getfield 21, 3) := by decide +kernel
theorem dX12_looks_143 : decode cX12_looks 143 = .ok (.iload 8, 2) := by decide +kernel
theorem dX12_looks_145 : decode cX12_looks 145 = .ok (.bipush 8, 2) := by decide +kernel
theorem dX12_looks_147 : decode cX12_looks 147 = .ok (.irem, 1) := by decide +kernel
theorem dX12_looks_148 : decode cX12_looks 148 = .ok (.iaload, 1) := by decide +kernel
theorem dX12_looks_149 : decode cX12_looks 149 = .ok (.istore 9, 2) := by decide +kernel
theorem dX12_looks_151 : decode cX12_looks 151 = .ok (.iload 8, 2) := by decide +kernel
theorem dX12_looks_153 : decode cX12_looks 153 = .ok (.bipush 8, 2) := by decide +kernel
theorem dX12_looks_155 : decode cX12_looks 155 = .ok (.idiv, 1) := by decide +kernel
theorem dX12_looks_156 : decode cX12_looks 156 = .ok (.iconst 4, 1) := by decide +kernel
theorem dX12_looks_157 : decode cX12_looks 157 = .ok (.irem, 1) := by decide +kernel
theorem dX12_looks_158 : decode cX12_looks 158 = .ok (.istore 10, 2) := by decide +kernel
theorem dX12_looks_160 : decode cX12_looks 160 = .ok (.iload 8, 2) := by decide +kernel
theorem dX12_looks_162 : decode cX12_looks 162 = .ok (.bipush 32, 2) := by decide +kernel
theorem dX12_looks_164 : decode cX12_looks 164 = .ok (.idiv, 1) := by decide +kernel
theorem dX12_looks_165 : decode cX12_looks 165 = .ok (.istore 11, 2) := by decide +kernel
theorem dX12_looks_167 : decode cX12_looks 167 = .ok (.aload_n 0, 1) := by decide +kernel
theorem dX12_looks_168 : decode cX12_looks 168 = .ok (.getfield 24, 3) := by decide +kernel
theorem dX12_looks_171 : decode cX12_looks 171 = .ok (.iload 6, 2) := by decide +kernel
theorem dX12_looks_173 : decode cX12_looks 173 = .ok (.iload 10, 2) := by decide +kernel
theorem dX12_looks_175 : decode cX12_looks 175 = .ok (.ifCond .ne 18, 3) := by decide +kernel
theorem dX12_looks_178 : decode cX12_looks 178 = .ok (.iload 9, 2) := by decide +kernel
theorem dX12_looks_180 : decode cX12_looks 180 = .ok (.iload 11, 2) := by decide +kernel
theorem dX12_looks_182 : decode cX12_looks 182 = .ok (.if_icmp .ge 7, 3) := by decide +kernel
theorem dX12_looks_185 : decode cX12_looks 185 = .ok (.iconst 1, 1) := by decide +kernel
theorem dX12_looks_186 : decode cX12_looks 186 = .ok (.goto 40, 3) := by decide +kernel
theorem dX12_looks_189 : decode cX12_looks 189 = .ok (.iconst 0, 1) := by decide +kernel
theorem dX12_looks_190 : decode cX12_looks 190 = .ok (.goto 36, 3) := by decide +kernel
theorem dX12_looks_193 : decode cX12_looks 193 = .ok (.iload 10, 2) := by decide +kernel
theorem dX12_looks_195 : decode cX12_looks 195 = .ok (.iconst 1, 1) := by decide +kernel
theorem dX12_looks_196 : decode cX12_looks 196 = .ok (.if_icmp .ne 18, 3) := by decide +kernel
theorem dX12_looks_199 : decode cX12_looks 199 = .ok (.iload 9, 2) := by decide +kernel
theorem dX12_looks_201 : decode cX12_looks 201 = .ok (.iload 11, 2) := by decide +kernel
theorem dX12_looks_203 : decode cX12_looks 203 = .ok (.if_icmp .ne 7, 3) := by decide +kernel
theorem dX12_looks_206 : decode cX12_looks 206 = .ok (.iconst 1, 1) := by decide +kernel
theorem dX12_looks_207 : decode cX12_looks 207 = .ok (.goto 19, 3) := by decide +kernel
theorem dX12_looks_210 : decode cX12_looks 210 = .ok (.iconst 0, 1) := by decide +kernel
theorem dX12_looks_211 : decode cX12_looks 211 = .ok (.goto 15, 3) := by decide +kernel
theorem dX12_looks_214 : decode cX12_looks 214 = .ok (.iload 9, 2) := by decide +kernel
theorem dX12_looks_216 : decode cX12_looks 216 = .ok (.iload 11, 2) := by decide +kernel
theorem dX12_looks_218 : decode cX12_looks 218 = .ok (.if_icmp .le 7, 3) := by decide +kernel
theorem dX12_looks_221 : decode cX12_looks 221 = .ok (.iconst 1, 1) := by decide +kernel
theorem dX12_looks_222 : decode cX12_looks 222 = .ok (.goto 4, 3) := by decide +kernel
theorem dX12_looks_225 : decode cX12_looks 225 = .ok (.iconst 0, 1) := by decide +kernel
theorem dX12_looks_226 : decode cX12_looks 226 = .ok (.bastore, 1) := by decide +kernel
theorem dX12_looks_227 : decode cX12_looks 227 = .ok (.iinc 6 1, 3) := by decide +kernel
theorem dX12_looks_230 : decode cX12_looks 230 = .ok (.goto 186, 3) := by decide +kernel
theorem dX12_looks_233 : decode cX12_looks 233 = .ok (.iload 8, 2) := by decide +kernel
theorem dX12_looks_235 : decode cX12_looks 235 = .ok (.iconst (-1), 1) := by decide +kernel
theorem dX12_looks_236 : decode cX12_looks 236 = .ok (.if_icmp .ne 32, 3) := by decide +kernel
theorem dX12_looks_239 : decode cX12_looks 239 = .ok (.aload_n 0, 1) := by decide +kernel
theorem dX12_looks_240 : decode cX12_looks 240 = .ok (.getfield 24, 3) := by decide +kernel
theorem dX12_looks_243 : decode cX12_looks 243 = .ok (.iload 6, 2) := by decide +kernel
theorem dX12_looks_245 : decode cX12_looks 245 = .ok (.iconst 1, 1) := by decide +kernel
theorem dX12_looks_246 : decode cX12_looks 246 = .ok (.isub, 1) := by decide +kernel
theorem dX12_looks_247 : decode cX12_looks 247 = .ok (.aload_n 0, 1) := by decide +kernel
theorem dX12_looks_248 : decode cX12_looks 248 = .ok (.getfield 24, 3) := by decide +kernel
theorem dX12_looks_251 : decode cX12_looks 251 = .ok (.iload 6, 2) := by decide +kernel
theorem dX12_looks_253 : decode cX12_looks 253 = .ok (.iconst 1, 1) := by decide +kernel
theorem dX12_looks_254 : decode cX12_looks 254 = .ok (.isub, 1) := by decide +kernel
theorem dX12_looks_255 : decode cX12_looks 255 = .ok (.baload, 1) := by decide +kernel
theorem dX12_looks_256 : decode cX12_looks 256 = .ok (.ifCond .ne 7, 3) := by decide +kernel
theorem dX12_looks_259 : decode cX12_looks 259 = .ok (.iconst 1, 1) := by decide +kernel
theorem dX12_looks_260 : decode cX12_looks 260 = .ok (.goto 4, 3) := by decide +kernel
theorem dX12_looks_263 : decode cX12_looks 263 = .ok (.iconst 0, 1) := by decide +kernel
theorem dX12_looks_264 : decode cX12_looks 264 = .ok (.bastore, 1) := by decide +kernel
theorem dX12_looks_265 : decode cX12_looks 265 = .ok (.goto 151, 3) := by decide +kernel
theorem dX12_looks_268 : decode cX12_looks 268 = .ok (.iload 8, 2) := by decide +kernel
theorem dX12_looks_270 : decode cX12_looks 270 = .ok (.bipush (-10), 2) := by decide +kernel
theorem dX12_looks_272 : decode cX12_looks 272 = .ok (.if_icmp .le 82, 3) := by decide +kernel
theorem dX12_looks_275 : decode cX12_looks 275 = .ok (.iinc 6 (-1), 3) := by decide +kernel
theorem dX12_looks_278 : decode cX12_looks 278 = .ok (.aload_n 0, 1) := by decide +kernel
theorem dX12_looks_279 : decode cX12_looks 279 = .ok (.getfield 24, 3) := by decide +kernel
theorem dX12_looks_282 : decode cX12_looks 282 = .ok (.iload 6, 2) := by decide +kernel
theorem dX12_looks_284 : decode cX12_looks 284 = .ok (.iconst 1, 1) := by decide +kernel
theorem dX12_looks_285 : decode cX12_looks 285 = .ok (.isub, 1) := by decide +kernel
theorem dX12_looks_286 : decode cX12_looks 286 = .ok (.iload 8, 2) := by decide +kernel
theorem dX12_looks_288 : decode cX12_looks 288 = .ok (.bipush (-2), 2) := by decide +kernel
theorem dX12_looks_290 : decode cX12_looks 290 = .ok (.if_icmp .ne 33, 3) := by decide +kernel
theorem dX12_looks_293 : decode cX12_looks 293 = .ok (.aload_n 0, 1) := by decide +kernel
theorem dX12_looks_294 : decode cX12_looks 294 = .ok (.getfield 24, 3) := by decide +kernel
theorem dX12_looks_297 : decode cX12_looks 297 = .ok (.iload 6, 2) := by decide +kernel
theorem dX12_looks_299 : decode cX12_looks 299 = .ok (.iconst 1, 1) := by decide +kernel
theorem dX12_looks_300 : decode cX12_looks 300 = .ok (.isub, 1) := by decide +kernel
theorem dX12_looks_301 : decode cX12_looks 301 = .ok (.baload, 1) := by decide +kernel
theorem dX12_looks_302 : decode cX12_looks 302 = .ok (.ifCond .eq 17, 3) := by decide +kernel
theorem dX12_looks_305 : decode cX12_looks 305 = .ok (.aload_n 0, 1) := by decide +kernel
theorem dX12_looks_306 : decode cX12_looks 306 = .ok (.getfield 24, 3) := by decide +kernel
theorem dX12_looks_309 : decode cX12_looks 309 = .ok (.iload 6, 2) := by decide +kernel
theorem dX12_looks_311 : decode cX12_looks 311 = .ok (.baload, 1) := by decide +kernel
theorem dX12_looks_312 : decode cX12_looks 312 = .ok (.ifCond .eq 7, 3) := by decide +kernel
theorem dX12_looks_315 : decode cX12_looks 315 = .ok (.iconst 1, 1) := by decide +kernel
theorem dX12_looks_316 : decode cX12_looks 316 = .ok (.goto 34, 3) := by decide +kernel
theorem dX12_looks_319 : decode cX12_looks 319 = .ok (.iconst 0, 1) := by decide +kernel
theorem dX12_looks_320 : decode cX12_looks 320 = .ok (.goto 30, 3) := by decide +kernel
theorem dX12_looks_323 : decode cX12_looks 323 = .ok (.aload_n 0, 1) := by decide +kernel
theorem dX12_looks_324 : decode cX12_looks 324 = .ok (.getfield 24, 3) := by decide +kernel
theorem dX12_looks_327 : decode cX12_looks 327 = .ok (.iload 6, 2) := by decide +kernel
theorem dX12_looks_329 : decode cX12_looks 329 = .ok (.iconst 1, 1) := by decide +kernel
theorem dX12_looks_330 : decode cX12_looks 330 = .ok (.isub, 1) := by decide +kernel
theorem dX12_looks_331 : decode cX12_looks 331 = .ok (.baload, 1) := by decide +kernel
theorem dX12_looks_332 : decode cX12_looks 332 = .ok (.ifCond .ne 13, 3) := by decide +kernel
theorem dX12_looks_335 : decode cX12_looks 335 = .ok (.aload_n 0, 1) := by decide +kernel
theorem dX12_looks_336 : decode cX12_looks 336 = .ok (.getfield 24, 3) := by decide +kernel
theorem dX12_looks_339 : decode cX12_looks 339 = .ok (.iload 6, 2) := by decide +kernel
theorem dX12_looks_341 : decode cX12_looks 341 = .ok (.baload, 1) := by decide +kernel
theorem dX12_looks_342 : decode cX12_looks 342 = .ok (.ifCond .eq 7, 3) := by decide +kernel
theorem dX12_looks_345 : decode cX12_looks 345 = .ok (.iconst 1, 1) := by decide +kernel
theorem dX12_looks_346 : decode cX12_looks 346 = .ok (.goto 4, 3) := by decide +kernel
theorem dX12_looks_349 : decode cX12_looks 349 = .ok (.iconst 0, 1) := by decide +kernel
theorem dX12_looks_350 : decode cX12_looks 350 = .ok (.bastore, 1) := by decide +kernel
theorem dX12_looks_351 : decode cX12_looks 351 = .ok (.goto 65, 3) := by decide +kernel
theorem dX12_looks_354 : decode cX12_looks 354 = .ok (.iconst 0, 1) := by decide +kernel
theorem dX12_looks_355 : decode cX12_looks 355 = .ok (.istore 6, 2) := by decide +kernel
theorem dX12_looks_357 : decode cX12_looks 357 = .ok (.aload_n 0, 1) := by decide +kernel
theorem dX12_looks_358 : decode cX12_looks 358 = .ok (.getfield 24, 3) := by decide +kernel
theorem dX12_looks_361 : decode cX12_looks 361 = .ok (.iconst 0, 1) := by decide +kernel
theorem dX12_looks_362 : decode cX12_looks 362 = .ok (.baload, 1) := by decide +kernel
theorem dX12_looks_363 : decode cX12_looks 363 = .ok (.istore 9, 2) := by decide +kernel
theorem dX12_looks_365 : decode cX12_looks 365 = .ok (.iload_n 3, 1) := by decide +kernel
theorem dX12_looks_366 : decode cX12_looks 366 = .ok (.iload 9, 2) := by decide +kernel
theorem dX12_looks_368 : decode cX12_looks 368 = .ok (.ifCond .eq 19, 3) := by decide +kernel
theorem dX12_looks_371 : decode cX12_looks 371 = .ok (.iload 8, 2) := by decide +kernel
theorem dX12_looks_373 : decode cX12_looks 373 = .ok (.sipush (-200), 3) := by decide +kernel
theorem dX12_looks_376 : decode cX12_looks 376 = .ok (.if_icmp .le 11, 3) := by decide +kernel
theorem dX12_looks_379 : decode cX12_looks 379 = .ok (.bipush (-10), 2) := by decide +kernel
theorem dX12_looks_381 : decode cX12_looks 381 = .ok (.iload 8, 2) := by decide +kernel
theorem dX12_looks_383 : decode cX12_looks 383 = .ok (.isub, 1) := by decide +kernel
theorem dX12_looks_384 : decode cX12_looks 384 = .ok (.goto 4, 3) := by decide +kernel
theorem dX12_looks_387 : decode cX12_looks 387 = .ok (.iconst 0, 1) := by decide +kernel
theorem dX12_looks_388 : decode cX12_looks 388 = .ok (.iadd, 1) := by decide +kernel
theorem dX12_looks_389 : decode cX12_looks 389 = .ok (.istore_n 3, 1) := by decide +kernel
theorem dX12_looks_390 : decode cX12_looks 390 = .ok (.iload_n 3, 1) := by decide +kernel
theorem dX12_looks_391 : decode cX12_looks 391 = .ok (.iload 9, 2) := by decide +kernel
theorem dX12_looks_393 : decode cX12_looks 393 = .ok (.ifCond .eq 20, 3) := by decide +kernel
theorem dX12_looks_396 : decode cX12_looks 396 = .ok (.iload 8, 2) := by decide +kernel
theorem dX12_looks_398 : decode cX12_looks 398 = .ok (.sipush (-200), 3) := by decide +kernel
theorem dX12_looks_401 : decode cX12_looks 401 = .ok (.if_icmp .gt 12, 3) := by decide +kernel
theorem dX12_looks_404 : decode cX12_looks 404 = .ok (.sipush (-200), 3) := by decide +kernel
theorem dX12_looks_407 : decode cX12_looks 407 = .ok (.iload 8, 2) := by decide +kernel
theorem dX12_looks_409 : decode cX12_looks 409 = .ok (.isub, 1) := by decide +kernel
theorem dX12_looks_410 : decode cX12_looks 410 = .ok (.goto 4, 3) := by decide +kernel
theorem dX12_looks_413 : decode cX12_looks 413 = .ok (.iconst 0, 1) := by decide +kernel
theorem dX12_looks_414 : decode cX12_looks 414 = .ok (.isub, 1) := by decide +kernel
theorem dX12_looks_415 : decode cX12_looks 415 = .ok (.istore_n 3, 1) := by decide +kernel
theorem dX12_looks_416 : decode cX12_looks 416 = .ok (.iinc 7 1, 3) := by decide +kernel
theorem dX12_looks_419 : decode cX12_looks 419 = .ok (.goto (-304), 3) := by decide +kernel
theorem dX12_looks_422 : decode cX12_looks 422 = .ok (.iload_n 3, 1) := by decide +kernel
theorem dX12_looks_423 : decode cX12_looks 423 = .ok (.ireturn, 1) := by decide +kernel
theorem dX12_riskBy_0 : decode cX12_riskBy 0 = .ok (.aload_n 0, 1) := by decide +kernel
theorem dX12_riskBy_1 : decode cX12_riskBy 1 = .ok (.iload_n 1, 1) := by decide +kernel
theorem dX12_riskBy_2 : decode cX12_riskBy 2 = .ok (.iload_n 2, 1) := by decide +kernel
theorem dX12_riskBy_3 : decode cX12_riskBy 3 = .ok (.invokevirtual 127, 3) := by decide +kernel
theorem dX12_riskBy_6 : decode cX12_riskBy 6 = .ok (.iload_n 2, 1) := by decide +kernel
theorem dX12_riskBy_7 : decode cX12_riskBy 7 = .ok (.iconst 5, 1) := by decide +kernel
theorem dX12_riskBy_8 : decode cX12_riskBy 8 = .ok (.idiv, 1) := by decide +kernel
theorem dX12_riskBy_9 : decode cX12_riskBy 9 = .ok (.iadd, 1) := by decide +kernel
theorem dX12_riskBy_10 : decode cX12_riskBy 10 = .ok (.iconst 0, 1) := by decide +kernel
theorem dX12_riskBy_11 : decode cX12_riskBy 11 = .ok (.bipush 99, 2) := by decide +kernel
theorem dX12_riskBy_13 : decode cX12_riskBy 13 = .ok (.invokestatic 130, 3) := by decide +kernel
theorem dX12_riskBy_16 : decode cX12_riskBy 16 = .ok (.ireturn, 1) := by decide +kernel
theorem dX12_riskOf_0 : decode cX12_riskOf 0 = .ok (.aload_n 0, 1) := by decide +kernel
theorem dX12_riskOf_1 : decode cX12_riskOf 1 = .ok (.iload_n 1, 1) := by decide +kernel
theorem dX12_riskOf_2 : decode cX12_riskOf 2 = .ok (.aload_n 0, 1) := by decide +kernel
theorem dX12_riskOf_3 : decode cX12_riskOf 3 = .ok (.getfield 9, 3) := by decide +kernel
theorem dX12_riskOf_6 : decode cX12_riskOf 6 = .ok (.iconst 2, 1) := by decide +kernel
theorem dX12_riskOf_7 : decode cX12_riskOf 7 = .ok (.iaload, 1) := by decide +kernel
theorem dX12_riskOf_8 : decode cX12_riskOf 8 = .ok (.invokevirtual 134, 3) := by decide +kernel
theorem dX12_riskOf_11 : decode cX12_riskOf 11 = .ok (.ireturn, 1) := by decide +kernel
theorem dX12_needsOf_0 : decode cX12_needsOf 0 = .ok (.aload_n 0, 1) := by decide +kernel
theorem dX12_needsOf_1 : decode cX12_needsOf 1 = .ok (.getfield 9, 3) := by decide +kernel
theorem dX12_needsOf_4 : decode cX12_needsOf 4 = .ok (.iconst 3, 1) := by decide +kernel
theorem dX12_needsOf_5 : decode cX12_needsOf 5 = .ok (.iload_n 1, 1) := by decide +kernel
theorem dX12_needsOf_6 : decode cX12_needsOf 6 = .ok (.iadd, 1) := by decide +kernel
theorem dX12_needsOf_7 : decode cX12_needsOf 7 = .ok (.iaload, 1) := by decide +kernel
theorem dX12_needsOf_8 : decode cX12_needsOf 8 = .ok (.istore_n 2, 1) := by decide +kernel
theorem dX12_needsOf_9 : decode cX12_needsOf 9 = .ok (.aload_n 0, 1) := by decide +kernel
theorem dX12_needsOf_10 : decode cX12_needsOf 10 = .ok (.getfield 9, 3) := by decide +kernel
theorem dX12_needsOf_13 : decode cX12_needsOf 13 = .ok (.bipush 50, 2) := by decide +kernel
theorem dX12_needsOf_15 : decode cX12_needsOf 15 = .ok (.iload_n 1, 1) := by decide +kernel
theorem dX12_needsOf_16 : decode cX12_needsOf 16 = .ok (.iadd, 1) := by decide +kernel
theorem dX12_needsOf_17 : decode cX12_needsOf 17 = .ok (.iaload, 1) := by decide +kernel
theorem dX12_needsOf_18 : decode cX12_needsOf 18 = .ok (.tableswitch 78 1 6 #[38, 42, 56, 62, 42, 56], 38) := by decide +kernel
theorem dX12_needsOf_56 : decode cX12_needsOf 56 = .ok (.iconst 2, 1) := by decide +kernel
theorem dX12_needsOf_57 : decode cX12_needsOf 57 = .ok (.iload_n 2, 1) := by decide +kernel
theorem dX12_needsOf_58 : decode cX12_needsOf 58 = .ok (.imul, 1) := by decide +kernel
theorem dX12_needsOf_59 : decode cX12_needsOf 59 = .ok (.ireturn, 1) := by decide +kernel
theorem dX12_needsOf_60 : decode cX12_needsOf 60 = .ok (.iconst 3, 1) := by decide +kernel
theorem dX12_needsOf_61 : decode cX12_needsOf 61 = .ok (.iload_n 2, 1) := by decide +kernel
theorem dX12_needsOf_62 : decode cX12_needsOf 62 = .ok (.imul, 1) := by decide +kernel
theorem dX12_needsOf_63 : decode cX12_needsOf 63 = .ok (.aload_n 0, 1) := by decide +kernel
theorem dX12_needsOf_64 : decode cX12_needsOf 64 = .ok (.getfield 9, 3) := by decide +kernel
theorem dX12_needsOf_67 : decode cX12_needsOf 67 = .ok (.bipush 58, 2) := by decide +kernel
theorem dX12_needsOf_69 : decode cX12_needsOf 69 = .ok (.iload_n 1, 1) := by decide +kernel
theorem dX12_needsOf_70 : decode cX12_needsOf 70 = .ok (.iadd, 1) := by decide +kernel
theorem dX12_needsOf_71 : decode cX12_needsOf 71 = .ok (.iaload, 1) := by decide +kernel
theorem dX12_needsOf_72 : decode cX12_needsOf 72 = .ok (.iadd, 1) := by decide +kernel
theorem dX12_needsOf_73 : decode cX12_needsOf 73 = .ok (.ireturn, 1) := by decide +kernel
theorem dX12_needsOf_74 : decode cX12_needsOf 74 = .ok (.iconst 3, 1) := by decide +kernel
theorem dX12_needsOf_75 : decode cX12_needsOf 75 = .ok (.iload_n 2, 1) := by decide +kernel
theorem dX12_needsOf_76 : decode cX12_needsOf 76 = .ok (.imul, 1) := by decide +kernel
theorem dX12_needsOf_77 : decode cX12_needsOf 77 = .ok (.iconst 4, 1) := by decide +kernel
theorem dX12_needsOf_78 : decode cX12_needsOf 78 = .ok (.iadd, 1) := by decide +kernel
theorem dX12_needsOf_79 : decode cX12_needsOf 79 = .ok (.ireturn, 1) := by decide +kernel
theorem dX12_needsOf_80 : decode cX12_needsOf 80 = .ok (.iconst 2, 1) := by decide +kernel
theorem dX12_needsOf_81 : decode cX12_needsOf 81 = .ok (.iload_n 2, 1) := by decide +kernel
theorem dX12_needsOf_82 : decode cX12_needsOf 82 = .ok (.imul, 1) := by decide +kernel
theorem dX12_needsOf_83 : decode cX12_needsOf 83 = .ok (.aload_n 0, 1) := by decide +kernel
theorem dX12_needsOf_84 : decode cX12_needsOf 84 = .ok (.getfield 9, 3) := by decide +kernel
theorem dX12_needsOf_87 : decode cX12_needsOf 87 = .ok (.bipush 58, 2) := by decide +kernel
theorem dX12_needsOf_89 : decode cX12_needsOf 89 = .ok (.iload_n 1, 1) := by decide +kernel
theorem dX12_needsOf_90 : decode cX12_needsOf 90 = .ok (.iadd, 1) := by decide +kernel
theorem dX12_needsOf_91 : decode cX12_needsOf 91 = .ok (.iaload, 1) := by decide +kernel
theorem dX12_needsOf_92 : decode cX12_needsOf 92 = .ok (.iconst 1, 1) := by decide +kernel
theorem dX12_needsOf_93 : decode cX12_needsOf 93 = .ok (.iadd, 1) := by decide +kernel
theorem dX12_needsOf_94 : decode cX12_needsOf 94 = .ok (.imul, 1) := by decide +kernel
theorem dX12_needsOf_95 : decode cX12_needsOf 95 = .ok (.ireturn, 1) := by decide +kernel
theorem dX12_needsOf_96 : decode cX12_needsOf 96 = .ok (.iconst 3, 1) := by decide +kernel
theorem dX12_needsOf_97 : decode cX12_needsOf 97 = .ok (.iload_n 2, 1) := by decide +kernel
theorem dX12_needsOf_98 : decode cX12_needsOf 98 = .ok (.imul, 1) := by decide +kernel
theorem dX12_needsOf_99 : decode cX12_needsOf 99 = .ok (.ireturn, 1) := by decide +kernel
theorem dX12_darkOf_0 : decode cX12_darkOf 0 = .ok (.aload_n 0, 1) := by decide +kernel
theorem dX12_darkOf_1 : decode cX12_darkOf 1 = .ok (.iload_n 1, 1) := by decide +kernel
theorem dX12_darkOf_2 : decode cX12_darkOf 2 = .ok (.invokevirtual 137, 3) := by decide +kernel
theorem dX12_darkOf_5 : decode cX12_darkOf 5 = .ok (.ifCond .ne 5, 3) := by decide +kernel
theorem dX12_darkOf_8 : decode cX12_darkOf 8 = .ok (.iconst 0, 1) := by decide +kernel
theorem dX12_darkOf_9 : decode cX12_darkOf 9 = .ok (.ireturn, 1) := by decide +kernel
theorem dX12_darkOf_10 : decode cX12_darkOf 10 = .ok (.aload_n 0, 1) := by decide +kernel
theorem dX12_darkOf_11 : decode cX12_darkOf 11 = .ok (.getfield 9, 3) := by decide +kernel
theorem dX12_darkOf_14 : decode cX12_darkOf 14 = .ok (.bipush 50, 2) := by decide +kernel
theorem dX12_darkOf_16 : decode cX12_darkOf 16 = .ok (.iload_n 1, 1) := by decide +kernel
theorem dX12_darkOf_17 : decode cX12_darkOf 17 = .ok (.iadd, 1) := by decide +kernel
theorem dX12_darkOf_18 : decode cX12_darkOf 18 = .ok (.iaload, 1) := by decide +kernel
theorem dX12_darkOf_19 : decode cX12_darkOf 19 = .ok (.istore_n 3, 1) := by decide +kernel
theorem dX12_darkOf_20 : decode cX12_darkOf 20 = .ok (.aload_n 0, 1) := by decide +kernel
theorem dX12_darkOf_21 : decode cX12_darkOf 21 = .ok (.getfield 9, 3) := by decide +kernel
theorem dX12_darkOf_24 : decode cX12_darkOf 24 = .ok (.iconst 3, 1) := by decide +kernel
theorem dX12_darkOf_25 : decode cX12_darkOf 25 = .ok (.iload_n 1, 1) := by decide +kernel
theorem dX12_darkOf_26 : decode cX12_darkOf 26 = .ok (.iadd, 1) := by decide +kernel
theorem dX12_darkOf_27 : decode cX12_darkOf 27 = .ok (.iaload, 1) := by decide +kernel
theorem dX12_darkOf_28 : decode cX12_darkOf 28 = .ok (.istore 4, 2) := by decide +kernel
theorem dX12_darkOf_30 : decode cX12_darkOf 30 = .ok (.iload_n 2, 1) := by decide +kernel
theorem dX12_darkOf_31 : decode cX12_darkOf 31 = .ok (.aload_n 0, 1) := by decide +kernel
theorem dX12_darkOf_32 : decode cX12_darkOf 32 = .ok (.invokevirtual 141, 3) := by decide +kernel
theorem dX12_darkOf_35 : decode cX12_darkOf 35 = .ok (.idiv, 1) := by decide +kernel
theorem dX12_darkOf_36 : decode cX12_darkOf 36 = .ok (.aload_n 0, 1) := by decide +kernel
theorem dX12_darkOf_37 : decode cX12_darkOf 37 = .ok (.getfield 9, 3) := by decide +kernel
theorem dX12_darkOf_40 : decode cX12_darkOf 40 = .ok (.bipush 35, 2) := by decide +kernel
theorem dX12_darkOf_42 : decode cX12_darkOf 42 = .ok (.iload_n 1, 1) := by decide +kernel
theorem dX12_darkOf_43 : decode cX12_darkOf 43 = .ok (.iadd, 1) := by decide +kernel
theorem dX12_darkOf_44 : decode cX12_darkOf 44 = .ok (.iaload, 1) := by decide +kernel
theorem dX12_darkOf_45 : decode cX12_darkOf 45 = .ok (.iadd, 1) := by decide +kernel
theorem dX12_darkOf_46 : decode cX12_darkOf 46 = .ok (.istore 5, 2) := by decide +kernel
theorem dX12_darkOf_48 : decode cX12_darkOf 48 = .ok (.iload_n 3, 1) := by decide +kernel
theorem dX12_darkOf_49 : decode cX12_darkOf 49 = .ok (.iconst 2, 1) := by decide +kernel
theorem dX12_darkOf_50 : decode cX12_darkOf 50 = .ok (.if_icmp .eq 8, 3) := by decide +kernel
theorem dX12_darkOf_53 : decode cX12_darkOf 53 = .ok (.iload_n 3, 1) := by decide +kernel
theorem dX12_darkOf_54 : decode cX12_darkOf 54 = .ok (.iconst 5, 1) := by decide +kernel
theorem dX12_darkOf_55 : decode cX12_darkOf 55 = .ok (.if_icmp .ne 10, 3) := by decide +kernel
theorem dX12_darkOf_58 : decode cX12_darkOf 58 = .ok (.iconst 2, 1) := by decide +kernel
theorem dX12_darkOf_59 : decode cX12_darkOf 59 = .ok (.iload 4, 2) := by decide +kernel
theorem dX12_darkOf_61 : decode cX12_darkOf 61 = .ok (.imul, 1) := by decide +kernel
theorem dX12_darkOf_62 : decode cX12_darkOf 62 = .ok (.goto 5, 3) := by decide +kernel
theorem dX12_darkOf_65 : decode cX12_darkOf 65 = .ok (.iload 4, 2) := by decide +kernel
theorem dX12_darkOf_67 : decode cX12_darkOf 67 = .ok (.iload 5, 2) := by decide +kernel
theorem dX12_darkOf_69 : decode cX12_darkOf 69 = .ok (.isub, 1) := by decide +kernel
theorem dX12_darkOf_70 : decode cX12_darkOf 70 = .ok (.istore 6, 2) := by decide +kernel
theorem dX12_darkOf_72 : decode cX12_darkOf 72 = .ok (.iload 6, 2) := by decide +kernel
theorem dX12_darkOf_74 : decode cX12_darkOf 74 = .ok (.iload_n 3, 1) := by decide +kernel
theorem dX12_darkOf_75 : decode cX12_darkOf 75 = .ok (.iconst 1, 1) := by decide +kernel
theorem dX12_darkOf_76 : decode cX12_darkOf 76 = .ok (.if_icmp .eq 8, 3) := by decide +kernel
theorem dX12_darkOf_79 : decode cX12_darkOf 79 = .ok (.iload_n 3, 1) := by decide +kernel
theorem dX12_darkOf_80 : decode cX12_darkOf 80 = .ok (.iconst 4, 1) := by decide +kernel
theorem dX12_darkOf_81 : decode cX12_darkOf 81 = .ok (.if_icmp .ne 7, 3) := by decide +kernel
theorem dX12_darkOf_84 : decode cX12_darkOf 84 = .ok (.iconst 1, 1) := by decide +kernel
theorem dX12_darkOf_85 : decode cX12_darkOf 85 = .ok (.goto 4, 3) := by decide +kernel
theorem dX12_darkOf_88 : decode cX12_darkOf 88 = .ok (.iconst 0, 1) := by decide +kernel
theorem dX12_darkOf_89 : decode cX12_darkOf 89 = .ok (.iadd, 1) := by decide +kernel
theorem dX12_darkOf_90 : decode cX12_darkOf 90 = .ok (.istore 6, 2) := by decide +kernel
theorem dX12_darkOf_92 : decode cX12_darkOf 92 = .ok (.iload_n 3, 1) := by decide +kernel
theorem dX12_darkOf_93 : decode cX12_darkOf 93 = .ok (.iconst 4, 1) := by decide +kernel
theorem dX12_darkOf_94 : decode cX12_darkOf 94 = .ok (.if_icmp .ne 12, 3) := by decide +kernel
theorem dX12_darkOf_97 : decode cX12_darkOf 97 = .ok (.iload 6, 2) := by decide +kernel
theorem dX12_darkOf_99 : decode cX12_darkOf 99 = .ok (.iconst 2, 1) := by decide +kernel
theorem dX12_darkOf_100 : decode cX12_darkOf 100 = .ok (.idiv, 1) := by decide +kernel
theorem dX12_darkOf_101 : decode cX12_darkOf 101 = .ok (.iconst 1, 1) := by decide +kernel
theorem dX12_darkOf_102 : decode cX12_darkOf 102 = .ok (.isub, 1) := by decide +kernel
theorem dX12_darkOf_103 : decode cX12_darkOf 103 = .ok (.goto 5, 3) := by decide +kernel
theorem dX12_darkOf_106 : decode cX12_darkOf 106 = .ok (.iload 6, 2) := by decide +kernel
theorem dX12_darkOf_108 : decode cX12_darkOf 108 = .ok (.istore 6, 2) := by decide +kernel
theorem dX12_darkOf_110 : decode cX12_darkOf 110 = .ok (.iload 6, 2) := by decide +kernel
theorem dX12_darkOf_112 : decode cX12_darkOf 112 = .ok (.iload_n 3, 1) := by decide +kernel
theorem dX12_darkOf_113 : decode cX12_darkOf 113 = .ok (.iconst 5, 1) := by decide +kernel
theorem dX12_darkOf_114 : decode cX12_darkOf 114 = .ok (.if_icmp .ne 20, 3) := by decide +kernel
theorem dX12_darkOf_117 : decode cX12_darkOf 117 = .ok (.aload_n 0, 1) := by decide +kernel
theorem dX12_darkOf_118 : decode cX12_darkOf 118 = .ok (.getfield 9, 3) := by decide +kernel
theorem dX12_darkOf_121 : decode cX12_darkOf 121 = .ok (.bipush 19, 2) := by decide +kernel
theorem dX12_darkOf_123 : decode cX12_darkOf 123 = .ok (.iload_n 1, 1) := by decide +kernel
theorem dX12_darkOf_124 : decode cX12_darkOf 124 = .ok (.iadd, 1) := by decide +kernel
theorem dX12_darkOf_125 : decode cX12_darkOf 125 = .ok (.iaload, 1) := by decide +kernel
theorem dX12_darkOf_126 : decode cX12_darkOf 126 = .ok (.iconst 1, 1) := by decide +kernel
theorem dX12_darkOf_127 : decode cX12_darkOf 127 = .ok (.if_icmp .ne 7, 3) := by decide +kernel
theorem dX12_darkOf_130 : decode cX12_darkOf 130 = .ok (.iconst 2, 1) := by decide +kernel
theorem dX12_darkOf_131 : decode cX12_darkOf 131 = .ok (.goto 4, 3) := by decide +kernel
theorem dX12_darkOf_134 : decode cX12_darkOf 134 = .ok (.iconst 0, 1) := by decide +kernel
theorem dX12_darkOf_135 : decode cX12_darkOf 135 = .ok (.iadd, 1) := by decide +kernel
theorem dX12_darkOf_136 : decode cX12_darkOf 136 = .ok (.istore 6, 2) := by decide +kernel
theorem dX12_darkOf_138 : decode cX12_darkOf 138 = .ok (.iload 6, 2) := by decide +kernel
theorem dX12_darkOf_140 : decode cX12_darkOf 140 = .ok (.iload_n 3, 1) := by decide +kernel
theorem dX12_darkOf_141 : decode cX12_darkOf 141 = .ok (.bipush 6, 2) := by decide +kernel
theorem dX12_darkOf_143 : decode cX12_darkOf 143 = .ok (.if_icmp .ne 21, 3) := by decide +kernel
theorem dX12_darkOf_146 : decode cX12_darkOf 146 = .ok (.aload_n 0, 1) := by decide +kernel
theorem dX12_darkOf_147 : decode cX12_darkOf 147 = .ok (.getfield 9, 3) := by decide +kernel
theorem dX12_darkOf_150 : decode cX12_darkOf 150 = .ok (.bipush 74, 2) := by decide +kernel
theorem dX12_darkOf_152 : decode cX12_darkOf 152 = .ok (.iconst 4, 1) := by decide +kernel
theorem dX12_darkOf_153 : decode cX12_darkOf 153 = .ok (.iload_n 1, 1) := by decide +kernel
theorem dX12_darkOf_154 : decode cX12_darkOf 154 = .ok (.imul, 1) := by decide +kernel
theorem dX12_darkOf_155 : decode cX12_darkOf 155 = .ok (.iadd, 1) := by decide +kernel
theorem dX12_darkOf_156 : decode cX12_darkOf 156 = .ok (.iload_n 2, 1) := by decide +kernel
theorem dX12_darkOf_157 : decode cX12_darkOf 157 = .ok (.iconst 4, 1) := by decide +kernel
theorem dX12_darkOf_158 : decode cX12_darkOf 158 = .ok (.irem, 1) := by decide +kernel
theorem dX12_darkOf_159 : decode cX12_darkOf 159 = .ok (.iadd, 1) := by decide +kernel
theorem dX12_darkOf_160 : decode cX12_darkOf 160 = .ok (.iaload, 1) := by decide +kernel
theorem dX12_darkOf_161 : decode cX12_darkOf 161 = .ok (.goto 4, 3) := by decide +kernel
theorem dX12_darkOf_164 : decode cX12_darkOf 164 = .ok (.iconst 0, 1) := by decide +kernel
theorem dX12_darkOf_165 : decode cX12_darkOf 165 = .ok (.iadd, 1) := by decide +kernel
theorem dX12_darkOf_166 : decode cX12_darkOf 166 = .ok (.istore 6, 2) := by decide +kernel
theorem dX12_darkOf_168 : decode cX12_darkOf 168 = .ok (.iload 6, 2) := by decide +kernel
theorem dX12_darkOf_170 : decode cX12_darkOf 170 = .ok (.aload_n 0, 1) := by decide +kernel
theorem dX12_darkOf_171 : decode cX12_darkOf 171 = .ok (.getfield 9, 3) := by decide +kernel
theorem dX12_darkOf_174 : decode cX12_darkOf 174 = .ok (.bipush 19, 2) := by decide +kernel
theorem dX12_darkOf_176 : decode cX12_darkOf 176 = .ok (.iload_n 1, 1) := by decide +kernel
theorem dX12_darkOf_177 : decode cX12_darkOf 177 = .ok (.iadd, 1) := by decide +kernel
theorem dX12_darkOf_178 : decode cX12_darkOf 178 = .ok (.iaload, 1) := by decide +kernel
theorem dX12_darkOf_179 : decode cX12_darkOf 179 = .ok (.iconst 3, 1) := by decide +kernel
theorem dX12_darkOf_180 : decode cX12_darkOf 180 = .ok (.if_icmp .ne 7, 3) := by decide +kernel
theorem dX12_darkOf_183 : decode cX12_darkOf 183 = .ok (.iconst 2, 1) := by decide +kernel
theorem dX12_darkOf_184 : decode cX12_darkOf 184 = .ok (.goto 4, 3) := by decide +kernel
theorem dX12_darkOf_187 : decode cX12_darkOf 187 = .ok (.iconst 0, 1) := by decide +kernel
theorem dX12_darkOf_188 : decode cX12_darkOf 188 = .ok (.isub, 1) := by decide +kernel
theorem dX12_darkOf_189 : decode cX12_darkOf 189 = .ok (.istore 6, 2) := by decide +kernel
theorem dX12_darkOf_191 : decode cX12_darkOf 191 = .ok (.iload 6, 2) := by decide +kernel
theorem dX12_darkOf_193 : decode cX12_darkOf 193 = .ok (.ifCond .ge 7, 3) := by decide +kernel
theorem dX12_darkOf_196 : decode cX12_darkOf 196 = .ok (.iconst 0, 1) := by decide +kernel
theorem dX12_darkOf_197 : decode cX12_darkOf 197 = .ok (.goto 5, 3) := by decide +kernel
theorem dX12_darkOf_200 : decode cX12_darkOf 200 = .ok (.iload 6, 2) := by decide +kernel
theorem dX12_darkOf_202 : decode cX12_darkOf 202 = .ok (.ireturn, 1) := by decide +kernel
theorem dX12_darkBy_0 : decode cX12_darkBy 0 = .ok (.aload_n 0, 1) := by decide +kernel
theorem dX12_darkBy_1 : decode cX12_darkBy 1 = .ok (.iload_n 1, 1) := by decide +kernel
theorem dX12_darkBy_2 : decode cX12_darkBy 2 = .ok (.aload_n 0, 1) := by decide +kernel
theorem dX12_darkBy_3 : decode cX12_darkBy 3 = .ok (.getfield 9, 3) := by decide +kernel
theorem dX12_darkBy_6 : decode cX12_darkBy 6 = .ok (.bipush 27, 2) := by decide +kernel
theorem dX12_darkBy_8 : decode cX12_darkBy 8 = .ok (.iload_n 1, 1) := by decide +kernel
theorem dX12_darkBy_9 : decode cX12_darkBy 9 = .ok (.iadd, 1) := by decide +kernel
theorem dX12_darkBy_10 : decode cX12_darkBy 10 = .ok (.iaload, 1) := by decide +kernel
theorem dX12_darkBy_11 : decode cX12_darkBy 11 = .ok (.iload_n 2, 1) := by decide +kernel
theorem dX12_darkBy_12 : decode cX12_darkBy 12 = .ok (.iadd, 1) := by decide +kernel
theorem dX12_darkBy_13 : decode cX12_darkBy 13 = .ok (.invokevirtual 144, 3) := by decide +kernel
theorem dX12_darkBy_16 : decode cX12_darkBy 16 = .ok (.ireturn, 1) := by decide +kernel
theorem dX12_doesPrint_0 : decode cX12_doesPrint 0 = .ok (.aload_n 0, 1) := by decide +kernel
theorem dX12_doesPrint_1 : decode cX12_doesPrint 1 = .ok (.iload_n 1, 1) := by decide +kernel
theorem dX12_doesPrint_2 : decode cX12_doesPrint 2 = .ok (.iload_n 2, 1) := by decide +kernel
theorem dX12_doesPrint_3 : decode cX12_doesPrint 3 = .ok (.invokevirtual 147, 3) := by decide +kernel
theorem dX12_doesPrint_6 : decode cX12_doesPrint 6 = .ok (.ifCond .le 7, 3) := by decide +kernel
theorem dX12_doesPrint_9 : decode cX12_doesPrint 9 = .ok (.iconst 1, 1) := by decide +kernel
theorem dX12_doesPrint_10 : decode cX12_doesPrint 10 = .ok (.goto 4, 3) := by decide +kernel
theorem dX12_doesPrint_13 : decode cX12_doesPrint 13 = .ok (.iconst 0, 1) := by decide +kernel
theorem dX12_doesPrint_14 : decode cX12_doesPrint 14 = .ok (.ireturn, 1) := by decide +kernel
theorem dX12_mark_0 : decode cX12_mark 0 = .ok (.iload_n 1, 1) := by decide +kernel
theorem dX12_mark_1 : decode cX12_mark 1 = .ok (.iconst 0, 1) := by decide +kernel
theorem dX12_mark_2 : decode cX12_mark 2 = .ok (.bipush 6, 2) := by decide +kernel
theorem dX12_mark_4 : decode cX12_mark 4 = .ok (.invokestatic 41, 3) := by decide +kernel
theorem dX12_mark_7 : decode cX12_mark 7 = .ok (.ifCond .ne 5, 3) := by decide +kernel
theorem dX12_mark_10 : decode cX12_mark 10 = .ok (.iconst (-1), 1) := by decide +kernel
theorem dX12_mark_11 : decode cX12_mark 11 = .ok (.ireturn, 1) := by decide +kernel
theorem dX12_mark_12 : decode cX12_mark 12 = .ok (.iload_n 2, 1) := by decide +kernel
theorem dX12_mark_13 : decode cX12_mark 13 = .ok (.iconst 0, 1) := by decide +kernel
theorem dX12_mark_14 : decode cX12_mark 14 = .ok (.bipush 9, 2) := by decide +kernel
theorem dX12_mark_16 : decode cX12_mark 16 = .ok (.invokestatic 41, 3) := by decide +kernel
theorem dX12_mark_19 : decode cX12_mark 19 = .ok (.ifCond .eq 24, 3) := by decide +kernel
theorem dX12_mark_22 : decode cX12_mark 22 = .ok (.iload_n 3, 1) := by decide +kernel
theorem dX12_mark_23 : decode cX12_mark 23 = .ok (.iconst 0, 1) := by decide +kernel
theorem dX12_mark_24 : decode cX12_mark 24 = .ok (.bipush 99, 2) := by decide +kernel
theorem dX12_mark_26 : decode cX12_mark 26 = .ok (.invokestatic 41, 3) := by decide +kernel
theorem dX12_mark_29 : decode cX12_mark 29 = .ok (.ifCond .eq 14, 3) := by decide +kernel
theorem dX12_mark_32 : decode cX12_mark 32 = .ok (.iload 4, 2) := by decide +kernel
theorem dX12_mark_34 : decode cX12_mark 34 = .ok (.iconst 1, 1) := by decide +kernel
theorem dX12_mark_35 : decode cX12_mark 35 = .ok (.bipush 9, 2) := by decide +kernel
theorem dX12_mark_37 : decode cX12_mark 37 = .ok (.invokestatic 41, 3) := by decide +kernel
theorem dX12_mark_40 : decode cX12_mark 40 = .ok (.ifCond .ne 6, 3) := by decide +kernel
theorem dX12_mark_43 : decode cX12_mark 43 = .ok (.bipush (-2), 2) := by decide +kernel
theorem dX12_mark_45 : decode cX12_mark 45 = .ok (.ireturn, 1) := by decide +kernel
theorem dX12_mark_46 : decode cX12_mark 46 = .ok (.aload_n 0, 1) := by decide +kernel
theorem dX12_mark_47 : decode cX12_mark 47 = .ok (.getfield 9, 3) := by decide +kernel
theorem dX12_mark_50 : decode cX12_mark 50 = .ok (.bipush 43, 2) := by decide +kernel
theorem dX12_mark_52 : decode cX12_mark 52 = .ok (.iaload, 1) := by decide +kernel
theorem dX12_mark_53 : decode cX12_mark 53 = .ok (.bipush 8, 2) := by decide +kernel
theorem dX12_mark_55 : decode cX12_mark 55 = .ok (.if_icmp .ne 6, 3) := by decide +kernel
theorem dX12_mark_58 : decode cX12_mark 58 = .ok (.bipush (-4), 2) := by decide +kernel
theorem dX12_mark_60 : decode cX12_mark 60 = .ok (.ireturn, 1) := by decide +kernel
theorem dX12_mark_61 : decode cX12_mark 61 = .ok (.aload_n 0, 1) := by decide +kernel
theorem dX12_mark_62 : decode cX12_mark 62 = .ok (.getfield 9, 3) := by decide +kernel
theorem dX12_mark_65 : decode cX12_mark 65 = .ok (.bipush 43, 2) := by decide +kernel
theorem dX12_mark_67 : decode cX12_mark 67 = .ok (.iaload, 1) := by decide +kernel
theorem dX12_mark_68 : decode cX12_mark 68 = .ok (.istore 5, 2) := by decide +kernel
theorem dX12_mark_70 : decode cX12_mark 70 = .ok (.aload_n 0, 1) := by decide +kernel
theorem dX12_mark_71 : decode cX12_mark 71 = .ok (.getfield 9, 3) := by decide +kernel
theorem dX12_mark_74 : decode cX12_mark 74 = .ok (.bipush 50, 2) := by decide +kernel
theorem dX12_mark_76 : decode cX12_mark 76 = .ok (.iload 5, 2) := by decide +kernel
theorem dX12_mark_78 : decode cX12_mark 78 = .ok (.iadd, 1) := by decide +kernel
theorem dX12_mark_79 : decode cX12_mark 79 = .ok (.iload_n 1, 1) := by decide +kernel
theorem dX12_mark_80 : decode cX12_mark 80 = .ok (.iastore, 1) := by decide +kernel
theorem dX12_mark_81 : decode cX12_mark 81 = .ok (.aload_n 0, 1) := by decide +kernel
theorem dX12_mark_82 : decode cX12_mark 82 = .ok (.getfield 9, 3) := by decide +kernel
theorem dX12_mark_85 : decode cX12_mark 85 = .ok (.bipush 58, 2) := by decide +kernel
theorem dX12_mark_87 : decode cX12_mark 87 = .ok (.iload 5, 2) := by decide +kernel
theorem dX12_mark_89 : decode cX12_mark 89 = .ok (.iadd, 1) := by decide +kernel
theorem dX12_mark_90 : decode cX12_mark 90 = .ok (.iload_n 2, 1) := by decide +kernel
theorem dX12_mark_91 : decode cX12_mark 91 = .ok (.iastore, 1) := by decide +kernel
theorem dX12_mark_92 : decode cX12_mark 92 = .ok (.aload_n 0, 1) := by decide +kernel
theorem dX12_mark_93 : decode cX12_mark 93 = .ok (.getfield 9, 3) := by decide +kernel
theorem dX12_mark_96 : decode cX12_mark 96 = .ok (.bipush 66, 2) := by decide +kernel
theorem dX12_mark_98 : decode cX12_mark 98 = .ok (.iload 5, 2) := by decide +kernel
theorem dX12_mark_100 : decode cX12_mark 100 = .ok (.iadd, 1) := by decide +kernel
theorem dX12_mark_101 : decode cX12_mark 101 = .ok (.iload_n 3, 1) := by decide +kernel
theorem dX12_mark_102 : decode cX12_mark 102 = .ok (.iastore, 1) := by decide +kernel
theorem dX12_mark_103 : decode cX12_mark 103 = .ok (.aload_n 0, 1) := by decide +kernel
theorem dX12_mark_104 : decode cX12_mark 104 = .ok (.getfield 9, 3) := by decide +kernel
theorem dX12_mark_107 : decode cX12_mark 107 = .ok (.iconst 3, 1) := by decide +kernel
theorem dX12_mark_108 : decode cX12_mark 108 = .ok (.iload 5, 2) := by decide +kernel
theorem dX12_mark_110 : decode cX12_mark 110 = .ok (.iadd, 1) := by decide +kernel
theorem dX12_mark_111 : decode cX12_mark 111 = .ok (.iload 4, 2) := by decide +kernel
theorem dX12_mark_113 : decode cX12_mark 113 = .ok (.iastore, 1) := by decide +kernel
theorem dX12_mark_114 : decode cX12_mark 114 = .ok (.aload_n 0, 1) := by decide +kernel
theorem dX12_mark_115 : decode cX12_mark 115 = .ok (.getfield 9, 3) := by decide +kernel
theorem dX12_mark_118 : decode cX12_mark 118 = .ok (.bipush 11, 2) := by decide +kernel
theorem dX12_mark_120 : decode cX12_mark 120 = .ok (.iload 5, 2) := by decide +kernel
theorem dX12_mark_122 : decode cX12_mark 122 = .ok (.iadd, 1) := by decide +kernel
theorem dX12_mark_123 : decode cX12_mark 123 = .ok (.iconst 0, 1) := by decide +kernel
theorem dX12_mark_124 : decode cX12_mark 124 = .ok (.iastore, 1) := by decide +kernel
theorem dX12_mark_125 : decode cX12_mark 125 = .ok (.aload_n 0, 1) := by decide +kernel
theorem dX12_mark_126 : decode cX12_mark 126 = .ok (.getfield 9, 3) := by decide +kernel
theorem dX12_mark_129 : decode cX12_mark 129 = .ok (.bipush 19, 2) := by decide +kernel
theorem dX12_mark_131 : decode cX12_mark 131 = .ok (.iload 5, 2) := by decide +kernel
theorem dX12_mark_133 : decode cX12_mark 133 = .ok (.iadd, 1) := by decide +kernel
theorem dX12_mark_134 : decode cX12_mark 134 = .ok (.iconst 0, 1) := by decide +kernel
theorem dX12_mark_135 : decode cX12_mark 135 = .ok (.iastore, 1) := by decide +kernel
theorem dX12_mark_136 : decode cX12_mark 136 = .ok (.aload_n 0, 1) := by decide +kernel
theorem dX12_mark_137 : decode cX12_mark 137 = .ok (.getfield 9, 3) := by decide +kernel
theorem dX12_mark_140 : decode cX12_mark 140 = .ok (.bipush 27, 2) := by decide +kernel
theorem dX12_mark_142 : decode cX12_mark 142 = .ok (.iload 5, 2) := by decide +kernel
theorem dX12_mark_144 : decode cX12_mark 144 = .ok (.iadd, 1) := by decide +kernel
theorem dX12_mark_145 : decode cX12_mark 145 = .ok (.iconst 0, 1) := by decide +kernel
theorem dX12_mark_146 : decode cX12_mark 146 = .ok (.iastore, 1) := by decide +kernel
theorem dX12_mark_147 : decode cX12_mark 147 = .ok (.aload_n 0, 1) := by decide +kernel
theorem dX12_mark_148 : decode cX12_mark 148 = .ok (.getfield 9, 3) := by decide +kernel
theorem dX12_mark_151 : decode cX12_mark 151 = .ok (.bipush 35, 2) := by decide +kernel
theorem dX12_mark_153 : decode cX12_mark 153 = .ok (.iload 5, 2) := by decide +kernel
theorem dX12_mark_155 : decode cX12_mark 155 = .ok (.iadd, 1) := by decide +kernel
theorem dX12_mark_156 : decode cX12_mark 156 = .ok (.iconst 0, 1) := by decide +kernel
theorem dX12_mark_157 : decode cX12_mark 157 = .ok (.iastore, 1) := by decide +kernel
theorem dX12_mark_158 : decode cX12_mark 158 = .ok (.iconst 0, 1) := by decide +kernel
theorem dX12_mark_159 : decode cX12_mark 159 = .ok (.istore 6, 2) := by decide +kernel
theorem dX12_mark_161 : decode cX12_mark 161 = .ok (.iload 6, 2) := by decide +kernel
theorem dX12_mark_163 : decode cX12_mark 163 = .ok (.iconst 4, 1) := by decide +kernel
theorem dX12_mark_164 : decode cX12_mark 164 = .ok (.if_icmp .ge 25, 3) := by decide +kernel
theorem dX12_mark_167 : decode cX12_mark 167 = .ok (.aload_n 0, 1) := by decide +kernel
theorem dX12_mark_168 : decode cX12_mark 168 = .ok (.getfield 9, 3) := by decide +kernel
theorem dX12_mark_171 : decode cX12_mark 171 = .ok (.bipush 74, 2) := by decide +kernel
theorem dX12_mark_173 : decode cX12_mark 173 = .ok (.iconst 4, 1) := by decide +kernel
theorem dX12_mark_174 : decode cX12_mark 174 = .ok (.iload 5, 2) := by decide +kernel
theorem dX12_mark_176 : decode cX12_mark 176 = .ok (.imul, 1) := by decide +kernel
theorem dX12_mark_177 : decode cX12_mark 177 = .ok (.iadd, 1) := by decide +kernel
theorem dX12_mark_178 : decode cX12_mark 178 = .ok (.iload 6, 2) := by decide +kernel
theorem dX12_mark_180 : decode cX12_mark 180 = .ok (.iadd, 1) := by decide +kernel
theorem dX12_mark_181 : decode cX12_mark 181 = .ok (.iconst 0, 1) := by decide +kernel
theorem dX12_mark_182 : decode cX12_mark 182 = .ok (.iastore, 1) := by decide +kernel
theorem dX12_mark_183 : decode cX12_mark 183 = .ok (.iinc 6 1, 3) := by decide +kernel
theorem dX12_mark_186 : decode cX12_mark 186 = .ok (.goto (-25), 3) := by decide +kernel
theorem dX12_mark_189 : decode cX12_mark 189 = .ok (.aload_n 0, 1) := by decide +kernel
theorem dX12_mark_190 : decode cX12_mark 190 = .ok (.getfield 9, 3) := by decide +kernel
theorem dX12_mark_193 : decode cX12_mark 193 = .ok (.bipush 43, 2) := by decide +kernel
theorem dX12_mark_195 : decode cX12_mark 195 = .ok (.dup2, 1) := by decide +kernel
theorem dX12_mark_196 : decode cX12_mark 196 = .ok (.iaload, 1) := by decide +kernel
theorem dX12_mark_197 : decode cX12_mark 197 = .ok (.iconst 1, 1) := by decide +kernel
theorem dX12_mark_198 : decode cX12_mark 198 = .ok (.iadd, 1) := by decide +kernel
theorem dX12_mark_199 : decode cX12_mark 199 = .ok (.iastore, 1) := by decide +kernel
theorem dX12_mark_200 : decode cX12_mark 200 = .ok (.iload 5, 2) := by decide +kernel
theorem dX12_mark_202 : decode cX12_mark 202 = .ok (.ireturn, 1) := by decide +kernel
theorem dX12_of_0 : decode cX12_of 0 = .ok (.aload_n 0, 1) := by decide +kernel
theorem dX12_of_1 : decode cX12_of 1 = .ok (.iload_n 1, 1) := by decide +kernel
theorem dX12_of_2 : decode cX12_of 2 = .ok (.invokevirtual 150, 3) := by decide +kernel
theorem dX12_of_5 : decode cX12_of 5 = .ok (.ifCond .eq 13, 3) := by decide +kernel
theorem dX12_of_8 : decode cX12_of 8 = .ok (.iload_n 2, 1) := by decide +kernel
theorem dX12_of_9 : decode cX12_of 9 = .ok (.iconst 0, 1) := by decide +kernel
theorem dX12_of_10 : decode cX12_of 10 = .ok (.bipush 10, 2) := by decide +kernel
theorem dX12_of_12 : decode cX12_of 12 = .ok (.invokestatic 41, 3) := by decide +kernel
theorem dX12_of_15 : decode cX12_of 15 = .ok (.ifCond .ne 5, 3) := by decide +kernel
theorem dX12_of_18 : decode cX12_of 18 = .ok (.iconst (-1), 1) := by decide +kernel
theorem dX12_of_19 : decode cX12_of 19 = .ok (.ireturn, 1) := by decide +kernel
theorem dX12_of_20 : decode cX12_of 20 = .ok (.iload_n 2, 1) := by decide +kernel
theorem dX12_of_21 : decode cX12_of 21 = .ok (.tableswitch 108 0 10 #[59, 69, 79, 108, 108, 108, 108, 108, 89, 95, 101], 59) := by decide +kernel
theorem dX12_of_80 : decode cX12_of 80 = .ok (.aload_n 0, 1) := by decide +kernel
theorem dX12_of_81 : decode cX12_of 81 = .ok (.getfield 9, 3) := by decide +kernel
theorem dX12_of_84 : decode cX12_of 84 = .ok (.bipush 50, 2) := by decide +kernel
theorem dX12_of_86 : decode cX12_of 86 = .ok (.iload_n 1, 1) := by decide +kernel
theorem dX12_of_87 : decode cX12_of 87 = .ok (.iadd, 1) := by decide +kernel
theorem dX12_of_88 : decode cX12_of 88 = .ok (.iaload, 1) := by decide +kernel
theorem dX12_of_89 : decode cX12_of 89 = .ok (.ireturn, 1) := by decide +kernel
theorem dX12_of_90 : decode cX12_of 90 = .ok (.aload_n 0, 1) := by decide +kernel
theorem dX12_of_91 : decode cX12_of 91 = .ok (.getfield 9, 3) := by decide +kernel
theorem dX12_of_94 : decode cX12_of 94 = .ok (.bipush 58, 2) := by decide +kernel
theorem dX12_of_96 : decode cX12_of 96 = .ok (.iload_n 1, 1) := by decide +kernel
theorem dX12_of_97 : decode cX12_of 97 = .ok (.iadd, 1) := by decide +kernel
theorem dX12_of_98 : decode cX12_of 98 = .ok (.iaload, 1) := by decide +kernel
theorem dX12_of_99 : decode cX12_of 99 = .ok (.ireturn, 1) := by decide +kernel
theorem dX12_of_100 : decode cX12_of 100 = .ok (.aload_n 0, 1) := by decide +kernel
theorem dX12_of_101 : decode cX12_of 101 = .ok (.getfield 9, 3) := by decide +kernel
theorem dX12_of_104 : decode cX12_of 104 = .ok (.bipush 66, 2) := by decide +kernel
theorem dX12_of_106 : decode cX12_of 106 = .ok (.iload_n 1, 1) := by decide +kernel
theorem dX12_of_107 : decode cX12_of 107 = .ok (.iadd, 1) := by decide +kernel
theorem dX12_of_108 : decode cX12_of 108 = .ok (.iaload, 1) := by decide +kernel
theorem dX12_of_109 : decode cX12_of 109 = .ok (.ireturn, 1) := by decide +kernel
theorem dX12_of_110 : decode cX12_of 110 = .ok (.aload_n 0, 1) := by decide +kernel
theorem dX12_of_111 : decode cX12_of 111 = .ok (.iload_n 1, 1) := by decide +kernel
theorem dX12_of_112 : decode cX12_of 112 = .ok (.invokevirtual 153, 3) := by decide +kernel
theorem dX12_of_115 : decode cX12_of 115 = .ok (.ireturn, 1) := by decide +kernel
theorem dX12_of_116 : decode cX12_of 116 = .ok (.aload_n 0, 1) := by decide +kernel
theorem dX12_of_117 : decode cX12_of 117 = .ok (.iload_n 1, 1) := by decide +kernel
theorem dX12_of_118 : decode cX12_of 118 = .ok (.invokevirtual 157, 3) := by decide +kernel
theorem dX12_of_121 : decode cX12_of 121 = .ok (.ireturn, 1) := by decide +kernel
theorem dX12_of_122 : decode cX12_of 122 = .ok (.aload_n 0, 1) := by decide +kernel
theorem dX12_of_123 : decode cX12_of 123 = .ok (.iload_n 1, 1) := by decide +kernel
theorem dX12_of_124 : decode cX12_of 124 = .ok (.iconst 0, 1) := by decide +kernel
theorem dX12_of_125 : decode cX12_of 125 = .ok (.invokevirtual 147, 3) := by decide +kernel
theorem dX12_of_128 : decode cX12_of 128 = .ok (.ireturn, 1) := by decide +kernel
theorem dX12_of_129 : decode cX12_of 129 = .ok (.aload_n 0, 1) := by decide +kernel
theorem dX12_of_130 : decode cX12_of 130 = .ok (.getfield 9, 3) := by decide +kernel
theorem dX12_of_133 : decode cX12_of 133 = .ok (.iconst 3, 1) := by decide +kernel
theorem dX12_of_134 : decode cX12_of 134 = .ok (.bipush 8, 2) := by decide +kernel
theorem dX12_of_136 : decode cX12_of 136 = .ok (.iload_n 2, 1) := by decide +kernel
theorem dX12_of_137 : decode cX12_of 137 = .ok (.iconst 3, 1) := by decide +kernel
theorem dX12_of_138 : decode cX12_of 138 = .ok (.isub, 1) := by decide +kernel
theorem dX12_of_139 : decode cX12_of 139 = .ok (.imul, 1) := by decide +kernel
theorem dX12_of_140 : decode cX12_of 140 = .ok (.iadd, 1) := by decide +kernel
theorem dX12_of_141 : decode cX12_of 141 = .ok (.iload_n 1, 1) := by decide +kernel
theorem dX12_of_142 : decode cX12_of 142 = .ok (.iadd, 1) := by decide +kernel
theorem dX12_of_143 : decode cX12_of 143 = .ok (.iaload, 1) := by decide +kernel
theorem dX12_of_144 : decode cX12_of 144 = .ok (.ireturn, 1) := by decide +kernel
theorem dX12_row_0 : decode cX12_row 0 = .ok (.aload_n 0, 1) := by decide +kernel
theorem dX12_row_1 : decode cX12_row 1 = .ok (.iload_n 1, 1) := by decide +kernel
theorem dX12_row_2 : decode cX12_row 2 = .ok (.invokevirtual 150, 3) := by decide +kernel
theorem dX12_row_5 : decode cX12_row 5 = .ok (.ifCond .eq 12, 3) := by decide +kernel
theorem dX12_row_8 : decode cX12_row 8 = .ok (.iload_n 2, 1) := by decide +kernel
theorem dX12_row_9 : decode cX12_row 9 = .ok (.iconst 0, 1) := by decide +kernel
theorem dX12_row_10 : decode cX12_row 10 = .ok (.iconst 3, 1) := by decide +kernel
theorem dX12_row_11 : decode cX12_row 11 = .ok (.invokestatic 41, 3) := by decide +kernel
theorem dX12_row_14 : decode cX12_row 14 = .ok (.ifCond .ne 5, 3) := by decide +kernel
theorem dX12_row_17 : decode cX12_row 17 = .ok (.iconst (-1), 1) := by decide +kernel
theorem dX12_row_18 : decode cX12_row 18 = .ok (.ireturn, 1) := by decide +kernel
theorem dX12_row_19 : decode cX12_row 19 = .ok (.iload_n 3, 1) := by decide +kernel
theorem dX12_row_20 : decode cX12_row 20 = .ok (.iconst 0, 1) := by decide +kernel
theorem dX12_row_21 : decode cX12_row 21 = .ok (.bipush 9, 2) := by decide +kernel
theorem dX12_row_23 : decode cX12_row 23 = .ok (.invokestatic 41, 3) := by decide +kernel
theorem dX12_row_26 : decode cX12_row 26 = .ok (.ifCond .ne 6, 3) := by decide +kernel
theorem dX12_row_29 : decode cX12_row 29 = .ok (.bipush (-2), 2) := by decide +kernel
theorem dX12_row_31 : decode cX12_row 31 = .ok (.ireturn, 1) := by decide +kernel
theorem dX12_row_32 : decode cX12_row 32 = .ok (.aload_n 0, 1) := by decide +kernel
theorem dX12_row_33 : decode cX12_row 33 = .ok (.getfield 9, 3) := by decide +kernel
theorem dX12_row_36 : decode cX12_row 36 = .ok (.bipush 50, 2) := by decide +kernel
theorem dX12_row_38 : decode cX12_row 38 = .ok (.iload_n 1, 1) := by decide +kernel
theorem dX12_row_39 : decode cX12_row 39 = .ok (.iadd, 1) := by decide +kernel
theorem dX12_row_40 : decode cX12_row 40 = .ok (.iaload, 1) := by decide +kernel
theorem dX12_row_41 : decode cX12_row 41 = .ok (.bipush 6, 2) := by decide +kernel
theorem dX12_row_43 : decode cX12_row 43 = .ok (.if_icmp .eq 6, 3) := by decide +kernel
theorem dX12_row_46 : decode cX12_row 46 = .ok (.bipush (-3), 2) := by decide +kernel
theorem dX12_row_48 : decode cX12_row 48 = .ok (.ireturn, 1) := by decide +kernel
theorem dX12_row_49 : decode cX12_row 49 = .ok (.aload_n 0, 1) := by decide +kernel
theorem dX12_row_50 : decode cX12_row 50 = .ok (.getfield 9, 3) := by decide +kernel
theorem dX12_row_53 : decode cX12_row 53 = .ok (.bipush 74, 2) := by decide +kernel
theorem dX12_row_55 : decode cX12_row 55 = .ok (.iconst 4, 1) := by decide +kernel
theorem dX12_row_56 : decode cX12_row 56 = .ok (.iload_n 1, 1) := by decide +kernel
theorem dX12_row_57 : decode cX12_row 57 = .ok (.imul, 1) := by decide +kernel
theorem dX12_row_58 : decode cX12_row 58 = .ok (.iadd, 1) := by decide +kernel
theorem dX12_row_59 : decode cX12_row 59 = .ok (.iload_n 2, 1) := by decide +kernel
theorem dX12_row_60 : decode cX12_row 60 = .ok (.iadd, 1) := by decide +kernel
theorem dX12_row_61 : decode cX12_row 61 = .ok (.iaload, 1) := by decide +kernel
theorem dX12_row_62 : decode cX12_row 62 = .ok (.istore 4, 2) := by decide +kernel
theorem dX12_row_64 : decode cX12_row 64 = .ok (.aload_n 0, 1) := by decide +kernel
theorem dX12_row_65 : decode cX12_row 65 = .ok (.getfield 9, 3) := by decide +kernel
theorem dX12_row_68 : decode cX12_row 68 = .ok (.bipush 74, 2) := by decide +kernel
theorem dX12_row_70 : decode cX12_row 70 = .ok (.iconst 4, 1) := by decide +kernel
theorem dX12_row_71 : decode cX12_row 71 = .ok (.iload_n 1, 1) := by decide +kernel
theorem dX12_row_72 : decode cX12_row 72 = .ok (.imul, 1) := by decide +kernel
theorem dX12_row_73 : decode cX12_row 73 = .ok (.iadd, 1) := by decide +kernel
theorem dX12_row_74 : decode cX12_row 74 = .ok (.iload_n 2, 1) := by decide +kernel
theorem dX12_row_75 : decode cX12_row 75 = .ok (.iadd, 1) := by decide +kernel
theorem dX12_row_76 : decode cX12_row 76 = .ok (.iload_n 3, 1) := by decide +kernel
theorem dX12_row_77 : decode cX12_row 77 = .ok (.iastore, 1) := by decide +kernel
theorem dX12_row_78 : decode cX12_row 78 = .ok (.iload 4, 2) := by decide +kernel
theorem dX12_row_80 : decode cX12_row 80 = .ok (.ireturn, 1) := by decide +kernel
theorem dX12_told_0 : decode cX12_told 0 = .ok (.iload_n 1, 1) := by decide +kernel
theorem dX12_told_1 : decode cX12_told 1 = .ok (.iconst 0, 1) := by decide +kernel
theorem dX12_told_2 : decode cX12_told 2 = .ok (.iconst 2, 1) := by decide +kernel
theorem dX12_told_3 : decode cX12_told 3 = .ok (.invokestatic 41, 3) := by decide +kernel
theorem dX12_told_6 : decode cX12_told 6 = .ok (.ifCond .eq 12, 3) := by decide +kernel
theorem dX12_told_9 : decode cX12_told 9 = .ok (.aload_n 0, 1) := by decide +kernel
theorem dX12_told_10 : decode cX12_told 10 = .ok (.getfield 9, 3) := by decide +kernel
theorem dX12_told_13 : decode cX12_told 13 = .ok (.iload_n 1, 1) := by decide +kernel
theorem dX12_told_14 : decode cX12_told 14 = .ok (.iaload, 1) := by decide +kernel
theorem dX12_told_15 : decode cX12_told 15 = .ok (.goto 28, 3) := by decide +kernel
theorem dX12_told_18 : decode cX12_told 18 = .ok (.iload_n 1, 1) := by decide +kernel
theorem dX12_told_19 : decode cX12_told 19 = .ok (.iconst 3, 1) := by decide +kernel
theorem dX12_told_20 : decode cX12_told 20 = .ok (.if_icmp .ne 10, 3) := by decide +kernel
theorem dX12_told_23 : decode cX12_told 23 = .ok (.aload_n 0, 1) := by decide +kernel
theorem dX12_told_24 : decode cX12_told 24 = .ok (.invokevirtual 141, 3) := by decide +kernel
theorem dX12_told_27 : decode cX12_told 27 = .ok (.goto 16, 3) := by decide +kernel
theorem dX12_told_30 : decode cX12_told 30 = .ok (.iload_n 1, 1) := by decide +kernel
theorem dX12_told_31 : decode cX12_told 31 = .ok (.iconst 4, 1) := by decide +kernel
theorem dX12_told_32 : decode cX12_told 32 = .ok (.if_icmp .ne 10, 3) := by decide +kernel
theorem dX12_told_35 : decode cX12_told 35 = .ok (.aload_n 0, 1) := by decide +kernel
theorem dX12_told_36 : decode cX12_told 36 = .ok (.invokevirtual 160, 3) := by decide +kernel
theorem dX12_told_39 : decode cX12_told 39 = .ok (.goto 4, 3) := by decide +kernel
theorem dX12_told_42 : decode cX12_told 42 = .ok (.iconst (-1), 1) := by decide +kernel
theorem dX12_told_43 : decode cX12_told 43 = .ok (.ireturn, 1) := by decide +kernel
theorem dX12_tires_0 : decode cX12_tires 0 = .ok (.aload_n 0, 1) := by decide +kernel
theorem dX12_tires_1 : decode cX12_tires 1 = .ok (.getfield 9, 3) := by decide +kernel
theorem dX12_tires_4 : decode cX12_tires 4 = .ok (.iconst 2, 1) := by decide +kernel
theorem dX12_tires_5 : decode cX12_tires 5 = .ok (.aload_n 0, 1) := by decide +kernel
theorem dX12_tires_6 : decode cX12_tires 6 = .ok (.getfield 9, 3) := by decide +kernel
theorem dX12_tires_9 : decode cX12_tires 9 = .ok (.iconst 2, 1) := by decide +kernel
theorem dX12_tires_10 : decode cX12_tires 10 = .ok (.iaload, 1) := by decide +kernel
theorem dX12_tires_11 : decode cX12_tires 11 = .ok (.iload_n 1, 1) := by decide +kernel
theorem dX12_tires_12 : decode cX12_tires 12 = .ok (.iadd, 1) := by decide +kernel
theorem dX12_tires_13 : decode cX12_tires 13 = .ok (.iconst 0, 1) := by decide +kernel
theorem dX12_tires_14 : decode cX12_tires 14 = .ok (.bipush 99, 2) := by decide +kernel
theorem dX12_tires_16 : decode cX12_tires 16 = .ok (.invokestatic 130, 3) := by decide +kernel
theorem dX12_tires_19 : decode cX12_tires 19 = .ok (.iastore, 1) := by decide +kernel
theorem dX12_tires_20 : decode cX12_tires 20 = .ok (.return_, 1) := by decide +kernel
theorem dX12_isLate_0 : decode cX12_isLate 0 = .ok (.aload_n 0, 1) := by decide +kernel
theorem dX12_isLate_1 : decode cX12_isLate 1 = .ok (.getfield 9, 3) := by decide +kernel
theorem dX12_isLate_4 : decode cX12_isLate 4 = .ok (.iconst 0, 1) := by decide +kernel
theorem dX12_isLate_5 : decode cX12_isLate 5 = .ok (.iaload, 1) := by decide +kernel
theorem dX12_isLate_6 : decode cX12_isLate 6 = .ok (.ldc 163, 2) := by decide +kernel
theorem dX12_isLate_8 : decode cX12_isLate 8 = .ok (.if_icmp .le 7, 3) := by decide +kernel
theorem dX12_isLate_11 : decode cX12_isLate 11 = .ok (.iconst 1, 1) := by decide +kernel
theorem dX12_isLate_12 : decode cX12_isLate 12 = .ok (.goto 4, 3) := by decide +kernel
theorem dX12_isLate_15 : decode cX12_isLate 15 = .ok (.iconst 0, 1) := by decide +kernel
theorem dX12_isLate_16 : decode cX12_isLate 16 = .ok (.ireturn, 1) := by decide +kernel
theorem dX12_flawBy_0 : decode cX12_flawBy 0 = .ok (.iload_n 2, 1) := by decide +kernel
theorem dX12_flawBy_1 : decode cX12_flawBy 1 = .ok (.aload_n 0, 1) := by decide +kernel
theorem dX12_flawBy_2 : decode cX12_flawBy 2 = .ok (.iload_n 1, 1) := by decide +kernel
theorem dX12_flawBy_3 : decode cX12_flawBy 3 = .ok (.invokevirtual 153, 3) := by decide +kernel
theorem dX12_flawBy_6 : decode cX12_flawBy 6 = .ok (.if_icmp .ge 11, 3) := by decide +kernel
theorem dX12_flawBy_9 : decode cX12_flawBy 9 = .ok (.iload_n 2, 1) := by decide +kernel
theorem dX12_flawBy_10 : decode cX12_flawBy 10 = .ok (.iconst 3, 1) := by decide +kernel
theorem dX12_flawBy_11 : decode cX12_flawBy 11 = .ok (.irem, 1) := by decide +kernel
theorem dX12_flawBy_12 : decode cX12_flawBy 12 = .ok (.iconst 1, 1) := by decide +kernel
theorem dX12_flawBy_13 : decode cX12_flawBy 13 = .ok (.iadd, 1) := by decide +kernel
theorem dX12_flawBy_14 : decode cX12_flawBy 14 = .ok (.goto 4, 3) := by decide +kernel
theorem dX12_flawBy_17 : decode cX12_flawBy 17 = .ok (.iconst 0, 1) := by decide +kernel
theorem dX12_flawBy_18 : decode cX12_flawBy 18 = .ok (.istore_n 3, 1) := by decide +kernel
theorem dX12_flawBy_19 : decode cX12_flawBy 19 = .ok (.iload_n 3, 1) := by decide +kernel
theorem dX12_flawBy_20 : decode cX12_flawBy 20 = .ok (.iconst 2, 1) := by decide +kernel
theorem dX12_flawBy_21 : decode cX12_flawBy 21 = .ok (.if_icmp .ne 20, 3) := by decide +kernel
theorem dX12_flawBy_24 : decode cX12_flawBy 24 = .ok (.aload_n 0, 1) := by decide +kernel
theorem dX12_flawBy_25 : decode cX12_flawBy 25 = .ok (.getfield 9, 3) := by decide +kernel
theorem dX12_flawBy_28 : decode cX12_flawBy 28 = .ok (.bipush 50, 2) := by decide +kernel
theorem dX12_flawBy_30 : decode cX12_flawBy 30 = .ok (.iload_n 1, 1) := by decide +kernel
theorem dX12_flawBy_31 : decode cX12_flawBy 31 = .ok (.iadd, 1) := by decide +kernel
theorem dX12_flawBy_32 : decode cX12_flawBy 32 = .ok (.iaload, 1) := by decide +kernel
theorem dX12_flawBy_33 : decode cX12_flawBy 33 = .ok (.iconst 5, 1) := by decide +kernel
theorem dX12_flawBy_34 : decode cX12_flawBy 34 = .ok (.if_icmp .ne 7, 3) := by decide +kernel
theorem dX12_flawBy_37 : decode cX12_flawBy 37 = .ok (.iconst 1, 1) := by decide +kernel
theorem dX12_flawBy_38 : decode cX12_flawBy 38 = .ok (.goto 4, 3) := by decide +kernel
theorem dX12_flawBy_41 : decode cX12_flawBy 41 = .ok (.iload_n 3, 1) := by decide +kernel
theorem dX12_flawBy_42 : decode cX12_flawBy 42 = .ok (.ireturn, 1) := by decide +kernel
theorem dX12_cutsOne_0 : decode cX12_cutsOne 0 = .ok (.aload_n 0, 1) := by decide +kernel
theorem dX12_cutsOne_1 : decode cX12_cutsOne 1 = .ok (.getfield 9, 3) := by decide +kernel
theorem dX12_cutsOne_4 : decode cX12_cutsOne 4 = .ok (.bipush 19, 2) := by decide +kernel
theorem dX12_cutsOne_6 : decode cX12_cutsOne 6 = .ok (.iload_n 1, 1) := by decide +kernel
theorem dX12_cutsOne_7 : decode cX12_cutsOne 7 = .ok (.iadd, 1) := by decide +kernel
theorem dX12_cutsOne_8 : decode cX12_cutsOne 8 = .ok (.aload_n 0, 1) := by decide +kernel
theorem dX12_cutsOne_9 : decode cX12_cutsOne 9 = .ok (.iload_n 1, 1) := by decide +kernel
theorem dX12_cutsOne_10 : decode cX12_cutsOne 10 = .ok (.iload_n 2, 1) := by decide +kernel
theorem dX12_cutsOne_11 : decode cX12_cutsOne 11 = .ok (.invokevirtual 164, 3) := by decide +kernel
theorem dX12_cutsOne_14 : decode cX12_cutsOne 14 = .ok (.iastore, 1) := by decide +kernel
theorem dX12_cutsOne_15 : decode cX12_cutsOne 15 = .ok (.aload_n 0, 1) := by decide +kernel
theorem dX12_cutsOne_16 : decode cX12_cutsOne 16 = .ok (.getfield 9, 3) := by decide +kernel
theorem dX12_cutsOne_19 : decode cX12_cutsOne 19 = .ok (.bipush 11, 2) := by decide +kernel
theorem dX12_cutsOne_21 : decode cX12_cutsOne 21 = .ok (.iload_n 1, 1) := by decide +kernel
theorem dX12_cutsOne_22 : decode cX12_cutsOne 22 = .ok (.iadd, 1) := by decide +kernel
theorem dX12_cutsOne_23 : decode cX12_cutsOne 23 = .ok (.iconst 1, 1) := by decide +kernel
theorem dX12_cutsOne_24 : decode cX12_cutsOne 24 = .ok (.iastore, 1) := by decide +kernel
theorem dX12_cutsOne_25 : decode cX12_cutsOne 25 = .ok (.aload_n 0, 1) := by decide +kernel
theorem dX12_cutsOne_26 : decode cX12_cutsOne 26 = .ok (.getfield 9, 3) := by decide +kernel
theorem dX12_cutsOne_29 : decode cX12_cutsOne 29 = .ok (.bipush 27, 2) := by decide +kernel
theorem dX12_cutsOne_31 : decode cX12_cutsOne 31 = .ok (.iload_n 1, 1) := by decide +kernel
theorem dX12_cutsOne_32 : decode cX12_cutsOne 32 = .ok (.iadd, 1) := by decide +kernel
theorem dX12_cutsOne_33 : decode cX12_cutsOne 33 = .ok (.iconst 0, 1) := by decide +kernel
theorem dX12_cutsOne_34 : decode cX12_cutsOne 34 = .ok (.iastore, 1) := by decide +kernel
theorem dX12_cutsOne_35 : decode cX12_cutsOne 35 = .ok (.aload_n 0, 1) := by decide +kernel
theorem dX12_cutsOne_36 : decode cX12_cutsOne 36 = .ok (.getfield 9, 3) := by decide +kernel
theorem dX12_cutsOne_39 : decode cX12_cutsOne 39 = .ok (.bipush 35, 2) := by decide +kernel
theorem dX12_cutsOne_41 : decode cX12_cutsOne 41 = .ok (.iload_n 1, 1) := by decide +kernel
theorem dX12_cutsOne_42 : decode cX12_cutsOne 42 = .ok (.iadd, 1) := by decide +kernel
theorem dX12_cutsOne_43 : decode cX12_cutsOne 43 = .ok (.iconst 0, 1) := by decide +kernel
theorem dX12_cutsOne_44 : decode cX12_cutsOne 44 = .ok (.iastore, 1) := by decide +kernel
theorem dX12_cutsOne_45 : decode cX12_cutsOne 45 = .ok (.aload_n 0, 1) := by decide +kernel
theorem dX12_cutsOne_46 : decode cX12_cutsOne 46 = .ok (.getfield 9, 3) := by decide +kernel
theorem dX12_cutsOne_49 : decode cX12_cutsOne 49 = .ok (.iconst 0, 1) := by decide +kernel
theorem dX12_cutsOne_50 : decode cX12_cutsOne 50 = .ok (.dup2, 1) := by decide +kernel
theorem dX12_cutsOne_51 : decode cX12_cutsOne 51 = .ok (.iaload, 1) := by decide +kernel
theorem dX12_cutsOne_52 : decode cX12_cutsOne 52 = .ok (.aload_n 0, 1) := by decide +kernel
theorem dX12_cutsOne_53 : decode cX12_cutsOne 53 = .ok (.iload_n 1, 1) := by decide +kernel
theorem dX12_cutsOne_54 : decode cX12_cutsOne 54 = .ok (.invokevirtual 157, 3) := by decide +kernel
theorem dX12_cutsOne_57 : decode cX12_cutsOne 57 = .ok (.iadd, 1) := by decide +kernel
theorem dX12_cutsOne_58 : decode cX12_cutsOne 58 = .ok (.iastore, 1) := by decide +kernel
theorem dX12_cutsOne_59 : decode cX12_cutsOne 59 = .ok (.aload_n 0, 1) := by decide +kernel
theorem dX12_cutsOne_60 : decode cX12_cutsOne 60 = .ok (.aload_n 0, 1) := by decide +kernel
theorem dX12_cutsOne_61 : decode cX12_cutsOne 61 = .ok (.iload_n 1, 1) := by decide +kernel
theorem dX12_cutsOne_62 : decode cX12_cutsOne 62 = .ok (.invokevirtual 157, 3) := by decide +kernel
theorem dX12_cutsOne_65 : decode cX12_cutsOne 65 = .ok (.iconst 2, 1) := by decide +kernel
theorem dX12_cutsOne_66 : decode cX12_cutsOne 66 = .ok (.idiv, 1) := by decide +kernel
theorem dX12_cutsOne_67 : decode cX12_cutsOne 67 = .ok (.invokevirtual 167, 3) := by decide +kernel
theorem dX12_cutsOne_70 : decode cX12_cutsOne 70 = .ok (.return_, 1) := by decide +kernel
theorem dX12_mendsOne_0 : decode cX12_mendsOne 0 = .ok (.aload_n 0, 1) := by decide +kernel
theorem dX12_mendsOne_1 : decode cX12_mendsOne 1 = .ok (.getfield 9, 3) := by decide +kernel
theorem dX12_mendsOne_4 : decode cX12_mendsOne 4 = .ok (.iconst 0, 1) := by decide +kernel
theorem dX12_mendsOne_5 : decode cX12_mendsOne 5 = .ok (.dup2, 1) := by decide +kernel
theorem dX12_mendsOne_6 : decode cX12_mendsOne 6 = .ok (.iaload, 1) := by decide +kernel
theorem dX12_mendsOne_7 : decode cX12_mendsOne 7 = .ok (.aload_n 0, 1) := by decide +kernel
theorem dX12_mendsOne_8 : decode cX12_mendsOne 8 = .ok (.invokevirtual 160, 3) := by decide +kernel
theorem dX12_mendsOne_11 : decode cX12_mendsOne 11 = .ok (.iadd, 1) := by decide +kernel
theorem dX12_mendsOne_12 : decode cX12_mendsOne 12 = .ok (.iastore, 1) := by decide +kernel
theorem dX12_mendsOne_13 : decode cX12_mendsOne 13 = .ok (.aload_n 0, 1) := by decide +kernel
theorem dX12_mendsOne_14 : decode cX12_mendsOne 14 = .ok (.getfield 9, 3) := by decide +kernel
theorem dX12_mendsOne_17 : decode cX12_mendsOne 17 = .ok (.bipush 19, 2) := by decide +kernel
theorem dX12_mendsOne_19 : decode cX12_mendsOne 19 = .ok (.iload_n 1, 1) := by decide +kernel
theorem dX12_mendsOne_20 : decode cX12_mendsOne 20 = .ok (.iadd, 1) := by decide +kernel
theorem dX12_mendsOne_21 : decode cX12_mendsOne 21 = .ok (.iconst 0, 1) := by decide +kernel
theorem dX12_mendsOne_22 : decode cX12_mendsOne 22 = .ok (.iastore, 1) := by decide +kernel
theorem dX12_mendsOne_23 : decode cX12_mendsOne 23 = .ok (.aload_n 0, 1) := by decide +kernel
theorem dX12_mendsOne_24 : decode cX12_mendsOne 24 = .ok (.getfield 9, 3) := by decide +kernel
theorem dX12_mendsOne_27 : decode cX12_mendsOne 27 = .ok (.bipush 35, 2) := by decide +kernel
theorem dX12_mendsOne_29 : decode cX12_mendsOne 29 = .ok (.iload_n 1, 1) := by decide +kernel
theorem dX12_mendsOne_30 : decode cX12_mendsOne 30 = .ok (.iadd, 1) := by decide +kernel
theorem dX12_mendsOne_31 : decode cX12_mendsOne 31 = .ok (.dup2, 1) := by decide +kernel
theorem dX12_mendsOne_32 : decode cX12_mendsOne 32 = .ok (.iaload, 1) := by decide +kernel
theorem dX12_mendsOne_33 : decode cX12_mendsOne 33 = .ok (.aload_n 0, 1) := by decide +kernel
theorem dX12_mendsOne_34 : decode cX12_mendsOne 34 = .ok (.getfield 9, 3) := by decide +kernel
theorem dX12_mendsOne_37 : decode cX12_mendsOne 37 = .ok (.bipush 35, 2) := by decide +kernel
theorem dX12_mendsOne_39 : decode cX12_mendsOne 39 = .ok (.iload_n 1, 1) := by decide +kernel
theorem dX12_mendsOne_40 : decode cX12_mendsOne 40 = .ok (.iadd, 1) := by decide +kernel
theorem dX12_mendsOne_41 : decode cX12_mendsOne 41 = .ok (.iaload, 1) := by decide +kernel
theorem dX12_mendsOne_42 : decode cX12_mendsOne 42 = .ok (.bipush 9, 2) := by decide +kernel
theorem dX12_mendsOne_44 : decode cX12_mendsOne 44 = .ok (.if_icmp .ge 7, 3) := by decide +kernel
theorem dX12_mendsOne_47 : decode cX12_mendsOne 47 = .ok (.iconst 1, 1) := by decide +kernel
theorem dX12_mendsOne_48 : decode cX12_mendsOne 48 = .ok (.goto 4, 3) := by decide +kernel
theorem dX12_mendsOne_51 : decode cX12_mendsOne 51 = .ok (.iconst 0, 1) := by decide +kernel
theorem dX12_mendsOne_52 : decode cX12_mendsOne 52 = .ok (.iadd, 1) := by decide +kernel
theorem dX12_mendsOne_53 : decode cX12_mendsOne 53 = .ok (.iastore, 1) := by decide +kernel
theorem dX12_mendsOne_54 : decode cX12_mendsOne 54 = .ok (.aload_n 0, 1) := by decide +kernel
theorem dX12_mendsOne_55 : decode cX12_mendsOne 55 = .ok (.getfield 9, 3) := by decide +kernel
theorem dX12_mendsOne_58 : decode cX12_mendsOne 58 = .ok (.bipush 27, 2) := by decide +kernel
theorem dX12_mendsOne_60 : decode cX12_mendsOne 60 = .ok (.iload_n 1, 1) := by decide +kernel
theorem dX12_mendsOne_61 : decode cX12_mendsOne 61 = .ok (.iadd, 1) := by decide +kernel
theorem dX12_mendsOne_62 : decode cX12_mendsOne 62 = .ok (.iconst 0, 1) := by decide +kernel
theorem dX12_mendsOne_63 : decode cX12_mendsOne 63 = .ok (.iastore, 1) := by decide +kernel
theorem dX12_mendsOne_64 : decode cX12_mendsOne 64 = .ok (.aload_n 0, 1) := by decide +kernel
theorem dX12_mendsOne_65 : decode cX12_mendsOne 65 = .ok (.iconst 5, 1) := by decide +kernel
theorem dX12_mendsOne_66 : decode cX12_mendsOne 66 = .ok (.invokevirtual 167, 3) := by decide +kernel
theorem dX12_mendsOne_69 : decode cX12_mendsOne 69 = .ok (.return_, 1) := by decide +kernel
theorem dX12_goesOver_0 : decode cX12_goesOver 0 = .ok (.aload_n 0, 1) := by decide +kernel
theorem dX12_goesOver_1 : decode cX12_goesOver 1 = .ok (.getfield 9, 3) := by decide +kernel
theorem dX12_goesOver_4 : decode cX12_goesOver 4 = .ok (.iconst 0, 1) := by decide +kernel
theorem dX12_goesOver_5 : decode cX12_goesOver 5 = .ok (.dup2, 1) := by decide +kernel
theorem dX12_goesOver_6 : decode cX12_goesOver 6 = .ok (.iaload, 1) := by decide +kernel
theorem dX12_goesOver_7 : decode cX12_goesOver 7 = .ok (.aload_n 0, 1) := by decide +kernel
theorem dX12_goesOver_8 : decode cX12_goesOver 8 = .ok (.iload_n 1, 1) := by decide +kernel
theorem dX12_goesOver_9 : decode cX12_goesOver 9 = .ok (.invokevirtual 157, 3) := by decide +kernel
theorem dX12_goesOver_12 : decode cX12_goesOver 12 = .ok (.iconst 2, 1) := by decide +kernel
theorem dX12_goesOver_13 : decode cX12_goesOver 13 = .ok (.idiv, 1) := by decide +kernel
theorem dX12_goesOver_14 : decode cX12_goesOver 14 = .ok (.iadd, 1) := by decide +kernel
theorem dX12_goesOver_15 : decode cX12_goesOver 15 = .ok (.iastore, 1) := by decide +kernel
theorem dX12_goesOver_16 : decode cX12_goesOver 16 = .ok (.aload_n 0, 1) := by decide +kernel
theorem dX12_goesOver_17 : decode cX12_goesOver 17 = .ok (.getfield 9, 3) := by decide +kernel
theorem dX12_goesOver_20 : decode cX12_goesOver 20 = .ok (.bipush 27, 2) := by decide +kernel
theorem dX12_goesOver_22 : decode cX12_goesOver 22 = .ok (.iload_n 1, 1) := by decide +kernel
theorem dX12_goesOver_23 : decode cX12_goesOver 23 = .ok (.iadd, 1) := by decide +kernel
theorem dX12_goesOver_24 : decode cX12_goesOver 24 = .ok (.iconst 0, 1) := by decide +kernel
theorem dX12_goesOver_25 : decode cX12_goesOver 25 = .ok (.iastore, 1) := by decide +kernel
theorem dX12_goesOver_26 : decode cX12_goesOver 26 = .ok (.aload_n 0, 1) := by decide +kernel
theorem dX12_goesOver_27 : decode cX12_goesOver 27 = .ok (.getfield 9, 3) := by decide +kernel
theorem dX12_goesOver_30 : decode cX12_goesOver 30 = .ok (.iconst 3, 1) := by decide +kernel
theorem dX12_goesOver_31 : decode cX12_goesOver 31 = .ok (.iload_n 1, 1) := by decide +kernel
theorem dX12_goesOver_32 : decode cX12_goesOver 32 = .ok (.iadd, 1) := by decide +kernel
theorem dX12_goesOver_33 : decode cX12_goesOver 33 = .ok (.dup2, 1) := by decide +kernel
theorem dX12_goesOver_34 : decode cX12_goesOver 34 = .ok (.iaload, 1) := by decide +kernel
theorem dX12_goesOver_35 : decode cX12_goesOver 35 = .ok (.aload_n 0, 1) := by decide +kernel
theorem dX12_goesOver_36 : decode cX12_goesOver 36 = .ok (.getfield 9, 3) := by decide +kernel
theorem dX12_goesOver_39 : decode cX12_goesOver 39 = .ok (.iconst 3, 1) := by decide +kernel
theorem dX12_goesOver_40 : decode cX12_goesOver 40 = .ok (.iload_n 1, 1) := by decide +kernel
theorem dX12_goesOver_41 : decode cX12_goesOver 41 = .ok (.iadd, 1) := by decide +kernel
theorem dX12_goesOver_42 : decode cX12_goesOver 42 = .ok (.iaload, 1) := by decide +kernel
theorem dX12_goesOver_43 : decode cX12_goesOver 43 = .ok (.bipush 9, 2) := by decide +kernel
theorem dX12_goesOver_45 : decode cX12_goesOver 45 = .ok (.if_icmp .ge 7, 3) := by decide +kernel
theorem dX12_goesOver_48 : decode cX12_goesOver 48 = .ok (.iconst 1, 1) := by decide +kernel
theorem dX12_goesOver_49 : decode cX12_goesOver 49 = .ok (.goto 4, 3) := by decide +kernel
theorem dX12_goesOver_52 : decode cX12_goesOver 52 = .ok (.iconst 0, 1) := by decide +kernel
theorem dX12_goesOver_53 : decode cX12_goesOver 53 = .ok (.iadd, 1) := by decide +kernel
theorem dX12_goesOver_54 : decode cX12_goesOver 54 = .ok (.iastore, 1) := by decide +kernel
theorem dX12_goesOver_55 : decode cX12_goesOver 55 = .ok (.aload_n 0, 1) := by decide +kernel
theorem dX12_goesOver_56 : decode cX12_goesOver 56 = .ok (.iconst 3, 1) := by decide +kernel
theorem dX12_goesOver_57 : decode cX12_goesOver 57 = .ok (.invokevirtual 167, 3) := by decide +kernel
theorem dX12_goesOver_60 : decode cX12_goesOver 60 = .ok (.return_, 1) := by decide +kernel
theorem dX12_rests_0 : decode cX12_rests 0 = .ok (.aload_n 0, 1) := by decide +kernel
theorem dX12_rests_1 : decode cX12_rests 1 = .ok (.getfield 9, 3) := by decide +kernel
theorem dX12_rests_4 : decode cX12_rests 4 = .ok (.iconst 0, 1) := by decide +kernel
theorem dX12_rests_5 : decode cX12_rests 5 = .ok (.dup2, 1) := by decide +kernel
theorem dX12_rests_6 : decode cX12_rests 6 = .ok (.iaload, 1) := by decide +kernel
theorem dX12_rests_7 : decode cX12_rests 7 = .ok (.iload_n 1, 1) := by decide +kernel
theorem dX12_rests_8 : decode cX12_rests 8 = .ok (.iadd, 1) := by decide +kernel
theorem dX12_rests_9 : decode cX12_rests 9 = .ok (.iastore, 1) := by decide +kernel
theorem dX12_rests_10 : decode cX12_rests 10 = .ok (.aload_n 0, 1) := by decide +kernel
theorem dX12_rests_11 : decode cX12_rests 11 = .ok (.bipush (-2), 2) := by decide +kernel
theorem dX12_rests_13 : decode cX12_rests 13 = .ok (.iload_n 1, 1) := by decide +kernel
theorem dX12_rests_14 : decode cX12_rests 14 = .ok (.imul, 1) := by decide +kernel
theorem dX12_rests_15 : decode cX12_rests 15 = .ok (.invokevirtual 167, 3) := by decide +kernel
theorem dX12_rests_18 : decode cX12_rests 18 = .ok (.return_, 1) := by decide +kernel
theorem dX12_prints_0 : decode cX12_prints 0 = .ok (.aload_n 0, 1) := by decide +kernel
theorem dX12_prints_1 : decode cX12_prints 1 = .ok (.getfield 9, 3) := by decide +kernel
theorem dX12_prints_4 : decode cX12_prints 4 = .ok (.iconst 1, 1) := by decide +kernel
theorem dX12_prints_5 : decode cX12_prints 5 = .ok (.dup2, 1) := by decide +kernel
theorem dX12_prints_6 : decode cX12_prints 6 = .ok (.iaload, 1) := by decide +kernel
theorem dX12_prints_7 : decode cX12_prints 7 = .ok (.iload_n 1, 1) := by decide +kernel
theorem dX12_prints_8 : decode cX12_prints 8 = .ok (.iadd, 1) := by decide +kernel
theorem dX12_prints_9 : decode cX12_prints 9 = .ok (.iastore, 1) := by decide +kernel
theorem dX12_prints_10 : decode cX12_prints 10 = .ok (.iconst 0, 1) := by decide +kernel
theorem dX12_prints_11 : decode cX12_prints 11 = .ok (.istore_n 2, 1) := by decide +kernel
theorem dX12_prints_12 : decode cX12_prints 12 = .ok (.iload_n 2, 1) := by decide +kernel
theorem dX12_prints_13 : decode cX12_prints 13 = .ok (.aload_n 0, 1) := by decide +kernel
theorem dX12_prints_14 : decode cX12_prints 14 = .ok (.getfield 9, 3) := by decide +kernel
theorem dX12_prints_17 : decode cX12_prints 17 = .ok (.bipush 43, 2) := by decide +kernel
theorem dX12_prints_19 : decode cX12_prints 19 = .ok (.iaload, 1) := by decide +kernel
theorem dX12_prints_20 : decode cX12_prints 20 = .ok (.if_icmp .ge 34, 3) := by decide +kernel
theorem dX12_prints_23 : decode cX12_prints 23 = .ok (.aload_n 0, 1) := by decide +kernel
theorem dX12_prints_24 : decode cX12_prints 24 = .ok (.getfield 9, 3) := by decide +kernel
theorem dX12_prints_27 : decode cX12_prints 27 = .ok (.bipush 27, 2) := by decide +kernel
theorem dX12_prints_29 : decode cX12_prints 29 = .ok (.iload_n 2, 1) := by decide +kernel
theorem dX12_prints_30 : decode cX12_prints 30 = .ok (.iadd, 1) := by decide +kernel
theorem dX12_prints_31 : decode cX12_prints 31 = .ok (.dup2, 1) := by decide +kernel
theorem dX12_prints_32 : decode cX12_prints 32 = .ok (.iaload, 1) := by decide +kernel
theorem dX12_prints_33 : decode cX12_prints 33 = .ok (.aload_n 0, 1) := by decide +kernel
theorem dX12_prints_34 : decode cX12_prints 34 = .ok (.iload_n 2, 1) := by decide +kernel
theorem dX12_prints_35 : decode cX12_prints 35 = .ok (.invokevirtual 137, 3) := by decide +kernel
theorem dX12_prints_38 : decode cX12_prints 38 = .ok (.ifCond .eq 7, 3) := by decide +kernel
theorem dX12_prints_41 : decode cX12_prints 41 = .ok (.iload_n 1, 1) := by decide +kernel
theorem dX12_prints_42 : decode cX12_prints 42 = .ok (.goto 4, 3) := by decide +kernel
theorem dX12_prints_45 : decode cX12_prints 45 = .ok (.iconst 0, 1) := by decide +kernel
theorem dX12_prints_46 : decode cX12_prints 46 = .ok (.iadd, 1) := by decide +kernel
theorem dX12_prints_47 : decode cX12_prints 47 = .ok (.iastore, 1) := by decide +kernel
theorem dX12_prints_48 : decode cX12_prints 48 = .ok (.iinc 2 1, 3) := by decide +kernel
theorem dX12_prints_51 : decode cX12_prints 51 = .ok (.goto (-39), 3) := by decide +kernel
theorem dX12_prints_54 : decode cX12_prints 54 = .ok (.return_, 1) := by decide +kernel
theorem dX12_cut_0 : decode cX12_cut 0 = .ok (.aload_n 0, 1) := by decide +kernel
theorem dX12_cut_1 : decode cX12_cut 1 = .ok (.iload_n 1, 1) := by decide +kernel
theorem dX12_cut_2 : decode cX12_cut 2 = .ok (.invokevirtual 150, 3) := by decide +kernel
theorem dX12_cut_5 : decode cX12_cut 5 = .ok (.ifCond .ne 5, 3) := by decide +kernel
theorem dX12_cut_8 : decode cX12_cut 8 = .ok (.iconst (-1), 1) := by decide +kernel
theorem dX12_cut_9 : decode cX12_cut 9 = .ok (.ireturn, 1) := by decide +kernel
theorem dX12_cut_10 : decode cX12_cut 10 = .ok (.iload_n 2, 1) := by decide +kernel
theorem dX12_cut_11 : decode cX12_cut 11 = .ok (.iconst 0, 1) := by decide +kernel
theorem dX12_cut_12 : decode cX12_cut 12 = .ok (.bipush 99, 2) := by decide +kernel
theorem dX12_cut_14 : decode cX12_cut 14 = .ok (.invokestatic 41, 3) := by decide +kernel
theorem dX12_cut_17 : decode cX12_cut 17 = .ok (.ifCond .ne 6, 3) := by decide +kernel
theorem dX12_cut_20 : decode cX12_cut 20 = .ok (.bipush (-2), 2) := by decide +kernel
theorem dX12_cut_22 : decode cX12_cut 22 = .ok (.ireturn, 1) := by decide +kernel
theorem dX12_cut_23 : decode cX12_cut 23 = .ok (.aload_n 0, 1) := by decide +kernel
theorem dX12_cut_24 : decode cX12_cut 24 = .ok (.iload_n 1, 1) := by decide +kernel
theorem dX12_cut_25 : decode cX12_cut 25 = .ok (.invokevirtual 137, 3) := by decide +kernel
theorem dX12_cut_28 : decode cX12_cut 28 = .ok (.ifCond .ne 10, 3) := by decide +kernel
theorem dX12_cut_31 : decode cX12_cut 31 = .ok (.aload_n 0, 1) := by decide +kernel
theorem dX12_cut_32 : decode cX12_cut 32 = .ok (.invokevirtual 170, 3) := by decide +kernel
theorem dX12_cut_35 : decode cX12_cut 35 = .ok (.ifCond .eq 6, 3) := by decide +kernel
theorem dX12_cut_38 : decode cX12_cut 38 = .ok (.bipush (-3), 2) := by decide +kernel
theorem dX12_cut_40 : decode cX12_cut 40 = .ok (.ireturn, 1) := by decide +kernel
theorem dX12_cut_41 : decode cX12_cut 41 = .ok (.aload_n 0, 1) := by decide +kernel
theorem dX12_cut_42 : decode cX12_cut 42 = .ok (.iload_n 1, 1) := by decide +kernel
theorem dX12_cut_43 : decode cX12_cut 43 = .ok (.iload_n 2, 1) := by decide +kernel
theorem dX12_cut_44 : decode cX12_cut 44 = .ok (.invokevirtual 174, 3) := by decide +kernel
theorem dX12_cut_47 : decode cX12_cut 47 = .ok (.aload_n 0, 1) := by decide +kernel
theorem dX12_cut_48 : decode cX12_cut 48 = .ok (.getfield 9, 3) := by decide +kernel
theorem dX12_cut_51 : decode cX12_cut 51 = .ok (.bipush 19, 2) := by decide +kernel
theorem dX12_cut_53 : decode cX12_cut 53 = .ok (.iload_n 1, 1) := by decide +kernel
theorem dX12_cut_54 : decode cX12_cut 54 = .ok (.iadd, 1) := by decide +kernel
theorem dX12_cut_55 : decode cX12_cut 55 = .ok (.iaload, 1) := by decide +kernel
theorem dX12_cut_56 : decode cX12_cut 56 = .ok (.ireturn, 1) := by decide +kernel
theorem dX12_rest_0 : decode cX12_rest 0 = .ok (.iload_n 1, 1) := by decide +kernel
theorem dX12_rest_1 : decode cX12_rest 1 = .ok (.iconst 0, 1) := by decide +kernel
theorem dX12_rest_2 : decode cX12_rest 2 = .ok (.bipush 60, 2) := by decide +kernel
theorem dX12_rest_4 : decode cX12_rest 4 = .ok (.invokestatic 41, 3) := by decide +kernel
theorem dX12_rest_7 : decode cX12_rest 7 = .ok (.ifCond .ne 6, 3) := by decide +kernel
theorem dX12_rest_10 : decode cX12_rest 10 = .ok (.bipush (-2), 2) := by decide +kernel
theorem dX12_rest_12 : decode cX12_rest 12 = .ok (.ireturn, 1) := by decide +kernel
theorem dX12_rest_13 : decode cX12_rest 13 = .ok (.aload_n 0, 1) := by decide +kernel
theorem dX12_rest_14 : decode cX12_rest 14 = .ok (.invokevirtual 170, 3) := by decide +kernel
theorem dX12_rest_17 : decode cX12_rest 17 = .ok (.ifCond .eq 6, 3) := by decide +kernel
theorem dX12_rest_20 : decode cX12_rest 20 = .ok (.bipush (-3), 2) := by decide +kernel
theorem dX12_rest_22 : decode cX12_rest 22 = .ok (.ireturn, 1) := by decide +kernel
theorem dX12_rest_23 : decode cX12_rest 23 = .ok (.aload_n 0, 1) := by decide +kernel
theorem dX12_rest_24 : decode cX12_rest 24 = .ok (.iload_n 1, 1) := by decide +kernel
theorem dX12_rest_25 : decode cX12_rest 25 = .ok (.invokevirtual 178, 3) := by decide +kernel
theorem dX12_rest_28 : decode cX12_rest 28 = .ok (.aload_n 0, 1) := by decide +kernel
theorem dX12_rest_29 : decode cX12_rest 29 = .ok (.getfield 9, 3) := by decide +kernel
theorem dX12_rest_32 : decode cX12_rest 32 = .ok (.iconst 2, 1) := by decide +kernel
theorem dX12_rest_33 : decode cX12_rest 33 = .ok (.iaload, 1) := by decide +kernel
theorem dX12_rest_34 : decode cX12_rest 34 = .ok (.ireturn, 1) := by decide +kernel
theorem dX12_mend_0 : decode cX12_mend 0 = .ok (.aload_n 0, 1) := by decide +kernel
theorem dX12_mend_1 : decode cX12_mend 1 = .ok (.iload_n 1, 1) := by decide +kernel
theorem dX12_mend_2 : decode cX12_mend 2 = .ok (.invokevirtual 150, 3) := by decide +kernel
theorem dX12_mend_5 : decode cX12_mend 5 = .ok (.ifCond .ne 5, 3) := by decide +kernel
theorem dX12_mend_8 : decode cX12_mend 8 = .ok (.iconst (-1), 1) := by decide +kernel
theorem dX12_mend_9 : decode cX12_mend 9 = .ok (.ireturn, 1) := by decide +kernel
theorem dX12_mend_10 : decode cX12_mend 10 = .ok (.aload_n 0, 1) := by decide +kernel
theorem dX12_mend_11 : decode cX12_mend 11 = .ok (.iload_n 1, 1) := by decide +kernel
theorem dX12_mend_12 : decode cX12_mend 12 = .ok (.invokevirtual 137, 3) := by decide +kernel
theorem dX12_mend_15 : decode cX12_mend 15 = .ok (.ifCond .eq 24, 3) := by decide +kernel
theorem dX12_mend_18 : decode cX12_mend 18 = .ok (.aload_n 0, 1) := by decide +kernel
theorem dX12_mend_19 : decode cX12_mend 19 = .ok (.getfield 9, 3) := by decide +kernel
theorem dX12_mend_22 : decode cX12_mend 22 = .ok (.bipush 35, 2) := by decide +kernel
theorem dX12_mend_24 : decode cX12_mend 24 = .ok (.iload_n 1, 1) := by decide +kernel
theorem dX12_mend_25 : decode cX12_mend 25 = .ok (.iadd, 1) := by decide +kernel
theorem dX12_mend_26 : decode cX12_mend 26 = .ok (.iaload, 1) := by decide +kernel
theorem dX12_mend_27 : decode cX12_mend 27 = .ok (.bipush 9, 2) := by decide +kernel
theorem dX12_mend_29 : decode cX12_mend 29 = .ok (.if_icmp .eq 10, 3) := by decide +kernel
theorem dX12_mend_32 : decode cX12_mend 32 = .ok (.aload_n 0, 1) := by decide +kernel
theorem dX12_mend_33 : decode cX12_mend 33 = .ok (.invokevirtual 170, 3) := by decide +kernel
theorem dX12_mend_36 : decode cX12_mend 36 = .ok (.ifCond .eq 6, 3) := by decide +kernel
theorem dX12_mend_39 : decode cX12_mend 39 = .ok (.bipush (-3), 2) := by decide +kernel
theorem dX12_mend_41 : decode cX12_mend 41 = .ok (.ireturn, 1) := by decide +kernel
theorem dX12_mend_42 : decode cX12_mend 42 = .ok (.aload_n 0, 1) := by decide +kernel
theorem dX12_mend_43 : decode cX12_mend 43 = .ok (.iload_n 1, 1) := by decide +kernel
theorem dX12_mend_44 : decode cX12_mend 44 = .ok (.invokevirtual 181, 3) := by decide +kernel
theorem dX12_mend_47 : decode cX12_mend 47 = .ok (.aload_n 0, 1) := by decide +kernel
theorem dX12_mend_48 : decode cX12_mend 48 = .ok (.iload_n 1, 1) := by decide +kernel
theorem dX12_mend_49 : decode cX12_mend 49 = .ok (.iconst 0, 1) := by decide +kernel
theorem dX12_mend_50 : decode cX12_mend 50 = .ok (.invokevirtual 147, 3) := by decide +kernel
theorem dX12_mend_53 : decode cX12_mend 53 = .ok (.ireturn, 1) := by decide +kernel
theorem dX12_over_0 : decode cX12_over 0 = .ok (.aload_n 0, 1) := by decide +kernel
theorem dX12_over_1 : decode cX12_over 1 = .ok (.iload_n 1, 1) := by decide +kernel
theorem dX12_over_2 : decode cX12_over 2 = .ok (.invokevirtual 150, 3) := by decide +kernel
theorem dX12_over_5 : decode cX12_over 5 = .ok (.ifCond .ne 5, 3) := by decide +kernel
theorem dX12_over_8 : decode cX12_over 8 = .ok (.iconst (-1), 1) := by decide +kernel
theorem dX12_over_9 : decode cX12_over 9 = .ok (.ireturn, 1) := by decide +kernel
theorem dX12_over_10 : decode cX12_over 10 = .ok (.aload_n 0, 1) := by decide +kernel
theorem dX12_over_11 : decode cX12_over 11 = .ok (.iload_n 1, 1) := by decide +kernel
theorem dX12_over_12 : decode cX12_over 12 = .ok (.invokevirtual 137, 3) := by decide +kernel
theorem dX12_over_15 : decode cX12_over 15 = .ok (.ifCond .eq 10, 3) := by decide +kernel
theorem dX12_over_18 : decode cX12_over 18 = .ok (.aload_n 0, 1) := by decide +kernel
theorem dX12_over_19 : decode cX12_over 19 = .ok (.invokevirtual 170, 3) := by decide +kernel
theorem dX12_over_22 : decode cX12_over 22 = .ok (.ifCond .eq 6, 3) := by decide +kernel
theorem dX12_over_25 : decode cX12_over 25 = .ok (.bipush (-3), 2) := by decide +kernel
theorem dX12_over_27 : decode cX12_over 27 = .ok (.ireturn, 1) := by decide +kernel
theorem dX12_over_28 : decode cX12_over 28 = .ok (.aload_n 0, 1) := by decide +kernel
theorem dX12_over_29 : decode cX12_over 29 = .ok (.iload_n 1, 1) := by decide +kernel
theorem dX12_over_30 : decode cX12_over 30 = .ok (.invokevirtual 184, 3) := by decide +kernel
theorem dX12_over_33 : decode cX12_over 33 = .ok (.aload_n 0, 1) := by decide +kernel
theorem dX12_over_34 : decode cX12_over 34 = .ok (.iload_n 1, 1) := by decide +kernel
theorem dX12_over_35 : decode cX12_over 35 = .ok (.iconst 0, 1) := by decide +kernel
theorem dX12_over_36 : decode cX12_over 36 = .ok (.invokevirtual 147, 3) := by decide +kernel
theorem dX12_over_39 : decode cX12_over 39 = .ok (.ireturn, 1) := by decide +kernel
theorem dX12_printing_0 : decode cX12_printing 0 = .ok (.iconst 0, 1) := by decide +kernel
theorem dX12_printing_1 : decode cX12_printing 1 = .ok (.istore_n 1, 1) := by decide +kernel
theorem dX12_printing_2 : decode cX12_printing 2 = .ok (.iconst 0, 1) := by decide +kernel
theorem dX12_printing_3 : decode cX12_printing 3 = .ok (.istore_n 2, 1) := by decide +kernel
theorem dX12_printing_4 : decode cX12_printing 4 = .ok (.iload_n 2, 1) := by decide +kernel
theorem dX12_printing_5 : decode cX12_printing 5 = .ok (.aload_n 0, 1) := by decide +kernel
theorem dX12_printing_6 : decode cX12_printing 6 = .ok (.getfield 9, 3) := by decide +kernel
theorem dX12_printing_9 : decode cX12_printing 9 = .ok (.bipush 43, 2) := by decide +kernel
theorem dX12_printing_11 : decode cX12_printing 11 = .ok (.iaload, 1) := by decide +kernel
theorem dX12_printing_12 : decode cX12_printing 12 = .ok (.if_icmp .ge 26, 3) := by decide +kernel
theorem dX12_printing_15 : decode cX12_printing 15 = .ok (.iload_n 1, 1) := by decide +kernel
theorem dX12_printing_16 : decode cX12_printing 16 = .ok (.aload_n 0, 1) := by decide +kernel
theorem dX12_printing_17 : decode cX12_printing 17 = .ok (.iload_n 2, 1) := by decide +kernel
theorem dX12_printing_18 : decode cX12_printing 18 = .ok (.iconst 0, 1) := by decide +kernel
theorem dX12_printing_19 : decode cX12_printing 19 = .ok (.invokevirtual 187, 3) := by decide +kernel
theorem dX12_printing_22 : decode cX12_printing 22 = .ok (.ifCond .eq 7, 3) := by decide +kernel
theorem dX12_printing_25 : decode cX12_printing 25 = .ok (.iconst 1, 1) := by decide +kernel
theorem dX12_printing_26 : decode cX12_printing 26 = .ok (.goto 4, 3) := by decide +kernel
theorem dX12_printing_29 : decode cX12_printing 29 = .ok (.iconst 0, 1) := by decide +kernel
theorem dX12_printing_30 : decode cX12_printing 30 = .ok (.iadd, 1) := by decide +kernel
theorem dX12_printing_31 : decode cX12_printing 31 = .ok (.istore_n 1, 1) := by decide +kernel
theorem dX12_printing_32 : decode cX12_printing 32 = .ok (.iinc 2 1, 3) := by decide +kernel
theorem dX12_printing_35 : decode cX12_printing 35 = .ok (.goto (-31), 3) := by decide +kernel
theorem dX12_printing_38 : decode cX12_printing 38 = .ok (.iload_n 1, 1) := by decide +kernel
theorem dX12_printing_39 : decode cX12_printing 39 = .ok (.ireturn, 1) := by decide +kernel
theorem dX12_print_0 : decode cX12_print 0 = .ok (.iload_n 1, 1) := by decide +kernel
theorem dX12_print_1 : decode cX12_print 1 = .ok (.iconst 0, 1) := by decide +kernel
theorem dX12_print_2 : decode cX12_print 2 = .ok (.sipush 999, 3) := by decide +kernel
theorem dX12_print_5 : decode cX12_print 5 = .ok (.invokestatic 41, 3) := by decide +kernel
theorem dX12_print_8 : decode cX12_print 8 = .ok (.ifCond .ne 6, 3) := by decide +kernel
theorem dX12_print_11 : decode cX12_print 11 = .ok (.bipush (-2), 2) := by decide +kernel
theorem dX12_print_13 : decode cX12_print 13 = .ok (.ireturn, 1) := by decide +kernel
theorem dX12_print_14 : decode cX12_print 14 = .ok (.aload_n 0, 1) := by decide +kernel
theorem dX12_print_15 : decode cX12_print 15 = .ok (.iload_n 1, 1) := by decide +kernel
theorem dX12_print_16 : decode cX12_print 16 = .ok (.invokevirtual 191, 3) := by decide +kernel
theorem dX12_print_19 : decode cX12_print 19 = .ok (.aload_n 0, 1) := by decide +kernel
theorem dX12_print_20 : decode cX12_print 20 = .ok (.getfield 9, 3) := by decide +kernel
theorem dX12_print_23 : decode cX12_print 23 = .ok (.iconst 1, 1) := by decide +kernel
theorem dX12_print_24 : decode cX12_print 24 = .ok (.aload_n 0, 1) := by decide +kernel
theorem dX12_print_25 : decode cX12_print 25 = .ok (.getfield 9, 3) := by decide +kernel
theorem dX12_print_28 : decode cX12_print 28 = .ok (.iconst 1, 1) := by decide +kernel
theorem dX12_print_29 : decode cX12_print 29 = .ok (.iaload, 1) := by decide +kernel
theorem dX12_print_30 : decode cX12_print 30 = .ok (.iconst 0, 1) := by decide +kernel
theorem dX12_print_31 : decode cX12_print 31 = .ok (.sipush 9999, 3) := by decide +kernel
theorem dX12_print_34 : decode cX12_print 34 = .ok (.invokestatic 130, 3) := by decide +kernel
theorem dX12_print_37 : decode cX12_print 37 = .ok (.iastore, 1) := by decide +kernel
theorem dX12_print_38 : decode cX12_print 38 = .ok (.iconst 0, 1) := by decide +kernel
theorem dX12_print_39 : decode cX12_print 39 = .ok (.istore_n 2, 1) := by decide +kernel
theorem dX12_print_40 : decode cX12_print 40 = .ok (.iload_n 2, 1) := by decide +kernel
theorem dX12_print_41 : decode cX12_print 41 = .ok (.aload_n 0, 1) := by decide +kernel
theorem dX12_print_42 : decode cX12_print 42 = .ok (.getfield 9, 3) := by decide +kernel
theorem dX12_print_45 : decode cX12_print 45 = .ok (.bipush 43, 2) := by decide +kernel
theorem dX12_print_47 : decode cX12_print 47 = .ok (.iaload, 1) := by decide +kernel
theorem dX12_print_48 : decode cX12_print 48 = .ok (.if_icmp .ge 34, 3) := by decide +kernel
theorem dX12_print_51 : decode cX12_print 51 = .ok (.aload_n 0, 1) := by decide +kernel
theorem dX12_print_52 : decode cX12_print 52 = .ok (.getfield 9, 3) := by decide +kernel
theorem dX12_print_55 : decode cX12_print 55 = .ok (.bipush 27, 2) := by decide +kernel
theorem dX12_print_57 : decode cX12_print 57 = .ok (.iload_n 2, 1) := by decide +kernel
theorem dX12_print_58 : decode cX12_print 58 = .ok (.iadd, 1) := by decide +kernel
theorem dX12_print_59 : decode cX12_print 59 = .ok (.aload_n 0, 1) := by decide +kernel
theorem dX12_print_60 : decode cX12_print 60 = .ok (.getfield 9, 3) := by decide +kernel
theorem dX12_print_63 : decode cX12_print 63 = .ok (.bipush 27, 2) := by decide +kernel
theorem dX12_print_65 : decode cX12_print 65 = .ok (.iload_n 2, 1) := by decide +kernel
theorem dX12_print_66 : decode cX12_print 66 = .ok (.iadd, 1) := by decide +kernel
theorem dX12_print_67 : decode cX12_print 67 = .ok (.iaload, 1) := by decide +kernel
theorem dX12_print_68 : decode cX12_print 68 = .ok (.iconst 0, 1) := by decide +kernel
theorem dX12_print_69 : decode cX12_print 69 = .ok (.sipush 9999, 3) := by decide +kernel
theorem dX12_print_72 : decode cX12_print 72 = .ok (.invokestatic 130, 3) := by decide +kernel
theorem dX12_print_75 : decode cX12_print 75 = .ok (.iastore, 1) := by decide +kernel
theorem dX12_print_76 : decode cX12_print 76 = .ok (.iinc 2 1, 3) := by decide +kernel
theorem dX12_print_79 : decode cX12_print 79 = .ok (.goto (-39), 3) := by decide +kernel
theorem dX12_print_82 : decode cX12_print 82 = .ok (.aload_n 0, 1) := by decide +kernel
theorem dX12_print_83 : decode cX12_print 83 = .ok (.invokevirtual 194, 3) := by decide +kernel
theorem dX12_print_86 : decode cX12_print 86 = .ok (.ireturn, 1) := by decide +kernel
theorem dX12_dark_0 : decode cX12_dark 0 = .ok (.aload_n 0, 1) := by decide +kernel
theorem dX12_dark_1 : decode cX12_dark 1 = .ok (.iload_n 1, 1) := by decide +kernel
theorem dX12_dark_2 : decode cX12_dark 2 = .ok (.invokevirtual 150, 3) := by decide +kernel
theorem dX12_dark_5 : decode cX12_dark 5 = .ok (.ifCond .ne 5, 3) := by decide +kernel
theorem dX12_dark_8 : decode cX12_dark 8 = .ok (.iconst (-1), 1) := by decide +kernel
theorem dX12_dark_9 : decode cX12_dark 9 = .ok (.ireturn, 1) := by decide +kernel
theorem dX12_dark_10 : decode cX12_dark 10 = .ok (.iload_n 2, 1) := by decide +kernel
theorem dX12_dark_11 : decode cX12_dark 11 = .ok (.iconst 0, 1) := by decide +kernel
theorem dX12_dark_12 : decode cX12_dark 12 = .ok (.sipush 999, 3) := by decide +kernel
theorem dX12_dark_15 : decode cX12_dark 15 = .ok (.invokestatic 41, 3) := by decide +kernel
theorem dX12_dark_18 : decode cX12_dark 18 = .ok (.ifCond .eq 12, 3) := by decide +kernel
theorem dX12_dark_21 : decode cX12_dark 21 = .ok (.aload_n 0, 1) := by decide +kernel
theorem dX12_dark_22 : decode cX12_dark 22 = .ok (.iload_n 1, 1) := by decide +kernel
theorem dX12_dark_23 : decode cX12_dark 23 = .ok (.iload_n 2, 1) := by decide +kernel
theorem dX12_dark_24 : decode cX12_dark 24 = .ok (.invokevirtual 147, 3) := by decide +kernel
theorem dX12_dark_27 : decode cX12_dark 27 = .ok (.goto 5, 3) := by decide +kernel
theorem dX12_dark_30 : decode cX12_dark 30 = .ok (.bipush (-2), 2) := by decide +kernel
theorem dX12_dark_32 : decode cX12_dark 32 = .ok (.ireturn, 1) := by decide +kernel
theorem dX12_printsNow_0 : decode cX12_printsNow 0 = .ok (.iconst 0, 1) := by decide +kernel
theorem dX12_printsNow_1 : decode cX12_printsNow 1 = .ok (.istore_n 1, 1) := by decide +kernel
theorem dX12_printsNow_2 : decode cX12_printsNow 2 = .ok (.iconst 0, 1) := by decide +kernel
theorem dX12_printsNow_3 : decode cX12_printsNow 3 = .ok (.istore_n 2, 1) := by decide +kernel
theorem dX12_printsNow_4 : decode cX12_printsNow 4 = .ok (.iload_n 2, 1) := by decide +kernel
theorem dX12_printsNow_5 : decode cX12_printsNow 5 = .ok (.aload_n 0, 1) := by decide +kernel
theorem dX12_printsNow_6 : decode cX12_printsNow 6 = .ok (.getfield 9, 3) := by decide +kernel
theorem dX12_printsNow_9 : decode cX12_printsNow 9 = .ok (.bipush 43, 2) := by decide +kernel
theorem dX12_printsNow_11 : decode cX12_printsNow 11 = .ok (.iaload, 1) := by decide +kernel
theorem dX12_printsNow_12 : decode cX12_printsNow 12 = .ok (.if_icmp .ge 28, 3) := by decide +kernel
theorem dX12_printsNow_15 : decode cX12_printsNow 15 = .ok (.iload_n 1, 1) := by decide +kernel
theorem dX12_printsNow_16 : decode cX12_printsNow 16 = .ok (.aload_n 0, 1) := by decide +kernel
theorem dX12_printsNow_17 : decode cX12_printsNow 17 = .ok (.iload_n 2, 1) := by decide +kernel
theorem dX12_printsNow_18 : decode cX12_printsNow 18 = .ok (.iconst 0, 1) := by decide +kernel
theorem dX12_printsNow_19 : decode cX12_printsNow 19 = .ok (.invokevirtual 187, 3) := by decide +kernel
theorem dX12_printsNow_22 : decode cX12_printsNow 22 = .ok (.ifCond .eq 9, 3) := by decide +kernel
theorem dX12_printsNow_25 : decode cX12_printsNow 25 = .ok (.iconst 1, 1) := by decide +kernel
theorem dX12_printsNow_26 : decode cX12_printsNow 26 = .ok (.iload_n 2, 1) := by decide +kernel
theorem dX12_printsNow_27 : decode cX12_printsNow 27 = .ok (.ishl, 1) := by decide +kernel
theorem dX12_printsNow_28 : decode cX12_printsNow 28 = .ok (.goto 4, 3) := by decide +kernel
theorem dX12_printsNow_31 : decode cX12_printsNow 31 = .ok (.iconst 0, 1) := by decide +kernel
theorem dX12_printsNow_32 : decode cX12_printsNow 32 = .ok (.ior, 1) := by decide +kernel
theorem dX12_printsNow_33 : decode cX12_printsNow 33 = .ok (.istore_n 1, 1) := by decide +kernel
theorem dX12_printsNow_34 : decode cX12_printsNow 34 = .ok (.iinc 2 1, 3) := by decide +kernel
theorem dX12_printsNow_37 : decode cX12_printsNow 37 = .ok (.goto (-33), 3) := by decide +kernel
theorem dX12_printsNow_40 : decode cX12_printsNow 40 = .ok (.iload_n 1, 1) := by decide +kernel
theorem dX12_printsNow_41 : decode cX12_printsNow 41 = .ok (.ireturn, 1) := by decide +kernel
theorem dX12_goodOf_0 : decode cX12_goodOf 0 = .ok (.sipush 999, 3) := by decide +kernel
theorem dX12_goodOf_3 : decode cX12_goodOf 3 = .ok (.istore_n 2, 1) := by decide +kernel
theorem dX12_goodOf_4 : decode cX12_goodOf 4 = .ok (.iload_n 2, 1) := by decide +kernel
theorem dX12_goodOf_5 : decode cX12_goodOf 5 = .ok (.ifCond .lt 71, 3) := by decide +kernel
theorem dX12_goodOf_8 : decode cX12_goodOf 8 = .ok (.iload_n 1, 1) := by decide +kernel
theorem dX12_goodOf_9 : decode cX12_goodOf 9 = .ok (.ifCond .eq 67, 3) := by decide +kernel
theorem dX12_goodOf_12 : decode cX12_goodOf 12 = .ok (.iconst 1, 1) := by decide +kernel
theorem dX12_goodOf_13 : decode cX12_goodOf 13 = .ok (.istore_n 3, 1) := by decide +kernel
theorem dX12_goodOf_14 : decode cX12_goodOf 14 = .ok (.iconst 0, 1) := by decide +kernel
theorem dX12_goodOf_15 : decode cX12_goodOf 15 = .ok (.istore 4, 2) := by decide +kernel
theorem dX12_goodOf_17 : decode cX12_goodOf 17 = .ok (.iload 4, 2) := by decide +kernel
theorem dX12_goodOf_19 : decode cX12_goodOf 19 = .ok (.aload_n 0, 1) := by decide +kernel
theorem dX12_goodOf_20 : decode cX12_goodOf 20 = .ok (.getfield 9, 3) := by decide +kernel
theorem dX12_goodOf_23 : decode cX12_goodOf 23 = .ok (.bipush 43, 2) := by decide +kernel
theorem dX12_goodOf_25 : decode cX12_goodOf 25 = .ok (.iaload, 1) := by decide +kernel
theorem dX12_goodOf_26 : decode cX12_goodOf 26 = .ok (.if_icmp .ge 38, 3) := by decide +kernel
theorem dX12_goodOf_29 : decode cX12_goodOf 29 = .ok (.iload_n 3, 1) := by decide +kernel
theorem dX12_goodOf_30 : decode cX12_goodOf 30 = .ok (.ifCond .eq 34, 3) := by decide +kernel
theorem dX12_goodOf_33 : decode cX12_goodOf 33 = .ok (.iload_n 1, 1) := by decide +kernel
theorem dX12_goodOf_34 : decode cX12_goodOf 34 = .ok (.iload 4, 2) := by decide +kernel
theorem dX12_goodOf_36 : decode cX12_goodOf 36 = .ok (.ishr, 1) := by decide +kernel
theorem dX12_goodOf_37 : decode cX12_goodOf 37 = .ok (.iconst 1, 1) := by decide +kernel
theorem dX12_goodOf_38 : decode cX12_goodOf 38 = .ok (.iand, 1) := by decide +kernel
theorem dX12_goodOf_39 : decode cX12_goodOf 39 = .ok (.ifCond .eq 13, 3) := by decide +kernel
theorem dX12_goodOf_42 : decode cX12_goodOf 42 = .ok (.aload_n 0, 1) := by decide +kernel
theorem dX12_goodOf_43 : decode cX12_goodOf 43 = .ok (.iload 4, 2) := by decide +kernel
theorem dX12_goodOf_45 : decode cX12_goodOf 45 = .ok (.iload_n 2, 1) := by decide +kernel
theorem dX12_goodOf_46 : decode cX12_goodOf 46 = .ok (.invokevirtual 187, 3) := by decide +kernel
theorem dX12_goodOf_49 : decode cX12_goodOf 49 = .ok (.ifCond .eq 7, 3) := by decide +kernel
theorem dX12_goodOf_52 : decode cX12_goodOf 52 = .ok (.iconst 1, 1) := by decide +kernel
theorem dX12_goodOf_53 : decode cX12_goodOf 53 = .ok (.goto 4, 3) := by decide +kernel
theorem dX12_goodOf_56 : decode cX12_goodOf 56 = .ok (.iconst 0, 1) := by decide +kernel
theorem dX12_goodOf_57 : decode cX12_goodOf 57 = .ok (.istore_n 3, 1) := by decide +kernel
theorem dX12_goodOf_58 : decode cX12_goodOf 58 = .ok (.iinc 4 1, 3) := by decide +kernel
theorem dX12_goodOf_61 : decode cX12_goodOf 61 = .ok (.goto (-44), 3) := by decide +kernel
theorem dX12_goodOf_64 : decode cX12_goodOf 64 = .ok (.iload_n 3, 1) := by decide +kernel
theorem dX12_goodOf_65 : decode cX12_goodOf 65 = .ok (.ifCond .eq 5, 3) := by decide +kernel
theorem dX12_goodOf_68 : decode cX12_goodOf 68 = .ok (.iload_n 2, 1) := by decide +kernel
theorem dX12_goodOf_69 : decode cX12_goodOf 69 = .ok (.ireturn, 1) := by decide +kernel
theorem dX12_goodOf_70 : decode cX12_goodOf 70 = .ok (.iinc 2 (-1), 3) := by decide +kernel
theorem dX12_goodOf_73 : decode cX12_goodOf 73 = .ok (.goto (-69), 3) := by decide +kernel
theorem dX12_goodOf_76 : decode cX12_goodOf 76 = .ok (.bipush (-5), 2) := by decide +kernel
theorem dX12_goodOf_78 : decode cX12_goodOf 78 = .ok (.ireturn, 1) := by decide +kernel
theorem dX12_good_0 : decode cX12_good 0 = .ok (.iload_n 1, 1) := by decide +kernel
theorem dX12_good_1 : decode cX12_good 1 = .ok (.iconst (-1), 1) := by decide +kernel
theorem dX12_good_2 : decode cX12_good 2 = .ok (.if_icmp .eq 13, 3) := by decide +kernel
theorem dX12_good_5 : decode cX12_good 5 = .ok (.aload_n 0, 1) := by decide +kernel
theorem dX12_good_6 : decode cX12_good 6 = .ok (.iload_n 1, 1) := by decide +kernel
theorem dX12_good_7 : decode cX12_good 7 = .ok (.invokevirtual 150, 3) := by decide +kernel
theorem dX12_good_10 : decode cX12_good 10 = .ok (.ifCond .ne 5, 3) := by decide +kernel
theorem dX12_good_13 : decode cX12_good 13 = .ok (.iconst (-1), 1) := by decide +kernel
theorem dX12_good_14 : decode cX12_good 14 = .ok (.ireturn, 1) := by decide +kernel
theorem dX12_good_15 : decode cX12_good 15 = .ok (.aload_n 0, 1) := by decide +kernel
theorem dX12_good_16 : decode cX12_good 16 = .ok (.iload_n 1, 1) := by decide +kernel
theorem dX12_good_17 : decode cX12_good 17 = .ok (.iconst (-1), 1) := by decide +kernel
theorem dX12_good_18 : decode cX12_good 18 = .ok (.if_icmp .ne 10, 3) := by decide +kernel
theorem dX12_good_21 : decode cX12_good 21 = .ok (.aload_n 0, 1) := by decide +kernel
theorem dX12_good_22 : decode cX12_good 22 = .ok (.invokevirtual 197, 3) := by decide +kernel
theorem dX12_good_25 : decode cX12_good 25 = .ok (.goto 19, 3) := by decide +kernel
theorem dX12_good_28 : decode cX12_good 28 = .ok (.aload_n 0, 1) := by decide +kernel
theorem dX12_good_29 : decode cX12_good 29 = .ok (.iload_n 1, 1) := by decide +kernel
theorem dX12_good_30 : decode cX12_good 30 = .ok (.iconst 0, 1) := by decide +kernel
theorem dX12_good_31 : decode cX12_good 31 = .ok (.invokevirtual 187, 3) := by decide +kernel
theorem dX12_good_34 : decode cX12_good 34 = .ok (.ifCond .eq 9, 3) := by decide +kernel
theorem dX12_good_37 : decode cX12_good 37 = .ok (.iconst 1, 1) := by decide +kernel
theorem dX12_good_38 : decode cX12_good 38 = .ok (.iload_n 1, 1) := by decide +kernel
theorem dX12_good_39 : decode cX12_good 39 = .ok (.ishl, 1) := by decide +kernel
theorem dX12_good_40 : decode cX12_good 40 = .ok (.goto 4, 3) := by decide +kernel
theorem dX12_good_43 : decode cX12_good 43 = .ok (.iconst 0, 1) := by decide +kernel
theorem dX12_good_44 : decode cX12_good 44 = .ok (.invokevirtual 200, 3) := by decide +kernel
theorem dX12_good_47 : decode cX12_good 47 = .ok (.ireturn, 1) := by decide +kernel
theorem dX12_first_0 : decode cX12_first 0 = .ok (.aload_n 0, 1) := by decide +kernel
theorem dX12_first_1 : decode cX12_first 1 = .ok (.invokevirtual 197, 3) := by decide +kernel
theorem dX12_first_4 : decode cX12_first 4 = .ok (.istore_n 1, 1) := by decide +kernel
theorem dX12_first_5 : decode cX12_first 5 = .ok (.iconst 1, 1) := by decide +kernel
theorem dX12_first_6 : decode cX12_first 6 = .ok (.istore_n 2, 1) := by decide +kernel
theorem dX12_first_7 : decode cX12_first 7 = .ok (.iload_n 2, 1) := by decide +kernel
theorem dX12_first_8 : decode cX12_first 8 = .ok (.sipush 1000, 3) := by decide +kernel
theorem dX12_first_11 : decode cX12_first 11 = .ok (.if_icmp .ge 48, 3) := by decide +kernel
theorem dX12_first_14 : decode cX12_first 14 = .ok (.iconst 0, 1) := by decide +kernel
theorem dX12_first_15 : decode cX12_first 15 = .ok (.istore_n 3, 1) := by decide +kernel
theorem dX12_first_16 : decode cX12_first 16 = .ok (.iload_n 3, 1) := by decide +kernel
theorem dX12_first_17 : decode cX12_first 17 = .ok (.aload_n 0, 1) := by decide +kernel
theorem dX12_first_18 : decode cX12_first 18 = .ok (.getfield 9, 3) := by decide +kernel
theorem dX12_first_21 : decode cX12_first 21 = .ok (.bipush 43, 2) := by decide +kernel
theorem dX12_first_23 : decode cX12_first 23 = .ok (.iaload, 1) := by decide +kernel
theorem dX12_first_24 : decode cX12_first 24 = .ok (.if_icmp .ge 29, 3) := by decide +kernel
theorem dX12_first_27 : decode cX12_first 27 = .ok (.iload_n 1, 1) := by decide +kernel
theorem dX12_first_28 : decode cX12_first 28 = .ok (.iload_n 3, 1) := by decide +kernel
theorem dX12_first_29 : decode cX12_first 29 = .ok (.ishr, 1) := by decide +kernel
theorem dX12_first_30 : decode cX12_first 30 = .ok (.iconst 1, 1) := by decide +kernel
theorem dX12_first_31 : decode cX12_first 31 = .ok (.iand, 1) := by decide +kernel
theorem dX12_first_32 : decode cX12_first 32 = .ok (.iconst 1, 1) := by decide +kernel
theorem dX12_first_33 : decode cX12_first 33 = .ok (.if_icmp .ne 14, 3) := by decide +kernel
theorem dX12_first_36 : decode cX12_first 36 = .ok (.aload_n 0, 1) := by decide +kernel
theorem dX12_first_37 : decode cX12_first 37 = .ok (.iload_n 3, 1) := by decide +kernel
theorem dX12_first_38 : decode cX12_first 38 = .ok (.iload_n 2, 1) := by decide +kernel
theorem dX12_first_39 : decode cX12_first 39 = .ok (.invokevirtual 187, 3) := by decide +kernel
theorem dX12_first_42 : decode cX12_first 42 = .ok (.ifCond .ne 5, 3) := by decide +kernel
theorem dX12_first_45 : decode cX12_first 45 = .ok (.iload_n 3, 1) := by decide +kernel
theorem dX12_first_46 : decode cX12_first 46 = .ok (.ireturn, 1) := by decide +kernel
theorem dX12_first_47 : decode cX12_first 47 = .ok (.iinc 3 1, 3) := by decide +kernel
theorem dX12_first_50 : decode cX12_first 50 = .ok (.goto (-34), 3) := by decide +kernel
theorem dX12_first_53 : decode cX12_first 53 = .ok (.iinc 2 1, 3) := by decide +kernel
theorem dX12_first_56 : decode cX12_first 56 = .ok (.goto (-49), 3) := by decide +kernel
theorem dX12_first_59 : decode cX12_first 59 = .ok (.bipush (-5), 2) := by decide +kernel
theorem dX12_first_61 : decode cX12_first 61 = .ok (.ireturn, 1) := by decide +kernel
theorem dX12_faded_0 : decode cX12_faded 0 = .ok (.iload_n 1, 1) := by decide +kernel
theorem dX12_faded_1 : decode cX12_faded 1 = .ok (.iconst 0, 1) := by decide +kernel
theorem dX12_faded_2 : decode cX12_faded 2 = .ok (.sipush 999, 3) := by decide +kernel
theorem dX12_faded_5 : decode cX12_faded 5 = .ok (.invokestatic 41, 3) := by decide +kernel
theorem dX12_faded_8 : decode cX12_faded 8 = .ok (.ifCond .ne 6, 3) := by decide +kernel
theorem dX12_faded_11 : decode cX12_faded 11 = .ok (.bipush (-2), 2) := by decide +kernel
theorem dX12_faded_13 : decode cX12_faded 13 = .ok (.ireturn, 1) := by decide +kernel
theorem dX12_faded_14 : decode cX12_faded 14 = .ok (.iconst 0, 1) := by decide +kernel
theorem dX12_faded_15 : decode cX12_faded 15 = .ok (.istore_n 2, 1) := by decide +kernel
theorem dX12_faded_16 : decode cX12_faded 16 = .ok (.iconst 0, 1) := by decide +kernel
theorem dX12_faded_17 : decode cX12_faded 17 = .ok (.istore_n 3, 1) := by decide +kernel
theorem dX12_faded_18 : decode cX12_faded 18 = .ok (.iload_n 3, 1) := by decide +kernel
theorem dX12_faded_19 : decode cX12_faded 19 = .ok (.aload_n 0, 1) := by decide +kernel
theorem dX12_faded_20 : decode cX12_faded 20 = .ok (.getfield 9, 3) := by decide +kernel
theorem dX12_faded_23 : decode cX12_faded 23 = .ok (.bipush 43, 2) := by decide +kernel
theorem dX12_faded_25 : decode cX12_faded 25 = .ok (.iaload, 1) := by decide +kernel
theorem dX12_faded_26 : decode cX12_faded 26 = .ok (.if_icmp .ge 37, 3) := by decide +kernel
theorem dX12_faded_29 : decode cX12_faded 29 = .ok (.iload_n 2, 1) := by decide +kernel
theorem dX12_faded_30 : decode cX12_faded 30 = .ok (.aload_n 0, 1) := by decide +kernel
theorem dX12_faded_31 : decode cX12_faded 31 = .ok (.iload_n 3, 1) := by decide +kernel
theorem dX12_faded_32 : decode cX12_faded 32 = .ok (.iconst 0, 1) := by decide +kernel
theorem dX12_faded_33 : decode cX12_faded 33 = .ok (.invokevirtual 187, 3) := by decide +kernel
theorem dX12_faded_36 : decode cX12_faded 36 = .ok (.ifCond .eq 18, 3) := by decide +kernel
theorem dX12_faded_39 : decode cX12_faded 39 = .ok (.aload_n 0, 1) := by decide +kernel
theorem dX12_faded_40 : decode cX12_faded 40 = .ok (.iload_n 3, 1) := by decide +kernel
theorem dX12_faded_41 : decode cX12_faded 41 = .ok (.iload_n 1, 1) := by decide +kernel
theorem dX12_faded_42 : decode cX12_faded 42 = .ok (.invokevirtual 187, 3) := by decide +kernel
theorem dX12_faded_45 : decode cX12_faded 45 = .ok (.ifCond .ne 9, 3) := by decide +kernel
theorem dX12_faded_48 : decode cX12_faded 48 = .ok (.iconst 1, 1) := by decide +kernel
theorem dX12_faded_49 : decode cX12_faded 49 = .ok (.iload_n 3, 1) := by decide +kernel
theorem dX12_faded_50 : decode cX12_faded 50 = .ok (.ishl, 1) := by decide +kernel
theorem dX12_faded_51 : decode cX12_faded 51 = .ok (.goto 4, 3) := by decide +kernel
theorem dX12_faded_54 : decode cX12_faded 54 = .ok (.iconst 0, 1) := by decide +kernel
theorem dX12_faded_55 : decode cX12_faded 55 = .ok (.ior, 1) := by decide +kernel
theorem dX12_faded_56 : decode cX12_faded 56 = .ok (.istore_n 2, 1) := by decide +kernel
theorem dX12_faded_57 : decode cX12_faded 57 = .ok (.iinc 3 1, 3) := by decide +kernel
theorem dX12_faded_60 : decode cX12_faded 60 = .ok (.goto (-42), 3) := by decide +kernel
theorem dX12_faded_63 : decode cX12_faded 63 = .ok (.iload_n 2, 1) := by decide +kernel
theorem dX12_faded_64 : decode cX12_faded 64 = .ok (.ireturn, 1) := by decide +kernel
theorem dX12_uncut_0 : decode cX12_uncut 0 = .ok (.iconst 0, 1) := by decide +kernel
theorem dX12_uncut_1 : decode cX12_uncut 1 = .ok (.istore_n 1, 1) := by decide +kernel
theorem dX12_uncut_2 : decode cX12_uncut 2 = .ok (.iconst 0, 1) := by decide +kernel
theorem dX12_uncut_3 : decode cX12_uncut 3 = .ok (.istore_n 2, 1) := by decide +kernel
theorem dX12_uncut_4 : decode cX12_uncut 4 = .ok (.iload_n 2, 1) := by decide +kernel
theorem dX12_uncut_5 : decode cX12_uncut 5 = .ok (.aload_n 0, 1) := by decide +kernel
theorem dX12_uncut_6 : decode cX12_uncut 6 = .ok (.getfield 9, 3) := by decide +kernel
theorem dX12_uncut_9 : decode cX12_uncut 9 = .ok (.bipush 43, 2) := by decide +kernel
theorem dX12_uncut_11 : decode cX12_uncut 11 = .ok (.iaload, 1) := by decide +kernel
theorem dX12_uncut_12 : decode cX12_uncut 12 = .ok (.if_icmp .ge 25, 3) := by decide +kernel
theorem dX12_uncut_15 : decode cX12_uncut 15 = .ok (.iload_n 1, 1) := by decide +kernel
theorem dX12_uncut_16 : decode cX12_uncut 16 = .ok (.aload_n 0, 1) := by decide +kernel
theorem dX12_uncut_17 : decode cX12_uncut 17 = .ok (.iload_n 2, 1) := by decide +kernel
theorem dX12_uncut_18 : decode cX12_uncut 18 = .ok (.invokevirtual 137, 3) := by decide +kernel
theorem dX12_uncut_21 : decode cX12_uncut 21 = .ok (.ifCond .eq 7, 3) := by decide +kernel
theorem dX12_uncut_24 : decode cX12_uncut 24 = .ok (.iconst 0, 1) := by decide +kernel
theorem dX12_uncut_25 : decode cX12_uncut 25 = .ok (.goto 4, 3) := by decide +kernel
theorem dX12_uncut_28 : decode cX12_uncut 28 = .ok (.iconst 1, 1) := by decide +kernel
theorem dX12_uncut_29 : decode cX12_uncut 29 = .ok (.iadd, 1) := by decide +kernel
theorem dX12_uncut_30 : decode cX12_uncut 30 = .ok (.istore_n 1, 1) := by decide +kernel
theorem dX12_uncut_31 : decode cX12_uncut 31 = .ok (.iinc 2 1, 3) := by decide +kernel
theorem dX12_uncut_34 : decode cX12_uncut 34 = .ok (.goto (-30), 3) := by decide +kernel
theorem dX12_uncut_37 : decode cX12_uncut 37 = .ok (.iload_n 1, 1) := by decide +kernel
theorem dX12_uncut_38 : decode cX12_uncut 38 = .ok (.ireturn, 1) := by decide +kernel
theorem dX12_ordersFrom_0 : decode cX12_ordersFrom 0 = .ok (.iload_n 1, 1) := by decide +kernel
theorem dX12_ordersFrom_1 : decode cX12_ordersFrom 1 = .ok (.iload_n 3, 1) := by decide +kernel
theorem dX12_ordersFrom_2 : decode cX12_ordersFrom 2 = .ok (.if_icmp .ne 48, 3) := by decide +kernel
theorem dX12_ordersFrom_5 : decode cX12_ordersFrom 5 = .ok (.iload 5, 2) := by decide +kernel
theorem dX12_ordersFrom_7 : decode cX12_ordersFrom 7 = .ok (.aload_n 0, 1) := by decide +kernel
theorem dX12_ordersFrom_8 : decode cX12_ordersFrom 8 = .ok (.getfield 203, 3) := by decide +kernel
theorem dX12_ordersFrom_11 : decode cX12_ordersFrom 11 = .ok (.if_icmp .ge 38, 3) := by decide +kernel
theorem dX12_ordersFrom_14 : decode cX12_ordersFrom 14 = .ok (.aload_n 0, 1) := by decide +kernel
theorem dX12_ordersFrom_15 : decode cX12_ordersFrom 15 = .ok (.iload 5, 2) := by decide +kernel
theorem dX12_ordersFrom_17 : decode cX12_ordersFrom 17 = .ok (.putfield 203, 3) := by decide +kernel
theorem dX12_ordersFrom_20 : decode cX12_ordersFrom 20 = .ok (.iconst 0, 1) := by decide +kernel
theorem dX12_ordersFrom_21 : decode cX12_ordersFrom 21 = .ok (.istore 6, 2) := by decide +kernel
theorem dX12_ordersFrom_23 : decode cX12_ordersFrom 23 = .ok (.iload 6, 2) := by decide +kernel
theorem dX12_ordersFrom_25 : decode cX12_ordersFrom 25 = .ok (.iload_n 3, 1) := by decide +kernel
theorem dX12_ordersFrom_26 : decode cX12_ordersFrom 26 = .ok (.if_icmp .ge 23, 3) := by decide +kernel
theorem dX12_ordersFrom_29 : decode cX12_ordersFrom 29 = .ok (.aload_n 0, 1) := by decide +kernel
theorem dX12_ordersFrom_30 : decode cX12_ordersFrom 30 = .ok (.getfield 31, 3) := by decide +kernel
theorem dX12_ordersFrom_33 : decode cX12_ordersFrom 33 = .ok (.iload 6, 2) := by decide +kernel
theorem dX12_ordersFrom_35 : decode cX12_ordersFrom 35 = .ok (.aload_n 0, 1) := by decide +kernel
theorem dX12_ordersFrom_36 : decode cX12_ordersFrom 36 = .ok (.getfield 28, 3) := by decide +kernel
theorem dX12_ordersFrom_39 : decode cX12_ordersFrom 39 = .ok (.iload 6, 2) := by decide +kernel
theorem dX12_ordersFrom_41 : decode cX12_ordersFrom 41 = .ok (.iaload, 1) := by decide +kernel
theorem dX12_ordersFrom_42 : decode cX12_ordersFrom 42 = .ok (.iastore, 1) := by decide +kernel
theorem dX12_ordersFrom_43 : decode cX12_ordersFrom 43 = .ok (.iinc 6 1, 3) := by decide +kernel
theorem dX12_ordersFrom_46 : decode cX12_ordersFrom 46 = .ok (.goto (-23), 3) := by decide +kernel
theorem dX12_ordersFrom_49 : decode cX12_ordersFrom 49 = .ok (.return_, 1) := by decide +kernel
theorem dX12_ordersFrom_50 : decode cX12_ordersFrom 50 = .ok (.iconst 0, 1) := by decide +kernel
theorem dX12_ordersFrom_51 : decode cX12_ordersFrom 51 = .ok (.istore 6, 2) := by decide +kernel
theorem dX12_ordersFrom_53 : decode cX12_ordersFrom 53 = .ok (.iload 6, 2) := by decide +kernel
theorem dX12_ordersFrom_55 : decode cX12_ordersFrom 55 = .ok (.aload_n 0, 1) := by decide +kernel
theorem dX12_ordersFrom_56 : decode cX12_ordersFrom 56 = .ok (.getfield 9, 3) := by decide +kernel
theorem dX12_ordersFrom_59 : decode cX12_ordersFrom 59 = .ok (.bipush 43, 2) := by decide +kernel
theorem dX12_ordersFrom_61 : decode cX12_ordersFrom 61 = .ok (.iaload, 1) := by decide +kernel
theorem dX12_ordersFrom_62 : decode cX12_ordersFrom 62 = .ok (.if_icmp .ge 77, 3) := by decide +kernel
theorem dX12_ordersFrom_65 : decode cX12_ordersFrom 65 = .ok (.aload_n 0, 1) := by decide +kernel
theorem dX12_ordersFrom_66 : decode cX12_ordersFrom 66 = .ok (.iload 6, 2) := by decide +kernel
theorem dX12_ordersFrom_68 : decode cX12_ordersFrom 68 = .ok (.invokevirtual 137, 3) := by decide +kernel
theorem dX12_ordersFrom_71 : decode cX12_ordersFrom 71 = .ok (.ifCond .ne 62, 3) := by decide +kernel
theorem dX12_ordersFrom_74 : decode cX12_ordersFrom 74 = .ok (.iload_n 2, 1) := by decide +kernel
theorem dX12_ordersFrom_75 : decode cX12_ordersFrom 75 = .ok (.iload 6, 2) := by decide +kernel
theorem dX12_ordersFrom_77 : decode cX12_ordersFrom 77 = .ok (.ishr, 1) := by decide +kernel
theorem dX12_ordersFrom_78 : decode cX12_ordersFrom 78 = .ok (.iconst 1, 1) := by decide +kernel
theorem dX12_ordersFrom_79 : decode cX12_ordersFrom 79 = .ok (.iand, 1) := by decide +kernel
theorem dX12_ordersFrom_80 : decode cX12_ordersFrom 80 = .ok (.ifCond .ne 53, 3) := by decide +kernel
theorem dX12_ordersFrom_83 : decode cX12_ordersFrom 83 = .ok (.aload_n 0, 1) := by decide +kernel
theorem dX12_ordersFrom_84 : decode cX12_ordersFrom 84 = .ok (.getfield 28, 3) := by decide +kernel
theorem dX12_ordersFrom_87 : decode cX12_ordersFrom 87 = .ok (.iload_n 1, 1) := by decide +kernel
theorem dX12_ordersFrom_88 : decode cX12_ordersFrom 88 = .ok (.iload 6, 2) := by decide +kernel
theorem dX12_ordersFrom_90 : decode cX12_ordersFrom 90 = .ok (.iastore, 1) := by decide +kernel
theorem dX12_ordersFrom_91 : decode cX12_ordersFrom 91 = .ok (.aload_n 0, 1) := by decide +kernel
theorem dX12_ordersFrom_92 : decode cX12_ordersFrom 92 = .ok (.iload_n 1, 1) := by decide +kernel
theorem dX12_ordersFrom_93 : decode cX12_ordersFrom 93 = .ok (.iconst 1, 1) := by decide +kernel
theorem dX12_ordersFrom_94 : decode cX12_ordersFrom 94 = .ok (.iadd, 1) := by decide +kernel
theorem dX12_ordersFrom_95 : decode cX12_ordersFrom 95 = .ok (.iload_n 2, 1) := by decide +kernel
theorem dX12_ordersFrom_96 : decode cX12_ordersFrom 96 = .ok (.iconst 1, 1) := by decide +kernel
theorem dX12_ordersFrom_97 : decode cX12_ordersFrom 97 = .ok (.iload 6, 2) := by decide +kernel
theorem dX12_ordersFrom_99 : decode cX12_ordersFrom 99 = .ok (.ishl, 1) := by decide +kernel
theorem dX12_ordersFrom_100 : decode cX12_ordersFrom 100 = .ok (.ior, 1) := by decide +kernel
theorem dX12_ordersFrom_101 : decode cX12_ordersFrom 101 = .ok (.iload_n 3, 1) := by decide +kernel
theorem dX12_ordersFrom_102 : decode cX12_ordersFrom 102 = .ok (.iload 4, 2) := by decide +kernel
theorem dX12_ordersFrom_104 : decode cX12_ordersFrom 104 = .ok (.aload_n 0, 1) := by decide +kernel
theorem dX12_ordersFrom_105 : decode cX12_ordersFrom 105 = .ok (.iload 6, 2) := by decide +kernel
theorem dX12_ordersFrom_107 : decode cX12_ordersFrom 107 = .ok (.invokevirtual 157, 3) := by decide +kernel
theorem dX12_ordersFrom_110 : decode cX12_ordersFrom 110 = .ok (.iconst 2, 1) := by decide +kernel
theorem dX12_ordersFrom_111 : decode cX12_ordersFrom 111 = .ok (.idiv, 1) := by decide +kernel
theorem dX12_ordersFrom_112 : decode cX12_ordersFrom 112 = .ok (.iadd, 1) := by decide +kernel
theorem dX12_ordersFrom_113 : decode cX12_ordersFrom 113 = .ok (.iconst 0, 1) := by decide +kernel
theorem dX12_ordersFrom_114 : decode cX12_ordersFrom 114 = .ok (.bipush 99, 2) := by decide +kernel
theorem dX12_ordersFrom_116 : decode cX12_ordersFrom 116 = .ok (.invokestatic 130, 3) := by decide +kernel
theorem dX12_ordersFrom_119 : decode cX12_ordersFrom 119 = .ok (.iload 5, 2) := by decide +kernel
theorem dX12_ordersFrom_121 : decode cX12_ordersFrom 121 = .ok (.aload_n 0, 1) := by decide +kernel
theorem dX12_ordersFrom_122 : decode cX12_ordersFrom 122 = .ok (.iload 6, 2) := by decide +kernel
theorem dX12_ordersFrom_124 : decode cX12_ordersFrom 124 = .ok (.iload 4, 2) := by decide +kernel
theorem dX12_ordersFrom_126 : decode cX12_ordersFrom 126 = .ok (.invokevirtual 134, 3) := by decide +kernel
theorem dX12_ordersFrom_129 : decode cX12_ordersFrom 129 = .ok (.iadd, 1) := by decide +kernel
theorem dX12_ordersFrom_130 : decode cX12_ordersFrom 130 = .ok (.invokevirtual 206, 3) := by decide +kernel
theorem dX12_ordersFrom_133 : decode cX12_ordersFrom 133 = .ok (.iinc 6 1, 3) := by decide +kernel
theorem dX12_ordersFrom_136 : decode cX12_ordersFrom 136 = .ok (.goto (-83), 3) := by decide +kernel
theorem dX12_ordersFrom_139 : decode cX12_ordersFrom 139 = .ok (.return_, 1) := by decide +kernel
theorem dX12_order_0 : decode cX12_order 0 = .ok (.iload_n 1, 1) := by decide +kernel
theorem dX12_order_1 : decode cX12_order 1 = .ok (.iconst (-1), 1) := by decide +kernel
theorem dX12_order_2 : decode cX12_order 2 = .ok (.iconst 5, 1) := by decide +kernel
theorem dX12_order_3 : decode cX12_order 3 = .ok (.invokestatic 41, 3) := by decide +kernel
theorem dX12_order_6 : decode cX12_order 6 = .ok (.ifCond .ne 5, 3) := by decide +kernel
theorem dX12_order_9 : decode cX12_order 9 = .ok (.iconst (-1), 1) := by decide +kernel
theorem dX12_order_10 : decode cX12_order 10 = .ok (.ireturn, 1) := by decide +kernel
theorem dX12_order_11 : decode cX12_order 11 = .ok (.aload_n 0, 1) := by decide +kernel
theorem dX12_order_12 : decode cX12_order 12 = .ok (.invokevirtual 210, 3) := by decide +kernel
theorem dX12_order_15 : decode cX12_order 15 = .ok (.istore_n 2, 1) := by decide +kernel
theorem dX12_order_16 : decode cX12_order 16 = .ok (.iload_n 2, 1) := by decide +kernel
theorem dX12_order_17 : decode cX12_order 17 = .ok (.bipush 6, 2) := by decide +kernel
theorem dX12_order_19 : decode cX12_order 19 = .ok (.if_icmp .le 6, 3) := by decide +kernel
theorem dX12_order_22 : decode cX12_order 22 = .ok (.bipush (-9), 2) := by decide +kernel
theorem dX12_order_24 : decode cX12_order 24 = .ok (.ireturn, 1) := by decide +kernel
theorem dX12_order_25 : decode cX12_order 25 = .ok (.aload_n 0, 1) := by decide +kernel
theorem dX12_order_26 : decode cX12_order 26 = .ok (.ldc 213, 2) := by decide +kernel
theorem dX12_order_28 : decode cX12_order 28 = .ok (.putfield 203, 3) := by decide +kernel
theorem dX12_order_31 : decode cX12_order 31 = .ok (.aload_n 0, 1) := by decide +kernel
theorem dX12_order_32 : decode cX12_order 32 = .ok (.iconst 0, 1) := by decide +kernel
theorem dX12_order_33 : decode cX12_order 33 = .ok (.iconst 0, 1) := by decide +kernel
theorem dX12_order_34 : decode cX12_order 34 = .ok (.iload_n 2, 1) := by decide +kernel
theorem dX12_order_35 : decode cX12_order 35 = .ok (.aload_n 0, 1) := by decide +kernel
theorem dX12_order_36 : decode cX12_order 36 = .ok (.getfield 9, 3) := by decide +kernel
theorem dX12_order_39 : decode cX12_order 39 = .ok (.iconst 2, 1) := by decide +kernel
theorem dX12_order_40 : decode cX12_order 40 = .ok (.iaload, 1) := by decide +kernel
theorem dX12_order_41 : decode cX12_order 41 = .ok (.iconst 0, 1) := by decide +kernel
theorem dX12_order_42 : decode cX12_order 42 = .ok (.invokevirtual 206, 3) := by decide +kernel
theorem dX12_order_45 : decode cX12_order 45 = .ok (.iload_n 1, 1) := by decide +kernel
theorem dX12_order_46 : decode cX12_order 46 = .ok (.iconst (-1), 1) := by decide +kernel
theorem dX12_order_47 : decode cX12_order 47 = .ok (.if_icmp .ne 10, 3) := by decide +kernel
theorem dX12_order_50 : decode cX12_order 50 = .ok (.aload_n 0, 1) := by decide +kernel
theorem dX12_order_51 : decode cX12_order 51 = .ok (.getfield 203, 3) := by decide +kernel
theorem dX12_order_54 : decode cX12_order 54 = .ok (.goto 19, 3) := by decide +kernel
theorem dX12_order_57 : decode cX12_order 57 = .ok (.iload_n 1, 1) := by decide +kernel
theorem dX12_order_58 : decode cX12_order 58 = .ok (.iload_n 2, 1) := by decide +kernel
theorem dX12_order_59 : decode cX12_order 59 = .ok (.if_icmp .ge 12, 3) := by decide +kernel
theorem dX12_order_62 : decode cX12_order 62 = .ok (.aload_n 0, 1) := by decide +kernel
theorem dX12_order_63 : decode cX12_order 63 = .ok (.getfield 31, 3) := by decide +kernel
theorem dX12_order_66 : decode cX12_order 66 = .ok (.iload_n 1, 1) := by decide +kernel
theorem dX12_order_67 : decode cX12_order 67 = .ok (.iaload, 1) := by decide +kernel
theorem dX12_order_68 : decode cX12_order 68 = .ok (.goto 5, 3) := by decide +kernel
theorem dX12_order_71 : decode cX12_order 71 = .ok (.bipush (-5), 2) := by decide +kernel
theorem dX12_order_73 : decode cX12_order 73 = .ok (.ireturn, 1) := by decide +kernel
theorem dX12_riskOfAll_0 : decode cX12_riskOfAll 0 = .ok (.aload_n 0, 1) := by decide +kernel
theorem dX12_riskOfAll_1 : decode cX12_riskOfAll 1 = .ok (.getfield 9, 3) := by decide +kernel
theorem dX12_riskOfAll_4 : decode cX12_riskOfAll 4 = .ok (.iconst 2, 1) := by decide +kernel
theorem dX12_riskOfAll_5 : decode cX12_riskOfAll 5 = .ok (.iaload, 1) := by decide +kernel
theorem dX12_riskOfAll_6 : decode cX12_riskOfAll 6 = .ok (.istore_n 2, 1) := by decide +kernel
theorem dX12_riskOfAll_7 : decode cX12_riskOfAll 7 = .ok (.iconst 0, 1) := by decide +kernel
theorem dX12_riskOfAll_8 : decode cX12_riskOfAll 8 = .ok (.istore_n 3, 1) := by decide +kernel
theorem dX12_riskOfAll_9 : decode cX12_riskOfAll 9 = .ok (.iconst 0, 1) := by decide +kernel
theorem dX12_riskOfAll_10 : decode cX12_riskOfAll 10 = .ok (.istore 4, 2) := by decide +kernel
theorem dX12_riskOfAll_12 : decode cX12_riskOfAll 12 = .ok (.iload 4, 2) := by decide +kernel
theorem dX12_riskOfAll_14 : decode cX12_riskOfAll 14 = .ok (.aload_n 0, 1) := by decide +kernel
theorem dX12_riskOfAll_15 : decode cX12_riskOfAll 15 = .ok (.getfield 9, 3) := by decide +kernel
theorem dX12_riskOfAll_18 : decode cX12_riskOfAll 18 = .ok (.bipush 43, 2) := by decide +kernel
theorem dX12_riskOfAll_20 : decode cX12_riskOfAll 20 = .ok (.iaload, 1) := by decide +kernel
theorem dX12_riskOfAll_21 : decode cX12_riskOfAll 21 = .ok (.if_icmp .ge 66, 3) := by decide +kernel
theorem dX12_riskOfAll_24 : decode cX12_riskOfAll 24 = .ok (.aload_n 0, 1) := by decide +kernel
theorem dX12_riskOfAll_25 : decode cX12_riskOfAll 25 = .ok (.iload 4, 2) := by decide +kernel
theorem dX12_riskOfAll_27 : decode cX12_riskOfAll 27 = .ok (.invokevirtual 137, 3) := by decide +kernel
theorem dX12_riskOfAll_30 : decode cX12_riskOfAll 30 = .ok (.ifCond .ne 51, 3) := by decide +kernel
theorem dX12_riskOfAll_33 : decode cX12_riskOfAll 33 = .ok (.iload 4, 2) := by decide +kernel
theorem dX12_riskOfAll_35 : decode cX12_riskOfAll 35 = .ok (.iload_n 1, 1) := by decide +kernel
theorem dX12_riskOfAll_36 : decode cX12_riskOfAll 36 = .ok (.if_icmp .ne 16, 3) := by decide +kernel
theorem dX12_riskOfAll_39 : decode cX12_riskOfAll 39 = .ok (.iload_n 2, 1) := by decide +kernel
theorem dX12_riskOfAll_40 : decode cX12_riskOfAll 40 = .ok (.bipush 20, 2) := by decide +kernel
theorem dX12_riskOfAll_42 : decode cX12_riskOfAll 42 = .ok (.isub, 1) := by decide +kernel
theorem dX12_riskOfAll_43 : decode cX12_riskOfAll 43 = .ok (.iconst 0, 1) := by decide +kernel
theorem dX12_riskOfAll_44 : decode cX12_riskOfAll 44 = .ok (.bipush 99, 2) := by decide +kernel
theorem dX12_riskOfAll_46 : decode cX12_riskOfAll 46 = .ok (.invokestatic 130, 3) := by decide +kernel
theorem dX12_riskOfAll_49 : decode cX12_riskOfAll 49 = .ok (.goto 4, 3) := by decide +kernel
theorem dX12_riskOfAll_52 : decode cX12_riskOfAll 52 = .ok (.iload_n 2, 1) := by decide +kernel
theorem dX12_riskOfAll_53 : decode cX12_riskOfAll 53 = .ok (.istore_n 2, 1) := by decide +kernel
theorem dX12_riskOfAll_54 : decode cX12_riskOfAll 54 = .ok (.iload_n 3, 1) := by decide +kernel
theorem dX12_riskOfAll_55 : decode cX12_riskOfAll 55 = .ok (.aload_n 0, 1) := by decide +kernel
theorem dX12_riskOfAll_56 : decode cX12_riskOfAll 56 = .ok (.iload 4, 2) := by decide +kernel
theorem dX12_riskOfAll_58 : decode cX12_riskOfAll 58 = .ok (.iload_n 2, 1) := by decide +kernel
theorem dX12_riskOfAll_59 : decode cX12_riskOfAll 59 = .ok (.invokevirtual 134, 3) := by decide +kernel
theorem dX12_riskOfAll_62 : decode cX12_riskOfAll 62 = .ok (.iadd, 1) := by decide +kernel
theorem dX12_riskOfAll_63 : decode cX12_riskOfAll 63 = .ok (.istore_n 3, 1) := by decide +kernel
theorem dX12_riskOfAll_64 : decode cX12_riskOfAll 64 = .ok (.iload_n 2, 1) := by decide +kernel
theorem dX12_riskOfAll_65 : decode cX12_riskOfAll 65 = .ok (.aload_n 0, 1) := by decide +kernel
theorem dX12_riskOfAll_66 : decode cX12_riskOfAll 66 = .ok (.iload 4, 2) := by decide +kernel
theorem dX12_riskOfAll_68 : decode cX12_riskOfAll 68 = .ok (.invokevirtual 157, 3) := by decide +kernel
theorem dX12_riskOfAll_71 : decode cX12_riskOfAll 71 = .ok (.iconst 2, 1) := by decide +kernel
theorem dX12_riskOfAll_72 : decode cX12_riskOfAll 72 = .ok (.idiv, 1) := by decide +kernel
theorem dX12_riskOfAll_73 : decode cX12_riskOfAll 73 = .ok (.iadd, 1) := by decide +kernel
theorem dX12_riskOfAll_74 : decode cX12_riskOfAll 74 = .ok (.iconst 0, 1) := by decide +kernel
theorem dX12_riskOfAll_75 : decode cX12_riskOfAll 75 = .ok (.bipush 99, 2) := by decide +kernel
theorem dX12_riskOfAll_77 : decode cX12_riskOfAll 77 = .ok (.invokestatic 130, 3) := by decide +kernel
theorem dX12_riskOfAll_80 : decode cX12_riskOfAll 80 = .ok (.istore_n 2, 1) := by decide +kernel
theorem dX12_riskOfAll_81 : decode cX12_riskOfAll 81 = .ok (.iinc 4 1, 3) := by decide +kernel
theorem dX12_riskOfAll_84 : decode cX12_riskOfAll 84 = .ok (.goto (-72), 3) := by decide +kernel
theorem dX12_riskOfAll_87 : decode cX12_riskOfAll 87 = .ok (.iload_n 3, 1) := by decide +kernel
theorem dX12_riskOfAll_88 : decode cX12_riskOfAll 88 = .ok (.ireturn, 1) := by decide +kernel
theorem dX12_rested_0 : decode cX12_rested 0 = .ok (.aload_n 0, 1) := by decide +kernel
theorem dX12_rested_1 : decode cX12_rested 1 = .ok (.iconst (-1), 1) := by decide +kernel
theorem dX12_rested_2 : decode cX12_rested 2 = .ok (.invokevirtual 214, 3) := by decide +kernel
theorem dX12_rested_5 : decode cX12_rested 5 = .ok (.istore_n 1, 1) := by decide +kernel
theorem dX12_rested_6 : decode cX12_rested 6 = .ok (.bipush (-5), 2) := by decide +kernel
theorem dX12_rested_8 : decode cX12_rested 8 = .ok (.istore_n 2, 1) := by decide +kernel
theorem dX12_rested_9 : decode cX12_rested 9 = .ok (.iconst 0, 1) := by decide +kernel
theorem dX12_rested_10 : decode cX12_rested 10 = .ok (.istore_n 3, 1) := by decide +kernel
theorem dX12_rested_11 : decode cX12_rested 11 = .ok (.iload_n 3, 1) := by decide +kernel
theorem dX12_rested_12 : decode cX12_rested 12 = .ok (.aload_n 0, 1) := by decide +kernel
theorem dX12_rested_13 : decode cX12_rested 13 = .ok (.getfield 9, 3) := by decide +kernel
theorem dX12_rested_16 : decode cX12_rested 16 = .ok (.bipush 43, 2) := by decide +kernel
theorem dX12_rested_18 : decode cX12_rested 18 = .ok (.iaload, 1) := by decide +kernel
theorem dX12_rested_19 : decode cX12_rested 19 = .ok (.if_icmp .ge 54, 3) := by decide +kernel
theorem dX12_rested_22 : decode cX12_rested 22 = .ok (.aload_n 0, 1) := by decide +kernel
theorem dX12_rested_23 : decode cX12_rested 23 = .ok (.iload_n 3, 1) := by decide +kernel
theorem dX12_rested_24 : decode cX12_rested 24 = .ok (.invokevirtual 137, 3) := by decide +kernel
theorem dX12_rested_27 : decode cX12_rested 27 = .ok (.ifCond .eq 8, 3) := by decide +kernel
theorem dX12_rested_30 : decode cX12_rested 30 = .ok (.ldc 213, 2) := by decide +kernel
theorem dX12_rested_32 : decode cX12_rested 32 = .ok (.goto 8, 3) := by decide +kernel
theorem dX12_rested_35 : decode cX12_rested 35 = .ok (.aload_n 0, 1) := by decide +kernel
theorem dX12_rested_36 : decode cX12_rested 36 = .ok (.iload_n 3, 1) := by decide +kernel
theorem dX12_rested_37 : decode cX12_rested 37 = .ok (.invokevirtual 214, 3) := by decide +kernel
theorem dX12_rested_40 : decode cX12_rested 40 = .ok (.istore 4, 2) := by decide +kernel
theorem dX12_rested_42 : decode cX12_rested 42 = .ok (.iload 4, 2) := by decide +kernel
theorem dX12_rested_44 : decode cX12_rested 44 = .ok (.iload_n 1, 1) := by decide +kernel
theorem dX12_rested_45 : decode cX12_rested 45 = .ok (.if_icmp .ge 7, 3) := by decide +kernel
theorem dX12_rested_48 : decode cX12_rested 48 = .ok (.iload_n 3, 1) := by decide +kernel
theorem dX12_rested_49 : decode cX12_rested 49 = .ok (.goto 4, 3) := by decide +kernel
theorem dX12_rested_52 : decode cX12_rested 52 = .ok (.iload_n 2, 1) := by decide +kernel
theorem dX12_rested_53 : decode cX12_rested 53 = .ok (.istore_n 2, 1) := by decide +kernel
theorem dX12_rested_54 : decode cX12_rested 54 = .ok (.iload 4, 2) := by decide +kernel
theorem dX12_rested_56 : decode cX12_rested 56 = .ok (.iload_n 1, 1) := by decide +kernel
theorem dX12_rested_57 : decode cX12_rested 57 = .ok (.if_icmp .ge 8, 3) := by decide +kernel
theorem dX12_rested_60 : decode cX12_rested 60 = .ok (.iload 4, 2) := by decide +kernel
theorem dX12_rested_62 : decode cX12_rested 62 = .ok (.goto 4, 3) := by decide +kernel
theorem dX12_rested_65 : decode cX12_rested 65 = .ok (.iload_n 1, 1) := by decide +kernel
theorem dX12_rested_66 : decode cX12_rested 66 = .ok (.istore_n 1, 1) := by decide +kernel
theorem dX12_rested_67 : decode cX12_rested 67 = .ok (.iinc 3 1, 3) := by decide +kernel
theorem dX12_rested_70 : decode cX12_rested 70 = .ok (.goto (-59), 3) := by decide +kernel
theorem dX12_rested_73 : decode cX12_rested 73 = .ok (.iload_n 2, 1) := by decide +kernel
theorem dX12_rested_74 : decode cX12_rested 74 = .ok (.ireturn, 1) := by decide +kernel
theorem dX12_lowest_0 : decode cX12_lowest 0 = .ok (.lload_n 0, 1) := by decide +kernel
theorem dX12_lowest_1 : decode cX12_lowest 1 = .ok (.lstore 5, 2) := by decide +kernel
theorem dX12_lowest_3 : decode cX12_lowest 3 = .ok (.lload_n 2, 1) := by decide +kernel
theorem dX12_lowest_4 : decode cX12_lowest 4 = .ok (.lstore 7, 2) := by decide +kernel
theorem dX12_lowest_6 : decode cX12_lowest 6 = .ok (.lload 7, 2) := by decide +kernel
theorem dX12_lowest_8 : decode cX12_lowest 8 = .ok (.lconst 0, 1) := by decide +kernel
theorem dX12_lowest_9 : decode cX12_lowest 9 = .ok (.lcmp, 1) := by decide +kernel
theorem dX12_lowest_10 : decode cX12_lowest 10 = .ok (.ifCond .eq 21, 3) := by decide +kernel
theorem dX12_lowest_13 : decode cX12_lowest 13 = .ok (.lload 5, 2) := by decide +kernel
theorem dX12_lowest_15 : decode cX12_lowest 15 = .ok (.lload 7, 2) := by decide +kernel
theorem dX12_lowest_17 : decode cX12_lowest 17 = .ok (.lrem, 1) := by decide +kernel
theorem dX12_lowest_18 : decode cX12_lowest 18 = .ok (.lstore 9, 2) := by decide +kernel
theorem dX12_lowest_20 : decode cX12_lowest 20 = .ok (.lload 7, 2) := by decide +kernel
theorem dX12_lowest_22 : decode cX12_lowest 22 = .ok (.lstore 5, 2) := by decide +kernel
theorem dX12_lowest_24 : decode cX12_lowest 24 = .ok (.lload 9, 2) := by decide +kernel
theorem dX12_lowest_26 : decode cX12_lowest 26 = .ok (.lstore 7, 2) := by decide +kernel
theorem dX12_lowest_28 : decode cX12_lowest 28 = .ok (.goto (-22), 3) := by decide +kernel
theorem dX12_lowest_31 : decode cX12_lowest 31 = .ok (.iload 4, 2) := by decide +kernel
theorem dX12_lowest_33 : decode cX12_lowest 33 = .ok (.ifCond .ne 7, 3) := by decide +kernel
theorem dX12_lowest_36 : decode cX12_lowest 36 = .ok (.lload_n 0, 1) := by decide +kernel
theorem dX12_lowest_37 : decode cX12_lowest 37 = .ok (.goto 4, 3) := by decide +kernel
theorem dX12_lowest_40 : decode cX12_lowest 40 = .ok (.lload_n 2, 1) := by decide +kernel
theorem dX12_lowest_41 : decode cX12_lowest 41 = .ok (.lload 5, 2) := by decide +kernel
theorem dX12_lowest_43 : decode cX12_lowest 43 = .ok (.ldiv, 1) := by decide +kernel
theorem dX12_lowest_44 : decode cX12_lowest 44 = .ok (.lreturn, 1) := by decide +kernel
theorem dX12_looksForFlaws_0 : decode cX12_looksForFlaws 0 = .ok (.aload_n 0, 1) := by decide +kernel
theorem dX12_looksForFlaws_1 : decode cX12_looksForFlaws 1 = .ok (.getfield 9, 3) := by decide +kernel
theorem dX12_looksForFlaws_4 : decode cX12_looksForFlaws 4 = .ok (.iconst 2, 1) := by decide +kernel
theorem dX12_looksForFlaws_5 : decode cX12_looksForFlaws 5 = .ok (.iaload, 1) := by decide +kernel
theorem dX12_looksForFlaws_6 : decode cX12_looksForFlaws 6 = .ok (.istore_n 1, 1) := by decide +kernel
theorem dX12_looksForFlaws_7 : decode cX12_looksForFlaws 7 = .ok (.aload_n 0, 1) := by decide +kernel
theorem dX12_looksForFlaws_8 : decode cX12_looksForFlaws 8 = .ok (.lconst 0, 1) := by decide +kernel
theorem dX12_looksForFlaws_9 : decode cX12_looksForFlaws 9 = .ok (.putfield 217, 3) := by decide +kernel
theorem dX12_looksForFlaws_12 : decode cX12_looksForFlaws 12 = .ok (.aload_n 0, 1) := by decide +kernel
theorem dX12_looksForFlaws_13 : decode cX12_looksForFlaws 13 = .ok (.lconst 1, 1) := by decide +kernel
theorem dX12_looksForFlaws_14 : decode cX12_looksForFlaws 14 = .ok (.putfield 221, 3) := by decide +kernel
theorem dX12_looksForFlaws_17 : decode cX12_looksForFlaws 17 = .ok (.aload_n 0, 1) := by decide +kernel
theorem dX12_looksForFlaws_18 : decode cX12_looksForFlaws 18 = .ok (.lconst 1, 1) := by decide +kernel
theorem dX12_looksForFlaws_19 : decode cX12_looksForFlaws 19 = .ok (.putfield 224, 3) := by decide +kernel
theorem dX12_looksForFlaws_22 : decode cX12_looksForFlaws 22 = .ok (.iconst 0, 1) := by decide +kernel
theorem dX12_looksForFlaws_23 : decode cX12_looksForFlaws 23 = .ok (.istore_n 2, 1) := by decide +kernel
theorem dX12_looksForFlaws_24 : decode cX12_looksForFlaws 24 = .ok (.iconst 0, 1) := by decide +kernel
theorem dX12_looksForFlaws_25 : decode cX12_looksForFlaws 25 = .ok (.istore_n 3, 1) := by decide +kernel
theorem dX12_looksForFlaws_26 : decode cX12_looksForFlaws 26 = .ok (.iload_n 3, 1) := by decide +kernel
theorem dX12_looksForFlaws_27 : decode cX12_looksForFlaws 27 = .ok (.aload_n 0, 1) := by decide +kernel
theorem dX12_looksForFlaws_28 : decode cX12_looksForFlaws 28 = .ok (.getfield 9, 3) := by decide +kernel
theorem dX12_looksForFlaws_31 : decode cX12_looksForFlaws 31 = .ok (.bipush 43, 2) := by decide +kernel
theorem dX12_looksForFlaws_33 : decode cX12_looksForFlaws 33 = .ok (.iaload, 1) := by decide +kernel
theorem dX12_looksForFlaws_34 : decode cX12_looksForFlaws 34 = .ok (.if_icmp .ge 88, 3) := by decide +kernel
theorem dX12_looksForFlaws_37 : decode cX12_looksForFlaws 37 = .ok (.iload_n 2, 1) := by decide +kernel
theorem dX12_looksForFlaws_38 : decode cX12_looksForFlaws 38 = .ok (.iconst 4, 1) := by decide +kernel
theorem dX12_looksForFlaws_39 : decode cX12_looksForFlaws 39 = .ok (.if_icmp .ge 83, 3) := by decide +kernel
theorem dX12_looksForFlaws_42 : decode cX12_looksForFlaws 42 = .ok (.aload_n 0, 1) := by decide +kernel
theorem dX12_looksForFlaws_43 : decode cX12_looksForFlaws 43 = .ok (.iload_n 3, 1) := by decide +kernel
theorem dX12_looksForFlaws_44 : decode cX12_looksForFlaws 44 = .ok (.invokevirtual 137, 3) := by decide +kernel
theorem dX12_looksForFlaws_47 : decode cX12_looksForFlaws 47 = .ok (.ifCond .ne 69, 3) := by decide +kernel
theorem dX12_looksForFlaws_50 : decode cX12_looksForFlaws 50 = .ok (.aload_n 0, 1) := by decide +kernel
theorem dX12_looksForFlaws_51 : decode cX12_looksForFlaws 51 = .ok (.iload_n 3, 1) := by decide +kernel
theorem dX12_looksForFlaws_52 : decode cX12_looksForFlaws 52 = .ok (.iload_n 1, 1) := by decide +kernel
theorem dX12_looksForFlaws_53 : decode cX12_looksForFlaws 53 = .ok (.invokevirtual 134, 3) := by decide +kernel
theorem dX12_looksForFlaws_56 : decode cX12_looksForFlaws 56 = .ok (.istore 4, 2) := by decide +kernel
theorem dX12_looksForFlaws_58 : decode cX12_looksForFlaws 58 = .ok (.aload_n 0, 1) := by decide +kernel
theorem dX12_looksForFlaws_59 : decode cX12_looksForFlaws 59 = .ok (.dup, 1) := by decide +kernel
theorem dX12_looksForFlaws_60 : decode cX12_looksForFlaws 60 = .ok (.getfield 217, 3) := by decide +kernel
theorem dX12_looksForFlaws_63 : decode cX12_looksForFlaws 63 = .ok (.iload 4, 2) := by decide +kernel
theorem dX12_looksForFlaws_65 : decode cX12_looksForFlaws 65 = .ok (.i2l, 1) := by decide +kernel
theorem dX12_looksForFlaws_66 : decode cX12_looksForFlaws 66 = .ok (.ladd, 1) := by decide +kernel
theorem dX12_looksForFlaws_67 : decode cX12_looksForFlaws 67 = .ok (.putfield 217, 3) := by decide +kernel
theorem dX12_looksForFlaws_70 : decode cX12_looksForFlaws 70 = .ok (.aload_n 0, 1) := by decide +kernel
theorem dX12_looksForFlaws_71 : decode cX12_looksForFlaws 71 = .ok (.dup, 1) := by decide +kernel
theorem dX12_looksForFlaws_72 : decode cX12_looksForFlaws 72 = .ok (.getfield 221, 3) := by decide +kernel
theorem dX12_looksForFlaws_75 : decode cX12_looksForFlaws 75 = .ok (.bipush 100, 2) := by decide +kernel
theorem dX12_looksForFlaws_77 : decode cX12_looksForFlaws 77 = .ok (.iload 4, 2) := by decide +kernel
theorem dX12_looksForFlaws_79 : decode cX12_looksForFlaws 79 = .ok (.isub, 1) := by decide +kernel
theorem dX12_looksForFlaws_80 : decode cX12_looksForFlaws 80 = .ok (.i2l, 1) := by decide +kernel
theorem dX12_looksForFlaws_81 : decode cX12_looksForFlaws 81 = .ok (.lmul, 1) := by decide +kernel
theorem dX12_looksForFlaws_82 : decode cX12_looksForFlaws 82 = .ok (.putfield 221, 3) := by decide +kernel
theorem dX12_looksForFlaws_85 : decode cX12_looksForFlaws 85 = .ok (.aload_n 0, 1) := by decide +kernel
theorem dX12_looksForFlaws_86 : decode cX12_looksForFlaws 86 = .ok (.dup, 1) := by decide +kernel
theorem dX12_looksForFlaws_87 : decode cX12_looksForFlaws 87 = .ok (.getfield 224, 3) := by decide +kernel
theorem dX12_looksForFlaws_90 : decode cX12_looksForFlaws 90 = .ok (.ldc2_w 227, 3) := by decide +kernel
theorem dX12_looksForFlaws_93 : decode cX12_looksForFlaws 93 = .ok (.lmul, 1) := by decide +kernel
theorem dX12_looksForFlaws_94 : decode cX12_looksForFlaws 94 = .ok (.putfield 224, 3) := by decide +kernel
theorem dX12_looksForFlaws_97 : decode cX12_looksForFlaws 97 = .ok (.iload_n 1, 1) := by decide +kernel
theorem dX12_looksForFlaws_98 : decode cX12_looksForFlaws 98 = .ok (.aload_n 0, 1) := by decide +kernel
theorem dX12_looksForFlaws_99 : decode cX12_looksForFlaws 99 = .ok (.iload_n 3, 1) := by decide +kernel
theorem dX12_looksForFlaws_100 : decode cX12_looksForFlaws 100 = .ok (.invokevirtual 157, 3) := by decide +kernel
theorem dX12_looksForFlaws_103 : decode cX12_looksForFlaws 103 = .ok (.iconst 2, 1) := by decide +kernel
theorem dX12_looksForFlaws_104 : decode cX12_looksForFlaws 104 = .ok (.idiv, 1) := by decide +kernel
theorem dX12_looksForFlaws_105 : decode cX12_looksForFlaws 105 = .ok (.iadd, 1) := by decide +kernel
theorem dX12_looksForFlaws_106 : decode cX12_looksForFlaws 106 = .ok (.iconst 0, 1) := by decide +kernel
theorem dX12_looksForFlaws_107 : decode cX12_looksForFlaws 107 = .ok (.bipush 99, 2) := by decide +kernel
theorem dX12_looksForFlaws_109 : decode cX12_looksForFlaws 109 = .ok (.invokestatic 130, 3) := by decide +kernel
theorem dX12_looksForFlaws_112 : decode cX12_looksForFlaws 112 = .ok (.istore_n 1, 1) := by decide +kernel
theorem dX12_looksForFlaws_113 : decode cX12_looksForFlaws 113 = .ok (.iinc 2 1, 3) := by decide +kernel
theorem dX12_looksForFlaws_116 : decode cX12_looksForFlaws 116 = .ok (.iinc 3 1, 3) := by decide +kernel
theorem dX12_looksForFlaws_119 : decode cX12_looksForFlaws 119 = .ok (.goto (-93), 3) := by decide +kernel
theorem dX12_looksForFlaws_122 : decode cX12_looksForFlaws 122 = .ok (.return_, 1) := by decide +kernel
theorem dX12_flaws_0 : decode cX12_flaws 0 = .ok (.iload_n 1, 1) := by decide +kernel
theorem dX12_flaws_1 : decode cX12_flaws 1 = .ok (.iconst 0, 1) := by decide +kernel
theorem dX12_flaws_2 : decode cX12_flaws 2 = .ok (.iconst 1, 1) := by decide +kernel
theorem dX12_flaws_3 : decode cX12_flaws 3 = .ok (.invokestatic 41, 3) := by decide +kernel
theorem dX12_flaws_6 : decode cX12_flaws 6 = .ok (.ifCond .ne 7, 3) := by decide +kernel
theorem dX12_flaws_9 : decode cX12_flaws 9 = .ok (.ldc2_w 229, 3) := by decide +kernel
theorem dX12_flaws_12 : decode cX12_flaws 12 = .ok (.lreturn, 1) := by decide +kernel
theorem dX12_flaws_13 : decode cX12_flaws 13 = .ok (.aload_n 0, 1) := by decide +kernel
theorem dX12_flaws_14 : decode cX12_flaws 14 = .ok (.invokevirtual 231, 3) := by decide +kernel
theorem dX12_flaws_17 : decode cX12_flaws 17 = .ok (.aload_n 0, 1) := by decide +kernel
theorem dX12_flaws_18 : decode cX12_flaws 18 = .ok (.getfield 217, 3) := by decide +kernel
theorem dX12_flaws_21 : decode cX12_flaws 21 = .ok (.ldc2_w 227, 3) := by decide +kernel
theorem dX12_flaws_24 : decode cX12_flaws 24 = .ok (.iload_n 1, 1) := by decide +kernel
theorem dX12_flaws_25 : decode cX12_flaws 25 = .ok (.invokestatic 234, 3) := by decide +kernel
theorem dX12_flaws_28 : decode cX12_flaws 28 = .ok (.lreturn, 1) := by decide +kernel
theorem dX12_clean_0 : decode cX12_clean 0 = .ok (.iload_n 1, 1) := by decide +kernel
theorem dX12_clean_1 : decode cX12_clean 1 = .ok (.iconst 0, 1) := by decide +kernel
theorem dX12_clean_2 : decode cX12_clean 2 = .ok (.iconst 1, 1) := by decide +kernel
theorem dX12_clean_3 : decode cX12_clean 3 = .ok (.invokestatic 41, 3) := by decide +kernel
theorem dX12_clean_6 : decode cX12_clean 6 = .ok (.ifCond .ne 7, 3) := by decide +kernel
theorem dX12_clean_9 : decode cX12_clean 9 = .ok (.ldc2_w 229, 3) := by decide +kernel
theorem dX12_clean_12 : decode cX12_clean 12 = .ok (.lreturn, 1) := by decide +kernel
theorem dX12_clean_13 : decode cX12_clean 13 = .ok (.aload_n 0, 1) := by decide +kernel
theorem dX12_clean_14 : decode cX12_clean 14 = .ok (.invokevirtual 231, 3) := by decide +kernel
theorem dX12_clean_17 : decode cX12_clean 17 = .ok (.aload_n 0, 1) := by decide +kernel
theorem dX12_clean_18 : decode cX12_clean 18 = .ok (.getfield 221, 3) := by decide +kernel
theorem dX12_clean_21 : decode cX12_clean 21 = .ok (.aload_n 0, 1) := by decide +kernel
theorem dX12_clean_22 : decode cX12_clean 22 = .ok (.getfield 224, 3) := by decide +kernel
theorem dX12_clean_25 : decode cX12_clean 25 = .ok (.iload_n 1, 1) := by decide +kernel
theorem dX12_clean_26 : decode cX12_clean 26 = .ok (.invokestatic 234, 3) := by decide +kernel
theorem dX12_clean_29 : decode cX12_clean 29 = .ok (.lreturn, 1) := by decide +kernel
theorem dX12_mirror_0 : decode cX12_mirror 0 = .ok (.aload_n 0, 1) := by decide +kernel
theorem dX12_mirror_1 : decode cX12_mirror 1 = .ok (.iload_n 1, 1) := by decide +kernel
theorem dX12_mirror_2 : decode cX12_mirror 2 = .ok (.invokevirtual 150, 3) := by decide +kernel
theorem dX12_mirror_5 : decode cX12_mirror 5 = .ok (.ifCond .eq 18, 3) := by decide +kernel
theorem dX12_mirror_8 : decode cX12_mirror 8 = .ok (.bipush 99, 2) := by decide +kernel
theorem dX12_mirror_10 : decode cX12_mirror 10 = .ok (.aload_n 0, 1) := by decide +kernel
theorem dX12_mirror_11 : decode cX12_mirror 11 = .ok (.getfield 9, 3) := by decide +kernel
theorem dX12_mirror_14 : decode cX12_mirror 14 = .ok (.bipush 66, 2) := by decide +kernel
theorem dX12_mirror_16 : decode cX12_mirror 16 = .ok (.iload_n 1, 1) := by decide +kernel
theorem dX12_mirror_17 : decode cX12_mirror 17 = .ok (.iadd, 1) := by decide +kernel
theorem dX12_mirror_18 : decode cX12_mirror 18 = .ok (.iaload, 1) := by decide +kernel
theorem dX12_mirror_19 : decode cX12_mirror 19 = .ok (.isub, 1) := by decide +kernel
theorem dX12_mirror_20 : decode cX12_mirror 20 = .ok (.goto 4, 3) := by decide +kernel
theorem dX12_mirror_23 : decode cX12_mirror 23 = .ok (.iconst (-1), 1) := by decide +kernel
theorem dX12_mirror_24 : decode cX12_mirror 24 = .ok (.ireturn, 1) := by decide +kernel
theorem dX12_apart_0 : decode cX12_apart 0 = .ok (.aload_n 0, 1) := by decide +kernel
theorem dX12_apart_1 : decode cX12_apart 1 = .ok (.getfield 9, 3) := by decide +kernel
theorem dX12_apart_4 : decode cX12_apart 4 = .ok (.bipush 66, 2) := by decide +kernel
theorem dX12_apart_6 : decode cX12_apart 6 = .ok (.iload_n 1, 1) := by decide +kernel
theorem dX12_apart_7 : decode cX12_apart 7 = .ok (.iadd, 1) := by decide +kernel
theorem dX12_apart_8 : decode cX12_apart 8 = .ok (.iaload, 1) := by decide +kernel
theorem dX12_apart_9 : decode cX12_apart 9 = .ok (.iload_n 2, 1) := by decide +kernel
theorem dX12_apart_10 : decode cX12_apart 10 = .ok (.isub, 1) := by decide +kernel
theorem dX12_apart_11 : decode cX12_apart 11 = .ok (.istore_n 3, 1) := by decide +kernel
theorem dX12_apart_12 : decode cX12_apart 12 = .ok (.iload_n 3, 1) := by decide +kernel
theorem dX12_apart_13 : decode cX12_apart 13 = .ok (.ifCond .ge 8, 3) := by decide +kernel
theorem dX12_apart_16 : decode cX12_apart 16 = .ok (.iload_n 3, 1) := by decide +kernel
theorem dX12_apart_17 : decode cX12_apart 17 = .ok (.ineg, 1) := by decide +kernel
theorem dX12_apart_18 : decode cX12_apart 18 = .ok (.goto 4, 3) := by decide +kernel
theorem dX12_apart_21 : decode cX12_apart 21 = .ok (.iload_n 3, 1) := by decide +kernel
theorem dX12_apart_22 : decode cX12_apart 22 = .ok (.ireturn, 1) := by decide +kernel
theorem dX12_besideOf_0 : decode cX12_besideOf 0 = .ok (.iconst 0, 1) := by decide +kernel
theorem dX12_besideOf_1 : decode cX12_besideOf 1 = .ok (.istore_n 2, 1) := by decide +kernel
theorem dX12_besideOf_2 : decode cX12_besideOf 2 = .ok (.iconst 0, 1) := by decide +kernel
theorem dX12_besideOf_3 : decode cX12_besideOf 3 = .ok (.istore_n 3, 1) := by decide +kernel
theorem dX12_besideOf_4 : decode cX12_besideOf 4 = .ok (.iload_n 3, 1) := by decide +kernel
theorem dX12_besideOf_5 : decode cX12_besideOf 5 = .ok (.aload_n 0, 1) := by decide +kernel
theorem dX12_besideOf_6 : decode cX12_besideOf 6 = .ok (.getfield 9, 3) := by decide +kernel
theorem dX12_besideOf_9 : decode cX12_besideOf 9 = .ok (.bipush 43, 2) := by decide +kernel
theorem dX12_besideOf_11 : decode cX12_besideOf 11 = .ok (.iaload, 1) := by decide +kernel
theorem dX12_besideOf_12 : decode cX12_besideOf 12 = .ok (.if_icmp .ge 42, 3) := by decide +kernel
theorem dX12_besideOf_15 : decode cX12_besideOf 15 = .ok (.iload_n 2, 1) := by decide +kernel
theorem dX12_besideOf_16 : decode cX12_besideOf 16 = .ok (.iload_n 3, 1) := by decide +kernel
theorem dX12_besideOf_17 : decode cX12_besideOf 17 = .ok (.iload_n 1, 1) := by decide +kernel
theorem dX12_besideOf_18 : decode cX12_besideOf 18 = .ok (.if_icmp .eq 27, 3) := by decide +kernel
theorem dX12_besideOf_21 : decode cX12_besideOf 21 = .ok (.aload_n 0, 1) := by decide +kernel
theorem dX12_besideOf_22 : decode cX12_besideOf 22 = .ok (.iload_n 3, 1) := by decide +kernel
theorem dX12_besideOf_23 : decode cX12_besideOf 23 = .ok (.aload_n 0, 1) := by decide +kernel
theorem dX12_besideOf_24 : decode cX12_besideOf 24 = .ok (.getfield 9, 3) := by decide +kernel
theorem dX12_besideOf_27 : decode cX12_besideOf 27 = .ok (.bipush 66, 2) := by decide +kernel
theorem dX12_besideOf_29 : decode cX12_besideOf 29 = .ok (.iload_n 1, 1) := by decide +kernel
theorem dX12_besideOf_30 : decode cX12_besideOf 30 = .ok (.iadd, 1) := by decide +kernel
theorem dX12_besideOf_31 : decode cX12_besideOf 31 = .ok (.iaload, 1) := by decide +kernel
theorem dX12_besideOf_32 : decode cX12_besideOf 32 = .ok (.invokevirtual 238, 3) := by decide +kernel
theorem dX12_besideOf_35 : decode cX12_besideOf 35 = .ok (.iconst 3, 1) := by decide +kernel
theorem dX12_besideOf_36 : decode cX12_besideOf 36 = .ok (.if_icmp .gt 9, 3) := by decide +kernel
theorem dX12_besideOf_39 : decode cX12_besideOf 39 = .ok (.iconst 1, 1) := by decide +kernel
theorem dX12_besideOf_40 : decode cX12_besideOf 40 = .ok (.iload_n 3, 1) := by decide +kernel
theorem dX12_besideOf_41 : decode cX12_besideOf 41 = .ok (.ishl, 1) := by decide +kernel
theorem dX12_besideOf_42 : decode cX12_besideOf 42 = .ok (.goto 4, 3) := by decide +kernel
theorem dX12_besideOf_45 : decode cX12_besideOf 45 = .ok (.iconst 0, 1) := by decide +kernel
theorem dX12_besideOf_46 : decode cX12_besideOf 46 = .ok (.ior, 1) := by decide +kernel
theorem dX12_besideOf_47 : decode cX12_besideOf 47 = .ok (.istore_n 2, 1) := by decide +kernel
theorem dX12_besideOf_48 : decode cX12_besideOf 48 = .ok (.iinc 3 1, 3) := by decide +kernel
theorem dX12_besideOf_51 : decode cX12_besideOf 51 = .ok (.goto (-47), 3) := by decide +kernel
theorem dX12_besideOf_54 : decode cX12_besideOf 54 = .ok (.iload_n 2, 1) := by decide +kernel
theorem dX12_besideOf_55 : decode cX12_besideOf 55 = .ok (.ireturn, 1) := by decide +kernel
theorem dX12_sizeOf_0 : decode cX12_sizeOf 0 = .ok (.iconst 0, 1) := by decide +kernel
theorem dX12_sizeOf_1 : decode cX12_sizeOf 1 = .ok (.istore_n 1, 1) := by decide +kernel
theorem dX12_sizeOf_2 : decode cX12_sizeOf 2 = .ok (.iconst 0, 1) := by decide +kernel
theorem dX12_sizeOf_3 : decode cX12_sizeOf 3 = .ok (.istore_n 2, 1) := by decide +kernel
theorem dX12_sizeOf_4 : decode cX12_sizeOf 4 = .ok (.iload_n 2, 1) := by decide +kernel
theorem dX12_sizeOf_5 : decode cX12_sizeOf 5 = .ok (.bipush 8, 2) := by decide +kernel
theorem dX12_sizeOf_7 : decode cX12_sizeOf 7 = .ok (.if_icmp .ge 17, 3) := by decide +kernel
theorem dX12_sizeOf_10 : decode cX12_sizeOf 10 = .ok (.iload_n 1, 1) := by decide +kernel
theorem dX12_sizeOf_11 : decode cX12_sizeOf 11 = .ok (.iload_n 0, 1) := by decide +kernel
theorem dX12_sizeOf_12 : decode cX12_sizeOf 12 = .ok (.iload_n 2, 1) := by decide +kernel
theorem dX12_sizeOf_13 : decode cX12_sizeOf 13 = .ok (.ishr, 1) := by decide +kernel
theorem dX12_sizeOf_14 : decode cX12_sizeOf 14 = .ok (.iconst 1, 1) := by decide +kernel
theorem dX12_sizeOf_15 : decode cX12_sizeOf 15 = .ok (.iand, 1) := by decide +kernel
theorem dX12_sizeOf_16 : decode cX12_sizeOf 16 = .ok (.iadd, 1) := by decide +kernel
theorem dX12_sizeOf_17 : decode cX12_sizeOf 17 = .ok (.istore_n 1, 1) := by decide +kernel
theorem dX12_sizeOf_18 : decode cX12_sizeOf 18 = .ok (.iinc 2 1, 3) := by decide +kernel
theorem dX12_sizeOf_21 : decode cX12_sizeOf 21 = .ok (.goto (-17), 3) := by decide +kernel
theorem dX12_sizeOf_24 : decode cX12_sizeOf 24 = .ok (.iload_n 1, 1) := by decide +kernel
theorem dX12_sizeOf_25 : decode cX12_sizeOf 25 = .ok (.ireturn, 1) := by decide +kernel
theorem dX12_beside_0 : decode cX12_beside 0 = .ok (.aload_n 0, 1) := by decide +kernel
theorem dX12_beside_1 : decode cX12_beside 1 = .ok (.iload_n 1, 1) := by decide +kernel
theorem dX12_beside_2 : decode cX12_beside 2 = .ok (.invokevirtual 150, 3) := by decide +kernel
theorem dX12_beside_5 : decode cX12_beside 5 = .ok (.ifCond .eq 11, 3) := by decide +kernel
theorem dX12_beside_8 : decode cX12_beside 8 = .ok (.aload_n 0, 1) := by decide +kernel
theorem dX12_beside_9 : decode cX12_beside 9 = .ok (.iload_n 1, 1) := by decide +kernel
theorem dX12_beside_10 : decode cX12_beside 10 = .ok (.invokevirtual 241, 3) := by decide +kernel
theorem dX12_beside_13 : decode cX12_beside 13 = .ok (.goto 4, 3) := by decide +kernel
theorem dX12_beside_16 : decode cX12_beside 16 = .ok (.iconst (-1), 1) := by decide +kernel
theorem dX12_beside_17 : decode cX12_beside 17 = .ok (.ireturn, 1) := by decide +kernel
theorem dX12_crowd_0 : decode cX12_crowd 0 = .ok (.iconst (-1), 1) := by decide +kernel
theorem dX12_crowd_1 : decode cX12_crowd 1 = .ok (.istore_n 1, 1) := by decide +kernel
theorem dX12_crowd_2 : decode cX12_crowd 2 = .ok (.bipush (-5), 2) := by decide +kernel
theorem dX12_crowd_4 : decode cX12_crowd 4 = .ok (.istore_n 2, 1) := by decide +kernel
theorem dX12_crowd_5 : decode cX12_crowd 5 = .ok (.iconst 0, 1) := by decide +kernel
theorem dX12_crowd_6 : decode cX12_crowd 6 = .ok (.istore_n 3, 1) := by decide +kernel
theorem dX12_crowd_7 : decode cX12_crowd 7 = .ok (.iload_n 3, 1) := by decide +kernel
theorem dX12_crowd_8 : decode cX12_crowd 8 = .ok (.aload_n 0, 1) := by decide +kernel
theorem dX12_crowd_9 : decode cX12_crowd 9 = .ok (.getfield 9, 3) := by decide +kernel
theorem dX12_crowd_12 : decode cX12_crowd 12 = .ok (.bipush 43, 2) := by decide +kernel
theorem dX12_crowd_14 : decode cX12_crowd 14 = .ok (.iaload, 1) := by decide +kernel
theorem dX12_crowd_15 : decode cX12_crowd 15 = .ok (.if_icmp .ge 44, 3) := by decide +kernel
theorem dX12_crowd_18 : decode cX12_crowd 18 = .ok (.aload_n 0, 1) := by decide +kernel
theorem dX12_crowd_19 : decode cX12_crowd 19 = .ok (.iload_n 3, 1) := by decide +kernel
theorem dX12_crowd_20 : decode cX12_crowd 20 = .ok (.invokevirtual 241, 3) := by decide +kernel
theorem dX12_crowd_23 : decode cX12_crowd 23 = .ok (.invokestatic 244, 3) := by decide +kernel
theorem dX12_crowd_26 : decode cX12_crowd 26 = .ok (.istore 4, 2) := by decide +kernel
theorem dX12_crowd_28 : decode cX12_crowd 28 = .ok (.iload 4, 2) := by decide +kernel
theorem dX12_crowd_30 : decode cX12_crowd 30 = .ok (.iload_n 1, 1) := by decide +kernel
theorem dX12_crowd_31 : decode cX12_crowd 31 = .ok (.if_icmp .le 7, 3) := by decide +kernel
theorem dX12_crowd_34 : decode cX12_crowd 34 = .ok (.iload_n 3, 1) := by decide +kernel
theorem dX12_crowd_35 : decode cX12_crowd 35 = .ok (.goto 4, 3) := by decide +kernel
theorem dX12_crowd_38 : decode cX12_crowd 38 = .ok (.iload_n 2, 1) := by decide +kernel
theorem dX12_crowd_39 : decode cX12_crowd 39 = .ok (.istore_n 2, 1) := by decide +kernel
theorem dX12_crowd_40 : decode cX12_crowd 40 = .ok (.iload 4, 2) := by decide +kernel
theorem dX12_crowd_42 : decode cX12_crowd 42 = .ok (.iload_n 1, 1) := by decide +kernel
theorem dX12_crowd_43 : decode cX12_crowd 43 = .ok (.if_icmp .le 8, 3) := by decide +kernel
theorem dX12_crowd_46 : decode cX12_crowd 46 = .ok (.iload 4, 2) := by decide +kernel
theorem dX12_crowd_48 : decode cX12_crowd 48 = .ok (.goto 4, 3) := by decide +kernel
theorem dX12_crowd_51 : decode cX12_crowd 51 = .ok (.iload_n 1, 1) := by decide +kernel
theorem dX12_crowd_52 : decode cX12_crowd 52 = .ok (.istore_n 1, 1) := by decide +kernel
theorem dX12_crowd_53 : decode cX12_crowd 53 = .ok (.iinc 3 1, 3) := by decide +kernel
theorem dX12_crowd_56 : decode cX12_crowd 56 = .ok (.goto (-49), 3) := by decide +kernel
theorem dX12_crowd_59 : decode cX12_crowd 59 = .ok (.iload_n 2, 1) := by decide +kernel
theorem dX12_crowd_60 : decode cX12_crowd 60 = .ok (.ireturn, 1) := by decide +kernel
theorem dX12_room_0 : decode cX12_room 0 = .ok (.iload_n 1, 1) := by decide +kernel
theorem dX12_room_1 : decode cX12_room 1 = .ok (.iconst 1, 1) := by decide +kernel
theorem dX12_room_2 : decode cX12_room 2 = .ok (.bipush 9, 2) := by decide +kernel
theorem dX12_room_4 : decode cX12_room 4 = .ok (.invokestatic 41, 3) := by decide +kernel
theorem dX12_room_7 : decode cX12_room 7 = .ok (.ifCond .ne 6, 3) := by decide +kernel
theorem dX12_room_10 : decode cX12_room 10 = .ok (.bipush (-2), 2) := by decide +kernel
theorem dX12_room_12 : decode cX12_room 12 = .ok (.ireturn, 1) := by decide +kernel
theorem dX12_room_13 : decode cX12_room 13 = .ok (.iconst 0, 1) := by decide +kernel
theorem dX12_room_14 : decode cX12_room 14 = .ok (.istore_n 2, 1) := by decide +kernel
theorem dX12_room_15 : decode cX12_room 15 = .ok (.iload_n 2, 1) := by decide +kernel
theorem dX12_room_16 : decode cX12_room 16 = .ok (.bipush 100, 2) := by decide +kernel
theorem dX12_room_18 : decode cX12_room 18 = .ok (.if_icmp .ge 59, 3) := by decide +kernel
theorem dX12_room_21 : decode cX12_room 21 = .ok (.iconst 1, 1) := by decide +kernel
theorem dX12_room_22 : decode cX12_room 22 = .ok (.istore_n 3, 1) := by decide +kernel
theorem dX12_room_23 : decode cX12_room 23 = .ok (.iconst 0, 1) := by decide +kernel
theorem dX12_room_24 : decode cX12_room 24 = .ok (.istore 4, 2) := by decide +kernel
theorem dX12_room_26 : decode cX12_room 26 = .ok (.iload 4, 2) := by decide +kernel
theorem dX12_room_28 : decode cX12_room 28 = .ok (.aload_n 0, 1) := by decide +kernel
theorem dX12_room_29 : decode cX12_room 29 = .ok (.getfield 9, 3) := by decide +kernel
theorem dX12_room_32 : decode cX12_room 32 = .ok (.bipush 43, 2) := by decide +kernel
theorem dX12_room_34 : decode cX12_room 34 = .ok (.iaload, 1) := by decide +kernel
theorem dX12_room_35 : decode cX12_room 35 = .ok (.if_icmp .ge 30, 3) := by decide +kernel
theorem dX12_room_38 : decode cX12_room 38 = .ok (.iload_n 3, 1) := by decide +kernel
theorem dX12_room_39 : decode cX12_room 39 = .ok (.ifCond .eq 18, 3) := by decide +kernel
theorem dX12_room_42 : decode cX12_room 42 = .ok (.aload_n 0, 1) := by decide +kernel
theorem dX12_room_43 : decode cX12_room 43 = .ok (.iload 4, 2) := by decide +kernel
theorem dX12_room_45 : decode cX12_room 45 = .ok (.iload_n 2, 1) := by decide +kernel
theorem dX12_room_46 : decode cX12_room 46 = .ok (.invokevirtual 238, 3) := by decide +kernel
theorem dX12_room_49 : decode cX12_room 49 = .ok (.iload_n 1, 1) := by decide +kernel
theorem dX12_room_50 : decode cX12_room 50 = .ok (.if_icmp .lt 7, 3) := by decide +kernel
theorem dX12_room_53 : decode cX12_room 53 = .ok (.iconst 1, 1) := by decide +kernel
theorem dX12_room_54 : decode cX12_room 54 = .ok (.goto 4, 3) := by decide +kernel
theorem dX12_room_57 : decode cX12_room 57 = .ok (.iconst 0, 1) := by decide +kernel
theorem dX12_room_58 : decode cX12_room 58 = .ok (.istore_n 3, 1) := by decide +kernel
theorem dX12_room_59 : decode cX12_room 59 = .ok (.iinc 4 1, 3) := by decide +kernel
theorem dX12_room_62 : decode cX12_room 62 = .ok (.goto (-36), 3) := by decide +kernel
theorem dX12_room_65 : decode cX12_room 65 = .ok (.iload_n 3, 1) := by decide +kernel
theorem dX12_room_66 : decode cX12_room 66 = .ok (.ifCond .eq 5, 3) := by decide +kernel
theorem dX12_room_69 : decode cX12_room 69 = .ok (.iload_n 2, 1) := by decide +kernel
theorem dX12_room_70 : decode cX12_room 70 = .ok (.ireturn, 1) := by decide +kernel
theorem dX12_room_71 : decode cX12_room 71 = .ok (.iinc 2 1, 3) := by decide +kernel
theorem dX12_room_74 : decode cX12_room 74 = .ok (.goto (-59), 3) := by decide +kernel
theorem dX12_room_77 : decode cX12_room 77 = .ok (.bipush (-5), 2) := by decide +kernel
theorem dX12_room_79 : decode cX12_room 79 = .ok (.ireturn, 1) := by decide +kernel
theorem dX12_hasFlaw_0 : decode cX12_hasFlaw 0 = .ok (.aload_n 0, 1) := by decide +kernel
theorem dX12_hasFlaw_1 : decode cX12_hasFlaw 1 = .ok (.iload_n 1, 1) := by decide +kernel
theorem dX12_hasFlaw_2 : decode cX12_hasFlaw 2 = .ok (.invokevirtual 137, 3) := by decide +kernel
theorem dX12_hasFlaw_5 : decode cX12_hasFlaw 5 = .ok (.ifCond .eq 19, 3) := by decide +kernel
theorem dX12_hasFlaw_8 : decode cX12_hasFlaw 8 = .ok (.aload_n 0, 1) := by decide +kernel
theorem dX12_hasFlaw_9 : decode cX12_hasFlaw 9 = .ok (.getfield 9, 3) := by decide +kernel
theorem dX12_hasFlaw_12 : decode cX12_hasFlaw 12 = .ok (.bipush 19, 2) := by decide +kernel
theorem dX12_hasFlaw_14 : decode cX12_hasFlaw 14 = .ok (.iload_n 1, 1) := by decide +kernel
theorem dX12_hasFlaw_15 : decode cX12_hasFlaw 15 = .ok (.iadd, 1) := by decide +kernel
theorem dX12_hasFlaw_16 : decode cX12_hasFlaw 16 = .ok (.iaload, 1) := by decide +kernel
theorem dX12_hasFlaw_17 : decode cX12_hasFlaw 17 = .ok (.ifCond .le 7, 3) := by decide +kernel
theorem dX12_hasFlaw_20 : decode cX12_hasFlaw 20 = .ok (.iconst 1, 1) := by decide +kernel
theorem dX12_hasFlaw_21 : decode cX12_hasFlaw 21 = .ok (.goto 4, 3) := by decide +kernel
theorem dX12_hasFlaw_24 : decode cX12_hasFlaw 24 = .ok (.iconst 0, 1) := by decide +kernel
theorem dX12_hasFlaw_25 : decode cX12_hasFlaw 25 = .ok (.ireturn, 1) := by decide +kernel
theorem dX12_proofOf_0 : decode cX12_proofOf 0 = .ok (.iconst 0, 1) := by decide +kernel
theorem dX12_proofOf_1 : decode cX12_proofOf 1 = .ok (.istore_n 2, 1) := by decide +kernel
theorem dX12_proofOf_2 : decode cX12_proofOf 2 = .ok (.iconst 0, 1) := by decide +kernel
theorem dX12_proofOf_3 : decode cX12_proofOf 3 = .ok (.istore_n 3, 1) := by decide +kernel
theorem dX12_proofOf_4 : decode cX12_proofOf 4 = .ok (.iload_n 3, 1) := by decide +kernel
theorem dX12_proofOf_5 : decode cX12_proofOf 5 = .ok (.aload_n 0, 1) := by decide +kernel
theorem dX12_proofOf_6 : decode cX12_proofOf 6 = .ok (.getfield 9, 3) := by decide +kernel
theorem dX12_proofOf_9 : decode cX12_proofOf 9 = .ok (.bipush 43, 2) := by decide +kernel
theorem dX12_proofOf_11 : decode cX12_proofOf 11 = .ok (.iaload, 1) := by decide +kernel
theorem dX12_proofOf_12 : decode cX12_proofOf 12 = .ok (.if_icmp .ge 40, 3) := by decide +kernel
theorem dX12_proofOf_15 : decode cX12_proofOf 15 = .ok (.iload_n 2, 1) := by decide +kernel
theorem dX12_proofOf_16 : decode cX12_proofOf 16 = .ok (.aload_n 0, 1) := by decide +kernel
theorem dX12_proofOf_17 : decode cX12_proofOf 17 = .ok (.iload_n 3, 1) := by decide +kernel
theorem dX12_proofOf_18 : decode cX12_proofOf 18 = .ok (.invokevirtual 247, 3) := by decide +kernel
theorem dX12_proofOf_21 : decode cX12_proofOf 21 = .ok (.ifCond .eq 22, 3) := by decide +kernel
theorem dX12_proofOf_24 : decode cX12_proofOf 24 = .ok (.aload_n 0, 1) := by decide +kernel
theorem dX12_proofOf_25 : decode cX12_proofOf 25 = .ok (.iload_n 3, 1) := by decide +kernel
theorem dX12_proofOf_26 : decode cX12_proofOf 26 = .ok (.iconst 0, 1) := by decide +kernel
theorem dX12_proofOf_27 : decode cX12_proofOf 27 = .ok (.invokevirtual 147, 3) := by decide +kernel
theorem dX12_proofOf_30 : decode cX12_proofOf 30 = .ok (.iload_n 1, 1) := by decide +kernel
theorem dX12_proofOf_31 : decode cX12_proofOf 31 = .ok (.iadd, 1) := by decide +kernel
theorem dX12_proofOf_32 : decode cX12_proofOf 32 = .ok (.bipush 6, 2) := by decide +kernel
theorem dX12_proofOf_34 : decode cX12_proofOf 34 = .ok (.if_icmp .lt 9, 3) := by decide +kernel
theorem dX12_proofOf_37 : decode cX12_proofOf 37 = .ok (.iconst 1, 1) := by decide +kernel
theorem dX12_proofOf_38 : decode cX12_proofOf 38 = .ok (.iload_n 3, 1) := by decide +kernel
theorem dX12_proofOf_39 : decode cX12_proofOf 39 = .ok (.ishl, 1) := by decide +kernel
theorem dX12_proofOf_40 : decode cX12_proofOf 40 = .ok (.goto 4, 3) := by decide +kernel
theorem dX12_proofOf_43 : decode cX12_proofOf 43 = .ok (.iconst 0, 1) := by decide +kernel
theorem dX12_proofOf_44 : decode cX12_proofOf 44 = .ok (.ior, 1) := by decide +kernel
theorem dX12_proofOf_45 : decode cX12_proofOf 45 = .ok (.istore_n 2, 1) := by decide +kernel
theorem dX12_proofOf_46 : decode cX12_proofOf 46 = .ok (.iinc 3 1, 3) := by decide +kernel
theorem dX12_proofOf_49 : decode cX12_proofOf 49 = .ok (.goto (-45), 3) := by decide +kernel
theorem dX12_proofOf_52 : decode cX12_proofOf 52 = .ok (.iload_n 2, 1) := by decide +kernel
theorem dX12_proofOf_53 : decode cX12_proofOf 53 = .ok (.ireturn, 1) := by decide +kernel
theorem dX12_proof_0 : decode cX12_proof 0 = .ok (.iload_n 1, 1) := by decide +kernel
theorem dX12_proof_1 : decode cX12_proof 1 = .ok (.iconst 0, 1) := by decide +kernel
theorem dX12_proof_2 : decode cX12_proof 2 = .ok (.bipush 9, 2) := by decide +kernel
theorem dX12_proof_4 : decode cX12_proof 4 = .ok (.invokestatic 41, 3) := by decide +kernel
theorem dX12_proof_7 : decode cX12_proof 7 = .ok (.ifCond .eq 11, 3) := by decide +kernel
theorem dX12_proof_10 : decode cX12_proof 10 = .ok (.aload_n 0, 1) := by decide +kernel
theorem dX12_proof_11 : decode cX12_proof 11 = .ok (.iload_n 1, 1) := by decide +kernel
theorem dX12_proof_12 : decode cX12_proof 12 = .ok (.invokevirtual 250, 3) := by decide +kernel
theorem dX12_proof_15 : decode cX12_proof 15 = .ok (.goto 5, 3) := by decide +kernel
theorem dX12_proof_18 : decode cX12_proof 18 = .ok (.bipush (-2), 2) := by decide +kernel
theorem dX12_proof_20 : decode cX12_proof 20 = .ok (.ireturn, 1) := by decide +kernel
theorem dX12_proofs_0 : decode cX12_proofs 0 = .ok (.iconst 0, 1) := by decide +kernel
theorem dX12_proofs_1 : decode cX12_proofs 1 = .ok (.istore_n 1, 1) := by decide +kernel
theorem dX12_proofs_2 : decode cX12_proofs 2 = .ok (.iconst 0, 1) := by decide +kernel
theorem dX12_proofs_3 : decode cX12_proofs 3 = .ok (.istore_n 2, 1) := by decide +kernel
theorem dX12_proofs_4 : decode cX12_proofs 4 = .ok (.iload_n 2, 1) := by decide +kernel
theorem dX12_proofs_5 : decode cX12_proofs 5 = .ok (.aload_n 0, 1) := by decide +kernel
theorem dX12_proofs_6 : decode cX12_proofs 6 = .ok (.getfield 9, 3) := by decide +kernel
theorem dX12_proofs_9 : decode cX12_proofs 9 = .ok (.bipush 43, 2) := by decide +kernel
theorem dX12_proofs_11 : decode cX12_proofs 11 = .ok (.iaload, 1) := by decide +kernel
theorem dX12_proofs_12 : decode cX12_proofs 12 = .ok (.if_icmp .ge 27, 3) := by decide +kernel
theorem dX12_proofs_15 : decode cX12_proofs 15 = .ok (.iload_n 1, 1) := by decide +kernel
theorem dX12_proofs_16 : decode cX12_proofs 16 = .ok (.aload_n 0, 1) := by decide +kernel
theorem dX12_proofs_17 : decode cX12_proofs 17 = .ok (.iload_n 2, 1) := by decide +kernel
theorem dX12_proofs_18 : decode cX12_proofs 18 = .ok (.invokevirtual 247, 3) := by decide +kernel
theorem dX12_proofs_21 : decode cX12_proofs 21 = .ok (.ifCond .eq 9, 3) := by decide +kernel
theorem dX12_proofs_24 : decode cX12_proofs 24 = .ok (.iconst 1, 1) := by decide +kernel
theorem dX12_proofs_25 : decode cX12_proofs 25 = .ok (.iload_n 2, 1) := by decide +kernel
theorem dX12_proofs_26 : decode cX12_proofs 26 = .ok (.ishl, 1) := by decide +kernel
theorem dX12_proofs_27 : decode cX12_proofs 27 = .ok (.goto 4, 3) := by decide +kernel
theorem dX12_proofs_30 : decode cX12_proofs 30 = .ok (.iconst 0, 1) := by decide +kernel
theorem dX12_proofs_31 : decode cX12_proofs 31 = .ok (.ior, 1) := by decide +kernel
theorem dX12_proofs_32 : decode cX12_proofs 32 = .ok (.istore_n 1, 1) := by decide +kernel
theorem dX12_proofs_33 : decode cX12_proofs 33 = .ok (.iinc 2 1, 3) := by decide +kernel
theorem dX12_proofs_36 : decode cX12_proofs 36 = .ok (.goto (-32), 3) := by decide +kernel
theorem dX12_proofs_39 : decode cX12_proofs 39 = .ok (.iconst 0, 1) := by decide +kernel
theorem dX12_proofs_40 : decode cX12_proofs 40 = .ok (.istore_n 2, 1) := by decide +kernel
theorem dX12_proofs_41 : decode cX12_proofs 41 = .ok (.iload_n 2, 1) := by decide +kernel
theorem dX12_proofs_42 : decode cX12_proofs 42 = .ok (.bipush 10, 2) := by decide +kernel
theorem dX12_proofs_44 : decode cX12_proofs 44 = .ok (.if_icmp .ge 20, 3) := by decide +kernel
theorem dX12_proofs_47 : decode cX12_proofs 47 = .ok (.aload_n 0, 1) := by decide +kernel
theorem dX12_proofs_48 : decode cX12_proofs 48 = .ok (.iload_n 2, 1) := by decide +kernel
theorem dX12_proofs_49 : decode cX12_proofs 49 = .ok (.invokevirtual 250, 3) := by decide +kernel
theorem dX12_proofs_52 : decode cX12_proofs 52 = .ok (.iload_n 1, 1) := by decide +kernel
theorem dX12_proofs_53 : decode cX12_proofs 53 = .ok (.if_icmp .ne 5, 3) := by decide +kernel
theorem dX12_proofs_56 : decode cX12_proofs 56 = .ok (.iload_n 2, 1) := by decide +kernel
theorem dX12_proofs_57 : decode cX12_proofs 57 = .ok (.ireturn, 1) := by decide +kernel
theorem dX12_proofs_58 : decode cX12_proofs 58 = .ok (.iinc 2 1, 3) := by decide +kernel
theorem dX12_proofs_61 : decode cX12_proofs 61 = .ok (.goto (-20), 3) := by decide +kernel
theorem dX12_proofs_64 : decode cX12_proofs 64 = .ok (.bipush (-5), 2) := by decide +kernel
theorem dX12_proofs_66 : decode cX12_proofs 66 = .ok (.ireturn, 1) := by decide +kernel
theorem dX12_mends_0 : decode cX12_mends 0 = .ok (.iconst 0, 1) := by decide +kernel
theorem dX12_mends_1 : decode cX12_mends 1 = .ok (.istore_n 1, 1) := by decide +kernel
theorem dX12_mends_2 : decode cX12_mends 2 = .ok (.iconst 0, 1) := by decide +kernel
theorem dX12_mends_3 : decode cX12_mends 3 = .ok (.istore_n 2, 1) := by decide +kernel
theorem dX12_mends_4 : decode cX12_mends 4 = .ok (.iload_n 2, 1) := by decide +kernel
theorem dX12_mends_5 : decode cX12_mends 5 = .ok (.aload_n 0, 1) := by decide +kernel
theorem dX12_mends_6 : decode cX12_mends 6 = .ok (.getfield 9, 3) := by decide +kernel
theorem dX12_mends_9 : decode cX12_mends 9 = .ok (.bipush 43, 2) := by decide +kernel
theorem dX12_mends_11 : decode cX12_mends 11 = .ok (.iaload, 1) := by decide +kernel
theorem dX12_mends_12 : decode cX12_mends 12 = .ok (.if_icmp .ge 49, 3) := by decide +kernel
theorem dX12_mends_15 : decode cX12_mends 15 = .ok (.aload_n 0, 1) := by decide +kernel
theorem dX12_mends_16 : decode cX12_mends 16 = .ok (.iload_n 2, 1) := by decide +kernel
theorem dX12_mends_17 : decode cX12_mends 17 = .ok (.invokevirtual 247, 3) := by decide +kernel
theorem dX12_mends_20 : decode cX12_mends 20 = .ok (.ifCond .eq 35, 3) := by decide +kernel
theorem dX12_mends_23 : decode cX12_mends 23 = .ok (.aload_n 0, 1) := by decide +kernel
theorem dX12_mends_24 : decode cX12_mends 24 = .ok (.invokevirtual 253, 3) := by decide +kernel
theorem dX12_mends_27 : decode cX12_mends 27 = .ok (.aload_n 0, 1) := by decide +kernel
theorem dX12_mends_28 : decode cX12_mends 28 = .ok (.iload_n 2, 1) := by decide +kernel
theorem dX12_mends_29 : decode cX12_mends 29 = .ok (.invokevirtual 181, 3) := by decide +kernel
theorem dX12_mends_32 : decode cX12_mends 32 = .ok (.iload_n 1, 1) := by decide +kernel
theorem dX12_mends_33 : decode cX12_mends 33 = .ok (.aload_n 0, 1) := by decide +kernel
theorem dX12_mends_34 : decode cX12_mends 34 = .ok (.iload_n 2, 1) := by decide +kernel
theorem dX12_mends_35 : decode cX12_mends 35 = .ok (.iconst 0, 1) := by decide +kernel
theorem dX12_mends_36 : decode cX12_mends 36 = .ok (.invokevirtual 187, 3) := by decide +kernel
theorem dX12_mends_39 : decode cX12_mends 39 = .ok (.ifCond .eq 9, 3) := by decide +kernel
theorem dX12_mends_42 : decode cX12_mends 42 = .ok (.iconst 1, 1) := by decide +kernel
theorem dX12_mends_43 : decode cX12_mends 43 = .ok (.iload_n 2, 1) := by decide +kernel
theorem dX12_mends_44 : decode cX12_mends 44 = .ok (.ishl, 1) := by decide +kernel
theorem dX12_mends_45 : decode cX12_mends 45 = .ok (.goto 4, 3) := by decide +kernel
theorem dX12_mends_48 : decode cX12_mends 48 = .ok (.iconst 0, 1) := by decide +kernel
theorem dX12_mends_49 : decode cX12_mends 49 = .ok (.ior, 1) := by decide +kernel
theorem dX12_mends_50 : decode cX12_mends 50 = .ok (.istore_n 1, 1) := by decide +kernel
theorem dX12_mends_51 : decode cX12_mends 51 = .ok (.aload_n 0, 1) := by decide +kernel
theorem dX12_mends_52 : decode cX12_mends 52 = .ok (.invokevirtual 256, 3) := by decide +kernel
theorem dX12_mends_55 : decode cX12_mends 55 = .ok (.iinc 2 1, 3) := by decide +kernel
theorem dX12_mends_58 : decode cX12_mends 58 = .ok (.goto (-54), 3) := by decide +kernel
theorem dX12_mends_61 : decode cX12_mends 61 = .ok (.iload_n 1, 1) := by decide +kernel
theorem dX12_mends_62 : decode cX12_mends 62 = .ok (.ireturn, 1) := by decide +kernel
theorem dX12_goodNow_0 : decode cX12_goodNow 0 = .ok (.aload_n 0, 1) := by decide +kernel
theorem dX12_goodNow_1 : decode cX12_goodNow 1 = .ok (.aload_n 0, 1) := by decide +kernel
theorem dX12_goodNow_2 : decode cX12_goodNow 2 = .ok (.invokevirtual 197, 3) := by decide +kernel
theorem dX12_goodNow_5 : decode cX12_goodNow 5 = .ok (.invokevirtual 200, 3) := by decide +kernel
theorem dX12_goodNow_8 : decode cX12_goodNow 8 = .ok (.istore_n 1, 1) := by decide +kernel
theorem dX12_goodNow_9 : decode cX12_goodNow 9 = .ok (.iload_n 1, 1) := by decide +kernel
theorem dX12_goodNow_10 : decode cX12_goodNow 10 = .ok (.ifCond .ge 7, 3) := by decide +kernel
theorem dX12_goodNow_13 : decode cX12_goodNow 13 = .ok (.iconst 0, 1) := by decide +kernel
theorem dX12_goodNow_14 : decode cX12_goodNow 14 = .ok (.goto 4, 3) := by decide +kernel
theorem dX12_goodNow_17 : decode cX12_goodNow 17 = .ok (.iload_n 1, 1) := by decide +kernel
theorem dX12_goodNow_18 : decode cX12_goodNow 18 = .ok (.ireturn, 1) := by decide +kernel
theorem dX12_worthOf_0 : decode cX12_worthOf 0 = .ok (.aload_n 0, 1) := by decide +kernel
theorem dX12_worthOf_1 : decode cX12_worthOf 1 = .ok (.invokevirtual 259, 3) := by decide +kernel
theorem dX12_worthOf_4 : decode cX12_worthOf 4 = .ok (.istore_n 2, 1) := by decide +kernel
theorem dX12_worthOf_5 : decode cX12_worthOf 5 = .ok (.aload_n 0, 1) := by decide +kernel
theorem dX12_worthOf_6 : decode cX12_worthOf 6 = .ok (.invokevirtual 253, 3) := by decide +kernel
theorem dX12_worthOf_9 : decode cX12_worthOf 9 = .ok (.aload_n 0, 1) := by decide +kernel
theorem dX12_worthOf_10 : decode cX12_worthOf 10 = .ok (.iload_n 1, 1) := by decide +kernel
theorem dX12_worthOf_11 : decode cX12_worthOf 11 = .ok (.invokevirtual 184, 3) := by decide +kernel
theorem dX12_worthOf_14 : decode cX12_worthOf 14 = .ok (.aload_n 0, 1) := by decide +kernel
theorem dX12_worthOf_15 : decode cX12_worthOf 15 = .ok (.invokevirtual 259, 3) := by decide +kernel
theorem dX12_worthOf_18 : decode cX12_worthOf 18 = .ok (.istore_n 3, 1) := by decide +kernel
theorem dX12_worthOf_19 : decode cX12_worthOf 19 = .ok (.aload_n 0, 1) := by decide +kernel
theorem dX12_worthOf_20 : decode cX12_worthOf 20 = .ok (.invokevirtual 256, 3) := by decide +kernel
theorem dX12_worthOf_23 : decode cX12_worthOf 23 = .ok (.iload_n 3, 1) := by decide +kernel
theorem dX12_worthOf_24 : decode cX12_worthOf 24 = .ok (.iload_n 2, 1) := by decide +kernel
theorem dX12_worthOf_25 : decode cX12_worthOf 25 = .ok (.isub, 1) := by decide +kernel
theorem dX12_worthOf_26 : decode cX12_worthOf 26 = .ok (.ireturn, 1) := by decide +kernel
theorem dX12_worth_0 : decode cX12_worth 0 = .ok (.aload_n 0, 1) := by decide +kernel
theorem dX12_worth_1 : decode cX12_worth 1 = .ok (.iload_n 1, 1) := by decide +kernel
theorem dX12_worth_2 : decode cX12_worth 2 = .ok (.invokevirtual 150, 3) := by decide +kernel
theorem dX12_worth_5 : decode cX12_worth 5 = .ok (.ifCond .ne 9, 3) := by decide +kernel
theorem dX12_worth_8 : decode cX12_worth 8 = .ok (.sipush (-1001), 3) := by decide +kernel
theorem dX12_worth_11 : decode cX12_worth 11 = .ok (.goto 22, 3) := by decide +kernel
theorem dX12_worth_14 : decode cX12_worth 14 = .ok (.aload_n 0, 1) := by decide +kernel
theorem dX12_worth_15 : decode cX12_worth 15 = .ok (.iload_n 1, 1) := by decide +kernel
theorem dX12_worth_16 : decode cX12_worth 16 = .ok (.invokevirtual 137, 3) := by decide +kernel
theorem dX12_worth_19 : decode cX12_worth 19 = .ok (.ifCond .ne 9, 3) := by decide +kernel
theorem dX12_worth_22 : decode cX12_worth 22 = .ok (.sipush (-1002), 3) := by decide +kernel
theorem dX12_worth_25 : decode cX12_worth 25 = .ok (.goto 8, 3) := by decide +kernel
theorem dX12_worth_28 : decode cX12_worth 28 = .ok (.aload_n 0, 1) := by decide +kernel
theorem dX12_worth_29 : decode cX12_worth 29 = .ok (.iload_n 1, 1) := by decide +kernel
theorem dX12_worth_30 : decode cX12_worth 30 = .ok (.invokevirtual 262, 3) := by decide +kernel
theorem dX12_worth_33 : decode cX12_worth 33 = .ok (.ireturn, 1) := by decide +kernel
theorem dX12_best_0 : decode cX12_best 0 = .ok (.iconst 0, 1) := by decide +kernel
theorem dX12_best_1 : decode cX12_best 1 = .ok (.istore_n 1, 1) := by decide +kernel
theorem dX12_best_2 : decode cX12_best 2 = .ok (.bipush (-5), 2) := by decide +kernel
theorem dX12_best_4 : decode cX12_best 4 = .ok (.istore_n 2, 1) := by decide +kernel
theorem dX12_best_5 : decode cX12_best 5 = .ok (.iconst 0, 1) := by decide +kernel
theorem dX12_best_6 : decode cX12_best 6 = .ok (.istore_n 3, 1) := by decide +kernel
theorem dX12_best_7 : decode cX12_best 7 = .ok (.iload_n 3, 1) := by decide +kernel
theorem dX12_best_8 : decode cX12_best 8 = .ok (.aload_n 0, 1) := by decide +kernel
theorem dX12_best_9 : decode cX12_best 9 = .ok (.getfield 9, 3) := by decide +kernel
theorem dX12_best_12 : decode cX12_best 12 = .ok (.bipush 43, 2) := by decide +kernel
theorem dX12_best_14 : decode cX12_best 14 = .ok (.iaload, 1) := by decide +kernel
theorem dX12_best_15 : decode cX12_best 15 = .ok (.if_icmp .ge 53, 3) := by decide +kernel
theorem dX12_best_18 : decode cX12_best 18 = .ok (.aload_n 0, 1) := by decide +kernel
theorem dX12_best_19 : decode cX12_best 19 = .ok (.iload_n 3, 1) := by decide +kernel
theorem dX12_best_20 : decode cX12_best 20 = .ok (.invokevirtual 137, 3) := by decide +kernel
theorem dX12_best_23 : decode cX12_best 23 = .ok (.ifCond .eq 11, 3) := by decide +kernel
theorem dX12_best_26 : decode cX12_best 26 = .ok (.aload_n 0, 1) := by decide +kernel
theorem dX12_best_27 : decode cX12_best 27 = .ok (.iload_n 3, 1) := by decide +kernel
theorem dX12_best_28 : decode cX12_best 28 = .ok (.invokevirtual 262, 3) := by decide +kernel
theorem dX12_best_31 : decode cX12_best 31 = .ok (.goto 4, 3) := by decide +kernel
theorem dX12_best_34 : decode cX12_best 34 = .ok (.iconst 0, 1) := by decide +kernel
theorem dX12_best_35 : decode cX12_best 35 = .ok (.istore 4, 2) := by decide +kernel
theorem dX12_best_37 : decode cX12_best 37 = .ok (.iload 4, 2) := by decide +kernel
theorem dX12_best_39 : decode cX12_best 39 = .ok (.iload_n 1, 1) := by decide +kernel
theorem dX12_best_40 : decode cX12_best 40 = .ok (.if_icmp .le 7, 3) := by decide +kernel
theorem dX12_best_43 : decode cX12_best 43 = .ok (.iload_n 3, 1) := by decide +kernel
theorem dX12_best_44 : decode cX12_best 44 = .ok (.goto 4, 3) := by decide +kernel
theorem dX12_best_47 : decode cX12_best 47 = .ok (.iload_n 2, 1) := by decide +kernel
theorem dX12_best_48 : decode cX12_best 48 = .ok (.istore_n 2, 1) := by decide +kernel
theorem dX12_best_49 : decode cX12_best 49 = .ok (.iload 4, 2) := by decide +kernel
theorem dX12_best_51 : decode cX12_best 51 = .ok (.iload_n 1, 1) := by decide +kernel
theorem dX12_best_52 : decode cX12_best 52 = .ok (.if_icmp .le 8, 3) := by decide +kernel
theorem dX12_best_55 : decode cX12_best 55 = .ok (.iload 4, 2) := by decide +kernel
theorem dX12_best_57 : decode cX12_best 57 = .ok (.goto 4, 3) := by decide +kernel
theorem dX12_best_60 : decode cX12_best 60 = .ok (.iload_n 1, 1) := by decide +kernel
theorem dX12_best_61 : decode cX12_best 61 = .ok (.istore_n 1, 1) := by decide +kernel
theorem dX12_best_62 : decode cX12_best 62 = .ok (.iinc 3 1, 3) := by decide +kernel
theorem dX12_best_65 : decode cX12_best 65 = .ok (.goto (-58), 3) := by decide +kernel
theorem dX12_best_68 : decode cX12_best 68 = .ok (.iload_n 2, 1) := by decide +kernel
theorem dX12_best_69 : decode cX12_best 69 = .ok (.ireturn, 1) := by decide +kernel
theorem dX12_see_0 : decode cX12_see 0 = .ok (.iload_n 1, 1) := by decide +kernel
theorem dX12_see_1 : decode cX12_see 1 = .ok (.iconst (-1), 1) := by decide +kernel
theorem dX12_see_2 : decode cX12_see 2 = .ok (.if_icmp .ne 13, 3) := by decide +kernel
theorem dX12_see_5 : decode cX12_see 5 = .ok (.aload_n 0, 1) := by decide +kernel
theorem dX12_see_6 : decode cX12_see 6 = .ok (.getfield 9, 3) := by decide +kernel
theorem dX12_see_9 : decode cX12_see 9 = .ok (.bipush 45, 2) := by decide +kernel
theorem dX12_see_11 : decode cX12_see 11 = .ok (.iconst 0, 1) := by decide +kernel
theorem dX12_see_12 : decode cX12_see 12 = .ok (.iastore, 1) := by decide +kernel
theorem dX12_see_13 : decode cX12_see 13 = .ok (.iconst 0, 1) := by decide +kernel
theorem dX12_see_14 : decode cX12_see 14 = .ok (.ireturn, 1) := by decide +kernel
theorem dX12_see_15 : decode cX12_see 15 = .ok (.aload_n 0, 1) := by decide +kernel
theorem dX12_see_16 : decode cX12_see 16 = .ok (.iload_n 1, 1) := by decide +kernel
theorem dX12_see_17 : decode cX12_see 17 = .ok (.invokevirtual 150, 3) := by decide +kernel
theorem dX12_see_20 : decode cX12_see 20 = .ok (.ifCond .ne 5, 3) := by decide +kernel
theorem dX12_see_23 : decode cX12_see 23 = .ok (.iconst (-1), 1) := by decide +kernel
theorem dX12_see_24 : decode cX12_see 24 = .ok (.ireturn, 1) := by decide +kernel
theorem dX12_see_25 : decode cX12_see 25 = .ok (.iload_n 2, 1) := by decide +kernel
theorem dX12_see_26 : decode cX12_see 26 = .ok (.iconst 0, 1) := by decide +kernel
theorem dX12_see_27 : decode cX12_see 27 = .ok (.bipush 30, 2) := by decide +kernel
theorem dX12_see_29 : decode cX12_see 29 = .ok (.invokestatic 41, 3) := by decide +kernel
theorem dX12_see_32 : decode cX12_see 32 = .ok (.ifCond .ne 6, 3) := by decide +kernel
theorem dX12_see_35 : decode cX12_see 35 = .ok (.bipush (-2), 2) := by decide +kernel
theorem dX12_see_37 : decode cX12_see 37 = .ok (.ireturn, 1) := by decide +kernel
theorem dX12_see_38 : decode cX12_see 38 = .ok (.aload_n 0, 1) := by decide +kernel
theorem dX12_see_39 : decode cX12_see 39 = .ok (.getfield 9, 3) := by decide +kernel
theorem dX12_see_42 : decode cX12_see 42 = .ok (.bipush 45, 2) := by decide +kernel
theorem dX12_see_44 : decode cX12_see 44 = .ok (.iaload, 1) := by decide +kernel
theorem dX12_see_45 : decode cX12_see 45 = .ok (.bipush 6, 2) := by decide +kernel
theorem dX12_see_47 : decode cX12_see 47 = .ok (.if_icmp .ne 6, 3) := by decide +kernel
theorem dX12_see_50 : decode cX12_see 50 = .ok (.bipush (-4), 2) := by decide +kernel
theorem dX12_see_52 : decode cX12_see 52 = .ok (.ireturn, 1) := by decide +kernel
theorem dX12_see_53 : decode cX12_see 53 = .ok (.aload_n 0, 1) := by decide +kernel
theorem dX12_see_54 : decode cX12_see 54 = .ok (.getfield 9, 3) := by decide +kernel
theorem dX12_see_57 : decode cX12_see 57 = .ok (.bipush 106, 2) := by decide +kernel
theorem dX12_see_59 : decode cX12_see 59 = .ok (.aload_n 0, 1) := by decide +kernel
theorem dX12_see_60 : decode cX12_see 60 = .ok (.getfield 9, 3) := by decide +kernel
theorem dX12_see_63 : decode cX12_see 63 = .ok (.bipush 45, 2) := by decide +kernel
theorem dX12_see_65 : decode cX12_see 65 = .ok (.iaload, 1) := by decide +kernel
theorem dX12_see_66 : decode cX12_see 66 = .ok (.iadd, 1) := by decide +kernel
theorem dX12_see_67 : decode cX12_see 67 = .ok (.iload_n 1, 1) := by decide +kernel
theorem dX12_see_68 : decode cX12_see 68 = .ok (.iastore, 1) := by decide +kernel
theorem dX12_see_69 : decode cX12_see 69 = .ok (.aload_n 0, 1) := by decide +kernel
theorem dX12_see_70 : decode cX12_see 70 = .ok (.getfield 9, 3) := by decide +kernel
theorem dX12_see_73 : decode cX12_see 73 = .ok (.bipush 112, 2) := by decide +kernel
theorem dX12_see_75 : decode cX12_see 75 = .ok (.aload_n 0, 1) := by decide +kernel
theorem dX12_see_76 : decode cX12_see 76 = .ok (.getfield 9, 3) := by decide +kernel
theorem dX12_see_79 : decode cX12_see 79 = .ok (.bipush 45, 2) := by decide +kernel
theorem dX12_see_81 : decode cX12_see 81 = .ok (.iaload, 1) := by decide +kernel
theorem dX12_see_82 : decode cX12_see 82 = .ok (.iadd, 1) := by decide +kernel
theorem dX12_see_83 : decode cX12_see 83 = .ok (.iload_n 2, 1) := by decide +kernel
theorem dX12_see_84 : decode cX12_see 84 = .ok (.iastore, 1) := by decide +kernel
theorem dX12_see_85 : decode cX12_see 85 = .ok (.aload_n 0, 1) := by decide +kernel
theorem dX12_see_86 : decode cX12_see 86 = .ok (.getfield 9, 3) := by decide +kernel
theorem dX12_see_89 : decode cX12_see 89 = .ok (.bipush 45, 2) := by decide +kernel
theorem dX12_see_91 : decode cX12_see 91 = .ok (.dup2, 1) := by decide +kernel
theorem dX12_see_92 : decode cX12_see 92 = .ok (.iaload, 1) := by decide +kernel
theorem dX12_see_93 : decode cX12_see 93 = .ok (.iconst 1, 1) := by decide +kernel
theorem dX12_see_94 : decode cX12_see 94 = .ok (.iadd, 1) := by decide +kernel
theorem dX12_see_95 : decode cX12_see 95 = .ok (.iastore, 1) := by decide +kernel
theorem dX12_see_96 : decode cX12_see 96 = .ok (.aload_n 0, 1) := by decide +kernel
theorem dX12_see_97 : decode cX12_see 97 = .ok (.getfield 9, 3) := by decide +kernel
theorem dX12_see_100 : decode cX12_see 100 = .ok (.bipush 45, 2) := by decide +kernel
theorem dX12_see_102 : decode cX12_see 102 = .ok (.iaload, 1) := by decide +kernel
theorem dX12_see_103 : decode cX12_see 103 = .ok (.ireturn, 1) := by decide +kernel
theorem dX12_isAsSeen_0 : decode cX12_isAsSeen 0 = .ok (.iconst 1, 1) := by decide +kernel
theorem dX12_isAsSeen_1 : decode cX12_isAsSeen 1 = .ok (.istore_n 2, 1) := by decide +kernel
theorem dX12_isAsSeen_2 : decode cX12_isAsSeen 2 = .ok (.iconst 0, 1) := by decide +kernel
theorem dX12_isAsSeen_3 : decode cX12_isAsSeen 3 = .ok (.istore_n 3, 1) := by decide +kernel
theorem dX12_isAsSeen_4 : decode cX12_isAsSeen 4 = .ok (.iload_n 3, 1) := by decide +kernel
theorem dX12_isAsSeen_5 : decode cX12_isAsSeen 5 = .ok (.aload_n 0, 1) := by decide +kernel
theorem dX12_isAsSeen_6 : decode cX12_isAsSeen 6 = .ok (.getfield 9, 3) := by decide +kernel
theorem dX12_isAsSeen_9 : decode cX12_isAsSeen 9 = .ok (.bipush 45, 2) := by decide +kernel
theorem dX12_isAsSeen_11 : decode cX12_isAsSeen 11 = .ok (.iaload, 1) := by decide +kernel
theorem dX12_isAsSeen_12 : decode cX12_isAsSeen 12 = .ok (.if_icmp .ge 45, 3) := by decide +kernel
theorem dX12_isAsSeen_15 : decode cX12_isAsSeen 15 = .ok (.iload_n 2, 1) := by decide +kernel
theorem dX12_isAsSeen_16 : decode cX12_isAsSeen 16 = .ok (.ifCond .eq 41, 3) := by decide +kernel
theorem dX12_isAsSeen_19 : decode cX12_isAsSeen 19 = .ok (.aload_n 0, 1) := by decide +kernel
theorem dX12_isAsSeen_20 : decode cX12_isAsSeen 20 = .ok (.aload_n 0, 1) := by decide +kernel
theorem dX12_isAsSeen_21 : decode cX12_isAsSeen 21 = .ok (.getfield 9, 3) := by decide +kernel
theorem dX12_isAsSeen_24 : decode cX12_isAsSeen 24 = .ok (.bipush 106, 2) := by decide +kernel
theorem dX12_isAsSeen_26 : decode cX12_isAsSeen 26 = .ok (.iload_n 3, 1) := by decide +kernel
theorem dX12_isAsSeen_27 : decode cX12_isAsSeen 27 = .ok (.iadd, 1) := by decide +kernel
theorem dX12_isAsSeen_28 : decode cX12_isAsSeen 28 = .ok (.iaload, 1) := by decide +kernel
theorem dX12_isAsSeen_29 : decode cX12_isAsSeen 29 = .ok (.iload_n 1, 1) := by decide +kernel
theorem dX12_isAsSeen_30 : decode cX12_isAsSeen 30 = .ok (.invokevirtual 147, 3) := by decide +kernel
theorem dX12_isAsSeen_33 : decode cX12_isAsSeen 33 = .ok (.aload_n 0, 1) := by decide +kernel
theorem dX12_isAsSeen_34 : decode cX12_isAsSeen 34 = .ok (.getfield 9, 3) := by decide +kernel
theorem dX12_isAsSeen_37 : decode cX12_isAsSeen 37 = .ok (.bipush 112, 2) := by decide +kernel
theorem dX12_isAsSeen_39 : decode cX12_isAsSeen 39 = .ok (.iload_n 3, 1) := by decide +kernel
theorem dX12_isAsSeen_40 : decode cX12_isAsSeen 40 = .ok (.iadd, 1) := by decide +kernel
theorem dX12_isAsSeen_41 : decode cX12_isAsSeen 41 = .ok (.iaload, 1) := by decide +kernel
theorem dX12_isAsSeen_42 : decode cX12_isAsSeen 42 = .ok (.if_icmp .ne 7, 3) := by decide +kernel
theorem dX12_isAsSeen_45 : decode cX12_isAsSeen 45 = .ok (.iconst 1, 1) := by decide +kernel
theorem dX12_isAsSeen_46 : decode cX12_isAsSeen 46 = .ok (.goto 4, 3) := by decide +kernel
theorem dX12_isAsSeen_49 : decode cX12_isAsSeen 49 = .ok (.iconst 0, 1) := by decide +kernel
theorem dX12_isAsSeen_50 : decode cX12_isAsSeen 50 = .ok (.istore_n 2, 1) := by decide +kernel
theorem dX12_isAsSeen_51 : decode cX12_isAsSeen 51 = .ok (.iinc 3 1, 3) := by decide +kernel
theorem dX12_isAsSeen_54 : decode cX12_isAsSeen 54 = .ok (.goto (-50), 3) := by decide +kernel
theorem dX12_isAsSeen_57 : decode cX12_isAsSeen 57 = .ok (.iload_n 2, 1) := by decide +kernel
theorem dX12_isAsSeen_58 : decode cX12_isAsSeen 58 = .ok (.ireturn, 1) := by decide +kernel
theorem dX12_ran_0 : decode cX12_ran 0 = .ok (.iload_n 1, 1) := by decide +kernel
theorem dX12_ran_1 : decode cX12_ran 1 = .ok (.iconst 0, 1) := by decide +kernel
theorem dX12_ran_2 : decode cX12_ran 2 = .ok (.iconst 1, 1) := by decide +kernel
theorem dX12_ran_3 : decode cX12_ran 3 = .ok (.invokestatic 41, 3) := by decide +kernel
theorem dX12_ran_6 : decode cX12_ran 6 = .ok (.ifCond .ne 5, 3) := by decide +kernel
theorem dX12_ran_9 : decode cX12_ran 9 = .ok (.iconst (-1), 1) := by decide +kernel
theorem dX12_ran_10 : decode cX12_ran 10 = .ok (.ireturn, 1) := by decide +kernel
theorem dX12_ran_11 : decode cX12_ran 11 = .ok (.iconst 0, 1) := by decide +kernel
theorem dX12_ran_12 : decode cX12_ran 12 = .ok (.istore_n 2, 1) := by decide +kernel
theorem dX12_ran_13 : decode cX12_ran 13 = .ok (.bipush (-5), 2) := by decide +kernel
theorem dX12_ran_15 : decode cX12_ran 15 = .ok (.istore_n 3, 1) := by decide +kernel
theorem dX12_ran_16 : decode cX12_ran 16 = .ok (.sipush 999, 3) := by decide +kernel
theorem dX12_ran_19 : decode cX12_ran 19 = .ok (.istore 4, 2) := by decide +kernel
theorem dX12_ran_21 : decode cX12_ran 21 = .ok (.iload 4, 2) := by decide +kernel
theorem dX12_ran_23 : decode cX12_ran 23 = .ok (.ifCond .lt 42, 3) := by decide +kernel
theorem dX12_ran_26 : decode cX12_ran 26 = .ok (.aload_n 0, 1) := by decide +kernel
theorem dX12_ran_27 : decode cX12_ran 27 = .ok (.iload 4, 2) := by decide +kernel
theorem dX12_ran_29 : decode cX12_ran 29 = .ok (.invokevirtual 265, 3) := by decide +kernel
theorem dX12_ran_32 : decode cX12_ran 32 = .ok (.istore 5, 2) := by decide +kernel
theorem dX12_ran_34 : decode cX12_ran 34 = .ok (.iload_n 2, 1) := by decide +kernel
theorem dX12_ran_35 : decode cX12_ran 35 = .ok (.iload 5, 2) := by decide +kernel
theorem dX12_ran_37 : decode cX12_ran 37 = .ok (.ifCond .eq 7, 3) := by decide +kernel
theorem dX12_ran_40 : decode cX12_ran 40 = .ok (.iconst 1, 1) := by decide +kernel
theorem dX12_ran_41 : decode cX12_ran 41 = .ok (.goto 4, 3) := by decide +kernel
theorem dX12_ran_44 : decode cX12_ran 44 = .ok (.iconst 0, 1) := by decide +kernel
theorem dX12_ran_45 : decode cX12_ran 45 = .ok (.iadd, 1) := by decide +kernel
theorem dX12_ran_46 : decode cX12_ran 46 = .ok (.istore_n 2, 1) := by decide +kernel
theorem dX12_ran_47 : decode cX12_ran 47 = .ok (.iload 5, 2) := by decide +kernel
theorem dX12_ran_49 : decode cX12_ran 49 = .ok (.ifCond .eq 8, 3) := by decide +kernel
theorem dX12_ran_52 : decode cX12_ran 52 = .ok (.iload 4, 2) := by decide +kernel
theorem dX12_ran_54 : decode cX12_ran 54 = .ok (.goto 4, 3) := by decide +kernel
theorem dX12_ran_57 : decode cX12_ran 57 = .ok (.iload_n 3, 1) := by decide +kernel
theorem dX12_ran_58 : decode cX12_ran 58 = .ok (.istore_n 3, 1) := by decide +kernel
theorem dX12_ran_59 : decode cX12_ran 59 = .ok (.iinc 4 (-1), 3) := by decide +kernel
theorem dX12_ran_62 : decode cX12_ran 62 = .ok (.goto (-41), 3) := by decide +kernel
theorem dX12_ran_65 : decode cX12_ran 65 = .ok (.iload_n 1, 1) := by decide +kernel
theorem dX12_ran_66 : decode cX12_ran 66 = .ok (.ifCond .ne 7, 3) := by decide +kernel
theorem dX12_ran_69 : decode cX12_ran 69 = .ok (.iload_n 2, 1) := by decide +kernel
theorem dX12_ran_70 : decode cX12_ran 70 = .ok (.goto 4, 3) := by decide +kernel
theorem dX12_ran_73 : decode cX12_ran 73 = .ok (.iload_n 3, 1) := by decide +kernel
theorem dX12_ran_74 : decode cX12_ran 74 = .ok (.ireturn, 1) := by decide +kernel
theorem dX12_hand_0 : decode cX12_hand 0 = .ok (.iload_n 1, 1) := by decide +kernel
theorem dX12_hand_1 : decode cX12_hand 1 = .ok (.iconst 0, 1) := by decide +kernel
theorem dX12_hand_2 : decode cX12_hand 2 = .ok (.bipush 99, 2) := by decide +kernel
theorem dX12_hand_4 : decode cX12_hand 4 = .ok (.invokestatic 41, 3) := by decide +kernel
theorem dX12_hand_7 : decode cX12_hand 7 = .ok (.ifCond .ne 6, 3) := by decide +kernel
theorem dX12_hand_10 : decode cX12_hand 10 = .ok (.bipush (-2), 2) := by decide +kernel
theorem dX12_hand_12 : decode cX12_hand 12 = .ok (.ireturn, 1) := by decide +kernel
theorem dX12_hand_13 : decode cX12_hand 13 = .ok (.iconst 0, 1) := by decide +kernel
theorem dX12_hand_14 : decode cX12_hand 14 = .ok (.istore_n 2, 1) := by decide +kernel
theorem dX12_hand_15 : decode cX12_hand 15 = .ok (.iconst 0, 1) := by decide +kernel
theorem dX12_hand_16 : decode cX12_hand 16 = .ok (.istore_n 3, 1) := by decide +kernel
theorem dX12_hand_17 : decode cX12_hand 17 = .ok (.iload_n 3, 1) := by decide +kernel
theorem dX12_hand_18 : decode cX12_hand 18 = .ok (.aload_n 0, 1) := by decide +kernel
theorem dX12_hand_19 : decode cX12_hand 19 = .ok (.getfield 9, 3) := by decide +kernel
theorem dX12_hand_22 : decode cX12_hand 22 = .ok (.bipush 43, 2) := by decide +kernel
theorem dX12_hand_24 : decode cX12_hand 24 = .ok (.iaload, 1) := by decide +kernel
theorem dX12_hand_25 : decode cX12_hand 25 = .ok (.if_icmp .ge 36, 3) := by decide +kernel
theorem dX12_hand_28 : decode cX12_hand 28 = .ok (.iload_n 2, 1) := by decide +kernel
theorem dX12_hand_29 : decode cX12_hand 29 = .ok (.aload_n 0, 1) := by decide +kernel
theorem dX12_hand_30 : decode cX12_hand 30 = .ok (.iload_n 3, 1) := by decide +kernel
theorem dX12_hand_31 : decode cX12_hand 31 = .ok (.invokevirtual 137, 3) := by decide +kernel
theorem dX12_hand_34 : decode cX12_hand 34 = .ok (.ifCond .ne 18, 3) := by decide +kernel
theorem dX12_hand_37 : decode cX12_hand 37 = .ok (.iload_n 1, 1) := by decide +kernel
theorem dX12_hand_38 : decode cX12_hand 38 = .ok (.aload_n 0, 1) := by decide +kernel
theorem dX12_hand_39 : decode cX12_hand 39 = .ok (.iload_n 3, 1) := by decide +kernel
theorem dX12_hand_40 : decode cX12_hand 40 = .ok (.invokevirtual 153, 3) := by decide +kernel
theorem dX12_hand_43 : decode cX12_hand 43 = .ok (.if_icmp .ge 9, 3) := by decide +kernel
theorem dX12_hand_46 : decode cX12_hand 46 = .ok (.iconst 1, 1) := by decide +kernel
theorem dX12_hand_47 : decode cX12_hand 47 = .ok (.iload_n 3, 1) := by decide +kernel
theorem dX12_hand_48 : decode cX12_hand 48 = .ok (.ishl, 1) := by decide +kernel
theorem dX12_hand_49 : decode cX12_hand 49 = .ok (.goto 4, 3) := by decide +kernel
theorem dX12_hand_52 : decode cX12_hand 52 = .ok (.iconst 0, 1) := by decide +kernel
theorem dX12_hand_53 : decode cX12_hand 53 = .ok (.ior, 1) := by decide +kernel
theorem dX12_hand_54 : decode cX12_hand 54 = .ok (.istore_n 2, 1) := by decide +kernel
theorem dX12_hand_55 : decode cX12_hand 55 = .ok (.iinc 3 1, 3) := by decide +kernel
theorem dX12_hand_58 : decode cX12_hand 58 = .ok (.goto (-41), 3) := by decide +kernel
theorem dX12_hand_61 : decode cX12_hand 61 = .ok (.iload_n 2, 1) := by decide +kernel
theorem dX12_hand_62 : decode cX12_hand 62 = .ok (.ireturn, 1) := by decide +kernel
theorem dX12_errs_0 : decode cX12_errs 0 = .ok (.iconst 0, 1) := by decide +kernel
theorem dX12_errs_1 : decode cX12_errs 1 = .ok (.istore_n 1, 1) := by decide +kernel
theorem dX12_errs_2 : decode cX12_errs 2 = .ok (.iconst 0, 1) := by decide +kernel
theorem dX12_errs_3 : decode cX12_errs 3 = .ok (.istore_n 2, 1) := by decide +kernel
theorem dX12_errs_4 : decode cX12_errs 4 = .ok (.iconst 1, 1) := by decide +kernel
theorem dX12_errs_5 : decode cX12_errs 5 = .ok (.istore_n 3, 1) := by decide +kernel
theorem dX12_errs_6 : decode cX12_errs 6 = .ok (.iload_n 3, 1) := by decide +kernel
theorem dX12_errs_7 : decode cX12_errs 7 = .ok (.iconst 4, 1) := by decide +kernel
theorem dX12_errs_8 : decode cX12_errs 8 = .ok (.if_icmp .ge 91, 3) := by decide +kernel
theorem dX12_errs_11 : decode cX12_errs 11 = .ok (.iconst 0, 1) := by decide +kernel
theorem dX12_errs_12 : decode cX12_errs 12 = .ok (.istore 4, 2) := by decide +kernel
theorem dX12_errs_14 : decode cX12_errs 14 = .ok (.iconst 0, 1) := by decide +kernel
theorem dX12_errs_15 : decode cX12_errs 15 = .ok (.istore 5, 2) := by decide +kernel
theorem dX12_errs_17 : decode cX12_errs 17 = .ok (.iload 5, 2) := by decide +kernel
theorem dX12_errs_19 : decode cX12_errs 19 = .ok (.aload_n 0, 1) := by decide +kernel
theorem dX12_errs_20 : decode cX12_errs 20 = .ok (.getfield 9, 3) := by decide +kernel
theorem dX12_errs_23 : decode cX12_errs 23 = .ok (.bipush 43, 2) := by decide +kernel
theorem dX12_errs_25 : decode cX12_errs 25 = .ok (.iaload, 1) := by decide +kernel
theorem dX12_errs_26 : decode cX12_errs 26 = .ok (.if_icmp .ge 42, 3) := by decide +kernel
theorem dX12_errs_29 : decode cX12_errs 29 = .ok (.iload 4, 2) := by decide +kernel
theorem dX12_errs_31 : decode cX12_errs 31 = .ok (.aload_n 0, 1) := by decide +kernel
theorem dX12_errs_32 : decode cX12_errs 32 = .ok (.iload 5, 2) := by decide +kernel
theorem dX12_errs_34 : decode cX12_errs 34 = .ok (.invokevirtual 137, 3) := by decide +kernel
theorem dX12_errs_37 : decode cX12_errs 37 = .ok (.ifCond .eq 21, 3) := by decide +kernel
theorem dX12_errs_40 : decode cX12_errs 40 = .ok (.aload_n 0, 1) := by decide +kernel
theorem dX12_errs_41 : decode cX12_errs 41 = .ok (.getfield 9, 3) := by decide +kernel
theorem dX12_errs_44 : decode cX12_errs 44 = .ok (.bipush 19, 2) := by decide +kernel
theorem dX12_errs_46 : decode cX12_errs 46 = .ok (.iload 5, 2) := by decide +kernel
theorem dX12_errs_48 : decode cX12_errs 48 = .ok (.iadd, 1) := by decide +kernel
theorem dX12_errs_49 : decode cX12_errs 49 = .ok (.iaload, 1) := by decide +kernel
theorem dX12_errs_50 : decode cX12_errs 50 = .ok (.iload_n 3, 1) := by decide +kernel
theorem dX12_errs_51 : decode cX12_errs 51 = .ok (.if_icmp .ne 7, 3) := by decide +kernel
theorem dX12_errs_54 : decode cX12_errs 54 = .ok (.iconst 1, 1) := by decide +kernel
theorem dX12_errs_55 : decode cX12_errs 55 = .ok (.goto 4, 3) := by decide +kernel
theorem dX12_errs_58 : decode cX12_errs 58 = .ok (.iconst 0, 1) := by decide +kernel
theorem dX12_errs_59 : decode cX12_errs 59 = .ok (.iadd, 1) := by decide +kernel
theorem dX12_errs_60 : decode cX12_errs 60 = .ok (.istore 4, 2) := by decide +kernel
theorem dX12_errs_62 : decode cX12_errs 62 = .ok (.iinc 5 1, 3) := by decide +kernel
theorem dX12_errs_65 : decode cX12_errs 65 = .ok (.goto (-48), 3) := by decide +kernel
theorem dX12_errs_68 : decode cX12_errs 68 = .ok (.iload 4, 2) := by decide +kernel
theorem dX12_errs_70 : decode cX12_errs 70 = .ok (.iload_n 1, 1) := by decide +kernel
theorem dX12_errs_71 : decode cX12_errs 71 = .ok (.if_icmp .le 7, 3) := by decide +kernel
theorem dX12_errs_74 : decode cX12_errs 74 = .ok (.iload_n 3, 1) := by decide +kernel
theorem dX12_errs_75 : decode cX12_errs 75 = .ok (.goto 4, 3) := by decide +kernel
theorem dX12_errs_78 : decode cX12_errs 78 = .ok (.iload_n 2, 1) := by decide +kernel
theorem dX12_errs_79 : decode cX12_errs 79 = .ok (.istore_n 2, 1) := by decide +kernel
theorem dX12_errs_80 : decode cX12_errs 80 = .ok (.iload 4, 2) := by decide +kernel
theorem dX12_errs_82 : decode cX12_errs 82 = .ok (.iload_n 1, 1) := by decide +kernel
theorem dX12_errs_83 : decode cX12_errs 83 = .ok (.if_icmp .le 8, 3) := by decide +kernel
theorem dX12_errs_86 : decode cX12_errs 86 = .ok (.iload 4, 2) := by decide +kernel
theorem dX12_errs_88 : decode cX12_errs 88 = .ok (.goto 4, 3) := by decide +kernel
theorem dX12_errs_91 : decode cX12_errs 91 = .ok (.iload_n 1, 1) := by decide +kernel
theorem dX12_errs_92 : decode cX12_errs 92 = .ok (.istore_n 1, 1) := by decide +kernel
theorem dX12_errs_93 : decode cX12_errs 93 = .ok (.iinc 3 1, 3) := by decide +kernel
theorem dX12_errs_96 : decode cX12_errs 96 = .ok (.goto (-90), 3) := by decide +kernel
theorem dX12_errs_99 : decode cX12_errs 99 = .ok (.iload_n 2, 1) := by decide +kernel
theorem dX12_errs_100 : decode cX12_errs 100 = .ok (.ireturn, 1) := by decide +kernel
theorem dX12_odds_0 : decode cX12_odds 0 = .ok (.aload_n 0, 1) := by decide +kernel
theorem dX12_odds_1 : decode cX12_odds 1 = .ok (.getfield 9, 3) := by decide +kernel
theorem dX12_odds_4 : decode cX12_odds 4 = .ok (.bipush 43, 2) := by decide +kernel
theorem dX12_odds_6 : decode cX12_odds 6 = .ok (.iaload, 1) := by decide +kernel
theorem dX12_odds_7 : decode cX12_odds 7 = .ok (.aload_n 0, 1) := by decide +kernel
theorem dX12_odds_8 : decode cX12_odds 8 = .ok (.invokevirtual 210, 3) := by decide +kernel
theorem dX12_odds_11 : decode cX12_odds 11 = .ok (.isub, 1) := by decide +kernel
theorem dX12_odds_12 : decode cX12_odds 12 = .ok (.istore 4, 2) := by decide +kernel
theorem dX12_odds_14 : decode cX12_odds 14 = .ok (.iload_n 1, 1) := by decide +kernel
theorem dX12_odds_15 : decode cX12_odds 15 = .ok (.iconst 0, 1) := by decide +kernel
theorem dX12_odds_16 : decode cX12_odds 16 = .ok (.bipush 30, 2) := by decide +kernel
theorem dX12_odds_18 : decode cX12_odds 18 = .ok (.invokestatic 41, 3) := by decide +kernel
theorem dX12_odds_21 : decode cX12_odds 21 = .ok (.ifCond .eq 28, 3) := by decide +kernel
theorem dX12_odds_24 : decode cX12_odds 24 = .ok (.iload_n 2, 1) := by decide +kernel
theorem dX12_odds_25 : decode cX12_odds 25 = .ok (.iconst 0, 1) := by decide +kernel
theorem dX12_odds_26 : decode cX12_odds 26 = .ok (.sipush 999, 3) := by decide +kernel
theorem dX12_odds_29 : decode cX12_odds 29 = .ok (.invokestatic 41, 3) := by decide +kernel
theorem dX12_odds_32 : decode cX12_odds 32 = .ok (.ifCond .eq 17, 3) := by decide +kernel
theorem dX12_odds_35 : decode cX12_odds 35 = .ok (.iload_n 3, 1) := by decide +kernel
theorem dX12_odds_36 : decode cX12_odds 36 = .ok (.iconst 0, 1) := by decide +kernel
theorem dX12_odds_37 : decode cX12_odds 37 = .ok (.iconst 1, 1) := by decide +kernel
theorem dX12_odds_38 : decode cX12_odds 38 = .ok (.invokestatic 41, 3) := by decide +kernel
theorem dX12_odds_41 : decode cX12_odds 41 = .ok (.ifCond .eq 8, 3) := by decide +kernel
theorem dX12_odds_44 : decode cX12_odds 44 = .ok (.iload 4, 2) := by decide +kernel
theorem dX12_odds_46 : decode cX12_odds 46 = .ok (.ifCond .ne 7, 3) := by decide +kernel
theorem dX12_odds_49 : decode cX12_odds 49 = .ok (.ldc2_w 229, 3) := by decide +kernel
theorem dX12_odds_52 : decode cX12_odds 52 = .ok (.lreturn, 1) := by decide +kernel
theorem dX12_odds_53 : decode cX12_odds 53 = .ok (.lconst 0, 1) := by decide +kernel
theorem dX12_odds_54 : decode cX12_odds 54 = .ok (.lstore 5, 2) := by decide +kernel
theorem dX12_odds_56 : decode cX12_odds 56 = .ok (.iconst 0, 1) := by decide +kernel
theorem dX12_odds_57 : decode cX12_odds 57 = .ok (.istore 7, 2) := by decide +kernel
theorem dX12_odds_59 : decode cX12_odds 59 = .ok (.iload 7, 2) := by decide +kernel
theorem dX12_odds_61 : decode cX12_odds 61 = .ok (.aload_n 0, 1) := by decide +kernel
theorem dX12_odds_62 : decode cX12_odds 62 = .ok (.getfield 9, 3) := by decide +kernel
theorem dX12_odds_65 : decode cX12_odds 65 = .ok (.bipush 43, 2) := by decide +kernel
theorem dX12_odds_67 : decode cX12_odds 67 = .ok (.iaload, 1) := by decide +kernel
theorem dX12_odds_68 : decode cX12_odds 68 = .ok (.if_icmp .ge 39, 3) := by decide +kernel
theorem dX12_odds_71 : decode cX12_odds 71 = .ok (.lload 5, 2) := by decide +kernel
theorem dX12_odds_73 : decode cX12_odds 73 = .ok (.aload_n 0, 1) := by decide +kernel
theorem dX12_odds_74 : decode cX12_odds 74 = .ok (.iload 7, 2) := by decide +kernel
theorem dX12_odds_76 : decode cX12_odds 76 = .ok (.invokevirtual 137, 3) := by decide +kernel
theorem dX12_odds_79 : decode cX12_odds 79 = .ok (.ifCond .eq 18, 3) := by decide +kernel
theorem dX12_odds_82 : decode cX12_odds 82 = .ok (.aload_n 0, 1) := by decide +kernel
theorem dX12_odds_83 : decode cX12_odds 83 = .ok (.iload 7, 2) := by decide +kernel
theorem dX12_odds_85 : decode cX12_odds 85 = .ok (.iload_n 2, 1) := by decide +kernel
theorem dX12_odds_86 : decode cX12_odds 86 = .ok (.invokevirtual 147, 3) := by decide +kernel
theorem dX12_odds_89 : decode cX12_odds 89 = .ok (.iload_n 1, 1) := by decide +kernel
theorem dX12_odds_90 : decode cX12_odds 90 = .ok (.if_icmp .lt 7, 3) := by decide +kernel
theorem dX12_odds_93 : decode cX12_odds 93 = .ok (.lconst 1, 1) := by decide +kernel
theorem dX12_odds_94 : decode cX12_odds 94 = .ok (.goto 4, 3) := by decide +kernel
theorem dX12_odds_97 : decode cX12_odds 97 = .ok (.lconst 0, 1) := by decide +kernel
theorem dX12_odds_98 : decode cX12_odds 98 = .ok (.ladd, 1) := by decide +kernel
theorem dX12_odds_99 : decode cX12_odds 99 = .ok (.lstore 5, 2) := by decide +kernel
theorem dX12_odds_101 : decode cX12_odds 101 = .ok (.iinc 7 1, 3) := by decide +kernel
theorem dX12_odds_104 : decode cX12_odds 104 = .ok (.goto (-45), 3) := by decide +kernel
theorem dX12_odds_107 : decode cX12_odds 107 = .ok (.lload 5, 2) := by decide +kernel
theorem dX12_odds_109 : decode cX12_odds 109 = .ok (.iload 4, 2) := by decide +kernel
theorem dX12_odds_111 : decode cX12_odds 111 = .ok (.i2l, 1) := by decide +kernel
theorem dX12_odds_112 : decode cX12_odds 112 = .ok (.iload_n 3, 1) := by decide +kernel
theorem dX12_odds_113 : decode cX12_odds 113 = .ok (.invokestatic 234, 3) := by decide +kernel
theorem dX12_odds_116 : decode cX12_odds 116 = .ok (.lreturn, 1) := by decide +kernel
theorem dX12_mean_0 : decode cX12_mean 0 = .ok (.aload_n 0, 1) := by decide +kernel
theorem dX12_mean_1 : decode cX12_mean 1 = .ok (.getfield 9, 3) := by decide +kernel
theorem dX12_mean_4 : decode cX12_mean 4 = .ok (.bipush 43, 2) := by decide +kernel
theorem dX12_mean_6 : decode cX12_mean 6 = .ok (.iaload, 1) := by decide +kernel
theorem dX12_mean_7 : decode cX12_mean 7 = .ok (.aload_n 0, 1) := by decide +kernel
theorem dX12_mean_8 : decode cX12_mean 8 = .ok (.invokevirtual 210, 3) := by decide +kernel
theorem dX12_mean_11 : decode cX12_mean 11 = .ok (.isub, 1) := by decide +kernel
theorem dX12_mean_12 : decode cX12_mean 12 = .ok (.istore_n 3, 1) := by decide +kernel
theorem dX12_mean_13 : decode cX12_mean 13 = .ok (.iload_n 1, 1) := by decide +kernel
theorem dX12_mean_14 : decode cX12_mean 14 = .ok (.iconst 0, 1) := by decide +kernel
theorem dX12_mean_15 : decode cX12_mean 15 = .ok (.sipush 999, 3) := by decide +kernel
theorem dX12_mean_18 : decode cX12_mean 18 = .ok (.invokestatic 41, 3) := by decide +kernel
theorem dX12_mean_21 : decode cX12_mean 21 = .ok (.ifCond .eq 16, 3) := by decide +kernel
theorem dX12_mean_24 : decode cX12_mean 24 = .ok (.iload_n 2, 1) := by decide +kernel
theorem dX12_mean_25 : decode cX12_mean 25 = .ok (.iconst 0, 1) := by decide +kernel
theorem dX12_mean_26 : decode cX12_mean 26 = .ok (.iconst 1, 1) := by decide +kernel
theorem dX12_mean_27 : decode cX12_mean 27 = .ok (.invokestatic 41, 3) := by decide +kernel
theorem dX12_mean_30 : decode cX12_mean 30 = .ok (.ifCond .eq 7, 3) := by decide +kernel
theorem dX12_mean_33 : decode cX12_mean 33 = .ok (.iload_n 3, 1) := by decide +kernel
theorem dX12_mean_34 : decode cX12_mean 34 = .ok (.ifCond .ne 7, 3) := by decide +kernel
theorem dX12_mean_37 : decode cX12_mean 37 = .ok (.ldc2_w 229, 3) := by decide +kernel
theorem dX12_mean_40 : decode cX12_mean 40 = .ok (.lreturn, 1) := by decide +kernel
theorem dX12_mean_41 : decode cX12_mean 41 = .ok (.lconst 0, 1) := by decide +kernel
theorem dX12_mean_42 : decode cX12_mean 42 = .ok (.lstore 4, 2) := by decide +kernel
theorem dX12_mean_44 : decode cX12_mean 44 = .ok (.iconst 0, 1) := by decide +kernel
theorem dX12_mean_45 : decode cX12_mean 45 = .ok (.istore 6, 2) := by decide +kernel
theorem dX12_mean_47 : decode cX12_mean 47 = .ok (.iload 6, 2) := by decide +kernel
theorem dX12_mean_49 : decode cX12_mean 49 = .ok (.aload_n 0, 1) := by decide +kernel
theorem dX12_mean_50 : decode cX12_mean 50 = .ok (.getfield 9, 3) := by decide +kernel
theorem dX12_mean_53 : decode cX12_mean 53 = .ok (.bipush 43, 2) := by decide +kernel
theorem dX12_mean_55 : decode cX12_mean 55 = .ok (.iaload, 1) := by decide +kernel
theorem dX12_mean_56 : decode cX12_mean 56 = .ok (.if_icmp .ge 22, 3) := by decide +kernel
theorem dX12_mean_59 : decode cX12_mean 59 = .ok (.lload 4, 2) := by decide +kernel
theorem dX12_mean_61 : decode cX12_mean 61 = .ok (.aload_n 0, 1) := by decide +kernel
theorem dX12_mean_62 : decode cX12_mean 62 = .ok (.iload 6, 2) := by decide +kernel
theorem dX12_mean_64 : decode cX12_mean 64 = .ok (.iload_n 1, 1) := by decide +kernel
theorem dX12_mean_65 : decode cX12_mean 65 = .ok (.invokevirtual 147, 3) := by decide +kernel
theorem dX12_mean_68 : decode cX12_mean 68 = .ok (.i2l, 1) := by decide +kernel
theorem dX12_mean_69 : decode cX12_mean 69 = .ok (.ladd, 1) := by decide +kernel
theorem dX12_mean_70 : decode cX12_mean 70 = .ok (.lstore 4, 2) := by decide +kernel
theorem dX12_mean_72 : decode cX12_mean 72 = .ok (.iinc 6 1, 3) := by decide +kernel
theorem dX12_mean_75 : decode cX12_mean 75 = .ok (.goto (-28), 3) := by decide +kernel
theorem dX12_mean_78 : decode cX12_mean 78 = .ok (.lload 4, 2) := by decide +kernel
theorem dX12_mean_80 : decode cX12_mean 80 = .ok (.iload_n 3, 1) := by decide +kernel
theorem dX12_mean_81 : decode cX12_mean 81 = .ok (.i2l, 1) := by decide +kernel
theorem dX12_mean_82 : decode cX12_mean 82 = .ok (.iload_n 2, 1) := by decide +kernel
theorem dX12_mean_83 : decode cX12_mean 83 = .ok (.invokestatic 234, 3) := by decide +kernel
theorem dX12_mean_86 : decode cX12_mean 86 = .ok (.lreturn, 1) := by decide +kernel
theorem dX12_plan_0 : decode cX12_plan 0 = .ok (.iload_n 1, 1) := by decide +kernel
theorem dX12_plan_1 : decode cX12_plan 1 = .ok (.iconst (-1), 1) := by decide +kernel
theorem dX12_plan_2 : decode cX12_plan 2 = .ok (.if_icmp .ne 13, 3) := by decide +kernel
theorem dX12_plan_5 : decode cX12_plan 5 = .ok (.aload_n 0, 1) := by decide +kernel
theorem dX12_plan_6 : decode cX12_plan 6 = .ok (.getfield 9, 3) := by decide +kernel
theorem dX12_plan_9 : decode cX12_plan 9 = .ok (.bipush 46, 2) := by decide +kernel
theorem dX12_plan_11 : decode cX12_plan 11 = .ok (.iconst 0, 1) := by decide +kernel
theorem dX12_plan_12 : decode cX12_plan 12 = .ok (.iastore, 1) := by decide +kernel
theorem dX12_plan_13 : decode cX12_plan 13 = .ok (.iconst 0, 1) := by decide +kernel
theorem dX12_plan_14 : decode cX12_plan 14 = .ok (.ireturn, 1) := by decide +kernel
theorem dX12_plan_15 : decode cX12_plan 15 = .ok (.iload_n 1, 1) := by decide +kernel
theorem dX12_plan_16 : decode cX12_plan 16 = .ok (.iconst 0, 1) := by decide +kernel
theorem dX12_plan_17 : decode cX12_plan 17 = .ok (.iconst 4, 1) := by decide +kernel
theorem dX12_plan_18 : decode cX12_plan 18 = .ok (.invokestatic 41, 3) := by decide +kernel
theorem dX12_plan_21 : decode cX12_plan 21 = .ok (.ifCond .eq 16, 3) := by decide +kernel
theorem dX12_plan_24 : decode cX12_plan 24 = .ok (.iload_n 1, 1) := by decide +kernel
theorem dX12_plan_25 : decode cX12_plan 25 = .ok (.iconst 3, 1) := by decide +kernel
theorem dX12_plan_26 : decode cX12_plan 26 = .ok (.if_icmp .ge 13, 3) := by decide +kernel
theorem dX12_plan_29 : decode cX12_plan 29 = .ok (.aload_n 0, 1) := by decide +kernel
theorem dX12_plan_30 : decode cX12_plan 30 = .ok (.iload_n 2, 1) := by decide +kernel
theorem dX12_plan_31 : decode cX12_plan 31 = .ok (.invokevirtual 150, 3) := by decide +kernel
theorem dX12_plan_34 : decode cX12_plan 34 = .ok (.ifCond .ne 5, 3) := by decide +kernel
theorem dX12_plan_37 : decode cX12_plan 37 = .ok (.iconst (-1), 1) := by decide +kernel
theorem dX12_plan_38 : decode cX12_plan 38 = .ok (.ireturn, 1) := by decide +kernel
theorem dX12_plan_39 : decode cX12_plan 39 = .ok (.aload_n 0, 1) := by decide +kernel
theorem dX12_plan_40 : decode cX12_plan 40 = .ok (.getfield 9, 3) := by decide +kernel
theorem dX12_plan_43 : decode cX12_plan 43 = .ok (.bipush 46, 2) := by decide +kernel
theorem dX12_plan_45 : decode cX12_plan 45 = .ok (.iaload, 1) := by decide +kernel
theorem dX12_plan_46 : decode cX12_plan 46 = .ok (.bipush 8, 2) := by decide +kernel
theorem dX12_plan_48 : decode cX12_plan 48 = .ok (.if_icmp .ne 6, 3) := by decide +kernel
theorem dX12_plan_51 : decode cX12_plan 51 = .ok (.bipush (-4), 2) := by decide +kernel
theorem dX12_plan_53 : decode cX12_plan 53 = .ok (.ireturn, 1) := by decide +kernel
theorem dX12_plan_54 : decode cX12_plan 54 = .ok (.aload_n 0, 1) := by decide +kernel
theorem dX12_plan_55 : decode cX12_plan 55 = .ok (.getfield 9, 3) := by decide +kernel
theorem dX12_plan_58 : decode cX12_plan 58 = .ok (.bipush 118, 2) := by decide +kernel
theorem dX12_plan_60 : decode cX12_plan 60 = .ok (.aload_n 0, 1) := by decide +kernel
theorem dX12_plan_61 : decode cX12_plan 61 = .ok (.getfield 9, 3) := by decide +kernel
theorem dX12_plan_64 : decode cX12_plan 64 = .ok (.bipush 46, 2) := by decide +kernel
theorem dX12_plan_66 : decode cX12_plan 66 = .ok (.iaload, 1) := by decide +kernel
theorem dX12_plan_67 : decode cX12_plan 67 = .ok (.iadd, 1) := by decide +kernel
theorem dX12_plan_68 : decode cX12_plan 68 = .ok (.iload_n 1, 1) := by decide +kernel
theorem dX12_plan_69 : decode cX12_plan 69 = .ok (.iastore, 1) := by decide +kernel
theorem dX12_plan_70 : decode cX12_plan 70 = .ok (.aload_n 0, 1) := by decide +kernel
theorem dX12_plan_71 : decode cX12_plan 71 = .ok (.getfield 9, 3) := by decide +kernel
theorem dX12_plan_74 : decode cX12_plan 74 = .ok (.bipush 126, 2) := by decide +kernel
theorem dX12_plan_76 : decode cX12_plan 76 = .ok (.aload_n 0, 1) := by decide +kernel
theorem dX12_plan_77 : decode cX12_plan 77 = .ok (.getfield 9, 3) := by decide +kernel
theorem dX12_plan_80 : decode cX12_plan 80 = .ok (.bipush 46, 2) := by decide +kernel
theorem dX12_plan_82 : decode cX12_plan 82 = .ok (.iaload, 1) := by decide +kernel
theorem dX12_plan_83 : decode cX12_plan 83 = .ok (.iadd, 1) := by decide +kernel
theorem dX12_plan_84 : decode cX12_plan 84 = .ok (.iload_n 2, 1) := by decide +kernel
theorem dX12_plan_85 : decode cX12_plan 85 = .ok (.iastore, 1) := by decide +kernel
theorem dX12_plan_86 : decode cX12_plan 86 = .ok (.aload_n 0, 1) := by decide +kernel
theorem dX12_plan_87 : decode cX12_plan 87 = .ok (.getfield 9, 3) := by decide +kernel
theorem dX12_plan_90 : decode cX12_plan 90 = .ok (.bipush 46, 2) := by decide +kernel
theorem dX12_plan_92 : decode cX12_plan 92 = .ok (.dup2, 1) := by decide +kernel
theorem dX12_plan_93 : decode cX12_plan 93 = .ok (.iaload, 1) := by decide +kernel
theorem dX12_plan_94 : decode cX12_plan 94 = .ok (.iconst 1, 1) := by decide +kernel
theorem dX12_plan_95 : decode cX12_plan 95 = .ok (.iadd, 1) := by decide +kernel
theorem dX12_plan_96 : decode cX12_plan 96 = .ok (.iastore, 1) := by decide +kernel
theorem dX12_plan_97 : decode cX12_plan 97 = .ok (.aload_n 0, 1) := by decide +kernel
theorem dX12_plan_98 : decode cX12_plan 98 = .ok (.getfield 9, 3) := by decide +kernel
theorem dX12_plan_101 : decode cX12_plan 101 = .ok (.bipush 46, 2) := by decide +kernel
theorem dX12_plan_103 : decode cX12_plan 103 = .ok (.iaload, 1) := by decide +kernel
theorem dX12_plan_104 : decode cX12_plan 104 = .ok (.ireturn, 1) := by decide +kernel
theorem dX12_does_0 : decode cX12_does 0 = .ok (.iload_n 1, 1) := by decide +kernel
theorem dX12_does_1 : decode cX12_does 1 = .ok (.tableswitch 90 0 3 #[31, 49, 65, 81], 31) := by decide +kernel
theorem dX12_does_32 : decode cX12_does 32 = .ok (.aload_n 0, 1) := by decide +kernel
theorem dX12_does_33 : decode cX12_does 33 = .ok (.iload_n 2, 1) := by decide +kernel
theorem dX12_does_34 : decode cX12_does 34 = .ok (.invokevirtual 137, 3) := by decide +kernel
theorem dX12_does_37 : decode cX12_does 37 = .ok (.ifCond .ne 60, 3) := by decide +kernel
theorem dX12_does_40 : decode cX12_does 40 = .ok (.aload_n 0, 1) := by decide +kernel
theorem dX12_does_41 : decode cX12_does 41 = .ok (.iload_n 2, 1) := by decide +kernel
theorem dX12_does_42 : decode cX12_does 42 = .ok (.bipush 99, 2) := by decide +kernel
theorem dX12_does_44 : decode cX12_does 44 = .ok (.invokevirtual 174, 3) := by decide +kernel
theorem dX12_does_47 : decode cX12_does 47 = .ok (.goto 50, 3) := by decide +kernel
theorem dX12_does_50 : decode cX12_does 50 = .ok (.aload_n 0, 1) := by decide +kernel
theorem dX12_does_51 : decode cX12_does 51 = .ok (.iload_n 2, 1) := by decide +kernel
theorem dX12_does_52 : decode cX12_does 52 = .ok (.invokevirtual 137, 3) := by decide +kernel
theorem dX12_does_55 : decode cX12_does 55 = .ok (.ifCond .eq 42, 3) := by decide +kernel
theorem dX12_does_58 : decode cX12_does 58 = .ok (.aload_n 0, 1) := by decide +kernel
theorem dX12_does_59 : decode cX12_does 59 = .ok (.iload_n 2, 1) := by decide +kernel
theorem dX12_does_60 : decode cX12_does 60 = .ok (.invokevirtual 181, 3) := by decide +kernel
theorem dX12_does_63 : decode cX12_does 63 = .ok (.goto 34, 3) := by decide +kernel
theorem dX12_does_66 : decode cX12_does 66 = .ok (.aload_n 0, 1) := by decide +kernel
theorem dX12_does_67 : decode cX12_does 67 = .ok (.iload_n 2, 1) := by decide +kernel
theorem dX12_does_68 : decode cX12_does 68 = .ok (.invokevirtual 137, 3) := by decide +kernel
theorem dX12_does_71 : decode cX12_does 71 = .ok (.ifCond .eq 26, 3) := by decide +kernel
theorem dX12_does_74 : decode cX12_does 74 = .ok (.aload_n 0, 1) := by decide +kernel
theorem dX12_does_75 : decode cX12_does 75 = .ok (.iload_n 2, 1) := by decide +kernel
theorem dX12_does_76 : decode cX12_does 76 = .ok (.invokevirtual 184, 3) := by decide +kernel
theorem dX12_does_79 : decode cX12_does 79 = .ok (.goto 18, 3) := by decide +kernel
theorem dX12_does_82 : decode cX12_does 82 = .ok (.aload_n 0, 1) := by decide +kernel
theorem dX12_does_83 : decode cX12_does 83 = .ok (.bipush 10, 2) := by decide +kernel
theorem dX12_does_85 : decode cX12_does 85 = .ok (.invokevirtual 178, 3) := by decide +kernel
theorem dX12_does_88 : decode cX12_does 88 = .ok (.goto 9, 3) := by decide +kernel
theorem dX12_does_91 : decode cX12_does 91 = .ok (.aload_n 0, 1) := by decide +kernel
theorem dX12_does_92 : decode cX12_does 92 = .ok (.bipush 50, 2) := by decide +kernel
theorem dX12_does_94 : decode cX12_does 94 = .ok (.invokevirtual 191, 3) := by decide +kernel
theorem dX12_does_97 : decode cX12_does 97 = .ok (.return_, 1) := by decide +kernel
theorem dX12_done_0 : decode cX12_done 0 = .ok (.iload_n 1, 1) := by decide +kernel
theorem dX12_done_1 : decode cX12_done 1 = .ok (.iconst 0, 1) := by decide +kernel
theorem dX12_done_2 : decode cX12_done 2 = .ok (.iconst 2, 1) := by decide +kernel
theorem dX12_done_3 : decode cX12_done 3 = .ok (.invokestatic 41, 3) := by decide +kernel
theorem dX12_done_6 : decode cX12_done 6 = .ok (.ifCond .ne 5, 3) := by decide +kernel
theorem dX12_done_9 : decode cX12_done 9 = .ok (.iconst (-1), 1) := by decide +kernel
theorem dX12_done_10 : decode cX12_done 10 = .ok (.ireturn, 1) := by decide +kernel
theorem dX12_done_11 : decode cX12_done 11 = .ok (.aload_n 0, 1) := by decide +kernel
theorem dX12_done_12 : decode cX12_done 12 = .ok (.invokevirtual 253, 3) := by decide +kernel
theorem dX12_done_15 : decode cX12_done 15 = .ok (.iconst 0, 1) := by decide +kernel
theorem dX12_done_16 : decode cX12_done 16 = .ok (.istore_n 2, 1) := by decide +kernel
theorem dX12_done_17 : decode cX12_done 17 = .ok (.iload_n 2, 1) := by decide +kernel
theorem dX12_done_18 : decode cX12_done 18 = .ok (.aload_n 0, 1) := by decide +kernel
theorem dX12_done_19 : decode cX12_done 19 = .ok (.getfield 9, 3) := by decide +kernel
theorem dX12_done_22 : decode cX12_done 22 = .ok (.bipush 46, 2) := by decide +kernel
theorem dX12_done_24 : decode cX12_done 24 = .ok (.iaload, 1) := by decide +kernel
theorem dX12_done_25 : decode cX12_done 25 = .ok (.if_icmp .ge 31, 3) := by decide +kernel
theorem dX12_done_28 : decode cX12_done 28 = .ok (.aload_n 0, 1) := by decide +kernel
theorem dX12_done_29 : decode cX12_done 29 = .ok (.aload_n 0, 1) := by decide +kernel
theorem dX12_done_30 : decode cX12_done 30 = .ok (.getfield 9, 3) := by decide +kernel
theorem dX12_done_33 : decode cX12_done 33 = .ok (.bipush 118, 2) := by decide +kernel
theorem dX12_done_35 : decode cX12_done 35 = .ok (.iload_n 2, 1) := by decide +kernel
theorem dX12_done_36 : decode cX12_done 36 = .ok (.iadd, 1) := by decide +kernel
theorem dX12_done_37 : decode cX12_done 37 = .ok (.iaload, 1) := by decide +kernel
theorem dX12_done_38 : decode cX12_done 38 = .ok (.aload_n 0, 1) := by decide +kernel
theorem dX12_done_39 : decode cX12_done 39 = .ok (.getfield 9, 3) := by decide +kernel
theorem dX12_done_42 : decode cX12_done 42 = .ok (.bipush 126, 2) := by decide +kernel
theorem dX12_done_44 : decode cX12_done 44 = .ok (.iload_n 2, 1) := by decide +kernel
theorem dX12_done_45 : decode cX12_done 45 = .ok (.iadd, 1) := by decide +kernel
theorem dX12_done_46 : decode cX12_done 46 = .ok (.iaload, 1) := by decide +kernel
theorem dX12_done_47 : decode cX12_done 47 = .ok (.invokevirtual 268, 3) := by decide +kernel
theorem dX12_done_50 : decode cX12_done 50 = .ok (.iinc 2 1, 3) := by decide +kernel
theorem dX12_done_53 : decode cX12_done 53 = .ok (.goto (-36), 3) := by decide +kernel
theorem dX12_done_56 : decode cX12_done 56 = .ok (.iload_n 1, 1) := by decide +kernel
theorem dX12_done_57 : decode cX12_done 57 = .ok (.ifCond .ne 19, 3) := by decide +kernel
theorem dX12_done_60 : decode cX12_done 60 = .ok (.aload_n 0, 1) := by decide +kernel
theorem dX12_done_61 : decode cX12_done 61 = .ok (.getfield 9, 3) := by decide +kernel
theorem dX12_done_64 : decode cX12_done 64 = .ok (.iconst 0, 1) := by decide +kernel
theorem dX12_done_65 : decode cX12_done 65 = .ok (.iaload, 1) := by decide +kernel
theorem dX12_done_66 : decode cX12_done 66 = .ok (.aload_n 0, 1) := by decide +kernel
theorem dX12_done_67 : decode cX12_done 67 = .ok (.getfield 18, 3) := by decide +kernel
theorem dX12_done_70 : decode cX12_done 70 = .ok (.iconst 0, 1) := by decide +kernel
theorem dX12_done_71 : decode cX12_done 71 = .ok (.iaload, 1) := by decide +kernel
theorem dX12_done_72 : decode cX12_done 72 = .ok (.isub, 1) := by decide +kernel
theorem dX12_done_73 : decode cX12_done 73 = .ok (.goto 21, 3) := by decide +kernel
theorem dX12_done_76 : decode cX12_done 76 = .ok (.iload_n 1, 1) := by decide +kernel
theorem dX12_done_77 : decode cX12_done 77 = .ok (.iconst 1, 1) := by decide +kernel
theorem dX12_done_78 : decode cX12_done 78 = .ok (.if_icmp .ne 12, 3) := by decide +kernel
theorem dX12_done_81 : decode cX12_done 81 = .ok (.aload_n 0, 1) := by decide +kernel
theorem dX12_done_82 : decode cX12_done 82 = .ok (.getfield 9, 3) := by decide +kernel
theorem dX12_done_85 : decode cX12_done 85 = .ok (.iconst 2, 1) := by decide +kernel
theorem dX12_done_86 : decode cX12_done 86 = .ok (.iaload, 1) := by decide +kernel
theorem dX12_done_87 : decode cX12_done 87 = .ok (.goto 7, 3) := by decide +kernel
theorem dX12_done_90 : decode cX12_done 90 = .ok (.aload_n 0, 1) := by decide +kernel
theorem dX12_done_91 : decode cX12_done 91 = .ok (.invokevirtual 194, 3) := by decide +kernel
theorem dX12_done_94 : decode cX12_done 94 = .ok (.istore_n 2, 1) := by decide +kernel
theorem dX12_done_95 : decode cX12_done 95 = .ok (.aload_n 0, 1) := by decide +kernel
theorem dX12_done_96 : decode cX12_done 96 = .ok (.invokevirtual 256, 3) := by decide +kernel
theorem dX12_done_99 : decode cX12_done 99 = .ok (.iload_n 2, 1) := by decide +kernel
theorem dX12_done_100 : decode cX12_done 100 = .ok (.ireturn, 1) := by decide +kernel
theorem dX12_book_0 : decode cX12_book 0 = .ok (.iload_n 1, 1) := by decide +kernel
theorem dX12_book_1 : decode cX12_book 1 = .ok (.iconst (-1), 1) := by decide +kernel
theorem dX12_book_2 : decode cX12_book 2 = .ok (.if_icmp .ne 13, 3) := by decide +kernel
theorem dX12_book_5 : decode cX12_book 5 = .ok (.aload_n 0, 1) := by decide +kernel
theorem dX12_book_6 : decode cX12_book 6 = .ok (.getfield 9, 3) := by decide +kernel
theorem dX12_book_9 : decode cX12_book 9 = .ok (.bipush 47, 2) := by decide +kernel
theorem dX12_book_11 : decode cX12_book 11 = .ok (.iconst 0, 1) := by decide +kernel
theorem dX12_book_12 : decode cX12_book 12 = .ok (.iastore, 1) := by decide +kernel
theorem dX12_book_13 : decode cX12_book 13 = .ok (.iconst 0, 1) := by decide +kernel
theorem dX12_book_14 : decode cX12_book 14 = .ok (.ireturn, 1) := by decide +kernel
theorem dX12_book_15 : decode cX12_book 15 = .ok (.aload_n 0, 1) := by decide +kernel
theorem dX12_book_16 : decode cX12_book 16 = .ok (.iload_n 1, 1) := by decide +kernel
theorem dX12_book_17 : decode cX12_book 17 = .ok (.invokevirtual 150, 3) := by decide +kernel
theorem dX12_book_20 : decode cX12_book 20 = .ok (.ifCond .ne 5, 3) := by decide +kernel
theorem dX12_book_23 : decode cX12_book 23 = .ok (.iconst (-1), 1) := by decide +kernel
theorem dX12_book_24 : decode cX12_book 24 = .ok (.ireturn, 1) := by decide +kernel
theorem dX12_book_25 : decode cX12_book 25 = .ok (.iload_n 2, 1) := by decide +kernel
theorem dX12_book_26 : decode cX12_book 26 = .ok (.iconst 0, 1) := by decide +kernel
theorem dX12_book_27 : decode cX12_book 27 = .ok (.sipush 999, 3) := by decide +kernel
theorem dX12_book_30 : decode cX12_book 30 = .ok (.invokestatic 41, 3) := by decide +kernel
theorem dX12_book_33 : decode cX12_book 33 = .ok (.ifCond .eq 13, 3) := by decide +kernel
theorem dX12_book_36 : decode cX12_book 36 = .ok (.iload_n 3, 1) := by decide +kernel
theorem dX12_book_37 : decode cX12_book 37 = .ok (.iconst 0, 1) := by decide +kernel
theorem dX12_book_38 : decode cX12_book 38 = .ok (.bipush 30, 2) := by decide +kernel
theorem dX12_book_40 : decode cX12_book 40 = .ok (.invokestatic 41, 3) := by decide +kernel
theorem dX12_book_43 : decode cX12_book 43 = .ok (.ifCond .ne 6, 3) := by decide +kernel
theorem dX12_book_46 : decode cX12_book 46 = .ok (.bipush (-2), 2) := by decide +kernel
theorem dX12_book_48 : decode cX12_book 48 = .ok (.ireturn, 1) := by decide +kernel
theorem dX12_book_49 : decode cX12_book 49 = .ok (.aload_n 0, 1) := by decide +kernel
theorem dX12_book_50 : decode cX12_book 50 = .ok (.getfield 9, 3) := by decide +kernel
theorem dX12_book_53 : decode cX12_book 53 = .ok (.bipush 47, 2) := by decide +kernel
theorem dX12_book_55 : decode cX12_book 55 = .ok (.iaload, 1) := by decide +kernel
theorem dX12_book_56 : decode cX12_book 56 = .ok (.bipush 8, 2) := by decide +kernel
theorem dX12_book_58 : decode cX12_book 58 = .ok (.if_icmp .ne 6, 3) := by decide +kernel
theorem dX12_book_61 : decode cX12_book 61 = .ok (.bipush (-4), 2) := by decide +kernel
theorem dX12_book_63 : decode cX12_book 63 = .ok (.ireturn, 1) := by decide +kernel
theorem dX12_book_64 : decode cX12_book 64 = .ok (.aload_n 0, 1) := by decide +kernel
theorem dX12_book_65 : decode cX12_book 65 = .ok (.getfield 9, 3) := by decide +kernel
theorem dX12_book_68 : decode cX12_book 68 = .ok (.sipush 134, 3) := by decide +kernel
theorem dX12_book_71 : decode cX12_book 71 = .ok (.aload_n 0, 1) := by decide +kernel
theorem dX12_book_72 : decode cX12_book 72 = .ok (.getfield 9, 3) := by decide +kernel
theorem dX12_book_75 : decode cX12_book 75 = .ok (.bipush 47, 2) := by decide +kernel
theorem dX12_book_77 : decode cX12_book 77 = .ok (.iaload, 1) := by decide +kernel
theorem dX12_book_78 : decode cX12_book 78 = .ok (.iadd, 1) := by decide +kernel
theorem dX12_book_79 : decode cX12_book 79 = .ok (.iload_n 1, 1) := by decide +kernel
theorem dX12_book_80 : decode cX12_book 80 = .ok (.iastore, 1) := by decide +kernel
theorem dX12_book_81 : decode cX12_book 81 = .ok (.aload_n 0, 1) := by decide +kernel
theorem dX12_book_82 : decode cX12_book 82 = .ok (.getfield 9, 3) := by decide +kernel
theorem dX12_book_85 : decode cX12_book 85 = .ok (.sipush 142, 3) := by decide +kernel
theorem dX12_book_88 : decode cX12_book 88 = .ok (.aload_n 0, 1) := by decide +kernel
theorem dX12_book_89 : decode cX12_book 89 = .ok (.getfield 9, 3) := by decide +kernel
theorem dX12_book_92 : decode cX12_book 92 = .ok (.bipush 47, 2) := by decide +kernel
theorem dX12_book_94 : decode cX12_book 94 = .ok (.iaload, 1) := by decide +kernel
theorem dX12_book_95 : decode cX12_book 95 = .ok (.iadd, 1) := by decide +kernel
theorem dX12_book_96 : decode cX12_book 96 = .ok (.iload_n 2, 1) := by decide +kernel
theorem dX12_book_97 : decode cX12_book 97 = .ok (.iastore, 1) := by decide +kernel
theorem dX12_book_98 : decode cX12_book 98 = .ok (.aload_n 0, 1) := by decide +kernel
theorem dX12_book_99 : decode cX12_book 99 = .ok (.getfield 9, 3) := by decide +kernel
theorem dX12_book_102 : decode cX12_book 102 = .ok (.sipush 150, 3) := by decide +kernel
theorem dX12_book_105 : decode cX12_book 105 = .ok (.aload_n 0, 1) := by decide +kernel
theorem dX12_book_106 : decode cX12_book 106 = .ok (.getfield 9, 3) := by decide +kernel
theorem dX12_book_109 : decode cX12_book 109 = .ok (.bipush 47, 2) := by decide +kernel
theorem dX12_book_111 : decode cX12_book 111 = .ok (.iaload, 1) := by decide +kernel
theorem dX12_book_112 : decode cX12_book 112 = .ok (.iadd, 1) := by decide +kernel
theorem dX12_book_113 : decode cX12_book 113 = .ok (.iload_n 3, 1) := by decide +kernel
theorem dX12_book_114 : decode cX12_book 114 = .ok (.iastore, 1) := by decide +kernel
theorem dX12_book_115 : decode cX12_book 115 = .ok (.aload_n 0, 1) := by decide +kernel
theorem dX12_book_116 : decode cX12_book 116 = .ok (.getfield 9, 3) := by decide +kernel
theorem dX12_book_119 : decode cX12_book 119 = .ok (.bipush 47, 2) := by decide +kernel
theorem dX12_book_121 : decode cX12_book 121 = .ok (.dup2, 1) := by decide +kernel
theorem dX12_book_122 : decode cX12_book 122 = .ok (.iaload, 1) := by decide +kernel
theorem dX12_book_123 : decode cX12_book 123 = .ok (.iconst 1, 1) := by decide +kernel
theorem dX12_book_124 : decode cX12_book 124 = .ok (.iadd, 1) := by decide +kernel
theorem dX12_book_125 : decode cX12_book 125 = .ok (.iastore, 1) := by decide +kernel
theorem dX12_book_126 : decode cX12_book 126 = .ok (.aload_n 0, 1) := by decide +kernel
theorem dX12_book_127 : decode cX12_book 127 = .ok (.getfield 9, 3) := by decide +kernel
theorem dX12_book_130 : decode cX12_book 130 = .ok (.bipush 47, 2) := by decide +kernel
theorem dX12_book_132 : decode cX12_book 132 = .ok (.iaload, 1) := by decide +kernel
theorem dX12_book_133 : decode cX12_book 133 = .ok (.ireturn, 1) := by decide +kernel
theorem dX12_looked_0 : decode cX12_looked 0 = .ok (.iconst 0, 1) := by decide +kernel
theorem dX12_looked_1 : decode cX12_looked 1 = .ok (.istore_n 1, 1) := by decide +kernel
theorem dX12_looked_2 : decode cX12_looked 2 = .ok (.iload_n 1, 1) := by decide +kernel
theorem dX12_looked_3 : decode cX12_looked 3 = .ok (.aload_n 0, 1) := by decide +kernel
theorem dX12_looked_4 : decode cX12_looked 4 = .ok (.getfield 9, 3) := by decide +kernel
theorem dX12_looked_7 : decode cX12_looked 7 = .ok (.bipush 47, 2) := by decide +kernel
theorem dX12_looked_9 : decode cX12_looked 9 = .ok (.iaload, 1) := by decide +kernel
theorem dX12_looked_10 : decode cX12_looked 10 = .ok (.if_icmp .ge 48, 3) := by decide +kernel
theorem dX12_looked_13 : decode cX12_looked 13 = .ok (.aload_n 0, 1) := by decide +kernel
theorem dX12_looked_14 : decode cX12_looked 14 = .ok (.aload_n 0, 1) := by decide +kernel
theorem dX12_looked_15 : decode cX12_looked 15 = .ok (.getfield 9, 3) := by decide +kernel
theorem dX12_looked_18 : decode cX12_looked 18 = .ok (.sipush 134, 3) := by decide +kernel
theorem dX12_looked_21 : decode cX12_looked 21 = .ok (.iload_n 1, 1) := by decide +kernel
theorem dX12_looked_22 : decode cX12_looked 22 = .ok (.iadd, 1) := by decide +kernel
theorem dX12_looked_23 : decode cX12_looked 23 = .ok (.iaload, 1) := by decide +kernel
theorem dX12_looked_24 : decode cX12_looked 24 = .ok (.aload_n 0, 1) := by decide +kernel
theorem dX12_looked_25 : decode cX12_looked 25 = .ok (.getfield 9, 3) := by decide +kernel
theorem dX12_looked_28 : decode cX12_looked 28 = .ok (.sipush 142, 3) := by decide +kernel
theorem dX12_looked_31 : decode cX12_looked 31 = .ok (.iload_n 1, 1) := by decide +kernel
theorem dX12_looked_32 : decode cX12_looked 32 = .ok (.iadd, 1) := by decide +kernel
theorem dX12_looked_33 : decode cX12_looked 33 = .ok (.iaload, 1) := by decide +kernel
theorem dX12_looked_34 : decode cX12_looked 34 = .ok (.invokevirtual 147, 3) := by decide +kernel
theorem dX12_looked_37 : decode cX12_looked 37 = .ok (.aload_n 0, 1) := by decide +kernel
theorem dX12_looked_38 : decode cX12_looked 38 = .ok (.getfield 9, 3) := by decide +kernel
theorem dX12_looked_41 : decode cX12_looked 41 = .ok (.sipush 150, 3) := by decide +kernel
theorem dX12_looked_44 : decode cX12_looked 44 = .ok (.iload_n 1, 1) := by decide +kernel
theorem dX12_looked_45 : decode cX12_looked 45 = .ok (.iadd, 1) := by decide +kernel
theorem dX12_looked_46 : decode cX12_looked 46 = .ok (.iaload, 1) := by decide +kernel
theorem dX12_looked_47 : decode cX12_looked 47 = .ok (.if_icmp .eq 5, 3) := by decide +kernel
theorem dX12_looked_50 : decode cX12_looked 50 = .ok (.iload_n 1, 1) := by decide +kernel
theorem dX12_looked_51 : decode cX12_looked 51 = .ok (.ireturn, 1) := by decide +kernel
theorem dX12_looked_52 : decode cX12_looked 52 = .ok (.iinc 1 1, 3) := by decide +kernel
theorem dX12_looked_55 : decode cX12_looked 55 = .ok (.goto (-53), 3) := by decide +kernel
theorem dX12_looked_58 : decode cX12_looked 58 = .ok (.bipush (-5), 2) := by decide +kernel
theorem dX12_looked_60 : decode cX12_looked 60 = .ok (.ireturn, 1) := by decide +kernel
theorem dX12_ranBody_0 : decode cX12_ranBody 0 = .ok (.aload_n 0, 1) := by decide +kernel
theorem dX12_ranBody_1 : decode cX12_ranBody 1 = .ok (.getfield 271, 3) := by decide +kernel
theorem dX12_ranBody_4 : decode cX12_ranBody 4 = .ok (.bipush 20, 2) := by decide +kernel
theorem dX12_ranBody_6 : decode cX12_ranBody 6 = .ok (.if_icmp .ge 13, 3) := by decide +kernel
theorem dX12_ranBody_9 : decode cX12_ranBody 9 = .ok (.aload_n 0, 1) := by decide +kernel
theorem dX12_ranBody_10 : decode cX12_ranBody 10 = .ok (.getfield 34, 3) := by decide +kernel
theorem dX12_ranBody_13 : decode cX12_ranBody 13 = .ok (.aload_n 0, 1) := by decide +kernel
theorem dX12_ranBody_14 : decode cX12_ranBody 14 = .ok (.getfield 271, 3) := by decide +kernel
theorem dX12_ranBody_17 : decode cX12_ranBody 17 = .ok (.iload_n 1, 1) := by decide +kernel
theorem dX12_ranBody_18 : decode cX12_ranBody 18 = .ok (.iastore, 1) := by decide +kernel
theorem dX12_ranBody_19 : decode cX12_ranBody 19 = .ok (.aload_n 0, 1) := by decide +kernel
theorem dX12_ranBody_20 : decode cX12_ranBody 20 = .ok (.dup, 1) := by decide +kernel
theorem dX12_ranBody_21 : decode cX12_ranBody 21 = .ok (.getfield 271, 3) := by decide +kernel
theorem dX12_ranBody_24 : decode cX12_ranBody 24 = .ok (.iconst 1, 1) := by decide +kernel
theorem dX12_ranBody_25 : decode cX12_ranBody 25 = .ok (.iadd, 1) := by decide +kernel
theorem dX12_ranBody_26 : decode cX12_ranBody 26 = .ok (.putfield 271, 3) := by decide +kernel
theorem dX12_ranBody_29 : decode cX12_ranBody 29 = .ok (.return_, 1) := by decide +kernel
theorem dX12_isUnder_0 : decode cX12_isUnder 0 = .ok (.iload_n 1, 1) := by decide +kernel
theorem dX12_isUnder_1 : decode cX12_isUnder 1 = .ok (.ifCond .eq 24, 3) := by decide +kernel
theorem dX12_isUnder_4 : decode cX12_isUnder 4 = .ok (.iload_n 1, 1) := by decide +kernel
theorem dX12_isUnder_5 : decode cX12_isUnder 5 = .ok (.iload_n 0, 1) := by decide +kernel
theorem dX12_isUnder_6 : decode cX12_isUnder 6 = .ok (.if_icmp .eq 19, 3) := by decide +kernel
theorem dX12_isUnder_9 : decode cX12_isUnder 9 = .ok (.iload_n 1, 1) := by decide +kernel
theorem dX12_isUnder_10 : decode cX12_isUnder 10 = .ok (.ifCond .le 19, 3) := by decide +kernel
theorem dX12_isUnder_13 : decode cX12_isUnder 13 = .ok (.iload_n 1, 1) := by decide +kernel
theorem dX12_isUnder_14 : decode cX12_isUnder 14 = .ok (.iconst 4, 1) := by decide +kernel
theorem dX12_isUnder_15 : decode cX12_isUnder 15 = .ok (.if_icmp .ge 14, 3) := by decide +kernel
theorem dX12_isUnder_18 : decode cX12_isUnder 18 = .ok (.iload_n 0, 1) := by decide +kernel
theorem dX12_isUnder_19 : decode cX12_isUnder 19 = .ok (.iload_n 1, 1) := by decide +kernel
theorem dX12_isUnder_20 : decode cX12_isUnder 20 = .ok (.iconst 3, 1) := by decide +kernel
theorem dX12_isUnder_21 : decode cX12_isUnder 21 = .ok (.iadd, 1) := by decide +kernel
theorem dX12_isUnder_22 : decode cX12_isUnder 22 = .ok (.if_icmp .ne 7, 3) := by decide +kernel
theorem dX12_isUnder_25 : decode cX12_isUnder 25 = .ok (.iconst 1, 1) := by decide +kernel
theorem dX12_isUnder_26 : decode cX12_isUnder 26 = .ok (.goto 4, 3) := by decide +kernel
theorem dX12_isUnder_29 : decode cX12_isUnder 29 = .ok (.iconst 0, 1) := by decide +kernel
theorem dX12_isUnder_30 : decode cX12_isUnder 30 = .ok (.ireturn, 1) := by decide +kernel
theorem dX12_plainCuts_0 : decode cX12_plainCuts 0 = .ok (.aload_n 0, 1) := by decide +kernel
theorem dX12_plainCuts_1 : decode cX12_plainCuts 1 = .ok (.iconst 1, 1) := by decide +kernel
theorem dX12_plainCuts_2 : decode cX12_plainCuts 2 = .ok (.invokevirtual 274, 3) := by decide +kernel
theorem dX12_plainCuts_5 : decode cX12_plainCuts 5 = .ok (.iload_n 1, 1) := by decide +kernel
theorem dX12_plainCuts_6 : decode cX12_plainCuts 6 = .ok (.aload_n 0, 1) := by decide +kernel
theorem dX12_plainCuts_7 : decode cX12_plainCuts 7 = .ok (.getfield 277, 3) := by decide +kernel
theorem dX12_plainCuts_10 : decode cX12_plainCuts 10 = .ok (.iadd, 1) := by decide +kernel
theorem dX12_plainCuts_11 : decode cX12_plainCuts 11 = .ok (.ireturn, 1) := by decide +kernel
theorem dX12_cutsActs_0 : decode cX12_cutsActs 0 = .ok (.aload_n 0, 1) := by decide +kernel
theorem dX12_cutsActs_1 : decode cX12_cutsActs 1 = .ok (.getfield 280, 3) := by decide +kernel
theorem dX12_cutsActs_4 : decode cX12_cutsActs 4 = .ok (.iconst 1, 1) := by decide +kernel
theorem dX12_cutsActs_5 : decode cX12_cutsActs 5 = .ok (.invokestatic 283, 3) := by decide +kernel
theorem dX12_cutsActs_8 : decode cX12_cutsActs 8 = .ok (.ifCond .eq 17, 3) := by decide +kernel
theorem dX12_cutsActs_11 : decode cX12_cutsActs 11 = .ok (.aload_n 0, 1) := by decide +kernel
theorem dX12_cutsActs_12 : decode cX12_cutsActs 12 = .ok (.bipush 11, 2) := by decide +kernel
theorem dX12_cutsActs_14 : decode cX12_cutsActs 14 = .ok (.invokevirtual 274, 3) := by decide +kernel
theorem dX12_cutsActs_17 : decode cX12_cutsActs 17 = .ok (.aload_n 0, 1) := by decide +kernel
theorem dX12_cutsActs_18 : decode cX12_cutsActs 18 = .ok (.iload_n 1, 1) := by decide +kernel
theorem dX12_cutsActs_19 : decode cX12_cutsActs 19 = .ok (.iconst 3, 1) := by decide +kernel
theorem dX12_cutsActs_20 : decode cX12_cutsActs 20 = .ok (.imul, 1) := by decide +kernel
theorem dX12_cutsActs_21 : decode cX12_cutsActs 21 = .ok (.invokevirtual 286, 3) := by decide +kernel
theorem dX12_cutsActs_24 : decode cX12_cutsActs 24 = .ok (.ireturn, 1) := by decide +kernel
theorem dX12_cutsActs_25 : decode cX12_cutsActs 25 = .ok (.aload_n 0, 1) := by decide +kernel
theorem dX12_cutsActs_26 : decode cX12_cutsActs 26 = .ok (.getfield 280, 3) := by decide +kernel
theorem dX12_cutsActs_29 : decode cX12_cutsActs 29 = .ok (.iconst 5, 1) := by decide +kernel
theorem dX12_cutsActs_30 : decode cX12_cutsActs 30 = .ok (.if_icmp .ne 20, 3) := by decide +kernel
theorem dX12_cutsActs_33 : decode cX12_cutsActs 33 = .ok (.aload_n 0, 1) := by decide +kernel
theorem dX12_cutsActs_34 : decode cX12_cutsActs 34 = .ok (.bipush 51, 2) := by decide +kernel
theorem dX12_cutsActs_36 : decode cX12_cutsActs 36 = .ok (.invokevirtual 274, 3) := by decide +kernel
theorem dX12_cutsActs_39 : decode cX12_cutsActs 39 = .ok (.aload_n 0, 1) := by decide +kernel
theorem dX12_cutsActs_40 : decode cX12_cutsActs 40 = .ok (.iload_n 1, 1) := by decide +kernel
theorem dX12_cutsActs_41 : decode cX12_cutsActs 41 = .ok (.invokevirtual 286, 3) := by decide +kernel
theorem dX12_cutsActs_44 : decode cX12_cutsActs 44 = .ok (.aload_n 0, 1) := by decide +kernel
theorem dX12_cutsActs_45 : decode cX12_cutsActs 45 = .ok (.getfield 277, 3) := by decide +kernel
theorem dX12_cutsActs_48 : decode cX12_cutsActs 48 = .ok (.ixor, 1) := by decide +kernel
theorem dX12_cutsActs_49 : decode cX12_cutsActs 49 = .ok (.ireturn, 1) := by decide +kernel
theorem dX12_cutsActs_50 : decode cX12_cutsActs 50 = .ok (.aload_n 0, 1) := by decide +kernel
theorem dX12_cutsActs_51 : decode cX12_cutsActs 51 = .ok (.iload_n 1, 1) := by decide +kernel
theorem dX12_cutsActs_52 : decode cX12_cutsActs 52 = .ok (.invokevirtual 286, 3) := by decide +kernel
theorem dX12_cutsActs_55 : decode cX12_cutsActs 55 = .ok (.ireturn, 1) := by decide +kernel
theorem dX12_plainPrints_0 : decode cX12_plainPrints 0 = .ok (.aload_n 0, 1) := by decide +kernel
theorem dX12_plainPrints_1 : decode cX12_plainPrints 1 = .ok (.iconst 2, 1) := by decide +kernel
theorem dX12_plainPrints_2 : decode cX12_plainPrints 2 = .ok (.invokevirtual 274, 3) := by decide +kernel
theorem dX12_plainPrints_5 : decode cX12_plainPrints 5 = .ok (.aload_n 0, 1) := by decide +kernel
theorem dX12_plainPrints_6 : decode cX12_plainPrints 6 = .ok (.iload_n 1, 1) := by decide +kernel
theorem dX12_plainPrints_7 : decode cX12_plainPrints 7 = .ok (.invokevirtual 289, 3) := by decide +kernel
theorem dX12_plainPrints_10 : decode cX12_plainPrints 10 = .ok (.aload_n 0, 1) := by decide +kernel
theorem dX12_plainPrints_11 : decode cX12_plainPrints 11 = .ok (.getfield 292, 3) := by decide +kernel
theorem dX12_plainPrints_14 : decode cX12_plainPrints 14 = .ok (.isub, 1) := by decide +kernel
theorem dX12_plainPrints_15 : decode cX12_plainPrints 15 = .ok (.ireturn, 1) := by decide +kernel
theorem dX12_printsActs_0 : decode cX12_printsActs 0 = .ok (.aload_n 0, 1) := by decide +kernel
theorem dX12_printsActs_1 : decode cX12_printsActs 1 = .ok (.getfield 280, 3) := by decide +kernel
theorem dX12_printsActs_4 : decode cX12_printsActs 4 = .ok (.iconst 2, 1) := by decide +kernel
theorem dX12_printsActs_5 : decode cX12_printsActs 5 = .ok (.invokestatic 283, 3) := by decide +kernel
theorem dX12_printsActs_8 : decode cX12_printsActs 8 = .ok (.ifCond .eq 16, 3) := by decide +kernel
theorem dX12_printsActs_11 : decode cX12_printsActs 11 = .ok (.aload_n 0, 1) := by decide +kernel
theorem dX12_printsActs_12 : decode cX12_printsActs 12 = .ok (.bipush 21, 2) := by decide +kernel
theorem dX12_printsActs_14 : decode cX12_printsActs 14 = .ok (.invokevirtual 274, 3) := by decide +kernel
theorem dX12_printsActs_17 : decode cX12_printsActs 17 = .ok (.aload_n 0, 1) := by decide +kernel
theorem dX12_printsActs_18 : decode cX12_printsActs 18 = .ok (.iload_n 1, 1) := by decide +kernel
theorem dX12_printsActs_19 : decode cX12_printsActs 19 = .ok (.invokevirtual 295, 3) := by decide +kernel
theorem dX12_printsActs_22 : decode cX12_printsActs 22 = .ok (.ineg, 1) := by decide +kernel
theorem dX12_printsActs_23 : decode cX12_printsActs 23 = .ok (.ireturn, 1) := by decide +kernel
theorem dX12_printsActs_24 : decode cX12_printsActs 24 = .ok (.aload_n 0, 1) := by decide +kernel
theorem dX12_printsActs_25 : decode cX12_printsActs 25 = .ok (.getfield 280, 3) := by decide +kernel
theorem dX12_printsActs_28 : decode cX12_printsActs 28 = .ok (.bipush 6, 2) := by decide +kernel
theorem dX12_printsActs_30 : decode cX12_printsActs 30 = .ok (.if_icmp .ne 20, 3) := by decide +kernel
theorem dX12_printsActs_33 : decode cX12_printsActs 33 = .ok (.aload_n 0, 1) := by decide +kernel
theorem dX12_printsActs_34 : decode cX12_printsActs 34 = .ok (.bipush 61, 2) := by decide +kernel
theorem dX12_printsActs_36 : decode cX12_printsActs 36 = .ok (.invokevirtual 274, 3) := by decide +kernel
theorem dX12_printsActs_39 : decode cX12_printsActs 39 = .ok (.aload_n 0, 1) := by decide +kernel
theorem dX12_printsActs_40 : decode cX12_printsActs 40 = .ok (.iload_n 1, 1) := by decide +kernel
theorem dX12_printsActs_41 : decode cX12_printsActs 41 = .ok (.invokevirtual 295, 3) := by decide +kernel
theorem dX12_printsActs_44 : decode cX12_printsActs 44 = .ok (.aload_n 0, 1) := by decide +kernel
theorem dX12_printsActs_45 : decode cX12_printsActs 45 = .ok (.getfield 292, 3) := by decide +kernel
theorem dX12_printsActs_48 : decode cX12_printsActs 48 = .ok (.iadd, 1) := by decide +kernel
theorem dX12_printsActs_49 : decode cX12_printsActs 49 = .ok (.ireturn, 1) := by decide +kernel
theorem dX12_printsActs_50 : decode cX12_printsActs 50 = .ok (.aload_n 0, 1) := by decide +kernel
theorem dX12_printsActs_51 : decode cX12_printsActs 51 = .ok (.iload_n 1, 1) := by decide +kernel
theorem dX12_printsActs_52 : decode cX12_printsActs 52 = .ok (.invokevirtual 295, 3) := by decide +kernel
theorem dX12_printsActs_55 : decode cX12_printsActs 55 = .ok (.ireturn, 1) := by decide +kernel
theorem dX12_plainTells_0 : decode cX12_plainTells 0 = .ok (.aload_n 0, 1) := by decide +kernel
theorem dX12_plainTells_1 : decode cX12_plainTells 1 = .ok (.iconst 3, 1) := by decide +kernel
theorem dX12_plainTells_2 : decode cX12_plainTells 2 = .ok (.invokevirtual 274, 3) := by decide +kernel
theorem dX12_plainTells_5 : decode cX12_plainTells 5 = .ok (.aload_n 0, 1) := by decide +kernel
theorem dX12_plainTells_6 : decode cX12_plainTells 6 = .ok (.iload_n 1, 1) := by decide +kernel
theorem dX12_plainTells_7 : decode cX12_plainTells 7 = .ok (.invokevirtual 298, 3) := by decide +kernel
theorem dX12_plainTells_10 : decode cX12_plainTells 10 = .ok (.iconst 2, 1) := by decide +kernel
theorem dX12_plainTells_11 : decode cX12_plainTells 11 = .ok (.imul, 1) := by decide +kernel
theorem dX12_plainTells_12 : decode cX12_plainTells 12 = .ok (.ireturn, 1) := by decide +kernel
theorem dX12_tellsActs_0 : decode cX12_tellsActs 0 = .ok (.aload_n 0, 1) := by decide +kernel
theorem dX12_tellsActs_1 : decode cX12_tellsActs 1 = .ok (.getfield 280, 3) := by decide +kernel
theorem dX12_tellsActs_4 : decode cX12_tellsActs 4 = .ok (.iconst 3, 1) := by decide +kernel
theorem dX12_tellsActs_5 : decode cX12_tellsActs 5 = .ok (.invokestatic 283, 3) := by decide +kernel
theorem dX12_tellsActs_8 : decode cX12_tellsActs 8 = .ok (.ifCond .eq 18, 3) := by decide +kernel
theorem dX12_tellsActs_11 : decode cX12_tellsActs 11 = .ok (.aload_n 0, 1) := by decide +kernel
theorem dX12_tellsActs_12 : decode cX12_tellsActs 12 = .ok (.bipush 31, 2) := by decide +kernel
theorem dX12_tellsActs_14 : decode cX12_tellsActs 14 = .ok (.invokevirtual 274, 3) := by decide +kernel
theorem dX12_tellsActs_17 : decode cX12_tellsActs 17 = .ok (.aload_n 0, 1) := by decide +kernel
theorem dX12_tellsActs_18 : decode cX12_tellsActs 18 = .ok (.iload_n 1, 1) := by decide +kernel
theorem dX12_tellsActs_19 : decode cX12_tellsActs 19 = .ok (.invokevirtual 301, 3) := by decide +kernel
theorem dX12_tellsActs_22 : decode cX12_tellsActs 22 = .ok (.bipush 7, 2) := by decide +kernel
theorem dX12_tellsActs_24 : decode cX12_tellsActs 24 = .ok (.ixor, 1) := by decide +kernel
theorem dX12_tellsActs_25 : decode cX12_tellsActs 25 = .ok (.ireturn, 1) := by decide +kernel
theorem dX12_tellsActs_26 : decode cX12_tellsActs 26 = .ok (.aload_n 0, 1) := by decide +kernel
theorem dX12_tellsActs_27 : decode cX12_tellsActs 27 = .ok (.getfield 280, 3) := by decide +kernel
theorem dX12_tellsActs_30 : decode cX12_tellsActs 30 = .ok (.iconst 4, 1) := by decide +kernel
theorem dX12_tellsActs_31 : decode cX12_tellsActs 31 = .ok (.if_icmp .ne 25, 3) := by decide +kernel
theorem dX12_tellsActs_34 : decode cX12_tellsActs 34 = .ok (.aload_n 0, 1) := by decide +kernel
theorem dX12_tellsActs_35 : decode cX12_tellsActs 35 = .ok (.bipush 41, 2) := by decide +kernel
theorem dX12_tellsActs_37 : decode cX12_tellsActs 37 = .ok (.invokevirtual 274, 3) := by decide +kernel
theorem dX12_tellsActs_40 : decode cX12_tellsActs 40 = .ok (.aload_n 0, 1) := by decide +kernel
theorem dX12_tellsActs_41 : decode cX12_tellsActs 41 = .ok (.iload_n 1, 1) := by decide +kernel
theorem dX12_tellsActs_42 : decode cX12_tellsActs 42 = .ok (.iconst 1, 1) := by decide +kernel
theorem dX12_tellsActs_43 : decode cX12_tellsActs 43 = .ok (.isub, 1) := by decide +kernel
theorem dX12_tellsActs_44 : decode cX12_tellsActs 44 = .ok (.invokevirtual 301, 3) := by decide +kernel
theorem dX12_tellsActs_47 : decode cX12_tellsActs 47 = .ok (.istore_n 2, 1) := by decide +kernel
theorem dX12_tellsActs_48 : decode cX12_tellsActs 48 = .ok (.iload_n 2, 1) := by decide +kernel
theorem dX12_tellsActs_49 : decode cX12_tellsActs 49 = .ok (.aload_n 0, 1) := by decide +kernel
theorem dX12_tellsActs_50 : decode cX12_tellsActs 50 = .ok (.iconst 2, 1) := by decide +kernel
theorem dX12_tellsActs_51 : decode cX12_tellsActs 51 = .ok (.invokevirtual 289, 3) := by decide +kernel
theorem dX12_tellsActs_54 : decode cX12_tellsActs 54 = .ok (.iadd, 1) := by decide +kernel
theorem dX12_tellsActs_55 : decode cX12_tellsActs 55 = .ok (.ireturn, 1) := by decide +kernel
theorem dX12_tellsActs_56 : decode cX12_tellsActs 56 = .ok (.aload_n 0, 1) := by decide +kernel
theorem dX12_tellsActs_57 : decode cX12_tellsActs 57 = .ok (.iload_n 1, 1) := by decide +kernel
theorem dX12_tellsActs_58 : decode cX12_tellsActs 58 = .ok (.invokevirtual 301, 3) := by decide +kernel
theorem dX12_tellsActs_61 : decode cX12_tellsActs 61 = .ok (.ireturn, 1) := by decide +kernel
theorem dX12_act_0 : decode cX12_act 0 = .ok (.aload_n 0, 1) := by decide +kernel
theorem dX12_act_1 : decode cX12_act 1 = .ok (.iconst 0, 1) := by decide +kernel
theorem dX12_act_2 : decode cX12_act 2 = .ok (.putfield 271, 3) := by decide +kernel
theorem dX12_act_5 : decode cX12_act 5 = .ok (.aload_n 0, 1) := by decide +kernel
theorem dX12_act_6 : decode cX12_act 6 = .ok (.iload_n 1, 1) := by decide +kernel
theorem dX12_act_7 : decode cX12_act 7 = .ok (.invokevirtual 150, 3) := by decide +kernel
theorem dX12_act_10 : decode cX12_act 10 = .ok (.ifCond .eq 12, 3) := by decide +kernel
theorem dX12_act_13 : decode cX12_act 13 = .ok (.iload_n 2, 1) := by decide +kernel
theorem dX12_act_14 : decode cX12_act 14 = .ok (.iconst 0, 1) := by decide +kernel
theorem dX12_act_15 : decode cX12_act 15 = .ok (.iconst 2, 1) := by decide +kernel
theorem dX12_act_16 : decode cX12_act 16 = .ok (.invokestatic 41, 3) := by decide +kernel
theorem dX12_act_19 : decode cX12_act 19 = .ok (.ifCond .ne 5, 3) := by decide +kernel
theorem dX12_act_22 : decode cX12_act 22 = .ok (.iconst 0, 1) := by decide +kernel
theorem dX12_act_23 : decode cX12_act 23 = .ok (.ireturn, 1) := by decide +kernel
theorem dX12_act_24 : decode cX12_act 24 = .ok (.aload_n 0, 1) := by decide +kernel
theorem dX12_act_25 : decode cX12_act 25 = .ok (.aload_n 0, 1) := by decide +kernel
theorem dX12_act_26 : decode cX12_act 26 = .ok (.getfield 9, 3) := by decide +kernel
theorem dX12_act_29 : decode cX12_act 29 = .ok (.bipush 50, 2) := by decide +kernel
theorem dX12_act_31 : decode cX12_act 31 = .ok (.iload_n 1, 1) := by decide +kernel
theorem dX12_act_32 : decode cX12_act 32 = .ok (.iadd, 1) := by decide +kernel
theorem dX12_act_33 : decode cX12_act 33 = .ok (.iaload, 1) := by decide +kernel
theorem dX12_act_34 : decode cX12_act 34 = .ok (.putfield 280, 3) := by decide +kernel
theorem dX12_act_37 : decode cX12_act 37 = .ok (.aload_n 0, 1) := by decide +kernel
theorem dX12_act_38 : decode cX12_act 38 = .ok (.iload_n 1, 1) := by decide +kernel
theorem dX12_act_39 : decode cX12_act 39 = .ok (.putfield 277, 3) := by decide +kernel
theorem dX12_act_42 : decode cX12_act 42 = .ok (.aload_n 0, 1) := by decide +kernel
theorem dX12_act_43 : decode cX12_act 43 = .ok (.aload_n 0, 1) := by decide +kernel
theorem dX12_act_44 : decode cX12_act 44 = .ok (.getfield 9, 3) := by decide +kernel
theorem dX12_act_47 : decode cX12_act 47 = .ok (.bipush 58, 2) := by decide +kernel
theorem dX12_act_49 : decode cX12_act 49 = .ok (.iload_n 1, 1) := by decide +kernel
theorem dX12_act_50 : decode cX12_act 50 = .ok (.iadd, 1) := by decide +kernel
theorem dX12_act_51 : decode cX12_act 51 = .ok (.iaload, 1) := by decide +kernel
theorem dX12_act_52 : decode cX12_act 52 = .ok (.putfield 292, 3) := by decide +kernel
theorem dX12_act_55 : decode cX12_act 55 = .ok (.iload_n 2, 1) := by decide +kernel
theorem dX12_act_56 : decode cX12_act 56 = .ok (.ifCond .ne 11, 3) := by decide +kernel
theorem dX12_act_59 : decode cX12_act 59 = .ok (.aload_n 0, 1) := by decide +kernel
theorem dX12_act_60 : decode cX12_act 60 = .ok (.iload_n 3, 1) := by decide +kernel
theorem dX12_act_61 : decode cX12_act 61 = .ok (.invokevirtual 289, 3) := by decide +kernel
theorem dX12_act_64 : decode cX12_act 64 = .ok (.goto 21, 3) := by decide +kernel
theorem dX12_act_67 : decode cX12_act 67 = .ok (.iload_n 2, 1) := by decide +kernel
theorem dX12_act_68 : decode cX12_act 68 = .ok (.iconst 1, 1) := by decide +kernel
theorem dX12_act_69 : decode cX12_act 69 = .ok (.if_icmp .ne 11, 3) := by decide +kernel
theorem dX12_act_72 : decode cX12_act 72 = .ok (.aload_n 0, 1) := by decide +kernel
theorem dX12_act_73 : decode cX12_act 73 = .ok (.iload_n 3, 1) := by decide +kernel
theorem dX12_act_74 : decode cX12_act 74 = .ok (.invokevirtual 298, 3) := by decide +kernel
theorem dX12_act_77 : decode cX12_act 77 = .ok (.goto 8, 3) := by decide +kernel
theorem dX12_act_80 : decode cX12_act 80 = .ok (.aload_n 0, 1) := by decide +kernel
theorem dX12_act_81 : decode cX12_act 81 = .ok (.iload_n 3, 1) := by decide +kernel
theorem dX12_act_82 : decode cX12_act 82 = .ok (.invokevirtual 304, 3) := by decide +kernel
theorem dX12_act_85 : decode cX12_act 85 = .ok (.ireturn, 1) := by decide +kernel
theorem dX12_trace_0 : decode cX12_trace 0 = .ok (.iload_n 1, 1) := by decide +kernel
theorem dX12_trace_1 : decode cX12_trace 1 = .ok (.iconst 0, 1) := by decide +kernel
theorem dX12_trace_2 : decode cX12_trace 2 = .ok (.aload_n 0, 1) := by decide +kernel
theorem dX12_trace_3 : decode cX12_trace 3 = .ok (.getfield 271, 3) := by decide +kernel
theorem dX12_trace_6 : decode cX12_trace 6 = .ok (.bipush 20, 2) := by decide +kernel
theorem dX12_trace_8 : decode cX12_trace 8 = .ok (.if_icmp .ge 10, 3) := by decide +kernel
theorem dX12_trace_11 : decode cX12_trace 11 = .ok (.aload_n 0, 1) := by decide +kernel
theorem dX12_trace_12 : decode cX12_trace 12 = .ok (.getfield 271, 3) := by decide +kernel
theorem dX12_trace_15 : decode cX12_trace 15 = .ok (.goto 5, 3) := by decide +kernel
theorem dX12_trace_18 : decode cX12_trace 18 = .ok (.bipush 20, 2) := by decide +kernel
theorem dX12_trace_20 : decode cX12_trace 20 = .ok (.iconst 1, 1) := by decide +kernel
theorem dX12_trace_21 : decode cX12_trace 21 = .ok (.isub, 1) := by decide +kernel
theorem dX12_trace_22 : decode cX12_trace 22 = .ok (.invokestatic 41, 3) := by decide +kernel
theorem dX12_trace_25 : decode cX12_trace 25 = .ok (.ifCond .eq 12, 3) := by decide +kernel
theorem dX12_trace_28 : decode cX12_trace 28 = .ok (.aload_n 0, 1) := by decide +kernel
theorem dX12_trace_29 : decode cX12_trace 29 = .ok (.getfield 34, 3) := by decide +kernel
theorem dX12_trace_32 : decode cX12_trace 32 = .ok (.iload_n 1, 1) := by decide +kernel
theorem dX12_trace_33 : decode cX12_trace 33 = .ok (.iaload, 1) := by decide +kernel
theorem dX12_trace_34 : decode cX12_trace 34 = .ok (.goto 4, 3) := by decide +kernel
theorem dX12_trace_37 : decode cX12_trace 37 = .ok (.iconst (-1), 1) := by decide +kernel
theorem dX12_trace_38 : decode cX12_trace 38 = .ok (.ireturn, 1) := by decide +kernel
theorem dX12_as_0 : decode cX12_as 0 = .ok (.aload_n 0, 1) := by decide +kernel
theorem dX12_as_1 : decode cX12_as 1 = .ok (.iload_n 1, 1) := by decide +kernel
theorem dX12_as_2 : decode cX12_as 2 = .ok (.invokevirtual 150, 3) := by decide +kernel
theorem dX12_as_5 : decode cX12_as 5 = .ok (.ifCond .eq 13, 3) := by decide +kernel
theorem dX12_as_8 : decode cX12_as 8 = .ok (.iload_n 2, 1) := by decide +kernel
theorem dX12_as_9 : decode cX12_as 9 = .ok (.iconst 0, 1) := by decide +kernel
theorem dX12_as_10 : decode cX12_as 10 = .ok (.bipush 6, 2) := by decide +kernel
theorem dX12_as_12 : decode cX12_as 12 = .ok (.invokestatic 41, 3) := by decide +kernel
theorem dX12_as_15 : decode cX12_as 15 = .ok (.ifCond .ne 5, 3) := by decide +kernel
theorem dX12_as_18 : decode cX12_as 18 = .ok (.iconst (-1), 1) := by decide +kernel
theorem dX12_as_19 : decode cX12_as 19 = .ok (.ireturn, 1) := by decide +kernel
theorem dX12_as_20 : decode cX12_as 20 = .ok (.aload_n 0, 1) := by decide +kernel
theorem dX12_as_21 : decode cX12_as 21 = .ok (.getfield 9, 3) := by decide +kernel
theorem dX12_as_24 : decode cX12_as 24 = .ok (.bipush 50, 2) := by decide +kernel
theorem dX12_as_26 : decode cX12_as 26 = .ok (.iload_n 1, 1) := by decide +kernel
theorem dX12_as_27 : decode cX12_as 27 = .ok (.iadd, 1) := by decide +kernel
theorem dX12_as_28 : decode cX12_as 28 = .ok (.iaload, 1) := by decide +kernel
theorem dX12_as_29 : decode cX12_as 29 = .ok (.iload_n 2, 1) := by decide +kernel
theorem dX12_as_30 : decode cX12_as 30 = .ok (.invokestatic 283, 3) := by decide +kernel
theorem dX12_as_33 : decode cX12_as 33 = .ok (.ifCond .eq 15, 3) := by decide +kernel
theorem dX12_as_36 : decode cX12_as 36 = .ok (.aload_n 0, 1) := by decide +kernel
theorem dX12_as_37 : decode cX12_as 37 = .ok (.getfield 9, 3) := by decide +kernel
theorem dX12_as_40 : decode cX12_as 40 = .ok (.bipush 58, 2) := by decide +kernel
theorem dX12_as_42 : decode cX12_as 42 = .ok (.iload_n 1, 1) := by decide +kernel
theorem dX12_as_43 : decode cX12_as 43 = .ok (.iadd, 1) := by decide +kernel
theorem dX12_as_44 : decode cX12_as 44 = .ok (.iaload, 1) := by decide +kernel
theorem dX12_as_45 : decode cX12_as 45 = .ok (.goto 5, 3) := by decide +kernel
theorem dX12_as_48 : decode cX12_as 48 = .ok (.bipush (-6), 2) := by decide +kernel
theorem dX12_as_50 : decode cX12_as 50 = .ok (.ireturn, 1) := by decide +kernel
theorem dX12_image_0 : decode cX12_image 0 = .ok (.iconst 0, 1) := by decide +kernel
theorem dX12_image_1 : decode cX12_image 1 = .ok (.istore_n 1, 1) := by decide +kernel
theorem dX12_image_2 : decode cX12_image 2 = .ok (.iload_n 1, 1) := by decide +kernel
theorem dX12_image_3 : decode cX12_image 3 = .ok (.sipush 973, 3) := by decide +kernel
theorem dX12_image_6 : decode cX12_image 6 = .ok (.if_icmp .ge 21, 3) := by decide +kernel
theorem dX12_image_9 : decode cX12_image 9 = .ok (.aload_n 0, 1) := by decide +kernel
theorem dX12_image_10 : decode cX12_image 10 = .ok (.getfield 15, 3) := by decide +kernel
theorem dX12_image_13 : decode cX12_image 13 = .ok (.iload_n 1, 1) := by decide +kernel
theorem dX12_image_14 : decode cX12_image 14 = .ok (.aload_n 0, 1) := by decide +kernel
theorem dX12_image_15 : decode cX12_image 15 = .ok (.getfield 9, 3) := by decide +kernel
theorem dX12_image_18 : decode cX12_image 18 = .ok (.iload_n 1, 1) := by decide +kernel
theorem dX12_image_19 : decode cX12_image 19 = .ok (.iaload, 1) := by decide +kernel
theorem dX12_image_20 : decode cX12_image 20 = .ok (.iastore, 1) := by decide +kernel
theorem dX12_image_21 : decode cX12_image 21 = .ok (.iinc 1 1, 3) := by decide +kernel
theorem dX12_image_24 : decode cX12_image 24 = .ok (.goto (-22), 3) := by decide +kernel
theorem dX12_image_27 : decode cX12_image 27 = .ok (.aload_n 0, 1) := by decide +kernel
theorem dX12_image_28 : decode cX12_image 28 = .ok (.iconst 1, 1) := by decide +kernel
theorem dX12_image_29 : decode cX12_image 29 = .ok (.putfield 307, 3) := by decide +kernel
theorem dX12_image_32 : decode cX12_image 32 = .ok (.aload_n 0, 1) := by decide +kernel
theorem dX12_image_33 : decode cX12_image 33 = .ok (.getfield 9, 3) := by decide +kernel
theorem dX12_image_36 : decode cX12_image 36 = .ok (.bipush 43, 2) := by decide +kernel
theorem dX12_image_38 : decode cX12_image 38 = .ok (.iaload, 1) := by decide +kernel
theorem dX12_image_39 : decode cX12_image 39 = .ok (.ireturn, 1) := by decide +kernel
theorem dX12_undo_0 : decode cX12_undo 0 = .ok (.aload_n 0, 1) := by decide +kernel
theorem dX12_undo_1 : decode cX12_undo 1 = .ok (.getfield 307, 3) := by decide +kernel
theorem dX12_undo_4 : decode cX12_undo 4 = .ok (.ifCond .ne 6, 3) := by decide +kernel
theorem dX12_undo_7 : decode cX12_undo 7 = .ok (.bipush (-3), 2) := by decide +kernel
theorem dX12_undo_9 : decode cX12_undo 9 = .ok (.ireturn, 1) := by decide +kernel
theorem dX12_undo_10 : decode cX12_undo 10 = .ok (.iconst 0, 1) := by decide +kernel
theorem dX12_undo_11 : decode cX12_undo 11 = .ok (.istore_n 1, 1) := by decide +kernel
theorem dX12_undo_12 : decode cX12_undo 12 = .ok (.iload_n 1, 1) := by decide +kernel
theorem dX12_undo_13 : decode cX12_undo 13 = .ok (.sipush 973, 3) := by decide +kernel
theorem dX12_undo_16 : decode cX12_undo 16 = .ok (.if_icmp .ge 21, 3) := by decide +kernel
theorem dX12_undo_19 : decode cX12_undo 19 = .ok (.aload_n 0, 1) := by decide +kernel
theorem dX12_undo_20 : decode cX12_undo 20 = .ok (.getfield 9, 3) := by decide +kernel
theorem dX12_undo_23 : decode cX12_undo 23 = .ok (.iload_n 1, 1) := by decide +kernel
theorem dX12_undo_24 : decode cX12_undo 24 = .ok (.aload_n 0, 1) := by decide +kernel
theorem dX12_undo_25 : decode cX12_undo 25 = .ok (.getfield 15, 3) := by decide +kernel
theorem dX12_undo_28 : decode cX12_undo 28 = .ok (.iload_n 1, 1) := by decide +kernel
theorem dX12_undo_29 : decode cX12_undo 29 = .ok (.iaload, 1) := by decide +kernel
theorem dX12_undo_30 : decode cX12_undo 30 = .ok (.iastore, 1) := by decide +kernel
theorem dX12_undo_31 : decode cX12_undo 31 = .ok (.iinc 1 1, 3) := by decide +kernel
theorem dX12_undo_34 : decode cX12_undo 34 = .ok (.goto (-22), 3) := by decide +kernel
theorem dX12_undo_37 : decode cX12_undo 37 = .ok (.aload_n 0, 1) := by decide +kernel
theorem dX12_undo_38 : decode cX12_undo 38 = .ok (.getfield 9, 3) := by decide +kernel
theorem dX12_undo_41 : decode cX12_undo 41 = .ok (.bipush 43, 2) := by decide +kernel
theorem dX12_undo_43 : decode cX12_undo 43 = .ok (.iaload, 1) := by decide +kernel
theorem dX12_undo_44 : decode cX12_undo 44 = .ok (.ireturn, 1) := by decide +kernel
theorem dX12_count_0 : decode cX12_count 0 = .ok (.iload_n 1, 1) := by decide +kernel
theorem dX12_count_1 : decode cX12_count 1 = .ok (.bipush 6, 2) := by decide +kernel
theorem dX12_count_3 : decode cX12_count 3 = .ok (.if_icmp .ne 10, 3) := by decide +kernel
theorem dX12_count_6 : decode cX12_count 6 = .ok (.aload_n 0, 1) := by decide +kernel
theorem dX12_count_7 : decode cX12_count 7 = .ok (.getfield 271, 3) := by decide +kernel
theorem dX12_count_10 : decode cX12_count 10 = .ok (.goto 25, 3) := by decide +kernel
theorem dX12_count_13 : decode cX12_count 13 = .ok (.iload_n 1, 1) := by decide +kernel
theorem dX12_count_14 : decode cX12_count 14 = .ok (.iconst 0, 1) := by decide +kernel
theorem dX12_count_15 : decode cX12_count 15 = .ok (.iconst 5, 1) := by decide +kernel
theorem dX12_count_16 : decode cX12_count 16 = .ok (.invokestatic 41, 3) := by decide +kernel
theorem dX12_count_19 : decode cX12_count 19 = .ok (.ifCond .eq 15, 3) := by decide +kernel
theorem dX12_count_22 : decode cX12_count 22 = .ok (.aload_n 0, 1) := by decide +kernel
theorem dX12_count_23 : decode cX12_count 23 = .ok (.getfield 9, 3) := by decide +kernel
theorem dX12_count_26 : decode cX12_count 26 = .ok (.bipush 43, 2) := by decide +kernel
theorem dX12_count_28 : decode cX12_count 28 = .ok (.iload_n 1, 1) := by decide +kernel
theorem dX12_count_29 : decode cX12_count 29 = .ok (.iadd, 1) := by decide +kernel
theorem dX12_count_30 : decode cX12_count 30 = .ok (.iaload, 1) := by decide +kernel
theorem dX12_count_31 : decode cX12_count 31 = .ok (.goto 4, 3) := by decide +kernel
theorem dX12_count_34 : decode cX12_count 34 = .ok (.iconst (-1), 1) := by decide +kernel
theorem dX12_count_35 : decode cX12_count 35 = .ok (.ireturn, 1) := by decide +kernel
