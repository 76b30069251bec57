/-! decoded by program -/
theorem d_Mod_init_0 : decode b_Mod_init 0 = .ok (.aload_n 0, 1) := by decide +kernel
theorem d_Mod_init_1 : decode b_Mod_init 1 = .ok (.invokespecial 3, 3) := by decide +kernel
theorem d_Mod_init_4 : decode b_Mod_init 4 = .ok (.aload_n 0, 1) := by decide +kernel
theorem d_Mod_init_5 : decode b_Mod_init 5 = .ok (.sipush 915, 3) := by decide +kernel
theorem d_Mod_init_8 : decode b_Mod_init 8 = .ok (.newarray .int, 2) := by decide +kernel
theorem d_Mod_init_10 : decode b_Mod_init 10 = .ok (.putfield 9, 3) := by decide +kernel
theorem d_Mod_init_13 : decode b_Mod_init 13 = .ok (.aload_n 0, 1) := by decide +kernel
theorem d_Mod_init_14 : decode b_Mod_init 14 = .ok (.sipush 915, 3) := by decide +kernel
theorem d_Mod_init_17 : decode b_Mod_init 17 = .ok (.newarray .int, 2) := by decide +kernel
theorem d_Mod_init_19 : decode b_Mod_init 19 = .ok (.putfield 15, 3) := by decide +kernel
theorem d_Mod_init_22 : decode b_Mod_init 22 = .ok (.aload_n 0, 1) := by decide +kernel
theorem d_Mod_init_23 : decode b_Mod_init 23 = .ok (.bipush 11, 2) := by decide +kernel
theorem d_Mod_init_25 : decode b_Mod_init 25 = .ok (.newarray .int, 2) := by decide +kernel
theorem d_Mod_init_27 : decode b_Mod_init 27 = .ok (.putfield 18, 3) := by decide +kernel
theorem d_Mod_init_30 : decode b_Mod_init 30 = .ok (.aload_n 0, 1) := by decide +kernel
theorem d_Mod_init_31 : decode b_Mod_init 31 = .ok (.bipush 6, 2) := by decide +kernel
theorem d_Mod_init_33 : decode b_Mod_init 33 = .ok (.newarray .int, 2) := by decide +kernel
theorem d_Mod_init_35 : decode b_Mod_init 35 = .ok (.putfield 21, 3) := by decide +kernel
theorem d_Mod_init_38 : decode b_Mod_init 38 = .ok (.aload_n 0, 1) := by decide +kernel
theorem d_Mod_init_39 : decode b_Mod_init 39 = .ok (.bipush 64, 2) := by decide +kernel
theorem d_Mod_init_41 : decode b_Mod_init 41 = .ok (.newarray .boolean, 2) := by decide +kernel
theorem d_Mod_init_43 : decode b_Mod_init 43 = .ok (.putfield 24, 3) := by decide +kernel
theorem d_Mod_init_46 : decode b_Mod_init 46 = .ok (.aload_n 0, 1) := by decide +kernel
theorem d_Mod_init_47 : decode b_Mod_init 47 = .ok (.bipush 6, 2) := by decide +kernel
theorem d_Mod_init_49 : decode b_Mod_init 49 = .ok (.newarray .int, 2) := by decide +kernel
theorem d_Mod_init_51 : decode b_Mod_init 51 = .ok (.putfield 28, 3) := by decide +kernel
theorem d_Mod_init_54 : decode b_Mod_init 54 = .ok (.aload_n 0, 1) := by decide +kernel
theorem d_Mod_init_55 : decode b_Mod_init 55 = .ok (.bipush 44, 2) := by decide +kernel
theorem d_Mod_init_57 : decode b_Mod_init 57 = .ok (.newarray .int, 2) := by decide +kernel
theorem d_Mod_init_59 : decode b_Mod_init 59 = .ok (.putfield 31, 3) := by decide +kernel
theorem d_Mod_init_62 : decode b_Mod_init 62 = .ok (.aload_n 0, 1) := by decide +kernel
theorem d_Mod_init_63 : decode b_Mod_init 63 = .ok (.iconst 4, 1) := by decide +kernel
theorem d_Mod_init_64 : decode b_Mod_init 64 = .ok (.newarray .int, 2) := by decide +kernel
theorem d_Mod_init_66 : decode b_Mod_init 66 = .ok (.putfield 34, 3) := by decide +kernel
theorem d_Mod_init_69 : decode b_Mod_init 69 = .ok (.aload_n 0, 1) := by decide +kernel
theorem d_Mod_init_70 : decode b_Mod_init 70 = .ok (.iconst 4, 1) := by decide +kernel
theorem d_Mod_init_71 : decode b_Mod_init 71 = .ok (.newarray .int, 2) := by decide +kernel
theorem d_Mod_init_73 : decode b_Mod_init 73 = .ok (.putfield 37, 3) := by decide +kernel
theorem d_Mod_init_76 : decode b_Mod_init 76 = .ok (.aload_n 0, 1) := by decide +kernel
theorem d_Mod_init_77 : decode b_Mod_init 77 = .ok (.bipush 31, 2) := by decide +kernel
theorem d_Mod_init_79 : decode b_Mod_init 79 = .ok (.newarray .int, 2) := by decide +kernel
theorem d_Mod_init_81 : decode b_Mod_init 81 = .ok (.putfield 40, 3) := by decide +kernel
theorem d_Mod_init_84 : decode b_Mod_init 84 = .ok (.aload_n 0, 1) := by decide +kernel
theorem d_Mod_init_85 : decode b_Mod_init 85 = .ok (.bipush 20, 2) := by decide +kernel
theorem d_Mod_init_87 : decode b_Mod_init 87 = .ok (.newarray .int, 2) := by decide +kernel
theorem d_Mod_init_89 : decode b_Mod_init 89 = .ok (.putfield 43, 3) := by decide +kernel
theorem d_Mod_init_92 : decode b_Mod_init 92 = .ok (.aload_n 0, 1) := by decide +kernel
theorem d_Mod_init_93 : decode b_Mod_init 93 = .ok (.getfield 9, 3) := by decide +kernel
theorem d_Mod_init_96 : decode b_Mod_init 96 = .ok (.bipush 17, 2) := by decide +kernel
theorem d_Mod_init_98 : decode b_Mod_init 98 = .ok (.iconst (-1), 1) := by decide +kernel
theorem d_Mod_init_99 : decode b_Mod_init 99 = .ok (.iastore, 1) := by decide +kernel
theorem d_Mod_init_100 : decode b_Mod_init 100 = .ok (.return_, 1) := by decide +kernel
theorem d_Mod_in_0 : decode b_Mod_in 0 = .ok (.iload_n 0, 1) := by decide +kernel
theorem d_Mod_in_1 : decode b_Mod_in 1 = .ok (.iload_n 1, 1) := by decide +kernel
theorem d_Mod_in_2 : decode b_Mod_in 2 = .ok (.if_icmp .lt 12, 3) := by decide +kernel
theorem d_Mod_in_5 : decode b_Mod_in 5 = .ok (.iload_n 0, 1) := by decide +kernel
theorem d_Mod_in_6 : decode b_Mod_in 6 = .ok (.iload_n 2, 1) := by decide +kernel
theorem d_Mod_in_7 : decode b_Mod_in 7 = .ok (.if_icmp .gt 7, 3) := by decide +kernel
theorem d_Mod_in_10 : decode b_Mod_in 10 = .ok (.iconst 1, 1) := by decide +kernel
theorem d_Mod_in_11 : decode b_Mod_in 11 = .ok (.goto 4, 3) := by decide +kernel
theorem d_Mod_in_14 : decode b_Mod_in 14 = .ok (.iconst 0, 1) := by decide +kernel
theorem d_Mod_in_15 : decode b_Mod_in 15 = .ok (.ireturn, 1) := by decide +kernel
theorem d_Mod_isPerson_0 : decode b_Mod_isPerson 0 = .ok (.iload_n 1, 1) := by decide +kernel
theorem d_Mod_isPerson_1 : decode b_Mod_isPerson 1 = .ok (.iconst 0, 1) := by decide +kernel
theorem d_Mod_isPerson_2 : decode b_Mod_isPerson 2 = .ok (.aload_n 0, 1) := by decide +kernel
theorem d_Mod_isPerson_3 : decode b_Mod_isPerson 3 = .ok (.getfield 9, 3) := by decide +kernel
theorem d_Mod_isPerson_6 : decode b_Mod_isPerson 6 = .ok (.bipush 11, 2) := by decide +kernel
theorem d_Mod_isPerson_8 : decode b_Mod_isPerson 8 = .ok (.iaload, 1) := by decide +kernel
theorem d_Mod_isPerson_9 : decode b_Mod_isPerson 9 = .ok (.iconst 1, 1) := by decide +kernel
theorem d_Mod_isPerson_10 : decode b_Mod_isPerson 10 = .ok (.isub, 1) := by decide +kernel
theorem d_Mod_isPerson_11 : decode b_Mod_isPerson 11 = .ok (.invokestatic 50, 3) := by decide +kernel
theorem d_Mod_isPerson_14 : decode b_Mod_isPerson 14 = .ok (.ireturn, 1) := by decide +kernel
theorem d_Mod_isClock_0 : decode b_Mod_isClock 0 = .ok (.iload_n 0, 1) := by decide +kernel
theorem d_Mod_isClock_1 : decode b_Mod_isClock 1 = .ok (.iconst 0, 1) := by decide +kernel
theorem d_Mod_isClock_2 : decode b_Mod_isClock 2 = .ok (.iconst 1, 1) := by decide +kernel
theorem d_Mod_isClock_3 : decode b_Mod_isClock 3 = .ok (.invokestatic 50, 3) := by decide +kernel
theorem d_Mod_isClock_6 : decode b_Mod_isClock 6 = .ok (.ireturn, 1) := by decide +kernel
theorem d_Mod_keeps_0 : decode b_Mod_keeps 0 = .ok (.iconst 0, 1) := by decide +kernel
theorem d_Mod_keeps_1 : decode b_Mod_keeps 1 = .ok (.istore_n 1, 1) := by decide +kernel
theorem d_Mod_keeps_2 : decode b_Mod_keeps 2 = .ok (.iload_n 1, 1) := by decide +kernel
theorem d_Mod_keeps_3 : decode b_Mod_keeps 3 = .ok (.bipush 11, 2) := by decide +kernel
theorem d_Mod_keeps_5 : decode b_Mod_keeps 5 = .ok (.if_icmp .ge 21, 3) := by decide +kernel
theorem d_Mod_keeps_8 : decode b_Mod_keeps 8 = .ok (.aload_n 0, 1) := by decide +kernel
theorem d_Mod_keeps_9 : decode b_Mod_keeps 9 = .ok (.getfield 18, 3) := by decide +kernel
theorem d_Mod_keeps_12 : decode b_Mod_keeps 12 = .ok (.iload_n 1, 1) := by decide +kernel
theorem d_Mod_keeps_13 : decode b_Mod_keeps 13 = .ok (.aload_n 0, 1) := by decide +kernel
theorem d_Mod_keeps_14 : decode b_Mod_keeps 14 = .ok (.getfield 9, 3) := by decide +kernel
theorem d_Mod_keeps_17 : decode b_Mod_keeps 17 = .ok (.iload_n 1, 1) := by decide +kernel
theorem d_Mod_keeps_18 : decode b_Mod_keeps 18 = .ok (.iaload, 1) := by decide +kernel
theorem d_Mod_keeps_19 : decode b_Mod_keeps 19 = .ok (.iastore, 1) := by decide +kernel
theorem d_Mod_keeps_20 : decode b_Mod_keeps 20 = .ok (.iinc 1 1, 3) := by decide +kernel
theorem d_Mod_keeps_23 : decode b_Mod_keeps 23 = .ok (.goto (-21), 3) := by decide +kernel
theorem d_Mod_keeps_26 : decode b_Mod_keeps 26 = .ok (.return_, 1) := by decide +kernel
theorem d_Mod_goesBack_0 : decode b_Mod_goesBack 0 = .ok (.iconst 0, 1) := by decide +kernel
theorem d_Mod_goesBack_1 : decode b_Mod_goesBack 1 = .ok (.istore_n 1, 1) := by decide +kernel
theorem d_Mod_goesBack_2 : decode b_Mod_goesBack 2 = .ok (.iload_n 1, 1) := by decide +kernel
theorem d_Mod_goesBack_3 : decode b_Mod_goesBack 3 = .ok (.bipush 11, 2) := by decide +kernel
theorem d_Mod_goesBack_5 : decode b_Mod_goesBack 5 = .ok (.if_icmp .ge 21, 3) := by decide +kernel
theorem d_Mod_goesBack_8 : decode b_Mod_goesBack 8 = .ok (.aload_n 0, 1) := by decide +kernel
theorem d_Mod_goesBack_9 : decode b_Mod_goesBack 9 = .ok (.getfield 9, 3) := by decide +kernel
theorem d_Mod_goesBack_12 : decode b_Mod_goesBack 12 = .ok (.iload_n 1, 1) := by decide +kernel
theorem d_Mod_goesBack_13 : decode b_Mod_goesBack 13 = .ok (.aload_n 0, 1) := by decide +kernel
theorem d_Mod_goesBack_14 : decode b_Mod_goesBack 14 = .ok (.getfield 18, 3) := by decide +kernel
theorem d_Mod_goesBack_17 : decode b_Mod_goesBack 17 = .ok (.iload_n 1, 1) := by decide +kernel
theorem d_Mod_goesBack_18 : decode b_Mod_goesBack 18 = .ok (.iaload, 1) := by decide +kernel
theorem d_Mod_goesBack_19 : decode b_Mod_goesBack 19 = .ok (.iastore, 1) := by decide +kernel
theorem d_Mod_goesBack_20 : decode b_Mod_goesBack 20 = .ok (.iinc 1 1, 3) := by decide +kernel
theorem d_Mod_goesBack_23 : decode b_Mod_goesBack 23 = .ok (.goto (-21), 3) := by decide +kernel
theorem d_Mod_goesBack_26 : decode b_Mod_goesBack 26 = .ok (.return_, 1) := by decide +kernel
theorem d_Mod_feed_0 : decode b_Mod_feed 0 = .ok (.iload_n 1, 1) := by decide +kernel
theorem d_Mod_feed_1 : decode b_Mod_feed 1 = .ok (.iconst 0, 1) := by decide +kernel
theorem d_Mod_feed_2 : decode b_Mod_feed 2 = .ok (.bipush 127, 2) := by decide +kernel
theorem d_Mod_feed_4 : decode b_Mod_feed 4 = .ok (.invokestatic 50, 3) := by decide +kernel
theorem d_Mod_feed_7 : decode b_Mod_feed 7 = .ok (.ifCond .ne 6, 3) := by decide +kernel
theorem d_Mod_feed_10 : decode b_Mod_feed 10 = .ok (.bipush (-2), 2) := by decide +kernel
theorem d_Mod_feed_12 : decode b_Mod_feed 12 = .ok (.ireturn, 1) := by decide +kernel
theorem d_Mod_feed_13 : decode b_Mod_feed 13 = .ok (.aload_n 0, 1) := by decide +kernel
theorem d_Mod_feed_14 : decode b_Mod_feed 14 = .ok (.getfield 9, 3) := by decide +kernel
theorem d_Mod_feed_17 : decode b_Mod_feed 17 = .ok (.bipush 16, 2) := by decide +kernel
theorem d_Mod_feed_19 : decode b_Mod_feed 19 = .ok (.iaload, 1) := by decide +kernel
theorem d_Mod_feed_20 : decode b_Mod_feed 20 = .ok (.bipush 100, 2) := by decide +kernel
theorem d_Mod_feed_22 : decode b_Mod_feed 22 = .ok (.if_icmp .ne 6, 3) := by decide +kernel
theorem d_Mod_feed_25 : decode b_Mod_feed 25 = .ok (.bipush (-4), 2) := by decide +kernel
theorem d_Mod_feed_27 : decode b_Mod_feed 27 = .ok (.ireturn, 1) := by decide +kernel
theorem d_Mod_feed_28 : decode b_Mod_feed 28 = .ok (.aload_n 0, 1) := by decide +kernel
theorem d_Mod_feed_29 : decode b_Mod_feed 29 = .ok (.getfield 9, 3) := by decide +kernel
theorem d_Mod_feed_32 : decode b_Mod_feed 32 = .ok (.bipush 100, 2) := by decide +kernel
theorem d_Mod_feed_34 : decode b_Mod_feed 34 = .ok (.aload_n 0, 1) := by decide +kernel
theorem d_Mod_feed_35 : decode b_Mod_feed 35 = .ok (.getfield 9, 3) := by decide +kernel
theorem d_Mod_feed_38 : decode b_Mod_feed 38 = .ok (.bipush 16, 2) := by decide +kernel
theorem d_Mod_feed_40 : decode b_Mod_feed 40 = .ok (.iaload, 1) := by decide +kernel
theorem d_Mod_feed_41 : decode b_Mod_feed 41 = .ok (.iadd, 1) := by decide +kernel
theorem d_Mod_feed_42 : decode b_Mod_feed 42 = .ok (.iload_n 1, 1) := by decide +kernel
theorem d_Mod_feed_43 : decode b_Mod_feed 43 = .ok (.iastore, 1) := by decide +kernel
theorem d_Mod_feed_44 : decode b_Mod_feed 44 = .ok (.aload_n 0, 1) := by decide +kernel
theorem d_Mod_feed_45 : decode b_Mod_feed 45 = .ok (.getfield 9, 3) := by decide +kernel
theorem d_Mod_feed_48 : decode b_Mod_feed 48 = .ok (.bipush 16, 2) := by decide +kernel
theorem d_Mod_feed_50 : decode b_Mod_feed 50 = .ok (.dup2, 1) := by decide +kernel
theorem d_Mod_feed_51 : decode b_Mod_feed 51 = .ok (.iaload, 1) := by decide +kernel
theorem d_Mod_feed_52 : decode b_Mod_feed 52 = .ok (.iconst 1, 1) := by decide +kernel
theorem d_Mod_feed_53 : decode b_Mod_feed 53 = .ok (.iadd, 1) := by decide +kernel
theorem d_Mod_feed_54 : decode b_Mod_feed 54 = .ok (.iastore, 1) := by decide +kernel
theorem d_Mod_feed_55 : decode b_Mod_feed 55 = .ok (.aload_n 0, 1) := by decide +kernel
theorem d_Mod_feed_56 : decode b_Mod_feed 56 = .ok (.getfield 9, 3) := by decide +kernel
theorem d_Mod_feed_59 : decode b_Mod_feed 59 = .ok (.bipush 16, 2) := by decide +kernel
theorem d_Mod_feed_61 : decode b_Mod_feed 61 = .ok (.iaload, 1) := by decide +kernel
theorem d_Mod_feed_62 : decode b_Mod_feed 62 = .ok (.ireturn, 1) := by decide +kernel
theorem d_Mod_here_0 : decode b_Mod_here 0 = .ok (.aload_n 0, 1) := by decide +kernel
theorem d_Mod_here_1 : decode b_Mod_here 1 = .ok (.getfield 54, 3) := by decide +kernel
theorem d_Mod_here_4 : decode b_Mod_here 4 = .ok (.aload_n 0, 1) := by decide +kernel
theorem d_Mod_here_5 : decode b_Mod_here 5 = .ok (.getfield 57, 3) := by decide +kernel
theorem d_Mod_here_8 : decode b_Mod_here 8 = .ok (.if_icmp .ge 18, 3) := by decide +kernel
theorem d_Mod_here_11 : decode b_Mod_here 11 = .ok (.aload_n 0, 1) := by decide +kernel
theorem d_Mod_here_12 : decode b_Mod_here 12 = .ok (.getfield 9, 3) := by decide +kernel
theorem d_Mod_here_15 : decode b_Mod_here 15 = .ok (.bipush 100, 2) := by decide +kernel
theorem d_Mod_here_17 : decode b_Mod_here 17 = .ok (.aload_n 0, 1) := by decide +kernel
theorem d_Mod_here_18 : decode b_Mod_here 18 = .ok (.getfield 54, 3) := by decide +kernel
theorem d_Mod_here_21 : decode b_Mod_here 21 = .ok (.iadd, 1) := by decide +kernel
theorem d_Mod_here_22 : decode b_Mod_here 22 = .ok (.iaload, 1) := by decide +kernel
theorem d_Mod_here_23 : decode b_Mod_here 23 = .ok (.goto 4, 3) := by decide +kernel
theorem d_Mod_here_26 : decode b_Mod_here 26 = .ok (.iconst (-1), 1) := by decide +kernel
theorem d_Mod_here_27 : decode b_Mod_here 27 = .ok (.ireturn, 1) := by decide +kernel
theorem d_Mod_must_0 : decode b_Mod_must 0 = .ok (.aload_n 0, 1) := by decide +kernel
theorem d_Mod_must_1 : decode b_Mod_must 1 = .ok (.aload_n 0, 1) := by decide +kernel
theorem d_Mod_must_2 : decode b_Mod_must 2 = .ok (.getfield 60, 3) := by decide +kernel
theorem d_Mod_must_5 : decode b_Mod_must 5 = .ok (.ifCond .ne 11, 3) := by decide +kernel
theorem d_Mod_must_8 : decode b_Mod_must 8 = .ok (.aload_n 0, 1) := by decide +kernel
theorem d_Mod_must_9 : decode b_Mod_must 9 = .ok (.invokevirtual 64, 3) := by decide +kernel
theorem d_Mod_must_12 : decode b_Mod_must 12 = .ok (.iload_n 1, 1) := by decide +kernel
theorem d_Mod_must_13 : decode b_Mod_must 13 = .ok (.if_icmp .eq 7, 3) := by decide +kernel
theorem d_Mod_must_16 : decode b_Mod_must 16 = .ok (.iconst 1, 1) := by decide +kernel
theorem d_Mod_must_17 : decode b_Mod_must 17 = .ok (.goto 4, 3) := by decide +kernel
theorem d_Mod_must_20 : decode b_Mod_must 20 = .ok (.iconst 0, 1) := by decide +kernel
theorem d_Mod_must_21 : decode b_Mod_must 21 = .ok (.putfield 60, 3) := by decide +kernel
theorem d_Mod_must_24 : decode b_Mod_must 24 = .ok (.aload_n 0, 1) := by decide +kernel
theorem d_Mod_must_25 : decode b_Mod_must 25 = .ok (.dup, 1) := by decide +kernel
theorem d_Mod_must_26 : decode b_Mod_must 26 = .ok (.getfield 54, 3) := by decide +kernel
theorem d_Mod_must_29 : decode b_Mod_must 29 = .ok (.aload_n 0, 1) := by decide +kernel
theorem d_Mod_must_30 : decode b_Mod_must 30 = .ok (.getfield 60, 3) := by decide +kernel
theorem d_Mod_must_33 : decode b_Mod_must 33 = .ok (.ifCond .eq 7, 3) := by decide +kernel
theorem d_Mod_must_36 : decode b_Mod_must 36 = .ok (.iconst 0, 1) := by decide +kernel
theorem d_Mod_must_37 : decode b_Mod_must 37 = .ok (.goto 4, 3) := by decide +kernel
theorem d_Mod_must_40 : decode b_Mod_must 40 = .ok (.iconst 1, 1) := by decide +kernel
theorem d_Mod_must_41 : decode b_Mod_must 41 = .ok (.iadd, 1) := by decide +kernel
theorem d_Mod_must_42 : decode b_Mod_must 42 = .ok (.putfield 54, 3) := by decide +kernel
theorem d_Mod_must_45 : decode b_Mod_must 45 = .ok (.return_, 1) := by decide +kernel
theorem d_Mod_spells_0 : decode b_Mod_spells 0 = .ok (.iconst 0, 1) := by decide +kernel
theorem d_Mod_spells_1 : decode b_Mod_spells 1 = .ok (.istore_n 2, 1) := by decide +kernel
theorem d_Mod_spells_2 : decode b_Mod_spells 2 = .ok (.iload_n 2, 1) := by decide +kernel
theorem d_Mod_spells_3 : decode b_Mod_spells 3 = .ok (.aload_n 1, 1) := by decide +kernel
theorem d_Mod_spells_4 : decode b_Mod_spells 4 = .ok (.invokevirtual 68, 3) := by decide +kernel
theorem d_Mod_spells_7 : decode b_Mod_spells 7 = .ok (.if_icmp .ge 18, 3) := by decide +kernel
theorem d_Mod_spells_10 : decode b_Mod_spells 10 = .ok (.aload_n 0, 1) := by decide +kernel
theorem d_Mod_spells_11 : decode b_Mod_spells 11 = .ok (.aload_n 1, 1) := by decide +kernel
theorem d_Mod_spells_12 : decode b_Mod_spells 12 = .ok (.iload_n 2, 1) := by decide +kernel
theorem d_Mod_spells_13 : decode b_Mod_spells 13 = .ok (.invokevirtual 73, 3) := by decide +kernel
theorem d_Mod_spells_16 : decode b_Mod_spells 16 = .ok (.invokevirtual 77, 3) := by decide +kernel
theorem d_Mod_spells_19 : decode b_Mod_spells 19 = .ok (.iinc 2 1, 3) := by decide +kernel
theorem d_Mod_spells_22 : decode b_Mod_spells 22 = .ok (.goto (-20), 3) := by decide +kernel
theorem d_Mod_spells_25 : decode b_Mod_spells 25 = .ok (.return_, 1) := by decide +kernel
theorem d_Mod_figures_0 : decode b_Mod_figures 0 = .ok (.aload_n 0, 1) := by decide +kernel
theorem d_Mod_figures_1 : decode b_Mod_figures 1 = .ok (.aload_n 0, 1) := by decide +kernel
theorem d_Mod_figures_2 : decode b_Mod_figures 2 = .ok (.getfield 60, 3) := by decide +kernel
theorem d_Mod_figures_5 : decode b_Mod_figures 5 = .ok (.ifCond .ne 17, 3) := by decide +kernel
theorem d_Mod_figures_8 : decode b_Mod_figures 8 = .ok (.aload_n 0, 1) := by decide +kernel
theorem d_Mod_figures_9 : decode b_Mod_figures 9 = .ok (.invokevirtual 64, 3) := by decide +kernel
theorem d_Mod_figures_12 : decode b_Mod_figures 12 = .ok (.bipush 48, 2) := by decide +kernel
theorem d_Mod_figures_14 : decode b_Mod_figures 14 = .ok (.bipush 57, 2) := by decide +kernel
theorem d_Mod_figures_16 : decode b_Mod_figures 16 = .ok (.invokestatic 50, 3) := by decide +kernel
theorem d_Mod_figures_19 : decode b_Mod_figures 19 = .ok (.ifCond .ne 7, 3) := by decide +kernel
theorem d_Mod_figures_22 : decode b_Mod_figures 22 = .ok (.iconst 1, 1) := by decide +kernel
theorem d_Mod_figures_23 : decode b_Mod_figures 23 = .ok (.goto 4, 3) := by decide +kernel
theorem d_Mod_figures_26 : decode b_Mod_figures 26 = .ok (.iconst 0, 1) := by decide +kernel
theorem d_Mod_figures_27 : decode b_Mod_figures 27 = .ok (.putfield 60, 3) := by decide +kernel
theorem d_Mod_figures_30 : decode b_Mod_figures 30 = .ok (.iconst 0, 1) := by decide +kernel
theorem d_Mod_figures_31 : decode b_Mod_figures 31 = .ok (.istore_n 1, 1) := by decide +kernel
theorem d_Mod_figures_32 : decode b_Mod_figures 32 = .ok (.iconst 0, 1) := by decide +kernel
theorem d_Mod_figures_33 : decode b_Mod_figures 33 = .ok (.istore_n 2, 1) := by decide +kernel
theorem d_Mod_figures_34 : decode b_Mod_figures 34 = .ok (.iload_n 2, 1) := by decide +kernel
theorem d_Mod_figures_35 : decode b_Mod_figures 35 = .ok (.iconst 2, 1) := by decide +kernel
theorem d_Mod_figures_36 : decode b_Mod_figures 36 = .ok (.if_icmp .ge 61, 3) := by decide +kernel
theorem d_Mod_figures_39 : decode b_Mod_figures 39 = .ok (.aload_n 0, 1) := by decide +kernel
theorem d_Mod_figures_40 : decode b_Mod_figures 40 = .ok (.getfield 60, 3) := by decide +kernel
theorem d_Mod_figures_43 : decode b_Mod_figures 43 = .ok (.ifCond .ne 54, 3) := by decide +kernel
theorem d_Mod_figures_46 : decode b_Mod_figures 46 = .ok (.aload_n 0, 1) := by decide +kernel
theorem d_Mod_figures_47 : decode b_Mod_figures 47 = .ok (.invokevirtual 64, 3) := by decide +kernel
theorem d_Mod_figures_50 : decode b_Mod_figures 50 = .ok (.bipush 48, 2) := by decide +kernel
theorem d_Mod_figures_52 : decode b_Mod_figures 52 = .ok (.bipush 57, 2) := by decide +kernel
theorem d_Mod_figures_54 : decode b_Mod_figures 54 = .ok (.invokestatic 50, 3) := by decide +kernel
theorem d_Mod_figures_57 : decode b_Mod_figures 57 = .ok (.ifCond .eq 40, 3) := by decide +kernel
theorem d_Mod_figures_60 : decode b_Mod_figures 60 = .ok (.iload_n 2, 1) := by decide +kernel
theorem d_Mod_figures_61 : decode b_Mod_figures 61 = .ok (.ifCond .eq 7, 3) := by decide +kernel
theorem d_Mod_figures_64 : decode b_Mod_figures 64 = .ok (.iload_n 1, 1) := by decide +kernel
theorem d_Mod_figures_65 : decode b_Mod_figures 65 = .ok (.ifCond .le 32, 3) := by decide +kernel
theorem d_Mod_figures_68 : decode b_Mod_figures 68 = .ok (.bipush 10, 2) := by decide +kernel
theorem d_Mod_figures_70 : decode b_Mod_figures 70 = .ok (.iload_n 1, 1) := by decide +kernel
theorem d_Mod_figures_71 : decode b_Mod_figures 71 = .ok (.imul, 1) := by decide +kernel
theorem d_Mod_figures_72 : decode b_Mod_figures 72 = .ok (.aload_n 0, 1) := by decide +kernel
theorem d_Mod_figures_73 : decode b_Mod_figures 73 = .ok (.invokevirtual 64, 3) := by decide +kernel
theorem d_Mod_figures_76 : decode b_Mod_figures 76 = .ok (.iadd, 1) := by decide +kernel
theorem d_Mod_figures_77 : decode b_Mod_figures 77 = .ok (.bipush 48, 2) := by decide +kernel
theorem d_Mod_figures_79 : decode b_Mod_figures 79 = .ok (.isub, 1) := by decide +kernel
theorem d_Mod_figures_80 : decode b_Mod_figures 80 = .ok (.istore_n 1, 1) := by decide +kernel
theorem d_Mod_figures_81 : decode b_Mod_figures 81 = .ok (.aload_n 0, 1) := by decide +kernel
theorem d_Mod_figures_82 : decode b_Mod_figures 82 = .ok (.dup, 1) := by decide +kernel
theorem d_Mod_figures_83 : decode b_Mod_figures 83 = .ok (.getfield 54, 3) := by decide +kernel
theorem d_Mod_figures_86 : decode b_Mod_figures 86 = .ok (.iconst 1, 1) := by decide +kernel
theorem d_Mod_figures_87 : decode b_Mod_figures 87 = .ok (.iadd, 1) := by decide +kernel
theorem d_Mod_figures_88 : decode b_Mod_figures 88 = .ok (.putfield 54, 3) := by decide +kernel
theorem d_Mod_figures_91 : decode b_Mod_figures 91 = .ok (.iinc 2 1, 3) := by decide +kernel
theorem d_Mod_figures_94 : decode b_Mod_figures 94 = .ok (.goto (-60), 3) := by decide +kernel
theorem d_Mod_figures_97 : decode b_Mod_figures 97 = .ok (.iload_n 1, 1) := by decide +kernel
theorem d_Mod_figures_98 : decode b_Mod_figures 98 = .ok (.ireturn, 1) := by decide +kernel
theorem d_Mod_among_0 : decode b_Mod_among 0 = .ok (.iconst 0, 1) := by decide +kernel
theorem d_Mod_among_1 : decode b_Mod_among 1 = .ok (.istore_n 2, 1) := by decide +kernel
theorem d_Mod_among_2 : decode b_Mod_among 2 = .ok (.iload_n 2, 1) := by decide +kernel
theorem d_Mod_among_3 : decode b_Mod_among 3 = .ok (.aload_n 1, 1) := by decide +kernel
theorem d_Mod_among_4 : decode b_Mod_among 4 = .ok (.invokevirtual 68, 3) := by decide +kernel
theorem d_Mod_among_7 : decode b_Mod_among 7 = .ok (.if_icmp .ge 33, 3) := by decide +kernel
theorem d_Mod_among_10 : decode b_Mod_among 10 = .ok (.aload_n 0, 1) := by decide +kernel
theorem d_Mod_among_11 : decode b_Mod_among 11 = .ok (.invokevirtual 64, 3) := by decide +kernel
theorem d_Mod_among_14 : decode b_Mod_among 14 = .ok (.aload_n 1, 1) := by decide +kernel
theorem d_Mod_among_15 : decode b_Mod_among 15 = .ok (.iload_n 2, 1) := by decide +kernel
theorem d_Mod_among_16 : decode b_Mod_among 16 = .ok (.invokevirtual 73, 3) := by decide +kernel
theorem d_Mod_among_19 : decode b_Mod_among 19 = .ok (.if_icmp .ne 15, 3) := by decide +kernel
theorem d_Mod_among_22 : decode b_Mod_among 22 = .ok (.aload_n 0, 1) := by decide +kernel
theorem d_Mod_among_23 : decode b_Mod_among 23 = .ok (.dup, 1) := by decide +kernel
theorem d_Mod_among_24 : decode b_Mod_among 24 = .ok (.getfield 54, 3) := by decide +kernel
theorem d_Mod_among_27 : decode b_Mod_among 27 = .ok (.iconst 1, 1) := by decide +kernel
theorem d_Mod_among_28 : decode b_Mod_among 28 = .ok (.iadd, 1) := by decide +kernel
theorem d_Mod_among_29 : decode b_Mod_among 29 = .ok (.putfield 54, 3) := by decide +kernel
theorem d_Mod_among_32 : decode b_Mod_among 32 = .ok (.iload_n 2, 1) := by decide +kernel
theorem d_Mod_among_33 : decode b_Mod_among 33 = .ok (.ireturn, 1) := by decide +kernel
theorem d_Mod_among_34 : decode b_Mod_among 34 = .ok (.iinc 2 1, 3) := by decide +kernel
theorem d_Mod_among_37 : decode b_Mod_among 37 = .ok (.goto (-35), 3) := by decide +kernel
theorem d_Mod_among_40 : decode b_Mod_among 40 = .ok (.iconst (-1), 1) := by decide +kernel
theorem d_Mod_among_41 : decode b_Mod_among 41 = .ok (.ireturn, 1) := by decide +kernel
theorem d_Mod_emits_0 : decode b_Mod_emits 0 = .ok (.aload_n 0, 1) := by decide +kernel
theorem d_Mod_emits_1 : decode b_Mod_emits 1 = .ok (.getfield 60, 3) := by decide +kernel
theorem d_Mod_emits_4 : decode b_Mod_emits 4 = .ok (.ifCond .ne 52, 3) := by decide +kernel
theorem d_Mod_emits_7 : decode b_Mod_emits 7 = .ok (.aload_n 0, 1) := by decide +kernel
theorem d_Mod_emits_8 : decode b_Mod_emits 8 = .ok (.getfield 9, 3) := by decide +kernel
theorem d_Mod_emits_11 : decode b_Mod_emits 11 = .ok (.sipush 215, 3) := by decide +kernel
theorem d_Mod_emits_14 : decode b_Mod_emits 14 = .ok (.sipush 140, 3) := by decide +kernel
theorem d_Mod_emits_17 : decode b_Mod_emits 17 = .ok (.aload_n 0, 1) := by decide +kernel
theorem d_Mod_emits_18 : decode b_Mod_emits 18 = .ok (.getfield 81, 3) := by decide +kernel
theorem d_Mod_emits_21 : decode b_Mod_emits 21 = .ok (.imul, 1) := by decide +kernel
theorem d_Mod_emits_22 : decode b_Mod_emits 22 = .ok (.iadd, 1) := by decide +kernel
theorem d_Mod_emits_23 : decode b_Mod_emits 23 = .ok (.aload_n 0, 1) := by decide +kernel
theorem d_Mod_emits_24 : decode b_Mod_emits 24 = .ok (.getfield 9, 3) := by decide +kernel
theorem d_Mod_emits_27 : decode b_Mod_emits 27 = .ok (.sipush 210, 3) := by decide +kernel
theorem d_Mod_emits_30 : decode b_Mod_emits 30 = .ok (.aload_n 0, 1) := by decide +kernel
theorem d_Mod_emits_31 : decode b_Mod_emits 31 = .ok (.getfield 81, 3) := by decide +kernel
theorem d_Mod_emits_34 : decode b_Mod_emits 34 = .ok (.iadd, 1) := by decide +kernel
theorem d_Mod_emits_35 : decode b_Mod_emits 35 = .ok (.iaload, 1) := by decide +kernel
theorem d_Mod_emits_36 : decode b_Mod_emits 36 = .ok (.iadd, 1) := by decide +kernel
theorem d_Mod_emits_37 : decode b_Mod_emits 37 = .ok (.iload_n 1, 1) := by decide +kernel
theorem d_Mod_emits_38 : decode b_Mod_emits 38 = .ok (.iastore, 1) := by decide +kernel
theorem d_Mod_emits_39 : decode b_Mod_emits 39 = .ok (.aload_n 0, 1) := by decide +kernel
theorem d_Mod_emits_40 : decode b_Mod_emits 40 = .ok (.getfield 9, 3) := by decide +kernel
theorem d_Mod_emits_43 : decode b_Mod_emits 43 = .ok (.sipush 210, 3) := by decide +kernel
theorem d_Mod_emits_46 : decode b_Mod_emits 46 = .ok (.aload_n 0, 1) := by decide +kernel
theorem d_Mod_emits_47 : decode b_Mod_emits 47 = .ok (.getfield 81, 3) := by decide +kernel
theorem d_Mod_emits_50 : decode b_Mod_emits 50 = .ok (.iadd, 1) := by decide +kernel
theorem d_Mod_emits_51 : decode b_Mod_emits 51 = .ok (.dup2, 1) := by decide +kernel
theorem d_Mod_emits_52 : decode b_Mod_emits 52 = .ok (.iaload, 1) := by decide +kernel
theorem d_Mod_emits_53 : decode b_Mod_emits 53 = .ok (.iconst 1, 1) := by decide +kernel
theorem d_Mod_emits_54 : decode b_Mod_emits 54 = .ok (.iadd, 1) := by decide +kernel
theorem d_Mod_emits_55 : decode b_Mod_emits 55 = .ok (.iastore, 1) := by decide +kernel
theorem d_Mod_emits_56 : decode b_Mod_emits 56 = .ok (.return_, 1) := by decide +kernel
theorem d_Mod_factor_0 : decode b_Mod_factor 0 = .ok (.aload_n 0, 1) := by decide +kernel
theorem d_Mod_factor_1 : decode b_Mod_factor 1 = .ok (.getfield 60, 3) := by decide +kernel
theorem d_Mod_factor_4 : decode b_Mod_factor 4 = .ok (.ifCond .eq 4, 3) := by decide +kernel
theorem d_Mod_factor_7 : decode b_Mod_factor 7 = .ok (.return_, 1) := by decide +kernel
theorem d_Mod_factor_8 : decode b_Mod_factor 8 = .ok (.aload_n 0, 1) := by decide +kernel
theorem d_Mod_factor_9 : decode b_Mod_factor 9 = .ok (.invokevirtual 64, 3) := by decide +kernel
theorem d_Mod_factor_12 : decode b_Mod_factor 12 = .ok (.istore_n 1, 1) := by decide +kernel
theorem d_Mod_factor_13 : decode b_Mod_factor 13 = .ok (.iload_n 1, 1) := by decide +kernel
theorem d_Mod_factor_14 : decode b_Mod_factor 14 = .ok (.bipush 33, 2) := by decide +kernel
theorem d_Mod_factor_16 : decode b_Mod_factor 16 = .ok (.if_icmp .eq 9, 3) := by decide +kernel
theorem d_Mod_factor_19 : decode b_Mod_factor 19 = .ok (.iload_n 1, 1) := by decide +kernel
theorem d_Mod_factor_20 : decode b_Mod_factor 20 = .ok (.bipush 40, 2) := by decide +kernel
theorem d_Mod_factor_22 : decode b_Mod_factor 22 = .ok (.if_icmp .ne 90, 3) := by decide +kernel
theorem d_Mod_factor_25 : decode b_Mod_factor 25 = .ok (.aload_n 0, 1) := by decide +kernel
theorem d_Mod_factor_26 : decode b_Mod_factor 26 = .ok (.aload_n 0, 1) := by decide +kernel
theorem d_Mod_factor_27 : decode b_Mod_factor 27 = .ok (.getfield 84, 3) := by decide +kernel
theorem d_Mod_factor_30 : decode b_Mod_factor 30 = .ok (.iconst 5, 1) := by decide +kernel
theorem d_Mod_factor_31 : decode b_Mod_factor 31 = .ok (.if_icmp .ne 7, 3) := by decide +kernel
theorem d_Mod_factor_34 : decode b_Mod_factor 34 = .ok (.iconst 1, 1) := by decide +kernel
theorem d_Mod_factor_35 : decode b_Mod_factor 35 = .ok (.goto 4, 3) := by decide +kernel
theorem d_Mod_factor_38 : decode b_Mod_factor 38 = .ok (.iconst 0, 1) := by decide +kernel
theorem d_Mod_factor_39 : decode b_Mod_factor 39 = .ok (.putfield 60, 3) := by decide +kernel
theorem d_Mod_factor_42 : decode b_Mod_factor 42 = .ok (.aload_n 0, 1) := by decide +kernel
theorem d_Mod_factor_43 : decode b_Mod_factor 43 = .ok (.dup, 1) := by decide +kernel
theorem d_Mod_factor_44 : decode b_Mod_factor 44 = .ok (.getfield 84, 3) := by decide +kernel
theorem d_Mod_factor_47 : decode b_Mod_factor 47 = .ok (.iconst 1, 1) := by decide +kernel
theorem d_Mod_factor_48 : decode b_Mod_factor 48 = .ok (.iadd, 1) := by decide +kernel
theorem d_Mod_factor_49 : decode b_Mod_factor 49 = .ok (.putfield 84, 3) := by decide +kernel
theorem d_Mod_factor_52 : decode b_Mod_factor 52 = .ok (.aload_n 0, 1) := by decide +kernel
theorem d_Mod_factor_53 : decode b_Mod_factor 53 = .ok (.dup, 1) := by decide +kernel
theorem d_Mod_factor_54 : decode b_Mod_factor 54 = .ok (.getfield 54, 3) := by decide +kernel
theorem d_Mod_factor_57 : decode b_Mod_factor 57 = .ok (.aload_n 0, 1) := by decide +kernel
theorem d_Mod_factor_58 : decode b_Mod_factor 58 = .ok (.getfield 60, 3) := by decide +kernel
theorem d_Mod_factor_61 : decode b_Mod_factor 61 = .ok (.ifCond .eq 7, 3) := by decide +kernel
theorem d_Mod_factor_64 : decode b_Mod_factor 64 = .ok (.iconst 0, 1) := by decide +kernel
theorem d_Mod_factor_65 : decode b_Mod_factor 65 = .ok (.goto 4, 3) := by decide +kernel
theorem d_Mod_factor_68 : decode b_Mod_factor 68 = .ok (.iconst 1, 1) := by decide +kernel
theorem d_Mod_factor_69 : decode b_Mod_factor 69 = .ok (.iadd, 1) := by decide +kernel
theorem d_Mod_factor_70 : decode b_Mod_factor 70 = .ok (.putfield 54, 3) := by decide +kernel
theorem d_Mod_factor_73 : decode b_Mod_factor 73 = .ok (.iload_n 1, 1) := by decide +kernel
theorem d_Mod_factor_74 : decode b_Mod_factor 74 = .ok (.bipush 33, 2) := by decide +kernel
theorem d_Mod_factor_76 : decode b_Mod_factor 76 = .ok (.if_icmp .ne 15, 3) := by decide +kernel
theorem d_Mod_factor_79 : decode b_Mod_factor 79 = .ok (.aload_n 0, 1) := by decide +kernel
theorem d_Mod_factor_80 : decode b_Mod_factor 80 = .ok (.invokevirtual 87, 3) := by decide +kernel
theorem d_Mod_factor_83 : decode b_Mod_factor 83 = .ok (.aload_n 0, 1) := by decide +kernel
theorem d_Mod_factor_84 : decode b_Mod_factor 84 = .ok (.iconst (-1), 1) := by decide +kernel
theorem d_Mod_factor_85 : decode b_Mod_factor 85 = .ok (.invokevirtual 90, 3) := by decide +kernel
theorem d_Mod_factor_88 : decode b_Mod_factor 88 = .ok (.goto 13, 3) := by decide +kernel
theorem d_Mod_factor_91 : decode b_Mod_factor 91 = .ok (.aload_n 0, 1) := by decide +kernel
theorem d_Mod_factor_92 : decode b_Mod_factor 92 = .ok (.invokevirtual 93, 3) := by decide +kernel
theorem d_Mod_factor_95 : decode b_Mod_factor 95 = .ok (.aload_n 0, 1) := by decide +kernel
theorem d_Mod_factor_96 : decode b_Mod_factor 96 = .ok (.bipush 41, 2) := by decide +kernel
theorem d_Mod_factor_98 : decode b_Mod_factor 98 = .ok (.invokevirtual 77, 3) := by decide +kernel
theorem d_Mod_factor_101 : decode b_Mod_factor 101 = .ok (.aload_n 0, 1) := by decide +kernel
theorem d_Mod_factor_102 : decode b_Mod_factor 102 = .ok (.dup, 1) := by decide +kernel
theorem d_Mod_factor_103 : decode b_Mod_factor 103 = .ok (.getfield 84, 3) := by decide +kernel
theorem d_Mod_factor_106 : decode b_Mod_factor 106 = .ok (.iconst 1, 1) := by decide +kernel
theorem d_Mod_factor_107 : decode b_Mod_factor 107 = .ok (.isub, 1) := by decide +kernel
theorem d_Mod_factor_108 : decode b_Mod_factor 108 = .ok (.putfield 84, 3) := by decide +kernel
theorem d_Mod_factor_111 : decode b_Mod_factor 111 = .ok (.return_, 1) := by decide +kernel
theorem d_Mod_factor_112 : decode b_Mod_factor 112 = .ok (.aload_n 0, 1) := by decide +kernel
theorem d_Mod_factor_113 : decode b_Mod_factor 113 = .ok (.ldc 96, 2) := by decide +kernel
theorem d_Mod_factor_115 : decode b_Mod_factor 115 = .ok (.invokevirtual 98, 3) := by decide +kernel
theorem d_Mod_factor_118 : decode b_Mod_factor 118 = .ok (.istore_n 2, 1) := by decide +kernel
theorem d_Mod_factor_119 : decode b_Mod_factor 119 = .ok (.aload_n 0, 1) := by decide +kernel
theorem d_Mod_factor_120 : decode b_Mod_factor 120 = .ok (.iload_n 2, 1) := by decide +kernel
theorem d_Mod_factor_121 : decode b_Mod_factor 121 = .ok (.iconst (-1), 1) := by decide +kernel
theorem d_Mod_factor_122 : decode b_Mod_factor 122 = .ok (.if_icmp .ne 7, 3) := by decide +kernel
theorem d_Mod_factor_125 : decode b_Mod_factor 125 = .ok (.iconst 1, 1) := by decide +kernel
theorem d_Mod_factor_126 : decode b_Mod_factor 126 = .ok (.goto 4, 3) := by decide +kernel
theorem d_Mod_factor_129 : decode b_Mod_factor 129 = .ok (.iconst 0, 1) := by decide +kernel
theorem d_Mod_factor_130 : decode b_Mod_factor 130 = .ok (.putfield 60, 3) := by decide +kernel
theorem d_Mod_factor_133 : decode b_Mod_factor 133 = .ok (.aload_n 0, 1) := by decide +kernel
theorem d_Mod_factor_134 : decode b_Mod_factor 134 = .ok (.getfield 60, 3) := by decide +kernel
theorem d_Mod_factor_137 : decode b_Mod_factor 137 = .ok (.ifCond .eq 7, 3) := by decide +kernel
theorem d_Mod_factor_140 : decode b_Mod_factor 140 = .ok (.iconst 0, 1) := by decide +kernel
theorem d_Mod_factor_141 : decode b_Mod_factor 141 = .ok (.goto 9, 3) := by decide +kernel
theorem d_Mod_factor_144 : decode b_Mod_factor 144 = .ok (.aload_n 0, 1) := by decide +kernel
theorem d_Mod_factor_145 : decode b_Mod_factor 145 = .ok (.ldc 102, 2) := by decide +kernel
theorem d_Mod_factor_147 : decode b_Mod_factor 147 = .ok (.invokevirtual 98, 3) := by decide +kernel
theorem d_Mod_factor_150 : decode b_Mod_factor 150 = .ok (.istore_n 3, 1) := by decide +kernel
theorem d_Mod_factor_151 : decode b_Mod_factor 151 = .ok (.aload_n 0, 1) := by decide +kernel
theorem d_Mod_factor_152 : decode b_Mod_factor 152 = .ok (.aload_n 0, 1) := by decide +kernel
theorem d_Mod_factor_153 : decode b_Mod_factor 153 = .ok (.getfield 60, 3) := by decide +kernel
theorem d_Mod_factor_156 : decode b_Mod_factor 156 = .ok (.ifCond .ne 8, 3) := by decide +kernel
theorem d_Mod_factor_159 : decode b_Mod_factor 159 = .ok (.iload_n 3, 1) := by decide +kernel
theorem d_Mod_factor_160 : decode b_Mod_factor 160 = .ok (.iconst (-1), 1) := by decide +kernel
theorem d_Mod_factor_161 : decode b_Mod_factor 161 = .ok (.if_icmp .ne 7, 3) := by decide +kernel
theorem d_Mod_factor_164 : decode b_Mod_factor 164 = .ok (.iconst 1, 1) := by decide +kernel
theorem d_Mod_factor_165 : decode b_Mod_factor 165 = .ok (.goto 4, 3) := by decide +kernel
theorem d_Mod_factor_168 : decode b_Mod_factor 168 = .ok (.iconst 0, 1) := by decide +kernel
theorem d_Mod_factor_169 : decode b_Mod_factor 169 = .ok (.putfield 60, 3) := by decide +kernel
theorem d_Mod_factor_172 : decode b_Mod_factor 172 = .ok (.aload_n 0, 1) := by decide +kernel
theorem d_Mod_factor_173 : decode b_Mod_factor 173 = .ok (.invokevirtual 104, 3) := by decide +kernel
theorem d_Mod_factor_176 : decode b_Mod_factor 176 = .ok (.istore 4, 2) := by decide +kernel
theorem d_Mod_factor_178 : decode b_Mod_factor 178 = .ok (.aload_n 0, 1) := by decide +kernel
theorem d_Mod_factor_179 : decode b_Mod_factor 179 = .ok (.iload_n 2, 1) := by decide +kernel
theorem d_Mod_factor_180 : decode b_Mod_factor 180 = .ok (.bipush 8, 2) := by decide +kernel
theorem d_Mod_factor_182 : decode b_Mod_factor 182 = .ok (.iload_n 3, 1) := by decide +kernel
theorem d_Mod_factor_183 : decode b_Mod_factor 183 = .ok (.imul, 1) := by decide +kernel
theorem d_Mod_factor_184 : decode b_Mod_factor 184 = .ok (.iadd, 1) := by decide +kernel
theorem d_Mod_factor_185 : decode b_Mod_factor 185 = .ok (.bipush 32, 2) := by decide +kernel
theorem d_Mod_factor_187 : decode b_Mod_factor 187 = .ok (.iload 4, 2) := by decide +kernel
theorem d_Mod_factor_189 : decode b_Mod_factor 189 = .ok (.imul, 1) := by decide +kernel
theorem d_Mod_factor_190 : decode b_Mod_factor 190 = .ok (.iadd, 1) := by decide +kernel
theorem d_Mod_factor_191 : decode b_Mod_factor 191 = .ok (.invokevirtual 90, 3) := by decide +kernel
theorem d_Mod_factor_194 : decode b_Mod_factor 194 = .ok (.return_, 1) := by decide +kernel
theorem d_Mod_every_0 : decode b_Mod_every 0 = .ok (.aload_n 0, 1) := by decide +kernel
theorem d_Mod_every_1 : decode b_Mod_every 1 = .ok (.invokevirtual 87, 3) := by decide +kernel
theorem d_Mod_every_4 : decode b_Mod_every 4 = .ok (.aload_n 0, 1) := by decide +kernel
theorem d_Mod_every_5 : decode b_Mod_every 5 = .ok (.getfield 60, 3) := by decide +kernel
theorem d_Mod_every_8 : decode b_Mod_every 8 = .ok (.ifCond .ne 35, 3) := by decide +kernel
theorem d_Mod_every_11 : decode b_Mod_every 11 = .ok (.aload_n 0, 1) := by decide +kernel
theorem d_Mod_every_12 : decode b_Mod_every 12 = .ok (.invokevirtual 64, 3) := by decide +kernel
theorem d_Mod_every_15 : decode b_Mod_every 15 = .ok (.bipush 38, 2) := by decide +kernel
theorem d_Mod_every_17 : decode b_Mod_every 17 = .ok (.if_icmp .ne 26, 3) := by decide +kernel
theorem d_Mod_every_20 : decode b_Mod_every 20 = .ok (.aload_n 0, 1) := by decide +kernel
theorem d_Mod_every_21 : decode b_Mod_every 21 = .ok (.dup, 1) := by decide +kernel
theorem d_Mod_every_22 : decode b_Mod_every 22 = .ok (.getfield 54, 3) := by decide +kernel
theorem d_Mod_every_25 : decode b_Mod_every 25 = .ok (.iconst 1, 1) := by decide +kernel
theorem d_Mod_every_26 : decode b_Mod_every 26 = .ok (.iadd, 1) := by decide +kernel
theorem d_Mod_every_27 : decode b_Mod_every 27 = .ok (.putfield 54, 3) := by decide +kernel
theorem d_Mod_every_30 : decode b_Mod_every 30 = .ok (.aload_n 0, 1) := by decide +kernel
theorem d_Mod_every_31 : decode b_Mod_every 31 = .ok (.invokevirtual 87, 3) := by decide +kernel
theorem d_Mod_every_34 : decode b_Mod_every 34 = .ok (.aload_n 0, 1) := by decide +kernel
theorem d_Mod_every_35 : decode b_Mod_every 35 = .ok (.bipush (-2), 2) := by decide +kernel
theorem d_Mod_every_37 : decode b_Mod_every 37 = .ok (.invokevirtual 90, 3) := by decide +kernel
theorem d_Mod_every_40 : decode b_Mod_every 40 = .ok (.goto (-36), 3) := by decide +kernel
theorem d_Mod_every_43 : decode b_Mod_every 43 = .ok (.return_, 1) := by decide +kernel
theorem d_Mod_some_0 : decode b_Mod_some 0 = .ok (.aload_n 0, 1) := by decide +kernel
theorem d_Mod_some_1 : decode b_Mod_some 1 = .ok (.invokevirtual 107, 3) := by decide +kernel
theorem d_Mod_some_4 : decode b_Mod_some 4 = .ok (.aload_n 0, 1) := by decide +kernel
theorem d_Mod_some_5 : decode b_Mod_some 5 = .ok (.getfield 60, 3) := by decide +kernel
theorem d_Mod_some_8 : decode b_Mod_some 8 = .ok (.ifCond .ne 35, 3) := by decide +kernel
theorem d_Mod_some_11 : decode b_Mod_some 11 = .ok (.aload_n 0, 1) := by decide +kernel
theorem d_Mod_some_12 : decode b_Mod_some 12 = .ok (.invokevirtual 64, 3) := by decide +kernel
theorem d_Mod_some_15 : decode b_Mod_some 15 = .ok (.bipush 124, 2) := by decide +kernel
theorem d_Mod_some_17 : decode b_Mod_some 17 = .ok (.if_icmp .ne 26, 3) := by decide +kernel
theorem d_Mod_some_20 : decode b_Mod_some 20 = .ok (.aload_n 0, 1) := by decide +kernel
theorem d_Mod_some_21 : decode b_Mod_some 21 = .ok (.dup, 1) := by decide +kernel
theorem d_Mod_some_22 : decode b_Mod_some 22 = .ok (.getfield 54, 3) := by decide +kernel
theorem d_Mod_some_25 : decode b_Mod_some 25 = .ok (.iconst 1, 1) := by decide +kernel
theorem d_Mod_some_26 : decode b_Mod_some 26 = .ok (.iadd, 1) := by decide +kernel
theorem d_Mod_some_27 : decode b_Mod_some 27 = .ok (.putfield 54, 3) := by decide +kernel
theorem d_Mod_some_30 : decode b_Mod_some 30 = .ok (.aload_n 0, 1) := by decide +kernel
theorem d_Mod_some_31 : decode b_Mod_some 31 = .ok (.invokevirtual 107, 3) := by decide +kernel
theorem d_Mod_some_34 : decode b_Mod_some 34 = .ok (.aload_n 0, 1) := by decide +kernel
theorem d_Mod_some_35 : decode b_Mod_some 35 = .ok (.bipush (-3), 2) := by decide +kernel
theorem d_Mod_some_37 : decode b_Mod_some 37 = .ok (.invokevirtual 90, 3) := by decide +kernel
theorem d_Mod_some_40 : decode b_Mod_some 40 = .ok (.goto (-36), 3) := by decide +kernel
theorem d_Mod_some_43 : decode b_Mod_some 43 = .ok (.return_, 1) := by decide +kernel
theorem d_Mod_much_0 : decode b_Mod_much 0 = .ok (.aload_n 0, 1) := by decide +kernel
theorem d_Mod_much_1 : decode b_Mod_much 1 = .ok (.aload_n 2, 1) := by decide +kernel
theorem d_Mod_much_2 : decode b_Mod_much 2 = .ok (.invokevirtual 110, 3) := by decide +kernel
theorem d_Mod_much_5 : decode b_Mod_much 5 = .ok (.aload_n 0, 1) := by decide +kernel
theorem d_Mod_much_6 : decode b_Mod_much 6 = .ok (.invokevirtual 104, 3) := by decide +kernel
theorem d_Mod_much_9 : decode b_Mod_much 9 = .ok (.istore_n 3, 1) := by decide +kernel
theorem d_Mod_much_10 : decode b_Mod_much 10 = .ok (.aload_n 0, 1) := by decide +kernel
theorem d_Mod_much_11 : decode b_Mod_much 11 = .ok (.bipush 32, 2) := by decide +kernel
theorem d_Mod_much_13 : decode b_Mod_much 13 = .ok (.invokevirtual 77, 3) := by decide +kernel
theorem d_Mod_much_16 : decode b_Mod_much 16 = .ok (.aload_n 0, 1) := by decide +kernel
theorem d_Mod_much_17 : decode b_Mod_much 17 = .ok (.invokevirtual 93, 3) := by decide +kernel
theorem d_Mod_much_20 : decode b_Mod_much 20 = .ok (.aload_n 0, 1) := by decide +kernel
theorem d_Mod_much_21 : decode b_Mod_much 21 = .ok (.iload_n 1, 1) := by decide +kernel
theorem d_Mod_much_22 : decode b_Mod_much 22 = .ok (.iload_n 3, 1) := by decide +kernel
theorem d_Mod_much_23 : decode b_Mod_much 23 = .ok (.isub, 1) := by decide +kernel
theorem d_Mod_much_24 : decode b_Mod_much 24 = .ok (.invokevirtual 90, 3) := by decide +kernel
theorem d_Mod_much_27 : decode b_Mod_much 27 = .ok (.return_, 1) := by decide +kernel
theorem d_Mod_tellsHere_0 : decode b_Mod_tellsHere 0 = .ok (.aload_n 0, 1) := by decide +kernel
theorem d_Mod_tellsHere_1 : decode b_Mod_tellsHere 1 = .ok (.aload_n 2, 1) := by decide +kernel
theorem d_Mod_tellsHere_2 : decode b_Mod_tellsHere 2 = .ok (.invokevirtual 110, 3) := by decide +kernel
theorem d_Mod_tellsHere_5 : decode b_Mod_tellsHere 5 = .ok (.aload_n 0, 1) := by decide +kernel
theorem d_Mod_tellsHere_6 : decode b_Mod_tellsHere 6 = .ok (.invokevirtual 104, 3) := by decide +kernel
theorem d_Mod_tellsHere_9 : decode b_Mod_tellsHere 9 = .ok (.istore_n 3, 1) := by decide +kernel
theorem d_Mod_tellsHere_10 : decode b_Mod_tellsHere 10 = .ok (.aload_n 0, 1) := by decide +kernel
theorem d_Mod_tellsHere_11 : decode b_Mod_tellsHere 11 = .ok (.getfield 60, 3) := by decide +kernel
theorem d_Mod_tellsHere_14 : decode b_Mod_tellsHere 14 = .ok (.ifCond .ne 15, 3) := by decide +kernel
theorem d_Mod_tellsHere_17 : decode b_Mod_tellsHere 17 = .ok (.aload_n 0, 1) := by decide +kernel
theorem d_Mod_tellsHere_18 : decode b_Mod_tellsHere 18 = .ok (.getfield 9, 3) := by decide +kernel
theorem d_Mod_tellsHere_21 : decode b_Mod_tellsHere 21 = .ok (.iload_n 1, 1) := by decide +kernel
theorem d_Mod_tellsHere_22 : decode b_Mod_tellsHere 22 = .ok (.aload_n 0, 1) := by decide +kernel
theorem d_Mod_tellsHere_23 : decode b_Mod_tellsHere 23 = .ok (.getfield 81, 3) := by decide +kernel
theorem d_Mod_tellsHere_26 : decode b_Mod_tellsHere 26 = .ok (.iadd, 1) := by decide +kernel
theorem d_Mod_tellsHere_27 : decode b_Mod_tellsHere 27 = .ok (.iload_n 3, 1) := by decide +kernel
theorem d_Mod_tellsHere_28 : decode b_Mod_tellsHere 28 = .ok (.iastore, 1) := by decide +kernel
theorem d_Mod_tellsHere_29 : decode b_Mod_tellsHere 29 = .ok (.return_, 1) := by decide +kernel
theorem d_Mod_clauseHere_0 : decode b_Mod_clauseHere 0 = .ok (.aload_n 0, 1) := by decide +kernel
theorem d_Mod_clauseHere_1 : decode b_Mod_clauseHere 1 = .ok (.invokevirtual 64, 3) := by decide +kernel
theorem d_Mod_clauseHere_4 : decode b_Mod_clauseHere 4 = .ok (.lookupswitch 91 #[(101, 56), (108, 44), (114, 79), (115, 68)], 44) := by decide +kernel
theorem d_Mod_clauseHere_48 : decode b_Mod_clauseHere 48 = .ok (.aload_n 0, 1) := by decide +kernel
theorem d_Mod_clauseHere_49 : decode b_Mod_clauseHere 49 = .ok (.sipush 200, 3) := by decide +kernel
theorem d_Mod_clauseHere_52 : decode b_Mod_clauseHere 52 = .ok (.ldc 114, 2) := by decide +kernel
theorem d_Mod_clauseHere_54 : decode b_Mod_clauseHere 54 = .ok (.invokevirtual 116, 3) := by decide +kernel
theorem d_Mod_clauseHere_57 : decode b_Mod_clauseHere 57 = .ok (.goto 43, 3) := by decide +kernel
theorem d_Mod_clauseHere_60 : decode b_Mod_clauseHere 60 = .ok (.aload_n 0, 1) := by decide +kernel
theorem d_Mod_clauseHere_61 : decode b_Mod_clauseHere 61 = .ok (.sipush 205, 3) := by decide +kernel
theorem d_Mod_clauseHere_64 : decode b_Mod_clauseHere 64 = .ok (.ldc 120, 2) := by decide +kernel
theorem d_Mod_clauseHere_66 : decode b_Mod_clauseHere 66 = .ok (.invokevirtual 116, 3) := by decide +kernel
theorem d_Mod_clauseHere_69 : decode b_Mod_clauseHere 69 = .ok (.goto 31, 3) := by decide +kernel
theorem d_Mod_clauseHere_72 : decode b_Mod_clauseHere 72 = .ok (.aload_n 0, 1) := by decide +kernel
theorem d_Mod_clauseHere_73 : decode b_Mod_clauseHere 73 = .ok (.bipush (-10), 2) := by decide +kernel
theorem d_Mod_clauseHere_75 : decode b_Mod_clauseHere 75 = .ok (.ldc 122, 2) := by decide +kernel
theorem d_Mod_clauseHere_77 : decode b_Mod_clauseHere 77 = .ok (.invokevirtual 124, 3) := by decide +kernel
theorem d_Mod_clauseHere_80 : decode b_Mod_clauseHere 80 = .ok (.goto 20, 3) := by decide +kernel
theorem d_Mod_clauseHere_83 : decode b_Mod_clauseHere 83 = .ok (.aload_n 0, 1) := by decide +kernel
theorem d_Mod_clauseHere_84 : decode b_Mod_clauseHere 84 = .ok (.sipush (-200), 3) := by decide +kernel
theorem d_Mod_clauseHere_87 : decode b_Mod_clauseHere 87 = .ok (.ldc 127, 2) := by decide +kernel
theorem d_Mod_clauseHere_89 : decode b_Mod_clauseHere 89 = .ok (.invokevirtual 124, 3) := by decide +kernel
theorem d_Mod_clauseHere_92 : decode b_Mod_clauseHere 92 = .ok (.goto 8, 3) := by decide +kernel
theorem d_Mod_clauseHere_95 : decode b_Mod_clauseHere 95 = .ok (.aload_n 0, 1) := by decide +kernel
theorem d_Mod_clauseHere_96 : decode b_Mod_clauseHere 96 = .ok (.iconst 1, 1) := by decide +kernel
theorem d_Mod_clauseHere_97 : decode b_Mod_clauseHere 97 = .ok (.putfield 60, 3) := by decide +kernel
theorem d_Mod_clauseHere_100 : decode b_Mod_clauseHere 100 = .ok (.return_, 1) := by decide +kernel
theorem d_Mod_house_0 : decode b_Mod_house 0 = .ok (.aload_n 0, 1) := by decide +kernel
theorem d_Mod_house_1 : decode b_Mod_house 1 = .ok (.getfield 9, 3) := by decide +kernel
theorem d_Mod_house_4 : decode b_Mod_house 4 = .ok (.bipush 12, 2) := by decide +kernel
theorem d_Mod_house_6 : decode b_Mod_house 6 = .ok (.iaload, 1) := by decide +kernel
theorem d_Mod_house_7 : decode b_Mod_house 7 = .ok (.iconst 5, 1) := by decide +kernel
theorem d_Mod_house_8 : decode b_Mod_house 8 = .ok (.if_icmp .ne 6, 3) := by decide +kernel
theorem d_Mod_house_11 : decode b_Mod_house 11 = .ok (.bipush (-4), 2) := by decide +kernel
theorem d_Mod_house_13 : decode b_Mod_house 13 = .ok (.ireturn, 1) := by decide +kernel
theorem d_Mod_house_14 : decode b_Mod_house 14 = .ok (.aload_n 0, 1) := by decide +kernel
theorem d_Mod_house_15 : decode b_Mod_house 15 = .ok (.aload_n 0, 1) := by decide +kernel
theorem d_Mod_house_16 : decode b_Mod_house 16 = .ok (.getfield 9, 3) := by decide +kernel
theorem d_Mod_house_19 : decode b_Mod_house 19 = .ok (.bipush 12, 2) := by decide +kernel
theorem d_Mod_house_21 : decode b_Mod_house 21 = .ok (.iaload, 1) := by decide +kernel
theorem d_Mod_house_22 : decode b_Mod_house 22 = .ok (.putfield 81, 3) := by decide +kernel
theorem d_Mod_house_25 : decode b_Mod_house 25 = .ok (.aload_n 0, 1) := by decide +kernel
theorem d_Mod_house_26 : decode b_Mod_house 26 = .ok (.aload_n 0, 1) := by decide +kernel
theorem d_Mod_house_27 : decode b_Mod_house 27 = .ok (.getfield 9, 3) := by decide +kernel
theorem d_Mod_house_30 : decode b_Mod_house 30 = .ok (.bipush 16, 2) := by decide +kernel
theorem d_Mod_house_32 : decode b_Mod_house 32 = .ok (.iaload, 1) := by decide +kernel
theorem d_Mod_house_33 : decode b_Mod_house 33 = .ok (.putfield 57, 3) := by decide +kernel
theorem d_Mod_house_36 : decode b_Mod_house 36 = .ok (.aload_n 0, 1) := by decide +kernel
theorem d_Mod_house_37 : decode b_Mod_house 37 = .ok (.getfield 9, 3) := by decide +kernel
theorem d_Mod_house_40 : decode b_Mod_house 40 = .ok (.bipush 16, 2) := by decide +kernel
theorem d_Mod_house_42 : decode b_Mod_house 42 = .ok (.iconst 0, 1) := by decide +kernel
theorem d_Mod_house_43 : decode b_Mod_house 43 = .ok (.iastore, 1) := by decide +kernel
theorem d_Mod_house_44 : decode b_Mod_house 44 = .ok (.aload_n 0, 1) := by decide +kernel
theorem d_Mod_house_45 : decode b_Mod_house 45 = .ok (.getfield 9, 3) := by decide +kernel
theorem d_Mod_house_48 : decode b_Mod_house 48 = .ok (.sipush 200, 3) := by decide +kernel
theorem d_Mod_house_51 : decode b_Mod_house 51 = .ok (.aload_n 0, 1) := by decide +kernel
theorem d_Mod_house_52 : decode b_Mod_house 52 = .ok (.getfield 81, 3) := by decide +kernel
theorem d_Mod_house_55 : decode b_Mod_house 55 = .ok (.iadd, 1) := by decide +kernel
theorem d_Mod_house_56 : decode b_Mod_house 56 = .ok (.iconst 3, 1) := by decide +kernel
theorem d_Mod_house_57 : decode b_Mod_house 57 = .ok (.iastore, 1) := by decide +kernel
theorem d_Mod_house_58 : decode b_Mod_house 58 = .ok (.aload_n 0, 1) := by decide +kernel
theorem d_Mod_house_59 : decode b_Mod_house 59 = .ok (.getfield 9, 3) := by decide +kernel
theorem d_Mod_house_62 : decode b_Mod_house 62 = .ok (.sipush 205, 3) := by decide +kernel
theorem d_Mod_house_65 : decode b_Mod_house 65 = .ok (.aload_n 0, 1) := by decide +kernel
theorem d_Mod_house_66 : decode b_Mod_house 66 = .ok (.getfield 81, 3) := by decide +kernel
theorem d_Mod_house_69 : decode b_Mod_house 69 = .ok (.iadd, 1) := by decide +kernel
theorem d_Mod_house_70 : decode b_Mod_house 70 = .ok (.iconst 1, 1) := by decide +kernel
theorem d_Mod_house_71 : decode b_Mod_house 71 = .ok (.iastore, 1) := by decide +kernel
theorem d_Mod_house_72 : decode b_Mod_house 72 = .ok (.aload_n 0, 1) := by decide +kernel
theorem d_Mod_house_73 : decode b_Mod_house 73 = .ok (.getfield 9, 3) := by decide +kernel
theorem d_Mod_house_76 : decode b_Mod_house 76 = .ok (.sipush 210, 3) := by decide +kernel
theorem d_Mod_house_79 : decode b_Mod_house 79 = .ok (.aload_n 0, 1) := by decide +kernel
theorem d_Mod_house_80 : decode b_Mod_house 80 = .ok (.getfield 81, 3) := by decide +kernel
theorem d_Mod_house_83 : decode b_Mod_house 83 = .ok (.iadd, 1) := by decide +kernel
theorem d_Mod_house_84 : decode b_Mod_house 84 = .ok (.iconst 0, 1) := by decide +kernel
theorem d_Mod_house_85 : decode b_Mod_house 85 = .ok (.iastore, 1) := by decide +kernel
theorem d_Mod_house_86 : decode b_Mod_house 86 = .ok (.aload_n 0, 1) := by decide +kernel
theorem d_Mod_house_87 : decode b_Mod_house 87 = .ok (.iconst 0, 1) := by decide +kernel
theorem d_Mod_house_88 : decode b_Mod_house 88 = .ok (.putfield 54, 3) := by decide +kernel
theorem d_Mod_house_91 : decode b_Mod_house 91 = .ok (.aload_n 0, 1) := by decide +kernel
theorem d_Mod_house_92 : decode b_Mod_house 92 = .ok (.iconst 0, 1) := by decide +kernel
theorem d_Mod_house_93 : decode b_Mod_house 93 = .ok (.putfield 60, 3) := by decide +kernel
theorem d_Mod_house_96 : decode b_Mod_house 96 = .ok (.aload_n 0, 1) := by decide +kernel
theorem d_Mod_house_97 : decode b_Mod_house 97 = .ok (.iconst 0, 1) := by decide +kernel
theorem d_Mod_house_98 : decode b_Mod_house 98 = .ok (.putfield 84, 3) := by decide +kernel
theorem d_Mod_house_101 : decode b_Mod_house 101 = .ok (.iconst 1, 1) := by decide +kernel
theorem d_Mod_house_102 : decode b_Mod_house 102 = .ok (.istore_n 1, 1) := by decide +kernel
theorem d_Mod_house_103 : decode b_Mod_house 103 = .ok (.aload_n 0, 1) := by decide +kernel
theorem d_Mod_house_104 : decode b_Mod_house 104 = .ok (.invokevirtual 129, 3) := by decide +kernel
theorem d_Mod_house_107 : decode b_Mod_house 107 = .ok (.aload_n 0, 1) := by decide +kernel
theorem d_Mod_house_108 : decode b_Mod_house 108 = .ok (.getfield 60, 3) := by decide +kernel
theorem d_Mod_house_111 : decode b_Mod_house 111 = .ok (.ifCond .ne 38, 3) := by decide +kernel
theorem d_Mod_house_114 : decode b_Mod_house 114 = .ok (.iload_n 1, 1) := by decide +kernel
theorem d_Mod_house_115 : decode b_Mod_house 115 = .ok (.bipush 10, 2) := by decide +kernel
theorem d_Mod_house_117 : decode b_Mod_house 117 = .ok (.if_icmp .ge 32, 3) := by decide +kernel
theorem d_Mod_house_120 : decode b_Mod_house 120 = .ok (.aload_n 0, 1) := by decide +kernel
theorem d_Mod_house_121 : decode b_Mod_house 121 = .ok (.invokevirtual 64, 3) := by decide +kernel
theorem d_Mod_house_124 : decode b_Mod_house 124 = .ok (.bipush 59, 2) := by decide +kernel
theorem d_Mod_house_126 : decode b_Mod_house 126 = .ok (.if_icmp .ne 23, 3) := by decide +kernel
theorem d_Mod_house_129 : decode b_Mod_house 129 = .ok (.aload_n 0, 1) := by decide +kernel
theorem d_Mod_house_130 : decode b_Mod_house 130 = .ok (.dup, 1) := by decide +kernel
theorem d_Mod_house_131 : decode b_Mod_house 131 = .ok (.getfield 54, 3) := by decide +kernel
theorem d_Mod_house_134 : decode b_Mod_house 134 = .ok (.iconst 1, 1) := by decide +kernel
theorem d_Mod_house_135 : decode b_Mod_house 135 = .ok (.iadd, 1) := by decide +kernel
theorem d_Mod_house_136 : decode b_Mod_house 136 = .ok (.putfield 54, 3) := by decide +kernel
theorem d_Mod_house_139 : decode b_Mod_house 139 = .ok (.aload_n 0, 1) := by decide +kernel
theorem d_Mod_house_140 : decode b_Mod_house 140 = .ok (.invokevirtual 129, 3) := by decide +kernel
theorem d_Mod_house_143 : decode b_Mod_house 143 = .ok (.iinc 1 1, 3) := by decide +kernel
theorem d_Mod_house_146 : decode b_Mod_house 146 = .ok (.goto (-39), 3) := by decide +kernel
theorem d_Mod_house_149 : decode b_Mod_house 149 = .ok (.aload_n 0, 1) := by decide +kernel
theorem d_Mod_house_150 : decode b_Mod_house 150 = .ok (.getfield 60, 3) := by decide +kernel
theorem d_Mod_house_153 : decode b_Mod_house 153 = .ok (.ifCond .ne 14, 3) := by decide +kernel
theorem d_Mod_house_156 : decode b_Mod_house 156 = .ok (.aload_n 0, 1) := by decide +kernel
theorem d_Mod_house_157 : decode b_Mod_house 157 = .ok (.getfield 54, 3) := by decide +kernel
theorem d_Mod_house_160 : decode b_Mod_house 160 = .ok (.aload_n 0, 1) := by decide +kernel
theorem d_Mod_house_161 : decode b_Mod_house 161 = .ok (.getfield 57, 3) := by decide +kernel
theorem d_Mod_house_164 : decode b_Mod_house 164 = .ok (.if_icmp .eq 11, 3) := by decide +kernel
theorem d_Mod_house_167 : decode b_Mod_house 167 = .ok (.bipush (-10), 2) := by decide +kernel
theorem d_Mod_house_169 : decode b_Mod_house 169 = .ok (.aload_n 0, 1) := by decide +kernel
theorem d_Mod_house_170 : decode b_Mod_house 170 = .ok (.getfield 54, 3) := by decide +kernel
theorem d_Mod_house_173 : decode b_Mod_house 173 = .ok (.isub, 1) := by decide +kernel
theorem d_Mod_house_174 : decode b_Mod_house 174 = .ok (.ireturn, 1) := by decide +kernel
theorem d_Mod_house_175 : decode b_Mod_house 175 = .ok (.aload_n 0, 1) := by decide +kernel
theorem d_Mod_house_176 : decode b_Mod_house 176 = .ok (.getfield 9, 3) := by decide +kernel
theorem d_Mod_house_179 : decode b_Mod_house 179 = .ok (.bipush 12, 2) := by decide +kernel
theorem d_Mod_house_181 : decode b_Mod_house 181 = .ok (.dup2, 1) := by decide +kernel
theorem d_Mod_house_182 : decode b_Mod_house 182 = .ok (.iaload, 1) := by decide +kernel
theorem d_Mod_house_183 : decode b_Mod_house 183 = .ok (.iconst 1, 1) := by decide +kernel
theorem d_Mod_house_184 : decode b_Mod_house 184 = .ok (.iadd, 1) := by decide +kernel
theorem d_Mod_house_185 : decode b_Mod_house 185 = .ok (.iastore, 1) := by decide +kernel
theorem d_Mod_house_186 : decode b_Mod_house 186 = .ok (.aload_n 0, 1) := by decide +kernel
theorem d_Mod_house_187 : decode b_Mod_house 187 = .ok (.getfield 9, 3) := by decide +kernel
theorem d_Mod_house_190 : decode b_Mod_house 190 = .ok (.bipush 17, 2) := by decide +kernel
theorem d_Mod_house_192 : decode b_Mod_house 192 = .ok (.aload_n 0, 1) := by decide +kernel
theorem d_Mod_house_193 : decode b_Mod_house 193 = .ok (.getfield 81, 3) := by decide +kernel
theorem d_Mod_house_196 : decode b_Mod_house 196 = .ok (.iastore, 1) := by decide +kernel
theorem d_Mod_house_197 : decode b_Mod_house 197 = .ok (.aload_n 0, 1) := by decide +kernel
theorem d_Mod_house_198 : decode b_Mod_house 198 = .ok (.getfield 81, 3) := by decide +kernel
theorem d_Mod_house_201 : decode b_Mod_house 201 = .ok (.ireturn, 1) := by decide +kernel
theorem d_Mod_tellsOf_0 : decode b_Mod_tellsOf 0 = .ok (.aload_n 0, 1) := by decide +kernel
theorem d_Mod_tellsOf_1 : decode b_Mod_tellsOf 1 = .ok (.getfield 9, 3) := by decide +kernel
theorem d_Mod_tellsOf_4 : decode b_Mod_tellsOf 4 = .ok (.bipush 17, 2) := by decide +kernel
theorem d_Mod_tellsOf_6 : decode b_Mod_tellsOf 6 = .ok (.iaload, 1) := by decide +kernel
theorem d_Mod_tellsOf_7 : decode b_Mod_tellsOf 7 = .ok (.iconst (-1), 1) := by decide +kernel
theorem d_Mod_tellsOf_8 : decode b_Mod_tellsOf 8 = .ok (.if_icmp .ne 7, 3) := by decide +kernel
theorem d_Mod_tellsOf_11 : decode b_Mod_tellsOf 11 = .ok (.iload_n 2, 1) := by decide +kernel
theorem d_Mod_tellsOf_12 : decode b_Mod_tellsOf 12 = .ok (.goto 17, 3) := by decide +kernel
theorem d_Mod_tellsOf_15 : decode b_Mod_tellsOf 15 = .ok (.aload_n 0, 1) := by decide +kernel
theorem d_Mod_tellsOf_16 : decode b_Mod_tellsOf 16 = .ok (.getfield 9, 3) := by decide +kernel
theorem d_Mod_tellsOf_19 : decode b_Mod_tellsOf 19 = .ok (.iload_n 1, 1) := by decide +kernel
theorem d_Mod_tellsOf_20 : decode b_Mod_tellsOf 20 = .ok (.aload_n 0, 1) := by decide +kernel
theorem d_Mod_tellsOf_21 : decode b_Mod_tellsOf 21 = .ok (.getfield 9, 3) := by decide +kernel
theorem d_Mod_tellsOf_24 : decode b_Mod_tellsOf 24 = .ok (.bipush 17, 2) := by decide +kernel
theorem d_Mod_tellsOf_26 : decode b_Mod_tellsOf 26 = .ok (.iaload, 1) := by decide +kernel
theorem d_Mod_tellsOf_27 : decode b_Mod_tellsOf 27 = .ok (.iadd, 1) := by decide +kernel
theorem d_Mod_tellsOf_28 : decode b_Mod_tellsOf 28 = .ok (.iaload, 1) := by decide +kernel
theorem d_Mod_tellsOf_29 : decode b_Mod_tellsOf 29 = .ok (.ireturn, 1) := by decide +kernel
theorem d_Mod_looks_0 : decode b_Mod_looks 0 = .ok (.aload_n 0, 1) := by decide +kernel
theorem d_Mod_looks_1 : decode b_Mod_looks 1 = .ok (.getfield 21, 3) := by decide +kernel
theorem d_Mod_looks_4 : decode b_Mod_looks 4 = .ok (.iconst 0, 1) := by decide +kernel
theorem d_Mod_looks_5 : decode b_Mod_looks 5 = .ok (.iload_n 1, 1) := by decide +kernel
theorem d_Mod_looks_6 : decode b_Mod_looks 6 = .ok (.iastore, 1) := by decide +kernel
theorem d_Mod_looks_7 : decode b_Mod_looks 7 = .ok (.aload_n 0, 1) := by decide +kernel
theorem d_Mod_looks_8 : decode b_Mod_looks 8 = .ok (.getfield 21, 3) := by decide +kernel
theorem d_Mod_looks_11 : decode b_Mod_looks 11 = .ok (.iconst 1, 1) := by decide +kernel
theorem d_Mod_looks_12 : decode b_Mod_looks 12 = .ok (.aload_n 0, 1) := by decide +kernel
theorem d_Mod_looks_13 : decode b_Mod_looks 13 = .ok (.getfield 9, 3) := by decide +kernel
theorem d_Mod_looks_16 : decode b_Mod_looks 16 = .ok (.bipush 18, 2) := by decide +kernel
theorem d_Mod_looks_18 : decode b_Mod_looks 18 = .ok (.iload_n 1, 1) := by decide +kernel
theorem d_Mod_looks_19 : decode b_Mod_looks 19 = .ok (.iadd, 1) := by decide +kernel
theorem d_Mod_looks_20 : decode b_Mod_looks 20 = .ok (.iaload, 1) := by decide +kernel
theorem d_Mod_looks_21 : decode b_Mod_looks 21 = .ok (.iastore, 1) := by decide +kernel
theorem d_Mod_looks_22 : decode b_Mod_looks 22 = .ok (.aload_n 0, 1) := by decide +kernel
theorem d_Mod_looks_23 : decode b_Mod_looks 23 = .ok (.getfield 21, 3) := by decide +kernel
theorem d_Mod_looks_26 : decode b_Mod_looks 26 = .ok (.iconst 2, 1) := by decide +kernel
theorem d_Mod_looks_27 : decode b_Mod_looks 27 = .ok (.aload_n 0, 1) := by decide +kernel
theorem d_Mod_looks_28 : decode b_Mod_looks 28 = .ok (.getfield 9, 3) := by decide +kernel
theorem d_Mod_looks_31 : decode b_Mod_looks 31 = .ok (.bipush 24, 2) := by decide +kernel
theorem d_Mod_looks_33 : decode b_Mod_looks 33 = .ok (.iload_n 1, 1) := by decide +kernel
theorem d_Mod_looks_34 : decode b_Mod_looks 34 = .ok (.iadd, 1) := by decide +kernel
theorem d_Mod_looks_35 : decode b_Mod_looks 35 = .ok (.iaload, 1) := by decide +kernel
theorem d_Mod_looks_36 : decode b_Mod_looks 36 = .ok (.iastore, 1) := by decide +kernel
theorem d_Mod_looks_37 : decode b_Mod_looks 37 = .ok (.aload_n 0, 1) := by decide +kernel
theorem d_Mod_looks_38 : decode b_Mod_looks 38 = .ok (.getfield 21, 3) := by decide +kernel
theorem d_Mod_looks_41 : decode b_Mod_looks 41 = .ok (.iconst 3, 1) := by decide +kernel
theorem d_Mod_looks_42 : decode b_Mod_looks 42 = .ok (.aload_n 0, 1) := by decide +kernel
theorem d_Mod_looks_43 : decode b_Mod_looks 43 = .ok (.getfield 9, 3) := by decide +kernel
theorem d_Mod_looks_46 : decode b_Mod_looks 46 = .ok (.bipush 30, 2) := by decide +kernel
theorem d_Mod_looks_48 : decode b_Mod_looks 48 = .ok (.iload_n 1, 1) := by decide +kernel
theorem d_Mod_looks_49 : decode b_Mod_looks 49 = .ok (.iadd, 1) := by decide +kernel
theorem d_Mod_looks_50 : decode b_Mod_looks 50 = .ok (.iaload, 1) := by decide +kernel
theorem d_Mod_looks_51 : decode b_Mod_looks 51 = .ok (.iastore, 1) := by decide +kernel
theorem d_Mod_looks_52 : decode b_Mod_looks 52 = .ok (.aload_n 0, 1) := by decide +kernel
theorem d_Mod_looks_53 : decode b_Mod_looks 53 = .ok (.getfield 21, 3) := by decide +kernel
theorem d_Mod_looks_56 : decode b_Mod_looks 56 = .ok (.iconst 4, 1) := by decide +kernel
theorem d_Mod_looks_57 : decode b_Mod_looks 57 = .ok (.aload_n 0, 1) := by decide +kernel
theorem d_Mod_looks_58 : decode b_Mod_looks 58 = .ok (.getfield 9, 3) := by decide +kernel
theorem d_Mod_looks_61 : decode b_Mod_looks 61 = .ok (.iconst 2, 1) := by decide +kernel
theorem d_Mod_looks_62 : decode b_Mod_looks 62 = .ok (.iaload, 1) := by decide +kernel
theorem d_Mod_looks_63 : decode b_Mod_looks 63 = .ok (.bipush 7, 2) := by decide +kernel
theorem d_Mod_looks_65 : decode b_Mod_looks 65 = .ok (.irem, 1) := by decide +kernel
theorem d_Mod_looks_66 : decode b_Mod_looks 66 = .ok (.iastore, 1) := by decide +kernel
theorem d_Mod_looks_67 : decode b_Mod_looks 67 = .ok (.aload_n 0, 1) := by decide +kernel
theorem d_Mod_looks_68 : decode b_Mod_looks 68 = .ok (.getfield 21, 3) := by decide +kernel
theorem d_Mod_looks_71 : decode b_Mod_looks 71 = .ok (.iconst 5, 1) := by decide +kernel
theorem d_Mod_looks_72 : decode b_Mod_looks 72 = .ok (.aload_n 0, 1) := by decide +kernel
theorem d_Mod_looks_73 : decode b_Mod_looks 73 = .ok (.getfield 9, 3) := by decide +kernel
theorem d_Mod_looks_76 : decode b_Mod_looks 76 = .ok (.iconst 3, 1) := by decide +kernel
theorem d_Mod_looks_77 : decode b_Mod_looks 77 = .ok (.iaload, 1) := by decide +kernel
theorem d_Mod_looks_78 : decode b_Mod_looks 78 = .ok (.iastore, 1) := by decide +kernel
theorem d_Mod_looks_79 : decode b_Mod_looks 79 = .ok (.iconst 0, 1) := by decide +kernel
theorem d_Mod_looks_80 : decode b_Mod_looks 80 = .ok (.istore_n 2, 1) := by decide +kernel
theorem d_Mod_looks_81 : decode b_Mod_looks 81 = .ok (.aload_n 0, 1) := by decide +kernel
theorem d_Mod_looks_82 : decode b_Mod_looks 82 = .ok (.sipush 210, 3) := by decide +kernel
theorem d_Mod_looks_85 : decode b_Mod_looks 85 = .ok (.iconst 0, 1) := by decide +kernel
theorem d_Mod_looks_86 : decode b_Mod_looks 86 = .ok (.invokevirtual 132, 3) := by decide +kernel
theorem d_Mod_looks_89 : decode b_Mod_looks 89 = .ok (.istore_n 3, 1) := by decide +kernel
theorem d_Mod_looks_90 : decode b_Mod_looks 90 = .ok (.sipush 215, 3) := by decide +kernel
theorem d_Mod_looks_93 : decode b_Mod_looks 93 = .ok (.sipush 140, 3) := by decide +kernel
theorem d_Mod_looks_96 : decode b_Mod_looks 96 = .ok (.aload_n 0, 1) := by decide +kernel
theorem d_Mod_looks_97 : decode b_Mod_looks 97 = .ok (.getfield 9, 3) := by decide +kernel
theorem d_Mod_looks_100 : decode b_Mod_looks 100 = .ok (.bipush 17, 2) := by decide +kernel
theorem d_Mod_looks_102 : decode b_Mod_looks 102 = .ok (.iaload, 1) := by decide +kernel
theorem d_Mod_looks_103 : decode b_Mod_looks 103 = .ok (.imul, 1) := by decide +kernel
theorem d_Mod_looks_104 : decode b_Mod_looks 104 = .ok (.iadd, 1) := by decide +kernel
theorem d_Mod_looks_105 : decode b_Mod_looks 105 = .ok (.istore 4, 2) := by decide +kernel
theorem d_Mod_looks_107 : decode b_Mod_looks 107 = .ok (.iconst 0, 1) := by decide +kernel
theorem d_Mod_looks_108 : decode b_Mod_looks 108 = .ok (.istore 5, 2) := by decide +kernel
theorem d_Mod_looks_110 : decode b_Mod_looks 110 = .ok (.iload 4, 2) := by decide +kernel
theorem d_Mod_looks_112 : decode b_Mod_looks 112 = .ok (.istore 6, 2) := by decide +kernel
theorem d_Mod_looks_114 : decode b_Mod_looks 114 = .ok (.iload 6, 2) := by decide +kernel
theorem d_Mod_looks_116 : decode b_Mod_looks 116 = .ok (.iload 4, 2) := by decide +kernel
theorem d_Mod_looks_118 : decode b_Mod_looks 118 = .ok (.iload_n 3, 1) := by decide +kernel
theorem d_Mod_looks_119 : decode b_Mod_looks 119 = .ok (.iadd, 1) := by decide +kernel
theorem d_Mod_looks_120 : decode b_Mod_looks 120 = .ok (.if_icmp .ge 300, 3) := by decide +kernel
theorem d_Mod_looks_123 : decode b_Mod_looks 123 = .ok (.aload_n 0, 1) := by decide +kernel
theorem d_Mod_looks_124 : decode b_Mod_looks 124 = .ok (.getfield 9, 3) := by decide +kernel
theorem d_Mod_looks_127 : decode b_Mod_looks 127 = .ok (.iload 6, 2) := by decide +kernel
theorem d_Mod_looks_129 : decode b_Mod_looks 129 = .ok (.iaload, 1) := by decide +kernel
theorem d_Mod_looks_130 : decode b_Mod_looks 130 = .ok (.istore 7, 2) := by decide +kernel
theorem d_Mod_looks_132 : decode b_Mod_looks 132 = .ok (.iload 7, 2) := by decide +kernel
theorem d_Mod_looks_134 : decode b_Mod_looks 134 = .ok (.ifCond .lt 97, 3) := by decide +kernel
theorem d_Mod_looks_137 : decode b_Mod_looks 137 = .ok (.aload_n 0, 1) := by decide +kernel
theorem d_Mod_looks_138 : decode b_Mod_looks 138 = .ok (.getfield 21, 3) := by decide +kernel
theorem d_Mod_looks_141 : decode b_Mod_looks 141 = .ok (.iload 7, 2) := by decide +kernel
theorem d_Mod_looks_143 : decode b_Mod_looks 143 = .ok (.bipush 8, 2) := by decide +kernel
theorem d_Mod_looks_145 : decode b_Mod_looks 145 = .ok (.irem, 1) := by decide +kernel
theorem d_Mod_looks_146 : decode b_Mod_looks 146 = .ok (.iaload, 1) := by decide +kernel
theorem d_Mod_looks_147 : decode b_Mod_looks 147 = .ok (.istore 8, 2) := by decide +kernel
theorem d_Mod_looks_149 : decode b_Mod_looks 149 = .ok (.iload 7, 2) := by decide +kernel
theorem d_Mod_looks_151 : decode b_Mod_looks 151 = .ok (.bipush 8, 2) := by decide +kernel
theorem d_Mod_looks_153 : decode b_Mod_looks 153 = .ok (.idiv, 1) := by decide +kernel
theorem d_Mod_looks_154 : decode b_Mod_looks 154 = .ok (.iconst 4, 1) := by decide +kernel
theorem d_Mod_looks_155 : decode b_Mod_looks 155 = .ok (.irem, 1) := by decide +kernel
theorem d_Mod_looks_156 : decode b_Mod_looks 156 = .ok (.istore 9, 2) := by decide +kernel
theorem d_Mod_looks_158 : decode b_Mod_looks 158 = .ok (.iload 7, 2) := by decide +kernel
theorem d_Mod_looks_160 : decode b_Mod_looks 160 = .ok (.bipush 32, 2) := by decide +kernel
theorem d_Mod_looks_162 : decode b_Mod_looks 162 = .ok (.idiv, 1) := by decide +kernel
theorem d_Mod_looks_163 : decode b_Mod_looks 163 = .ok (.istore 10, 2) := by decide +kernel
theorem d_Mod_looks_165 : decode b_Mod_looks 165 = .ok (.aload_n 0, 1) := by decide +kernel
theorem d_Mod_looks_166 : decode b_Mod_looks 166 = .ok (.getfield 24, 3) := by decide +kernel
theorem d_Mod_looks_169 : decode b_Mod_looks 169 = .ok (.iload 5, 2) := by decide +kernel
theorem d_Mod_looks_171 : decode b_Mod_looks 171 = .ok (.iload 9, 2) := by decide +kernel
theorem d_Mod_looks_173 : decode b_Mod_looks 173 = .ok (.ifCond .ne 18, 3) := by decide +kernel
theorem d_Mod_looks_176 : decode b_Mod_looks 176 = .ok (.iload 8, 2) := by decide +kernel
theorem d_Mod_looks_178 : decode b_Mod_looks 178 = .ok (.iload 10, 2) := by decide +kernel
theorem d_Mod_looks_180 : decode b_Mod_looks 180 = .ok (.if_icmp .ge 7, 3) := by decide +kernel
theorem d_Mod_looks_183 : decode b_Mod_looks 183 = .ok (.iconst 1, 1) := by decide +kernel
theorem d_Mod_looks_184 : decode b_Mod_looks 184 = .ok (.goto 40, 3) := by decide +kernel
theorem d_Mod_looks_187 : decode b_Mod_looks 187 = .ok (.iconst 0, 1) := by decide +kernel
theorem d_Mod_looks_188 : decode b_Mod_looks 188 = .ok (.goto 36, 3) := by decide +kernel
theorem d_Mod_looks_191 : decode b_Mod_looks 191 = .ok (.iload 9, 2) := by decide +kernel
theorem d_Mod_looks_193 : decode b_Mod_looks 193 = .ok (.iconst 1, 1) := by decide +kernel
theorem d_Mod_looks_194 : decode b_Mod_looks 194 = .ok (.if_icmp .ne 18, 3) := by decide +kernel
theorem d_Mod_looks_197 : decode b_Mod_looks 197 = .ok (.iload 8, 2) := by decide +kernel
theorem d_Mod_looks_199 : decode b_Mod_looks 199 = .ok (.iload 10, 2) := by decide +kernel
theorem d_Mod_looks_201 : decode b_Mod_looks 201 = .ok (.if_icmp .ne 7, 3) := by decide +kernel
theorem d_Mod_looks_204 : decode b_Mod_looks 204 = .ok (.iconst 1, 1) := by decide +kernel
theorem d_Mod_looks_205 : decode b_Mod_looks 205 = .ok (.goto 19, 3) := by decide +kernel
theorem d_Mod_looks_208 : decode b_Mod_looks 208 = .ok (.iconst 0, 1) := by decide +kernel
theorem d_Mod_looks_209 : decode b_Mod_looks 209 = .ok (.goto 15, 3) := by decide +kernel
theorem d_Mod_looks_212 : decode b_Mod_looks 212 = .ok (.iload 8, 2) := by decide +kernel
theorem d_Mod_looks_214 : decode b_Mod_looks 214 = .ok (.iload 10, 2) := by decide +kernel
theorem d_Mod_looks_216 : decode b_Mod_looks 216 = .ok (.if_icmp .le 7, 3) := by decide +kernel
theorem d_Mod_looks_219 : decode b_Mod_looks 219 = .ok (.iconst 1, 1) := by decide +kernel
theorem d_Mod_looks_220 : decode b_Mod_looks 220 = .ok (.goto 4, 3) := by decide +kernel
theorem d_Mod_looks_223 : decode b_Mod_looks 223 = .ok (.iconst 0, 1) := by decide +kernel
theorem d_Mod_looks_224 : decode b_Mod_looks 224 = .ok (.bastore, 1) := by decide +kernel
theorem d_Mod_looks_225 : decode b_Mod_looks 225 = .ok (.iinc 5 1, 3) := by decide +kernel
theorem d_Mod_looks_228 : decode b_Mod_looks 228 = .ok (.goto 186, 3) := by decide +kernel
theorem d_Mod_looks_231 : decode b_Mod_looks 231 = .ok (.iload 7, 2) := by decide +kernel
theorem d_Mod_looks_233 : decode b_Mod_looks 233 = .ok (.iconst (-1), 1) := by decide +kernel
theorem d_Mod_looks_234 : decode b_Mod_looks 234 = .ok (.if_icmp .ne 32, 3) := by decide +kernel
theorem d_Mod_looks_237 : decode b_Mod_looks 237 = .ok (.aload_n 0, 1) := by decide +kernel
theorem d_Mod_looks_238 : decode b_Mod_looks 238 = .ok (.getfield 24, 3) := by decide +kernel
theorem d_Mod_looks_241 : decode b_Mod_looks 241 = .ok (.iload 5, 2) := by decide +kernel
theorem d_Mod_looks_243 : decode b_Mod_looks 243 = .ok (.iconst 1, 1) := by decide +kernel
theorem d_Mod_looks_244 : decode b_Mod_looks 244 = .ok (.isub, 1) := by decide +kernel
theorem d_Mod_looks_245 : decode b_Mod_looks 245 = .ok (.aload_n 0, 1) := by decide +kernel
theorem d_Mod_looks_246 : decode b_Mod_looks 246 = .ok (.getfield 24, 3) := by decide +kernel
theorem d_Mod_looks_249 : decode b_Mod_looks 249 = .ok (.iload 5, 2) := by decide +kernel
theorem d_Mod_looks_251 : decode b_Mod_looks 251 = .ok (.iconst 1, 1) := by decide +kernel
theorem d_Mod_looks_252 : decode b_Mod_looks 252 = .ok (.isub, 1) := by decide +kernel
theorem d_Mod_looks_253 : decode b_Mod_looks 253 = .ok (.baload, 1) := by decide +kernel
theorem d_Mod_looks_254 : decode b_Mod_looks 254 = .ok (.ifCond .ne 7, 3) := by decide +kernel
theorem d_Mod_looks_257 : decode b_Mod_looks 257 = .ok (.iconst 1, 1) := by decide +kernel
theorem d_Mod_looks_258 : decode b_Mod_looks 258 = .ok (.goto 4, 3) := by decide +kernel
theorem d_Mod_looks_261 : decode b_Mod_looks 261 = .ok (.iconst 0, 1) := by decide +kernel
theorem d_Mod_looks_262 : decode b_Mod_looks 262 = .ok (.bastore, 1) := by decide +kernel
theorem d_Mod_looks_263 : decode b_Mod_looks 263 = .ok (.goto 151, 3) := by decide +kernel
theorem d_Mod_looks_266 : decode b_Mod_looks 266 = .ok (.iload 7, 2) := by decide +kernel
theorem d_Mod_looks_268 : decode b_Mod_looks 268 = .ok (.bipush (-10), 2) := by decide +kernel
theorem d_Mod_looks_270 : decode b_Mod_looks 270 = .ok (.if_icmp .le 82, 3) := by decide +kernel
theorem d_Mod_looks_273 : decode b_Mod_looks 273 = .ok (.iinc 5 (-1), 3) := by decide +kernel
theorem d_Mod_looks_276 : decode b_Mod_looks 276 = .ok (.aload_n 0, 1) := by decide +kernel
theorem d_Mod_looks_277 : decode b_Mod_looks 277 = .ok (.getfield 24, 3) := by decide +kernel
theorem d_Mod_looks_280 : decode b_Mod_looks 280 = .ok (.iload 5, 2) := by decide +kernel
theorem d_Mod_looks_282 : decode b_Mod_looks 282 = .ok (.iconst 1, 1) := by decide +kernel
theorem d_Mod_looks_283 : decode b_Mod_looks 283 = .ok (.isub, 1) := by decide +kernel
theorem d_Mod_looks_284 : decode b_Mod_looks 284 = .ok (.iload 7, 2) := by decide +kernel
theorem d_Mod_looks_286 : decode b_Mod_looks 286 = .ok (.bipush (-2), 2) := by decide +kernel
theorem d_Mod_looks_288 : decode b_Mod_looks 288 = .ok (.if_icmp .ne 33, 3) := by decide +kernel
theorem d_Mod_looks_291 : decode b_Mod_looks 291 = .ok (.aload_n 0, 1) := by decide +kernel
theorem d_Mod_looks_292 : decode b_Mod_looks 292 = .ok (.getfield 24, 3) := by decide +kernel
theorem d_Mod_looks_295 : decode b_Mod_looks 295 = .ok (.iload 5, 2) := by decide +kernel
theorem d_Mod_looks_297 : decode b_Mod_looks 297 = .ok (.iconst 1, 1) := by decide +kernel
theorem d_Mod_looks_298 : decode b_Mod_looks 298 = .ok (.isub, 1) := by decide +kernel
theorem d_Mod_looks_299 : decode b_Mod_looks 299 = .ok (.baload, 1) := by decide +kernel
theorem d_Mod_looks_300 : decode b_Mod_looks 300 = .ok (.ifCond .eq 17, 3) := by decide +kernel
theorem d_Mod_looks_303 : decode b_Mod_looks 303 = .ok (.aload_n 0, 1) := by decide +kernel
theorem d_Mod_looks_304 : decode b_Mod_looks 304 = .ok (.getfield 24, 3) := by decide +kernel
theorem d_Mod_looks_307 : decode b_Mod_looks 307 = .ok (.iload 5, 2) := by decide +kernel
theorem d_Mod_looks_309 : decode b_Mod_looks 309 = .ok (.baload, 1) := by decide +kernel
theorem d_Mod_looks_310 : decode b_Mod_looks 310 = .ok (.ifCond .eq 7, 3) := by decide +kernel
theorem d_Mod_looks_313 : decode b_Mod_looks 313 = .ok (.iconst 1, 1) := by decide +kernel
theorem d_Mod_looks_314 : decode b_Mod_looks 314 = .ok (.goto 34, 3) := by decide +kernel
theorem d_Mod_looks_317 : decode b_Mod_looks 317 = .ok (.iconst 0, 1) := by decide +kernel
theorem d_Mod_looks_318 : decode b_Mod_looks 318 = .ok (.goto 30, 3) := by decide +kernel
theorem d_Mod_looks_321 : decode b_Mod_looks 321 = .ok (.aload_n 0, 1) := by decide +kernel
theorem d_Mod_looks_322 : decode b_Mod_looks 322 = .ok (.getfield 24, 3) := by decide +kernel
theorem d_Mod_looks_325 : decode b_Mod_looks 325 = .ok (.iload 5, 2) := by decide +kernel
theorem d_Mod_looks_327 : decode b_Mod_looks 327 = .ok (.iconst 1, 1) := by decide +kernel
theorem d_Mod_looks_328 : decode b_Mod_looks 328 = .ok (.isub, 1) := by decide +kernel
theorem d_Mod_looks_329 : decode b_Mod_looks 329 = .ok (.baload, 1) := by decide +kernel
theorem d_Mod_looks_330 : decode b_Mod_looks 330 = .ok (.ifCond .ne 13, 3) := by decide +kernel
theorem d_Mod_looks_333 : decode b_Mod_looks 333 = .ok (.aload_n 0, 1) := by decide +kernel
theorem d_Mod_looks_334 : decode b_Mod_looks 334 = .ok (.getfield 24, 3) := by decide +kernel
theorem d_Mod_looks_337 : decode b_Mod_looks 337 = .ok (.iload 5, 2) := by decide +kernel
theorem d_Mod_looks_339 : decode b_Mod_looks 339 = .ok (.baload, 1) := by decide +kernel
theorem d_Mod_looks_340 : decode b_Mod_looks 340 = .ok (.ifCond .eq 7, 3) := by decide +kernel
theorem d_Mod_looks_343 : decode b_Mod_looks 343 = .ok (.iconst 1, 1) := by decide +kernel
theorem d_Mod_looks_344 : decode b_Mod_looks 344 = .ok (.goto 4, 3) := by decide +kernel
theorem d_Mod_looks_347 : decode b_Mod_looks 347 = .ok (.iconst 0, 1) := by decide +kernel
theorem d_Mod_looks_348 : decode b_Mod_looks 348 = .ok (.bastore, 1) := by decide +kernel
theorem d_Mod_looks_349 : decode b_Mod_looks 349 = .ok (.goto 65, 3) := by decide +kernel
theorem d_Mod_looks_352 : decode b_Mod_looks 352 = .ok (.iconst 0, 1) := by decide +kernel
theorem d_Mod_looks_353 : decode b_Mod_looks 353 = .ok (.istore 5, 2) := by decide +kernel
theorem d_Mod_looks_355 : decode b_Mod_looks 355 = .ok (.aload_n 0, 1) := by decide +kernel
theorem d_Mod_looks_356 : decode b_Mod_looks 356 = .ok (.getfield 24, 3) := by decide +kernel
theorem d_Mod_looks_359 : decode b_Mod_looks 359 = .ok (.iconst 0, 1) := by decide +kernel
theorem d_Mod_looks_360 : decode b_Mod_looks 360 = .ok (.baload, 1) := by decide +kernel
theorem d_Mod_looks_361 : decode b_Mod_looks 361 = .ok (.istore 8, 2) := by decide +kernel
theorem d_Mod_looks_363 : decode b_Mod_looks 363 = .ok (.iload_n 2, 1) := by decide +kernel
theorem d_Mod_looks_364 : decode b_Mod_looks 364 = .ok (.iload 8, 2) := by decide +kernel
theorem d_Mod_looks_366 : decode b_Mod_looks 366 = .ok (.ifCond .eq 19, 3) := by decide +kernel
theorem d_Mod_looks_369 : decode b_Mod_looks 369 = .ok (.iload 7, 2) := by decide +kernel
theorem d_Mod_looks_371 : decode b_Mod_looks 371 = .ok (.sipush (-200), 3) := by decide +kernel
theorem d_Mod_looks_374 : decode b_Mod_looks 374 = .ok (.if_icmp .le 11, 3) := by decide +kernel
theorem d_Mod_looks_377 : decode b_Mod_looks 377 = .ok (.bipush (-10), 2) := by decide +kernel
theorem d_Mod_looks_379 : decode b_Mod_looks 379 = .ok (.iload 7, 2) := by decide +kernel
theorem d_Mod_looks_381 : decode b_Mod_looks 381 = .ok (.isub, 1) := by decide +kernel
theorem d_Mod_looks_382 : decode b_Mod_looks 382 = .ok (.goto 4, 3) := by decide +kernel
theorem d_Mod_looks_385 : decode b_Mod_looks 385 = .ok (.iconst 0, 1) := by decide +kernel
theorem d_Mod_looks_386 : decode b_Mod_looks 386 = .ok (.isub, 1) := by decide +kernel
theorem d_Mod_looks_387 : decode b_Mod_looks 387 = .ok (.istore_n 2, 1) := by decide +kernel
theorem d_Mod_looks_388 : decode b_Mod_looks 388 = .ok (.iload_n 2, 1) := by decide +kernel
theorem d_Mod_looks_389 : decode b_Mod_looks 389 = .ok (.iload 8, 2) := by decide +kernel
theorem d_Mod_looks_391 : decode b_Mod_looks 391 = .ok (.ifCond .eq 20, 3) := by decide +kernel
theorem d_Mod_looks_394 : decode b_Mod_looks 394 = .ok (.iload 7, 2) := by decide +kernel
theorem d_Mod_looks_396 : decode b_Mod_looks 396 = .ok (.sipush (-200), 3) := by decide +kernel
theorem d_Mod_looks_399 : decode b_Mod_looks 399 = .ok (.if_icmp .gt 12, 3) := by decide +kernel
theorem d_Mod_looks_402 : decode b_Mod_looks 402 = .ok (.sipush (-200), 3) := by decide +kernel
theorem d_Mod_looks_405 : decode b_Mod_looks 405 = .ok (.iload 7, 2) := by decide +kernel
theorem d_Mod_looks_407 : decode b_Mod_looks 407 = .ok (.isub, 1) := by decide +kernel
theorem d_Mod_looks_408 : decode b_Mod_looks 408 = .ok (.goto 4, 3) := by decide +kernel
theorem d_Mod_looks_411 : decode b_Mod_looks 411 = .ok (.iconst 0, 1) := by decide +kernel
theorem d_Mod_looks_412 : decode b_Mod_looks 412 = .ok (.iadd, 1) := by decide +kernel
theorem d_Mod_looks_413 : decode b_Mod_looks 413 = .ok (.istore_n 2, 1) := by decide +kernel
theorem d_Mod_looks_414 : decode b_Mod_looks 414 = .ok (.iinc 6 1, 3) := by decide +kernel
theorem d_Mod_looks_417 : decode b_Mod_looks 417 = .ok (.goto (-303), 3) := by decide +kernel
theorem d_Mod_looks_420 : decode b_Mod_looks 420 = .ok (.iload_n 2, 1) := by decide +kernel
theorem d_Mod_looks_421 : decode b_Mod_looks 421 = .ok (.ireturn, 1) := by decide +kernel
theorem d_Mod_person_0 : decode b_Mod_person 0 = .ok (.iload_n 1, 1) := by decide +kernel
theorem d_Mod_person_1 : decode b_Mod_person 1 = .ok (.iconst 0, 1) := by decide +kernel
theorem d_Mod_person_2 : decode b_Mod_person 2 = .ok (.bipush 6, 2) := by decide +kernel
theorem d_Mod_person_4 : decode b_Mod_person 4 = .ok (.invokestatic 50, 3) := by decide +kernel
theorem d_Mod_person_7 : decode b_Mod_person 7 = .ok (.ifCond .ne 5, 3) := by decide +kernel
theorem d_Mod_person_10 : decode b_Mod_person 10 = .ok (.iconst (-1), 1) := by decide +kernel
theorem d_Mod_person_11 : decode b_Mod_person 11 = .ok (.ireturn, 1) := by decide +kernel
theorem d_Mod_person_12 : decode b_Mod_person 12 = .ok (.iload_n 2, 1) := by decide +kernel
theorem d_Mod_person_13 : decode b_Mod_person 13 = .ok (.iconst 0, 1) := by decide +kernel
theorem d_Mod_person_14 : decode b_Mod_person 14 = .ok (.bipush 9, 2) := by decide +kernel
theorem d_Mod_person_16 : decode b_Mod_person 16 = .ok (.invokestatic 50, 3) := by decide +kernel
theorem d_Mod_person_19 : decode b_Mod_person 19 = .ok (.ifCond .ne 6, 3) := by decide +kernel
theorem d_Mod_person_22 : decode b_Mod_person 22 = .ok (.bipush (-2), 2) := by decide +kernel
theorem d_Mod_person_24 : decode b_Mod_person 24 = .ok (.ireturn, 1) := by decide +kernel
theorem d_Mod_person_25 : decode b_Mod_person 25 = .ok (.aload_n 0, 1) := by decide +kernel
theorem d_Mod_person_26 : decode b_Mod_person 26 = .ok (.getfield 9, 3) := by decide +kernel
theorem d_Mod_person_29 : decode b_Mod_person 29 = .ok (.bipush 11, 2) := by decide +kernel
theorem d_Mod_person_31 : decode b_Mod_person 31 = .ok (.iaload, 1) := by decide +kernel
theorem d_Mod_person_32 : decode b_Mod_person 32 = .ok (.bipush 6, 2) := by decide +kernel
theorem d_Mod_person_34 : decode b_Mod_person 34 = .ok (.if_icmp .ne 6, 3) := by decide +kernel
theorem d_Mod_person_37 : decode b_Mod_person 37 = .ok (.bipush (-4), 2) := by decide +kernel
theorem d_Mod_person_39 : decode b_Mod_person 39 = .ok (.ireturn, 1) := by decide +kernel
theorem d_Mod_person_40 : decode b_Mod_person 40 = .ok (.aload_n 0, 1) := by decide +kernel
theorem d_Mod_person_41 : decode b_Mod_person 41 = .ok (.getfield 9, 3) := by decide +kernel
theorem d_Mod_person_44 : decode b_Mod_person 44 = .ok (.bipush 11, 2) := by decide +kernel
theorem d_Mod_person_46 : decode b_Mod_person 46 = .ok (.iaload, 1) := by decide +kernel
theorem d_Mod_person_47 : decode b_Mod_person 47 = .ok (.istore_n 3, 1) := by decide +kernel
theorem d_Mod_person_48 : decode b_Mod_person 48 = .ok (.aload_n 0, 1) := by decide +kernel
theorem d_Mod_person_49 : decode b_Mod_person 49 = .ok (.getfield 9, 3) := by decide +kernel
theorem d_Mod_person_52 : decode b_Mod_person 52 = .ok (.bipush 18, 2) := by decide +kernel
theorem d_Mod_person_54 : decode b_Mod_person 54 = .ok (.iload_n 3, 1) := by decide +kernel
theorem d_Mod_person_55 : decode b_Mod_person 55 = .ok (.iadd, 1) := by decide +kernel
theorem d_Mod_person_56 : decode b_Mod_person 56 = .ok (.iload_n 1, 1) := by decide +kernel
theorem d_Mod_person_57 : decode b_Mod_person 57 = .ok (.iastore, 1) := by decide +kernel
theorem d_Mod_person_58 : decode b_Mod_person 58 = .ok (.aload_n 0, 1) := by decide +kernel
theorem d_Mod_person_59 : decode b_Mod_person 59 = .ok (.getfield 9, 3) := by decide +kernel
theorem d_Mod_person_62 : decode b_Mod_person 62 = .ok (.bipush 24, 2) := by decide +kernel
theorem d_Mod_person_64 : decode b_Mod_person 64 = .ok (.iload_n 3, 1) := by decide +kernel
theorem d_Mod_person_65 : decode b_Mod_person 65 = .ok (.iadd, 1) := by decide +kernel
theorem d_Mod_person_66 : decode b_Mod_person 66 = .ok (.iload_n 2, 1) := by decide +kernel
theorem d_Mod_person_67 : decode b_Mod_person 67 = .ok (.iastore, 1) := by decide +kernel
theorem d_Mod_person_68 : decode b_Mod_person 68 = .ok (.aload_n 0, 1) := by decide +kernel
theorem d_Mod_person_69 : decode b_Mod_person 69 = .ok (.getfield 9, 3) := by decide +kernel
theorem d_Mod_person_72 : decode b_Mod_person 72 = .ok (.bipush 30, 2) := by decide +kernel
theorem d_Mod_person_74 : decode b_Mod_person 74 = .ok (.iload_n 3, 1) := by decide +kernel
theorem d_Mod_person_75 : decode b_Mod_person 75 = .ok (.iadd, 1) := by decide +kernel
theorem d_Mod_person_76 : decode b_Mod_person 76 = .ok (.iconst 0, 1) := by decide +kernel
theorem d_Mod_person_77 : decode b_Mod_person 77 = .ok (.iastore, 1) := by decide +kernel
theorem d_Mod_person_78 : decode b_Mod_person 78 = .ok (.aload_n 0, 1) := by decide +kernel
theorem d_Mod_person_79 : decode b_Mod_person 79 = .ok (.getfield 9, 3) := by decide +kernel
theorem d_Mod_person_82 : decode b_Mod_person 82 = .ok (.iconst 5, 1) := by decide +kernel
theorem d_Mod_person_83 : decode b_Mod_person 83 = .ok (.iload_n 3, 1) := by decide +kernel
theorem d_Mod_person_84 : decode b_Mod_person 84 = .ok (.iadd, 1) := by decide +kernel
theorem d_Mod_person_85 : decode b_Mod_person 85 = .ok (.iconst 0, 1) := by decide +kernel
theorem d_Mod_person_86 : decode b_Mod_person 86 = .ok (.iastore, 1) := by decide +kernel
theorem d_Mod_person_87 : decode b_Mod_person 87 = .ok (.iconst 0, 1) := by decide +kernel
theorem d_Mod_person_88 : decode b_Mod_person 88 = .ok (.istore 4, 2) := by decide +kernel
theorem d_Mod_person_90 : decode b_Mod_person 90 = .ok (.iload 4, 2) := by decide +kernel
theorem d_Mod_person_92 : decode b_Mod_person 92 = .ok (.iconst 4, 1) := by decide +kernel
theorem d_Mod_person_93 : decode b_Mod_person 93 = .ok (.if_icmp .ge 24, 3) := by decide +kernel
theorem d_Mod_person_96 : decode b_Mod_person 96 = .ok (.aload_n 0, 1) := by decide +kernel
theorem d_Mod_person_97 : decode b_Mod_person 97 = .ok (.getfield 9, 3) := by decide +kernel
theorem d_Mod_person_100 : decode b_Mod_person 100 = .ok (.bipush 36, 2) := by decide +kernel
theorem d_Mod_person_102 : decode b_Mod_person 102 = .ok (.iconst 4, 1) := by decide +kernel
theorem d_Mod_person_103 : decode b_Mod_person 103 = .ok (.iload_n 3, 1) := by decide +kernel
theorem d_Mod_person_104 : decode b_Mod_person 104 = .ok (.imul, 1) := by decide +kernel
theorem d_Mod_person_105 : decode b_Mod_person 105 = .ok (.iadd, 1) := by decide +kernel
theorem d_Mod_person_106 : decode b_Mod_person 106 = .ok (.iload 4, 2) := by decide +kernel
theorem d_Mod_person_108 : decode b_Mod_person 108 = .ok (.iadd, 1) := by decide +kernel
theorem d_Mod_person_109 : decode b_Mod_person 109 = .ok (.iconst 0, 1) := by decide +kernel
theorem d_Mod_person_110 : decode b_Mod_person 110 = .ok (.iastore, 1) := by decide +kernel
theorem d_Mod_person_111 : decode b_Mod_person 111 = .ok (.iinc 4 1, 3) := by decide +kernel
theorem d_Mod_person_114 : decode b_Mod_person 114 = .ok (.goto (-24), 3) := by decide +kernel
theorem d_Mod_person_117 : decode b_Mod_person 117 = .ok (.aload_n 0, 1) := by decide +kernel
theorem d_Mod_person_118 : decode b_Mod_person 118 = .ok (.getfield 9, 3) := by decide +kernel
theorem d_Mod_person_121 : decode b_Mod_person 121 = .ok (.bipush 11, 2) := by decide +kernel
theorem d_Mod_person_123 : decode b_Mod_person 123 = .ok (.dup2, 1) := by decide +kernel
theorem d_Mod_person_124 : decode b_Mod_person 124 = .ok (.iaload, 1) := by decide +kernel
theorem d_Mod_person_125 : decode b_Mod_person 125 = .ok (.iconst 1, 1) := by decide +kernel
theorem d_Mod_person_126 : decode b_Mod_person 126 = .ok (.iadd, 1) := by decide +kernel
theorem d_Mod_person_127 : decode b_Mod_person 127 = .ok (.iastore, 1) := by decide +kernel
theorem d_Mod_person_128 : decode b_Mod_person 128 = .ok (.iload_n 3, 1) := by decide +kernel
theorem d_Mod_person_129 : decode b_Mod_person 129 = .ok (.ireturn, 1) := by decide +kernel
theorem d_Mod_marginOf_0 : decode b_Mod_marginOf 0 = .ok (.aload_n 0, 1) := by decide +kernel
theorem d_Mod_marginOf_1 : decode b_Mod_marginOf 1 = .ok (.getfield 9, 3) := by decide +kernel
theorem d_Mod_marginOf_4 : decode b_Mod_marginOf 4 = .ok (.bipush 18, 2) := by decide +kernel
theorem d_Mod_marginOf_6 : decode b_Mod_marginOf 6 = .ok (.iload_n 1, 1) := by decide +kernel
theorem d_Mod_marginOf_7 : decode b_Mod_marginOf 7 = .ok (.iadd, 1) := by decide +kernel
theorem d_Mod_marginOf_8 : decode b_Mod_marginOf 8 = .ok (.iaload, 1) := by decide +kernel
theorem d_Mod_marginOf_9 : decode b_Mod_marginOf 9 = .ok (.istore_n 2, 1) := by decide +kernel
theorem d_Mod_marginOf_10 : decode b_Mod_marginOf 10 = .ok (.aload_n 0, 1) := by decide +kernel
theorem d_Mod_marginOf_11 : decode b_Mod_marginOf 11 = .ok (.iload_n 1, 1) := by decide +kernel
theorem d_Mod_marginOf_12 : decode b_Mod_marginOf 12 = .ok (.invokevirtual 136, 3) := by decide +kernel
theorem d_Mod_marginOf_15 : decode b_Mod_marginOf 15 = .ok (.iload_n 2, 1) := by decide +kernel
theorem d_Mod_marginOf_16 : decode b_Mod_marginOf 16 = .ok (.iconst 3, 1) := by decide +kernel
theorem d_Mod_marginOf_17 : decode b_Mod_marginOf 17 = .ok (.if_icmp .eq 9, 3) := by decide +kernel
theorem d_Mod_marginOf_20 : decode b_Mod_marginOf 20 = .ok (.iload_n 2, 1) := by decide +kernel
theorem d_Mod_marginOf_21 : decode b_Mod_marginOf 21 = .ok (.bipush 6, 2) := by decide +kernel
theorem d_Mod_marginOf_23 : decode b_Mod_marginOf 23 = .ok (.if_icmp .ne 15, 3) := by decide +kernel
theorem d_Mod_marginOf_26 : decode b_Mod_marginOf 26 = .ok (.aload_n 0, 1) := by decide +kernel
theorem d_Mod_marginOf_27 : decode b_Mod_marginOf 27 = .ok (.getfield 9, 3) := by decide +kernel
theorem d_Mod_marginOf_30 : decode b_Mod_marginOf 30 = .ok (.bipush 24, 2) := by decide +kernel
theorem d_Mod_marginOf_32 : decode b_Mod_marginOf 32 = .ok (.iload_n 1, 1) := by decide +kernel
theorem d_Mod_marginOf_33 : decode b_Mod_marginOf 33 = .ok (.iadd, 1) := by decide +kernel
theorem d_Mod_marginOf_34 : decode b_Mod_marginOf 34 = .ok (.iaload, 1) := by decide +kernel
theorem d_Mod_marginOf_35 : decode b_Mod_marginOf 35 = .ok (.goto 4, 3) := by decide +kernel
theorem d_Mod_marginOf_38 : decode b_Mod_marginOf 38 = .ok (.iconst 0, 1) := by decide +kernel
theorem d_Mod_marginOf_39 : decode b_Mod_marginOf 39 = .ok (.isub, 1) := by decide +kernel
theorem d_Mod_marginOf_40 : decode b_Mod_marginOf 40 = .ok (.ireturn, 1) := by decide +kernel
theorem d_Mod_takenBy_0 : decode b_Mod_takenBy 0 = .ok (.aload_n 0, 1) := by decide +kernel
theorem d_Mod_takenBy_1 : decode b_Mod_takenBy 1 = .ok (.getfield 9, 3) := by decide +kernel
theorem d_Mod_takenBy_4 : decode b_Mod_takenBy 4 = .ok (.iconst 5, 1) := by decide +kernel
theorem d_Mod_takenBy_5 : decode b_Mod_takenBy 5 = .ok (.iload_n 1, 1) := by decide +kernel
theorem d_Mod_takenBy_6 : decode b_Mod_takenBy 6 = .ok (.iadd, 1) := by decide +kernel
theorem d_Mod_takenBy_7 : decode b_Mod_takenBy 7 = .ok (.iaload, 1) := by decide +kernel
theorem d_Mod_takenBy_8 : decode b_Mod_takenBy 8 = .ok (.istore_n 2, 1) := by decide +kernel
theorem d_Mod_takenBy_9 : decode b_Mod_takenBy 9 = .ok (.aload_n 0, 1) := by decide +kernel
theorem d_Mod_takenBy_10 : decode b_Mod_takenBy 10 = .ok (.getfield 9, 3) := by decide +kernel
theorem d_Mod_takenBy_13 : decode b_Mod_takenBy 13 = .ok (.iconst 0, 1) := by decide +kernel
theorem d_Mod_takenBy_14 : decode b_Mod_takenBy 14 = .ok (.iaload, 1) := by decide +kernel
theorem d_Mod_takenBy_15 : decode b_Mod_takenBy 15 = .ok (.aload_n 0, 1) := by decide +kernel
theorem d_Mod_takenBy_16 : decode b_Mod_takenBy 16 = .ok (.getfield 9, 3) := by decide +kernel
theorem d_Mod_takenBy_19 : decode b_Mod_takenBy 19 = .ok (.iconst 1, 1) := by decide +kernel
theorem d_Mod_takenBy_20 : decode b_Mod_takenBy 20 = .ok (.iaload, 1) := by decide +kernel
theorem d_Mod_takenBy_21 : decode b_Mod_takenBy 21 = .ok (.isub, 1) := by decide +kernel
theorem d_Mod_takenBy_22 : decode b_Mod_takenBy 22 = .ok (.istore_n 3, 1) := by decide +kernel
theorem d_Mod_takenBy_23 : decode b_Mod_takenBy 23 = .ok (.aload_n 0, 1) := by decide +kernel
theorem d_Mod_takenBy_24 : decode b_Mod_takenBy 24 = .ok (.getfield 9, 3) := by decide +kernel
theorem d_Mod_takenBy_27 : decode b_Mod_takenBy 27 = .ok (.bipush 18, 2) := by decide +kernel
theorem d_Mod_takenBy_29 : decode b_Mod_takenBy 29 = .ok (.iload_n 1, 1) := by decide +kernel
theorem d_Mod_takenBy_30 : decode b_Mod_takenBy 30 = .ok (.iadd, 1) := by decide +kernel
theorem d_Mod_takenBy_31 : decode b_Mod_takenBy 31 = .ok (.iaload, 1) := by decide +kernel
theorem d_Mod_takenBy_32 : decode b_Mod_takenBy 32 = .ok (.tableswitch 125 1 6 #[40, 42, 125, 54, 79, 104], 40) := by decide +kernel
theorem d_Mod_takenBy_72 : decode b_Mod_takenBy 72 = .ok (.iload_n 2, 1) := by decide +kernel
theorem d_Mod_takenBy_73 : decode b_Mod_takenBy 73 = .ok (.ireturn, 1) := by decide +kernel
theorem d_Mod_takenBy_74 : decode b_Mod_takenBy 74 = .ok (.iload_n 2, 1) := by decide +kernel
theorem d_Mod_takenBy_75 : decode b_Mod_takenBy 75 = .ok (.aload_n 0, 1) := by decide +kernel
theorem d_Mod_takenBy_76 : decode b_Mod_takenBy 76 = .ok (.getfield 9, 3) := by decide +kernel
theorem d_Mod_takenBy_79 : decode b_Mod_takenBy 79 = .ok (.bipush 24, 2) := by decide +kernel
theorem d_Mod_takenBy_81 : decode b_Mod_takenBy 81 = .ok (.iload_n 1, 1) := by decide +kernel
theorem d_Mod_takenBy_82 : decode b_Mod_takenBy 82 = .ok (.iadd, 1) := by decide +kernel
theorem d_Mod_takenBy_83 : decode b_Mod_takenBy 83 = .ok (.iaload, 1) := by decide +kernel
theorem d_Mod_takenBy_84 : decode b_Mod_takenBy 84 = .ok (.iadd, 1) := by decide +kernel
theorem d_Mod_takenBy_85 : decode b_Mod_takenBy 85 = .ok (.ireturn, 1) := by decide +kernel
theorem d_Mod_takenBy_86 : decode b_Mod_takenBy 86 = .ok (.iload_n 2, 1) := by decide +kernel
theorem d_Mod_takenBy_87 : decode b_Mod_takenBy 87 = .ok (.aload_n 0, 1) := by decide +kernel
theorem d_Mod_takenBy_88 : decode b_Mod_takenBy 88 = .ok (.getfield 9, 3) := by decide +kernel
theorem d_Mod_takenBy_91 : decode b_Mod_takenBy 91 = .ok (.iconst 3, 1) := by decide +kernel
theorem d_Mod_takenBy_92 : decode b_Mod_takenBy 92 = .ok (.iaload, 1) := by decide +kernel
theorem d_Mod_takenBy_93 : decode b_Mod_takenBy 93 = .ok (.iconst 3, 1) := by decide +kernel
theorem d_Mod_takenBy_94 : decode b_Mod_takenBy 94 = .ok (.if_icmp .ge 14, 3) := by decide +kernel
theorem d_Mod_takenBy_97 : decode b_Mod_takenBy 97 = .ok (.aload_n 0, 1) := by decide +kernel
theorem d_Mod_takenBy_98 : decode b_Mod_takenBy 98 = .ok (.getfield 9, 3) := by decide +kernel
theorem d_Mod_takenBy_101 : decode b_Mod_takenBy 101 = .ok (.iconst 4, 1) := by decide +kernel
theorem d_Mod_takenBy_102 : decode b_Mod_takenBy 102 = .ok (.iaload, 1) := by decide +kernel
theorem d_Mod_takenBy_103 : decode b_Mod_takenBy 103 = .ok (.iconst 2, 1) := by decide +kernel
theorem d_Mod_takenBy_104 : decode b_Mod_takenBy 104 = .ok (.idiv, 1) := by decide +kernel
theorem d_Mod_takenBy_105 : decode b_Mod_takenBy 105 = .ok (.goto 4, 3) := by decide +kernel
theorem d_Mod_takenBy_108 : decode b_Mod_takenBy 108 = .ok (.iconst 0, 1) := by decide +kernel
theorem d_Mod_takenBy_109 : decode b_Mod_takenBy 109 = .ok (.iadd, 1) := by decide +kernel
theorem d_Mod_takenBy_110 : decode b_Mod_takenBy 110 = .ok (.ireturn, 1) := by decide +kernel
theorem d_Mod_takenBy_111 : decode b_Mod_takenBy 111 = .ok (.iload_n 2, 1) := by decide +kernel
theorem d_Mod_takenBy_112 : decode b_Mod_takenBy 112 = .ok (.aload_n 0, 1) := by decide +kernel
theorem d_Mod_takenBy_113 : decode b_Mod_takenBy 113 = .ok (.getfield 9, 3) := by decide +kernel
theorem d_Mod_takenBy_116 : decode b_Mod_takenBy 116 = .ok (.bipush 24, 2) := by decide +kernel
theorem d_Mod_takenBy_118 : decode b_Mod_takenBy 118 = .ok (.iload_n 1, 1) := by decide +kernel
theorem d_Mod_takenBy_119 : decode b_Mod_takenBy 119 = .ok (.iadd, 1) := by decide +kernel
theorem d_Mod_takenBy_120 : decode b_Mod_takenBy 120 = .ok (.iaload, 1) := by decide +kernel
theorem d_Mod_takenBy_121 : decode b_Mod_takenBy 121 = .ok (.iadd, 1) := by decide +kernel
theorem d_Mod_takenBy_122 : decode b_Mod_takenBy 122 = .ok (.iload_n 3, 1) := by decide +kernel
theorem d_Mod_takenBy_123 : decode b_Mod_takenBy 123 = .ok (.ifCond .ge 8, 3) := by decide +kernel
theorem d_Mod_takenBy_126 : decode b_Mod_takenBy 126 = .ok (.iload_n 3, 1) := by decide +kernel
theorem d_Mod_takenBy_127 : decode b_Mod_takenBy 127 = .ok (.ineg, 1) := by decide +kernel
theorem d_Mod_takenBy_128 : decode b_Mod_takenBy 128 = .ok (.goto 4, 3) := by decide +kernel
theorem d_Mod_takenBy_131 : decode b_Mod_takenBy 131 = .ok (.iload_n 3, 1) := by decide +kernel
theorem d_Mod_takenBy_132 : decode b_Mod_takenBy 132 = .ok (.iconst 2, 1) := by decide +kernel
theorem d_Mod_takenBy_133 : decode b_Mod_takenBy 133 = .ok (.idiv, 1) := by decide +kernel
theorem d_Mod_takenBy_134 : decode b_Mod_takenBy 134 = .ok (.isub, 1) := by decide +kernel
theorem d_Mod_takenBy_135 : decode b_Mod_takenBy 135 = .ok (.ireturn, 1) := by decide +kernel
theorem d_Mod_takenBy_136 : decode b_Mod_takenBy 136 = .ok (.aload_n 0, 1) := by decide +kernel
theorem d_Mod_takenBy_137 : decode b_Mod_takenBy 137 = .ok (.getfield 9, 3) := by decide +kernel
theorem d_Mod_takenBy_140 : decode b_Mod_takenBy 140 = .ok (.bipush 36, 2) := by decide +kernel
theorem d_Mod_takenBy_142 : decode b_Mod_takenBy 142 = .ok (.iconst 4, 1) := by decide +kernel
theorem d_Mod_takenBy_143 : decode b_Mod_takenBy 143 = .ok (.iload_n 1, 1) := by decide +kernel
theorem d_Mod_takenBy_144 : decode b_Mod_takenBy 144 = .ok (.imul, 1) := by decide +kernel
theorem d_Mod_takenBy_145 : decode b_Mod_takenBy 145 = .ok (.iadd, 1) := by decide +kernel
theorem d_Mod_takenBy_146 : decode b_Mod_takenBy 146 = .ok (.aload_n 0, 1) := by decide +kernel
theorem d_Mod_takenBy_147 : decode b_Mod_takenBy 147 = .ok (.getfield 9, 3) := by decide +kernel
theorem d_Mod_takenBy_150 : decode b_Mod_takenBy 150 = .ok (.iconst 2, 1) := by decide +kernel
theorem d_Mod_takenBy_151 : decode b_Mod_takenBy 151 = .ok (.iaload, 1) := by decide +kernel
theorem d_Mod_takenBy_152 : decode b_Mod_takenBy 152 = .ok (.iconst 4, 1) := by decide +kernel
theorem d_Mod_takenBy_153 : decode b_Mod_takenBy 153 = .ok (.irem, 1) := by decide +kernel
theorem d_Mod_takenBy_154 : decode b_Mod_takenBy 154 = .ok (.iadd, 1) := by decide +kernel
theorem d_Mod_takenBy_155 : decode b_Mod_takenBy 155 = .ok (.iaload, 1) := by decide +kernel
theorem d_Mod_takenBy_156 : decode b_Mod_takenBy 156 = .ok (.ireturn, 1) := by decide +kernel
theorem d_Mod_takenBy_157 : decode b_Mod_takenBy 157 = .ok (.iconst 0, 1) := by decide +kernel
theorem d_Mod_takenBy_158 : decode b_Mod_takenBy 158 = .ok (.ireturn, 1) := by decide +kernel
theorem d_Mod_fastOf_0 : decode b_Mod_fastOf 0 = .ok (.aload_n 0, 1) := by decide +kernel
theorem d_Mod_fastOf_1 : decode b_Mod_fastOf 1 = .ok (.getfield 9, 3) := by decide +kernel
theorem d_Mod_fastOf_4 : decode b_Mod_fastOf 4 = .ok (.iconst 0, 1) := by decide +kernel
theorem d_Mod_fastOf_5 : decode b_Mod_fastOf 5 = .ok (.aload_n 0, 1) := by decide +kernel
theorem d_Mod_fastOf_6 : decode b_Mod_fastOf 6 = .ok (.getfield 9, 3) := by decide +kernel
theorem d_Mod_fastOf_9 : decode b_Mod_fastOf 9 = .ok (.bipush 30, 2) := by decide +kernel
theorem d_Mod_fastOf_11 : decode b_Mod_fastOf 11 = .ok (.iload_n 1, 1) := by decide +kernel
theorem d_Mod_fastOf_12 : decode b_Mod_fastOf 12 = .ok (.iadd, 1) := by decide +kernel
theorem d_Mod_fastOf_13 : decode b_Mod_fastOf 13 = .ok (.iaload, 1) := by decide +kernel
theorem d_Mod_fastOf_14 : decode b_Mod_fastOf 14 = .ok (.iadd, 1) := by decide +kernel
theorem d_Mod_fastOf_15 : decode b_Mod_fastOf 15 = .ok (.iaload, 1) := by decide +kernel
theorem d_Mod_fastOf_16 : decode b_Mod_fastOf 16 = .ok (.ireturn, 1) := by decide +kernel
theorem d_Mod_lateOf_0 : decode b_Mod_lateOf 0 = .ok (.aload_n 0, 1) := by decide +kernel
theorem d_Mod_lateOf_1 : decode b_Mod_lateOf 1 = .ok (.iload_n 1, 1) := by decide +kernel
theorem d_Mod_lateOf_2 : decode b_Mod_lateOf 2 = .ok (.invokevirtual 140, 3) := by decide +kernel
theorem d_Mod_lateOf_5 : decode b_Mod_lateOf 5 = .ok (.aload_n 0, 1) := by decide +kernel
theorem d_Mod_lateOf_6 : decode b_Mod_lateOf 6 = .ok (.iload_n 1, 1) := by decide +kernel
theorem d_Mod_lateOf_7 : decode b_Mod_lateOf 7 = .ok (.invokevirtual 143, 3) := by decide +kernel
theorem d_Mod_lateOf_10 : decode b_Mod_lateOf 10 = .ok (.isub, 1) := by decide +kernel
theorem d_Mod_lateOf_11 : decode b_Mod_lateOf 11 = .ok (.aload_n 0, 1) := by decide +kernel
theorem d_Mod_lateOf_12 : decode b_Mod_lateOf 12 = .ok (.iload_n 1, 1) := by decide +kernel
theorem d_Mod_lateOf_13 : decode b_Mod_lateOf 13 = .ok (.invokevirtual 146, 3) := by decide +kernel
theorem d_Mod_lateOf_16 : decode b_Mod_lateOf 16 = .ok (.isub, 1) := by decide +kernel
theorem d_Mod_lateOf_17 : decode b_Mod_lateOf 17 = .ok (.ireturn, 1) := by decide +kernel
theorem d_Mod_costBy_0 : decode b_Mod_costBy 0 = .ok (.iload_n 1, 1) := by decide +kernel
theorem d_Mod_costBy_1 : decode b_Mod_costBy 1 = .ok (.ifCond .le 16, 3) := by decide +kernel
theorem d_Mod_costBy_4 : decode b_Mod_costBy 4 = .ok (.iload_n 1, 1) := by decide +kernel
theorem d_Mod_costBy_5 : decode b_Mod_costBy 5 = .ok (.aload_n 0, 1) := by decide +kernel
theorem d_Mod_costBy_6 : decode b_Mod_costBy 6 = .ok (.sipush 200, 3) := by decide +kernel
theorem d_Mod_costBy_9 : decode b_Mod_costBy 9 = .ok (.iconst 3, 1) := by decide +kernel
theorem d_Mod_costBy_10 : decode b_Mod_costBy 10 = .ok (.invokevirtual 132, 3) := by decide +kernel
theorem d_Mod_costBy_13 : decode b_Mod_costBy 13 = .ok (.imul, 1) := by decide +kernel
theorem d_Mod_costBy_14 : decode b_Mod_costBy 14 = .ok (.goto 14, 3) := by decide +kernel
theorem d_Mod_costBy_17 : decode b_Mod_costBy 17 = .ok (.iload_n 1, 1) := by decide +kernel
theorem d_Mod_costBy_18 : decode b_Mod_costBy 18 = .ok (.ineg, 1) := by decide +kernel
theorem d_Mod_costBy_19 : decode b_Mod_costBy 19 = .ok (.aload_n 0, 1) := by decide +kernel
theorem d_Mod_costBy_20 : decode b_Mod_costBy 20 = .ok (.sipush 205, 3) := by decide +kernel
theorem d_Mod_costBy_23 : decode b_Mod_costBy 23 = .ok (.iconst 1, 1) := by decide +kernel
theorem d_Mod_costBy_24 : decode b_Mod_costBy 24 = .ok (.invokevirtual 132, 3) := by decide +kernel
theorem d_Mod_costBy_27 : decode b_Mod_costBy 27 = .ok (.imul, 1) := by decide +kernel
theorem d_Mod_costBy_28 : decode b_Mod_costBy 28 = .ok (.ireturn, 1) := by decide +kernel
theorem d_Mod_of_0 : decode b_Mod_of 0 = .ok (.aload_n 0, 1) := by decide +kernel
theorem d_Mod_of_1 : decode b_Mod_of 1 = .ok (.iload_n 1, 1) := by decide +kernel
theorem d_Mod_of_2 : decode b_Mod_of 2 = .ok (.invokevirtual 149, 3) := by decide +kernel
theorem d_Mod_of_5 : decode b_Mod_of 5 = .ok (.ifCond .eq 13, 3) := by decide +kernel
theorem d_Mod_of_8 : decode b_Mod_of 8 = .ok (.iload_n 2, 1) := by decide +kernel
theorem d_Mod_of_9 : decode b_Mod_of 9 = .ok (.iconst 0, 1) := by decide +kernel
theorem d_Mod_of_10 : decode b_Mod_of 10 = .ok (.bipush 7, 2) := by decide +kernel
theorem d_Mod_of_12 : decode b_Mod_of 12 = .ok (.invokestatic 50, 3) := by decide +kernel
theorem d_Mod_of_15 : decode b_Mod_of 15 = .ok (.ifCond .ne 7, 3) := by decide +kernel
theorem d_Mod_of_18 : decode b_Mod_of 18 = .ok (.sipush (-10001), 3) := by decide +kernel
theorem d_Mod_of_21 : decode b_Mod_of 21 = .ok (.ireturn, 1) := by decide +kernel
theorem d_Mod_of_22 : decode b_Mod_of 22 = .ok (.iload_n 2, 1) := by decide +kernel
theorem d_Mod_of_23 : decode b_Mod_of 23 = .ok (.tableswitch 70 3 7 #[33, 42, 48, 54, 60], 33) := by decide +kernel
theorem d_Mod_of_56 : decode b_Mod_of 56 = .ok (.aload_n 0, 1) := by decide +kernel
theorem d_Mod_of_57 : decode b_Mod_of 57 = .ok (.getfield 9, 3) := by decide +kernel
theorem d_Mod_of_60 : decode b_Mod_of 60 = .ok (.iconst 5, 1) := by decide +kernel
theorem d_Mod_of_61 : decode b_Mod_of 61 = .ok (.iload_n 1, 1) := by decide +kernel
theorem d_Mod_of_62 : decode b_Mod_of 62 = .ok (.iadd, 1) := by decide +kernel
theorem d_Mod_of_63 : decode b_Mod_of 63 = .ok (.iaload, 1) := by decide +kernel
theorem d_Mod_of_64 : decode b_Mod_of 64 = .ok (.ireturn, 1) := by decide +kernel
theorem d_Mod_of_65 : decode b_Mod_of 65 = .ok (.aload_n 0, 1) := by decide +kernel
theorem d_Mod_of_66 : decode b_Mod_of 66 = .ok (.iload_n 1, 1) := by decide +kernel
theorem d_Mod_of_67 : decode b_Mod_of 67 = .ok (.invokevirtual 146, 3) := by decide +kernel
theorem d_Mod_of_70 : decode b_Mod_of 70 = .ok (.ireturn, 1) := by decide +kernel
theorem d_Mod_of_71 : decode b_Mod_of 71 = .ok (.aload_n 0, 1) := by decide +kernel
theorem d_Mod_of_72 : decode b_Mod_of 72 = .ok (.iload_n 1, 1) := by decide +kernel
theorem d_Mod_of_73 : decode b_Mod_of 73 = .ok (.invokevirtual 140, 3) := by decide +kernel
theorem d_Mod_of_76 : decode b_Mod_of 76 = .ok (.ireturn, 1) := by decide +kernel
theorem d_Mod_of_77 : decode b_Mod_of 77 = .ok (.aload_n 0, 1) := by decide +kernel
theorem d_Mod_of_78 : decode b_Mod_of 78 = .ok (.iload_n 1, 1) := by decide +kernel
theorem d_Mod_of_79 : decode b_Mod_of 79 = .ok (.invokevirtual 153, 3) := by decide +kernel
theorem d_Mod_of_82 : decode b_Mod_of 82 = .ok (.ireturn, 1) := by decide +kernel
theorem d_Mod_of_83 : decode b_Mod_of 83 = .ok (.aload_n 0, 1) := by decide +kernel
theorem d_Mod_of_84 : decode b_Mod_of 84 = .ok (.aload_n 0, 1) := by decide +kernel
theorem d_Mod_of_85 : decode b_Mod_of 85 = .ok (.iload_n 1, 1) := by decide +kernel
theorem d_Mod_of_86 : decode b_Mod_of 86 = .ok (.invokevirtual 153, 3) := by decide +kernel
theorem d_Mod_of_89 : decode b_Mod_of 89 = .ok (.invokevirtual 156, 3) := by decide +kernel
theorem d_Mod_of_92 : decode b_Mod_of 92 = .ok (.ireturn, 1) := by decide +kernel
theorem d_Mod_of_93 : decode b_Mod_of 93 = .ok (.aload_n 0, 1) := by decide +kernel
theorem d_Mod_of_94 : decode b_Mod_of 94 = .ok (.getfield 9, 3) := by decide +kernel
theorem d_Mod_of_97 : decode b_Mod_of 97 = .ok (.bipush 18, 2) := by decide +kernel
theorem d_Mod_of_99 : decode b_Mod_of 99 = .ok (.bipush 6, 2) := by decide +kernel
theorem d_Mod_of_101 : decode b_Mod_of 101 = .ok (.iload_n 2, 1) := by decide +kernel
theorem d_Mod_of_102 : decode b_Mod_of 102 = .ok (.imul, 1) := by decide +kernel
theorem d_Mod_of_103 : decode b_Mod_of 103 = .ok (.iadd, 1) := by decide +kernel
theorem d_Mod_of_104 : decode b_Mod_of 104 = .ok (.iload_n 1, 1) := by decide +kernel
theorem d_Mod_of_105 : decode b_Mod_of 105 = .ok (.iadd, 1) := by decide +kernel
theorem d_Mod_of_106 : decode b_Mod_of 106 = .ok (.iaload, 1) := by decide +kernel
theorem d_Mod_of_107 : decode b_Mod_of 107 = .ok (.ireturn, 1) := by decide +kernel
theorem d_Mod_use_0 : decode b_Mod_use 0 = .ok (.aload_n 0, 1) := by decide +kernel
theorem d_Mod_use_1 : decode b_Mod_use 1 = .ok (.iload_n 1, 1) := by decide +kernel
theorem d_Mod_use_2 : decode b_Mod_use 2 = .ok (.invokevirtual 149, 3) := by decide +kernel
theorem d_Mod_use_5 : decode b_Mod_use 5 = .ok (.ifCond .eq 10, 3) := by decide +kernel
theorem d_Mod_use_8 : decode b_Mod_use 8 = .ok (.iload_n 2, 1) := by decide +kernel
theorem d_Mod_use_9 : decode b_Mod_use 9 = .ok (.invokestatic 159, 3) := by decide +kernel
theorem d_Mod_use_12 : decode b_Mod_use 12 = .ok (.ifCond .ne 5, 3) := by decide +kernel
theorem d_Mod_use_15 : decode b_Mod_use 15 = .ok (.iconst (-1), 1) := by decide +kernel
theorem d_Mod_use_16 : decode b_Mod_use 16 = .ok (.ireturn, 1) := by decide +kernel
theorem d_Mod_use_17 : decode b_Mod_use 17 = .ok (.aload_n 0, 1) := by decide +kernel
theorem d_Mod_use_18 : decode b_Mod_use 18 = .ok (.getfield 9, 3) := by decide +kernel
theorem d_Mod_use_21 : decode b_Mod_use 21 = .ok (.bipush 30, 2) := by decide +kernel
theorem d_Mod_use_23 : decode b_Mod_use 23 = .ok (.iload_n 1, 1) := by decide +kernel
theorem d_Mod_use_24 : decode b_Mod_use 24 = .ok (.iadd, 1) := by decide +kernel
theorem d_Mod_use_25 : decode b_Mod_use 25 = .ok (.iaload, 1) := by decide +kernel
theorem d_Mod_use_26 : decode b_Mod_use 26 = .ok (.istore_n 3, 1) := by decide +kernel
theorem d_Mod_use_27 : decode b_Mod_use 27 = .ok (.aload_n 0, 1) := by decide +kernel
theorem d_Mod_use_28 : decode b_Mod_use 28 = .ok (.getfield 9, 3) := by decide +kernel
theorem d_Mod_use_31 : decode b_Mod_use 31 = .ok (.bipush 30, 2) := by decide +kernel
theorem d_Mod_use_33 : decode b_Mod_use 33 = .ok (.iload_n 1, 1) := by decide +kernel
theorem d_Mod_use_34 : decode b_Mod_use 34 = .ok (.iadd, 1) := by decide +kernel
theorem d_Mod_use_35 : decode b_Mod_use 35 = .ok (.iload_n 2, 1) := by decide +kernel
theorem d_Mod_use_36 : decode b_Mod_use 36 = .ok (.iastore, 1) := by decide +kernel
theorem d_Mod_use_37 : decode b_Mod_use 37 = .ok (.iload_n 3, 1) := by decide +kernel
theorem d_Mod_use_38 : decode b_Mod_use 38 = .ok (.ireturn, 1) := by decide +kernel
theorem d_Mod_believe_0 : decode b_Mod_believe 0 = .ok (.aload_n 0, 1) := by decide +kernel
theorem d_Mod_believe_1 : decode b_Mod_believe 1 = .ok (.iload_n 1, 1) := by decide +kernel
theorem d_Mod_believe_2 : decode b_Mod_believe 2 = .ok (.invokevirtual 149, 3) := by decide +kernel
theorem d_Mod_believe_5 : decode b_Mod_believe 5 = .ok (.ifCond .ne 7, 3) := by decide +kernel
theorem d_Mod_believe_8 : decode b_Mod_believe 8 = .ok (.sipush (-10001), 3) := by decide +kernel
theorem d_Mod_believe_11 : decode b_Mod_believe 11 = .ok (.ireturn, 1) := by decide +kernel
theorem d_Mod_believe_12 : decode b_Mod_believe 12 = .ok (.iload_n 2, 1) := by decide +kernel
theorem d_Mod_believe_13 : decode b_Mod_believe 13 = .ok (.bipush (-60), 2) := by decide +kernel
theorem d_Mod_believe_15 : decode b_Mod_believe 15 = .ok (.bipush 60, 2) := by decide +kernel
theorem d_Mod_believe_17 : decode b_Mod_believe 17 = .ok (.invokestatic 50, 3) := by decide +kernel
theorem d_Mod_believe_20 : decode b_Mod_believe 20 = .ok (.ifCond .ne 7, 3) := by decide +kernel
theorem d_Mod_believe_23 : decode b_Mod_believe 23 = .ok (.sipush (-10002), 3) := by decide +kernel
theorem d_Mod_believe_26 : decode b_Mod_believe 26 = .ok (.ireturn, 1) := by decide +kernel
theorem d_Mod_believe_27 : decode b_Mod_believe 27 = .ok (.aload_n 0, 1) := by decide +kernel
theorem d_Mod_believe_28 : decode b_Mod_believe 28 = .ok (.getfield 9, 3) := by decide +kernel
theorem d_Mod_believe_31 : decode b_Mod_believe 31 = .ok (.iconst 5, 1) := by decide +kernel
theorem d_Mod_believe_32 : decode b_Mod_believe 32 = .ok (.iload_n 1, 1) := by decide +kernel
theorem d_Mod_believe_33 : decode b_Mod_believe 33 = .ok (.iadd, 1) := by decide +kernel
theorem d_Mod_believe_34 : decode b_Mod_believe 34 = .ok (.iaload, 1) := by decide +kernel
theorem d_Mod_believe_35 : decode b_Mod_believe 35 = .ok (.istore_n 3, 1) := by decide +kernel
theorem d_Mod_believe_36 : decode b_Mod_believe 36 = .ok (.aload_n 0, 1) := by decide +kernel
theorem d_Mod_believe_37 : decode b_Mod_believe 37 = .ok (.getfield 9, 3) := by decide +kernel
theorem d_Mod_believe_40 : decode b_Mod_believe 40 = .ok (.iconst 5, 1) := by decide +kernel
theorem d_Mod_believe_41 : decode b_Mod_believe 41 = .ok (.iload_n 1, 1) := by decide +kernel
theorem d_Mod_believe_42 : decode b_Mod_believe 42 = .ok (.iadd, 1) := by decide +kernel
theorem d_Mod_believe_43 : decode b_Mod_believe 43 = .ok (.iload_n 2, 1) := by decide +kernel
theorem d_Mod_believe_44 : decode b_Mod_believe 44 = .ok (.iastore, 1) := by decide +kernel
theorem d_Mod_believe_45 : decode b_Mod_believe 45 = .ok (.iload_n 3, 1) := by decide +kernel
theorem d_Mod_believe_46 : decode b_Mod_believe 46 = .ok (.ireturn, 1) := by decide +kernel
theorem d_Mod_row_0 : decode b_Mod_row 0 = .ok (.aload_n 0, 1) := by decide +kernel
theorem d_Mod_row_1 : decode b_Mod_row 1 = .ok (.iload_n 1, 1) := by decide +kernel
theorem d_Mod_row_2 : decode b_Mod_row 2 = .ok (.invokevirtual 149, 3) := by decide +kernel
theorem d_Mod_row_5 : decode b_Mod_row 5 = .ok (.ifCond .eq 12, 3) := by decide +kernel
theorem d_Mod_row_8 : decode b_Mod_row 8 = .ok (.iload_n 2, 1) := by decide +kernel
theorem d_Mod_row_9 : decode b_Mod_row 9 = .ok (.iconst 0, 1) := by decide +kernel
theorem d_Mod_row_10 : decode b_Mod_row 10 = .ok (.iconst 3, 1) := by decide +kernel
theorem d_Mod_row_11 : decode b_Mod_row 11 = .ok (.invokestatic 50, 3) := by decide +kernel
theorem d_Mod_row_14 : decode b_Mod_row 14 = .ok (.ifCond .ne 5, 3) := by decide +kernel
theorem d_Mod_row_17 : decode b_Mod_row 17 = .ok (.iconst (-1), 1) := by decide +kernel
theorem d_Mod_row_18 : decode b_Mod_row 18 = .ok (.ireturn, 1) := by decide +kernel
theorem d_Mod_row_19 : decode b_Mod_row 19 = .ok (.iload_n 3, 1) := by decide +kernel
theorem d_Mod_row_20 : decode b_Mod_row 20 = .ok (.iconst 0, 1) := by decide +kernel
theorem d_Mod_row_21 : decode b_Mod_row 21 = .ok (.bipush 9, 2) := by decide +kernel
theorem d_Mod_row_23 : decode b_Mod_row 23 = .ok (.invokestatic 50, 3) := by decide +kernel
theorem d_Mod_row_26 : decode b_Mod_row 26 = .ok (.ifCond .ne 6, 3) := by decide +kernel
theorem d_Mod_row_29 : decode b_Mod_row 29 = .ok (.bipush (-2), 2) := by decide +kernel
theorem d_Mod_row_31 : decode b_Mod_row 31 = .ok (.ireturn, 1) := by decide +kernel
theorem d_Mod_row_32 : decode b_Mod_row 32 = .ok (.aload_n 0, 1) := by decide +kernel
theorem d_Mod_row_33 : decode b_Mod_row 33 = .ok (.getfield 9, 3) := by decide +kernel
theorem d_Mod_row_36 : decode b_Mod_row 36 = .ok (.bipush 18, 2) := by decide +kernel
theorem d_Mod_row_38 : decode b_Mod_row 38 = .ok (.iload_n 1, 1) := by decide +kernel
theorem d_Mod_row_39 : decode b_Mod_row 39 = .ok (.iadd, 1) := by decide +kernel
theorem d_Mod_row_40 : decode b_Mod_row 40 = .ok (.iaload, 1) := by decide +kernel
theorem d_Mod_row_41 : decode b_Mod_row 41 = .ok (.bipush 6, 2) := by decide +kernel
theorem d_Mod_row_43 : decode b_Mod_row 43 = .ok (.if_icmp .eq 6, 3) := by decide +kernel
theorem d_Mod_row_46 : decode b_Mod_row 46 = .ok (.bipush (-3), 2) := by decide +kernel
theorem d_Mod_row_48 : decode b_Mod_row 48 = .ok (.ireturn, 1) := by decide +kernel
theorem d_Mod_row_49 : decode b_Mod_row 49 = .ok (.aload_n 0, 1) := by decide +kernel
theorem d_Mod_row_50 : decode b_Mod_row 50 = .ok (.getfield 9, 3) := by decide +kernel
theorem d_Mod_row_53 : decode b_Mod_row 53 = .ok (.bipush 36, 2) := by decide +kernel
theorem d_Mod_row_55 : decode b_Mod_row 55 = .ok (.iconst 4, 1) := by decide +kernel
theorem d_Mod_row_56 : decode b_Mod_row 56 = .ok (.iload_n 1, 1) := by decide +kernel
theorem d_Mod_row_57 : decode b_Mod_row 57 = .ok (.imul, 1) := by decide +kernel
theorem d_Mod_row_58 : decode b_Mod_row 58 = .ok (.iadd, 1) := by decide +kernel
theorem d_Mod_row_59 : decode b_Mod_row 59 = .ok (.iload_n 2, 1) := by decide +kernel
theorem d_Mod_row_60 : decode b_Mod_row 60 = .ok (.iadd, 1) := by decide +kernel
theorem d_Mod_row_61 : decode b_Mod_row 61 = .ok (.iaload, 1) := by decide +kernel
theorem d_Mod_row_62 : decode b_Mod_row 62 = .ok (.istore 4, 2) := by decide +kernel
theorem d_Mod_row_64 : decode b_Mod_row 64 = .ok (.aload_n 0, 1) := by decide +kernel
theorem d_Mod_row_65 : decode b_Mod_row 65 = .ok (.getfield 9, 3) := by decide +kernel
theorem d_Mod_row_68 : decode b_Mod_row 68 = .ok (.bipush 36, 2) := by decide +kernel
theorem d_Mod_row_70 : decode b_Mod_row 70 = .ok (.iconst 4, 1) := by decide +kernel
theorem d_Mod_row_71 : decode b_Mod_row 71 = .ok (.iload_n 1, 1) := by decide +kernel
theorem d_Mod_row_72 : decode b_Mod_row 72 = .ok (.imul, 1) := by decide +kernel
theorem d_Mod_row_73 : decode b_Mod_row 73 = .ok (.iadd, 1) := by decide +kernel
theorem d_Mod_row_74 : decode b_Mod_row 74 = .ok (.iload_n 2, 1) := by decide +kernel
theorem d_Mod_row_75 : decode b_Mod_row 75 = .ok (.iadd, 1) := by decide +kernel
theorem d_Mod_row_76 : decode b_Mod_row 76 = .ok (.iload_n 3, 1) := by decide +kernel
theorem d_Mod_row_77 : decode b_Mod_row 77 = .ok (.iastore, 1) := by decide +kernel
theorem d_Mod_row_78 : decode b_Mod_row 78 = .ok (.iload 4, 2) := by decide +kernel
theorem d_Mod_row_80 : decode b_Mod_row 80 = .ok (.ireturn, 1) := by decide +kernel
theorem d_Mod_sets_0 : decode b_Mod_sets 0 = .ok (.aload_n 0, 1) := by decide +kernel
theorem d_Mod_sets_1 : decode b_Mod_sets 1 = .ok (.getfield 9, 3) := by decide +kernel
theorem d_Mod_sets_4 : decode b_Mod_sets 4 = .ok (.iconst 4, 1) := by decide +kernel
theorem d_Mod_sets_5 : decode b_Mod_sets 5 = .ok (.iload_n 2, 1) := by decide +kernel
theorem d_Mod_sets_6 : decode b_Mod_sets 6 = .ok (.aload_n 0, 1) := by decide +kernel
theorem d_Mod_sets_7 : decode b_Mod_sets 7 = .ok (.getfield 9, 3) := by decide +kernel
theorem d_Mod_sets_10 : decode b_Mod_sets 10 = .ok (.iconst 0, 1) := by decide +kernel
theorem d_Mod_sets_11 : decode b_Mod_sets 11 = .ok (.iload_n 1, 1) := by decide +kernel
theorem d_Mod_sets_12 : decode b_Mod_sets 12 = .ok (.iadd, 1) := by decide +kernel
theorem d_Mod_sets_13 : decode b_Mod_sets 13 = .ok (.iaload, 1) := by decide +kernel
theorem d_Mod_sets_14 : decode b_Mod_sets 14 = .ok (.isub, 1) := by decide +kernel
theorem d_Mod_sets_15 : decode b_Mod_sets 15 = .ok (.iastore, 1) := by decide +kernel
theorem d_Mod_sets_16 : decode b_Mod_sets 16 = .ok (.aload_n 0, 1) := by decide +kernel
theorem d_Mod_sets_17 : decode b_Mod_sets 17 = .ok (.getfield 9, 3) := by decide +kernel
theorem d_Mod_sets_20 : decode b_Mod_sets 20 = .ok (.iconst 0, 1) := by decide +kernel
theorem d_Mod_sets_21 : decode b_Mod_sets 21 = .ok (.iload_n 1, 1) := by decide +kernel
theorem d_Mod_sets_22 : decode b_Mod_sets 22 = .ok (.iadd, 1) := by decide +kernel
theorem d_Mod_sets_23 : decode b_Mod_sets 23 = .ok (.iload_n 2, 1) := by decide +kernel
theorem d_Mod_sets_24 : decode b_Mod_sets 24 = .ok (.iastore, 1) := by decide +kernel
theorem d_Mod_sets_25 : decode b_Mod_sets 25 = .ok (.aload_n 0, 1) := by decide +kernel
theorem d_Mod_sets_26 : decode b_Mod_sets 26 = .ok (.getfield 9, 3) := by decide +kernel
theorem d_Mod_sets_29 : decode b_Mod_sets 29 = .ok (.iconst 3, 1) := by decide +kernel
theorem d_Mod_sets_30 : decode b_Mod_sets 30 = .ok (.iconst 0, 1) := by decide +kernel
theorem d_Mod_sets_31 : decode b_Mod_sets 31 = .ok (.iastore, 1) := by decide +kernel
theorem d_Mod_sets_32 : decode b_Mod_sets 32 = .ok (.return_, 1) := by decide +kernel
theorem d_Mod_set_0 : decode b_Mod_set 0 = .ok (.iload_n 1, 1) := by decide +kernel
theorem d_Mod_set_1 : decode b_Mod_set 1 = .ok (.invokestatic 159, 3) := by decide +kernel
theorem d_Mod_set_4 : decode b_Mod_set 4 = .ok (.ifCond .ne 7, 3) := by decide +kernel
theorem d_Mod_set_7 : decode b_Mod_set 7 = .ok (.sipush (-10001), 3) := by decide +kernel
theorem d_Mod_set_10 : decode b_Mod_set 10 = .ok (.ireturn, 1) := by decide +kernel
theorem d_Mod_set_11 : decode b_Mod_set 11 = .ok (.iload_n 2, 1) := by decide +kernel
theorem d_Mod_set_12 : decode b_Mod_set 12 = .ok (.bipush (-60), 2) := by decide +kernel
theorem d_Mod_set_14 : decode b_Mod_set 14 = .ok (.bipush 60, 2) := by decide +kernel
theorem d_Mod_set_16 : decode b_Mod_set 16 = .ok (.invokestatic 50, 3) := by decide +kernel
theorem d_Mod_set_19 : decode b_Mod_set 19 = .ok (.ifCond .ne 7, 3) := by decide +kernel
theorem d_Mod_set_22 : decode b_Mod_set 22 = .ok (.sipush (-10002), 3) := by decide +kernel
theorem d_Mod_set_25 : decode b_Mod_set 25 = .ok (.ireturn, 1) := by decide +kernel
theorem d_Mod_set_26 : decode b_Mod_set 26 = .ok (.aload_n 0, 1) := by decide +kernel
theorem d_Mod_set_27 : decode b_Mod_set 27 = .ok (.iload_n 1, 1) := by decide +kernel
theorem d_Mod_set_28 : decode b_Mod_set 28 = .ok (.iload_n 2, 1) := by decide +kernel
theorem d_Mod_set_29 : decode b_Mod_set 29 = .ok (.invokevirtual 162, 3) := by decide +kernel
theorem d_Mod_set_32 : decode b_Mod_set 32 = .ok (.aload_n 0, 1) := by decide +kernel
theorem d_Mod_set_33 : decode b_Mod_set 33 = .ok (.getfield 9, 3) := by decide +kernel
theorem d_Mod_set_36 : decode b_Mod_set 36 = .ok (.iconst 4, 1) := by decide +kernel
theorem d_Mod_set_37 : decode b_Mod_set 37 = .ok (.iaload, 1) := by decide +kernel
theorem d_Mod_set_38 : decode b_Mod_set 38 = .ok (.ireturn, 1) := by decide +kernel
theorem d_Mod_hear_0 : decode b_Mod_hear 0 = .ok (.aload_n 0, 1) := by decide +kernel
theorem d_Mod_hear_1 : decode b_Mod_hear 1 = .ok (.iload_n 1, 1) := by decide +kernel
theorem d_Mod_hear_2 : decode b_Mod_hear 2 = .ok (.invokevirtual 149, 3) := by decide +kernel
theorem d_Mod_hear_5 : decode b_Mod_hear 5 = .ok (.ifCond .ne 7, 3) := by decide +kernel
theorem d_Mod_hear_8 : decode b_Mod_hear 8 = .ok (.sipush (-10001), 3) := by decide +kernel
theorem d_Mod_hear_11 : decode b_Mod_hear 11 = .ok (.ireturn, 1) := by decide +kernel
theorem d_Mod_hear_12 : decode b_Mod_hear 12 = .ok (.aload_n 0, 1) := by decide +kernel
theorem d_Mod_hear_13 : decode b_Mod_hear 13 = .ok (.getfield 9, 3) := by decide +kernel
theorem d_Mod_hear_16 : decode b_Mod_hear 16 = .ok (.iconst 5, 1) := by decide +kernel
theorem d_Mod_hear_17 : decode b_Mod_hear 17 = .ok (.iload_n 1, 1) := by decide +kernel
theorem d_Mod_hear_18 : decode b_Mod_hear 18 = .ok (.iadd, 1) := by decide +kernel
theorem d_Mod_hear_19 : decode b_Mod_hear 19 = .ok (.aload_n 0, 1) := by decide +kernel
theorem d_Mod_hear_20 : decode b_Mod_hear 20 = .ok (.iload_n 1, 1) := by decide +kernel
theorem d_Mod_hear_21 : decode b_Mod_hear 21 = .ok (.invokevirtual 143, 3) := by decide +kernel
theorem d_Mod_hear_24 : decode b_Mod_hear 24 = .ok (.iastore, 1) := by decide +kernel
theorem d_Mod_hear_25 : decode b_Mod_hear 25 = .ok (.aload_n 0, 1) := by decide +kernel
theorem d_Mod_hear_26 : decode b_Mod_hear 26 = .ok (.getfield 9, 3) := by decide +kernel
theorem d_Mod_hear_29 : decode b_Mod_hear 29 = .ok (.iconst 5, 1) := by decide +kernel
theorem d_Mod_hear_30 : decode b_Mod_hear 30 = .ok (.iload_n 1, 1) := by decide +kernel
theorem d_Mod_hear_31 : decode b_Mod_hear 31 = .ok (.iadd, 1) := by decide +kernel
theorem d_Mod_hear_32 : decode b_Mod_hear 32 = .ok (.iaload, 1) := by decide +kernel
theorem d_Mod_hear_33 : decode b_Mod_hear 33 = .ok (.ireturn, 1) := by decide +kernel
theorem d_Mod_tell_0 : decode b_Mod_tell 0 = .ok (.aload_n 0, 1) := by decide +kernel
theorem d_Mod_tell_1 : decode b_Mod_tell 1 = .ok (.iload_n 1, 1) := by decide +kernel
theorem d_Mod_tell_2 : decode b_Mod_tell 2 = .ok (.invokevirtual 149, 3) := by decide +kernel
theorem d_Mod_tell_5 : decode b_Mod_tell 5 = .ok (.ifCond .eq 11, 3) := by decide +kernel
theorem d_Mod_tell_8 : decode b_Mod_tell 8 = .ok (.aload_n 0, 1) := by decide +kernel
theorem d_Mod_tell_9 : decode b_Mod_tell 9 = .ok (.iload_n 2, 1) := by decide +kernel
theorem d_Mod_tell_10 : decode b_Mod_tell 10 = .ok (.invokevirtual 149, 3) := by decide +kernel
theorem d_Mod_tell_13 : decode b_Mod_tell 13 = .ok (.ifCond .ne 7, 3) := by decide +kernel
theorem d_Mod_tell_16 : decode b_Mod_tell 16 = .ok (.sipush (-10001), 3) := by decide +kernel
theorem d_Mod_tell_19 : decode b_Mod_tell 19 = .ok (.ireturn, 1) := by decide +kernel
theorem d_Mod_tell_20 : decode b_Mod_tell 20 = .ok (.iload_n 1, 1) := by decide +kernel
theorem d_Mod_tell_21 : decode b_Mod_tell 21 = .ok (.iload_n 2, 1) := by decide +kernel
theorem d_Mod_tell_22 : decode b_Mod_tell 22 = .ok (.if_icmp .ne 7, 3) := by decide +kernel
theorem d_Mod_tell_25 : decode b_Mod_tell 25 = .ok (.sipush (-10002), 3) := by decide +kernel
theorem d_Mod_tell_28 : decode b_Mod_tell 28 = .ok (.ireturn, 1) := by decide +kernel
theorem d_Mod_tell_29 : decode b_Mod_tell 29 = .ok (.aload_n 0, 1) := by decide +kernel
theorem d_Mod_tell_30 : decode b_Mod_tell 30 = .ok (.getfield 9, 3) := by decide +kernel
theorem d_Mod_tell_33 : decode b_Mod_tell 33 = .ok (.bipush 30, 2) := by decide +kernel
theorem d_Mod_tell_35 : decode b_Mod_tell 35 = .ok (.iload_n 1, 1) := by decide +kernel
theorem d_Mod_tell_36 : decode b_Mod_tell 36 = .ok (.iadd, 1) := by decide +kernel
theorem d_Mod_tell_37 : decode b_Mod_tell 37 = .ok (.iaload, 1) := by decide +kernel
theorem d_Mod_tell_38 : decode b_Mod_tell 38 = .ok (.aload_n 0, 1) := by decide +kernel
theorem d_Mod_tell_39 : decode b_Mod_tell 39 = .ok (.getfield 9, 3) := by decide +kernel
theorem d_Mod_tell_42 : decode b_Mod_tell 42 = .ok (.bipush 30, 2) := by decide +kernel
theorem d_Mod_tell_44 : decode b_Mod_tell 44 = .ok (.iload_n 2, 1) := by decide +kernel
theorem d_Mod_tell_45 : decode b_Mod_tell 45 = .ok (.iadd, 1) := by decide +kernel
theorem d_Mod_tell_46 : decode b_Mod_tell 46 = .ok (.iaload, 1) := by decide +kernel
theorem d_Mod_tell_47 : decode b_Mod_tell 47 = .ok (.if_icmp .eq 7, 3) := by decide +kernel
theorem d_Mod_tell_50 : decode b_Mod_tell 50 = .ok (.sipush (-10003), 3) := by decide +kernel
theorem d_Mod_tell_53 : decode b_Mod_tell 53 = .ok (.ireturn, 1) := by decide +kernel
theorem d_Mod_tell_54 : decode b_Mod_tell 54 = .ok (.aload_n 0, 1) := by decide +kernel
theorem d_Mod_tell_55 : decode b_Mod_tell 55 = .ok (.getfield 9, 3) := by decide +kernel
theorem d_Mod_tell_58 : decode b_Mod_tell 58 = .ok (.iconst 5, 1) := by decide +kernel
theorem d_Mod_tell_59 : decode b_Mod_tell 59 = .ok (.iload_n 2, 1) := by decide +kernel
theorem d_Mod_tell_60 : decode b_Mod_tell 60 = .ok (.iadd, 1) := by decide +kernel
theorem d_Mod_tell_61 : decode b_Mod_tell 61 = .ok (.aload_n 0, 1) := by decide +kernel
theorem d_Mod_tell_62 : decode b_Mod_tell 62 = .ok (.getfield 9, 3) := by decide +kernel
theorem d_Mod_tell_65 : decode b_Mod_tell 65 = .ok (.iconst 5, 1) := by decide +kernel
theorem d_Mod_tell_66 : decode b_Mod_tell 66 = .ok (.iload_n 1, 1) := by decide +kernel
theorem d_Mod_tell_67 : decode b_Mod_tell 67 = .ok (.iadd, 1) := by decide +kernel
theorem d_Mod_tell_68 : decode b_Mod_tell 68 = .ok (.iaload, 1) := by decide +kernel
theorem d_Mod_tell_69 : decode b_Mod_tell 69 = .ok (.iastore, 1) := by decide +kernel
theorem d_Mod_tell_70 : decode b_Mod_tell 70 = .ok (.aload_n 0, 1) := by decide +kernel
theorem d_Mod_tell_71 : decode b_Mod_tell 71 = .ok (.getfield 9, 3) := by decide +kernel
theorem d_Mod_tell_74 : decode b_Mod_tell 74 = .ok (.iconst 5, 1) := by decide +kernel
theorem d_Mod_tell_75 : decode b_Mod_tell 75 = .ok (.iload_n 2, 1) := by decide +kernel
theorem d_Mod_tell_76 : decode b_Mod_tell 76 = .ok (.iadd, 1) := by decide +kernel
theorem d_Mod_tell_77 : decode b_Mod_tell 77 = .ok (.iaload, 1) := by decide +kernel
theorem d_Mod_tell_78 : decode b_Mod_tell 78 = .ok (.ireturn, 1) := by decide +kernel
theorem d_Mod_told_0 : decode b_Mod_told 0 = .ok (.iload_n 1, 1) := by decide +kernel
theorem d_Mod_told_1 : decode b_Mod_told 1 = .ok (.bipush 10, 2) := by decide +kernel
theorem d_Mod_told_3 : decode b_Mod_told 3 = .ok (.isub, 1) := by decide +kernel
theorem d_Mod_told_4 : decode b_Mod_told 4 = .ok (.invokestatic 159, 3) := by decide +kernel
theorem d_Mod_told_7 : decode b_Mod_told 7 = .ok (.ifCond .eq 15, 3) := by decide +kernel
theorem d_Mod_told_10 : decode b_Mod_told 10 = .ok (.aload_n 0, 1) := by decide +kernel
theorem d_Mod_told_11 : decode b_Mod_told 11 = .ok (.getfield 9, 3) := by decide +kernel
theorem d_Mod_told_14 : decode b_Mod_told 14 = .ok (.iconst 0, 1) := by decide +kernel
theorem d_Mod_told_15 : decode b_Mod_told 15 = .ok (.iload_n 1, 1) := by decide +kernel
theorem d_Mod_told_16 : decode b_Mod_told 16 = .ok (.iadd, 1) := by decide +kernel
theorem d_Mod_told_17 : decode b_Mod_told 17 = .ok (.bipush 10, 2) := by decide +kernel
theorem d_Mod_told_19 : decode b_Mod_told 19 = .ok (.isub, 1) := by decide +kernel
theorem d_Mod_told_20 : decode b_Mod_told 20 = .ok (.iaload, 1) := by decide +kernel
theorem d_Mod_told_21 : decode b_Mod_told 21 = .ok (.ireturn, 1) := by decide +kernel
theorem d_Mod_told_22 : decode b_Mod_told 22 = .ok (.iload_n 1, 1) := by decide +kernel
theorem d_Mod_told_23 : decode b_Mod_told 23 = .ok (.tableswitch 72 0 4 #[33, 40, 47, 54, 63], 33) := by decide +kernel
theorem d_Mod_told_56 : decode b_Mod_told 56 = .ok (.aload_n 0, 1) := by decide +kernel
theorem d_Mod_told_57 : decode b_Mod_told 57 = .ok (.getfield 9, 3) := by decide +kernel
theorem d_Mod_told_60 : decode b_Mod_told 60 = .ok (.iconst 2, 1) := by decide +kernel
theorem d_Mod_told_61 : decode b_Mod_told 61 = .ok (.iaload, 1) := by decide +kernel
theorem d_Mod_told_62 : decode b_Mod_told 62 = .ok (.ireturn, 1) := by decide +kernel
theorem d_Mod_told_63 : decode b_Mod_told 63 = .ok (.aload_n 0, 1) := by decide +kernel
theorem d_Mod_told_64 : decode b_Mod_told 64 = .ok (.getfield 9, 3) := by decide +kernel
theorem d_Mod_told_67 : decode b_Mod_told 67 = .ok (.iconst 3, 1) := by decide +kernel
theorem d_Mod_told_68 : decode b_Mod_told 68 = .ok (.iaload, 1) := by decide +kernel
theorem d_Mod_told_69 : decode b_Mod_told 69 = .ok (.ireturn, 1) := by decide +kernel
theorem d_Mod_told_70 : decode b_Mod_told 70 = .ok (.aload_n 0, 1) := by decide +kernel
theorem d_Mod_told_71 : decode b_Mod_told 71 = .ok (.getfield 9, 3) := by decide +kernel
theorem d_Mod_told_74 : decode b_Mod_told 74 = .ok (.iconst 4, 1) := by decide +kernel
theorem d_Mod_told_75 : decode b_Mod_told 75 = .ok (.iaload, 1) := by decide +kernel
theorem d_Mod_told_76 : decode b_Mod_told 76 = .ok (.ireturn, 1) := by decide +kernel
theorem d_Mod_told_77 : decode b_Mod_told 77 = .ok (.aload_n 0, 1) := by decide +kernel
theorem d_Mod_told_78 : decode b_Mod_told 78 = .ok (.sipush 200, 3) := by decide +kernel
theorem d_Mod_told_81 : decode b_Mod_told 81 = .ok (.iconst 3, 1) := by decide +kernel
theorem d_Mod_told_82 : decode b_Mod_told 82 = .ok (.invokevirtual 132, 3) := by decide +kernel
theorem d_Mod_told_85 : decode b_Mod_told 85 = .ok (.ireturn, 1) := by decide +kernel
theorem d_Mod_told_86 : decode b_Mod_told 86 = .ok (.aload_n 0, 1) := by decide +kernel
theorem d_Mod_told_87 : decode b_Mod_told 87 = .ok (.sipush 205, 3) := by decide +kernel
theorem d_Mod_told_90 : decode b_Mod_told 90 = .ok (.iconst 1, 1) := by decide +kernel
theorem d_Mod_told_91 : decode b_Mod_told 91 = .ok (.invokevirtual 132, 3) := by decide +kernel
theorem d_Mod_told_94 : decode b_Mod_told 94 = .ok (.ireturn, 1) := by decide +kernel
theorem d_Mod_told_95 : decode b_Mod_told 95 = .ok (.sipush (-10001), 3) := by decide +kernel
theorem d_Mod_told_98 : decode b_Mod_told 98 = .ok (.ireturn, 1) := by decide +kernel
theorem d_Mod_costOfAll_0 : decode b_Mod_costOfAll 0 = .ok (.iconst 0, 1) := by decide +kernel
theorem d_Mod_costOfAll_1 : decode b_Mod_costOfAll 1 = .ok (.istore_n 1, 1) := by decide +kernel
theorem d_Mod_costOfAll_2 : decode b_Mod_costOfAll 2 = .ok (.iconst 0, 1) := by decide +kernel
theorem d_Mod_costOfAll_3 : decode b_Mod_costOfAll 3 = .ok (.istore_n 2, 1) := by decide +kernel
theorem d_Mod_costOfAll_4 : decode b_Mod_costOfAll 4 = .ok (.iload_n 2, 1) := by decide +kernel
theorem d_Mod_costOfAll_5 : decode b_Mod_costOfAll 5 = .ok (.aload_n 0, 1) := by decide +kernel
theorem d_Mod_costOfAll_6 : decode b_Mod_costOfAll 6 = .ok (.getfield 9, 3) := by decide +kernel
theorem d_Mod_costOfAll_9 : decode b_Mod_costOfAll 9 = .ok (.bipush 11, 2) := by decide +kernel
theorem d_Mod_costOfAll_11 : decode b_Mod_costOfAll 11 = .ok (.iaload, 1) := by decide +kernel
theorem d_Mod_costOfAll_12 : decode b_Mod_costOfAll 12 = .ok (.if_icmp .ge 26, 3) := by decide +kernel
theorem d_Mod_costOfAll_15 : decode b_Mod_costOfAll 15 = .ok (.iload_n 1, 1) := by decide +kernel
theorem d_Mod_costOfAll_16 : decode b_Mod_costOfAll 16 = .ok (.aload_n 0, 1) := by decide +kernel
theorem d_Mod_costOfAll_17 : decode b_Mod_costOfAll 17 = .ok (.aload_n 0, 1) := by decide +kernel
theorem d_Mod_costOfAll_18 : decode b_Mod_costOfAll 18 = .ok (.iload_n 2, 1) := by decide +kernel
theorem d_Mod_costOfAll_19 : decode b_Mod_costOfAll 19 = .ok (.invokevirtual 153, 3) := by decide +kernel
theorem d_Mod_costOfAll_22 : decode b_Mod_costOfAll 22 = .ok (.aload_n 0, 1) := by decide +kernel
theorem d_Mod_costOfAll_23 : decode b_Mod_costOfAll 23 = .ok (.getfield 166, 3) := by decide +kernel
theorem d_Mod_costOfAll_26 : decode b_Mod_costOfAll 26 = .ok (.isub, 1) := by decide +kernel
theorem d_Mod_costOfAll_27 : decode b_Mod_costOfAll 27 = .ok (.invokevirtual 156, 3) := by decide +kernel
theorem d_Mod_costOfAll_30 : decode b_Mod_costOfAll 30 = .ok (.iadd, 1) := by decide +kernel
theorem d_Mod_costOfAll_31 : decode b_Mod_costOfAll 31 = .ok (.istore_n 1, 1) := by decide +kernel
theorem d_Mod_costOfAll_32 : decode b_Mod_costOfAll 32 = .ok (.iinc 2 1, 3) := by decide +kernel
theorem d_Mod_costOfAll_35 : decode b_Mod_costOfAll 35 = .ok (.goto (-31), 3) := by decide +kernel
theorem d_Mod_costOfAll_38 : decode b_Mod_costOfAll 38 = .ok (.iload_n 1, 1) := by decide +kernel
theorem d_Mod_costOfAll_39 : decode b_Mod_costOfAll 39 = .ok (.ireturn, 1) := by decide +kernel
theorem d_Mod_goes_0 : decode b_Mod_goes 0 = .ok (.aload_n 0, 1) := by decide +kernel
theorem d_Mod_goes_1 : decode b_Mod_goes 1 = .ok (.invokevirtual 169, 3) := by decide +kernel
theorem d_Mod_goes_4 : decode b_Mod_goes 4 = .ok (.istore_n 1, 1) := by decide +kernel
theorem d_Mod_goes_5 : decode b_Mod_goes 5 = .ok (.iconst 0, 1) := by decide +kernel
theorem d_Mod_goes_6 : decode b_Mod_goes 6 = .ok (.istore_n 2, 1) := by decide +kernel
theorem d_Mod_goes_7 : decode b_Mod_goes 7 = .ok (.iload_n 2, 1) := by decide +kernel
theorem d_Mod_goes_8 : decode b_Mod_goes 8 = .ok (.aload_n 0, 1) := by decide +kernel
theorem d_Mod_goes_9 : decode b_Mod_goes 9 = .ok (.getfield 9, 3) := by decide +kernel
theorem d_Mod_goes_12 : decode b_Mod_goes 12 = .ok (.bipush 11, 2) := by decide +kernel
theorem d_Mod_goes_14 : decode b_Mod_goes 14 = .ok (.iaload, 1) := by decide +kernel
theorem d_Mod_goes_15 : decode b_Mod_goes 15 = .ok (.if_icmp .ge 73, 3) := by decide +kernel
theorem d_Mod_goes_18 : decode b_Mod_goes 18 = .ok (.aload_n 0, 1) := by decide +kernel
theorem d_Mod_goes_19 : decode b_Mod_goes 19 = .ok (.getfield 9, 3) := by decide +kernel
theorem d_Mod_goes_22 : decode b_Mod_goes 22 = .ok (.bipush 18, 2) := by decide +kernel
theorem d_Mod_goes_24 : decode b_Mod_goes 24 = .ok (.iload_n 2, 1) := by decide +kernel
theorem d_Mod_goes_25 : decode b_Mod_goes 25 = .ok (.iadd, 1) := by decide +kernel
theorem d_Mod_goes_26 : decode b_Mod_goes 26 = .ok (.iaload, 1) := by decide +kernel
theorem d_Mod_goes_27 : decode b_Mod_goes 27 = .ok (.iconst 1, 1) := by decide +kernel
theorem d_Mod_goes_28 : decode b_Mod_goes 28 = .ok (.if_icmp .eq 16, 3) := by decide +kernel
theorem d_Mod_goes_31 : decode b_Mod_goes 31 = .ok (.aload_n 0, 1) := by decide +kernel
theorem d_Mod_goes_32 : decode b_Mod_goes 32 = .ok (.getfield 9, 3) := by decide +kernel
theorem d_Mod_goes_35 : decode b_Mod_goes 35 = .ok (.bipush 18, 2) := by decide +kernel
theorem d_Mod_goes_37 : decode b_Mod_goes 37 = .ok (.iload_n 2, 1) := by decide +kernel
theorem d_Mod_goes_38 : decode b_Mod_goes 38 = .ok (.iadd, 1) := by decide +kernel
theorem d_Mod_goes_39 : decode b_Mod_goes 39 = .ok (.iaload, 1) := by decide +kernel
theorem d_Mod_goes_40 : decode b_Mod_goes 40 = .ok (.iconst 4, 1) := by decide +kernel
theorem d_Mod_goes_41 : decode b_Mod_goes 41 = .ok (.if_icmp .ne 41, 3) := by decide +kernel
theorem d_Mod_goes_44 : decode b_Mod_goes 44 = .ok (.aload_n 0, 1) := by decide +kernel
theorem d_Mod_goes_45 : decode b_Mod_goes 45 = .ok (.getfield 9, 3) := by decide +kernel
theorem d_Mod_goes_48 : decode b_Mod_goes 48 = .ok (.iconst 5, 1) := by decide +kernel
theorem d_Mod_goes_49 : decode b_Mod_goes 49 = .ok (.iload_n 2, 1) := by decide +kernel
theorem d_Mod_goes_50 : decode b_Mod_goes 50 = .ok (.iadd, 1) := by decide +kernel
theorem d_Mod_goes_51 : decode b_Mod_goes 51 = .ok (.dup2, 1) := by decide +kernel
theorem d_Mod_goes_52 : decode b_Mod_goes 52 = .ok (.iaload, 1) := by decide +kernel
theorem d_Mod_goes_53 : decode b_Mod_goes 53 = .ok (.aload_n 0, 1) := by decide +kernel
theorem d_Mod_goes_54 : decode b_Mod_goes 54 = .ok (.getfield 9, 3) := by decide +kernel
theorem d_Mod_goes_57 : decode b_Mod_goes 57 = .ok (.bipush 24, 2) := by decide +kernel
theorem d_Mod_goes_59 : decode b_Mod_goes 59 = .ok (.iload_n 2, 1) := by decide +kernel
theorem d_Mod_goes_60 : decode b_Mod_goes 60 = .ok (.iadd, 1) := by decide +kernel
theorem d_Mod_goes_61 : decode b_Mod_goes 61 = .ok (.iaload, 1) := by decide +kernel
theorem d_Mod_goes_62 : decode b_Mod_goes 62 = .ok (.aload_n 0, 1) := by decide +kernel
theorem d_Mod_goes_63 : decode b_Mod_goes 63 = .ok (.iload_n 2, 1) := by decide +kernel
theorem d_Mod_goes_64 : decode b_Mod_goes 64 = .ok (.invokevirtual 143, 3) := by decide +kernel
theorem d_Mod_goes_67 : decode b_Mod_goes 67 = .ok (.aload_n 0, 1) := by decide +kernel
theorem d_Mod_goes_68 : decode b_Mod_goes 68 = .ok (.getfield 9, 3) := by decide +kernel
theorem d_Mod_goes_71 : decode b_Mod_goes 71 = .ok (.iconst 5, 1) := by decide +kernel
theorem d_Mod_goes_72 : decode b_Mod_goes 72 = .ok (.iload_n 2, 1) := by decide +kernel
theorem d_Mod_goes_73 : decode b_Mod_goes 73 = .ok (.iadd, 1) := by decide +kernel
theorem d_Mod_goes_74 : decode b_Mod_goes 74 = .ok (.iaload, 1) := by decide +kernel
theorem d_Mod_goes_75 : decode b_Mod_goes 75 = .ok (.isub, 1) := by decide +kernel
theorem d_Mod_goes_76 : decode b_Mod_goes 76 = .ok (.imul, 1) := by decide +kernel
theorem d_Mod_goes_77 : decode b_Mod_goes 77 = .ok (.bipush 10, 2) := by decide +kernel
theorem d_Mod_goes_79 : decode b_Mod_goes 79 = .ok (.idiv, 1) := by decide +kernel
theorem d_Mod_goes_80 : decode b_Mod_goes 80 = .ok (.iadd, 1) := by decide +kernel
theorem d_Mod_goes_81 : decode b_Mod_goes 81 = .ok (.iastore, 1) := by decide +kernel
theorem d_Mod_goes_82 : decode b_Mod_goes 82 = .ok (.iinc 2 1, 3) := by decide +kernel
theorem d_Mod_goes_85 : decode b_Mod_goes 85 = .ok (.goto (-78), 3) := by decide +kernel
theorem d_Mod_goes_88 : decode b_Mod_goes 88 = .ok (.aload_n 0, 1) := by decide +kernel
theorem d_Mod_goes_89 : decode b_Mod_goes 89 = .ok (.getfield 9, 3) := by decide +kernel
theorem d_Mod_goes_92 : decode b_Mod_goes 92 = .ok (.iconst 2, 1) := by decide +kernel
theorem d_Mod_goes_93 : decode b_Mod_goes 93 = .ok (.dup2, 1) := by decide +kernel
theorem d_Mod_goes_94 : decode b_Mod_goes 94 = .ok (.iaload, 1) := by decide +kernel
theorem d_Mod_goes_95 : decode b_Mod_goes 95 = .ok (.iconst 1, 1) := by decide +kernel
theorem d_Mod_goes_96 : decode b_Mod_goes 96 = .ok (.iadd, 1) := by decide +kernel
theorem d_Mod_goes_97 : decode b_Mod_goes 97 = .ok (.iastore, 1) := by decide +kernel
theorem d_Mod_goes_98 : decode b_Mod_goes 98 = .ok (.aload_n 0, 1) := by decide +kernel
theorem d_Mod_goes_99 : decode b_Mod_goes 99 = .ok (.getfield 9, 3) := by decide +kernel
theorem d_Mod_goes_102 : decode b_Mod_goes 102 = .ok (.iconst 3, 1) := by decide +kernel
theorem d_Mod_goes_103 : decode b_Mod_goes 103 = .ok (.dup2, 1) := by decide +kernel
theorem d_Mod_goes_104 : decode b_Mod_goes 104 = .ok (.iaload, 1) := by decide +kernel
theorem d_Mod_goes_105 : decode b_Mod_goes 105 = .ok (.aload_n 0, 1) := by decide +kernel
theorem d_Mod_goes_106 : decode b_Mod_goes 106 = .ok (.getfield 9, 3) := by decide +kernel
theorem d_Mod_goes_109 : decode b_Mod_goes 109 = .ok (.iconst 3, 1) := by decide +kernel
theorem d_Mod_goes_110 : decode b_Mod_goes 110 = .ok (.iaload, 1) := by decide +kernel
theorem d_Mod_goes_111 : decode b_Mod_goes 111 = .ok (.bipush 9, 2) := by decide +kernel
theorem d_Mod_goes_113 : decode b_Mod_goes 113 = .ok (.if_icmp .ge 7, 3) := by decide +kernel
theorem d_Mod_goes_116 : decode b_Mod_goes 116 = .ok (.iconst 1, 1) := by decide +kernel
theorem d_Mod_goes_117 : decode b_Mod_goes 117 = .ok (.goto 4, 3) := by decide +kernel
theorem d_Mod_goes_120 : decode b_Mod_goes 120 = .ok (.iconst 0, 1) := by decide +kernel
theorem d_Mod_goes_121 : decode b_Mod_goes 121 = .ok (.iadd, 1) := by decide +kernel
theorem d_Mod_goes_122 : decode b_Mod_goes 122 = .ok (.iastore, 1) := by decide +kernel
theorem d_Mod_goes_123 : decode b_Mod_goes 123 = .ok (.iload_n 1, 1) := by decide +kernel
theorem d_Mod_goes_124 : decode b_Mod_goes 124 = .ok (.ireturn, 1) := by decide +kernel
theorem d_Mod_goesOn_0 : decode b_Mod_goesOn 0 = .ok (.iconst 0, 1) := by decide +kernel
theorem d_Mod_goesOn_1 : decode b_Mod_goesOn 1 = .ok (.istore_n 2, 1) := by decide +kernel
theorem d_Mod_goesOn_2 : decode b_Mod_goesOn 2 = .ok (.iconst 0, 1) := by decide +kernel
theorem d_Mod_goesOn_3 : decode b_Mod_goesOn 3 = .ok (.istore_n 3, 1) := by decide +kernel
theorem d_Mod_goesOn_4 : decode b_Mod_goesOn 4 = .ok (.iload_n 3, 1) := by decide +kernel
theorem d_Mod_goesOn_5 : decode b_Mod_goesOn 5 = .ok (.iload_n 1, 1) := by decide +kernel
theorem d_Mod_goesOn_6 : decode b_Mod_goesOn 6 = .ok (.if_icmp .ge 16, 3) := by decide +kernel
theorem d_Mod_goesOn_9 : decode b_Mod_goesOn 9 = .ok (.iload_n 2, 1) := by decide +kernel
theorem d_Mod_goesOn_10 : decode b_Mod_goesOn 10 = .ok (.aload_n 0, 1) := by decide +kernel
theorem d_Mod_goesOn_11 : decode b_Mod_goesOn 11 = .ok (.invokevirtual 172, 3) := by decide +kernel
theorem d_Mod_goesOn_14 : decode b_Mod_goesOn 14 = .ok (.iadd, 1) := by decide +kernel
theorem d_Mod_goesOn_15 : decode b_Mod_goesOn 15 = .ok (.istore_n 2, 1) := by decide +kernel
theorem d_Mod_goesOn_16 : decode b_Mod_goesOn 16 = .ok (.iinc 3 1, 3) := by decide +kernel
theorem d_Mod_goesOn_19 : decode b_Mod_goesOn 19 = .ok (.goto (-15), 3) := by decide +kernel
theorem d_Mod_goesOn_22 : decode b_Mod_goesOn 22 = .ok (.iload_n 2, 1) := by decide +kernel
theorem d_Mod_goesOn_23 : decode b_Mod_goesOn 23 = .ok (.ireturn, 1) := by decide +kernel
theorem d_Mod_day_0 : decode b_Mod_day 0 = .ok (.aload_n 0, 1) := by decide +kernel
theorem d_Mod_day_1 : decode b_Mod_day 1 = .ok (.getfield 9, 3) := by decide +kernel
theorem d_Mod_day_4 : decode b_Mod_day 4 = .ok (.iconst 2, 1) := by decide +kernel
theorem d_Mod_day_5 : decode b_Mod_day 5 = .ok (.iaload, 1) := by decide +kernel
theorem d_Mod_day_6 : decode b_Mod_day 6 = .ok (.sipush 9999, 3) := by decide +kernel
theorem d_Mod_day_9 : decode b_Mod_day 9 = .ok (.if_icmp .ne 8, 3) := by decide +kernel
theorem d_Mod_day_12 : decode b_Mod_day 12 = .ok (.bipush (-3), 2) := by decide +kernel
theorem d_Mod_day_14 : decode b_Mod_day 14 = .ok (.goto 7, 3) := by decide +kernel
theorem d_Mod_day_17 : decode b_Mod_day 17 = .ok (.aload_n 0, 1) := by decide +kernel
theorem d_Mod_day_18 : decode b_Mod_day 18 = .ok (.invokevirtual 172, 3) := by decide +kernel
theorem d_Mod_day_21 : decode b_Mod_day 21 = .ok (.ireturn, 1) := by decide +kernel
theorem d_Mod_on_0 : decode b_Mod_on 0 = .ok (.iload_n 2, 1) := by decide +kernel
theorem d_Mod_on_1 : decode b_Mod_on 1 = .ok (.ifCond .eq 29, 3) := by decide +kernel
theorem d_Mod_on_4 : decode b_Mod_on 4 = .ok (.aload_n 0, 1) := by decide +kernel
theorem d_Mod_on_5 : decode b_Mod_on 5 = .ok (.iload_n 2, 1) := by decide +kernel
theorem d_Mod_on_6 : decode b_Mod_on 6 = .ok (.bipush 10, 2) := by decide +kernel
theorem d_Mod_on_8 : decode b_Mod_on 8 = .ok (.isub, 1) := by decide +kernel
theorem d_Mod_on_9 : decode b_Mod_on 9 = .ok (.invokevirtual 149, 3) := by decide +kernel
theorem d_Mod_on_12 : decode b_Mod_on 12 = .ok (.ifCond .ne 18, 3) := by decide +kernel
theorem d_Mod_on_15 : decode b_Mod_on 15 = .ok (.aload_n 0, 1) := by decide +kernel
theorem d_Mod_on_16 : decode b_Mod_on 16 = .ok (.iload_n 2, 1) := by decide +kernel
theorem d_Mod_on_17 : decode b_Mod_on 17 = .ok (.bipush 20, 2) := by decide +kernel
theorem d_Mod_on_19 : decode b_Mod_on 19 = .ok (.isub, 1) := by decide +kernel
theorem d_Mod_on_20 : decode b_Mod_on 20 = .ok (.invokevirtual 149, 3) := by decide +kernel
theorem d_Mod_on_23 : decode b_Mod_on 23 = .ok (.ifCond .ne 7, 3) := by decide +kernel
theorem d_Mod_on_26 : decode b_Mod_on 26 = .ok (.sipush (-10001), 3) := by decide +kernel
theorem d_Mod_on_29 : decode b_Mod_on 29 = .ok (.ireturn, 1) := by decide +kernel
theorem d_Mod_on_30 : decode b_Mod_on 30 = .ok (.iload_n 1, 1) := by decide +kernel
theorem d_Mod_on_31 : decode b_Mod_on 31 = .ok (.iconst 0, 1) := by decide +kernel
theorem d_Mod_on_32 : decode b_Mod_on 32 = .ok (.bipush 30, 2) := by decide +kernel
theorem d_Mod_on_34 : decode b_Mod_on 34 = .ok (.invokestatic 50, 3) := by decide +kernel
theorem d_Mod_on_37 : decode b_Mod_on 37 = .ok (.ifCond .ne 7, 3) := by decide +kernel
theorem d_Mod_on_40 : decode b_Mod_on 40 = .ok (.sipush (-10002), 3) := by decide +kernel
theorem d_Mod_on_43 : decode b_Mod_on 43 = .ok (.ireturn, 1) := by decide +kernel
theorem d_Mod_on_44 : decode b_Mod_on 44 = .ok (.aload_n 0, 1) := by decide +kernel
theorem d_Mod_on_45 : decode b_Mod_on 45 = .ok (.invokevirtual 175, 3) := by decide +kernel
theorem d_Mod_on_48 : decode b_Mod_on 48 = .ok (.aload_n 0, 1) := by decide +kernel
theorem d_Mod_on_49 : decode b_Mod_on 49 = .ok (.iload_n 1, 1) := by decide +kernel
theorem d_Mod_on_50 : decode b_Mod_on 50 = .ok (.invokevirtual 178, 3) := by decide +kernel
theorem d_Mod_on_53 : decode b_Mod_on 53 = .ok (.istore_n 3, 1) := by decide +kernel
theorem d_Mod_on_54 : decode b_Mod_on 54 = .ok (.iload_n 2, 1) := by decide +kernel
theorem d_Mod_on_55 : decode b_Mod_on 55 = .ok (.ifCond .ne 7, 3) := by decide +kernel
theorem d_Mod_on_58 : decode b_Mod_on 58 = .ok (.iload_n 3, 1) := by decide +kernel
theorem d_Mod_on_59 : decode b_Mod_on 59 = .ok (.goto 31, 3) := by decide +kernel
theorem d_Mod_on_62 : decode b_Mod_on 62 = .ok (.iload_n 2, 1) := by decide +kernel
theorem d_Mod_on_63 : decode b_Mod_on 63 = .ok (.bipush 20, 2) := by decide +kernel
theorem d_Mod_on_65 : decode b_Mod_on 65 = .ok (.if_icmp .ge 14, 3) := by decide +kernel
theorem d_Mod_on_68 : decode b_Mod_on 68 = .ok (.aload_n 0, 1) := by decide +kernel
theorem d_Mod_on_69 : decode b_Mod_on 69 = .ok (.iload_n 2, 1) := by decide +kernel
theorem d_Mod_on_70 : decode b_Mod_on 70 = .ok (.bipush 10, 2) := by decide +kernel
theorem d_Mod_on_72 : decode b_Mod_on 72 = .ok (.isub, 1) := by decide +kernel
theorem d_Mod_on_73 : decode b_Mod_on 73 = .ok (.invokevirtual 153, 3) := by decide +kernel
theorem d_Mod_on_76 : decode b_Mod_on 76 = .ok (.goto 14, 3) := by decide +kernel
theorem d_Mod_on_79 : decode b_Mod_on 79 = .ok (.aload_n 0, 1) := by decide +kernel
theorem d_Mod_on_80 : decode b_Mod_on 80 = .ok (.getfield 9, 3) := by decide +kernel
theorem d_Mod_on_83 : decode b_Mod_on 83 = .ok (.iconst 5, 1) := by decide +kernel
theorem d_Mod_on_84 : decode b_Mod_on 84 = .ok (.iload_n 2, 1) := by decide +kernel
theorem d_Mod_on_85 : decode b_Mod_on 85 = .ok (.iadd, 1) := by decide +kernel
theorem d_Mod_on_86 : decode b_Mod_on 86 = .ok (.bipush 20, 2) := by decide +kernel
theorem d_Mod_on_88 : decode b_Mod_on 88 = .ok (.isub, 1) := by decide +kernel
theorem d_Mod_on_89 : decode b_Mod_on 89 = .ok (.iaload, 1) := by decide +kernel
theorem d_Mod_on_90 : decode b_Mod_on 90 = .ok (.istore 4, 2) := by decide +kernel
theorem d_Mod_on_92 : decode b_Mod_on 92 = .ok (.aload_n 0, 1) := by decide +kernel
theorem d_Mod_on_93 : decode b_Mod_on 93 = .ok (.invokevirtual 181, 3) := by decide +kernel
theorem d_Mod_on_96 : decode b_Mod_on 96 = .ok (.iload 4, 2) := by decide +kernel
theorem d_Mod_on_98 : decode b_Mod_on 98 = .ok (.ireturn, 1) := by decide +kernel
theorem d_Mod_isAnyLate_0 : decode b_Mod_isAnyLate 0 = .ok (.iconst 0, 1) := by decide +kernel
theorem d_Mod_isAnyLate_1 : decode b_Mod_isAnyLate 1 = .ok (.istore_n 2, 1) := by decide +kernel
theorem d_Mod_isAnyLate_2 : decode b_Mod_isAnyLate 2 = .ok (.iconst 0, 1) := by decide +kernel
theorem d_Mod_isAnyLate_3 : decode b_Mod_isAnyLate 3 = .ok (.istore_n 3, 1) := by decide +kernel
theorem d_Mod_isAnyLate_4 : decode b_Mod_isAnyLate 4 = .ok (.iload_n 3, 1) := by decide +kernel
theorem d_Mod_isAnyLate_5 : decode b_Mod_isAnyLate 5 = .ok (.aload_n 0, 1) := by decide +kernel
theorem d_Mod_isAnyLate_6 : decode b_Mod_isAnyLate 6 = .ok (.getfield 9, 3) := by decide +kernel
theorem d_Mod_isAnyLate_9 : decode b_Mod_isAnyLate 9 = .ok (.bipush 11, 2) := by decide +kernel
theorem d_Mod_isAnyLate_11 : decode b_Mod_isAnyLate 11 = .ok (.iaload, 1) := by decide +kernel
theorem d_Mod_isAnyLate_12 : decode b_Mod_isAnyLate 12 = .ok (.if_icmp .ge 28, 3) := by decide +kernel
theorem d_Mod_isAnyLate_15 : decode b_Mod_isAnyLate 15 = .ok (.iload_n 2, 1) := by decide +kernel
theorem d_Mod_isAnyLate_16 : decode b_Mod_isAnyLate 16 = .ok (.ifCond .ne 12, 3) := by decide +kernel
theorem d_Mod_isAnyLate_19 : decode b_Mod_isAnyLate 19 = .ok (.aload_n 0, 1) := by decide +kernel
theorem d_Mod_isAnyLate_20 : decode b_Mod_isAnyLate 20 = .ok (.iload_n 3, 1) := by decide +kernel
theorem d_Mod_isAnyLate_21 : decode b_Mod_isAnyLate 21 = .ok (.invokevirtual 153, 3) := by decide +kernel
theorem d_Mod_isAnyLate_24 : decode b_Mod_isAnyLate 24 = .ok (.iload_n 1, 1) := by decide +kernel
theorem d_Mod_isAnyLate_25 : decode b_Mod_isAnyLate 25 = .ok (.if_icmp .le 7, 3) := by decide +kernel
theorem d_Mod_isAnyLate_28 : decode b_Mod_isAnyLate 28 = .ok (.iconst 1, 1) := by decide +kernel
theorem d_Mod_isAnyLate_29 : decode b_Mod_isAnyLate 29 = .ok (.goto 4, 3) := by decide +kernel
theorem d_Mod_isAnyLate_32 : decode b_Mod_isAnyLate 32 = .ok (.iconst 0, 1) := by decide +kernel
theorem d_Mod_isAnyLate_33 : decode b_Mod_isAnyLate 33 = .ok (.istore_n 2, 1) := by decide +kernel
theorem d_Mod_isAnyLate_34 : decode b_Mod_isAnyLate 34 = .ok (.iinc 3 1, 3) := by decide +kernel
theorem d_Mod_isAnyLate_37 : decode b_Mod_isAnyLate 37 = .ok (.goto (-33), 3) := by decide +kernel
theorem d_Mod_isAnyLate_40 : decode b_Mod_isAnyLate 40 = .ok (.iload_n 2, 1) := by decide +kernel
theorem d_Mod_isAnyLate_41 : decode b_Mod_isAnyLate 41 = .ok (.ireturn, 1) := by decide +kernel
theorem d_Mod_inTime_0 : decode b_Mod_inTime 0 = .ok (.aload_n 0, 1) := by decide +kernel
theorem d_Mod_inTime_1 : decode b_Mod_inTime 1 = .ok (.invokevirtual 175, 3) := by decide +kernel
theorem d_Mod_inTime_4 : decode b_Mod_inTime 4 = .ok (.bipush (-5), 2) := by decide +kernel
theorem d_Mod_inTime_6 : decode b_Mod_inTime 6 = .ok (.istore_n 1, 1) := by decide +kernel
theorem d_Mod_inTime_7 : decode b_Mod_inTime 7 = .ok (.iconst 0, 1) := by decide +kernel
theorem d_Mod_inTime_8 : decode b_Mod_inTime 8 = .ok (.istore_n 2, 1) := by decide +kernel
theorem d_Mod_inTime_9 : decode b_Mod_inTime 9 = .ok (.iload_n 2, 1) := by decide +kernel
theorem d_Mod_inTime_10 : decode b_Mod_inTime 10 = .ok (.bipush 30, 2) := by decide +kernel
theorem d_Mod_inTime_12 : decode b_Mod_inTime 12 = .ok (.if_icmp .gt 35, 3) := by decide +kernel
theorem d_Mod_inTime_15 : decode b_Mod_inTime 15 = .ok (.iload_n 1, 1) := by decide +kernel
theorem d_Mod_inTime_16 : decode b_Mod_inTime 16 = .ok (.bipush (-5), 2) := by decide +kernel
theorem d_Mod_inTime_18 : decode b_Mod_inTime 18 = .ok (.if_icmp .ne 29, 3) := by decide +kernel
theorem d_Mod_inTime_21 : decode b_Mod_inTime 21 = .ok (.aload_n 0, 1) := by decide +kernel
theorem d_Mod_inTime_22 : decode b_Mod_inTime 22 = .ok (.iconst 0, 1) := by decide +kernel
theorem d_Mod_inTime_23 : decode b_Mod_inTime 23 = .ok (.invokevirtual 184, 3) := by decide +kernel
theorem d_Mod_inTime_26 : decode b_Mod_inTime 26 = .ok (.ifCond .eq 8, 3) := by decide +kernel
theorem d_Mod_inTime_29 : decode b_Mod_inTime 29 = .ok (.bipush (-5), 2) := by decide +kernel
theorem d_Mod_inTime_31 : decode b_Mod_inTime 31 = .ok (.goto 4, 3) := by decide +kernel
theorem d_Mod_inTime_34 : decode b_Mod_inTime 34 = .ok (.iload_n 2, 1) := by decide +kernel
theorem d_Mod_inTime_35 : decode b_Mod_inTime 35 = .ok (.istore_n 1, 1) := by decide +kernel
theorem d_Mod_inTime_36 : decode b_Mod_inTime 36 = .ok (.aload_n 0, 1) := by decide +kernel
theorem d_Mod_inTime_37 : decode b_Mod_inTime 37 = .ok (.invokevirtual 172, 3) := by decide +kernel
theorem d_Mod_inTime_40 : decode b_Mod_inTime 40 = .ok (.pop, 1) := by decide +kernel
theorem d_Mod_inTime_41 : decode b_Mod_inTime 41 = .ok (.iinc 2 1, 3) := by decide +kernel
theorem d_Mod_inTime_44 : decode b_Mod_inTime 44 = .ok (.goto (-35), 3) := by decide +kernel
theorem d_Mod_inTime_47 : decode b_Mod_inTime 47 = .ok (.aload_n 0, 1) := by decide +kernel
theorem d_Mod_inTime_48 : decode b_Mod_inTime 48 = .ok (.invokevirtual 181, 3) := by decide +kernel
theorem d_Mod_inTime_51 : decode b_Mod_inTime 51 = .ok (.iload_n 1, 1) := by decide +kernel
theorem d_Mod_inTime_52 : decode b_Mod_inTime 52 = .ok (.ireturn, 1) := by decide +kernel
theorem d_Mod_looksForLates_0 : decode b_Mod_looksForLates 0 = .ok (.iconst 0, 1) := by decide +kernel
theorem d_Mod_looksForLates_1 : decode b_Mod_looksForLates 1 = .ok (.istore_n 1, 1) := by decide +kernel
theorem d_Mod_looksForLates_2 : decode b_Mod_looksForLates 2 = .ok (.iload_n 1, 1) := by decide +kernel
theorem d_Mod_looksForLates_3 : decode b_Mod_looksForLates 3 = .ok (.aload_n 0, 1) := by decide +kernel
theorem d_Mod_looksForLates_4 : decode b_Mod_looksForLates 4 = .ok (.getfield 9, 3) := by decide +kernel
theorem d_Mod_looksForLates_7 : decode b_Mod_looksForLates 7 = .ok (.bipush 11, 2) := by decide +kernel
theorem d_Mod_looksForLates_9 : decode b_Mod_looksForLates 9 = .ok (.iaload, 1) := by decide +kernel
theorem d_Mod_looksForLates_10 : decode b_Mod_looksForLates 10 = .ok (.if_icmp .ge 20, 3) := by decide +kernel
theorem d_Mod_looksForLates_13 : decode b_Mod_looksForLates 13 = .ok (.aload_n 0, 1) := by decide +kernel
theorem d_Mod_looksForLates_14 : decode b_Mod_looksForLates 14 = .ok (.getfield 28, 3) := by decide +kernel
theorem d_Mod_looksForLates_17 : decode b_Mod_looksForLates 17 = .ok (.iload_n 1, 1) := by decide +kernel
theorem d_Mod_looksForLates_18 : decode b_Mod_looksForLates 18 = .ok (.aload_n 0, 1) := by decide +kernel
theorem d_Mod_looksForLates_19 : decode b_Mod_looksForLates 19 = .ok (.iload_n 1, 1) := by decide +kernel
theorem d_Mod_looksForLates_20 : decode b_Mod_looksForLates 20 = .ok (.invokevirtual 153, 3) := by decide +kernel
theorem d_Mod_looksForLates_23 : decode b_Mod_looksForLates 23 = .ok (.iastore, 1) := by decide +kernel
theorem d_Mod_looksForLates_24 : decode b_Mod_looksForLates 24 = .ok (.iinc 1 1, 3) := by decide +kernel
theorem d_Mod_looksForLates_27 : decode b_Mod_looksForLates 27 = .ok (.goto (-25), 3) := by decide +kernel
theorem d_Mod_looksForLates_30 : decode b_Mod_looksForLates 30 = .ok (.return_, 1) := by decide +kernel
theorem d_Mod_worst_0 : decode b_Mod_worst 0 = .ok (.aload_n 0, 1) := by decide +kernel
theorem d_Mod_worst_1 : decode b_Mod_worst 1 = .ok (.invokevirtual 187, 3) := by decide +kernel
theorem d_Mod_worst_4 : decode b_Mod_worst 4 = .ok (.aload_n 0, 1) := by decide +kernel
theorem d_Mod_worst_5 : decode b_Mod_worst 5 = .ok (.getfield 9, 3) := by decide +kernel
theorem d_Mod_worst_8 : decode b_Mod_worst 8 = .ok (.bipush 11, 2) := by decide +kernel
theorem d_Mod_worst_10 : decode b_Mod_worst 10 = .ok (.iaload, 1) := by decide +kernel
theorem d_Mod_worst_11 : decode b_Mod_worst 11 = .ok (.ifCond .ne 8, 3) := by decide +kernel
theorem d_Mod_worst_14 : decode b_Mod_worst 14 = .ok (.bipush (-5), 2) := by decide +kernel
theorem d_Mod_worst_16 : decode b_Mod_worst 16 = .ok (.goto 4, 3) := by decide +kernel
theorem d_Mod_worst_19 : decode b_Mod_worst 19 = .ok (.iconst 0, 1) := by decide +kernel
theorem d_Mod_worst_20 : decode b_Mod_worst 20 = .ok (.istore_n 1, 1) := by decide +kernel
theorem d_Mod_worst_21 : decode b_Mod_worst 21 = .ok (.iconst 1, 1) := by decide +kernel
theorem d_Mod_worst_22 : decode b_Mod_worst 22 = .ok (.istore_n 2, 1) := by decide +kernel
theorem d_Mod_worst_23 : decode b_Mod_worst 23 = .ok (.iload_n 2, 1) := by decide +kernel
theorem d_Mod_worst_24 : decode b_Mod_worst 24 = .ok (.aload_n 0, 1) := by decide +kernel
theorem d_Mod_worst_25 : decode b_Mod_worst 25 = .ok (.getfield 9, 3) := by decide +kernel
theorem d_Mod_worst_28 : decode b_Mod_worst 28 = .ok (.bipush 11, 2) := by decide +kernel
theorem d_Mod_worst_30 : decode b_Mod_worst 30 = .ok (.iaload, 1) := by decide +kernel
theorem d_Mod_worst_31 : decode b_Mod_worst 31 = .ok (.if_icmp .ge 30, 3) := by decide +kernel
theorem d_Mod_worst_34 : decode b_Mod_worst 34 = .ok (.aload_n 0, 1) := by decide +kernel
theorem d_Mod_worst_35 : decode b_Mod_worst 35 = .ok (.getfield 28, 3) := by decide +kernel
theorem d_Mod_worst_38 : decode b_Mod_worst 38 = .ok (.iload_n 2, 1) := by decide +kernel
theorem d_Mod_worst_39 : decode b_Mod_worst 39 = .ok (.iaload, 1) := by decide +kernel
theorem d_Mod_worst_40 : decode b_Mod_worst 40 = .ok (.aload_n 0, 1) := by decide +kernel
theorem d_Mod_worst_41 : decode b_Mod_worst 41 = .ok (.getfield 28, 3) := by decide +kernel
theorem d_Mod_worst_44 : decode b_Mod_worst 44 = .ok (.iload_n 1, 1) := by decide +kernel
theorem d_Mod_worst_45 : decode b_Mod_worst 45 = .ok (.iaload, 1) := by decide +kernel
theorem d_Mod_worst_46 : decode b_Mod_worst 46 = .ok (.if_icmp .le 7, 3) := by decide +kernel
theorem d_Mod_worst_49 : decode b_Mod_worst 49 = .ok (.iload_n 2, 1) := by decide +kernel
theorem d_Mod_worst_50 : decode b_Mod_worst 50 = .ok (.goto 4, 3) := by decide +kernel
theorem d_Mod_worst_53 : decode b_Mod_worst 53 = .ok (.iload_n 1, 1) := by decide +kernel
theorem d_Mod_worst_54 : decode b_Mod_worst 54 = .ok (.istore_n 1, 1) := by decide +kernel
theorem d_Mod_worst_55 : decode b_Mod_worst 55 = .ok (.iinc 2 1, 3) := by decide +kernel
theorem d_Mod_worst_58 : decode b_Mod_worst 58 = .ok (.goto (-35), 3) := by decide +kernel
theorem d_Mod_worst_61 : decode b_Mod_worst 61 = .ok (.iload_n 1, 1) := by decide +kernel
theorem d_Mod_worst_62 : decode b_Mod_worst 62 = .ok (.ireturn, 1) := by decide +kernel
theorem d_Mod_order_0 : decode b_Mod_order 0 = .ok (.aload_n 0, 1) := by decide +kernel
theorem d_Mod_order_1 : decode b_Mod_order 1 = .ok (.iload_n 1, 1) := by decide +kernel
theorem d_Mod_order_2 : decode b_Mod_order 2 = .ok (.invokevirtual 149, 3) := by decide +kernel
theorem d_Mod_order_5 : decode b_Mod_order 5 = .ok (.ifCond .ne 5, 3) := by decide +kernel
theorem d_Mod_order_8 : decode b_Mod_order 8 = .ok (.iconst (-1), 1) := by decide +kernel
theorem d_Mod_order_9 : decode b_Mod_order 9 = .ok (.ireturn, 1) := by decide +kernel
theorem d_Mod_order_10 : decode b_Mod_order 10 = .ok (.aload_n 0, 1) := by decide +kernel
theorem d_Mod_order_11 : decode b_Mod_order 11 = .ok (.invokevirtual 187, 3) := by decide +kernel
theorem d_Mod_order_14 : decode b_Mod_order 14 = .ok (.iconst 0, 1) := by decide +kernel
theorem d_Mod_order_15 : decode b_Mod_order 15 = .ok (.istore_n 2, 1) := by decide +kernel
theorem d_Mod_order_16 : decode b_Mod_order 16 = .ok (.iconst 0, 1) := by decide +kernel
theorem d_Mod_order_17 : decode b_Mod_order 17 = .ok (.istore_n 3, 1) := by decide +kernel
theorem d_Mod_order_18 : decode b_Mod_order 18 = .ok (.iload_n 3, 1) := by decide +kernel
theorem d_Mod_order_19 : decode b_Mod_order 19 = .ok (.aload_n 0, 1) := by decide +kernel
theorem d_Mod_order_20 : decode b_Mod_order 20 = .ok (.getfield 9, 3) := by decide +kernel
theorem d_Mod_order_23 : decode b_Mod_order 23 = .ok (.bipush 11, 2) := by decide +kernel
theorem d_Mod_order_25 : decode b_Mod_order 25 = .ok (.iaload, 1) := by decide +kernel
theorem d_Mod_order_26 : decode b_Mod_order 26 = .ok (.if_icmp .ge 93, 3) := by decide +kernel
theorem d_Mod_order_29 : decode b_Mod_order 29 = .ok (.iconst 0, 1) := by decide +kernel
theorem d_Mod_order_30 : decode b_Mod_order 30 = .ok (.istore 4, 2) := by decide +kernel
theorem d_Mod_order_32 : decode b_Mod_order 32 = .ok (.iconst 0, 1) := by decide +kernel
theorem d_Mod_order_33 : decode b_Mod_order 33 = .ok (.istore 5, 2) := by decide +kernel
theorem d_Mod_order_35 : decode b_Mod_order 35 = .ok (.iload 5, 2) := by decide +kernel
theorem d_Mod_order_37 : decode b_Mod_order 37 = .ok (.aload_n 0, 1) := by decide +kernel
theorem d_Mod_order_38 : decode b_Mod_order 38 = .ok (.getfield 9, 3) := by decide +kernel
theorem d_Mod_order_41 : decode b_Mod_order 41 = .ok (.bipush 11, 2) := by decide +kernel
theorem d_Mod_order_43 : decode b_Mod_order 43 = .ok (.iaload, 1) := by decide +kernel
theorem d_Mod_order_44 : decode b_Mod_order 44 = .ok (.if_icmp .ge 57, 3) := by decide +kernel
theorem d_Mod_order_47 : decode b_Mod_order 47 = .ok (.iload 4, 2) := by decide +kernel
theorem d_Mod_order_49 : decode b_Mod_order 49 = .ok (.aload_n 0, 1) := by decide +kernel
theorem d_Mod_order_50 : decode b_Mod_order 50 = .ok (.getfield 28, 3) := by decide +kernel
theorem d_Mod_order_53 : decode b_Mod_order 53 = .ok (.iload 5, 2) := by decide +kernel
theorem d_Mod_order_55 : decode b_Mod_order 55 = .ok (.iaload, 1) := by decide +kernel
theorem d_Mod_order_56 : decode b_Mod_order 56 = .ok (.aload_n 0, 1) := by decide +kernel
theorem d_Mod_order_57 : decode b_Mod_order 57 = .ok (.getfield 28, 3) := by decide +kernel
theorem d_Mod_order_60 : decode b_Mod_order 60 = .ok (.iload_n 3, 1) := by decide +kernel
theorem d_Mod_order_61 : decode b_Mod_order 61 = .ok (.iaload, 1) := by decide +kernel
theorem d_Mod_order_62 : decode b_Mod_order 62 = .ok (.if_icmp .lt 25, 3) := by decide +kernel
theorem d_Mod_order_65 : decode b_Mod_order 65 = .ok (.aload_n 0, 1) := by decide +kernel
theorem d_Mod_order_66 : decode b_Mod_order 66 = .ok (.getfield 28, 3) := by decide +kernel
theorem d_Mod_order_69 : decode b_Mod_order 69 = .ok (.iload 5, 2) := by decide +kernel
theorem d_Mod_order_71 : decode b_Mod_order 71 = .ok (.iaload, 1) := by decide +kernel
theorem d_Mod_order_72 : decode b_Mod_order 72 = .ok (.aload_n 0, 1) := by decide +kernel
theorem d_Mod_order_73 : decode b_Mod_order 73 = .ok (.getfield 28, 3) := by decide +kernel
theorem d_Mod_order_76 : decode b_Mod_order 76 = .ok (.iload_n 3, 1) := by decide +kernel
theorem d_Mod_order_77 : decode b_Mod_order 77 = .ok (.iaload, 1) := by decide +kernel
theorem d_Mod_order_78 : decode b_Mod_order 78 = .ok (.if_icmp .ne 13, 3) := by decide +kernel
theorem d_Mod_order_81 : decode b_Mod_order 81 = .ok (.iload 5, 2) := by decide +kernel
theorem d_Mod_order_83 : decode b_Mod_order 83 = .ok (.iload_n 3, 1) := by decide +kernel
theorem d_Mod_order_84 : decode b_Mod_order 84 = .ok (.if_icmp .ge 7, 3) := by decide +kernel
theorem d_Mod_order_87 : decode b_Mod_order 87 = .ok (.iconst 1, 1) := by decide +kernel
theorem d_Mod_order_88 : decode b_Mod_order 88 = .ok (.goto 4, 3) := by decide +kernel
theorem d_Mod_order_91 : decode b_Mod_order 91 = .ok (.iconst 0, 1) := by decide +kernel
theorem d_Mod_order_92 : decode b_Mod_order 92 = .ok (.iadd, 1) := by decide +kernel
theorem d_Mod_order_93 : decode b_Mod_order 93 = .ok (.istore 4, 2) := by decide +kernel
theorem d_Mod_order_95 : decode b_Mod_order 95 = .ok (.iinc 5 1, 3) := by decide +kernel
theorem d_Mod_order_98 : decode b_Mod_order 98 = .ok (.goto (-63), 3) := by decide +kernel
theorem d_Mod_order_101 : decode b_Mod_order 101 = .ok (.iload 4, 2) := by decide +kernel
theorem d_Mod_order_103 : decode b_Mod_order 103 = .ok (.iload_n 1, 1) := by decide +kernel
theorem d_Mod_order_104 : decode b_Mod_order 104 = .ok (.if_icmp .ne 7, 3) := by decide +kernel
theorem d_Mod_order_107 : decode b_Mod_order 107 = .ok (.iload_n 3, 1) := by decide +kernel
theorem d_Mod_order_108 : decode b_Mod_order 108 = .ok (.goto 4, 3) := by decide +kernel
theorem d_Mod_order_111 : decode b_Mod_order 111 = .ok (.iload_n 2, 1) := by decide +kernel
theorem d_Mod_order_112 : decode b_Mod_order 112 = .ok (.istore_n 2, 1) := by decide +kernel
theorem d_Mod_order_113 : decode b_Mod_order 113 = .ok (.iinc 3 1, 3) := by decide +kernel
theorem d_Mod_order_116 : decode b_Mod_order 116 = .ok (.goto (-98), 3) := by decide +kernel
theorem d_Mod_order_119 : decode b_Mod_order 119 = .ok (.iload_n 2, 1) := by decide +kernel
theorem d_Mod_order_120 : decode b_Mod_order 120 = .ok (.ireturn, 1) := by decide +kernel
theorem d_Mod_best_0 : decode b_Mod_best 0 = .ok (.iload_n 1, 1) := by decide +kernel
theorem d_Mod_best_1 : decode b_Mod_best 1 = .ok (.invokestatic 159, 3) := by decide +kernel
theorem d_Mod_best_4 : decode b_Mod_best 4 = .ok (.ifCond .eq 12, 3) := by decide +kernel
theorem d_Mod_best_7 : decode b_Mod_best 7 = .ok (.iload_n 3, 1) := by decide +kernel
theorem d_Mod_best_8 : decode b_Mod_best 8 = .ok (.iconst 0, 1) := by decide +kernel
theorem d_Mod_best_9 : decode b_Mod_best 9 = .ok (.iconst 1, 1) := by decide +kernel
theorem d_Mod_best_10 : decode b_Mod_best 10 = .ok (.invokestatic 50, 3) := by decide +kernel
theorem d_Mod_best_13 : decode b_Mod_best 13 = .ok (.ifCond .ne 7, 3) := by decide +kernel
theorem d_Mod_best_16 : decode b_Mod_best 16 = .ok (.sipush (-10001), 3) := by decide +kernel
theorem d_Mod_best_19 : decode b_Mod_best 19 = .ok (.ireturn, 1) := by decide +kernel
theorem d_Mod_best_20 : decode b_Mod_best 20 = .ok (.iload_n 2, 1) := by decide +kernel
theorem d_Mod_best_21 : decode b_Mod_best 21 = .ok (.iconst 1, 1) := by decide +kernel
theorem d_Mod_best_22 : decode b_Mod_best 22 = .ok (.bipush 20, 2) := by decide +kernel
theorem d_Mod_best_24 : decode b_Mod_best 24 = .ok (.invokestatic 50, 3) := by decide +kernel
theorem d_Mod_best_27 : decode b_Mod_best 27 = .ok (.ifCond .ne 7, 3) := by decide +kernel
theorem d_Mod_best_30 : decode b_Mod_best 30 = .ok (.sipush (-10002), 3) := by decide +kernel
theorem d_Mod_best_33 : decode b_Mod_best 33 = .ok (.ireturn, 1) := by decide +kernel
theorem d_Mod_best_34 : decode b_Mod_best 34 = .ok (.aload_n 0, 1) := by decide +kernel
theorem d_Mod_best_35 : decode b_Mod_best 35 = .ok (.invokevirtual 175, 3) := by decide +kernel
theorem d_Mod_best_38 : decode b_Mod_best 38 = .ok (.iconst 0, 1) := by decide +kernel
theorem d_Mod_best_39 : decode b_Mod_best 39 = .ok (.istore 4, 2) := by decide +kernel
theorem d_Mod_best_41 : decode b_Mod_best 41 = .ok (.ldc 190, 2) := by decide +kernel
theorem d_Mod_best_43 : decode b_Mod_best 43 = .ok (.istore 5, 2) := by decide +kernel
theorem d_Mod_best_45 : decode b_Mod_best 45 = .ok (.bipush (-30), 2) := by decide +kernel
theorem d_Mod_best_47 : decode b_Mod_best 47 = .ok (.istore 6, 2) := by decide +kernel
theorem d_Mod_best_49 : decode b_Mod_best 49 = .ok (.iload 6, 2) := by decide +kernel
theorem d_Mod_best_51 : decode b_Mod_best 51 = .ok (.bipush 60, 2) := by decide +kernel
theorem d_Mod_best_53 : decode b_Mod_best 53 = .ok (.if_icmp .gt 59, 3) := by decide +kernel
theorem d_Mod_best_56 : decode b_Mod_best 56 = .ok (.aload_n 0, 1) := by decide +kernel
theorem d_Mod_best_57 : decode b_Mod_best 57 = .ok (.iload_n 1, 1) := by decide +kernel
theorem d_Mod_best_58 : decode b_Mod_best 58 = .ok (.iload 6, 2) := by decide +kernel
theorem d_Mod_best_60 : decode b_Mod_best 60 = .ok (.invokevirtual 162, 3) := by decide +kernel
theorem d_Mod_best_63 : decode b_Mod_best 63 = .ok (.aload_n 0, 1) := by decide +kernel
theorem d_Mod_best_64 : decode b_Mod_best 64 = .ok (.iload_n 2, 1) := by decide +kernel
theorem d_Mod_best_65 : decode b_Mod_best 65 = .ok (.invokevirtual 178, 3) := by decide +kernel
theorem d_Mod_best_68 : decode b_Mod_best 68 = .ok (.istore 7, 2) := by decide +kernel
theorem d_Mod_best_70 : decode b_Mod_best 70 = .ok (.aload_n 0, 1) := by decide +kernel
theorem d_Mod_best_71 : decode b_Mod_best 71 = .ok (.invokevirtual 181, 3) := by decide +kernel
theorem d_Mod_best_74 : decode b_Mod_best 74 = .ok (.iload 7, 2) := by decide +kernel
theorem d_Mod_best_76 : decode b_Mod_best 76 = .ok (.iload 5, 2) := by decide +kernel
theorem d_Mod_best_78 : decode b_Mod_best 78 = .ok (.if_icmp .ge 8, 3) := by decide +kernel
theorem d_Mod_best_81 : decode b_Mod_best 81 = .ok (.iload 6, 2) := by decide +kernel
theorem d_Mod_best_83 : decode b_Mod_best 83 = .ok (.goto 5, 3) := by decide +kernel
theorem d_Mod_best_86 : decode b_Mod_best 86 = .ok (.iload 4, 2) := by decide +kernel
theorem d_Mod_best_88 : decode b_Mod_best 88 = .ok (.istore 4, 2) := by decide +kernel
theorem d_Mod_best_90 : decode b_Mod_best 90 = .ok (.iload 7, 2) := by decide +kernel
theorem d_Mod_best_92 : decode b_Mod_best 92 = .ok (.iload 5, 2) := by decide +kernel
theorem d_Mod_best_94 : decode b_Mod_best 94 = .ok (.if_icmp .ge 8, 3) := by decide +kernel
theorem d_Mod_best_97 : decode b_Mod_best 97 = .ok (.iload 7, 2) := by decide +kernel
theorem d_Mod_best_99 : decode b_Mod_best 99 = .ok (.goto 5, 3) := by decide +kernel
theorem d_Mod_best_102 : decode b_Mod_best 102 = .ok (.iload 5, 2) := by decide +kernel
theorem d_Mod_best_104 : decode b_Mod_best 104 = .ok (.istore 5, 2) := by decide +kernel
theorem d_Mod_best_106 : decode b_Mod_best 106 = .ok (.iinc 6 1, 3) := by decide +kernel
theorem d_Mod_best_109 : decode b_Mod_best 109 = .ok (.goto (-60), 3) := by decide +kernel
theorem d_Mod_best_112 : decode b_Mod_best 112 = .ok (.iload_n 3, 1) := by decide +kernel
theorem d_Mod_best_113 : decode b_Mod_best 113 = .ok (.ifCond .ne 8, 3) := by decide +kernel
theorem d_Mod_best_116 : decode b_Mod_best 116 = .ok (.iload 4, 2) := by decide +kernel
theorem d_Mod_best_118 : decode b_Mod_best 118 = .ok (.goto 5, 3) := by decide +kernel
theorem d_Mod_best_121 : decode b_Mod_best 121 = .ok (.iload 5, 2) := by decide +kernel
theorem d_Mod_best_123 : decode b_Mod_best 123 = .ok (.ireturn, 1) := by decide +kernel
theorem d_Mod_rowsFrom_0 : decode b_Mod_rowsFrom 0 = .ok (.iload_n 3, 1) := by decide +kernel
theorem d_Mod_rowsFrom_1 : decode b_Mod_rowsFrom 1 = .ok (.iload_n 2, 1) := by decide +kernel
theorem d_Mod_rowsFrom_2 : decode b_Mod_rowsFrom 2 = .ok (.if_icmp .ne 48, 3) := by decide +kernel
theorem d_Mod_rowsFrom_5 : decode b_Mod_rowsFrom 5 = .ok (.iload 4, 2) := by decide +kernel
theorem d_Mod_rowsFrom_7 : decode b_Mod_rowsFrom 7 = .ok (.aload_n 0, 1) := by decide +kernel
theorem d_Mod_rowsFrom_8 : decode b_Mod_rowsFrom 8 = .ok (.getfield 191, 3) := by decide +kernel
theorem d_Mod_rowsFrom_11 : decode b_Mod_rowsFrom 11 = .ok (.if_icmp .ge 38, 3) := by decide +kernel
theorem d_Mod_rowsFrom_14 : decode b_Mod_rowsFrom 14 = .ok (.aload_n 0, 1) := by decide +kernel
theorem d_Mod_rowsFrom_15 : decode b_Mod_rowsFrom 15 = .ok (.iload 4, 2) := by decide +kernel
theorem d_Mod_rowsFrom_17 : decode b_Mod_rowsFrom 17 = .ok (.putfield 191, 3) := by decide +kernel
theorem d_Mod_rowsFrom_20 : decode b_Mod_rowsFrom 20 = .ok (.iconst 0, 1) := by decide +kernel
theorem d_Mod_rowsFrom_21 : decode b_Mod_rowsFrom 21 = .ok (.istore 5, 2) := by decide +kernel
theorem d_Mod_rowsFrom_23 : decode b_Mod_rowsFrom 23 = .ok (.iload 5, 2) := by decide +kernel
theorem d_Mod_rowsFrom_25 : decode b_Mod_rowsFrom 25 = .ok (.iload_n 2, 1) := by decide +kernel
theorem d_Mod_rowsFrom_26 : decode b_Mod_rowsFrom 26 = .ok (.if_icmp .ge 23, 3) := by decide +kernel
theorem d_Mod_rowsFrom_29 : decode b_Mod_rowsFrom 29 = .ok (.aload_n 0, 1) := by decide +kernel
theorem d_Mod_rowsFrom_30 : decode b_Mod_rowsFrom 30 = .ok (.getfield 37, 3) := by decide +kernel
theorem d_Mod_rowsFrom_33 : decode b_Mod_rowsFrom 33 = .ok (.iload 5, 2) := by decide +kernel
theorem d_Mod_rowsFrom_35 : decode b_Mod_rowsFrom 35 = .ok (.aload_n 0, 1) := by decide +kernel
theorem d_Mod_rowsFrom_36 : decode b_Mod_rowsFrom 36 = .ok (.getfield 34, 3) := by decide +kernel
theorem d_Mod_rowsFrom_39 : decode b_Mod_rowsFrom 39 = .ok (.iload 5, 2) := by decide +kernel
theorem d_Mod_rowsFrom_41 : decode b_Mod_rowsFrom 41 = .ok (.iaload, 1) := by decide +kernel
theorem d_Mod_rowsFrom_42 : decode b_Mod_rowsFrom 42 = .ok (.iastore, 1) := by decide +kernel
theorem d_Mod_rowsFrom_43 : decode b_Mod_rowsFrom 43 = .ok (.iinc 5 1, 3) := by decide +kernel
theorem d_Mod_rowsFrom_46 : decode b_Mod_rowsFrom 46 = .ok (.goto (-23), 3) := by decide +kernel
theorem d_Mod_rowsFrom_49 : decode b_Mod_rowsFrom 49 = .ok (.return_, 1) := by decide +kernel
theorem d_Mod_rowsFrom_50 : decode b_Mod_rowsFrom 50 = .ok (.iconst 0, 1) := by decide +kernel
theorem d_Mod_rowsFrom_51 : decode b_Mod_rowsFrom 51 = .ok (.istore 5, 2) := by decide +kernel
theorem d_Mod_rowsFrom_53 : decode b_Mod_rowsFrom 53 = .ok (.iload 5, 2) := by decide +kernel
theorem d_Mod_rowsFrom_55 : decode b_Mod_rowsFrom 55 = .ok (.bipush 11, 2) := by decide +kernel
theorem d_Mod_rowsFrom_57 : decode b_Mod_rowsFrom 57 = .ok (.if_icmp .ge 28, 3) := by decide +kernel
theorem d_Mod_rowsFrom_60 : decode b_Mod_rowsFrom 60 = .ok (.aload_n 0, 1) := by decide +kernel
theorem d_Mod_rowsFrom_61 : decode b_Mod_rowsFrom 61 = .ok (.getfield 31, 3) := by decide +kernel
theorem d_Mod_rowsFrom_64 : decode b_Mod_rowsFrom 64 = .ok (.bipush 11, 2) := by decide +kernel
theorem d_Mod_rowsFrom_66 : decode b_Mod_rowsFrom 66 = .ok (.iload_n 3, 1) := by decide +kernel
theorem d_Mod_rowsFrom_67 : decode b_Mod_rowsFrom 67 = .ok (.imul, 1) := by decide +kernel
theorem d_Mod_rowsFrom_68 : decode b_Mod_rowsFrom 68 = .ok (.iload 5, 2) := by decide +kernel
theorem d_Mod_rowsFrom_70 : decode b_Mod_rowsFrom 70 = .ok (.iadd, 1) := by decide +kernel
theorem d_Mod_rowsFrom_71 : decode b_Mod_rowsFrom 71 = .ok (.aload_n 0, 1) := by decide +kernel
theorem d_Mod_rowsFrom_72 : decode b_Mod_rowsFrom 72 = .ok (.getfield 9, 3) := by decide +kernel
theorem d_Mod_rowsFrom_75 : decode b_Mod_rowsFrom 75 = .ok (.iload 5, 2) := by decide +kernel
theorem d_Mod_rowsFrom_77 : decode b_Mod_rowsFrom 77 = .ok (.iaload, 1) := by decide +kernel
theorem d_Mod_rowsFrom_78 : decode b_Mod_rowsFrom 78 = .ok (.iastore, 1) := by decide +kernel
theorem d_Mod_rowsFrom_79 : decode b_Mod_rowsFrom 79 = .ok (.iinc 5 1, 3) := by decide +kernel
theorem d_Mod_rowsFrom_82 : decode b_Mod_rowsFrom 82 = .ok (.goto (-29), 3) := by decide +kernel
theorem d_Mod_rowsFrom_85 : decode b_Mod_rowsFrom 85 = .ok (.iconst 0, 1) := by decide +kernel
theorem d_Mod_rowsFrom_86 : decode b_Mod_rowsFrom 86 = .ok (.istore 5, 2) := by decide +kernel
theorem d_Mod_rowsFrom_88 : decode b_Mod_rowsFrom 88 = .ok (.iload 5, 2) := by decide +kernel
theorem d_Mod_rowsFrom_90 : decode b_Mod_rowsFrom 90 = .ok (.bipush 20, 2) := by decide +kernel
theorem d_Mod_rowsFrom_92 : decode b_Mod_rowsFrom 92 = .ok (.if_icmp .gt 79, 3) := by decide +kernel
theorem d_Mod_rowsFrom_95 : decode b_Mod_rowsFrom 95 = .ok (.aload_n 0, 1) := by decide +kernel
theorem d_Mod_rowsFrom_96 : decode b_Mod_rowsFrom 96 = .ok (.getfield 34, 3) := by decide +kernel
theorem d_Mod_rowsFrom_99 : decode b_Mod_rowsFrom 99 = .ok (.iload_n 3, 1) := by decide +kernel
theorem d_Mod_rowsFrom_100 : decode b_Mod_rowsFrom 100 = .ok (.iload 5, 2) := by decide +kernel
theorem d_Mod_rowsFrom_102 : decode b_Mod_rowsFrom 102 = .ok (.iastore, 1) := by decide +kernel
theorem d_Mod_rowsFrom_103 : decode b_Mod_rowsFrom 103 = .ok (.aload_n 0, 1) := by decide +kernel
theorem d_Mod_rowsFrom_104 : decode b_Mod_rowsFrom 104 = .ok (.iload_n 1, 1) := by decide +kernel
theorem d_Mod_rowsFrom_105 : decode b_Mod_rowsFrom 105 = .ok (.iload 5, 2) := by decide +kernel
theorem d_Mod_rowsFrom_107 : decode b_Mod_rowsFrom 107 = .ok (.invokevirtual 162, 3) := by decide +kernel
theorem d_Mod_rowsFrom_110 : decode b_Mod_rowsFrom 110 = .ok (.aload_n 0, 1) := by decide +kernel
theorem d_Mod_rowsFrom_111 : decode b_Mod_rowsFrom 111 = .ok (.invokevirtual 172, 3) := by decide +kernel
theorem d_Mod_rowsFrom_114 : decode b_Mod_rowsFrom 114 = .ok (.istore 6, 2) := by decide +kernel
theorem d_Mod_rowsFrom_116 : decode b_Mod_rowsFrom 116 = .ok (.aload_n 0, 1) := by decide +kernel
theorem d_Mod_rowsFrom_117 : decode b_Mod_rowsFrom 117 = .ok (.iload_n 1, 1) := by decide +kernel
theorem d_Mod_rowsFrom_118 : decode b_Mod_rowsFrom 118 = .ok (.iload_n 2, 1) := by decide +kernel
theorem d_Mod_rowsFrom_119 : decode b_Mod_rowsFrom 119 = .ok (.iload_n 3, 1) := by decide +kernel
theorem d_Mod_rowsFrom_120 : decode b_Mod_rowsFrom 120 = .ok (.iconst 1, 1) := by decide +kernel
theorem d_Mod_rowsFrom_121 : decode b_Mod_rowsFrom 121 = .ok (.iadd, 1) := by decide +kernel
theorem d_Mod_rowsFrom_122 : decode b_Mod_rowsFrom 122 = .ok (.iload 4, 2) := by decide +kernel
theorem d_Mod_rowsFrom_124 : decode b_Mod_rowsFrom 124 = .ok (.iload 6, 2) := by decide +kernel
theorem d_Mod_rowsFrom_126 : decode b_Mod_rowsFrom 126 = .ok (.iadd, 1) := by decide +kernel
theorem d_Mod_rowsFrom_127 : decode b_Mod_rowsFrom 127 = .ok (.invokevirtual 194, 3) := by decide +kernel
theorem d_Mod_rowsFrom_130 : decode b_Mod_rowsFrom 130 = .ok (.iconst 0, 1) := by decide +kernel
theorem d_Mod_rowsFrom_131 : decode b_Mod_rowsFrom 131 = .ok (.istore 7, 2) := by decide +kernel
theorem d_Mod_rowsFrom_133 : decode b_Mod_rowsFrom 133 = .ok (.iload 7, 2) := by decide +kernel
theorem d_Mod_rowsFrom_135 : decode b_Mod_rowsFrom 135 = .ok (.bipush 11, 2) := by decide +kernel
theorem d_Mod_rowsFrom_137 : decode b_Mod_rowsFrom 137 = .ok (.if_icmp .ge 28, 3) := by decide +kernel
theorem d_Mod_rowsFrom_140 : decode b_Mod_rowsFrom 140 = .ok (.aload_n 0, 1) := by decide +kernel
theorem d_Mod_rowsFrom_141 : decode b_Mod_rowsFrom 141 = .ok (.getfield 9, 3) := by decide +kernel
theorem d_Mod_rowsFrom_144 : decode b_Mod_rowsFrom 144 = .ok (.iload 7, 2) := by decide +kernel
theorem d_Mod_rowsFrom_146 : decode b_Mod_rowsFrom 146 = .ok (.aload_n 0, 1) := by decide +kernel
theorem d_Mod_rowsFrom_147 : decode b_Mod_rowsFrom 147 = .ok (.getfield 31, 3) := by decide +kernel
theorem d_Mod_rowsFrom_150 : decode b_Mod_rowsFrom 150 = .ok (.bipush 11, 2) := by decide +kernel
theorem d_Mod_rowsFrom_152 : decode b_Mod_rowsFrom 152 = .ok (.iload_n 3, 1) := by decide +kernel
theorem d_Mod_rowsFrom_153 : decode b_Mod_rowsFrom 153 = .ok (.imul, 1) := by decide +kernel
theorem d_Mod_rowsFrom_154 : decode b_Mod_rowsFrom 154 = .ok (.iload 7, 2) := by decide +kernel
theorem d_Mod_rowsFrom_156 : decode b_Mod_rowsFrom 156 = .ok (.iadd, 1) := by decide +kernel
theorem d_Mod_rowsFrom_157 : decode b_Mod_rowsFrom 157 = .ok (.iaload, 1) := by decide +kernel
theorem d_Mod_rowsFrom_158 : decode b_Mod_rowsFrom 158 = .ok (.iastore, 1) := by decide +kernel
theorem d_Mod_rowsFrom_159 : decode b_Mod_rowsFrom 159 = .ok (.iinc 7 1, 3) := by decide +kernel
theorem d_Mod_rowsFrom_162 : decode b_Mod_rowsFrom 162 = .ok (.goto (-29), 3) := by decide +kernel
theorem d_Mod_rowsFrom_165 : decode b_Mod_rowsFrom 165 = .ok (.iinc 5 5, 3) := by decide +kernel
theorem d_Mod_rowsFrom_168 : decode b_Mod_rowsFrom 168 = .ok (.goto (-80), 3) := by decide +kernel
theorem d_Mod_rowsFrom_171 : decode b_Mod_rowsFrom 171 = .ok (.return_, 1) := by decide +kernel
theorem d_Mod_rowOf_0 : decode b_Mod_rowOf 0 = .ok (.iload_n 1, 1) := by decide +kernel
theorem d_Mod_rowOf_1 : decode b_Mod_rowOf 1 = .ok (.invokestatic 159, 3) := by decide +kernel
theorem d_Mod_rowOf_4 : decode b_Mod_rowOf 4 = .ok (.ifCond .eq 12, 3) := by decide +kernel
theorem d_Mod_rowOf_7 : decode b_Mod_rowOf 7 = .ok (.iload_n 3, 1) := by decide +kernel
theorem d_Mod_rowOf_8 : decode b_Mod_rowOf 8 = .ok (.iconst (-1), 1) := by decide +kernel
theorem d_Mod_rowOf_9 : decode b_Mod_rowOf 9 = .ok (.iconst 3, 1) := by decide +kernel
theorem d_Mod_rowOf_10 : decode b_Mod_rowOf 10 = .ok (.invokestatic 50, 3) := by decide +kernel
theorem d_Mod_rowOf_13 : decode b_Mod_rowOf 13 = .ok (.ifCond .ne 5, 3) := by decide +kernel
theorem d_Mod_rowOf_16 : decode b_Mod_rowOf 16 = .ok (.iconst (-1), 1) := by decide +kernel
theorem d_Mod_rowOf_17 : decode b_Mod_rowOf 17 = .ok (.ireturn, 1) := by decide +kernel
theorem d_Mod_rowOf_18 : decode b_Mod_rowOf 18 = .ok (.iload_n 2, 1) := by decide +kernel
theorem d_Mod_rowOf_19 : decode b_Mod_rowOf 19 = .ok (.iconst 1, 1) := by decide +kernel
theorem d_Mod_rowOf_20 : decode b_Mod_rowOf 20 = .ok (.iconst 4, 1) := by decide +kernel
theorem d_Mod_rowOf_21 : decode b_Mod_rowOf 21 = .ok (.invokestatic 50, 3) := by decide +kernel
theorem d_Mod_rowOf_24 : decode b_Mod_rowOf 24 = .ok (.ifCond .ne 6, 3) := by decide +kernel
theorem d_Mod_rowOf_27 : decode b_Mod_rowOf 27 = .ok (.bipush (-2), 2) := by decide +kernel
theorem d_Mod_rowOf_29 : decode b_Mod_rowOf 29 = .ok (.ireturn, 1) := by decide +kernel
theorem d_Mod_rowOf_30 : decode b_Mod_rowOf 30 = .ok (.aload_n 0, 1) := by decide +kernel
theorem d_Mod_rowOf_31 : decode b_Mod_rowOf 31 = .ok (.ldc 190, 2) := by decide +kernel
theorem d_Mod_rowOf_33 : decode b_Mod_rowOf 33 = .ok (.putfield 191, 3) := by decide +kernel
theorem d_Mod_rowOf_36 : decode b_Mod_rowOf 36 = .ok (.aload_n 0, 1) := by decide +kernel
theorem d_Mod_rowOf_37 : decode b_Mod_rowOf 37 = .ok (.iload_n 1, 1) := by decide +kernel
theorem d_Mod_rowOf_38 : decode b_Mod_rowOf 38 = .ok (.iload_n 2, 1) := by decide +kernel
theorem d_Mod_rowOf_39 : decode b_Mod_rowOf 39 = .ok (.iconst 0, 1) := by decide +kernel
theorem d_Mod_rowOf_40 : decode b_Mod_rowOf 40 = .ok (.iconst 0, 1) := by decide +kernel
theorem d_Mod_rowOf_41 : decode b_Mod_rowOf 41 = .ok (.invokevirtual 194, 3) := by decide +kernel
theorem d_Mod_rowOf_44 : decode b_Mod_rowOf 44 = .ok (.iload_n 3, 1) := by decide +kernel
theorem d_Mod_rowOf_45 : decode b_Mod_rowOf 45 = .ok (.iconst (-1), 1) := by decide +kernel
theorem d_Mod_rowOf_46 : decode b_Mod_rowOf 46 = .ok (.if_icmp .ne 10, 3) := by decide +kernel
theorem d_Mod_rowOf_49 : decode b_Mod_rowOf 49 = .ok (.aload_n 0, 1) := by decide +kernel
theorem d_Mod_rowOf_50 : decode b_Mod_rowOf 50 = .ok (.getfield 191, 3) := by decide +kernel
theorem d_Mod_rowOf_53 : decode b_Mod_rowOf 53 = .ok (.goto 19, 3) := by decide +kernel
theorem d_Mod_rowOf_56 : decode b_Mod_rowOf 56 = .ok (.iload_n 3, 1) := by decide +kernel
theorem d_Mod_rowOf_57 : decode b_Mod_rowOf 57 = .ok (.iload_n 2, 1) := by decide +kernel
theorem d_Mod_rowOf_58 : decode b_Mod_rowOf 58 = .ok (.if_icmp .ge 12, 3) := by decide +kernel
theorem d_Mod_rowOf_61 : decode b_Mod_rowOf 61 = .ok (.aload_n 0, 1) := by decide +kernel
theorem d_Mod_rowOf_62 : decode b_Mod_rowOf 62 = .ok (.getfield 37, 3) := by decide +kernel
theorem d_Mod_rowOf_65 : decode b_Mod_rowOf 65 = .ok (.iload_n 3, 1) := by decide +kernel
theorem d_Mod_rowOf_66 : decode b_Mod_rowOf 66 = .ok (.iaload, 1) := by decide +kernel
theorem d_Mod_rowOf_67 : decode b_Mod_rowOf 67 = .ok (.goto 5, 3) := by decide +kernel
theorem d_Mod_rowOf_70 : decode b_Mod_rowOf 70 = .ok (.bipush (-5), 2) := by decide +kernel
theorem d_Mod_rowOf_72 : decode b_Mod_rowOf 72 = .ok (.ireturn, 1) := by decide +kernel
theorem d_Mod_lasts_0 : decode b_Mod_lasts 0 = .ok (.iload_n 1, 1) := by decide +kernel
theorem d_Mod_lasts_1 : decode b_Mod_lasts 1 = .ok (.invokestatic 159, 3) := by decide +kernel
theorem d_Mod_lasts_4 : decode b_Mod_lasts 4 = .ok (.ifCond .ne 5, 3) := by decide +kernel
theorem d_Mod_lasts_7 : decode b_Mod_lasts 7 = .ok (.iconst (-1), 1) := by decide +kernel
theorem d_Mod_lasts_8 : decode b_Mod_lasts 8 = .ok (.ireturn, 1) := by decide +kernel
theorem d_Mod_lasts_9 : decode b_Mod_lasts 9 = .ok (.iload_n 2, 1) := by decide +kernel
theorem d_Mod_lasts_10 : decode b_Mod_lasts 10 = .ok (.bipush (-60), 2) := by decide +kernel
theorem d_Mod_lasts_12 : decode b_Mod_lasts 12 = .ok (.bipush 60, 2) := by decide +kernel
theorem d_Mod_lasts_14 : decode b_Mod_lasts 14 = .ok (.invokestatic 50, 3) := by decide +kernel
theorem d_Mod_lasts_17 : decode b_Mod_lasts 17 = .ok (.ifCond .ne 6, 3) := by decide +kernel
theorem d_Mod_lasts_20 : decode b_Mod_lasts 20 = .ok (.bipush (-2), 2) := by decide +kernel
theorem d_Mod_lasts_22 : decode b_Mod_lasts 22 = .ok (.ireturn, 1) := by decide +kernel
theorem d_Mod_lasts_23 : decode b_Mod_lasts 23 = .ok (.aload_n 0, 1) := by decide +kernel
theorem d_Mod_lasts_24 : decode b_Mod_lasts 24 = .ok (.invokevirtual 175, 3) := by decide +kernel
theorem d_Mod_lasts_27 : decode b_Mod_lasts 27 = .ok (.iconst 1, 1) := by decide +kernel
theorem d_Mod_lasts_28 : decode b_Mod_lasts 28 = .ok (.istore_n 3, 1) := by decide +kernel
theorem d_Mod_lasts_29 : decode b_Mod_lasts 29 = .ok (.iload_n 3, 1) := by decide +kernel
theorem d_Mod_lasts_30 : decode b_Mod_lasts 30 = .ok (.bipush 30, 2) := by decide +kernel
theorem d_Mod_lasts_32 : decode b_Mod_lasts 32 = .ok (.if_icmp .gt 19, 3) := by decide +kernel
theorem d_Mod_lasts_35 : decode b_Mod_lasts 35 = .ok (.aload_n 0, 1) := by decide +kernel
theorem d_Mod_lasts_36 : decode b_Mod_lasts 36 = .ok (.getfield 40, 3) := by decide +kernel
theorem d_Mod_lasts_39 : decode b_Mod_lasts 39 = .ok (.iload_n 3, 1) := by decide +kernel
theorem d_Mod_lasts_40 : decode b_Mod_lasts 40 = .ok (.aload_n 0, 1) := by decide +kernel
theorem d_Mod_lasts_41 : decode b_Mod_lasts 41 = .ok (.invokevirtual 172, 3) := by decide +kernel
theorem d_Mod_lasts_44 : decode b_Mod_lasts 44 = .ok (.iastore, 1) := by decide +kernel
theorem d_Mod_lasts_45 : decode b_Mod_lasts 45 = .ok (.iinc 3 1, 3) := by decide +kernel
theorem d_Mod_lasts_48 : decode b_Mod_lasts 48 = .ok (.goto (-19), 3) := by decide +kernel
theorem d_Mod_lasts_51 : decode b_Mod_lasts 51 = .ok (.aload_n 0, 1) := by decide +kernel
theorem d_Mod_lasts_52 : decode b_Mod_lasts 52 = .ok (.invokevirtual 181, 3) := by decide +kernel
theorem d_Mod_lasts_55 : decode b_Mod_lasts 55 = .ok (.aload_n 0, 1) := by decide +kernel
theorem d_Mod_lasts_56 : decode b_Mod_lasts 56 = .ok (.iload_n 1, 1) := by decide +kernel
theorem d_Mod_lasts_57 : decode b_Mod_lasts 57 = .ok (.iload_n 2, 1) := by decide +kernel
theorem d_Mod_lasts_58 : decode b_Mod_lasts 58 = .ok (.invokevirtual 162, 3) := by decide +kernel
theorem d_Mod_lasts_61 : decode b_Mod_lasts 61 = .ok (.bipush (-5), 2) := by decide +kernel
theorem d_Mod_lasts_63 : decode b_Mod_lasts 63 = .ok (.istore_n 3, 1) := by decide +kernel
theorem d_Mod_lasts_64 : decode b_Mod_lasts 64 = .ok (.iconst 1, 1) := by decide +kernel
theorem d_Mod_lasts_65 : decode b_Mod_lasts 65 = .ok (.istore 4, 2) := by decide +kernel
theorem d_Mod_lasts_67 : decode b_Mod_lasts 67 = .ok (.iload 4, 2) := by decide +kernel
theorem d_Mod_lasts_69 : decode b_Mod_lasts 69 = .ok (.bipush 30, 2) := by decide +kernel
theorem d_Mod_lasts_71 : decode b_Mod_lasts 71 = .ok (.if_icmp .gt 37, 3) := by decide +kernel
theorem d_Mod_lasts_74 : decode b_Mod_lasts 74 = .ok (.iload_n 3, 1) := by decide +kernel
theorem d_Mod_lasts_75 : decode b_Mod_lasts 75 = .ok (.bipush (-5), 2) := by decide +kernel
theorem d_Mod_lasts_77 : decode b_Mod_lasts 77 = .ok (.if_icmp .ne 31, 3) := by decide +kernel
theorem d_Mod_lasts_80 : decode b_Mod_lasts 80 = .ok (.aload_n 0, 1) := by decide +kernel
theorem d_Mod_lasts_81 : decode b_Mod_lasts 81 = .ok (.invokevirtual 172, 3) := by decide +kernel
theorem d_Mod_lasts_84 : decode b_Mod_lasts 84 = .ok (.aload_n 0, 1) := by decide +kernel
theorem d_Mod_lasts_85 : decode b_Mod_lasts 85 = .ok (.getfield 40, 3) := by decide +kernel
theorem d_Mod_lasts_88 : decode b_Mod_lasts 88 = .ok (.iload 4, 2) := by decide +kernel
theorem d_Mod_lasts_90 : decode b_Mod_lasts 90 = .ok (.iaload, 1) := by decide +kernel
theorem d_Mod_lasts_91 : decode b_Mod_lasts 91 = .ok (.if_icmp .lt 8, 3) := by decide +kernel
theorem d_Mod_lasts_94 : decode b_Mod_lasts 94 = .ok (.iload 4, 2) := by decide +kernel
theorem d_Mod_lasts_96 : decode b_Mod_lasts 96 = .ok (.goto 5, 3) := by decide +kernel
theorem d_Mod_lasts_99 : decode b_Mod_lasts 99 = .ok (.bipush (-5), 2) := by decide +kernel
theorem d_Mod_lasts_101 : decode b_Mod_lasts 101 = .ok (.istore_n 3, 1) := by decide +kernel
theorem d_Mod_lasts_102 : decode b_Mod_lasts 102 = .ok (.iinc 4 1, 3) := by decide +kernel
theorem d_Mod_lasts_105 : decode b_Mod_lasts 105 = .ok (.goto (-38), 3) := by decide +kernel
theorem d_Mod_lasts_108 : decode b_Mod_lasts 108 = .ok (.aload_n 0, 1) := by decide +kernel
theorem d_Mod_lasts_109 : decode b_Mod_lasts 109 = .ok (.invokevirtual 181, 3) := by decide +kernel
theorem d_Mod_lasts_112 : decode b_Mod_lasts 112 = .ok (.iload_n 3, 1) := by decide +kernel
theorem d_Mod_lasts_113 : decode b_Mod_lasts 113 = .ok (.ireturn, 1) := by decide +kernel
theorem d_Mod_lowest_0 : decode b_Mod_lowest 0 = .ok (.lload_n 0, 1) := by decide +kernel
theorem d_Mod_lowest_1 : decode b_Mod_lowest 1 = .ok (.lconst 0, 1) := by decide +kernel
theorem d_Mod_lowest_2 : decode b_Mod_lowest 2 = .ok (.lcmp, 1) := by decide +kernel
theorem d_Mod_lowest_3 : decode b_Mod_lowest 3 = .ok (.ifCond .ge 8, 3) := by decide +kernel
theorem d_Mod_lowest_6 : decode b_Mod_lowest 6 = .ok (.lload_n 0, 1) := by decide +kernel
theorem d_Mod_lowest_7 : decode b_Mod_lowest 7 = .ok (.lneg, 1) := by decide +kernel
theorem d_Mod_lowest_8 : decode b_Mod_lowest 8 = .ok (.goto 4, 3) := by decide +kernel
theorem d_Mod_lowest_11 : decode b_Mod_lowest 11 = .ok (.lload_n 0, 1) := by decide +kernel
theorem d_Mod_lowest_12 : decode b_Mod_lowest 12 = .ok (.lstore 5, 2) := by decide +kernel
theorem d_Mod_lowest_14 : decode b_Mod_lowest 14 = .ok (.lload_n 2, 1) := by decide +kernel
theorem d_Mod_lowest_15 : decode b_Mod_lowest 15 = .ok (.lstore 7, 2) := by decide +kernel
theorem d_Mod_lowest_17 : decode b_Mod_lowest 17 = .ok (.lload 7, 2) := by decide +kernel
theorem d_Mod_lowest_19 : decode b_Mod_lowest 19 = .ok (.lconst 0, 1) := by decide +kernel
theorem d_Mod_lowest_20 : decode b_Mod_lowest 20 = .ok (.lcmp, 1) := by decide +kernel
theorem d_Mod_lowest_21 : decode b_Mod_lowest 21 = .ok (.ifCond .eq 21, 3) := by decide +kernel
theorem d_Mod_lowest_24 : decode b_Mod_lowest 24 = .ok (.lload 5, 2) := by decide +kernel
theorem d_Mod_lowest_26 : decode b_Mod_lowest 26 = .ok (.lload 7, 2) := by decide +kernel
theorem d_Mod_lowest_28 : decode b_Mod_lowest 28 = .ok (.lrem, 1) := by decide +kernel
theorem d_Mod_lowest_29 : decode b_Mod_lowest 29 = .ok (.lstore 9, 2) := by decide +kernel
theorem d_Mod_lowest_31 : decode b_Mod_lowest 31 = .ok (.lload 7, 2) := by decide +kernel
theorem d_Mod_lowest_33 : decode b_Mod_lowest 33 = .ok (.lstore 5, 2) := by decide +kernel
theorem d_Mod_lowest_35 : decode b_Mod_lowest 35 = .ok (.lload 9, 2) := by decide +kernel
theorem d_Mod_lowest_37 : decode b_Mod_lowest 37 = .ok (.lstore 7, 2) := by decide +kernel
theorem d_Mod_lowest_39 : decode b_Mod_lowest 39 = .ok (.goto (-22), 3) := by decide +kernel
theorem d_Mod_lowest_42 : decode b_Mod_lowest 42 = .ok (.iload 4, 2) := by decide +kernel
theorem d_Mod_lowest_44 : decode b_Mod_lowest 44 = .ok (.ifCond .ne 7, 3) := by decide +kernel
theorem d_Mod_lowest_47 : decode b_Mod_lowest 47 = .ok (.lload_n 0, 1) := by decide +kernel
theorem d_Mod_lowest_48 : decode b_Mod_lowest 48 = .ok (.goto 4, 3) := by decide +kernel
theorem d_Mod_lowest_51 : decode b_Mod_lowest 51 = .ok (.lload_n 2, 1) := by decide +kernel
theorem d_Mod_lowest_52 : decode b_Mod_lowest 52 = .ok (.lload 5, 2) := by decide +kernel
theorem d_Mod_lowest_54 : decode b_Mod_lowest 54 = .ok (.ldiv, 1) := by decide +kernel
theorem d_Mod_lowest_55 : decode b_Mod_lowest 55 = .ok (.lreturn, 1) := by decide +kernel
theorem d_Mod_mixed_0 : decode b_Mod_mixed 0 = .ok (.iload_n 1, 1) := by decide +kernel
theorem d_Mod_mixed_1 : decode b_Mod_mixed 1 = .ok (.invokestatic 159, 3) := by decide +kernel
theorem d_Mod_mixed_4 : decode b_Mod_mixed 4 = .ok (.ifCond .eq 40, 3) := by decide +kernel
theorem d_Mod_mixed_7 : decode b_Mod_mixed 7 = .ok (.iload_n 2, 1) := by decide +kernel
theorem d_Mod_mixed_8 : decode b_Mod_mixed 8 = .ok (.bipush (-60), 2) := by decide +kernel
theorem d_Mod_mixed_10 : decode b_Mod_mixed 10 = .ok (.bipush 60, 2) := by decide +kernel
theorem d_Mod_mixed_12 : decode b_Mod_mixed 12 = .ok (.invokestatic 50, 3) := by decide +kernel
theorem d_Mod_mixed_15 : decode b_Mod_mixed 15 = .ok (.ifCond .eq 29, 3) := by decide +kernel
theorem d_Mod_mixed_18 : decode b_Mod_mixed 18 = .ok (.iload_n 3, 1) := by decide +kernel
theorem d_Mod_mixed_19 : decode b_Mod_mixed 19 = .ok (.bipush (-60), 2) := by decide +kernel
theorem d_Mod_mixed_21 : decode b_Mod_mixed 21 = .ok (.bipush 60, 2) := by decide +kernel
theorem d_Mod_mixed_23 : decode b_Mod_mixed 23 = .ok (.invokestatic 50, 3) := by decide +kernel
theorem d_Mod_mixed_26 : decode b_Mod_mixed 26 = .ok (.ifCond .eq 18, 3) := by decide +kernel
theorem d_Mod_mixed_29 : decode b_Mod_mixed 29 = .ok (.iload_n 2, 1) := by decide +kernel
theorem d_Mod_mixed_30 : decode b_Mod_mixed 30 = .ok (.iload_n 3, 1) := by decide +kernel
theorem d_Mod_mixed_31 : decode b_Mod_mixed 31 = .ok (.if_icmp .gt 13, 3) := by decide +kernel
theorem d_Mod_mixed_34 : decode b_Mod_mixed 34 = .ok (.iload 4, 2) := by decide +kernel
theorem d_Mod_mixed_36 : decode b_Mod_mixed 36 = .ok (.iconst 0, 1) := by decide +kernel
theorem d_Mod_mixed_37 : decode b_Mod_mixed 37 = .ok (.iconst 1, 1) := by decide +kernel
theorem d_Mod_mixed_38 : decode b_Mod_mixed 38 = .ok (.invokestatic 50, 3) := by decide +kernel
theorem d_Mod_mixed_41 : decode b_Mod_mixed 41 = .ok (.ifCond .ne 7, 3) := by decide +kernel
theorem d_Mod_mixed_44 : decode b_Mod_mixed 44 = .ok (.ldc2_w 198, 3) := by decide +kernel
theorem d_Mod_mixed_47 : decode b_Mod_mixed 47 = .ok (.lreturn, 1) := by decide +kernel
theorem d_Mod_mixed_48 : decode b_Mod_mixed 48 = .ok (.aload_n 0, 1) := by decide +kernel
theorem d_Mod_mixed_49 : decode b_Mod_mixed 49 = .ok (.getfield 9, 3) := by decide +kernel
theorem d_Mod_mixed_52 : decode b_Mod_mixed 52 = .ok (.iconst 0, 1) := by decide +kernel
theorem d_Mod_mixed_53 : decode b_Mod_mixed 53 = .ok (.iload_n 1, 1) := by decide +kernel
theorem d_Mod_mixed_54 : decode b_Mod_mixed 54 = .ok (.iadd, 1) := by decide +kernel
theorem d_Mod_mixed_55 : decode b_Mod_mixed 55 = .ok (.iaload, 1) := by decide +kernel
theorem d_Mod_mixed_56 : decode b_Mod_mixed 56 = .ok (.istore 5, 2) := by decide +kernel
theorem d_Mod_mixed_58 : decode b_Mod_mixed 58 = .ok (.lconst 0, 1) := by decide +kernel
theorem d_Mod_mixed_59 : decode b_Mod_mixed 59 = .ok (.lstore 6, 2) := by decide +kernel
theorem d_Mod_mixed_61 : decode b_Mod_mixed 61 = .ok (.iload_n 2, 1) := by decide +kernel
theorem d_Mod_mixed_62 : decode b_Mod_mixed 62 = .ok (.istore 8, 2) := by decide +kernel
theorem d_Mod_mixed_64 : decode b_Mod_mixed 64 = .ok (.iload 8, 2) := by decide +kernel
theorem d_Mod_mixed_66 : decode b_Mod_mixed 66 = .ok (.iload_n 3, 1) := by decide +kernel
theorem d_Mod_mixed_67 : decode b_Mod_mixed 67 = .ok (.if_icmp .gt 29, 3) := by decide +kernel
theorem d_Mod_mixed_70 : decode b_Mod_mixed 70 = .ok (.aload_n 0, 1) := by decide +kernel
theorem d_Mod_mixed_71 : decode b_Mod_mixed 71 = .ok (.getfield 9, 3) := by decide +kernel
theorem d_Mod_mixed_74 : decode b_Mod_mixed 74 = .ok (.iconst 0, 1) := by decide +kernel
theorem d_Mod_mixed_75 : decode b_Mod_mixed 75 = .ok (.iload_n 1, 1) := by decide +kernel
theorem d_Mod_mixed_76 : decode b_Mod_mixed 76 = .ok (.iadd, 1) := by decide +kernel
theorem d_Mod_mixed_77 : decode b_Mod_mixed 77 = .ok (.iload 8, 2) := by decide +kernel
theorem d_Mod_mixed_79 : decode b_Mod_mixed 79 = .ok (.iastore, 1) := by decide +kernel
theorem d_Mod_mixed_80 : decode b_Mod_mixed 80 = .ok (.lload 6, 2) := by decide +kernel
theorem d_Mod_mixed_82 : decode b_Mod_mixed 82 = .ok (.aload_n 0, 1) := by decide +kernel
theorem d_Mod_mixed_83 : decode b_Mod_mixed 83 = .ok (.invokevirtual 169, 3) := by decide +kernel
theorem d_Mod_mixed_86 : decode b_Mod_mixed 86 = .ok (.i2l, 1) := by decide +kernel
theorem d_Mod_mixed_87 : decode b_Mod_mixed 87 = .ok (.ladd, 1) := by decide +kernel
theorem d_Mod_mixed_88 : decode b_Mod_mixed 88 = .ok (.lstore 6, 2) := by decide +kernel
theorem d_Mod_mixed_90 : decode b_Mod_mixed 90 = .ok (.iinc 8 1, 3) := by decide +kernel
theorem d_Mod_mixed_93 : decode b_Mod_mixed 93 = .ok (.goto (-29), 3) := by decide +kernel
theorem d_Mod_mixed_96 : decode b_Mod_mixed 96 = .ok (.aload_n 0, 1) := by decide +kernel
theorem d_Mod_mixed_97 : decode b_Mod_mixed 97 = .ok (.getfield 9, 3) := by decide +kernel
theorem d_Mod_mixed_100 : decode b_Mod_mixed 100 = .ok (.iconst 0, 1) := by decide +kernel
theorem d_Mod_mixed_101 : decode b_Mod_mixed 101 = .ok (.iload_n 1, 1) := by decide +kernel
theorem d_Mod_mixed_102 : decode b_Mod_mixed 102 = .ok (.iadd, 1) := by decide +kernel
theorem d_Mod_mixed_103 : decode b_Mod_mixed 103 = .ok (.iload 5, 2) := by decide +kernel
theorem d_Mod_mixed_105 : decode b_Mod_mixed 105 = .ok (.iastore, 1) := by decide +kernel
theorem d_Mod_mixed_106 : decode b_Mod_mixed 106 = .ok (.lload 6, 2) := by decide +kernel
theorem d_Mod_mixed_108 : decode b_Mod_mixed 108 = .ok (.iload_n 3, 1) := by decide +kernel
theorem d_Mod_mixed_109 : decode b_Mod_mixed 109 = .ok (.iload_n 2, 1) := by decide +kernel
theorem d_Mod_mixed_110 : decode b_Mod_mixed 110 = .ok (.isub, 1) := by decide +kernel
theorem d_Mod_mixed_111 : decode b_Mod_mixed 111 = .ok (.i2l, 1) := by decide +kernel
theorem d_Mod_mixed_112 : decode b_Mod_mixed 112 = .ok (.lconst 1, 1) := by decide +kernel
theorem d_Mod_mixed_113 : decode b_Mod_mixed 113 = .ok (.ladd, 1) := by decide +kernel
theorem d_Mod_mixed_114 : decode b_Mod_mixed 114 = .ok (.iload 4, 2) := by decide +kernel
theorem d_Mod_mixed_116 : decode b_Mod_mixed 116 = .ok (.invokestatic 200, 3) := by decide +kernel
theorem d_Mod_mixed_119 : decode b_Mod_mixed 119 = .ok (.lreturn, 1) := by decide +kernel
theorem d_Mod_goBy_0 : decode b_Mod_goBy 0 = .ok (.aload_n 0, 1) := by decide +kernel
theorem d_Mod_goBy_1 : decode b_Mod_goBy 1 = .ok (.iload_n 1, 1) := by decide +kernel
theorem d_Mod_goBy_2 : decode b_Mod_goBy 2 = .ok (.invokevirtual 149, 3) := by decide +kernel
theorem d_Mod_goBy_5 : decode b_Mod_goBy 5 = .ok (.ifCond .ne 5, 3) := by decide +kernel
theorem d_Mod_goBy_8 : decode b_Mod_goBy 8 = .ok (.iconst (-1), 1) := by decide +kernel
theorem d_Mod_goBy_9 : decode b_Mod_goBy 9 = .ok (.ireturn, 1) := by decide +kernel
theorem d_Mod_goBy_10 : decode b_Mod_goBy 10 = .ok (.aload_n 0, 1) := by decide +kernel
theorem d_Mod_goBy_11 : decode b_Mod_goBy 11 = .ok (.getfield 9, 3) := by decide +kernel
theorem d_Mod_goBy_14 : decode b_Mod_goBy 14 = .ok (.bipush 30, 2) := by decide +kernel
theorem d_Mod_goBy_16 : decode b_Mod_goBy 16 = .ok (.iload_n 1, 1) := by decide +kernel
theorem d_Mod_goBy_17 : decode b_Mod_goBy 17 = .ok (.iadd, 1) := by decide +kernel
theorem d_Mod_goBy_18 : decode b_Mod_goBy 18 = .ok (.iaload, 1) := by decide +kernel
theorem d_Mod_goBy_19 : decode b_Mod_goBy 19 = .ok (.istore_n 2, 1) := by decide +kernel
theorem d_Mod_goBy_20 : decode b_Mod_goBy 20 = .ok (.aload_n 0, 1) := by decide +kernel
theorem d_Mod_goBy_21 : decode b_Mod_goBy 21 = .ok (.getfield 9, 3) := by decide +kernel
theorem d_Mod_goBy_24 : decode b_Mod_goBy 24 = .ok (.bipush 30, 2) := by decide +kernel
theorem d_Mod_goBy_26 : decode b_Mod_goBy 26 = .ok (.iload_n 1, 1) := by decide +kernel
theorem d_Mod_goBy_27 : decode b_Mod_goBy 27 = .ok (.iadd, 1) := by decide +kernel
theorem d_Mod_goBy_28 : decode b_Mod_goBy 28 = .ok (.iconst 0, 1) := by decide +kernel
theorem d_Mod_goBy_29 : decode b_Mod_goBy 29 = .ok (.iastore, 1) := by decide +kernel
theorem d_Mod_goBy_30 : decode b_Mod_goBy 30 = .ok (.aload_n 0, 1) := by decide +kernel
theorem d_Mod_goBy_31 : decode b_Mod_goBy 31 = .ok (.aload_n 0, 1) := by decide +kernel
theorem d_Mod_goBy_32 : decode b_Mod_goBy 32 = .ok (.iload_n 1, 1) := by decide +kernel
theorem d_Mod_goBy_33 : decode b_Mod_goBy 33 = .ok (.invokevirtual 153, 3) := by decide +kernel
theorem d_Mod_goBy_36 : decode b_Mod_goBy 36 = .ok (.invokevirtual 156, 3) := by decide +kernel
theorem d_Mod_goBy_39 : decode b_Mod_goBy 39 = .ok (.istore_n 3, 1) := by decide +kernel
theorem d_Mod_goBy_40 : decode b_Mod_goBy 40 = .ok (.aload_n 0, 1) := by decide +kernel
theorem d_Mod_goBy_41 : decode b_Mod_goBy 41 = .ok (.getfield 9, 3) := by decide +kernel
theorem d_Mod_goBy_44 : decode b_Mod_goBy 44 = .ok (.bipush 30, 2) := by decide +kernel
theorem d_Mod_goBy_46 : decode b_Mod_goBy 46 = .ok (.iload_n 1, 1) := by decide +kernel
theorem d_Mod_goBy_47 : decode b_Mod_goBy 47 = .ok (.iadd, 1) := by decide +kernel
theorem d_Mod_goBy_48 : decode b_Mod_goBy 48 = .ok (.iconst 1, 1) := by decide +kernel
theorem d_Mod_goBy_49 : decode b_Mod_goBy 49 = .ok (.iastore, 1) := by decide +kernel
theorem d_Mod_goBy_50 : decode b_Mod_goBy 50 = .ok (.aload_n 0, 1) := by decide +kernel
theorem d_Mod_goBy_51 : decode b_Mod_goBy 51 = .ok (.aload_n 0, 1) := by decide +kernel
theorem d_Mod_goBy_52 : decode b_Mod_goBy 52 = .ok (.iload_n 1, 1) := by decide +kernel
theorem d_Mod_goBy_53 : decode b_Mod_goBy 53 = .ok (.invokevirtual 153, 3) := by decide +kernel
theorem d_Mod_goBy_56 : decode b_Mod_goBy 56 = .ok (.invokevirtual 156, 3) := by decide +kernel
theorem d_Mod_goBy_59 : decode b_Mod_goBy 59 = .ok (.istore 4, 2) := by decide +kernel
theorem d_Mod_goBy_61 : decode b_Mod_goBy 61 = .ok (.aload_n 0, 1) := by decide +kernel
theorem d_Mod_goBy_62 : decode b_Mod_goBy 62 = .ok (.getfield 9, 3) := by decide +kernel
theorem d_Mod_goBy_65 : decode b_Mod_goBy 65 = .ok (.bipush 30, 2) := by decide +kernel
theorem d_Mod_goBy_67 : decode b_Mod_goBy 67 = .ok (.iload_n 1, 1) := by decide +kernel
theorem d_Mod_goBy_68 : decode b_Mod_goBy 68 = .ok (.iadd, 1) := by decide +kernel
theorem d_Mod_goBy_69 : decode b_Mod_goBy 69 = .ok (.iload_n 2, 1) := by decide +kernel
theorem d_Mod_goBy_70 : decode b_Mod_goBy 70 = .ok (.iastore, 1) := by decide +kernel
theorem d_Mod_goBy_71 : decode b_Mod_goBy 71 = .ok (.iload 4, 2) := by decide +kernel
theorem d_Mod_goBy_73 : decode b_Mod_goBy 73 = .ok (.iload_n 3, 1) := by decide +kernel
theorem d_Mod_goBy_74 : decode b_Mod_goBy 74 = .ok (.if_icmp .ge 7, 3) := by decide +kernel
theorem d_Mod_goBy_77 : decode b_Mod_goBy 77 = .ok (.iconst 1, 1) := by decide +kernel
theorem d_Mod_goBy_78 : decode b_Mod_goBy 78 = .ok (.goto 4, 3) := by decide +kernel
theorem d_Mod_goBy_81 : decode b_Mod_goBy 81 = .ok (.iconst 0, 1) := by decide +kernel
theorem d_Mod_goBy_82 : decode b_Mod_goBy 82 = .ok (.ireturn, 1) := by decide +kernel
theorem d_Mod_call_0 : decode b_Mod_call 0 = .ok (.iload_n 1, 1) := by decide +kernel
theorem d_Mod_call_1 : decode b_Mod_call 1 = .ok (.iconst 1, 1) := by decide +kernel
theorem d_Mod_call_2 : decode b_Mod_call 2 = .ok (.bipush 20, 2) := by decide +kernel
theorem d_Mod_call_4 : decode b_Mod_call 4 = .ok (.invokestatic 50, 3) := by decide +kernel
theorem d_Mod_call_7 : decode b_Mod_call 7 = .ok (.ifCond .ne 6, 3) := by decide +kernel
theorem d_Mod_call_10 : decode b_Mod_call 10 = .ok (.bipush (-2), 2) := by decide +kernel
theorem d_Mod_call_12 : decode b_Mod_call 12 = .ok (.ireturn, 1) := by decide +kernel
theorem d_Mod_call_13 : decode b_Mod_call 13 = .ok (.aload_n 0, 1) := by decide +kernel
theorem d_Mod_call_14 : decode b_Mod_call 14 = .ok (.invokevirtual 175, 3) := by decide +kernel
theorem d_Mod_call_17 : decode b_Mod_call 17 = .ok (.iconst 0, 1) := by decide +kernel
theorem d_Mod_call_18 : decode b_Mod_call 18 = .ok (.istore_n 2, 1) := by decide +kernel
theorem d_Mod_call_19 : decode b_Mod_call 19 = .ok (.ldc 190, 2) := by decide +kernel
theorem d_Mod_call_21 : decode b_Mod_call 21 = .ok (.istore_n 3, 1) := by decide +kernel
theorem d_Mod_call_22 : decode b_Mod_call 22 = .ok (.iconst 0, 1) := by decide +kernel
theorem d_Mod_call_23 : decode b_Mod_call 23 = .ok (.istore 4, 2) := by decide +kernel
theorem d_Mod_call_25 : decode b_Mod_call 25 = .ok (.iload 4, 2) := by decide +kernel
theorem d_Mod_call_27 : decode b_Mod_call 27 = .ok (.bipush 60, 2) := by decide +kernel
theorem d_Mod_call_29 : decode b_Mod_call 29 = .ok (.if_icmp .gt 57, 3) := by decide +kernel
theorem d_Mod_call_32 : decode b_Mod_call 32 = .ok (.aload_n 0, 1) := by decide +kernel
theorem d_Mod_call_33 : decode b_Mod_call 33 = .ok (.iload 4, 2) := by decide +kernel
theorem d_Mod_call_35 : decode b_Mod_call 35 = .ok (.putfield 166, 3) := by decide +kernel
theorem d_Mod_call_38 : decode b_Mod_call 38 = .ok (.aload_n 0, 1) := by decide +kernel
theorem d_Mod_call_39 : decode b_Mod_call 39 = .ok (.iload_n 1, 1) := by decide +kernel
theorem d_Mod_call_40 : decode b_Mod_call 40 = .ok (.invokevirtual 178, 3) := by decide +kernel
theorem d_Mod_call_43 : decode b_Mod_call 43 = .ok (.istore 5, 2) := by decide +kernel
theorem d_Mod_call_45 : decode b_Mod_call 45 = .ok (.aload_n 0, 1) := by decide +kernel
theorem d_Mod_call_46 : decode b_Mod_call 46 = .ok (.iconst 0, 1) := by decide +kernel
theorem d_Mod_call_47 : decode b_Mod_call 47 = .ok (.putfield 166, 3) := by decide +kernel
theorem d_Mod_call_50 : decode b_Mod_call 50 = .ok (.aload_n 0, 1) := by decide +kernel
theorem d_Mod_call_51 : decode b_Mod_call 51 = .ok (.invokevirtual 181, 3) := by decide +kernel
theorem d_Mod_call_54 : decode b_Mod_call 54 = .ok (.iload 5, 2) := by decide +kernel
theorem d_Mod_call_56 : decode b_Mod_call 56 = .ok (.iload_n 3, 1) := by decide +kernel
theorem d_Mod_call_57 : decode b_Mod_call 57 = .ok (.if_icmp .ge 8, 3) := by decide +kernel
theorem d_Mod_call_60 : decode b_Mod_call 60 = .ok (.iload 4, 2) := by decide +kernel
theorem d_Mod_call_62 : decode b_Mod_call 62 = .ok (.goto 4, 3) := by decide +kernel
theorem d_Mod_call_65 : decode b_Mod_call 65 = .ok (.iload_n 2, 1) := by decide +kernel
theorem d_Mod_call_66 : decode b_Mod_call 66 = .ok (.istore_n 2, 1) := by decide +kernel
theorem d_Mod_call_67 : decode b_Mod_call 67 = .ok (.iload 5, 2) := by decide +kernel
theorem d_Mod_call_69 : decode b_Mod_call 69 = .ok (.iload_n 3, 1) := by decide +kernel
theorem d_Mod_call_70 : decode b_Mod_call 70 = .ok (.if_icmp .ge 8, 3) := by decide +kernel
theorem d_Mod_call_73 : decode b_Mod_call 73 = .ok (.iload 5, 2) := by decide +kernel
theorem d_Mod_call_75 : decode b_Mod_call 75 = .ok (.goto 4, 3) := by decide +kernel
theorem d_Mod_call_78 : decode b_Mod_call 78 = .ok (.iload_n 3, 1) := by decide +kernel
theorem d_Mod_call_79 : decode b_Mod_call 79 = .ok (.istore_n 3, 1) := by decide +kernel
theorem d_Mod_call_80 : decode b_Mod_call 80 = .ok (.iinc 4 1, 3) := by decide +kernel
theorem d_Mod_call_83 : decode b_Mod_call 83 = .ok (.goto (-58), 3) := by decide +kernel
theorem d_Mod_call_86 : decode b_Mod_call 86 = .ok (.iload_n 2, 1) := by decide +kernel
theorem d_Mod_call_87 : decode b_Mod_call 87 = .ok (.ireturn, 1) := by decide +kernel
theorem d_Mod_padded_0 : decode b_Mod_padded 0 = .ok (.aload_n 0, 1) := by decide +kernel
theorem d_Mod_padded_1 : decode b_Mod_padded 1 = .ok (.iload_n 1, 1) := by decide +kernel
theorem d_Mod_padded_2 : decode b_Mod_padded 2 = .ok (.invokevirtual 149, 3) := by decide +kernel
theorem d_Mod_padded_5 : decode b_Mod_padded 5 = .ok (.ifCond .ne 5, 3) := by decide +kernel
theorem d_Mod_padded_8 : decode b_Mod_padded 8 = .ok (.iconst (-1), 1) := by decide +kernel
theorem d_Mod_padded_9 : decode b_Mod_padded 9 = .ok (.ireturn, 1) := by decide +kernel
theorem d_Mod_padded_10 : decode b_Mod_padded 10 = .ok (.iload_n 2, 1) := by decide +kernel
theorem d_Mod_padded_11 : decode b_Mod_padded 11 = .ok (.iconst 0, 1) := by decide +kernel
theorem d_Mod_padded_12 : decode b_Mod_padded 12 = .ok (.bipush 30, 2) := by decide +kernel
theorem d_Mod_padded_14 : decode b_Mod_padded 14 = .ok (.invokestatic 50, 3) := by decide +kernel
theorem d_Mod_padded_17 : decode b_Mod_padded 17 = .ok (.ifCond .ne 6, 3) := by decide +kernel
theorem d_Mod_padded_20 : decode b_Mod_padded 20 = .ok (.bipush (-2), 2) := by decide +kernel
theorem d_Mod_padded_22 : decode b_Mod_padded 22 = .ok (.ireturn, 1) := by decide +kernel
theorem d_Mod_padded_23 : decode b_Mod_padded 23 = .ok (.aload_n 0, 1) := by decide +kernel
theorem d_Mod_padded_24 : decode b_Mod_padded 24 = .ok (.invokevirtual 175, 3) := by decide +kernel
theorem d_Mod_padded_27 : decode b_Mod_padded 27 = .ok (.iconst 0, 1) := by decide +kernel
theorem d_Mod_padded_28 : decode b_Mod_padded 28 = .ok (.istore_n 3, 1) := by decide +kernel
theorem d_Mod_padded_29 : decode b_Mod_padded 29 = .ok (.iconst 0, 1) := by decide +kernel
theorem d_Mod_padded_30 : decode b_Mod_padded 30 = .ok (.istore 4, 2) := by decide +kernel
theorem d_Mod_padded_32 : decode b_Mod_padded 32 = .ok (.iload 4, 2) := by decide +kernel
theorem d_Mod_padded_34 : decode b_Mod_padded 34 = .ok (.iload_n 2, 1) := by decide +kernel
theorem d_Mod_padded_35 : decode b_Mod_padded 35 = .ok (.if_icmp .gt 34, 3) := by decide +kernel
theorem d_Mod_padded_38 : decode b_Mod_padded 38 = .ok (.aload_n 0, 1) := by decide +kernel
theorem d_Mod_padded_39 : decode b_Mod_padded 39 = .ok (.iload_n 1, 1) := by decide +kernel
theorem d_Mod_padded_40 : decode b_Mod_padded 40 = .ok (.invokevirtual 153, 3) := by decide +kernel
theorem d_Mod_padded_43 : decode b_Mod_padded 43 = .ok (.istore 5, 2) := by decide +kernel
theorem d_Mod_padded_45 : decode b_Mod_padded 45 = .ok (.iload 5, 2) := by decide +kernel
theorem d_Mod_padded_47 : decode b_Mod_padded 47 = .ok (.iload_n 3, 1) := by decide +kernel
theorem d_Mod_padded_48 : decode b_Mod_padded 48 = .ok (.if_icmp .le 8, 3) := by decide +kernel
theorem d_Mod_padded_51 : decode b_Mod_padded 51 = .ok (.iload 5, 2) := by decide +kernel
theorem d_Mod_padded_53 : decode b_Mod_padded 53 = .ok (.goto 4, 3) := by decide +kernel
theorem d_Mod_padded_56 : decode b_Mod_padded 56 = .ok (.iload_n 3, 1) := by decide +kernel
theorem d_Mod_padded_57 : decode b_Mod_padded 57 = .ok (.istore_n 3, 1) := by decide +kernel
theorem d_Mod_padded_58 : decode b_Mod_padded 58 = .ok (.aload_n 0, 1) := by decide +kernel
theorem d_Mod_padded_59 : decode b_Mod_padded 59 = .ok (.invokevirtual 172, 3) := by decide +kernel
theorem d_Mod_padded_62 : decode b_Mod_padded 62 = .ok (.pop, 1) := by decide +kernel
theorem d_Mod_padded_63 : decode b_Mod_padded 63 = .ok (.iinc 4 1, 3) := by decide +kernel
theorem d_Mod_padded_66 : decode b_Mod_padded 66 = .ok (.goto (-34), 3) := by decide +kernel
theorem d_Mod_padded_69 : decode b_Mod_padded 69 = .ok (.aload_n 0, 1) := by decide +kernel
theorem d_Mod_padded_70 : decode b_Mod_padded 70 = .ok (.invokevirtual 181, 3) := by decide +kernel
theorem d_Mod_padded_73 : decode b_Mod_padded 73 = .ok (.iload_n 3, 1) := by decide +kernel
theorem d_Mod_padded_74 : decode b_Mod_padded 74 = .ok (.bipush 99, 2) := by decide +kernel
theorem d_Mod_padded_76 : decode b_Mod_padded 76 = .ok (.if_icmp .le 8, 3) := by decide +kernel
theorem d_Mod_padded_79 : decode b_Mod_padded 79 = .ok (.bipush (-5), 2) := by decide +kernel
theorem d_Mod_padded_81 : decode b_Mod_padded 81 = .ok (.goto 4, 3) := by decide +kernel
theorem d_Mod_padded_84 : decode b_Mod_padded 84 = .ok (.iload_n 3, 1) := by decide +kernel
theorem d_Mod_padded_85 : decode b_Mod_padded 85 = .ok (.ireturn, 1) := by decide +kernel
theorem d_Mod_tellOne_0 : decode b_Mod_tellOne 0 = .ok (.aload_n 0, 1) := by decide +kernel
theorem d_Mod_tellOne_1 : decode b_Mod_tellOne 1 = .ok (.invokevirtual 169, 3) := by decide +kernel
theorem d_Mod_tellOne_4 : decode b_Mod_tellOne 4 = .ok (.istore_n 1, 1) := by decide +kernel
theorem d_Mod_tellOne_5 : decode b_Mod_tellOne 5 = .ok (.bipush (-5), 2) := by decide +kernel
theorem d_Mod_tellOne_7 : decode b_Mod_tellOne 7 = .ok (.istore_n 2, 1) := by decide +kernel
theorem d_Mod_tellOne_8 : decode b_Mod_tellOne 8 = .ok (.iconst 0, 1) := by decide +kernel
theorem d_Mod_tellOne_9 : decode b_Mod_tellOne 9 = .ok (.istore_n 3, 1) := by decide +kernel
theorem d_Mod_tellOne_10 : decode b_Mod_tellOne 10 = .ok (.iload_n 3, 1) := by decide +kernel
theorem d_Mod_tellOne_11 : decode b_Mod_tellOne 11 = .ok (.aload_n 0, 1) := by decide +kernel
theorem d_Mod_tellOne_12 : decode b_Mod_tellOne 12 = .ok (.getfield 9, 3) := by decide +kernel
theorem d_Mod_tellOne_15 : decode b_Mod_tellOne 15 = .ok (.bipush 11, 2) := by decide +kernel
theorem d_Mod_tellOne_17 : decode b_Mod_tellOne 17 = .ok (.iaload, 1) := by decide +kernel
theorem d_Mod_tellOne_18 : decode b_Mod_tellOne 18 = .ok (.aload_n 0, 1) := by decide +kernel
theorem d_Mod_tellOne_19 : decode b_Mod_tellOne 19 = .ok (.getfield 9, 3) := by decide +kernel
theorem d_Mod_tellOne_22 : decode b_Mod_tellOne 22 = .ok (.bipush 11, 2) := by decide +kernel
theorem d_Mod_tellOne_24 : decode b_Mod_tellOne 24 = .ok (.iaload, 1) := by decide +kernel
theorem d_Mod_tellOne_25 : decode b_Mod_tellOne 25 = .ok (.imul, 1) := by decide +kernel
theorem d_Mod_tellOne_26 : decode b_Mod_tellOne 26 = .ok (.if_icmp .ge 139, 3) := by decide +kernel
theorem d_Mod_tellOne_29 : decode b_Mod_tellOne 29 = .ok (.iload_n 3, 1) := by decide +kernel
theorem d_Mod_tellOne_30 : decode b_Mod_tellOne 30 = .ok (.aload_n 0, 1) := by decide +kernel
theorem d_Mod_tellOne_31 : decode b_Mod_tellOne 31 = .ok (.getfield 9, 3) := by decide +kernel
theorem d_Mod_tellOne_34 : decode b_Mod_tellOne 34 = .ok (.bipush 11, 2) := by decide +kernel
theorem d_Mod_tellOne_36 : decode b_Mod_tellOne 36 = .ok (.iaload, 1) := by decide +kernel
theorem d_Mod_tellOne_37 : decode b_Mod_tellOne 37 = .ok (.idiv, 1) := by decide +kernel
theorem d_Mod_tellOne_38 : decode b_Mod_tellOne 38 = .ok (.istore 4, 2) := by decide +kernel
theorem d_Mod_tellOne_40 : decode b_Mod_tellOne 40 = .ok (.iload_n 3, 1) := by decide +kernel
theorem d_Mod_tellOne_41 : decode b_Mod_tellOne 41 = .ok (.aload_n 0, 1) := by decide +kernel
theorem d_Mod_tellOne_42 : decode b_Mod_tellOne 42 = .ok (.getfield 9, 3) := by decide +kernel
theorem d_Mod_tellOne_45 : decode b_Mod_tellOne 45 = .ok (.bipush 11, 2) := by decide +kernel
theorem d_Mod_tellOne_47 : decode b_Mod_tellOne 47 = .ok (.iaload, 1) := by decide +kernel
theorem d_Mod_tellOne_48 : decode b_Mod_tellOne 48 = .ok (.irem, 1) := by decide +kernel
theorem d_Mod_tellOne_49 : decode b_Mod_tellOne 49 = .ok (.istore 5, 2) := by decide +kernel
theorem d_Mod_tellOne_51 : decode b_Mod_tellOne 51 = .ok (.iload 4, 2) := by decide +kernel
theorem d_Mod_tellOne_53 : decode b_Mod_tellOne 53 = .ok (.iload 5, 2) := by decide +kernel
theorem d_Mod_tellOne_55 : decode b_Mod_tellOne 55 = .ok (.if_icmp .eq 104, 3) := by decide +kernel
theorem d_Mod_tellOne_58 : decode b_Mod_tellOne 58 = .ok (.aload_n 0, 1) := by decide +kernel
theorem d_Mod_tellOne_59 : decode b_Mod_tellOne 59 = .ok (.getfield 9, 3) := by decide +kernel
theorem d_Mod_tellOne_62 : decode b_Mod_tellOne 62 = .ok (.bipush 30, 2) := by decide +kernel
theorem d_Mod_tellOne_64 : decode b_Mod_tellOne 64 = .ok (.iload 4, 2) := by decide +kernel
theorem d_Mod_tellOne_66 : decode b_Mod_tellOne 66 = .ok (.iadd, 1) := by decide +kernel
theorem d_Mod_tellOne_67 : decode b_Mod_tellOne 67 = .ok (.iaload, 1) := by decide +kernel
theorem d_Mod_tellOne_68 : decode b_Mod_tellOne 68 = .ok (.aload_n 0, 1) := by decide +kernel
theorem d_Mod_tellOne_69 : decode b_Mod_tellOne 69 = .ok (.getfield 9, 3) := by decide +kernel
theorem d_Mod_tellOne_72 : decode b_Mod_tellOne 72 = .ok (.bipush 30, 2) := by decide +kernel
theorem d_Mod_tellOne_74 : decode b_Mod_tellOne 74 = .ok (.iload 5, 2) := by decide +kernel
theorem d_Mod_tellOne_76 : decode b_Mod_tellOne 76 = .ok (.iadd, 1) := by decide +kernel
theorem d_Mod_tellOne_77 : decode b_Mod_tellOne 77 = .ok (.iaload, 1) := by decide +kernel
theorem d_Mod_tellOne_78 : decode b_Mod_tellOne 78 = .ok (.if_icmp .ne 81, 3) := by decide +kernel
theorem d_Mod_tellOne_81 : decode b_Mod_tellOne 81 = .ok (.aload_n 0, 1) := by decide +kernel
theorem d_Mod_tellOne_82 : decode b_Mod_tellOne 82 = .ok (.getfield 9, 3) := by decide +kernel
theorem d_Mod_tellOne_85 : decode b_Mod_tellOne 85 = .ok (.iconst 5, 1) := by decide +kernel
theorem d_Mod_tellOne_86 : decode b_Mod_tellOne 86 = .ok (.iload 5, 2) := by decide +kernel
theorem d_Mod_tellOne_88 : decode b_Mod_tellOne 88 = .ok (.iadd, 1) := by decide +kernel
theorem d_Mod_tellOne_89 : decode b_Mod_tellOne 89 = .ok (.iaload, 1) := by decide +kernel
theorem d_Mod_tellOne_90 : decode b_Mod_tellOne 90 = .ok (.istore 6, 2) := by decide +kernel
theorem d_Mod_tellOne_92 : decode b_Mod_tellOne 92 = .ok (.aload_n 0, 1) := by decide +kernel
theorem d_Mod_tellOne_93 : decode b_Mod_tellOne 93 = .ok (.getfield 9, 3) := by decide +kernel
theorem d_Mod_tellOne_96 : decode b_Mod_tellOne 96 = .ok (.iconst 5, 1) := by decide +kernel
theorem d_Mod_tellOne_97 : decode b_Mod_tellOne 97 = .ok (.iload 5, 2) := by decide +kernel
theorem d_Mod_tellOne_99 : decode b_Mod_tellOne 99 = .ok (.iadd, 1) := by decide +kernel
theorem d_Mod_tellOne_100 : decode b_Mod_tellOne 100 = .ok (.aload_n 0, 1) := by decide +kernel
theorem d_Mod_tellOne_101 : decode b_Mod_tellOne 101 = .ok (.getfield 9, 3) := by decide +kernel
theorem d_Mod_tellOne_104 : decode b_Mod_tellOne 104 = .ok (.iconst 5, 1) := by decide +kernel
theorem d_Mod_tellOne_105 : decode b_Mod_tellOne 105 = .ok (.iload 4, 2) := by decide +kernel
theorem d_Mod_tellOne_107 : decode b_Mod_tellOne 107 = .ok (.iadd, 1) := by decide +kernel
theorem d_Mod_tellOne_108 : decode b_Mod_tellOne 108 = .ok (.iaload, 1) := by decide +kernel
theorem d_Mod_tellOne_109 : decode b_Mod_tellOne 109 = .ok (.iastore, 1) := by decide +kernel
theorem d_Mod_tellOne_110 : decode b_Mod_tellOne 110 = .ok (.aload_n 0, 1) := by decide +kernel
theorem d_Mod_tellOne_111 : decode b_Mod_tellOne 111 = .ok (.invokevirtual 169, 3) := by decide +kernel
theorem d_Mod_tellOne_114 : decode b_Mod_tellOne 114 = .ok (.istore 7, 2) := by decide +kernel
theorem d_Mod_tellOne_116 : decode b_Mod_tellOne 116 = .ok (.aload_n 0, 1) := by decide +kernel
theorem d_Mod_tellOne_117 : decode b_Mod_tellOne 117 = .ok (.getfield 9, 3) := by decide +kernel
theorem d_Mod_tellOne_120 : decode b_Mod_tellOne 120 = .ok (.iconst 5, 1) := by decide +kernel
theorem d_Mod_tellOne_121 : decode b_Mod_tellOne 121 = .ok (.iload 5, 2) := by decide +kernel
theorem d_Mod_tellOne_123 : decode b_Mod_tellOne 123 = .ok (.iadd, 1) := by decide +kernel
theorem d_Mod_tellOne_124 : decode b_Mod_tellOne 124 = .ok (.iload 6, 2) := by decide +kernel
theorem d_Mod_tellOne_126 : decode b_Mod_tellOne 126 = .ok (.iastore, 1) := by decide +kernel
theorem d_Mod_tellOne_127 : decode b_Mod_tellOne 127 = .ok (.iload 7, 2) := by decide +kernel
theorem d_Mod_tellOne_129 : decode b_Mod_tellOne 129 = .ok (.iload_n 1, 1) := by decide +kernel
theorem d_Mod_tellOne_130 : decode b_Mod_tellOne 130 = .ok (.if_icmp .ge 14, 3) := by decide +kernel
theorem d_Mod_tellOne_133 : decode b_Mod_tellOne 133 = .ok (.bipush 10, 2) := by decide +kernel
theorem d_Mod_tellOne_135 : decode b_Mod_tellOne 135 = .ok (.iload 4, 2) := by decide +kernel
theorem d_Mod_tellOne_137 : decode b_Mod_tellOne 137 = .ok (.imul, 1) := by decide +kernel
theorem d_Mod_tellOne_138 : decode b_Mod_tellOne 138 = .ok (.iload 5, 2) := by decide +kernel
theorem d_Mod_tellOne_140 : decode b_Mod_tellOne 140 = .ok (.iadd, 1) := by decide +kernel
theorem d_Mod_tellOne_141 : decode b_Mod_tellOne 141 = .ok (.goto 4, 3) := by decide +kernel
theorem d_Mod_tellOne_144 : decode b_Mod_tellOne 144 = .ok (.iload_n 2, 1) := by decide +kernel
theorem d_Mod_tellOne_145 : decode b_Mod_tellOne 145 = .ok (.istore_n 2, 1) := by decide +kernel
theorem d_Mod_tellOne_146 : decode b_Mod_tellOne 146 = .ok (.iload 7, 2) := by decide +kernel
theorem d_Mod_tellOne_148 : decode b_Mod_tellOne 148 = .ok (.iload_n 1, 1) := by decide +kernel
theorem d_Mod_tellOne_149 : decode b_Mod_tellOne 149 = .ok (.if_icmp .ge 8, 3) := by decide +kernel
theorem d_Mod_tellOne_152 : decode b_Mod_tellOne 152 = .ok (.iload 7, 2) := by decide +kernel
theorem d_Mod_tellOne_154 : decode b_Mod_tellOne 154 = .ok (.goto 4, 3) := by decide +kernel
theorem d_Mod_tellOne_157 : decode b_Mod_tellOne 157 = .ok (.iload_n 1, 1) := by decide +kernel
theorem d_Mod_tellOne_158 : decode b_Mod_tellOne 158 = .ok (.istore_n 1, 1) := by decide +kernel
theorem d_Mod_tellOne_159 : decode b_Mod_tellOne 159 = .ok (.iinc 3 1, 3) := by decide +kernel
theorem d_Mod_tellOne_162 : decode b_Mod_tellOne 162 = .ok (.goto (-152), 3) := by decide +kernel
theorem d_Mod_tellOne_165 : decode b_Mod_tellOne 165 = .ok (.iload_n 2, 1) := by decide +kernel
theorem d_Mod_tellOne_166 : decode b_Mod_tellOne 166 = .ok (.ireturn, 1) := by decide +kernel
theorem d_Mod_nextNot_0 : decode b_Mod_nextNot 0 = .ok (.iconst 1, 1) := by decide +kernel
theorem d_Mod_nextNot_1 : decode b_Mod_nextNot 1 = .ok (.istore_n 3, 1) := by decide +kernel
theorem d_Mod_nextNot_2 : decode b_Mod_nextNot 2 = .ok (.iload_n 3, 1) := by decide +kernel
theorem d_Mod_nextNot_3 : decode b_Mod_nextNot 3 = .ok (.aload_n 0, 1) := by decide +kernel
theorem d_Mod_nextNot_4 : decode b_Mod_nextNot 4 = .ok (.getfield 9, 3) := by decide +kernel
theorem d_Mod_nextNot_7 : decode b_Mod_nextNot 7 = .ok (.bipush 11, 2) := by decide +kernel
theorem d_Mod_nextNot_9 : decode b_Mod_nextNot 9 = .ok (.iaload, 1) := by decide +kernel
theorem d_Mod_nextNot_10 : decode b_Mod_nextNot 10 = .ok (.if_icmp .ge 56, 3) := by decide +kernel
theorem d_Mod_nextNot_13 : decode b_Mod_nextNot 13 = .ok (.iload_n 1, 1) := by decide +kernel
theorem d_Mod_nextNot_14 : decode b_Mod_nextNot 14 = .ok (.iload_n 3, 1) := by decide +kernel
theorem d_Mod_nextNot_15 : decode b_Mod_nextNot 15 = .ok (.iadd, 1) := by decide +kernel
theorem d_Mod_nextNot_16 : decode b_Mod_nextNot 16 = .ok (.aload_n 0, 1) := by decide +kernel
theorem d_Mod_nextNot_17 : decode b_Mod_nextNot 17 = .ok (.getfield 9, 3) := by decide +kernel
theorem d_Mod_nextNot_20 : decode b_Mod_nextNot 20 = .ok (.bipush 11, 2) := by decide +kernel
theorem d_Mod_nextNot_22 : decode b_Mod_nextNot 22 = .ok (.iaload, 1) := by decide +kernel
theorem d_Mod_nextNot_23 : decode b_Mod_nextNot 23 = .ok (.irem, 1) := by decide +kernel
theorem d_Mod_nextNot_24 : decode b_Mod_nextNot 24 = .ok (.istore 4, 2) := by decide +kernel
theorem d_Mod_nextNot_26 : decode b_Mod_nextNot 26 = .ok (.aload_n 0, 1) := by decide +kernel
theorem d_Mod_nextNot_27 : decode b_Mod_nextNot 27 = .ok (.getfield 9, 3) := by decide +kernel
theorem d_Mod_nextNot_30 : decode b_Mod_nextNot 30 = .ok (.bipush 30, 2) := by decide +kernel
theorem d_Mod_nextNot_32 : decode b_Mod_nextNot 32 = .ok (.iload 4, 2) := by decide +kernel
theorem d_Mod_nextNot_34 : decode b_Mod_nextNot 34 = .ok (.iadd, 1) := by decide +kernel
theorem d_Mod_nextNot_35 : decode b_Mod_nextNot 35 = .ok (.iaload, 1) := by decide +kernel
theorem d_Mod_nextNot_36 : decode b_Mod_nextNot 36 = .ok (.aload_n 0, 1) := by decide +kernel
theorem d_Mod_nextNot_37 : decode b_Mod_nextNot 37 = .ok (.getfield 9, 3) := by decide +kernel
theorem d_Mod_nextNot_40 : decode b_Mod_nextNot 40 = .ok (.bipush 30, 2) := by decide +kernel
theorem d_Mod_nextNot_42 : decode b_Mod_nextNot 42 = .ok (.iload_n 1, 1) := by decide +kernel
theorem d_Mod_nextNot_43 : decode b_Mod_nextNot 43 = .ok (.iadd, 1) := by decide +kernel
theorem d_Mod_nextNot_44 : decode b_Mod_nextNot 44 = .ok (.iaload, 1) := by decide +kernel
theorem d_Mod_nextNot_45 : decode b_Mod_nextNot 45 = .ok (.if_icmp .ne 15, 3) := by decide +kernel
theorem d_Mod_nextNot_48 : decode b_Mod_nextNot 48 = .ok (.iload_n 2, 1) := by decide +kernel
theorem d_Mod_nextNot_49 : decode b_Mod_nextNot 49 = .ok (.iload 4, 2) := by decide +kernel
theorem d_Mod_nextNot_51 : decode b_Mod_nextNot 51 = .ok (.ishr, 1) := by decide +kernel
theorem d_Mod_nextNot_52 : decode b_Mod_nextNot 52 = .ok (.iconst 1, 1) := by decide +kernel
theorem d_Mod_nextNot_53 : decode b_Mod_nextNot 53 = .ok (.iand, 1) := by decide +kernel
theorem d_Mod_nextNot_54 : decode b_Mod_nextNot 54 = .ok (.ifCond .ne 6, 3) := by decide +kernel
theorem d_Mod_nextNot_57 : decode b_Mod_nextNot 57 = .ok (.iload 4, 2) := by decide +kernel
theorem d_Mod_nextNot_59 : decode b_Mod_nextNot 59 = .ok (.ireturn, 1) := by decide +kernel
theorem d_Mod_nextNot_60 : decode b_Mod_nextNot 60 = .ok (.iinc 3 1, 3) := by decide +kernel
theorem d_Mod_nextNot_63 : decode b_Mod_nextNot 63 = .ok (.goto (-61), 3) := by decide +kernel
theorem d_Mod_nextNot_66 : decode b_Mod_nextNot 66 = .ok (.iconst (-1), 1) := by decide +kernel
theorem d_Mod_nextNot_67 : decode b_Mod_nextNot 67 = .ok (.ireturn, 1) := by decide +kernel
theorem d_Mod_known_0 : decode b_Mod_known 0 = .ok (.aload_n 0, 1) := by decide +kernel
theorem d_Mod_known_1 : decode b_Mod_known 1 = .ok (.iload_n 1, 1) := by decide +kernel
theorem d_Mod_known_2 : decode b_Mod_known 2 = .ok (.invokevirtual 149, 3) := by decide +kernel
theorem d_Mod_known_5 : decode b_Mod_known 5 = .ok (.ifCond .ne 5, 3) := by decide +kernel
theorem d_Mod_known_8 : decode b_Mod_known 8 = .ok (.iconst (-1), 1) := by decide +kernel
theorem d_Mod_known_9 : decode b_Mod_known 9 = .ok (.ireturn, 1) := by decide +kernel
theorem d_Mod_known_10 : decode b_Mod_known 10 = .ok (.iconst 0, 1) := by decide +kernel
theorem d_Mod_known_11 : decode b_Mod_known 11 = .ok (.istore_n 2, 1) := by decide +kernel
theorem d_Mod_known_12 : decode b_Mod_known 12 = .ok (.iconst 0, 1) := by decide +kernel
theorem d_Mod_known_13 : decode b_Mod_known 13 = .ok (.istore_n 3, 1) := by decide +kernel
theorem d_Mod_known_14 : decode b_Mod_known 14 = .ok (.iconst 0, 1) := by decide +kernel
theorem d_Mod_known_15 : decode b_Mod_known 15 = .ok (.istore 4, 2) := by decide +kernel
theorem d_Mod_known_17 : decode b_Mod_known 17 = .ok (.iload 4, 2) := by decide +kernel
theorem d_Mod_known_19 : decode b_Mod_known 19 = .ok (.aload_n 0, 1) := by decide +kernel
theorem d_Mod_known_20 : decode b_Mod_known 20 = .ok (.getfield 9, 3) := by decide +kernel
theorem d_Mod_known_23 : decode b_Mod_known 23 = .ok (.bipush 11, 2) := by decide +kernel
theorem d_Mod_known_25 : decode b_Mod_known 25 = .ok (.iaload, 1) := by decide +kernel
theorem d_Mod_known_26 : decode b_Mod_known 26 = .ok (.if_icmp .ge 90, 3) := by decide +kernel
theorem d_Mod_known_29 : decode b_Mod_known 29 = .ok (.aload_n 0, 1) := by decide +kernel
theorem d_Mod_known_30 : decode b_Mod_known 30 = .ok (.getfield 9, 3) := by decide +kernel
theorem d_Mod_known_33 : decode b_Mod_known 33 = .ok (.bipush 30, 2) := by decide +kernel
theorem d_Mod_known_35 : decode b_Mod_known 35 = .ok (.iload 4, 2) := by decide +kernel
theorem d_Mod_known_37 : decode b_Mod_known 37 = .ok (.iadd, 1) := by decide +kernel
theorem d_Mod_known_38 : decode b_Mod_known 38 = .ok (.iaload, 1) := by decide +kernel
theorem d_Mod_known_39 : decode b_Mod_known 39 = .ok (.aload_n 0, 1) := by decide +kernel
theorem d_Mod_known_40 : decode b_Mod_known 40 = .ok (.getfield 9, 3) := by decide +kernel
theorem d_Mod_known_43 : decode b_Mod_known 43 = .ok (.bipush 30, 2) := by decide +kernel
theorem d_Mod_known_45 : decode b_Mod_known 45 = .ok (.iload_n 1, 1) := by decide +kernel
theorem d_Mod_known_46 : decode b_Mod_known 46 = .ok (.iadd, 1) := by decide +kernel
theorem d_Mod_known_47 : decode b_Mod_known 47 = .ok (.iaload, 1) := by decide +kernel
theorem d_Mod_known_48 : decode b_Mod_known 48 = .ok (.if_icmp .ne 7, 3) := by decide +kernel
theorem d_Mod_known_51 : decode b_Mod_known 51 = .ok (.iconst 1, 1) := by decide +kernel
theorem d_Mod_known_52 : decode b_Mod_known 52 = .ok (.goto 4, 3) := by decide +kernel
theorem d_Mod_known_55 : decode b_Mod_known 55 = .ok (.iconst 0, 1) := by decide +kernel
theorem d_Mod_known_56 : decode b_Mod_known 56 = .ok (.istore 5, 2) := by decide +kernel
theorem d_Mod_known_58 : decode b_Mod_known 58 = .ok (.iload_n 2, 1) := by decide +kernel
theorem d_Mod_known_59 : decode b_Mod_known 59 = .ok (.iload 5, 2) := by decide +kernel
theorem d_Mod_known_61 : decode b_Mod_known 61 = .ok (.ifCond .eq 10, 3) := by decide +kernel
theorem d_Mod_known_64 : decode b_Mod_known 64 = .ok (.iconst 1, 1) := by decide +kernel
theorem d_Mod_known_65 : decode b_Mod_known 65 = .ok (.iload 4, 2) := by decide +kernel
theorem d_Mod_known_67 : decode b_Mod_known 67 = .ok (.ishl, 1) := by decide +kernel
theorem d_Mod_known_68 : decode b_Mod_known 68 = .ok (.goto 4, 3) := by decide +kernel
theorem d_Mod_known_71 : decode b_Mod_known 71 = .ok (.iconst 0, 1) := by decide +kernel
theorem d_Mod_known_72 : decode b_Mod_known 72 = .ok (.ior, 1) := by decide +kernel
theorem d_Mod_known_73 : decode b_Mod_known 73 = .ok (.istore_n 2, 1) := by decide +kernel
theorem d_Mod_known_74 : decode b_Mod_known 74 = .ok (.iload_n 3, 1) := by decide +kernel
theorem d_Mod_known_75 : decode b_Mod_known 75 = .ok (.iload 5, 2) := by decide +kernel
theorem d_Mod_known_77 : decode b_Mod_known 77 = .ok (.ifCond .eq 30, 3) := by decide +kernel
theorem d_Mod_known_80 : decode b_Mod_known 80 = .ok (.aload_n 0, 1) := by decide +kernel
theorem d_Mod_known_81 : decode b_Mod_known 81 = .ok (.getfield 9, 3) := by decide +kernel
theorem d_Mod_known_84 : decode b_Mod_known 84 = .ok (.iconst 5, 1) := by decide +kernel
theorem d_Mod_known_85 : decode b_Mod_known 85 = .ok (.iload 4, 2) := by decide +kernel
theorem d_Mod_known_87 : decode b_Mod_known 87 = .ok (.iadd, 1) := by decide +kernel
theorem d_Mod_known_88 : decode b_Mod_known 88 = .ok (.iaload, 1) := by decide +kernel
theorem d_Mod_known_89 : decode b_Mod_known 89 = .ok (.aload_n 0, 1) := by decide +kernel
theorem d_Mod_known_90 : decode b_Mod_known 90 = .ok (.getfield 9, 3) := by decide +kernel
theorem d_Mod_known_93 : decode b_Mod_known 93 = .ok (.iconst 5, 1) := by decide +kernel
theorem d_Mod_known_94 : decode b_Mod_known 94 = .ok (.iload_n 1, 1) := by decide +kernel
theorem d_Mod_known_95 : decode b_Mod_known 95 = .ok (.iadd, 1) := by decide +kernel
theorem d_Mod_known_96 : decode b_Mod_known 96 = .ok (.iaload, 1) := by decide +kernel
theorem d_Mod_known_97 : decode b_Mod_known 97 = .ok (.if_icmp .ne 10, 3) := by decide +kernel
theorem d_Mod_known_100 : decode b_Mod_known 100 = .ok (.iconst 1, 1) := by decide +kernel
theorem d_Mod_known_101 : decode b_Mod_known 101 = .ok (.iload 4, 2) := by decide +kernel
theorem d_Mod_known_103 : decode b_Mod_known 103 = .ok (.ishl, 1) := by decide +kernel
theorem d_Mod_known_104 : decode b_Mod_known 104 = .ok (.goto 4, 3) := by decide +kernel
theorem d_Mod_known_107 : decode b_Mod_known 107 = .ok (.iconst 0, 1) := by decide +kernel
theorem d_Mod_known_108 : decode b_Mod_known 108 = .ok (.ior, 1) := by decide +kernel
theorem d_Mod_known_109 : decode b_Mod_known 109 = .ok (.istore_n 3, 1) := by decide +kernel
theorem d_Mod_known_110 : decode b_Mod_known 110 = .ok (.iinc 4 1, 3) := by decide +kernel
theorem d_Mod_known_113 : decode b_Mod_known 113 = .ok (.goto (-96), 3) := by decide +kernel
theorem d_Mod_known_116 : decode b_Mod_known 116 = .ok (.iconst 0, 1) := by decide +kernel
theorem d_Mod_known_117 : decode b_Mod_known 117 = .ok (.istore 4, 2) := by decide +kernel
theorem d_Mod_known_119 : decode b_Mod_known 119 = .ok (.iload 4, 2) := by decide +kernel
theorem d_Mod_known_121 : decode b_Mod_known 121 = .ok (.bipush 20, 2) := by decide +kernel
theorem d_Mod_known_123 : decode b_Mod_known 123 = .ok (.if_icmp .gt 86, 3) := by decide +kernel
theorem d_Mod_known_126 : decode b_Mod_known 126 = .ok (.iload_n 3, 1) := by decide +kernel
theorem d_Mod_known_127 : decode b_Mod_known 127 = .ok (.iload_n 2, 1) := by decide +kernel
theorem d_Mod_known_128 : decode b_Mod_known 128 = .ok (.if_icmp .ne 6, 3) := by decide +kernel
theorem d_Mod_known_131 : decode b_Mod_known 131 = .ok (.iload 4, 2) := by decide +kernel
theorem d_Mod_known_133 : decode b_Mod_known 133 = .ok (.ireturn, 1) := by decide +kernel
theorem d_Mod_known_134 : decode b_Mod_known 134 = .ok (.iload_n 3, 1) := by decide +kernel
theorem d_Mod_known_135 : decode b_Mod_known 135 = .ok (.istore 5, 2) := by decide +kernel
theorem d_Mod_known_137 : decode b_Mod_known 137 = .ok (.iconst 0, 1) := by decide +kernel
theorem d_Mod_known_138 : decode b_Mod_known 138 = .ok (.istore 6, 2) := by decide +kernel
theorem d_Mod_known_140 : decode b_Mod_known 140 = .ok (.iload 6, 2) := by decide +kernel
theorem d_Mod_known_142 : decode b_Mod_known 142 = .ok (.aload_n 0, 1) := by decide +kernel
theorem d_Mod_known_143 : decode b_Mod_known 143 = .ok (.getfield 9, 3) := by decide +kernel
theorem d_Mod_known_146 : decode b_Mod_known 146 = .ok (.bipush 11, 2) := by decide +kernel
theorem d_Mod_known_148 : decode b_Mod_known 148 = .ok (.iaload, 1) := by decide +kernel
theorem d_Mod_known_149 : decode b_Mod_known 149 = .ok (.if_icmp .ge 51, 3) := by decide +kernel
theorem d_Mod_known_152 : decode b_Mod_known 152 = .ok (.iload_n 3, 1) := by decide +kernel
theorem d_Mod_known_153 : decode b_Mod_known 153 = .ok (.iload 6, 2) := by decide +kernel
theorem d_Mod_known_155 : decode b_Mod_known 155 = .ok (.ishr, 1) := by decide +kernel
theorem d_Mod_known_156 : decode b_Mod_known 156 = .ok (.iconst 1, 1) := by decide +kernel
theorem d_Mod_known_157 : decode b_Mod_known 157 = .ok (.iand, 1) := by decide +kernel
theorem d_Mod_known_158 : decode b_Mod_known 158 = .ok (.iconst 1, 1) := by decide +kernel
theorem d_Mod_known_159 : decode b_Mod_known 159 = .ok (.if_icmp .ne 13, 3) := by decide +kernel
theorem d_Mod_known_162 : decode b_Mod_known 162 = .ok (.aload_n 0, 1) := by decide +kernel
theorem d_Mod_known_163 : decode b_Mod_known 163 = .ok (.iload 6, 2) := by decide +kernel
theorem d_Mod_known_165 : decode b_Mod_known 165 = .ok (.iload_n 3, 1) := by decide +kernel
theorem d_Mod_known_166 : decode b_Mod_known 166 = .ok (.invokevirtual 204, 3) := by decide +kernel
theorem d_Mod_known_169 : decode b_Mod_known 169 = .ok (.goto 4, 3) := by decide +kernel
theorem d_Mod_known_172 : decode b_Mod_known 172 = .ok (.iconst (-1), 1) := by decide +kernel
theorem d_Mod_known_173 : decode b_Mod_known 173 = .ok (.istore 7, 2) := by decide +kernel
theorem d_Mod_known_175 : decode b_Mod_known 175 = .ok (.iload 5, 2) := by decide +kernel
theorem d_Mod_known_177 : decode b_Mod_known 177 = .ok (.iload 7, 2) := by decide +kernel
theorem d_Mod_known_179 : decode b_Mod_known 179 = .ok (.iconst (-1), 1) := by decide +kernel
theorem d_Mod_known_180 : decode b_Mod_known 180 = .ok (.if_icmp .ne 7, 3) := by decide +kernel
theorem d_Mod_known_183 : decode b_Mod_known 183 = .ok (.iconst 0, 1) := by decide +kernel
theorem d_Mod_known_184 : decode b_Mod_known 184 = .ok (.goto 7, 3) := by decide +kernel
theorem d_Mod_known_187 : decode b_Mod_known 187 = .ok (.iconst 1, 1) := by decide +kernel
theorem d_Mod_known_188 : decode b_Mod_known 188 = .ok (.iload 7, 2) := by decide +kernel
theorem d_Mod_known_190 : decode b_Mod_known 190 = .ok (.ishl, 1) := by decide +kernel
theorem d_Mod_known_191 : decode b_Mod_known 191 = .ok (.ior, 1) := by decide +kernel
theorem d_Mod_known_192 : decode b_Mod_known 192 = .ok (.istore 5, 2) := by decide +kernel
theorem d_Mod_known_194 : decode b_Mod_known 194 = .ok (.iinc 6 1, 3) := by decide +kernel
theorem d_Mod_known_197 : decode b_Mod_known 197 = .ok (.goto (-57), 3) := by decide +kernel
theorem d_Mod_known_200 : decode b_Mod_known 200 = .ok (.iload 5, 2) := by decide +kernel
theorem d_Mod_known_202 : decode b_Mod_known 202 = .ok (.istore_n 3, 1) := by decide +kernel
theorem d_Mod_known_203 : decode b_Mod_known 203 = .ok (.iinc 4 1, 3) := by decide +kernel
theorem d_Mod_known_206 : decode b_Mod_known 206 = .ok (.goto (-87), 3) := by decide +kernel
theorem d_Mod_known_209 : decode b_Mod_known 209 = .ok (.bipush (-5), 2) := by decide +kernel
theorem d_Mod_known_211 : decode b_Mod_known 211 = .ok (.ireturn, 1) := by decide +kernel
theorem d_Mod_see_0 : decode b_Mod_see 0 = .ok (.iload_n 1, 1) := by decide +kernel
theorem d_Mod_see_1 : decode b_Mod_see 1 = .ok (.iconst (-1), 1) := by decide +kernel
theorem d_Mod_see_2 : decode b_Mod_see 2 = .ok (.if_icmp .ne 13, 3) := by decide +kernel
theorem d_Mod_see_5 : decode b_Mod_see 5 = .ok (.aload_n 0, 1) := by decide +kernel
theorem d_Mod_see_6 : decode b_Mod_see 6 = .ok (.getfield 9, 3) := by decide +kernel
theorem d_Mod_see_9 : decode b_Mod_see 9 = .ok (.bipush 13, 2) := by decide +kernel
theorem d_Mod_see_11 : decode b_Mod_see 11 = .ok (.iconst 0, 1) := by decide +kernel
theorem d_Mod_see_12 : decode b_Mod_see 12 = .ok (.iastore, 1) := by decide +kernel
theorem d_Mod_see_13 : decode b_Mod_see 13 = .ok (.iconst 0, 1) := by decide +kernel
theorem d_Mod_see_14 : decode b_Mod_see 14 = .ok (.ireturn, 1) := by decide +kernel
theorem d_Mod_see_15 : decode b_Mod_see 15 = .ok (.aload_n 0, 1) := by decide +kernel
theorem d_Mod_see_16 : decode b_Mod_see 16 = .ok (.iload_n 1, 1) := by decide +kernel
theorem d_Mod_see_17 : decode b_Mod_see 17 = .ok (.invokevirtual 149, 3) := by decide +kernel
theorem d_Mod_see_20 : decode b_Mod_see 20 = .ok (.ifCond .ne 5, 3) := by decide +kernel
theorem d_Mod_see_23 : decode b_Mod_see 23 = .ok (.iconst (-1), 1) := by decide +kernel
theorem d_Mod_see_24 : decode b_Mod_see 24 = .ok (.ireturn, 1) := by decide +kernel
theorem d_Mod_see_25 : decode b_Mod_see 25 = .ok (.iload_n 2, 1) := by decide +kernel
theorem d_Mod_see_26 : decode b_Mod_see 26 = .ok (.sipush (-200), 3) := by decide +kernel
theorem d_Mod_see_29 : decode b_Mod_see 29 = .ok (.sipush 200, 3) := by decide +kernel
theorem d_Mod_see_32 : decode b_Mod_see 32 = .ok (.invokestatic 50, 3) := by decide +kernel
theorem d_Mod_see_35 : decode b_Mod_see 35 = .ok (.ifCond .ne 6, 3) := by decide +kernel
theorem d_Mod_see_38 : decode b_Mod_see 38 = .ok (.bipush (-2), 2) := by decide +kernel
theorem d_Mod_see_40 : decode b_Mod_see 40 = .ok (.ireturn, 1) := by decide +kernel
theorem d_Mod_see_41 : decode b_Mod_see 41 = .ok (.aload_n 0, 1) := by decide +kernel
theorem d_Mod_see_42 : decode b_Mod_see 42 = .ok (.getfield 9, 3) := by decide +kernel
theorem d_Mod_see_45 : decode b_Mod_see 45 = .ok (.bipush 13, 2) := by decide +kernel
theorem d_Mod_see_47 : decode b_Mod_see 47 = .ok (.iaload, 1) := by decide +kernel
theorem d_Mod_see_48 : decode b_Mod_see 48 = .ok (.bipush 6, 2) := by decide +kernel
theorem d_Mod_see_50 : decode b_Mod_see 50 = .ok (.if_icmp .ne 6, 3) := by decide +kernel
theorem d_Mod_see_53 : decode b_Mod_see 53 = .ok (.bipush (-4), 2) := by decide +kernel
theorem d_Mod_see_55 : decode b_Mod_see 55 = .ok (.ireturn, 1) := by decide +kernel
theorem d_Mod_see_56 : decode b_Mod_see 56 = .ok (.aload_n 0, 1) := by decide +kernel
theorem d_Mod_see_57 : decode b_Mod_see 57 = .ok (.getfield 9, 3) := by decide +kernel
theorem d_Mod_see_60 : decode b_Mod_see 60 = .ok (.bipush 60, 2) := by decide +kernel
theorem d_Mod_see_62 : decode b_Mod_see 62 = .ok (.aload_n 0, 1) := by decide +kernel
theorem d_Mod_see_63 : decode b_Mod_see 63 = .ok (.getfield 9, 3) := by decide +kernel
theorem d_Mod_see_66 : decode b_Mod_see 66 = .ok (.bipush 13, 2) := by decide +kernel
theorem d_Mod_see_68 : decode b_Mod_see 68 = .ok (.iaload, 1) := by decide +kernel
theorem d_Mod_see_69 : decode b_Mod_see 69 = .ok (.iadd, 1) := by decide +kernel
theorem d_Mod_see_70 : decode b_Mod_see 70 = .ok (.iload_n 1, 1) := by decide +kernel
theorem d_Mod_see_71 : decode b_Mod_see 71 = .ok (.iastore, 1) := by decide +kernel
theorem d_Mod_see_72 : decode b_Mod_see 72 = .ok (.aload_n 0, 1) := by decide +kernel
theorem d_Mod_see_73 : decode b_Mod_see 73 = .ok (.getfield 9, 3) := by decide +kernel
theorem d_Mod_see_76 : decode b_Mod_see 76 = .ok (.bipush 66, 2) := by decide +kernel
theorem d_Mod_see_78 : decode b_Mod_see 78 = .ok (.aload_n 0, 1) := by decide +kernel
theorem d_Mod_see_79 : decode b_Mod_see 79 = .ok (.getfield 9, 3) := by decide +kernel
theorem d_Mod_see_82 : decode b_Mod_see 82 = .ok (.bipush 13, 2) := by decide +kernel
theorem d_Mod_see_84 : decode b_Mod_see 84 = .ok (.iaload, 1) := by decide +kernel
theorem d_Mod_see_85 : decode b_Mod_see 85 = .ok (.iadd, 1) := by decide +kernel
theorem d_Mod_see_86 : decode b_Mod_see 86 = .ok (.iload_n 2, 1) := by decide +kernel
theorem d_Mod_see_87 : decode b_Mod_see 87 = .ok (.iastore, 1) := by decide +kernel
theorem d_Mod_see_88 : decode b_Mod_see 88 = .ok (.aload_n 0, 1) := by decide +kernel
theorem d_Mod_see_89 : decode b_Mod_see 89 = .ok (.getfield 9, 3) := by decide +kernel
theorem d_Mod_see_92 : decode b_Mod_see 92 = .ok (.bipush 13, 2) := by decide +kernel
theorem d_Mod_see_94 : decode b_Mod_see 94 = .ok (.dup2, 1) := by decide +kernel
theorem d_Mod_see_95 : decode b_Mod_see 95 = .ok (.iaload, 1) := by decide +kernel
theorem d_Mod_see_96 : decode b_Mod_see 96 = .ok (.iconst 1, 1) := by decide +kernel
theorem d_Mod_see_97 : decode b_Mod_see 97 = .ok (.iadd, 1) := by decide +kernel
theorem d_Mod_see_98 : decode b_Mod_see 98 = .ok (.iastore, 1) := by decide +kernel
theorem d_Mod_see_99 : decode b_Mod_see 99 = .ok (.aload_n 0, 1) := by decide +kernel
theorem d_Mod_see_100 : decode b_Mod_see 100 = .ok (.getfield 9, 3) := by decide +kernel
theorem d_Mod_see_103 : decode b_Mod_see 103 = .ok (.bipush 13, 2) := by decide +kernel
theorem d_Mod_see_105 : decode b_Mod_see 105 = .ok (.iaload, 1) := by decide +kernel
theorem d_Mod_see_106 : decode b_Mod_see 106 = .ok (.ireturn, 1) := by decide +kernel
theorem d_Mod_isAsSeen_0 : decode b_Mod_isAsSeen 0 = .ok (.iconst 1, 1) := by decide +kernel
theorem d_Mod_isAsSeen_1 : decode b_Mod_isAsSeen 1 = .ok (.istore_n 1, 1) := by decide +kernel
theorem d_Mod_isAsSeen_2 : decode b_Mod_isAsSeen 2 = .ok (.iconst 0, 1) := by decide +kernel
theorem d_Mod_isAsSeen_3 : decode b_Mod_isAsSeen 3 = .ok (.istore_n 2, 1) := by decide +kernel
theorem d_Mod_isAsSeen_4 : decode b_Mod_isAsSeen 4 = .ok (.iload_n 2, 1) := by decide +kernel
theorem d_Mod_isAsSeen_5 : decode b_Mod_isAsSeen 5 = .ok (.aload_n 0, 1) := by decide +kernel
theorem d_Mod_isAsSeen_6 : decode b_Mod_isAsSeen 6 = .ok (.getfield 9, 3) := by decide +kernel
theorem d_Mod_isAsSeen_9 : decode b_Mod_isAsSeen 9 = .ok (.bipush 13, 2) := by decide +kernel
theorem d_Mod_isAsSeen_11 : decode b_Mod_isAsSeen 11 = .ok (.iaload, 1) := by decide +kernel
theorem d_Mod_isAsSeen_12 : decode b_Mod_isAsSeen 12 = .ok (.if_icmp .ge 44, 3) := by decide +kernel
theorem d_Mod_isAsSeen_15 : decode b_Mod_isAsSeen 15 = .ok (.iload_n 1, 1) := by decide +kernel
theorem d_Mod_isAsSeen_16 : decode b_Mod_isAsSeen 16 = .ok (.ifCond .eq 40, 3) := by decide +kernel
theorem d_Mod_isAsSeen_19 : decode b_Mod_isAsSeen 19 = .ok (.aload_n 0, 1) := by decide +kernel
theorem d_Mod_isAsSeen_20 : decode b_Mod_isAsSeen 20 = .ok (.aload_n 0, 1) := by decide +kernel
theorem d_Mod_isAsSeen_21 : decode b_Mod_isAsSeen 21 = .ok (.getfield 9, 3) := by decide +kernel
theorem d_Mod_isAsSeen_24 : decode b_Mod_isAsSeen 24 = .ok (.bipush 60, 2) := by decide +kernel
theorem d_Mod_isAsSeen_26 : decode b_Mod_isAsSeen 26 = .ok (.iload_n 2, 1) := by decide +kernel
theorem d_Mod_isAsSeen_27 : decode b_Mod_isAsSeen 27 = .ok (.iadd, 1) := by decide +kernel
theorem d_Mod_isAsSeen_28 : decode b_Mod_isAsSeen 28 = .ok (.iaload, 1) := by decide +kernel
theorem d_Mod_isAsSeen_29 : decode b_Mod_isAsSeen 29 = .ok (.invokevirtual 153, 3) := by decide +kernel
theorem d_Mod_isAsSeen_32 : decode b_Mod_isAsSeen 32 = .ok (.aload_n 0, 1) := by decide +kernel
theorem d_Mod_isAsSeen_33 : decode b_Mod_isAsSeen 33 = .ok (.getfield 9, 3) := by decide +kernel
theorem d_Mod_isAsSeen_36 : decode b_Mod_isAsSeen 36 = .ok (.bipush 66, 2) := by decide +kernel
theorem d_Mod_isAsSeen_38 : decode b_Mod_isAsSeen 38 = .ok (.iload_n 2, 1) := by decide +kernel
theorem d_Mod_isAsSeen_39 : decode b_Mod_isAsSeen 39 = .ok (.iadd, 1) := by decide +kernel
theorem d_Mod_isAsSeen_40 : decode b_Mod_isAsSeen 40 = .ok (.iaload, 1) := by decide +kernel
theorem d_Mod_isAsSeen_41 : decode b_Mod_isAsSeen 41 = .ok (.if_icmp .ne 7, 3) := by decide +kernel
theorem d_Mod_isAsSeen_44 : decode b_Mod_isAsSeen 44 = .ok (.iconst 1, 1) := by decide +kernel
theorem d_Mod_isAsSeen_45 : decode b_Mod_isAsSeen 45 = .ok (.goto 4, 3) := by decide +kernel
theorem d_Mod_isAsSeen_48 : decode b_Mod_isAsSeen 48 = .ok (.iconst 0, 1) := by decide +kernel
theorem d_Mod_isAsSeen_49 : decode b_Mod_isAsSeen 49 = .ok (.istore_n 1, 1) := by decide +kernel
theorem d_Mod_isAsSeen_50 : decode b_Mod_isAsSeen 50 = .ok (.iinc 2 1, 3) := by decide +kernel
theorem d_Mod_isAsSeen_53 : decode b_Mod_isAsSeen 53 = .ok (.goto (-49), 3) := by decide +kernel
theorem d_Mod_isAsSeen_56 : decode b_Mod_isAsSeen 56 = .ok (.iload_n 1, 1) := by decide +kernel
theorem d_Mod_isAsSeen_57 : decode b_Mod_isAsSeen 57 = .ok (.ireturn, 1) := by decide +kernel
theorem d_Mod_fast_0 : decode b_Mod_fast 0 = .ok (.iload_n 1, 1) := by decide +kernel
theorem d_Mod_fast_1 : decode b_Mod_fast 1 = .ok (.invokestatic 159, 3) := by decide +kernel
theorem d_Mod_fast_4 : decode b_Mod_fast 4 = .ok (.ifCond .eq 12, 3) := by decide +kernel
theorem d_Mod_fast_7 : decode b_Mod_fast 7 = .ok (.iload_n 2, 1) := by decide +kernel
theorem d_Mod_fast_8 : decode b_Mod_fast 8 = .ok (.iconst 0, 1) := by decide +kernel
theorem d_Mod_fast_9 : decode b_Mod_fast 9 = .ok (.iconst 1, 1) := by decide +kernel
theorem d_Mod_fast_10 : decode b_Mod_fast 10 = .ok (.invokestatic 50, 3) := by decide +kernel
theorem d_Mod_fast_13 : decode b_Mod_fast 13 = .ok (.ifCond .ne 5, 3) := by decide +kernel
theorem d_Mod_fast_16 : decode b_Mod_fast 16 = .ok (.iconst (-1), 1) := by decide +kernel
theorem d_Mod_fast_17 : decode b_Mod_fast 17 = .ok (.ireturn, 1) := by decide +kernel
theorem d_Mod_fast_18 : decode b_Mod_fast 18 = .ok (.aload_n 0, 1) := by decide +kernel
theorem d_Mod_fast_19 : decode b_Mod_fast 19 = .ok (.getfield 9, 3) := by decide +kernel
theorem d_Mod_fast_22 : decode b_Mod_fast 22 = .ok (.iconst 0, 1) := by decide +kernel
theorem d_Mod_fast_23 : decode b_Mod_fast 23 = .ok (.iload_n 1, 1) := by decide +kernel
theorem d_Mod_fast_24 : decode b_Mod_fast 24 = .ok (.iadd, 1) := by decide +kernel
theorem d_Mod_fast_25 : decode b_Mod_fast 25 = .ok (.iaload, 1) := by decide +kernel
theorem d_Mod_fast_26 : decode b_Mod_fast 26 = .ok (.istore_n 3, 1) := by decide +kernel
theorem d_Mod_fast_27 : decode b_Mod_fast 27 = .ok (.iconst 0, 1) := by decide +kernel
theorem d_Mod_fast_28 : decode b_Mod_fast 28 = .ok (.istore 4, 2) := by decide +kernel
theorem d_Mod_fast_30 : decode b_Mod_fast 30 = .ok (.bipush (-99), 2) := by decide +kernel
theorem d_Mod_fast_32 : decode b_Mod_fast 32 = .ok (.istore 5, 2) := by decide +kernel
theorem d_Mod_fast_34 : decode b_Mod_fast 34 = .ok (.bipush (-60), 2) := by decide +kernel
theorem d_Mod_fast_36 : decode b_Mod_fast 36 = .ok (.istore 6, 2) := by decide +kernel
theorem d_Mod_fast_38 : decode b_Mod_fast 38 = .ok (.iload 6, 2) := by decide +kernel
theorem d_Mod_fast_40 : decode b_Mod_fast 40 = .ok (.bipush 60, 2) := by decide +kernel
theorem d_Mod_fast_42 : decode b_Mod_fast 42 = .ok (.if_icmp .gt 43, 3) := by decide +kernel
theorem d_Mod_fast_45 : decode b_Mod_fast 45 = .ok (.aload_n 0, 1) := by decide +kernel
theorem d_Mod_fast_46 : decode b_Mod_fast 46 = .ok (.getfield 9, 3) := by decide +kernel
theorem d_Mod_fast_49 : decode b_Mod_fast 49 = .ok (.iconst 0, 1) := by decide +kernel
theorem d_Mod_fast_50 : decode b_Mod_fast 50 = .ok (.iload_n 1, 1) := by decide +kernel
theorem d_Mod_fast_51 : decode b_Mod_fast 51 = .ok (.iadd, 1) := by decide +kernel
theorem d_Mod_fast_52 : decode b_Mod_fast 52 = .ok (.iload 6, 2) := by decide +kernel
theorem d_Mod_fast_54 : decode b_Mod_fast 54 = .ok (.iastore, 1) := by decide +kernel
theorem d_Mod_fast_55 : decode b_Mod_fast 55 = .ok (.aload_n 0, 1) := by decide +kernel
theorem d_Mod_fast_56 : decode b_Mod_fast 56 = .ok (.invokevirtual 207, 3) := by decide +kernel
theorem d_Mod_fast_59 : decode b_Mod_fast 59 = .ok (.ifCond .eq 20, 3) := by decide +kernel
theorem d_Mod_fast_62 : decode b_Mod_fast 62 = .ok (.iload 4, 2) := by decide +kernel
theorem d_Mod_fast_64 : decode b_Mod_fast 64 = .ok (.ifCond .ne 8, 3) := by decide +kernel
theorem d_Mod_fast_67 : decode b_Mod_fast 67 = .ok (.iload 6, 2) := by decide +kernel
theorem d_Mod_fast_69 : decode b_Mod_fast 69 = .ok (.goto 5, 3) := by decide +kernel
theorem d_Mod_fast_72 : decode b_Mod_fast 72 = .ok (.iload 5, 2) := by decide +kernel
theorem d_Mod_fast_74 : decode b_Mod_fast 74 = .ok (.istore 5, 2) := by decide +kernel
theorem d_Mod_fast_76 : decode b_Mod_fast 76 = .ok (.iinc 4 1, 3) := by decide +kernel
theorem d_Mod_fast_79 : decode b_Mod_fast 79 = .ok (.iinc 6 1, 3) := by decide +kernel
theorem d_Mod_fast_82 : decode b_Mod_fast 82 = .ok (.goto (-44), 3) := by decide +kernel
theorem d_Mod_fast_85 : decode b_Mod_fast 85 = .ok (.aload_n 0, 1) := by decide +kernel
theorem d_Mod_fast_86 : decode b_Mod_fast 86 = .ok (.getfield 9, 3) := by decide +kernel
theorem d_Mod_fast_89 : decode b_Mod_fast 89 = .ok (.iconst 0, 1) := by decide +kernel
theorem d_Mod_fast_90 : decode b_Mod_fast 90 = .ok (.iload_n 1, 1) := by decide +kernel
theorem d_Mod_fast_91 : decode b_Mod_fast 91 = .ok (.iadd, 1) := by decide +kernel
theorem d_Mod_fast_92 : decode b_Mod_fast 92 = .ok (.iload_n 3, 1) := by decide +kernel
theorem d_Mod_fast_93 : decode b_Mod_fast 93 = .ok (.iastore, 1) := by decide +kernel
theorem d_Mod_fast_94 : decode b_Mod_fast 94 = .ok (.iload_n 2, 1) := by decide +kernel
theorem d_Mod_fast_95 : decode b_Mod_fast 95 = .ok (.ifCond .ne 8, 3) := by decide +kernel
theorem d_Mod_fast_98 : decode b_Mod_fast 98 = .ok (.iload 4, 2) := by decide +kernel
theorem d_Mod_fast_100 : decode b_Mod_fast 100 = .ok (.goto 5, 3) := by decide +kernel
theorem d_Mod_fast_103 : decode b_Mod_fast 103 = .ok (.iload 5, 2) := by decide +kernel
theorem d_Mod_fast_105 : decode b_Mod_fast 105 = .ok (.ireturn, 1) := by decide +kernel
theorem d_Mod_who_0 : decode b_Mod_who 0 = .ok (.iload_n 1, 1) := by decide +kernel
theorem d_Mod_who_1 : decode b_Mod_who 1 = .ok (.sipush (-200), 3) := by decide +kernel
theorem d_Mod_who_4 : decode b_Mod_who 4 = .ok (.sipush 200, 3) := by decide +kernel
theorem d_Mod_who_7 : decode b_Mod_who 7 = .ok (.invokestatic 50, 3) := by decide +kernel
theorem d_Mod_who_10 : decode b_Mod_who 10 = .ok (.ifCond .ne 6, 3) := by decide +kernel
theorem d_Mod_who_13 : decode b_Mod_who 13 = .ok (.bipush (-2), 2) := by decide +kernel
theorem d_Mod_who_15 : decode b_Mod_who 15 = .ok (.ireturn, 1) := by decide +kernel
theorem d_Mod_who_16 : decode b_Mod_who 16 = .ok (.iconst 0, 1) := by decide +kernel
theorem d_Mod_who_17 : decode b_Mod_who 17 = .ok (.istore_n 2, 1) := by decide +kernel
theorem d_Mod_who_18 : decode b_Mod_who 18 = .ok (.iconst 0, 1) := by decide +kernel
theorem d_Mod_who_19 : decode b_Mod_who 19 = .ok (.istore_n 3, 1) := by decide +kernel
theorem d_Mod_who_20 : decode b_Mod_who 20 = .ok (.iload_n 3, 1) := by decide +kernel
theorem d_Mod_who_21 : decode b_Mod_who 21 = .ok (.aload_n 0, 1) := by decide +kernel
theorem d_Mod_who_22 : decode b_Mod_who 22 = .ok (.getfield 9, 3) := by decide +kernel
theorem d_Mod_who_25 : decode b_Mod_who 25 = .ok (.bipush 11, 2) := by decide +kernel
theorem d_Mod_who_27 : decode b_Mod_who 27 = .ok (.iaload, 1) := by decide +kernel
theorem d_Mod_who_28 : decode b_Mod_who 28 = .ok (.if_icmp .ge 28, 3) := by decide +kernel
theorem d_Mod_who_31 : decode b_Mod_who 31 = .ok (.iload_n 2, 1) := by decide +kernel
theorem d_Mod_who_32 : decode b_Mod_who 32 = .ok (.aload_n 0, 1) := by decide +kernel
theorem d_Mod_who_33 : decode b_Mod_who 33 = .ok (.iload_n 3, 1) := by decide +kernel
theorem d_Mod_who_34 : decode b_Mod_who 34 = .ok (.invokevirtual 153, 3) := by decide +kernel
theorem d_Mod_who_37 : decode b_Mod_who 37 = .ok (.iload_n 1, 1) := by decide +kernel
theorem d_Mod_who_38 : decode b_Mod_who 38 = .ok (.if_icmp .ne 9, 3) := by decide +kernel
theorem d_Mod_who_41 : decode b_Mod_who 41 = .ok (.iconst 1, 1) := by decide +kernel
theorem d_Mod_who_42 : decode b_Mod_who 42 = .ok (.iload_n 3, 1) := by decide +kernel
theorem d_Mod_who_43 : decode b_Mod_who 43 = .ok (.ishl, 1) := by decide +kernel
theorem d_Mod_who_44 : decode b_Mod_who 44 = .ok (.goto 4, 3) := by decide +kernel
theorem d_Mod_who_47 : decode b_Mod_who 47 = .ok (.iconst 0, 1) := by decide +kernel
theorem d_Mod_who_48 : decode b_Mod_who 48 = .ok (.ior, 1) := by decide +kernel
theorem d_Mod_who_49 : decode b_Mod_who 49 = .ok (.istore_n 2, 1) := by decide +kernel
theorem d_Mod_who_50 : decode b_Mod_who 50 = .ok (.iinc 3 1, 3) := by decide +kernel
theorem d_Mod_who_53 : decode b_Mod_who 53 = .ok (.goto (-33), 3) := by decide +kernel
theorem d_Mod_who_56 : decode b_Mod_who 56 = .ok (.iload_n 2, 1) := by decide +kernel
theorem d_Mod_who_57 : decode b_Mod_who 57 = .ok (.ireturn, 1) := by decide +kernel
theorem d_Mod_odds_0 : decode b_Mod_odds 0 = .ok (.iload_n 1, 1) := by decide +kernel
theorem d_Mod_odds_1 : decode b_Mod_odds 1 = .ok (.bipush (-60), 2) := by decide +kernel
theorem d_Mod_odds_3 : decode b_Mod_odds 3 = .ok (.bipush 60, 2) := by decide +kernel
theorem d_Mod_odds_5 : decode b_Mod_odds 5 = .ok (.invokestatic 50, 3) := by decide +kernel
theorem d_Mod_odds_8 : decode b_Mod_odds 8 = .ok (.ifCond .eq 22, 3) := by decide +kernel
theorem d_Mod_odds_11 : decode b_Mod_odds 11 = .ok (.iload_n 2, 1) := by decide +kernel
theorem d_Mod_odds_12 : decode b_Mod_odds 12 = .ok (.iconst 0, 1) := by decide +kernel
theorem d_Mod_odds_13 : decode b_Mod_odds 13 = .ok (.iconst 1, 1) := by decide +kernel
theorem d_Mod_odds_14 : decode b_Mod_odds 14 = .ok (.invokestatic 50, 3) := by decide +kernel
theorem d_Mod_odds_17 : decode b_Mod_odds 17 = .ok (.ifCond .eq 13, 3) := by decide +kernel
theorem d_Mod_odds_20 : decode b_Mod_odds 20 = .ok (.aload_n 0, 1) := by decide +kernel
theorem d_Mod_odds_21 : decode b_Mod_odds 21 = .ok (.getfield 9, 3) := by decide +kernel
theorem d_Mod_odds_24 : decode b_Mod_odds 24 = .ok (.bipush 11, 2) := by decide +kernel
theorem d_Mod_odds_26 : decode b_Mod_odds 26 = .ok (.iaload, 1) := by decide +kernel
theorem d_Mod_odds_27 : decode b_Mod_odds 27 = .ok (.ifCond .ne 7, 3) := by decide +kernel
theorem d_Mod_odds_30 : decode b_Mod_odds 30 = .ok (.ldc2_w 198, 3) := by decide +kernel
theorem d_Mod_odds_33 : decode b_Mod_odds 33 = .ok (.lreturn, 1) := by decide +kernel
theorem d_Mod_odds_34 : decode b_Mod_odds 34 = .ok (.lconst 0, 1) := by decide +kernel
theorem d_Mod_odds_35 : decode b_Mod_odds 35 = .ok (.lstore_n 3, 1) := by decide +kernel
theorem d_Mod_odds_36 : decode b_Mod_odds 36 = .ok (.iconst 0, 1) := by decide +kernel
theorem d_Mod_odds_37 : decode b_Mod_odds 37 = .ok (.istore 5, 2) := by decide +kernel
theorem d_Mod_odds_39 : decode b_Mod_odds 39 = .ok (.iload 5, 2) := by decide +kernel
theorem d_Mod_odds_41 : decode b_Mod_odds 41 = .ok (.aload_n 0, 1) := by decide +kernel
theorem d_Mod_odds_42 : decode b_Mod_odds 42 = .ok (.getfield 9, 3) := by decide +kernel
theorem d_Mod_odds_45 : decode b_Mod_odds 45 = .ok (.bipush 11, 2) := by decide +kernel
theorem d_Mod_odds_47 : decode b_Mod_odds 47 = .ok (.iaload, 1) := by decide +kernel
theorem d_Mod_odds_48 : decode b_Mod_odds 48 = .ok (.if_icmp .ge 62, 3) := by decide +kernel
theorem d_Mod_odds_51 : decode b_Mod_odds 51 = .ok (.aload_n 0, 1) := by decide +kernel
theorem d_Mod_odds_52 : decode b_Mod_odds 52 = .ok (.getfield 9, 3) := by decide +kernel
theorem d_Mod_odds_55 : decode b_Mod_odds 55 = .ok (.iconst 5, 1) := by decide +kernel
theorem d_Mod_odds_56 : decode b_Mod_odds 56 = .ok (.iload 5, 2) := by decide +kernel
theorem d_Mod_odds_58 : decode b_Mod_odds 58 = .ok (.iadd, 1) := by decide +kernel
theorem d_Mod_odds_59 : decode b_Mod_odds 59 = .ok (.iaload, 1) := by decide +kernel
theorem d_Mod_odds_60 : decode b_Mod_odds 60 = .ok (.istore 6, 2) := by decide +kernel
theorem d_Mod_odds_62 : decode b_Mod_odds 62 = .ok (.aload_n 0, 1) := by decide +kernel
theorem d_Mod_odds_63 : decode b_Mod_odds 63 = .ok (.getfield 9, 3) := by decide +kernel
theorem d_Mod_odds_66 : decode b_Mod_odds 66 = .ok (.iconst 5, 1) := by decide +kernel
theorem d_Mod_odds_67 : decode b_Mod_odds 67 = .ok (.iload 5, 2) := by decide +kernel
theorem d_Mod_odds_69 : decode b_Mod_odds 69 = .ok (.iadd, 1) := by decide +kernel
theorem d_Mod_odds_70 : decode b_Mod_odds 70 = .ok (.aload_n 0, 1) := by decide +kernel
theorem d_Mod_odds_71 : decode b_Mod_odds 71 = .ok (.iload 5, 2) := by decide +kernel
theorem d_Mod_odds_73 : decode b_Mod_odds 73 = .ok (.invokevirtual 143, 3) := by decide +kernel
theorem d_Mod_odds_76 : decode b_Mod_odds 76 = .ok (.iastore, 1) := by decide +kernel
theorem d_Mod_odds_77 : decode b_Mod_odds 77 = .ok (.lload_n 3, 1) := by decide +kernel
theorem d_Mod_odds_78 : decode b_Mod_odds 78 = .ok (.aload_n 0, 1) := by decide +kernel
theorem d_Mod_odds_79 : decode b_Mod_odds 79 = .ok (.iload_n 1, 1) := by decide +kernel
theorem d_Mod_odds_80 : decode b_Mod_odds 80 = .ok (.invokevirtual 184, 3) := by decide +kernel
theorem d_Mod_odds_83 : decode b_Mod_odds 83 = .ok (.ifCond .eq 7, 3) := by decide +kernel
theorem d_Mod_odds_86 : decode b_Mod_odds 86 = .ok (.lconst 0, 1) := by decide +kernel
theorem d_Mod_odds_87 : decode b_Mod_odds 87 = .ok (.goto 4, 3) := by decide +kernel
theorem d_Mod_odds_90 : decode b_Mod_odds 90 = .ok (.lconst 1, 1) := by decide +kernel
theorem d_Mod_odds_91 : decode b_Mod_odds 91 = .ok (.ladd, 1) := by decide +kernel
theorem d_Mod_odds_92 : decode b_Mod_odds 92 = .ok (.lstore_n 3, 1) := by decide +kernel
theorem d_Mod_odds_93 : decode b_Mod_odds 93 = .ok (.aload_n 0, 1) := by decide +kernel
theorem d_Mod_odds_94 : decode b_Mod_odds 94 = .ok (.getfield 9, 3) := by decide +kernel
theorem d_Mod_odds_97 : decode b_Mod_odds 97 = .ok (.iconst 5, 1) := by decide +kernel
theorem d_Mod_odds_98 : decode b_Mod_odds 98 = .ok (.iload 5, 2) := by decide +kernel
theorem d_Mod_odds_100 : decode b_Mod_odds 100 = .ok (.iadd, 1) := by decide +kernel
theorem d_Mod_odds_101 : decode b_Mod_odds 101 = .ok (.iload 6, 2) := by decide +kernel
theorem d_Mod_odds_103 : decode b_Mod_odds 103 = .ok (.iastore, 1) := by decide +kernel
theorem d_Mod_odds_104 : decode b_Mod_odds 104 = .ok (.iinc 5 1, 3) := by decide +kernel
theorem d_Mod_odds_107 : decode b_Mod_odds 107 = .ok (.goto (-68), 3) := by decide +kernel
theorem d_Mod_odds_110 : decode b_Mod_odds 110 = .ok (.lload_n 3, 1) := by decide +kernel
theorem d_Mod_odds_111 : decode b_Mod_odds 111 = .ok (.aload_n 0, 1) := by decide +kernel
theorem d_Mod_odds_112 : decode b_Mod_odds 112 = .ok (.getfield 9, 3) := by decide +kernel
theorem d_Mod_odds_115 : decode b_Mod_odds 115 = .ok (.bipush 11, 2) := by decide +kernel
theorem d_Mod_odds_117 : decode b_Mod_odds 117 = .ok (.iaload, 1) := by decide +kernel
theorem d_Mod_odds_118 : decode b_Mod_odds 118 = .ok (.i2l, 1) := by decide +kernel
theorem d_Mod_odds_119 : decode b_Mod_odds 119 = .ok (.iload_n 2, 1) := by decide +kernel
theorem d_Mod_odds_120 : decode b_Mod_odds 120 = .ok (.invokestatic 200, 3) := by decide +kernel
theorem d_Mod_odds_123 : decode b_Mod_odds 123 = .ok (.lreturn, 1) := by decide +kernel
theorem d_Mod_mean_0 : decode b_Mod_mean 0 = .ok (.iload_n 1, 1) := by decide +kernel
theorem d_Mod_mean_1 : decode b_Mod_mean 1 = .ok (.iconst 0, 1) := by decide +kernel
theorem d_Mod_mean_2 : decode b_Mod_mean 2 = .ok (.iconst 1, 1) := by decide +kernel
theorem d_Mod_mean_3 : decode b_Mod_mean 3 = .ok (.invokestatic 50, 3) := by decide +kernel
theorem d_Mod_mean_6 : decode b_Mod_mean 6 = .ok (.ifCond .eq 13, 3) := by decide +kernel
theorem d_Mod_mean_9 : decode b_Mod_mean 9 = .ok (.aload_n 0, 1) := by decide +kernel
theorem d_Mod_mean_10 : decode b_Mod_mean 10 = .ok (.getfield 9, 3) := by decide +kernel
theorem d_Mod_mean_13 : decode b_Mod_mean 13 = .ok (.bipush 11, 2) := by decide +kernel
theorem d_Mod_mean_15 : decode b_Mod_mean 15 = .ok (.iaload, 1) := by decide +kernel
theorem d_Mod_mean_16 : decode b_Mod_mean 16 = .ok (.ifCond .ne 7, 3) := by decide +kernel
theorem d_Mod_mean_19 : decode b_Mod_mean 19 = .ok (.ldc2_w 198, 3) := by decide +kernel
theorem d_Mod_mean_22 : decode b_Mod_mean 22 = .ok (.lreturn, 1) := by decide +kernel
theorem d_Mod_mean_23 : decode b_Mod_mean 23 = .ok (.lconst 0, 1) := by decide +kernel
theorem d_Mod_mean_24 : decode b_Mod_mean 24 = .ok (.lstore_n 2, 1) := by decide +kernel
theorem d_Mod_mean_25 : decode b_Mod_mean 25 = .ok (.iconst 0, 1) := by decide +kernel
theorem d_Mod_mean_26 : decode b_Mod_mean 26 = .ok (.istore 4, 2) := by decide +kernel
theorem d_Mod_mean_28 : decode b_Mod_mean 28 = .ok (.iload 4, 2) := by decide +kernel
theorem d_Mod_mean_30 : decode b_Mod_mean 30 = .ok (.aload_n 0, 1) := by decide +kernel
theorem d_Mod_mean_31 : decode b_Mod_mean 31 = .ok (.getfield 9, 3) := by decide +kernel
theorem d_Mod_mean_34 : decode b_Mod_mean 34 = .ok (.bipush 11, 2) := by decide +kernel
theorem d_Mod_mean_36 : decode b_Mod_mean 36 = .ok (.iaload, 1) := by decide +kernel
theorem d_Mod_mean_37 : decode b_Mod_mean 37 = .ok (.if_icmp .ge 19, 3) := by decide +kernel
theorem d_Mod_mean_40 : decode b_Mod_mean 40 = .ok (.lload_n 2, 1) := by decide +kernel
theorem d_Mod_mean_41 : decode b_Mod_mean 41 = .ok (.aload_n 0, 1) := by decide +kernel
theorem d_Mod_mean_42 : decode b_Mod_mean 42 = .ok (.iload 4, 2) := by decide +kernel
theorem d_Mod_mean_44 : decode b_Mod_mean 44 = .ok (.invokevirtual 153, 3) := by decide +kernel
theorem d_Mod_mean_47 : decode b_Mod_mean 47 = .ok (.i2l, 1) := by decide +kernel
theorem d_Mod_mean_48 : decode b_Mod_mean 48 = .ok (.ladd, 1) := by decide +kernel
theorem d_Mod_mean_49 : decode b_Mod_mean 49 = .ok (.lstore_n 2, 1) := by decide +kernel
theorem d_Mod_mean_50 : decode b_Mod_mean 50 = .ok (.iinc 4 1, 3) := by decide +kernel
theorem d_Mod_mean_53 : decode b_Mod_mean 53 = .ok (.goto (-25), 3) := by decide +kernel
theorem d_Mod_mean_56 : decode b_Mod_mean 56 = .ok (.lload_n 2, 1) := by decide +kernel
theorem d_Mod_mean_57 : decode b_Mod_mean 57 = .ok (.aload_n 0, 1) := by decide +kernel
theorem d_Mod_mean_58 : decode b_Mod_mean 58 = .ok (.getfield 9, 3) := by decide +kernel
theorem d_Mod_mean_61 : decode b_Mod_mean 61 = .ok (.bipush 11, 2) := by decide +kernel
theorem d_Mod_mean_63 : decode b_Mod_mean 63 = .ok (.iaload, 1) := by decide +kernel
theorem d_Mod_mean_64 : decode b_Mod_mean 64 = .ok (.i2l, 1) := by decide +kernel
theorem d_Mod_mean_65 : decode b_Mod_mean 65 = .ok (.iload_n 1, 1) := by decide +kernel
theorem d_Mod_mean_66 : decode b_Mod_mean 66 = .ok (.invokestatic 200, 3) := by decide +kernel
theorem d_Mod_mean_69 : decode b_Mod_mean 69 = .ok (.lreturn, 1) := by decide +kernel
theorem d_Mod_rule_0 : decode b_Mod_rule 0 = .ok (.iload_n 3, 1) := by decide +kernel
theorem d_Mod_rule_1 : decode b_Mod_rule 1 = .ok (.iconst (-1), 1) := by decide +kernel
theorem d_Mod_rule_2 : decode b_Mod_rule 2 = .ok (.if_icmp .ne 13, 3) := by decide +kernel
theorem d_Mod_rule_5 : decode b_Mod_rule 5 = .ok (.aload_n 0, 1) := by decide +kernel
theorem d_Mod_rule_6 : decode b_Mod_rule 6 = .ok (.getfield 9, 3) := by decide +kernel
theorem d_Mod_rule_9 : decode b_Mod_rule 9 = .ok (.bipush 14, 2) := by decide +kernel
theorem d_Mod_rule_11 : decode b_Mod_rule 11 = .ok (.iconst 0, 1) := by decide +kernel
theorem d_Mod_rule_12 : decode b_Mod_rule 12 = .ok (.iastore, 1) := by decide +kernel
theorem d_Mod_rule_13 : decode b_Mod_rule 13 = .ok (.iconst 0, 1) := by decide +kernel
theorem d_Mod_rule_14 : decode b_Mod_rule 14 = .ok (.ireturn, 1) := by decide +kernel
theorem d_Mod_rule_15 : decode b_Mod_rule 15 = .ok (.iload_n 1, 1) := by decide +kernel
theorem d_Mod_rule_16 : decode b_Mod_rule 16 = .ok (.invokestatic 159, 3) := by decide +kernel
theorem d_Mod_rule_19 : decode b_Mod_rule 19 = .ok (.ifCond .ne 5, 3) := by decide +kernel
theorem d_Mod_rule_22 : decode b_Mod_rule 22 = .ok (.iconst (-1), 1) := by decide +kernel
theorem d_Mod_rule_23 : decode b_Mod_rule 23 = .ok (.ireturn, 1) := by decide +kernel
theorem d_Mod_rule_24 : decode b_Mod_rule 24 = .ok (.iload_n 2, 1) := by decide +kernel
theorem d_Mod_rule_25 : decode b_Mod_rule 25 = .ok (.bipush (-60), 2) := by decide +kernel
theorem d_Mod_rule_27 : decode b_Mod_rule 27 = .ok (.bipush 60, 2) := by decide +kernel
theorem d_Mod_rule_29 : decode b_Mod_rule 29 = .ok (.invokestatic 50, 3) := by decide +kernel
theorem d_Mod_rule_32 : decode b_Mod_rule 32 = .ok (.ifCond .eq 13, 3) := by decide +kernel
theorem d_Mod_rule_35 : decode b_Mod_rule 35 = .ok (.iload_n 3, 1) := by decide +kernel
theorem d_Mod_rule_36 : decode b_Mod_rule 36 = .ok (.iconst 1, 1) := by decide +kernel
theorem d_Mod_rule_37 : decode b_Mod_rule 37 = .ok (.bipush 9, 2) := by decide +kernel
theorem d_Mod_rule_39 : decode b_Mod_rule 39 = .ok (.invokestatic 50, 3) := by decide +kernel
theorem d_Mod_rule_42 : decode b_Mod_rule 42 = .ok (.ifCond .ne 6, 3) := by decide +kernel
theorem d_Mod_rule_45 : decode b_Mod_rule 45 = .ok (.bipush (-2), 2) := by decide +kernel
theorem d_Mod_rule_47 : decode b_Mod_rule 47 = .ok (.ireturn, 1) := by decide +kernel
theorem d_Mod_rule_48 : decode b_Mod_rule 48 = .ok (.aload_n 0, 1) := by decide +kernel
theorem d_Mod_rule_49 : decode b_Mod_rule 49 = .ok (.getfield 9, 3) := by decide +kernel
theorem d_Mod_rule_52 : decode b_Mod_rule 52 = .ok (.bipush 14, 2) := by decide +kernel
theorem d_Mod_rule_54 : decode b_Mod_rule 54 = .ok (.iaload, 1) := by decide +kernel
theorem d_Mod_rule_55 : decode b_Mod_rule 55 = .ok (.iconst 4, 1) := by decide +kernel
theorem d_Mod_rule_56 : decode b_Mod_rule 56 = .ok (.if_icmp .ne 6, 3) := by decide +kernel
theorem d_Mod_rule_59 : decode b_Mod_rule 59 = .ok (.bipush (-4), 2) := by decide +kernel
theorem d_Mod_rule_61 : decode b_Mod_rule 61 = .ok (.ireturn, 1) := by decide +kernel
theorem d_Mod_rule_62 : decode b_Mod_rule 62 = .ok (.aload_n 0, 1) := by decide +kernel
theorem d_Mod_rule_63 : decode b_Mod_rule 63 = .ok (.getfield 9, 3) := by decide +kernel
theorem d_Mod_rule_66 : decode b_Mod_rule 66 = .ok (.bipush 72, 2) := by decide +kernel
theorem d_Mod_rule_68 : decode b_Mod_rule 68 = .ok (.aload_n 0, 1) := by decide +kernel
theorem d_Mod_rule_69 : decode b_Mod_rule 69 = .ok (.getfield 9, 3) := by decide +kernel
theorem d_Mod_rule_72 : decode b_Mod_rule 72 = .ok (.bipush 14, 2) := by decide +kernel
theorem d_Mod_rule_74 : decode b_Mod_rule 74 = .ok (.iaload, 1) := by decide +kernel
theorem d_Mod_rule_75 : decode b_Mod_rule 75 = .ok (.iadd, 1) := by decide +kernel
theorem d_Mod_rule_76 : decode b_Mod_rule 76 = .ok (.iload_n 1, 1) := by decide +kernel
theorem d_Mod_rule_77 : decode b_Mod_rule 77 = .ok (.iastore, 1) := by decide +kernel
theorem d_Mod_rule_78 : decode b_Mod_rule 78 = .ok (.aload_n 0, 1) := by decide +kernel
theorem d_Mod_rule_79 : decode b_Mod_rule 79 = .ok (.getfield 9, 3) := by decide +kernel
theorem d_Mod_rule_82 : decode b_Mod_rule 82 = .ok (.bipush 76, 2) := by decide +kernel
theorem d_Mod_rule_84 : decode b_Mod_rule 84 = .ok (.aload_n 0, 1) := by decide +kernel
theorem d_Mod_rule_85 : decode b_Mod_rule 85 = .ok (.getfield 9, 3) := by decide +kernel
theorem d_Mod_rule_88 : decode b_Mod_rule 88 = .ok (.bipush 14, 2) := by decide +kernel
theorem d_Mod_rule_90 : decode b_Mod_rule 90 = .ok (.iaload, 1) := by decide +kernel
theorem d_Mod_rule_91 : decode b_Mod_rule 91 = .ok (.iadd, 1) := by decide +kernel
theorem d_Mod_rule_92 : decode b_Mod_rule 92 = .ok (.iload_n 2, 1) := by decide +kernel
theorem d_Mod_rule_93 : decode b_Mod_rule 93 = .ok (.iastore, 1) := by decide +kernel
theorem d_Mod_rule_94 : decode b_Mod_rule 94 = .ok (.aload_n 0, 1) := by decide +kernel
theorem d_Mod_rule_95 : decode b_Mod_rule 95 = .ok (.getfield 9, 3) := by decide +kernel
theorem d_Mod_rule_98 : decode b_Mod_rule 98 = .ok (.bipush 80, 2) := by decide +kernel
theorem d_Mod_rule_100 : decode b_Mod_rule 100 = .ok (.aload_n 0, 1) := by decide +kernel
theorem d_Mod_rule_101 : decode b_Mod_rule 101 = .ok (.getfield 9, 3) := by decide +kernel
theorem d_Mod_rule_104 : decode b_Mod_rule 104 = .ok (.bipush 14, 2) := by decide +kernel
theorem d_Mod_rule_106 : decode b_Mod_rule 106 = .ok (.iaload, 1) := by decide +kernel
theorem d_Mod_rule_107 : decode b_Mod_rule 107 = .ok (.iadd, 1) := by decide +kernel
theorem d_Mod_rule_108 : decode b_Mod_rule 108 = .ok (.iload_n 3, 1) := by decide +kernel
theorem d_Mod_rule_109 : decode b_Mod_rule 109 = .ok (.iastore, 1) := by decide +kernel
theorem d_Mod_rule_110 : decode b_Mod_rule 110 = .ok (.aload_n 0, 1) := by decide +kernel
theorem d_Mod_rule_111 : decode b_Mod_rule 111 = .ok (.getfield 9, 3) := by decide +kernel
theorem d_Mod_rule_114 : decode b_Mod_rule 114 = .ok (.bipush 14, 2) := by decide +kernel
theorem d_Mod_rule_116 : decode b_Mod_rule 116 = .ok (.dup2, 1) := by decide +kernel
theorem d_Mod_rule_117 : decode b_Mod_rule 117 = .ok (.iaload, 1) := by decide +kernel
theorem d_Mod_rule_118 : decode b_Mod_rule 118 = .ok (.iconst 1, 1) := by decide +kernel
theorem d_Mod_rule_119 : decode b_Mod_rule 119 = .ok (.iadd, 1) := by decide +kernel
theorem d_Mod_rule_120 : decode b_Mod_rule 120 = .ok (.iastore, 1) := by decide +kernel
theorem d_Mod_rule_121 : decode b_Mod_rule 121 = .ok (.aload_n 0, 1) := by decide +kernel
theorem d_Mod_rule_122 : decode b_Mod_rule 122 = .ok (.getfield 9, 3) := by decide +kernel
theorem d_Mod_rule_125 : decode b_Mod_rule 125 = .ok (.bipush 14, 2) := by decide +kernel
theorem d_Mod_rule_127 : decode b_Mod_rule 127 = .ok (.iaload, 1) := by decide +kernel
theorem d_Mod_rule_128 : decode b_Mod_rule 128 = .ok (.ireturn, 1) := by decide +kernel
theorem d_Mod_ruled_0 : decode b_Mod_ruled 0 = .ok (.aload_n 0, 1) := by decide +kernel
theorem d_Mod_ruled_1 : decode b_Mod_ruled 1 = .ok (.invokevirtual 175, 3) := by decide +kernel
theorem d_Mod_ruled_4 : decode b_Mod_ruled 4 = .ok (.iconst 0, 1) := by decide +kernel
theorem d_Mod_ruled_5 : decode b_Mod_ruled 5 = .ok (.istore_n 1, 1) := by decide +kernel
theorem d_Mod_ruled_6 : decode b_Mod_ruled 6 = .ok (.iconst 0, 1) := by decide +kernel
theorem d_Mod_ruled_7 : decode b_Mod_ruled 7 = .ok (.istore_n 2, 1) := by decide +kernel
theorem d_Mod_ruled_8 : decode b_Mod_ruled 8 = .ok (.iload_n 2, 1) := by decide +kernel
theorem d_Mod_ruled_9 : decode b_Mod_ruled 9 = .ok (.aload_n 0, 1) := by decide +kernel
theorem d_Mod_ruled_10 : decode b_Mod_ruled 10 = .ok (.getfield 9, 3) := by decide +kernel
theorem d_Mod_ruled_13 : decode b_Mod_ruled 13 = .ok (.bipush 14, 2) := by decide +kernel
theorem d_Mod_ruled_15 : decode b_Mod_ruled 15 = .ok (.iaload, 1) := by decide +kernel
theorem d_Mod_ruled_16 : decode b_Mod_ruled 16 = .ok (.if_icmp .ge 47, 3) := by decide +kernel
theorem d_Mod_ruled_19 : decode b_Mod_ruled 19 = .ok (.aload_n 0, 1) := by decide +kernel
theorem d_Mod_ruled_20 : decode b_Mod_ruled 20 = .ok (.aload_n 0, 1) := by decide +kernel
theorem d_Mod_ruled_21 : decode b_Mod_ruled 21 = .ok (.getfield 9, 3) := by decide +kernel
theorem d_Mod_ruled_24 : decode b_Mod_ruled 24 = .ok (.bipush 72, 2) := by decide +kernel
theorem d_Mod_ruled_26 : decode b_Mod_ruled 26 = .ok (.iload_n 2, 1) := by decide +kernel
theorem d_Mod_ruled_27 : decode b_Mod_ruled 27 = .ok (.iadd, 1) := by decide +kernel
theorem d_Mod_ruled_28 : decode b_Mod_ruled 28 = .ok (.iaload, 1) := by decide +kernel
theorem d_Mod_ruled_29 : decode b_Mod_ruled 29 = .ok (.aload_n 0, 1) := by decide +kernel
theorem d_Mod_ruled_30 : decode b_Mod_ruled 30 = .ok (.getfield 9, 3) := by decide +kernel
theorem d_Mod_ruled_33 : decode b_Mod_ruled 33 = .ok (.bipush 76, 2) := by decide +kernel
theorem d_Mod_ruled_35 : decode b_Mod_ruled 35 = .ok (.iload_n 2, 1) := by decide +kernel
theorem d_Mod_ruled_36 : decode b_Mod_ruled 36 = .ok (.iadd, 1) := by decide +kernel
theorem d_Mod_ruled_37 : decode b_Mod_ruled 37 = .ok (.iaload, 1) := by decide +kernel
theorem d_Mod_ruled_38 : decode b_Mod_ruled 38 = .ok (.invokevirtual 162, 3) := by decide +kernel
theorem d_Mod_ruled_41 : decode b_Mod_ruled 41 = .ok (.iload_n 1, 1) := by decide +kernel
theorem d_Mod_ruled_42 : decode b_Mod_ruled 42 = .ok (.aload_n 0, 1) := by decide +kernel
theorem d_Mod_ruled_43 : decode b_Mod_ruled 43 = .ok (.aload_n 0, 1) := by decide +kernel
theorem d_Mod_ruled_44 : decode b_Mod_ruled 44 = .ok (.getfield 9, 3) := by decide +kernel
theorem d_Mod_ruled_47 : decode b_Mod_ruled 47 = .ok (.bipush 80, 2) := by decide +kernel
theorem d_Mod_ruled_49 : decode b_Mod_ruled 49 = .ok (.iload_n 2, 1) := by decide +kernel
theorem d_Mod_ruled_50 : decode b_Mod_ruled 50 = .ok (.iadd, 1) := by decide +kernel
theorem d_Mod_ruled_51 : decode b_Mod_ruled 51 = .ok (.iaload, 1) := by decide +kernel
theorem d_Mod_ruled_52 : decode b_Mod_ruled 52 = .ok (.invokevirtual 178, 3) := by decide +kernel
theorem d_Mod_ruled_55 : decode b_Mod_ruled 55 = .ok (.iadd, 1) := by decide +kernel
theorem d_Mod_ruled_56 : decode b_Mod_ruled 56 = .ok (.istore_n 1, 1) := by decide +kernel
theorem d_Mod_ruled_57 : decode b_Mod_ruled 57 = .ok (.iinc 2 1, 3) := by decide +kernel
theorem d_Mod_ruled_60 : decode b_Mod_ruled 60 = .ok (.goto (-52), 3) := by decide +kernel
theorem d_Mod_ruled_63 : decode b_Mod_ruled 63 = .ok (.aload_n 0, 1) := by decide +kernel
theorem d_Mod_ruled_64 : decode b_Mod_ruled 64 = .ok (.invokevirtual 181, 3) := by decide +kernel
theorem d_Mod_ruled_67 : decode b_Mod_ruled 67 = .ok (.iload_n 1, 1) := by decide +kernel
theorem d_Mod_ruled_68 : decode b_Mod_ruled 68 = .ok (.ireturn, 1) := by decide +kernel
theorem d_Mod_book_0 : decode b_Mod_book 0 = .ok (.iload_n 1, 1) := by decide +kernel
theorem d_Mod_book_1 : decode b_Mod_book 1 = .ok (.iconst (-1), 1) := by decide +kernel
theorem d_Mod_book_2 : decode b_Mod_book 2 = .ok (.if_icmp .ne 13, 3) := by decide +kernel
theorem d_Mod_book_5 : decode b_Mod_book 5 = .ok (.aload_n 0, 1) := by decide +kernel
theorem d_Mod_book_6 : decode b_Mod_book 6 = .ok (.getfield 9, 3) := by decide +kernel
theorem d_Mod_book_9 : decode b_Mod_book 9 = .ok (.bipush 15, 2) := by decide +kernel
theorem d_Mod_book_11 : decode b_Mod_book 11 = .ok (.iconst 0, 1) := by decide +kernel
theorem d_Mod_book_12 : decode b_Mod_book 12 = .ok (.iastore, 1) := by decide +kernel
theorem d_Mod_book_13 : decode b_Mod_book 13 = .ok (.iconst 0, 1) := by decide +kernel
theorem d_Mod_book_14 : decode b_Mod_book 14 = .ok (.ireturn, 1) := by decide +kernel
theorem d_Mod_book_15 : decode b_Mod_book 15 = .ok (.aload_n 0, 1) := by decide +kernel
theorem d_Mod_book_16 : decode b_Mod_book 16 = .ok (.iload_n 1, 1) := by decide +kernel
theorem d_Mod_book_17 : decode b_Mod_book 17 = .ok (.invokevirtual 149, 3) := by decide +kernel
theorem d_Mod_book_20 : decode b_Mod_book 20 = .ok (.ifCond .ne 5, 3) := by decide +kernel
theorem d_Mod_book_23 : decode b_Mod_book 23 = .ok (.iconst (-1), 1) := by decide +kernel
theorem d_Mod_book_24 : decode b_Mod_book 24 = .ok (.ireturn, 1) := by decide +kernel
theorem d_Mod_book_25 : decode b_Mod_book 25 = .ok (.iload_n 2, 1) := by decide +kernel
theorem d_Mod_book_26 : decode b_Mod_book 26 = .ok (.sipush (-200), 3) := by decide +kernel
theorem d_Mod_book_29 : decode b_Mod_book 29 = .ok (.sipush 200, 3) := by decide +kernel
theorem d_Mod_book_32 : decode b_Mod_book 32 = .ok (.invokestatic 50, 3) := by decide +kernel
theorem d_Mod_book_35 : decode b_Mod_book 35 = .ok (.ifCond .ne 6, 3) := by decide +kernel
theorem d_Mod_book_38 : decode b_Mod_book 38 = .ok (.bipush (-2), 2) := by decide +kernel
theorem d_Mod_book_40 : decode b_Mod_book 40 = .ok (.ireturn, 1) := by decide +kernel
theorem d_Mod_book_41 : decode b_Mod_book 41 = .ok (.aload_n 0, 1) := by decide +kernel
theorem d_Mod_book_42 : decode b_Mod_book 42 = .ok (.getfield 9, 3) := by decide +kernel
theorem d_Mod_book_45 : decode b_Mod_book 45 = .ok (.bipush 15, 2) := by decide +kernel
theorem d_Mod_book_47 : decode b_Mod_book 47 = .ok (.iaload, 1) := by decide +kernel
theorem d_Mod_book_48 : decode b_Mod_book 48 = .ok (.bipush 8, 2) := by decide +kernel
theorem d_Mod_book_50 : decode b_Mod_book 50 = .ok (.if_icmp .ne 6, 3) := by decide +kernel
theorem d_Mod_book_53 : decode b_Mod_book 53 = .ok (.bipush (-4), 2) := by decide +kernel
theorem d_Mod_book_55 : decode b_Mod_book 55 = .ok (.ireturn, 1) := by decide +kernel
theorem d_Mod_book_56 : decode b_Mod_book 56 = .ok (.aload_n 0, 1) := by decide +kernel
theorem d_Mod_book_57 : decode b_Mod_book 57 = .ok (.getfield 9, 3) := by decide +kernel
theorem d_Mod_book_60 : decode b_Mod_book 60 = .ok (.bipush 84, 2) := by decide +kernel
theorem d_Mod_book_62 : decode b_Mod_book 62 = .ok (.aload_n 0, 1) := by decide +kernel
theorem d_Mod_book_63 : decode b_Mod_book 63 = .ok (.getfield 9, 3) := by decide +kernel
theorem d_Mod_book_66 : decode b_Mod_book 66 = .ok (.bipush 15, 2) := by decide +kernel
theorem d_Mod_book_68 : decode b_Mod_book 68 = .ok (.iaload, 1) := by decide +kernel
theorem d_Mod_book_69 : decode b_Mod_book 69 = .ok (.iadd, 1) := by decide +kernel
theorem d_Mod_book_70 : decode b_Mod_book 70 = .ok (.iload_n 1, 1) := by decide +kernel
theorem d_Mod_book_71 : decode b_Mod_book 71 = .ok (.iastore, 1) := by decide +kernel
theorem d_Mod_book_72 : decode b_Mod_book 72 = .ok (.aload_n 0, 1) := by decide +kernel
theorem d_Mod_book_73 : decode b_Mod_book 73 = .ok (.getfield 9, 3) := by decide +kernel
theorem d_Mod_book_76 : decode b_Mod_book 76 = .ok (.bipush 92, 2) := by decide +kernel
theorem d_Mod_book_78 : decode b_Mod_book 78 = .ok (.aload_n 0, 1) := by decide +kernel
theorem d_Mod_book_79 : decode b_Mod_book 79 = .ok (.getfield 9, 3) := by decide +kernel
theorem d_Mod_book_82 : decode b_Mod_book 82 = .ok (.bipush 15, 2) := by decide +kernel
theorem d_Mod_book_84 : decode b_Mod_book 84 = .ok (.iaload, 1) := by decide +kernel
theorem d_Mod_book_85 : decode b_Mod_book 85 = .ok (.iadd, 1) := by decide +kernel
theorem d_Mod_book_86 : decode b_Mod_book 86 = .ok (.iload_n 2, 1) := by decide +kernel
theorem d_Mod_book_87 : decode b_Mod_book 87 = .ok (.iastore, 1) := by decide +kernel
theorem d_Mod_book_88 : decode b_Mod_book 88 = .ok (.aload_n 0, 1) := by decide +kernel
theorem d_Mod_book_89 : decode b_Mod_book 89 = .ok (.getfield 9, 3) := by decide +kernel
theorem d_Mod_book_92 : decode b_Mod_book 92 = .ok (.bipush 15, 2) := by decide +kernel
theorem d_Mod_book_94 : decode b_Mod_book 94 = .ok (.dup2, 1) := by decide +kernel
theorem d_Mod_book_95 : decode b_Mod_book 95 = .ok (.iaload, 1) := by decide +kernel
theorem d_Mod_book_96 : decode b_Mod_book 96 = .ok (.iconst 1, 1) := by decide +kernel
theorem d_Mod_book_97 : decode b_Mod_book 97 = .ok (.iadd, 1) := by decide +kernel
theorem d_Mod_book_98 : decode b_Mod_book 98 = .ok (.iastore, 1) := by decide +kernel
theorem d_Mod_book_99 : decode b_Mod_book 99 = .ok (.aload_n 0, 1) := by decide +kernel
theorem d_Mod_book_100 : decode b_Mod_book 100 = .ok (.getfield 9, 3) := by decide +kernel
theorem d_Mod_book_103 : decode b_Mod_book 103 = .ok (.bipush 15, 2) := by decide +kernel
theorem d_Mod_book_105 : decode b_Mod_book 105 = .ok (.iaload, 1) := by decide +kernel
theorem d_Mod_book_106 : decode b_Mod_book 106 = .ok (.ireturn, 1) := by decide +kernel
theorem d_Mod_looked_0 : decode b_Mod_looked 0 = .ok (.aload_n 0, 1) := by decide +kernel
theorem d_Mod_looked_1 : decode b_Mod_looked 1 = .ok (.invokevirtual 175, 3) := by decide +kernel
theorem d_Mod_looked_4 : decode b_Mod_looked 4 = .ok (.bipush (-5), 2) := by decide +kernel
theorem d_Mod_looked_6 : decode b_Mod_looked 6 = .ok (.istore_n 1, 1) := by decide +kernel
theorem d_Mod_looked_7 : decode b_Mod_looked 7 = .ok (.iconst 0, 1) := by decide +kernel
theorem d_Mod_looked_8 : decode b_Mod_looked 8 = .ok (.istore_n 2, 1) := by decide +kernel
theorem d_Mod_looked_9 : decode b_Mod_looked 9 = .ok (.iload_n 2, 1) := by decide +kernel
theorem d_Mod_looked_10 : decode b_Mod_looked 10 = .ok (.aload_n 0, 1) := by decide +kernel
theorem d_Mod_looked_11 : decode b_Mod_looked 11 = .ok (.getfield 9, 3) := by decide +kernel
theorem d_Mod_looked_14 : decode b_Mod_looked 14 = .ok (.bipush 15, 2) := by decide +kernel
theorem d_Mod_looked_16 : decode b_Mod_looked 16 = .ok (.iaload, 1) := by decide +kernel
theorem d_Mod_looked_17 : decode b_Mod_looked 17 = .ok (.if_icmp .ge 52, 3) := by decide +kernel
theorem d_Mod_looked_20 : decode b_Mod_looked 20 = .ok (.iload_n 1, 1) := by decide +kernel
theorem d_Mod_looked_21 : decode b_Mod_looked 21 = .ok (.bipush (-5), 2) := by decide +kernel
theorem d_Mod_looked_23 : decode b_Mod_looked 23 = .ok (.if_icmp .ne 46, 3) := by decide +kernel
theorem d_Mod_looked_26 : decode b_Mod_looked 26 = .ok (.aload_n 0, 1) := by decide +kernel
theorem d_Mod_looked_27 : decode b_Mod_looked 27 = .ok (.aload_n 0, 1) := by decide +kernel
theorem d_Mod_looked_28 : decode b_Mod_looked 28 = .ok (.getfield 9, 3) := by decide +kernel
theorem d_Mod_looked_31 : decode b_Mod_looked 31 = .ok (.bipush 84, 2) := by decide +kernel
theorem d_Mod_looked_33 : decode b_Mod_looked 33 = .ok (.iload_n 2, 1) := by decide +kernel
theorem d_Mod_looked_34 : decode b_Mod_looked 34 = .ok (.iadd, 1) := by decide +kernel
theorem d_Mod_looked_35 : decode b_Mod_looked 35 = .ok (.iaload, 1) := by decide +kernel
theorem d_Mod_looked_36 : decode b_Mod_looked 36 = .ok (.invokevirtual 153, 3) := by decide +kernel
theorem d_Mod_looked_39 : decode b_Mod_looked 39 = .ok (.aload_n 0, 1) := by decide +kernel
theorem d_Mod_looked_40 : decode b_Mod_looked 40 = .ok (.getfield 9, 3) := by decide +kernel
theorem d_Mod_looked_43 : decode b_Mod_looked 43 = .ok (.bipush 92, 2) := by decide +kernel
theorem d_Mod_looked_45 : decode b_Mod_looked 45 = .ok (.iload_n 2, 1) := by decide +kernel
theorem d_Mod_looked_46 : decode b_Mod_looked 46 = .ok (.iadd, 1) := by decide +kernel
theorem d_Mod_looked_47 : decode b_Mod_looked 47 = .ok (.iaload, 1) := by decide +kernel
theorem d_Mod_looked_48 : decode b_Mod_looked 48 = .ok (.if_icmp .eq 7, 3) := by decide +kernel
theorem d_Mod_looked_51 : decode b_Mod_looked 51 = .ok (.iload_n 2, 1) := by decide +kernel
theorem d_Mod_looked_52 : decode b_Mod_looked 52 = .ok (.goto 5, 3) := by decide +kernel
theorem d_Mod_looked_55 : decode b_Mod_looked 55 = .ok (.bipush (-5), 2) := by decide +kernel
theorem d_Mod_looked_57 : decode b_Mod_looked 57 = .ok (.istore_n 1, 1) := by decide +kernel
theorem d_Mod_looked_58 : decode b_Mod_looked 58 = .ok (.aload_n 0, 1) := by decide +kernel
theorem d_Mod_looked_59 : decode b_Mod_looked 59 = .ok (.invokevirtual 172, 3) := by decide +kernel
theorem d_Mod_looked_62 : decode b_Mod_looked 62 = .ok (.pop, 1) := by decide +kernel
theorem d_Mod_looked_63 : decode b_Mod_looked 63 = .ok (.iinc 2 1, 3) := by decide +kernel
theorem d_Mod_looked_66 : decode b_Mod_looked 66 = .ok (.goto (-57), 3) := by decide +kernel
theorem d_Mod_looked_69 : decode b_Mod_looked 69 = .ok (.aload_n 0, 1) := by decide +kernel
theorem d_Mod_looked_70 : decode b_Mod_looked 70 = .ok (.invokevirtual 181, 3) := by decide +kernel
theorem d_Mod_looked_73 : decode b_Mod_looked 73 = .ok (.iload_n 1, 1) := by decide +kernel
theorem d_Mod_looked_74 : decode b_Mod_looked 74 = .ok (.ireturn, 1) := by decide +kernel
theorem d_Mod_ranBody_0 : decode b_Mod_ranBody 0 = .ok (.aload_n 0, 1) := by decide +kernel
theorem d_Mod_ranBody_1 : decode b_Mod_ranBody 1 = .ok (.getfield 211, 3) := by decide +kernel
theorem d_Mod_ranBody_4 : decode b_Mod_ranBody 4 = .ok (.bipush 20, 2) := by decide +kernel
theorem d_Mod_ranBody_6 : decode b_Mod_ranBody 6 = .ok (.if_icmp .ge 13, 3) := by decide +kernel
theorem d_Mod_ranBody_9 : decode b_Mod_ranBody 9 = .ok (.aload_n 0, 1) := by decide +kernel
theorem d_Mod_ranBody_10 : decode b_Mod_ranBody 10 = .ok (.getfield 43, 3) := by decide +kernel
theorem d_Mod_ranBody_13 : decode b_Mod_ranBody 13 = .ok (.aload_n 0, 1) := by decide +kernel
theorem d_Mod_ranBody_14 : decode b_Mod_ranBody 14 = .ok (.getfield 211, 3) := by decide +kernel
theorem d_Mod_ranBody_17 : decode b_Mod_ranBody 17 = .ok (.iload_n 1, 1) := by decide +kernel
theorem d_Mod_ranBody_18 : decode b_Mod_ranBody 18 = .ok (.iastore, 1) := by decide +kernel
theorem d_Mod_ranBody_19 : decode b_Mod_ranBody 19 = .ok (.aload_n 0, 1) := by decide +kernel
theorem d_Mod_ranBody_20 : decode b_Mod_ranBody 20 = .ok (.dup, 1) := by decide +kernel
theorem d_Mod_ranBody_21 : decode b_Mod_ranBody 21 = .ok (.getfield 211, 3) := by decide +kernel
theorem d_Mod_ranBody_24 : decode b_Mod_ranBody 24 = .ok (.iconst 1, 1) := by decide +kernel
theorem d_Mod_ranBody_25 : decode b_Mod_ranBody 25 = .ok (.iadd, 1) := by decide +kernel
theorem d_Mod_ranBody_26 : decode b_Mod_ranBody 26 = .ok (.putfield 211, 3) := by decide +kernel
theorem d_Mod_ranBody_29 : decode b_Mod_ranBody 29 = .ok (.return_, 1) := by decide +kernel
theorem d_Mod_isUnder_0 : decode b_Mod_isUnder 0 = .ok (.iload_n 1, 1) := by decide +kernel
theorem d_Mod_isUnder_1 : decode b_Mod_isUnder 1 = .ok (.ifCond .eq 24, 3) := by decide +kernel
theorem d_Mod_isUnder_4 : decode b_Mod_isUnder 4 = .ok (.iload_n 1, 1) := by decide +kernel
theorem d_Mod_isUnder_5 : decode b_Mod_isUnder 5 = .ok (.iload_n 0, 1) := by decide +kernel
theorem d_Mod_isUnder_6 : decode b_Mod_isUnder 6 = .ok (.if_icmp .eq 19, 3) := by decide +kernel
theorem d_Mod_isUnder_9 : decode b_Mod_isUnder 9 = .ok (.iload_n 1, 1) := by decide +kernel
theorem d_Mod_isUnder_10 : decode b_Mod_isUnder 10 = .ok (.ifCond .le 19, 3) := by decide +kernel
theorem d_Mod_isUnder_13 : decode b_Mod_isUnder 13 = .ok (.iload_n 1, 1) := by decide +kernel
theorem d_Mod_isUnder_14 : decode b_Mod_isUnder 14 = .ok (.iconst 4, 1) := by decide +kernel
theorem d_Mod_isUnder_15 : decode b_Mod_isUnder 15 = .ok (.if_icmp .ge 14, 3) := by decide +kernel
theorem d_Mod_isUnder_18 : decode b_Mod_isUnder 18 = .ok (.iload_n 0, 1) := by decide +kernel
theorem d_Mod_isUnder_19 : decode b_Mod_isUnder 19 = .ok (.iload_n 1, 1) := by decide +kernel
theorem d_Mod_isUnder_20 : decode b_Mod_isUnder 20 = .ok (.iconst 3, 1) := by decide +kernel
theorem d_Mod_isUnder_21 : decode b_Mod_isUnder 21 = .ok (.iadd, 1) := by decide +kernel
theorem d_Mod_isUnder_22 : decode b_Mod_isUnder 22 = .ok (.if_icmp .ne 7, 3) := by decide +kernel
theorem d_Mod_isUnder_25 : decode b_Mod_isUnder 25 = .ok (.iconst 1, 1) := by decide +kernel
theorem d_Mod_isUnder_26 : decode b_Mod_isUnder 26 = .ok (.goto 4, 3) := by decide +kernel
theorem d_Mod_isUnder_29 : decode b_Mod_isUnder 29 = .ok (.iconst 0, 1) := by decide +kernel
theorem d_Mod_isUnder_30 : decode b_Mod_isUnder 30 = .ok (.ireturn, 1) := by decide +kernel
theorem d_Mod_plainLooks_0 : decode b_Mod_plainLooks 0 = .ok (.aload_n 0, 1) := by decide +kernel
theorem d_Mod_plainLooks_1 : decode b_Mod_plainLooks 1 = .ok (.iconst 1, 1) := by decide +kernel
theorem d_Mod_plainLooks_2 : decode b_Mod_plainLooks 2 = .ok (.invokevirtual 214, 3) := by decide +kernel
theorem d_Mod_plainLooks_5 : decode b_Mod_plainLooks 5 = .ok (.iload_n 1, 1) := by decide +kernel
theorem d_Mod_plainLooks_6 : decode b_Mod_plainLooks 6 = .ok (.aload_n 0, 1) := by decide +kernel
theorem d_Mod_plainLooks_7 : decode b_Mod_plainLooks 7 = .ok (.getfield 217, 3) := by decide +kernel
theorem d_Mod_plainLooks_10 : decode b_Mod_plainLooks 10 = .ok (.iadd, 1) := by decide +kernel
theorem d_Mod_plainLooks_11 : decode b_Mod_plainLooks 11 = .ok (.ireturn, 1) := by decide +kernel
theorem d_Mod_looksActs_0 : decode b_Mod_looksActs 0 = .ok (.aload_n 0, 1) := by decide +kernel
theorem d_Mod_looksActs_1 : decode b_Mod_looksActs 1 = .ok (.getfield 220, 3) := by decide +kernel
theorem d_Mod_looksActs_4 : decode b_Mod_looksActs 4 = .ok (.iconst 1, 1) := by decide +kernel
theorem d_Mod_looksActs_5 : decode b_Mod_looksActs 5 = .ok (.invokestatic 223, 3) := by decide +kernel
theorem d_Mod_looksActs_8 : decode b_Mod_looksActs 8 = .ok (.ifCond .eq 17, 3) := by decide +kernel
theorem d_Mod_looksActs_11 : decode b_Mod_looksActs 11 = .ok (.aload_n 0, 1) := by decide +kernel
theorem d_Mod_looksActs_12 : decode b_Mod_looksActs 12 = .ok (.bipush 11, 2) := by decide +kernel
theorem d_Mod_looksActs_14 : decode b_Mod_looksActs 14 = .ok (.invokevirtual 214, 3) := by decide +kernel
theorem d_Mod_looksActs_17 : decode b_Mod_looksActs 17 = .ok (.aload_n 0, 1) := by decide +kernel
theorem d_Mod_looksActs_18 : decode b_Mod_looksActs 18 = .ok (.iload_n 1, 1) := by decide +kernel
theorem d_Mod_looksActs_19 : decode b_Mod_looksActs 19 = .ok (.iconst 3, 1) := by decide +kernel
theorem d_Mod_looksActs_20 : decode b_Mod_looksActs 20 = .ok (.imul, 1) := by decide +kernel
theorem d_Mod_looksActs_21 : decode b_Mod_looksActs 21 = .ok (.invokevirtual 227, 3) := by decide +kernel
theorem d_Mod_looksActs_24 : decode b_Mod_looksActs 24 = .ok (.ireturn, 1) := by decide +kernel
theorem d_Mod_looksActs_25 : decode b_Mod_looksActs 25 = .ok (.aload_n 0, 1) := by decide +kernel
theorem d_Mod_looksActs_26 : decode b_Mod_looksActs 26 = .ok (.getfield 220, 3) := by decide +kernel
theorem d_Mod_looksActs_29 : decode b_Mod_looksActs 29 = .ok (.iconst 5, 1) := by decide +kernel
theorem d_Mod_looksActs_30 : decode b_Mod_looksActs 30 = .ok (.if_icmp .ne 20, 3) := by decide +kernel
theorem d_Mod_looksActs_33 : decode b_Mod_looksActs 33 = .ok (.aload_n 0, 1) := by decide +kernel
theorem d_Mod_looksActs_34 : decode b_Mod_looksActs 34 = .ok (.bipush 51, 2) := by decide +kernel
theorem d_Mod_looksActs_36 : decode b_Mod_looksActs 36 = .ok (.invokevirtual 214, 3) := by decide +kernel
theorem d_Mod_looksActs_39 : decode b_Mod_looksActs 39 = .ok (.aload_n 0, 1) := by decide +kernel
theorem d_Mod_looksActs_40 : decode b_Mod_looksActs 40 = .ok (.iload_n 1, 1) := by decide +kernel
theorem d_Mod_looksActs_41 : decode b_Mod_looksActs 41 = .ok (.invokevirtual 227, 3) := by decide +kernel
theorem d_Mod_looksActs_44 : decode b_Mod_looksActs 44 = .ok (.aload_n 0, 1) := by decide +kernel
theorem d_Mod_looksActs_45 : decode b_Mod_looksActs 45 = .ok (.getfield 217, 3) := by decide +kernel
theorem d_Mod_looksActs_48 : decode b_Mod_looksActs 48 = .ok (.ixor, 1) := by decide +kernel
theorem d_Mod_looksActs_49 : decode b_Mod_looksActs 49 = .ok (.ireturn, 1) := by decide +kernel
theorem d_Mod_looksActs_50 : decode b_Mod_looksActs 50 = .ok (.aload_n 0, 1) := by decide +kernel
theorem d_Mod_looksActs_51 : decode b_Mod_looksActs 51 = .ok (.iload_n 1, 1) := by decide +kernel
theorem d_Mod_looksActs_52 : decode b_Mod_looksActs 52 = .ok (.invokevirtual 227, 3) := by decide +kernel
theorem d_Mod_looksActs_55 : decode b_Mod_looksActs 55 = .ok (.ireturn, 1) := by decide +kernel
theorem d_Mod_plainGoes_0 : decode b_Mod_plainGoes 0 = .ok (.aload_n 0, 1) := by decide +kernel
theorem d_Mod_plainGoes_1 : decode b_Mod_plainGoes 1 = .ok (.iconst 2, 1) := by decide +kernel
theorem d_Mod_plainGoes_2 : decode b_Mod_plainGoes 2 = .ok (.invokevirtual 214, 3) := by decide +kernel
theorem d_Mod_plainGoes_5 : decode b_Mod_plainGoes 5 = .ok (.aload_n 0, 1) := by decide +kernel
theorem d_Mod_plainGoes_6 : decode b_Mod_plainGoes 6 = .ok (.iload_n 1, 1) := by decide +kernel
theorem d_Mod_plainGoes_7 : decode b_Mod_plainGoes 7 = .ok (.invokevirtual 230, 3) := by decide +kernel
theorem d_Mod_plainGoes_10 : decode b_Mod_plainGoes 10 = .ok (.aload_n 0, 1) := by decide +kernel
theorem d_Mod_plainGoes_11 : decode b_Mod_plainGoes 11 = .ok (.getfield 233, 3) := by decide +kernel
theorem d_Mod_plainGoes_14 : decode b_Mod_plainGoes 14 = .ok (.isub, 1) := by decide +kernel
theorem d_Mod_plainGoes_15 : decode b_Mod_plainGoes 15 = .ok (.ireturn, 1) := by decide +kernel
theorem d_Mod_goesActs_0 : decode b_Mod_goesActs 0 = .ok (.aload_n 0, 1) := by decide +kernel
theorem d_Mod_goesActs_1 : decode b_Mod_goesActs 1 = .ok (.getfield 220, 3) := by decide +kernel
theorem d_Mod_goesActs_4 : decode b_Mod_goesActs 4 = .ok (.iconst 2, 1) := by decide +kernel
theorem d_Mod_goesActs_5 : decode b_Mod_goesActs 5 = .ok (.invokestatic 223, 3) := by decide +kernel
theorem d_Mod_goesActs_8 : decode b_Mod_goesActs 8 = .ok (.ifCond .eq 16, 3) := by decide +kernel
theorem d_Mod_goesActs_11 : decode b_Mod_goesActs 11 = .ok (.aload_n 0, 1) := by decide +kernel
theorem d_Mod_goesActs_12 : decode b_Mod_goesActs 12 = .ok (.bipush 21, 2) := by decide +kernel
theorem d_Mod_goesActs_14 : decode b_Mod_goesActs 14 = .ok (.invokevirtual 214, 3) := by decide +kernel
theorem d_Mod_goesActs_17 : decode b_Mod_goesActs 17 = .ok (.aload_n 0, 1) := by decide +kernel
theorem d_Mod_goesActs_18 : decode b_Mod_goesActs 18 = .ok (.iload_n 1, 1) := by decide +kernel
theorem d_Mod_goesActs_19 : decode b_Mod_goesActs 19 = .ok (.invokevirtual 236, 3) := by decide +kernel
theorem d_Mod_goesActs_22 : decode b_Mod_goesActs 22 = .ok (.ineg, 1) := by decide +kernel
theorem d_Mod_goesActs_23 : decode b_Mod_goesActs 23 = .ok (.ireturn, 1) := by decide +kernel
theorem d_Mod_goesActs_24 : decode b_Mod_goesActs 24 = .ok (.aload_n 0, 1) := by decide +kernel
theorem d_Mod_goesActs_25 : decode b_Mod_goesActs 25 = .ok (.getfield 220, 3) := by decide +kernel
theorem d_Mod_goesActs_28 : decode b_Mod_goesActs 28 = .ok (.bipush 6, 2) := by decide +kernel
theorem d_Mod_goesActs_30 : decode b_Mod_goesActs 30 = .ok (.if_icmp .ne 20, 3) := by decide +kernel
theorem d_Mod_goesActs_33 : decode b_Mod_goesActs 33 = .ok (.aload_n 0, 1) := by decide +kernel
theorem d_Mod_goesActs_34 : decode b_Mod_goesActs 34 = .ok (.bipush 61, 2) := by decide +kernel
theorem d_Mod_goesActs_36 : decode b_Mod_goesActs 36 = .ok (.invokevirtual 214, 3) := by decide +kernel
theorem d_Mod_goesActs_39 : decode b_Mod_goesActs 39 = .ok (.aload_n 0, 1) := by decide +kernel
theorem d_Mod_goesActs_40 : decode b_Mod_goesActs 40 = .ok (.iload_n 1, 1) := by decide +kernel
theorem d_Mod_goesActs_41 : decode b_Mod_goesActs 41 = .ok (.invokevirtual 236, 3) := by decide +kernel
theorem d_Mod_goesActs_44 : decode b_Mod_goesActs 44 = .ok (.aload_n 0, 1) := by decide +kernel
theorem d_Mod_goesActs_45 : decode b_Mod_goesActs 45 = .ok (.getfield 233, 3) := by decide +kernel
theorem d_Mod_goesActs_48 : decode b_Mod_goesActs 48 = .ok (.iadd, 1) := by decide +kernel
theorem d_Mod_goesActs_49 : decode b_Mod_goesActs 49 = .ok (.ireturn, 1) := by decide +kernel
theorem d_Mod_goesActs_50 : decode b_Mod_goesActs 50 = .ok (.aload_n 0, 1) := by decide +kernel
theorem d_Mod_goesActs_51 : decode b_Mod_goesActs 51 = .ok (.iload_n 1, 1) := by decide +kernel
theorem d_Mod_goesActs_52 : decode b_Mod_goesActs 52 = .ok (.invokevirtual 236, 3) := by decide +kernel
theorem d_Mod_goesActs_55 : decode b_Mod_goesActs 55 = .ok (.ireturn, 1) := by decide +kernel
theorem d_Mod_plainTells_0 : decode b_Mod_plainTells 0 = .ok (.aload_n 0, 1) := by decide +kernel
theorem d_Mod_plainTells_1 : decode b_Mod_plainTells 1 = .ok (.iconst 3, 1) := by decide +kernel
theorem d_Mod_plainTells_2 : decode b_Mod_plainTells 2 = .ok (.invokevirtual 214, 3) := by decide +kernel
theorem d_Mod_plainTells_5 : decode b_Mod_plainTells 5 = .ok (.aload_n 0, 1) := by decide +kernel
theorem d_Mod_plainTells_6 : decode b_Mod_plainTells 6 = .ok (.iload_n 1, 1) := by decide +kernel
theorem d_Mod_plainTells_7 : decode b_Mod_plainTells 7 = .ok (.invokevirtual 239, 3) := by decide +kernel
theorem d_Mod_plainTells_10 : decode b_Mod_plainTells 10 = .ok (.iconst 2, 1) := by decide +kernel
theorem d_Mod_plainTells_11 : decode b_Mod_plainTells 11 = .ok (.imul, 1) := by decide +kernel
theorem d_Mod_plainTells_12 : decode b_Mod_plainTells 12 = .ok (.ireturn, 1) := by decide +kernel
theorem d_Mod_tellsActs_0 : decode b_Mod_tellsActs 0 = .ok (.aload_n 0, 1) := by decide +kernel
theorem d_Mod_tellsActs_1 : decode b_Mod_tellsActs 1 = .ok (.getfield 220, 3) := by decide +kernel
theorem d_Mod_tellsActs_4 : decode b_Mod_tellsActs 4 = .ok (.iconst 3, 1) := by decide +kernel
theorem d_Mod_tellsActs_5 : decode b_Mod_tellsActs 5 = .ok (.invokestatic 223, 3) := by decide +kernel
theorem d_Mod_tellsActs_8 : decode b_Mod_tellsActs 8 = .ok (.ifCond .eq 18, 3) := by decide +kernel
theorem d_Mod_tellsActs_11 : decode b_Mod_tellsActs 11 = .ok (.aload_n 0, 1) := by decide +kernel
theorem d_Mod_tellsActs_12 : decode b_Mod_tellsActs 12 = .ok (.bipush 31, 2) := by decide +kernel
theorem d_Mod_tellsActs_14 : decode b_Mod_tellsActs 14 = .ok (.invokevirtual 214, 3) := by decide +kernel
theorem d_Mod_tellsActs_17 : decode b_Mod_tellsActs 17 = .ok (.aload_n 0, 1) := by decide +kernel
theorem d_Mod_tellsActs_18 : decode b_Mod_tellsActs 18 = .ok (.iload_n 1, 1) := by decide +kernel
theorem d_Mod_tellsActs_19 : decode b_Mod_tellsActs 19 = .ok (.invokevirtual 242, 3) := by decide +kernel
theorem d_Mod_tellsActs_22 : decode b_Mod_tellsActs 22 = .ok (.bipush 7, 2) := by decide +kernel
theorem d_Mod_tellsActs_24 : decode b_Mod_tellsActs 24 = .ok (.ixor, 1) := by decide +kernel
theorem d_Mod_tellsActs_25 : decode b_Mod_tellsActs 25 = .ok (.ireturn, 1) := by decide +kernel
theorem d_Mod_tellsActs_26 : decode b_Mod_tellsActs 26 = .ok (.aload_n 0, 1) := by decide +kernel
theorem d_Mod_tellsActs_27 : decode b_Mod_tellsActs 27 = .ok (.getfield 220, 3) := by decide +kernel
theorem d_Mod_tellsActs_30 : decode b_Mod_tellsActs 30 = .ok (.iconst 4, 1) := by decide +kernel
theorem d_Mod_tellsActs_31 : decode b_Mod_tellsActs 31 = .ok (.if_icmp .ne 25, 3) := by decide +kernel
theorem d_Mod_tellsActs_34 : decode b_Mod_tellsActs 34 = .ok (.aload_n 0, 1) := by decide +kernel
theorem d_Mod_tellsActs_35 : decode b_Mod_tellsActs 35 = .ok (.bipush 41, 2) := by decide +kernel
theorem d_Mod_tellsActs_37 : decode b_Mod_tellsActs 37 = .ok (.invokevirtual 214, 3) := by decide +kernel
theorem d_Mod_tellsActs_40 : decode b_Mod_tellsActs 40 = .ok (.aload_n 0, 1) := by decide +kernel
theorem d_Mod_tellsActs_41 : decode b_Mod_tellsActs 41 = .ok (.iload_n 1, 1) := by decide +kernel
theorem d_Mod_tellsActs_42 : decode b_Mod_tellsActs 42 = .ok (.iconst 1, 1) := by decide +kernel
theorem d_Mod_tellsActs_43 : decode b_Mod_tellsActs 43 = .ok (.isub, 1) := by decide +kernel
theorem d_Mod_tellsActs_44 : decode b_Mod_tellsActs 44 = .ok (.invokevirtual 242, 3) := by decide +kernel
theorem d_Mod_tellsActs_47 : decode b_Mod_tellsActs 47 = .ok (.istore_n 2, 1) := by decide +kernel
theorem d_Mod_tellsActs_48 : decode b_Mod_tellsActs 48 = .ok (.iload_n 2, 1) := by decide +kernel
theorem d_Mod_tellsActs_49 : decode b_Mod_tellsActs 49 = .ok (.aload_n 0, 1) := by decide +kernel
theorem d_Mod_tellsActs_50 : decode b_Mod_tellsActs 50 = .ok (.iconst 2, 1) := by decide +kernel
theorem d_Mod_tellsActs_51 : decode b_Mod_tellsActs 51 = .ok (.invokevirtual 230, 3) := by decide +kernel
theorem d_Mod_tellsActs_54 : decode b_Mod_tellsActs 54 = .ok (.iadd, 1) := by decide +kernel
theorem d_Mod_tellsActs_55 : decode b_Mod_tellsActs 55 = .ok (.ireturn, 1) := by decide +kernel
theorem d_Mod_tellsActs_56 : decode b_Mod_tellsActs 56 = .ok (.aload_n 0, 1) := by decide +kernel
theorem d_Mod_tellsActs_57 : decode b_Mod_tellsActs 57 = .ok (.iload_n 1, 1) := by decide +kernel
theorem d_Mod_tellsActs_58 : decode b_Mod_tellsActs 58 = .ok (.invokevirtual 242, 3) := by decide +kernel
theorem d_Mod_tellsActs_61 : decode b_Mod_tellsActs 61 = .ok (.ireturn, 1) := by decide +kernel
theorem d_Mod_act_0 : decode b_Mod_act 0 = .ok (.aload_n 0, 1) := by decide +kernel
theorem d_Mod_act_1 : decode b_Mod_act 1 = .ok (.iconst 0, 1) := by decide +kernel
theorem d_Mod_act_2 : decode b_Mod_act 2 = .ok (.putfield 211, 3) := by decide +kernel
theorem d_Mod_act_5 : decode b_Mod_act 5 = .ok (.aload_n 0, 1) := by decide +kernel
theorem d_Mod_act_6 : decode b_Mod_act 6 = .ok (.iload_n 1, 1) := by decide +kernel
theorem d_Mod_act_7 : decode b_Mod_act 7 = .ok (.invokevirtual 149, 3) := by decide +kernel
theorem d_Mod_act_10 : decode b_Mod_act 10 = .ok (.ifCond .eq 12, 3) := by decide +kernel
theorem d_Mod_act_13 : decode b_Mod_act 13 = .ok (.iload_n 2, 1) := by decide +kernel
theorem d_Mod_act_14 : decode b_Mod_act 14 = .ok (.iconst 0, 1) := by decide +kernel
theorem d_Mod_act_15 : decode b_Mod_act 15 = .ok (.iconst 2, 1) := by decide +kernel
theorem d_Mod_act_16 : decode b_Mod_act 16 = .ok (.invokestatic 50, 3) := by decide +kernel
theorem d_Mod_act_19 : decode b_Mod_act 19 = .ok (.ifCond .ne 5, 3) := by decide +kernel
theorem d_Mod_act_22 : decode b_Mod_act 22 = .ok (.iconst 0, 1) := by decide +kernel
theorem d_Mod_act_23 : decode b_Mod_act 23 = .ok (.ireturn, 1) := by decide +kernel
theorem d_Mod_act_24 : decode b_Mod_act 24 = .ok (.aload_n 0, 1) := by decide +kernel
theorem d_Mod_act_25 : decode b_Mod_act 25 = .ok (.aload_n 0, 1) := by decide +kernel
theorem d_Mod_act_26 : decode b_Mod_act 26 = .ok (.getfield 9, 3) := by decide +kernel
theorem d_Mod_act_29 : decode b_Mod_act 29 = .ok (.bipush 18, 2) := by decide +kernel
theorem d_Mod_act_31 : decode b_Mod_act 31 = .ok (.iload_n 1, 1) := by decide +kernel
theorem d_Mod_act_32 : decode b_Mod_act 32 = .ok (.iadd, 1) := by decide +kernel
theorem d_Mod_act_33 : decode b_Mod_act 33 = .ok (.iaload, 1) := by decide +kernel
theorem d_Mod_act_34 : decode b_Mod_act 34 = .ok (.putfield 220, 3) := by decide +kernel
theorem d_Mod_act_37 : decode b_Mod_act 37 = .ok (.aload_n 0, 1) := by decide +kernel
theorem d_Mod_act_38 : decode b_Mod_act 38 = .ok (.iload_n 1, 1) := by decide +kernel
theorem d_Mod_act_39 : decode b_Mod_act 39 = .ok (.putfield 217, 3) := by decide +kernel
theorem d_Mod_act_42 : decode b_Mod_act 42 = .ok (.aload_n 0, 1) := by decide +kernel
theorem d_Mod_act_43 : decode b_Mod_act 43 = .ok (.aload_n 0, 1) := by decide +kernel
theorem d_Mod_act_44 : decode b_Mod_act 44 = .ok (.getfield 9, 3) := by decide +kernel
theorem d_Mod_act_47 : decode b_Mod_act 47 = .ok (.bipush 24, 2) := by decide +kernel
theorem d_Mod_act_49 : decode b_Mod_act 49 = .ok (.iload_n 1, 1) := by decide +kernel
theorem d_Mod_act_50 : decode b_Mod_act 50 = .ok (.iadd, 1) := by decide +kernel
theorem d_Mod_act_51 : decode b_Mod_act 51 = .ok (.iaload, 1) := by decide +kernel
theorem d_Mod_act_52 : decode b_Mod_act 52 = .ok (.putfield 233, 3) := by decide +kernel
theorem d_Mod_act_55 : decode b_Mod_act 55 = .ok (.iload_n 2, 1) := by decide +kernel
theorem d_Mod_act_56 : decode b_Mod_act 56 = .ok (.ifCond .ne 11, 3) := by decide +kernel
theorem d_Mod_act_59 : decode b_Mod_act 59 = .ok (.aload_n 0, 1) := by decide +kernel
theorem d_Mod_act_60 : decode b_Mod_act 60 = .ok (.iload_n 3, 1) := by decide +kernel
theorem d_Mod_act_61 : decode b_Mod_act 61 = .ok (.invokevirtual 230, 3) := by decide +kernel
theorem d_Mod_act_64 : decode b_Mod_act 64 = .ok (.goto 21, 3) := by decide +kernel
theorem d_Mod_act_67 : decode b_Mod_act 67 = .ok (.iload_n 2, 1) := by decide +kernel
theorem d_Mod_act_68 : decode b_Mod_act 68 = .ok (.iconst 1, 1) := by decide +kernel
theorem d_Mod_act_69 : decode b_Mod_act 69 = .ok (.if_icmp .ne 11, 3) := by decide +kernel
theorem d_Mod_act_72 : decode b_Mod_act 72 = .ok (.aload_n 0, 1) := by decide +kernel
theorem d_Mod_act_73 : decode b_Mod_act 73 = .ok (.iload_n 3, 1) := by decide +kernel
theorem d_Mod_act_74 : decode b_Mod_act 74 = .ok (.invokevirtual 239, 3) := by decide +kernel
theorem d_Mod_act_77 : decode b_Mod_act 77 = .ok (.goto 8, 3) := by decide +kernel
theorem d_Mod_act_80 : decode b_Mod_act 80 = .ok (.aload_n 0, 1) := by decide +kernel
theorem d_Mod_act_81 : decode b_Mod_act 81 = .ok (.iload_n 3, 1) := by decide +kernel
theorem d_Mod_act_82 : decode b_Mod_act 82 = .ok (.invokevirtual 245, 3) := by decide +kernel
theorem d_Mod_act_85 : decode b_Mod_act 85 = .ok (.ireturn, 1) := by decide +kernel
theorem d_Mod_trace_0 : decode b_Mod_trace 0 = .ok (.iload_n 1, 1) := by decide +kernel
theorem d_Mod_trace_1 : decode b_Mod_trace 1 = .ok (.iconst 0, 1) := by decide +kernel
theorem d_Mod_trace_2 : decode b_Mod_trace 2 = .ok (.aload_n 0, 1) := by decide +kernel
theorem d_Mod_trace_3 : decode b_Mod_trace 3 = .ok (.getfield 211, 3) := by decide +kernel
theorem d_Mod_trace_6 : decode b_Mod_trace 6 = .ok (.bipush 20, 2) := by decide +kernel
theorem d_Mod_trace_8 : decode b_Mod_trace 8 = .ok (.if_icmp .ge 10, 3) := by decide +kernel
theorem d_Mod_trace_11 : decode b_Mod_trace 11 = .ok (.aload_n 0, 1) := by decide +kernel
theorem d_Mod_trace_12 : decode b_Mod_trace 12 = .ok (.getfield 211, 3) := by decide +kernel
theorem d_Mod_trace_15 : decode b_Mod_trace 15 = .ok (.goto 5, 3) := by decide +kernel
theorem d_Mod_trace_18 : decode b_Mod_trace 18 = .ok (.bipush 20, 2) := by decide +kernel
theorem d_Mod_trace_20 : decode b_Mod_trace 20 = .ok (.iconst 1, 1) := by decide +kernel
theorem d_Mod_trace_21 : decode b_Mod_trace 21 = .ok (.isub, 1) := by decide +kernel
theorem d_Mod_trace_22 : decode b_Mod_trace 22 = .ok (.invokestatic 50, 3) := by decide +kernel
theorem d_Mod_trace_25 : decode b_Mod_trace 25 = .ok (.ifCond .eq 12, 3) := by decide +kernel
theorem d_Mod_trace_28 : decode b_Mod_trace 28 = .ok (.aload_n 0, 1) := by decide +kernel
theorem d_Mod_trace_29 : decode b_Mod_trace 29 = .ok (.getfield 43, 3) := by decide +kernel
theorem d_Mod_trace_32 : decode b_Mod_trace 32 = .ok (.iload_n 1, 1) := by decide +kernel
theorem d_Mod_trace_33 : decode b_Mod_trace 33 = .ok (.iaload, 1) := by decide +kernel
theorem d_Mod_trace_34 : decode b_Mod_trace 34 = .ok (.goto 4, 3) := by decide +kernel
theorem d_Mod_trace_37 : decode b_Mod_trace 37 = .ok (.iconst (-1), 1) := by decide +kernel
theorem d_Mod_trace_38 : decode b_Mod_trace 38 = .ok (.ireturn, 1) := by decide +kernel
theorem d_Mod_as_0 : decode b_Mod_as 0 = .ok (.aload_n 0, 1) := by decide +kernel
theorem d_Mod_as_1 : decode b_Mod_as 1 = .ok (.iload_n 1, 1) := by decide +kernel
theorem d_Mod_as_2 : decode b_Mod_as 2 = .ok (.invokevirtual 149, 3) := by decide +kernel
theorem d_Mod_as_5 : decode b_Mod_as 5 = .ok (.ifCond .eq 13, 3) := by decide +kernel
theorem d_Mod_as_8 : decode b_Mod_as 8 = .ok (.iload_n 2, 1) := by decide +kernel
theorem d_Mod_as_9 : decode b_Mod_as 9 = .ok (.iconst 0, 1) := by decide +kernel
theorem d_Mod_as_10 : decode b_Mod_as 10 = .ok (.bipush 6, 2) := by decide +kernel
theorem d_Mod_as_12 : decode b_Mod_as 12 = .ok (.invokestatic 50, 3) := by decide +kernel
theorem d_Mod_as_15 : decode b_Mod_as 15 = .ok (.ifCond .ne 5, 3) := by decide +kernel
theorem d_Mod_as_18 : decode b_Mod_as 18 = .ok (.iconst (-1), 1) := by decide +kernel
theorem d_Mod_as_19 : decode b_Mod_as 19 = .ok (.ireturn, 1) := by decide +kernel
theorem d_Mod_as_20 : decode b_Mod_as 20 = .ok (.aload_n 0, 1) := by decide +kernel
theorem d_Mod_as_21 : decode b_Mod_as 21 = .ok (.getfield 9, 3) := by decide +kernel
theorem d_Mod_as_24 : decode b_Mod_as 24 = .ok (.bipush 18, 2) := by decide +kernel
theorem d_Mod_as_26 : decode b_Mod_as 26 = .ok (.iload_n 1, 1) := by decide +kernel
theorem d_Mod_as_27 : decode b_Mod_as 27 = .ok (.iadd, 1) := by decide +kernel
theorem d_Mod_as_28 : decode b_Mod_as 28 = .ok (.iaload, 1) := by decide +kernel
theorem d_Mod_as_29 : decode b_Mod_as 29 = .ok (.iload_n 2, 1) := by decide +kernel
theorem d_Mod_as_30 : decode b_Mod_as 30 = .ok (.invokestatic 223, 3) := by decide +kernel
theorem d_Mod_as_33 : decode b_Mod_as 33 = .ok (.ifCond .eq 15, 3) := by decide +kernel
theorem d_Mod_as_36 : decode b_Mod_as 36 = .ok (.aload_n 0, 1) := by decide +kernel
theorem d_Mod_as_37 : decode b_Mod_as 37 = .ok (.getfield 9, 3) := by decide +kernel
theorem d_Mod_as_40 : decode b_Mod_as 40 = .ok (.bipush 24, 2) := by decide +kernel
theorem d_Mod_as_42 : decode b_Mod_as 42 = .ok (.iload_n 1, 1) := by decide +kernel
theorem d_Mod_as_43 : decode b_Mod_as 43 = .ok (.iadd, 1) := by decide +kernel
theorem d_Mod_as_44 : decode b_Mod_as 44 = .ok (.iaload, 1) := by decide +kernel
theorem d_Mod_as_45 : decode b_Mod_as 45 = .ok (.goto 5, 3) := by decide +kernel
theorem d_Mod_as_48 : decode b_Mod_as 48 = .ok (.bipush (-6), 2) := by decide +kernel
theorem d_Mod_as_50 : decode b_Mod_as 50 = .ok (.ireturn, 1) := by decide +kernel
theorem d_Mod_image_0 : decode b_Mod_image 0 = .ok (.iconst 0, 1) := by decide +kernel
theorem d_Mod_image_1 : decode b_Mod_image 1 = .ok (.istore_n 1, 1) := by decide +kernel
theorem d_Mod_image_2 : decode b_Mod_image 2 = .ok (.iload_n 1, 1) := by decide +kernel
theorem d_Mod_image_3 : decode b_Mod_image 3 = .ok (.sipush 915, 3) := by decide +kernel
theorem d_Mod_image_6 : decode b_Mod_image 6 = .ok (.if_icmp .ge 21, 3) := by decide +kernel
theorem d_Mod_image_9 : decode b_Mod_image 9 = .ok (.aload_n 0, 1) := by decide +kernel
theorem d_Mod_image_10 : decode b_Mod_image 10 = .ok (.getfield 15, 3) := by decide +kernel
theorem d_Mod_image_13 : decode b_Mod_image 13 = .ok (.iload_n 1, 1) := by decide +kernel
theorem d_Mod_image_14 : decode b_Mod_image 14 = .ok (.aload_n 0, 1) := by decide +kernel
theorem d_Mod_image_15 : decode b_Mod_image 15 = .ok (.getfield 9, 3) := by decide +kernel
theorem d_Mod_image_18 : decode b_Mod_image 18 = .ok (.iload_n 1, 1) := by decide +kernel
theorem d_Mod_image_19 : decode b_Mod_image 19 = .ok (.iaload, 1) := by decide +kernel
theorem d_Mod_image_20 : decode b_Mod_image 20 = .ok (.iastore, 1) := by decide +kernel
theorem d_Mod_image_21 : decode b_Mod_image 21 = .ok (.iinc 1 1, 3) := by decide +kernel
theorem d_Mod_image_24 : decode b_Mod_image 24 = .ok (.goto (-22), 3) := by decide +kernel
theorem d_Mod_image_27 : decode b_Mod_image 27 = .ok (.aload_n 0, 1) := by decide +kernel
theorem d_Mod_image_28 : decode b_Mod_image 28 = .ok (.iconst 1, 1) := by decide +kernel
theorem d_Mod_image_29 : decode b_Mod_image 29 = .ok (.putfield 248, 3) := by decide +kernel
theorem d_Mod_image_32 : decode b_Mod_image 32 = .ok (.aload_n 0, 1) := by decide +kernel
theorem d_Mod_image_33 : decode b_Mod_image 33 = .ok (.getfield 9, 3) := by decide +kernel
theorem d_Mod_image_36 : decode b_Mod_image 36 = .ok (.bipush 11, 2) := by decide +kernel
theorem d_Mod_image_38 : decode b_Mod_image 38 = .ok (.iaload, 1) := by decide +kernel
theorem d_Mod_image_39 : decode b_Mod_image 39 = .ok (.ireturn, 1) := by decide +kernel
theorem d_Mod_undo_0 : decode b_Mod_undo 0 = .ok (.aload_n 0, 1) := by decide +kernel
theorem d_Mod_undo_1 : decode b_Mod_undo 1 = .ok (.getfield 248, 3) := by decide +kernel
theorem d_Mod_undo_4 : decode b_Mod_undo 4 = .ok (.ifCond .ne 6, 3) := by decide +kernel
theorem d_Mod_undo_7 : decode b_Mod_undo 7 = .ok (.bipush (-3), 2) := by decide +kernel
theorem d_Mod_undo_9 : decode b_Mod_undo 9 = .ok (.ireturn, 1) := by decide +kernel
theorem d_Mod_undo_10 : decode b_Mod_undo 10 = .ok (.iconst 0, 1) := by decide +kernel
theorem d_Mod_undo_11 : decode b_Mod_undo 11 = .ok (.istore_n 1, 1) := by decide +kernel
theorem d_Mod_undo_12 : decode b_Mod_undo 12 = .ok (.iload_n 1, 1) := by decide +kernel
theorem d_Mod_undo_13 : decode b_Mod_undo 13 = .ok (.sipush 915, 3) := by decide +kernel
theorem d_Mod_undo_16 : decode b_Mod_undo 16 = .ok (.if_icmp .ge 21, 3) := by decide +kernel
theorem d_Mod_undo_19 : decode b_Mod_undo 19 = .ok (.aload_n 0, 1) := by decide +kernel
theorem d_Mod_undo_20 : decode b_Mod_undo 20 = .ok (.getfield 9, 3) := by decide +kernel
theorem d_Mod_undo_23 : decode b_Mod_undo 23 = .ok (.iload_n 1, 1) := by decide +kernel
theorem d_Mod_undo_24 : decode b_Mod_undo 24 = .ok (.aload_n 0, 1) := by decide +kernel
theorem d_Mod_undo_25 : decode b_Mod_undo 25 = .ok (.getfield 15, 3) := by decide +kernel
theorem d_Mod_undo_28 : decode b_Mod_undo 28 = .ok (.iload_n 1, 1) := by decide +kernel
theorem d_Mod_undo_29 : decode b_Mod_undo 29 = .ok (.iaload, 1) := by decide +kernel
theorem d_Mod_undo_30 : decode b_Mod_undo 30 = .ok (.iastore, 1) := by decide +kernel
theorem d_Mod_undo_31 : decode b_Mod_undo 31 = .ok (.iinc 1 1, 3) := by decide +kernel
theorem d_Mod_undo_34 : decode b_Mod_undo 34 = .ok (.goto (-22), 3) := by decide +kernel
theorem d_Mod_undo_37 : decode b_Mod_undo 37 = .ok (.aload_n 0, 1) := by decide +kernel
theorem d_Mod_undo_38 : decode b_Mod_undo 38 = .ok (.getfield 9, 3) := by decide +kernel
theorem d_Mod_undo_41 : decode b_Mod_undo 41 = .ok (.bipush 11, 2) := by decide +kernel
theorem d_Mod_undo_43 : decode b_Mod_undo 43 = .ok (.iaload, 1) := by decide +kernel
theorem d_Mod_undo_44 : decode b_Mod_undo 44 = .ok (.ireturn, 1) := by decide +kernel
theorem d_Mod_count_0 : decode b_Mod_count 0 = .ok (.iload_n 1, 1) := by decide +kernel
theorem d_Mod_count_1 : decode b_Mod_count 1 = .ok (.bipush 6, 2) := by decide +kernel
theorem d_Mod_count_3 : decode b_Mod_count 3 = .ok (.if_icmp .ne 10, 3) := by decide +kernel
theorem d_Mod_count_6 : decode b_Mod_count 6 = .ok (.aload_n 0, 1) := by decide +kernel
theorem d_Mod_count_7 : decode b_Mod_count 7 = .ok (.getfield 211, 3) := by decide +kernel
theorem d_Mod_count_10 : decode b_Mod_count 10 = .ok (.goto 25, 3) := by decide +kernel
theorem d_Mod_count_13 : decode b_Mod_count 13 = .ok (.iload_n 1, 1) := by decide +kernel
theorem d_Mod_count_14 : decode b_Mod_count 14 = .ok (.iconst 0, 1) := by decide +kernel
theorem d_Mod_count_15 : decode b_Mod_count 15 = .ok (.iconst 5, 1) := by decide +kernel
theorem d_Mod_count_16 : decode b_Mod_count 16 = .ok (.invokestatic 50, 3) := by decide +kernel
theorem d_Mod_count_19 : decode b_Mod_count 19 = .ok (.ifCond .eq 15, 3) := by decide +kernel
theorem d_Mod_count_22 : decode b_Mod_count 22 = .ok (.aload_n 0, 1) := by decide +kernel
theorem d_Mod_count_23 : decode b_Mod_count 23 = .ok (.getfield 9, 3) := by decide +kernel
theorem d_Mod_count_26 : decode b_Mod_count 26 = .ok (.bipush 11, 2) := by decide +kernel
theorem d_Mod_count_28 : decode b_Mod_count 28 = .ok (.iload_n 1, 1) := by decide +kernel
theorem d_Mod_count_29 : decode b_Mod_count 29 = .ok (.iadd, 1) := by decide +kernel
theorem d_Mod_count_30 : decode b_Mod_count 30 = .ok (.iaload, 1) := by decide +kernel
theorem d_Mod_count_31 : decode b_Mod_count 31 = .ok (.goto 4, 3) := by decide +kernel
theorem d_Mod_count_34 : decode b_Mod_count 34 = .ok (.iconst (-1), 1) := by decide +kernel
theorem d_Mod_count_35 : decode b_Mod_count 35 = .ok (.ireturn, 1) := by decide +kernel
