/-! decoded, and bodies, by program out of the source beside the bytecode -/
theorem d_Stat_init_0 : decode b_Stat_init 0 = .ok (.aload_n 0, 1) := by decide +kernel
theorem d_Stat_init_1 : decode b_Stat_init 1 = .ok (.invokespecial 3, 3) := by decide +kernel
theorem d_Stat_init_4 : decode b_Stat_init 4 = .ok (.aload_n 0, 1) := by decide +kernel
theorem d_Stat_init_5 : decode b_Stat_init 5 = .ok (.iconst 2, 1) := by decide +kernel
theorem d_Stat_init_6 : decode b_Stat_init 6 = .ok (.newarray .int, 2) := by decide +kernel
theorem d_Stat_init_8 : decode b_Stat_init 8 = .ok (.putfield 9, 3) := by decide +kernel
theorem d_Stat_init_11 : decode b_Stat_init 11 = .ok (.aload_n 0, 1) := by decide +kernel
theorem d_Stat_init_12 : decode b_Stat_init 12 = .ok (.bipush 6, 2) := by decide +kernel
theorem d_Stat_init_14 : decode b_Stat_init 14 = .ok (.anewarray 15, 3) := by decide +kernel
theorem d_Stat_init_17 : decode b_Stat_init 17 = .ok (.putfield 17, 3) := by decide +kernel
theorem d_Stat_init_20 : decode b_Stat_init 20 = .ok (.aload_n 0, 1) := by decide +kernel
theorem d_Stat_init_21 : decode b_Stat_init 21 = .ok (.bipush 6, 2) := by decide +kernel
theorem d_Stat_init_23 : decode b_Stat_init 23 = .ok (.newarray .int, 2) := by decide +kernel
theorem d_Stat_init_25 : decode b_Stat_init 25 = .ok (.putfield 21, 3) := by decide +kernel
theorem d_Stat_init_28 : decode b_Stat_init 28 = .ok (.aload_n 0, 1) := by decide +kernel
theorem d_Stat_init_29 : decode b_Stat_init 29 = .ok (.bipush 6, 2) := by decide +kernel
theorem d_Stat_init_31 : decode b_Stat_init 31 = .ok (.newarray .int, 2) := by decide +kernel
theorem d_Stat_init_33 : decode b_Stat_init 33 = .ok (.putfield 24, 3) := by decide +kernel
theorem d_Stat_init_36 : decode b_Stat_init 36 = .ok (.aload_n 0, 1) := by decide +kernel
theorem d_Stat_init_37 : decode b_Stat_init 37 = .ok (.bipush 24, 2) := by decide +kernel
theorem d_Stat_init_39 : decode b_Stat_init 39 = .ok (.newarray .int, 2) := by decide +kernel
theorem d_Stat_init_41 : decode b_Stat_init 41 = .ok (.putfield 27, 3) := by decide +kernel
theorem d_Stat_init_44 : decode b_Stat_init 44 = .ok (.aload_n 0, 1) := by decide +kernel
theorem d_Stat_init_45 : decode b_Stat_init 45 = .ok (.iconst 0, 1) := by decide +kernel
theorem d_Stat_init_46 : decode b_Stat_init 46 = .ok (.putfield 30, 3) := by decide +kernel
theorem d_Stat_init_49 : decode b_Stat_init 49 = .ok (.aload_n 0, 1) := by decide +kernel
theorem d_Stat_init_50 : decode b_Stat_init 50 = .ok (.iconst 0, 1) := by decide +kernel
theorem d_Stat_init_51 : decode b_Stat_init 51 = .ok (.putfield 34, 3) := by decide +kernel
theorem d_Stat_init_54 : decode b_Stat_init 54 = .ok (.aload_n 0, 1) := by decide +kernel
theorem d_Stat_init_55 : decode b_Stat_init 55 = .ok (.iconst 0, 1) := by decide +kernel
theorem d_Stat_init_56 : decode b_Stat_init 56 = .ok (.putfield 37, 3) := by decide +kernel
theorem d_Stat_init_59 : decode b_Stat_init 59 = .ok (.aload_n 0, 1) := by decide +kernel
theorem d_Stat_init_60 : decode b_Stat_init 60 = .ok (.iconst 0, 1) := by decide +kernel
theorem d_Stat_init_61 : decode b_Stat_init 61 = .ok (.putfield 40, 3) := by decide +kernel
theorem d_Stat_init_64 : decode b_Stat_init 64 = .ok (.aload_n 0, 1) := by decide +kernel
theorem d_Stat_init_65 : decode b_Stat_init 65 = .ok (.aload_n 1, 1) := by decide +kernel
theorem d_Stat_init_66 : decode b_Stat_init 66 = .ok (.putfield 43, 3) := by decide +kernel
theorem d_Stat_init_69 : decode b_Stat_init 69 = .ok (.iconst 0, 1) := by decide +kernel
theorem d_Stat_init_70 : decode b_Stat_init 70 = .ok (.istore_n 3, 1) := by decide +kernel
theorem d_Stat_init_71 : decode b_Stat_init 71 = .ok (.iload_n 3, 1) := by decide +kernel
theorem d_Stat_init_72 : decode b_Stat_init 72 = .ok (.bipush 6, 2) := by decide +kernel
theorem d_Stat_init_74 : decode b_Stat_init 74 = .ok (.if_icmp .ge 16, 3) := by decide +kernel
theorem d_Stat_init_77 : decode b_Stat_init 77 = .ok (.aload_n 0, 1) := by decide +kernel
theorem d_Stat_init_78 : decode b_Stat_init 78 = .ok (.getfield 17, 3) := by decide +kernel
theorem d_Stat_init_81 : decode b_Stat_init 81 = .ok (.iload_n 3, 1) := by decide +kernel
theorem d_Stat_init_82 : decode b_Stat_init 82 = .ok (.aload_n 2, 1) := by decide +kernel
theorem d_Stat_init_83 : decode b_Stat_init 83 = .ok (.aastore, 1) := by decide +kernel
theorem d_Stat_init_84 : decode b_Stat_init 84 = .ok (.iinc 3 1, 3) := by decide +kernel
theorem d_Stat_init_87 : decode b_Stat_init 87 = .ok (.goto (-16), 3) := by decide +kernel
theorem d_Stat_init_90 : decode b_Stat_init 90 = .ok (.return_, 1) := by decide +kernel
theorem d_Stat_copyFrom_0 : decode b_Stat_copyFrom 0 = .ok (.aload_n 1, 1) := by decide +kernel
theorem d_Stat_copyFrom_1 : decode b_Stat_copyFrom 1 = .ok (.getfield 9, 3) := by decide +kernel
theorem d_Stat_copyFrom_4 : decode b_Stat_copyFrom 4 = .ok (.iconst 0, 1) := by decide +kernel
theorem d_Stat_copyFrom_5 : decode b_Stat_copyFrom 5 = .ok (.aload_n 0, 1) := by decide +kernel
theorem d_Stat_copyFrom_6 : decode b_Stat_copyFrom 6 = .ok (.getfield 9, 3) := by decide +kernel
theorem d_Stat_copyFrom_9 : decode b_Stat_copyFrom 9 = .ok (.iconst 0, 1) := by decide +kernel
theorem d_Stat_copyFrom_10 : decode b_Stat_copyFrom 10 = .ok (.iconst 2, 1) := by decide +kernel
theorem d_Stat_copyFrom_11 : decode b_Stat_copyFrom 11 = .ok (.invokestatic 47, 3) := by decide +kernel
theorem d_Stat_copyFrom_14 : decode b_Stat_copyFrom 14 = .ok (.aload_n 1, 1) := by decide +kernel
theorem d_Stat_copyFrom_15 : decode b_Stat_copyFrom 15 = .ok (.getfield 21, 3) := by decide +kernel
theorem d_Stat_copyFrom_18 : decode b_Stat_copyFrom 18 = .ok (.iconst 0, 1) := by decide +kernel
theorem d_Stat_copyFrom_19 : decode b_Stat_copyFrom 19 = .ok (.aload_n 0, 1) := by decide +kernel
theorem d_Stat_copyFrom_20 : decode b_Stat_copyFrom 20 = .ok (.getfield 21, 3) := by decide +kernel
theorem d_Stat_copyFrom_23 : decode b_Stat_copyFrom 23 = .ok (.iconst 0, 1) := by decide +kernel
theorem d_Stat_copyFrom_24 : decode b_Stat_copyFrom 24 = .ok (.bipush 6, 2) := by decide +kernel
theorem d_Stat_copyFrom_26 : decode b_Stat_copyFrom 26 = .ok (.invokestatic 47, 3) := by decide +kernel
theorem d_Stat_copyFrom_29 : decode b_Stat_copyFrom 29 = .ok (.aload_n 1, 1) := by decide +kernel
theorem d_Stat_copyFrom_30 : decode b_Stat_copyFrom 30 = .ok (.getfield 24, 3) := by decide +kernel
theorem d_Stat_copyFrom_33 : decode b_Stat_copyFrom 33 = .ok (.iconst 0, 1) := by decide +kernel
theorem d_Stat_copyFrom_34 : decode b_Stat_copyFrom 34 = .ok (.aload_n 0, 1) := by decide +kernel
theorem d_Stat_copyFrom_35 : decode b_Stat_copyFrom 35 = .ok (.getfield 24, 3) := by decide +kernel
theorem d_Stat_copyFrom_38 : decode b_Stat_copyFrom 38 = .ok (.iconst 0, 1) := by decide +kernel
theorem d_Stat_copyFrom_39 : decode b_Stat_copyFrom 39 = .ok (.bipush 6, 2) := by decide +kernel
theorem d_Stat_copyFrom_41 : decode b_Stat_copyFrom 41 = .ok (.invokestatic 47, 3) := by decide +kernel
theorem d_Stat_copyFrom_44 : decode b_Stat_copyFrom 44 = .ok (.aload_n 1, 1) := by decide +kernel
theorem d_Stat_copyFrom_45 : decode b_Stat_copyFrom 45 = .ok (.getfield 27, 3) := by decide +kernel
theorem d_Stat_copyFrom_48 : decode b_Stat_copyFrom 48 = .ok (.iconst 0, 1) := by decide +kernel
theorem d_Stat_copyFrom_49 : decode b_Stat_copyFrom 49 = .ok (.aload_n 0, 1) := by decide +kernel
theorem d_Stat_copyFrom_50 : decode b_Stat_copyFrom 50 = .ok (.getfield 27, 3) := by decide +kernel
theorem d_Stat_copyFrom_53 : decode b_Stat_copyFrom 53 = .ok (.iconst 0, 1) := by decide +kernel
theorem d_Stat_copyFrom_54 : decode b_Stat_copyFrom 54 = .ok (.bipush 24, 2) := by decide +kernel
theorem d_Stat_copyFrom_56 : decode b_Stat_copyFrom 56 = .ok (.invokestatic 47, 3) := by decide +kernel
theorem d_Stat_copyFrom_59 : decode b_Stat_copyFrom 59 = .ok (.iconst 0, 1) := by decide +kernel
theorem d_Stat_copyFrom_60 : decode b_Stat_copyFrom 60 = .ok (.istore_n 2, 1) := by decide +kernel
theorem d_Stat_copyFrom_61 : decode b_Stat_copyFrom 61 = .ok (.iload_n 2, 1) := by decide +kernel
theorem d_Stat_copyFrom_62 : decode b_Stat_copyFrom 62 = .ok (.bipush 6, 2) := by decide +kernel
theorem d_Stat_copyFrom_64 : decode b_Stat_copyFrom 64 = .ok (.if_icmp .ge 21, 3) := by decide +kernel
theorem d_Stat_copyFrom_67 : decode b_Stat_copyFrom 67 = .ok (.aload_n 0, 1) := by decide +kernel
theorem d_Stat_copyFrom_68 : decode b_Stat_copyFrom 68 = .ok (.getfield 17, 3) := by decide +kernel
theorem d_Stat_copyFrom_71 : decode b_Stat_copyFrom 71 = .ok (.iload_n 2, 1) := by decide +kernel
theorem d_Stat_copyFrom_72 : decode b_Stat_copyFrom 72 = .ok (.aload_n 1, 1) := by decide +kernel
theorem d_Stat_copyFrom_73 : decode b_Stat_copyFrom 73 = .ok (.getfield 17, 3) := by decide +kernel
theorem d_Stat_copyFrom_76 : decode b_Stat_copyFrom 76 = .ok (.iload_n 2, 1) := by decide +kernel
theorem d_Stat_copyFrom_77 : decode b_Stat_copyFrom 77 = .ok (.aaload, 1) := by decide +kernel
theorem d_Stat_copyFrom_78 : decode b_Stat_copyFrom 78 = .ok (.aastore, 1) := by decide +kernel
theorem d_Stat_copyFrom_79 : decode b_Stat_copyFrom 79 = .ok (.iinc 2 1, 3) := by decide +kernel
theorem d_Stat_copyFrom_82 : decode b_Stat_copyFrom 82 = .ok (.goto (-21), 3) := by decide +kernel
theorem d_Stat_copyFrom_85 : decode b_Stat_copyFrom 85 = .ok (.aload_n 0, 1) := by decide +kernel
theorem d_Stat_copyFrom_86 : decode b_Stat_copyFrom 86 = .ok (.aload_n 1, 1) := by decide +kernel
theorem d_Stat_copyFrom_87 : decode b_Stat_copyFrom 87 = .ok (.getfield 43, 3) := by decide +kernel
theorem d_Stat_copyFrom_90 : decode b_Stat_copyFrom 90 = .ok (.putfield 43, 3) := by decide +kernel
theorem d_Stat_copyFrom_93 : decode b_Stat_copyFrom 93 = .ok (.aload_n 0, 1) := by decide +kernel
theorem d_Stat_copyFrom_94 : decode b_Stat_copyFrom 94 = .ok (.aload_n 1, 1) := by decide +kernel
theorem d_Stat_copyFrom_95 : decode b_Stat_copyFrom 95 = .ok (.getfield 30, 3) := by decide +kernel
theorem d_Stat_copyFrom_98 : decode b_Stat_copyFrom 98 = .ok (.putfield 30, 3) := by decide +kernel
theorem d_Stat_copyFrom_101 : decode b_Stat_copyFrom 101 = .ok (.aload_n 0, 1) := by decide +kernel
theorem d_Stat_copyFrom_102 : decode b_Stat_copyFrom 102 = .ok (.aload_n 1, 1) := by decide +kernel
theorem d_Stat_copyFrom_103 : decode b_Stat_copyFrom 103 = .ok (.getfield 34, 3) := by decide +kernel
theorem d_Stat_copyFrom_106 : decode b_Stat_copyFrom 106 = .ok (.putfield 34, 3) := by decide +kernel
theorem d_Stat_copyFrom_109 : decode b_Stat_copyFrom 109 = .ok (.aload_n 0, 1) := by decide +kernel
theorem d_Stat_copyFrom_110 : decode b_Stat_copyFrom 110 = .ok (.aload_n 1, 1) := by decide +kernel
theorem d_Stat_copyFrom_111 : decode b_Stat_copyFrom 111 = .ok (.getfield 37, 3) := by decide +kernel
theorem d_Stat_copyFrom_114 : decode b_Stat_copyFrom 114 = .ok (.putfield 37, 3) := by decide +kernel
theorem d_Stat_copyFrom_117 : decode b_Stat_copyFrom 117 = .ok (.aload_n 0, 1) := by decide +kernel
theorem d_Stat_copyFrom_118 : decode b_Stat_copyFrom 118 = .ok (.aload_n 1, 1) := by decide +kernel
theorem d_Stat_copyFrom_119 : decode b_Stat_copyFrom 119 = .ok (.getfield 40, 3) := by decide +kernel
theorem d_Stat_copyFrom_122 : decode b_Stat_copyFrom 122 = .ok (.putfield 40, 3) := by decide +kernel
theorem d_Stat_copyFrom_125 : decode b_Stat_copyFrom 125 = .ok (.return_, 1) := by decide +kernel
theorem d_Stat_setClock_0 : decode b_Stat_setClock 0 = .ok (.aload_n 0, 1) := by decide +kernel
theorem d_Stat_setClock_1 : decode b_Stat_setClock 1 = .ok (.iload_n 2, 1) := by decide +kernel
theorem d_Stat_setClock_2 : decode b_Stat_setClock 2 = .ok (.aload_n 0, 1) := by decide +kernel
theorem d_Stat_setClock_3 : decode b_Stat_setClock 3 = .ok (.getfield 9, 3) := by decide +kernel
theorem d_Stat_setClock_6 : decode b_Stat_setClock 6 = .ok (.iload_n 1, 1) := by decide +kernel
theorem d_Stat_setClock_7 : decode b_Stat_setClock 7 = .ok (.iaload, 1) := by decide +kernel
theorem d_Stat_setClock_8 : decode b_Stat_setClock 8 = .ok (.isub, 1) := by decide +kernel
theorem d_Stat_setClock_9 : decode b_Stat_setClock 9 = .ok (.putfield 40, 3) := by decide +kernel
theorem d_Stat_setClock_12 : decode b_Stat_setClock 12 = .ok (.aload_n 0, 1) := by decide +kernel
theorem d_Stat_setClock_13 : decode b_Stat_setClock 13 = .ok (.getfield 9, 3) := by decide +kernel
theorem d_Stat_setClock_16 : decode b_Stat_setClock 16 = .ok (.iload_n 1, 1) := by decide +kernel
theorem d_Stat_setClock_17 : decode b_Stat_setClock 17 = .ok (.iload_n 2, 1) := by decide +kernel
theorem d_Stat_setClock_18 : decode b_Stat_setClock 18 = .ok (.iastore, 1) := by decide +kernel
theorem d_Stat_setClock_19 : decode b_Stat_setClock 19 = .ok (.aload_n 0, 1) := by decide +kernel
theorem d_Stat_setClock_20 : decode b_Stat_setClock 20 = .ok (.iconst 0, 1) := by decide +kernel
theorem d_Stat_setClock_21 : decode b_Stat_setClock 21 = .ok (.putfield 37, 3) := by decide +kernel
theorem d_Stat_setClock_24 : decode b_Stat_setClock 24 = .ok (.return_, 1) := by decide +kernel
theorem d_Stat_hearWireless_0 : decode b_Stat_hearWireless 0 = .ok (.aload_n 0, 1) := by decide +kernel
theorem d_Stat_hearWireless_1 : decode b_Stat_hearWireless 1 = .ok (.getfield 24, 3) := by decide +kernel
theorem d_Stat_hearWireless_4 : decode b_Stat_hearWireless 4 = .ok (.iload_n 1, 1) := by decide +kernel
theorem d_Stat_hearWireless_5 : decode b_Stat_hearWireless 5 = .ok (.aload_n 0, 1) := by decide +kernel
theorem d_Stat_hearWireless_6 : decode b_Stat_hearWireless 6 = .ok (.getfield 9, 3) := by decide +kernel
theorem d_Stat_hearWireless_9 : decode b_Stat_hearWireless 9 = .ok (.aload_n 0, 1) := by decide +kernel
theorem d_Stat_hearWireless_10 : decode b_Stat_hearWireless 10 = .ok (.getfield 21, 3) := by decide +kernel
theorem d_Stat_hearWireless_13 : decode b_Stat_hearWireless 13 = .ok (.iload_n 1, 1) := by decide +kernel
theorem d_Stat_hearWireless_14 : decode b_Stat_hearWireless 14 = .ok (.iaload, 1) := by decide +kernel
theorem d_Stat_hearWireless_15 : decode b_Stat_hearWireless 15 = .ok (.iaload, 1) := by decide +kernel
theorem d_Stat_hearWireless_16 : decode b_Stat_hearWireless 16 = .ok (.iastore, 1) := by decide +kernel
theorem d_Stat_hearWireless_17 : decode b_Stat_hearWireless 17 = .ok (.return_, 1) := by decide +kernel
theorem d_Stat_late_0 : decode b_Stat_late 0 = .ok (.aload_n 0, 1) := by decide +kernel
theorem d_Stat_late_1 : decode b_Stat_late 1 = .ok (.getfield 17, 3) := by decide +kernel
theorem d_Stat_late_4 : decode b_Stat_late 4 = .ok (.iload_n 1, 1) := by decide +kernel
theorem d_Stat_late_5 : decode b_Stat_late 5 = .ok (.aaload, 1) := by decide +kernel
theorem d_Stat_late_6 : decode b_Stat_late 6 = .ok (.aload_n 0, 1) := by decide +kernel
theorem d_Stat_late_7 : decode b_Stat_late 7 = .ok (.invokevirtual 53, 3) := by decide +kernel
theorem d_Stat_late_10 : decode b_Stat_late 10 = .ok (.aload_n 0, 1) := by decide +kernel
theorem d_Stat_late_11 : decode b_Stat_late 11 = .ok (.getfield 9, 3) := by decide +kernel
theorem d_Stat_late_14 : decode b_Stat_late 14 = .ok (.aload_n 0, 1) := by decide +kernel
theorem d_Stat_late_15 : decode b_Stat_late 15 = .ok (.getfield 21, 3) := by decide +kernel
theorem d_Stat_late_18 : decode b_Stat_late 18 = .ok (.iload_n 1, 1) := by decide +kernel
theorem d_Stat_late_19 : decode b_Stat_late 19 = .ok (.iaload, 1) := by decide +kernel
theorem d_Stat_late_20 : decode b_Stat_late 20 = .ok (.iaload, 1) := by decide +kernel
theorem d_Stat_late_21 : decode b_Stat_late 21 = .ok (.isub, 1) := by decide +kernel
theorem d_Stat_late_22 : decode b_Stat_late 22 = .ok (.aload_n 0, 1) := by decide +kernel
theorem d_Stat_late_23 : decode b_Stat_late 23 = .ok (.getfield 17, 3) := by decide +kernel
theorem d_Stat_late_26 : decode b_Stat_late 26 = .ok (.iload_n 1, 1) := by decide +kernel
theorem d_Stat_late_27 : decode b_Stat_late 27 = .ok (.aaload, 1) := by decide +kernel
theorem d_Stat_late_28 : decode b_Stat_late 28 = .ok (.aload_n 0, 1) := by decide +kernel
theorem d_Stat_late_29 : decode b_Stat_late 29 = .ok (.invokevirtual 57, 3) := by decide +kernel
theorem d_Stat_late_32 : decode b_Stat_late 32 = .ok (.isub, 1) := by decide +kernel
theorem d_Stat_late_33 : decode b_Stat_late 33 = .ok (.ireturn, 1) := by decide +kernel
theorem d_Stat_costOfAll_0 : decode b_Stat_costOfAll 0 = .ok (.iconst 0, 1) := by decide +kernel
theorem d_Stat_costOfAll_1 : decode b_Stat_costOfAll 1 = .ok (.istore_n 2, 1) := by decide +kernel
theorem d_Stat_costOfAll_2 : decode b_Stat_costOfAll 2 = .ok (.iconst 0, 1) := by decide +kernel
theorem d_Stat_costOfAll_3 : decode b_Stat_costOfAll 3 = .ok (.istore_n 3, 1) := by decide +kernel
theorem d_Stat_costOfAll_4 : decode b_Stat_costOfAll 4 = .ok (.iload_n 3, 1) := by decide +kernel
theorem d_Stat_costOfAll_5 : decode b_Stat_costOfAll 5 = .ok (.aload_n 0, 1) := by decide +kernel
theorem d_Stat_costOfAll_6 : decode b_Stat_costOfAll 6 = .ok (.getfield 30, 3) := by decide +kernel
theorem d_Stat_costOfAll_9 : decode b_Stat_costOfAll 9 = .ok (.if_icmp .ge 26, 3) := by decide +kernel
theorem d_Stat_costOfAll_12 : decode b_Stat_costOfAll 12 = .ok (.iload_n 2, 1) := by decide +kernel
theorem d_Stat_costOfAll_13 : decode b_Stat_costOfAll 13 = .ok (.aload_n 0, 1) := by decide +kernel
theorem d_Stat_costOfAll_14 : decode b_Stat_costOfAll 14 = .ok (.getfield 43, 3) := by decide +kernel
theorem d_Stat_costOfAll_17 : decode b_Stat_costOfAll 17 = .ok (.aload_n 0, 1) := by decide +kernel
theorem d_Stat_costOfAll_18 : decode b_Stat_costOfAll 18 = .ok (.iload_n 3, 1) := by decide +kernel
theorem d_Stat_costOfAll_19 : decode b_Stat_costOfAll 19 = .ok (.invokevirtual 60, 3) := by decide +kernel
theorem d_Stat_costOfAll_22 : decode b_Stat_costOfAll 22 = .ok (.iload_n 1, 1) := by decide +kernel
theorem d_Stat_costOfAll_23 : decode b_Stat_costOfAll 23 = .ok (.isub, 1) := by decide +kernel
theorem d_Stat_costOfAll_24 : decode b_Stat_costOfAll 24 = .ok (.invokevirtual 64, 3) := by decide +kernel
theorem d_Stat_costOfAll_27 : decode b_Stat_costOfAll 27 = .ok (.iadd, 1) := by decide +kernel
theorem d_Stat_costOfAll_28 : decode b_Stat_costOfAll 28 = .ok (.istore_n 2, 1) := by decide +kernel
theorem d_Stat_costOfAll_29 : decode b_Stat_costOfAll 29 = .ok (.iinc 3 1, 3) := by decide +kernel
theorem d_Stat_costOfAll_32 : decode b_Stat_costOfAll 32 = .ok (.goto (-28), 3) := by decide +kernel
theorem d_Stat_costOfAll_35 : decode b_Stat_costOfAll 35 = .ok (.iload_n 2, 1) := by decide +kernel
theorem d_Stat_costOfAll_36 : decode b_Stat_costOfAll 36 = .ok (.ireturn, 1) := by decide +kernel
theorem d_Stat_passDay_0 : decode b_Stat_passDay 0 = .ok (.aload_n 0, 1) := by decide +kernel
theorem d_Stat_passDay_1 : decode b_Stat_passDay 1 = .ok (.iload_n 1, 1) := by decide +kernel
theorem d_Stat_passDay_2 : decode b_Stat_passDay 2 = .ok (.invokevirtual 69, 3) := by decide +kernel
theorem d_Stat_passDay_5 : decode b_Stat_passDay 5 = .ok (.istore_n 2, 1) := by decide +kernel
theorem d_Stat_passDay_6 : decode b_Stat_passDay 6 = .ok (.iconst 0, 1) := by decide +kernel
theorem d_Stat_passDay_7 : decode b_Stat_passDay 7 = .ok (.istore_n 3, 1) := by decide +kernel
theorem d_Stat_passDay_8 : decode b_Stat_passDay 8 = .ok (.iload_n 3, 1) := by decide +kernel
theorem d_Stat_passDay_9 : decode b_Stat_passDay 9 = .ok (.aload_n 0, 1) := by decide +kernel
theorem d_Stat_passDay_10 : decode b_Stat_passDay 10 = .ok (.getfield 30, 3) := by decide +kernel
theorem d_Stat_passDay_13 : decode b_Stat_passDay 13 = .ok (.if_icmp .ge 25, 3) := by decide +kernel
theorem d_Stat_passDay_16 : decode b_Stat_passDay 16 = .ok (.aload_n 0, 1) := by decide +kernel
theorem d_Stat_passDay_17 : decode b_Stat_passDay 17 = .ok (.getfield 24, 3) := by decide +kernel
theorem d_Stat_passDay_20 : decode b_Stat_passDay 20 = .ok (.iload_n 3, 1) := by decide +kernel
theorem d_Stat_passDay_21 : decode b_Stat_passDay 21 = .ok (.aload_n 0, 1) := by decide +kernel
theorem d_Stat_passDay_22 : decode b_Stat_passDay 22 = .ok (.getfield 17, 3) := by decide +kernel
theorem d_Stat_passDay_25 : decode b_Stat_passDay 25 = .ok (.iload_n 3, 1) := by decide +kernel
theorem d_Stat_passDay_26 : decode b_Stat_passDay 26 = .ok (.aaload, 1) := by decide +kernel
theorem d_Stat_passDay_27 : decode b_Stat_passDay 27 = .ok (.aload_n 0, 1) := by decide +kernel
theorem d_Stat_passDay_28 : decode b_Stat_passDay 28 = .ok (.invokevirtual 72, 3) := by decide +kernel
theorem d_Stat_passDay_31 : decode b_Stat_passDay 31 = .ok (.iastore, 1) := by decide +kernel
theorem d_Stat_passDay_32 : decode b_Stat_passDay 32 = .ok (.iinc 3 1, 3) := by decide +kernel
theorem d_Stat_passDay_35 : decode b_Stat_passDay 35 = .ok (.goto (-27), 3) := by decide +kernel
theorem d_Stat_passDay_38 : decode b_Stat_passDay 38 = .ok (.aload_n 0, 1) := by decide +kernel
theorem d_Stat_passDay_39 : decode b_Stat_passDay 39 = .ok (.dup, 1) := by decide +kernel
theorem d_Stat_passDay_40 : decode b_Stat_passDay 40 = .ok (.getfield 34, 3) := by decide +kernel
theorem d_Stat_passDay_43 : decode b_Stat_passDay 43 = .ok (.iconst 1, 1) := by decide +kernel
theorem d_Stat_passDay_44 : decode b_Stat_passDay 44 = .ok (.iadd, 1) := by decide +kernel
theorem d_Stat_passDay_45 : decode b_Stat_passDay 45 = .ok (.putfield 34, 3) := by decide +kernel
theorem d_Stat_passDay_48 : decode b_Stat_passDay 48 = .ok (.aload_n 0, 1) := by decide +kernel
theorem d_Stat_passDay_49 : decode b_Stat_passDay 49 = .ok (.aload_n 0, 1) := by decide +kernel
theorem d_Stat_passDay_50 : decode b_Stat_passDay 50 = .ok (.getfield 37, 3) := by decide +kernel
theorem d_Stat_passDay_53 : decode b_Stat_passDay 53 = .ok (.iconst 1, 1) := by decide +kernel
theorem d_Stat_passDay_54 : decode b_Stat_passDay 54 = .ok (.iadd, 1) := by decide +kernel
theorem d_Stat_passDay_55 : decode b_Stat_passDay 55 = .ok (.bipush 9, 2) := by decide +kernel
theorem d_Stat_passDay_57 : decode b_Stat_passDay 57 = .ok (.invokestatic 75, 3) := by decide +kernel
theorem d_Stat_passDay_60 : decode b_Stat_passDay 60 = .ok (.putfield 37, 3) := by decide +kernel
theorem d_Stat_passDay_63 : decode b_Stat_passDay 63 = .ok (.iload_n 2, 1) := by decide +kernel
theorem d_Stat_passDay_64 : decode b_Stat_passDay 64 = .ok (.ireturn, 1) := by decide +kernel
theorem d_Stat_passDays_0 : decode b_Stat_passDays 0 = .ok (.iconst 0, 1) := by decide +kernel
theorem d_Stat_passDays_1 : decode b_Stat_passDays 1 = .ok (.istore_n 3, 1) := by decide +kernel
theorem d_Stat_passDays_2 : decode b_Stat_passDays 2 = .ok (.iconst 0, 1) := by decide +kernel
theorem d_Stat_passDays_3 : decode b_Stat_passDays 3 = .ok (.istore 4, 2) := by decide +kernel
theorem d_Stat_passDays_5 : decode b_Stat_passDays 5 = .ok (.iload 4, 2) := by decide +kernel
theorem d_Stat_passDays_7 : decode b_Stat_passDays 7 = .ok (.iload_n 1, 1) := by decide +kernel
theorem d_Stat_passDays_8 : decode b_Stat_passDays 8 = .ok (.if_icmp .ge 17, 3) := by decide +kernel
theorem d_Stat_passDays_11 : decode b_Stat_passDays 11 = .ok (.iload_n 3, 1) := by decide +kernel
theorem d_Stat_passDays_12 : decode b_Stat_passDays 12 = .ok (.aload_n 0, 1) := by decide +kernel
theorem d_Stat_passDays_13 : decode b_Stat_passDays 13 = .ok (.iload_n 2, 1) := by decide +kernel
theorem d_Stat_passDays_14 : decode b_Stat_passDays 14 = .ok (.invokevirtual 81, 3) := by decide +kernel
theorem d_Stat_passDays_17 : decode b_Stat_passDays 17 = .ok (.iadd, 1) := by decide +kernel
theorem d_Stat_passDays_18 : decode b_Stat_passDays 18 = .ok (.istore_n 3, 1) := by decide +kernel
theorem d_Stat_passDays_19 : decode b_Stat_passDays 19 = .ok (.iinc 4 1, 3) := by decide +kernel
theorem d_Stat_passDays_22 : decode b_Stat_passDays 22 = .ok (.goto (-17), 3) := by decide +kernel
theorem d_Stat_passDays_25 : decode b_Stat_passDays 25 = .ok (.iload_n 3, 1) := by decide +kernel
theorem d_Stat_passDays_26 : decode b_Stat_passDays 26 = .ok (.ireturn, 1) := by decide +kernel
theorem d_Stat_nobodyLaterThan_0 : decode b_Stat_nobodyLaterThan 0 = .ok (.iconst 0, 1) := by decide +kernel
theorem d_Stat_nobodyLaterThan_1 : decode b_Stat_nobodyLaterThan 1 = .ok (.istore_n 2, 1) := by decide +kernel
theorem d_Stat_nobodyLaterThan_2 : decode b_Stat_nobodyLaterThan 2 = .ok (.iload_n 2, 1) := by decide +kernel
theorem d_Stat_nobodyLaterThan_3 : decode b_Stat_nobodyLaterThan 3 = .ok (.aload_n 0, 1) := by decide +kernel
theorem d_Stat_nobodyLaterThan_4 : decode b_Stat_nobodyLaterThan 4 = .ok (.getfield 30, 3) := by decide +kernel
theorem d_Stat_nobodyLaterThan_7 : decode b_Stat_nobodyLaterThan 7 = .ok (.if_icmp .ge 20, 3) := by decide +kernel
theorem d_Stat_nobodyLaterThan_10 : decode b_Stat_nobodyLaterThan 10 = .ok (.aload_n 0, 1) := by decide +kernel
theorem d_Stat_nobodyLaterThan_11 : decode b_Stat_nobodyLaterThan 11 = .ok (.iload_n 2, 1) := by decide +kernel
theorem d_Stat_nobodyLaterThan_12 : decode b_Stat_nobodyLaterThan 12 = .ok (.invokevirtual 60, 3) := by decide +kernel
theorem d_Stat_nobodyLaterThan_15 : decode b_Stat_nobodyLaterThan 15 = .ok (.iload_n 1, 1) := by decide +kernel
theorem d_Stat_nobodyLaterThan_16 : decode b_Stat_nobodyLaterThan 16 = .ok (.if_icmp .le 5, 3) := by decide +kernel
theorem d_Stat_nobodyLaterThan_19 : decode b_Stat_nobodyLaterThan 19 = .ok (.iconst 0, 1) := by decide +kernel
theorem d_Stat_nobodyLaterThan_20 : decode b_Stat_nobodyLaterThan 20 = .ok (.ireturn, 1) := by decide +kernel
theorem d_Stat_nobodyLaterThan_21 : decode b_Stat_nobodyLaterThan 21 = .ok (.iinc 2 1, 3) := by decide +kernel
theorem d_Stat_nobodyLaterThan_24 : decode b_Stat_nobodyLaterThan 24 = .ok (.goto (-22), 3) := by decide +kernel
theorem d_Stat_nobodyLaterThan_27 : decode b_Stat_nobodyLaterThan 27 = .ok (.iconst 1, 1) := by decide +kernel
theorem d_Stat_nobodyLaterThan_28 : decode b_Stat_nobodyLaterThan 28 = .ok (.ireturn, 1) := by decide +kernel
theorem d_Stat_isAsSeen_0 : decode b_Stat_isAsSeen 0 = .ok (.iconst 0, 1) := by decide +kernel
theorem d_Stat_isAsSeen_1 : decode b_Stat_isAsSeen 1 = .ok (.istore_n 2, 1) := by decide +kernel
theorem d_Stat_isAsSeen_2 : decode b_Stat_isAsSeen 2 = .ok (.iload_n 2, 1) := by decide +kernel
theorem d_Stat_isAsSeen_3 : decode b_Stat_isAsSeen 3 = .ok (.aload_n 1, 1) := by decide +kernel
theorem d_Stat_isAsSeen_4 : decode b_Stat_isAsSeen 4 = .ok (.getfield 84, 3) := by decide +kernel
theorem d_Stat_isAsSeen_7 : decode b_Stat_isAsSeen 7 = .ok (.if_icmp .ge 30, 3) := by decide +kernel
theorem d_Stat_isAsSeen_10 : decode b_Stat_isAsSeen 10 = .ok (.aload_n 0, 1) := by decide +kernel
theorem d_Stat_isAsSeen_11 : decode b_Stat_isAsSeen 11 = .ok (.aload_n 1, 1) := by decide +kernel
theorem d_Stat_isAsSeen_12 : decode b_Stat_isAsSeen 12 = .ok (.getfield 89, 3) := by decide +kernel
theorem d_Stat_isAsSeen_15 : decode b_Stat_isAsSeen 15 = .ok (.iload_n 2, 1) := by decide +kernel
theorem d_Stat_isAsSeen_16 : decode b_Stat_isAsSeen 16 = .ok (.iaload, 1) := by decide +kernel
theorem d_Stat_isAsSeen_17 : decode b_Stat_isAsSeen 17 = .ok (.invokevirtual 60, 3) := by decide +kernel
theorem d_Stat_isAsSeen_20 : decode b_Stat_isAsSeen 20 = .ok (.aload_n 1, 1) := by decide +kernel
theorem d_Stat_isAsSeen_21 : decode b_Stat_isAsSeen 21 = .ok (.getfield 92, 3) := by decide +kernel
theorem d_Stat_isAsSeen_24 : decode b_Stat_isAsSeen 24 = .ok (.iload_n 2, 1) := by decide +kernel
theorem d_Stat_isAsSeen_25 : decode b_Stat_isAsSeen 25 = .ok (.iaload, 1) := by decide +kernel
theorem d_Stat_isAsSeen_26 : decode b_Stat_isAsSeen 26 = .ok (.if_icmp .eq 5, 3) := by decide +kernel
theorem d_Stat_isAsSeen_29 : decode b_Stat_isAsSeen 29 = .ok (.iconst 0, 1) := by decide +kernel
theorem d_Stat_isAsSeen_30 : decode b_Stat_isAsSeen 30 = .ok (.ireturn, 1) := by decide +kernel
theorem d_Stat_isAsSeen_31 : decode b_Stat_isAsSeen 31 = .ok (.iinc 2 1, 3) := by decide +kernel
theorem d_Stat_isAsSeen_34 : decode b_Stat_isAsSeen 34 = .ok (.goto (-32), 3) := by decide +kernel
theorem d_Stat_isAsSeen_37 : decode b_Stat_isAsSeen 37 = .ok (.iconst 1, 1) := by decide +kernel
theorem d_Stat_isAsSeen_38 : decode b_Stat_isAsSeen 38 = .ok (.ireturn, 1) := by decide +kernel
theorem d_Notes_init_0 : decode b_Notes_init 0 = .ok (.aload_n 0, 1) := by decide +kernel
theorem d_Notes_init_1 : decode b_Notes_init 1 = .ok (.invokespecial 3, 3) := by decide +kernel
theorem d_Notes_init_4 : decode b_Notes_init 4 = .ok (.aload_n 0, 1) := by decide +kernel
theorem d_Notes_init_5 : decode b_Notes_init 5 = .ok (.bipush 100, 2) := by decide +kernel
theorem d_Notes_init_7 : decode b_Notes_init 7 = .ok (.newarray .int, 2) := by decide +kernel
theorem d_Notes_init_9 : decode b_Notes_init 9 = .ok (.putfield 9, 3) := by decide +kernel
theorem d_Notes_init_12 : decode b_Notes_init 12 = .ok (.aload_n 0, 1) := by decide +kernel
theorem d_Notes_init_13 : decode b_Notes_init 13 = .ok (.iconst 0, 1) := by decide +kernel
theorem d_Notes_init_14 : decode b_Notes_init 14 = .ok (.putfield 15, 3) := by decide +kernel
theorem d_Notes_init_17 : decode b_Notes_init 17 = .ok (.aload_n 0, 1) := by decide +kernel
theorem d_Notes_init_18 : decode b_Notes_init 18 = .ok (.iconst 0, 1) := by decide +kernel
theorem d_Notes_init_19 : decode b_Notes_init 19 = .ok (.putfield 19, 3) := by decide +kernel
theorem d_Notes_init_22 : decode b_Notes_init 22 = .ok (.aload_n 0, 1) := by decide +kernel
theorem d_Notes_init_23 : decode b_Notes_init 23 = .ok (.bipush 6, 2) := by decide +kernel
theorem d_Notes_init_25 : decode b_Notes_init 25 = .ok (.newarray .int, 2) := by decide +kernel
theorem d_Notes_init_27 : decode b_Notes_init 27 = .ok (.putfield 22, 3) := by decide +kernel
theorem d_Notes_init_30 : decode b_Notes_init 30 = .ok (.aload_n 0, 1) := by decide +kernel
theorem d_Notes_init_31 : decode b_Notes_init 31 = .ok (.bipush 6, 2) := by decide +kernel
theorem d_Notes_init_33 : decode b_Notes_init 33 = .ok (.newarray .int, 2) := by decide +kernel
theorem d_Notes_init_35 : decode b_Notes_init 35 = .ok (.putfield 25, 3) := by decide +kernel
theorem d_Notes_init_38 : decode b_Notes_init 38 = .ok (.aload_n 0, 1) := by decide +kernel
theorem d_Notes_init_39 : decode b_Notes_init 39 = .ok (.iconst 0, 1) := by decide +kernel
theorem d_Notes_init_40 : decode b_Notes_init 40 = .ok (.putfield 28, 3) := by decide +kernel
theorem d_Notes_init_43 : decode b_Notes_init 43 = .ok (.aload_n 0, 1) := by decide +kernel
theorem d_Notes_init_44 : decode b_Notes_init 44 = .ok (.iconst 4, 1) := by decide +kernel
theorem d_Notes_init_45 : decode b_Notes_init 45 = .ok (.newarray .int, 2) := by decide +kernel
theorem d_Notes_init_47 : decode b_Notes_init 47 = .ok (.putfield 31, 3) := by decide +kernel
theorem d_Notes_init_50 : decode b_Notes_init 50 = .ok (.aload_n 0, 1) := by decide +kernel
theorem d_Notes_init_51 : decode b_Notes_init 51 = .ok (.iconst 4, 1) := by decide +kernel
theorem d_Notes_init_52 : decode b_Notes_init 52 = .ok (.newarray .int, 2) := by decide +kernel
theorem d_Notes_init_54 : decode b_Notes_init 54 = .ok (.putfield 34, 3) := by decide +kernel
theorem d_Notes_init_57 : decode b_Notes_init 57 = .ok (.aload_n 0, 1) := by decide +kernel
theorem d_Notes_init_58 : decode b_Notes_init 58 = .ok (.iconst 4, 1) := by decide +kernel
theorem d_Notes_init_59 : decode b_Notes_init 59 = .ok (.newarray .int, 2) := by decide +kernel
theorem d_Notes_init_61 : decode b_Notes_init 61 = .ok (.putfield 37, 3) := by decide +kernel
theorem d_Notes_init_64 : decode b_Notes_init 64 = .ok (.aload_n 0, 1) := by decide +kernel
theorem d_Notes_init_65 : decode b_Notes_init 65 = .ok (.iconst 0, 1) := by decide +kernel
theorem d_Notes_init_66 : decode b_Notes_init 66 = .ok (.putfield 40, 3) := by decide +kernel
theorem d_Notes_init_69 : decode b_Notes_init 69 = .ok (.aload_n 0, 1) := by decide +kernel
theorem d_Notes_init_70 : decode b_Notes_init 70 = .ok (.bipush 8, 2) := by decide +kernel
theorem d_Notes_init_72 : decode b_Notes_init 72 = .ok (.newarray .int, 2) := by decide +kernel
theorem d_Notes_init_74 : decode b_Notes_init 74 = .ok (.putfield 43, 3) := by decide +kernel
theorem d_Notes_init_77 : decode b_Notes_init 77 = .ok (.aload_n 0, 1) := by decide +kernel
theorem d_Notes_init_78 : decode b_Notes_init 78 = .ok (.bipush 8, 2) := by decide +kernel
theorem d_Notes_init_80 : decode b_Notes_init 80 = .ok (.newarray .int, 2) := by decide +kernel
theorem d_Notes_init_82 : decode b_Notes_init 82 = .ok (.putfield 46, 3) := by decide +kernel
theorem d_Notes_init_85 : decode b_Notes_init 85 = .ok (.aload_n 0, 1) := by decide +kernel
theorem d_Notes_init_86 : decode b_Notes_init 86 = .ok (.iconst 0, 1) := by decide +kernel
theorem d_Notes_init_87 : decode b_Notes_init 87 = .ok (.putfield 49, 3) := by decide +kernel
theorem d_Notes_init_90 : decode b_Notes_init 90 = .ok (.return_, 1) := by decide +kernel
theorem d_Notes_copyFrom_0 : decode b_Notes_copyFrom 0 = .ok (.aload_n 1, 1) := by decide +kernel
theorem d_Notes_copyFrom_1 : decode b_Notes_copyFrom 1 = .ok (.getfield 9, 3) := by decide +kernel
theorem d_Notes_copyFrom_4 : decode b_Notes_copyFrom 4 = .ok (.iconst 0, 1) := by decide +kernel
theorem d_Notes_copyFrom_5 : decode b_Notes_copyFrom 5 = .ok (.aload_n 0, 1) := by decide +kernel
theorem d_Notes_copyFrom_6 : decode b_Notes_copyFrom 6 = .ok (.getfield 9, 3) := by decide +kernel
theorem d_Notes_copyFrom_9 : decode b_Notes_copyFrom 9 = .ok (.iconst 0, 1) := by decide +kernel
theorem d_Notes_copyFrom_10 : decode b_Notes_copyFrom 10 = .ok (.bipush 100, 2) := by decide +kernel
theorem d_Notes_copyFrom_12 : decode b_Notes_copyFrom 12 = .ok (.invokestatic 52, 3) := by decide +kernel
theorem d_Notes_copyFrom_15 : decode b_Notes_copyFrom 15 = .ok (.aload_n 1, 1) := by decide +kernel
theorem d_Notes_copyFrom_16 : decode b_Notes_copyFrom 16 = .ok (.getfield 22, 3) := by decide +kernel
theorem d_Notes_copyFrom_19 : decode b_Notes_copyFrom 19 = .ok (.iconst 0, 1) := by decide +kernel
theorem d_Notes_copyFrom_20 : decode b_Notes_copyFrom 20 = .ok (.aload_n 0, 1) := by decide +kernel
theorem d_Notes_copyFrom_21 : decode b_Notes_copyFrom 21 = .ok (.getfield 22, 3) := by decide +kernel
theorem d_Notes_copyFrom_24 : decode b_Notes_copyFrom 24 = .ok (.iconst 0, 1) := by decide +kernel
theorem d_Notes_copyFrom_25 : decode b_Notes_copyFrom 25 = .ok (.bipush 6, 2) := by decide +kernel
theorem d_Notes_copyFrom_27 : decode b_Notes_copyFrom 27 = .ok (.invokestatic 52, 3) := by decide +kernel
theorem d_Notes_copyFrom_30 : decode b_Notes_copyFrom 30 = .ok (.aload_n 1, 1) := by decide +kernel
theorem d_Notes_copyFrom_31 : decode b_Notes_copyFrom 31 = .ok (.getfield 25, 3) := by decide +kernel
theorem d_Notes_copyFrom_34 : decode b_Notes_copyFrom 34 = .ok (.iconst 0, 1) := by decide +kernel
theorem d_Notes_copyFrom_35 : decode b_Notes_copyFrom 35 = .ok (.aload_n 0, 1) := by decide +kernel
theorem d_Notes_copyFrom_36 : decode b_Notes_copyFrom 36 = .ok (.getfield 25, 3) := by decide +kernel
theorem d_Notes_copyFrom_39 : decode b_Notes_copyFrom 39 = .ok (.iconst 0, 1) := by decide +kernel
theorem d_Notes_copyFrom_40 : decode b_Notes_copyFrom 40 = .ok (.bipush 6, 2) := by decide +kernel
theorem d_Notes_copyFrom_42 : decode b_Notes_copyFrom 42 = .ok (.invokestatic 52, 3) := by decide +kernel
theorem d_Notes_copyFrom_45 : decode b_Notes_copyFrom 45 = .ok (.aload_n 1, 1) := by decide +kernel
theorem d_Notes_copyFrom_46 : decode b_Notes_copyFrom 46 = .ok (.getfield 31, 3) := by decide +kernel
theorem d_Notes_copyFrom_49 : decode b_Notes_copyFrom 49 = .ok (.iconst 0, 1) := by decide +kernel
theorem d_Notes_copyFrom_50 : decode b_Notes_copyFrom 50 = .ok (.aload_n 0, 1) := by decide +kernel
theorem d_Notes_copyFrom_51 : decode b_Notes_copyFrom 51 = .ok (.getfield 31, 3) := by decide +kernel
theorem d_Notes_copyFrom_54 : decode b_Notes_copyFrom 54 = .ok (.iconst 0, 1) := by decide +kernel
theorem d_Notes_copyFrom_55 : decode b_Notes_copyFrom 55 = .ok (.iconst 4, 1) := by decide +kernel
theorem d_Notes_copyFrom_56 : decode b_Notes_copyFrom 56 = .ok (.invokestatic 52, 3) := by decide +kernel
theorem d_Notes_copyFrom_59 : decode b_Notes_copyFrom 59 = .ok (.aload_n 1, 1) := by decide +kernel
theorem d_Notes_copyFrom_60 : decode b_Notes_copyFrom 60 = .ok (.getfield 34, 3) := by decide +kernel
theorem d_Notes_copyFrom_63 : decode b_Notes_copyFrom 63 = .ok (.iconst 0, 1) := by decide +kernel
theorem d_Notes_copyFrom_64 : decode b_Notes_copyFrom 64 = .ok (.aload_n 0, 1) := by decide +kernel
theorem d_Notes_copyFrom_65 : decode b_Notes_copyFrom 65 = .ok (.getfield 34, 3) := by decide +kernel
theorem d_Notes_copyFrom_68 : decode b_Notes_copyFrom 68 = .ok (.iconst 0, 1) := by decide +kernel
theorem d_Notes_copyFrom_69 : decode b_Notes_copyFrom 69 = .ok (.iconst 4, 1) := by decide +kernel
theorem d_Notes_copyFrom_70 : decode b_Notes_copyFrom 70 = .ok (.invokestatic 52, 3) := by decide +kernel
theorem d_Notes_copyFrom_73 : decode b_Notes_copyFrom 73 = .ok (.aload_n 1, 1) := by decide +kernel
theorem d_Notes_copyFrom_74 : decode b_Notes_copyFrom 74 = .ok (.getfield 37, 3) := by decide +kernel
theorem d_Notes_copyFrom_77 : decode b_Notes_copyFrom 77 = .ok (.iconst 0, 1) := by decide +kernel
theorem d_Notes_copyFrom_78 : decode b_Notes_copyFrom 78 = .ok (.aload_n 0, 1) := by decide +kernel
theorem d_Notes_copyFrom_79 : decode b_Notes_copyFrom 79 = .ok (.getfield 37, 3) := by decide +kernel
theorem d_Notes_copyFrom_82 : decode b_Notes_copyFrom 82 = .ok (.iconst 0, 1) := by decide +kernel
theorem d_Notes_copyFrom_83 : decode b_Notes_copyFrom 83 = .ok (.iconst 4, 1) := by decide +kernel
theorem d_Notes_copyFrom_84 : decode b_Notes_copyFrom 84 = .ok (.invokestatic 52, 3) := by decide +kernel
theorem d_Notes_copyFrom_87 : decode b_Notes_copyFrom 87 = .ok (.aload_n 1, 1) := by decide +kernel
theorem d_Notes_copyFrom_88 : decode b_Notes_copyFrom 88 = .ok (.getfield 43, 3) := by decide +kernel
theorem d_Notes_copyFrom_91 : decode b_Notes_copyFrom 91 = .ok (.iconst 0, 1) := by decide +kernel
theorem d_Notes_copyFrom_92 : decode b_Notes_copyFrom 92 = .ok (.aload_n 0, 1) := by decide +kernel
theorem d_Notes_copyFrom_93 : decode b_Notes_copyFrom 93 = .ok (.getfield 43, 3) := by decide +kernel
theorem d_Notes_copyFrom_96 : decode b_Notes_copyFrom 96 = .ok (.iconst 0, 1) := by decide +kernel
theorem d_Notes_copyFrom_97 : decode b_Notes_copyFrom 97 = .ok (.bipush 8, 2) := by decide +kernel
theorem d_Notes_copyFrom_99 : decode b_Notes_copyFrom 99 = .ok (.invokestatic 52, 3) := by decide +kernel
theorem d_Notes_copyFrom_102 : decode b_Notes_copyFrom 102 = .ok (.aload_n 1, 1) := by decide +kernel
theorem d_Notes_copyFrom_103 : decode b_Notes_copyFrom 103 = .ok (.getfield 46, 3) := by decide +kernel
theorem d_Notes_copyFrom_106 : decode b_Notes_copyFrom 106 = .ok (.iconst 0, 1) := by decide +kernel
theorem d_Notes_copyFrom_107 : decode b_Notes_copyFrom 107 = .ok (.aload_n 0, 1) := by decide +kernel
theorem d_Notes_copyFrom_108 : decode b_Notes_copyFrom 108 = .ok (.getfield 46, 3) := by decide +kernel
theorem d_Notes_copyFrom_111 : decode b_Notes_copyFrom 111 = .ok (.iconst 0, 1) := by decide +kernel
theorem d_Notes_copyFrom_112 : decode b_Notes_copyFrom 112 = .ok (.bipush 8, 2) := by decide +kernel
theorem d_Notes_copyFrom_114 : decode b_Notes_copyFrom 114 = .ok (.invokestatic 52, 3) := by decide +kernel
theorem d_Notes_copyFrom_117 : decode b_Notes_copyFrom 117 = .ok (.aload_n 0, 1) := by decide +kernel
theorem d_Notes_copyFrom_118 : decode b_Notes_copyFrom 118 = .ok (.aload_n 1, 1) := by decide +kernel
theorem d_Notes_copyFrom_119 : decode b_Notes_copyFrom 119 = .ok (.getfield 15, 3) := by decide +kernel
theorem d_Notes_copyFrom_122 : decode b_Notes_copyFrom 122 = .ok (.putfield 15, 3) := by decide +kernel
theorem d_Notes_copyFrom_125 : decode b_Notes_copyFrom 125 = .ok (.aload_n 0, 1) := by decide +kernel
theorem d_Notes_copyFrom_126 : decode b_Notes_copyFrom 126 = .ok (.aload_n 1, 1) := by decide +kernel
theorem d_Notes_copyFrom_127 : decode b_Notes_copyFrom 127 = .ok (.getfield 19, 3) := by decide +kernel
theorem d_Notes_copyFrom_130 : decode b_Notes_copyFrom 130 = .ok (.putfield 19, 3) := by decide +kernel
theorem d_Notes_copyFrom_133 : decode b_Notes_copyFrom 133 = .ok (.aload_n 0, 1) := by decide +kernel
theorem d_Notes_copyFrom_134 : decode b_Notes_copyFrom 134 = .ok (.aload_n 1, 1) := by decide +kernel
theorem d_Notes_copyFrom_135 : decode b_Notes_copyFrom 135 = .ok (.getfield 28, 3) := by decide +kernel
theorem d_Notes_copyFrom_138 : decode b_Notes_copyFrom 138 = .ok (.putfield 28, 3) := by decide +kernel
theorem d_Notes_copyFrom_141 : decode b_Notes_copyFrom 141 = .ok (.aload_n 0, 1) := by decide +kernel
theorem d_Notes_copyFrom_142 : decode b_Notes_copyFrom 142 = .ok (.aload_n 1, 1) := by decide +kernel
theorem d_Notes_copyFrom_143 : decode b_Notes_copyFrom 143 = .ok (.getfield 40, 3) := by decide +kernel
theorem d_Notes_copyFrom_146 : decode b_Notes_copyFrom 146 = .ok (.putfield 40, 3) := by decide +kernel
theorem d_Notes_copyFrom_149 : decode b_Notes_copyFrom 149 = .ok (.aload_n 0, 1) := by decide +kernel
theorem d_Notes_copyFrom_150 : decode b_Notes_copyFrom 150 = .ok (.aload_n 1, 1) := by decide +kernel
theorem d_Notes_copyFrom_151 : decode b_Notes_copyFrom 151 = .ok (.getfield 49, 3) := by decide +kernel
theorem d_Notes_copyFrom_154 : decode b_Notes_copyFrom 154 = .ok (.putfield 49, 3) := by decide +kernel
theorem d_Notes_copyFrom_157 : decode b_Notes_copyFrom 157 = .ok (.return_, 1) := by decide +kernel
theorem d_Trace_init_0 : decode b_Trace_init 0 = .ok (.aload_n 0, 1) := by decide +kernel
theorem d_Trace_init_1 : decode b_Trace_init 1 = .ok (.invokespecial 3, 3) := by decide +kernel
theorem d_Trace_init_4 : decode b_Trace_init 4 = .ok (.aload_n 0, 1) := by decide +kernel
theorem d_Trace_init_5 : decode b_Trace_init 5 = .ok (.bipush 20, 2) := by decide +kernel
theorem d_Trace_init_7 : decode b_Trace_init 7 = .ok (.newarray .int, 2) := by decide +kernel
theorem d_Trace_init_9 : decode b_Trace_init 9 = .ok (.putfield 9, 3) := by decide +kernel
theorem d_Trace_init_12 : decode b_Trace_init 12 = .ok (.aload_n 0, 1) := by decide +kernel
theorem d_Trace_init_13 : decode b_Trace_init 13 = .ok (.iconst 0, 1) := by decide +kernel
theorem d_Trace_init_14 : decode b_Trace_init 14 = .ok (.putfield 15, 3) := by decide +kernel
theorem d_Trace_init_17 : decode b_Trace_init 17 = .ok (.return_, 1) := by decide +kernel
theorem d_Trace_begin_0 : decode b_Trace_begin 0 = .ok (.aload_n 0, 1) := by decide +kernel
theorem d_Trace_begin_1 : decode b_Trace_begin 1 = .ok (.getfield 15, 3) := by decide +kernel
theorem d_Trace_begin_4 : decode b_Trace_begin 4 = .ok (.bipush 20, 2) := by decide +kernel
theorem d_Trace_begin_6 : decode b_Trace_begin 6 = .ok (.if_icmp .ge 13, 3) := by decide +kernel
theorem d_Trace_begin_9 : decode b_Trace_begin 9 = .ok (.aload_n 0, 1) := by decide +kernel
theorem d_Trace_begin_10 : decode b_Trace_begin 10 = .ok (.getfield 9, 3) := by decide +kernel
theorem d_Trace_begin_13 : decode b_Trace_begin 13 = .ok (.aload_n 0, 1) := by decide +kernel
theorem d_Trace_begin_14 : decode b_Trace_begin 14 = .ok (.getfield 15, 3) := by decide +kernel
theorem d_Trace_begin_17 : decode b_Trace_begin 17 = .ok (.iload_n 1, 1) := by decide +kernel
theorem d_Trace_begin_18 : decode b_Trace_begin 18 = .ok (.iastore, 1) := by decide +kernel
theorem d_Trace_begin_19 : decode b_Trace_begin 19 = .ok (.aload_n 0, 1) := by decide +kernel
theorem d_Trace_begin_20 : decode b_Trace_begin 20 = .ok (.dup, 1) := by decide +kernel
theorem d_Trace_begin_21 : decode b_Trace_begin 21 = .ok (.getfield 15, 3) := by decide +kernel
theorem d_Trace_begin_24 : decode b_Trace_begin 24 = .ok (.iconst 1, 1) := by decide +kernel
theorem d_Trace_begin_25 : decode b_Trace_begin 25 = .ok (.iadd, 1) := by decide +kernel
theorem d_Trace_begin_26 : decode b_Trace_begin 26 = .ok (.putfield 15, 3) := by decide +kernel
theorem d_Trace_begin_29 : decode b_Trace_begin 29 = .ok (.return_, 1) := by decide +kernel
theorem d_Person_init_0 : decode b_Person_init 0 = .ok (.aload_n 0, 1) := by decide +kernel
theorem d_Person_init_1 : decode b_Person_init 1 = .ok (.invokespecial 5, 3) := by decide +kernel
theorem d_Person_init_4 : decode b_Person_init 4 = .ok (.aload_n 0, 1) := by decide +kernel
theorem d_Person_init_5 : decode b_Person_init 5 = .ok (.sipush 140, 3) := by decide +kernel
theorem d_Person_init_8 : decode b_Person_init 8 = .ok (.newarray .int, 2) := by decide +kernel
theorem d_Person_init_10 : decode b_Person_init 10 = .ok (.putfield 13, 3) := by decide +kernel
theorem d_Person_init_13 : decode b_Person_init 13 = .ok (.aload_n 0, 1) := by decide +kernel
theorem d_Person_init_14 : decode b_Person_init 14 = .ok (.aconst_null, 1) := by decide +kernel
theorem d_Person_init_15 : decode b_Person_init 15 = .ok (.putfield 17, 3) := by decide +kernel
theorem d_Person_init_18 : decode b_Person_init 18 = .ok (.aload_n 0, 1) := by decide +kernel
theorem d_Person_init_19 : decode b_Person_init 19 = .ok (.iload_n 1, 1) := by decide +kernel
theorem d_Person_init_20 : decode b_Person_init 20 = .ok (.putfield 21, 3) := by decide +kernel
theorem d_Person_init_23 : decode b_Person_init 23 = .ok (.aload_n 0, 1) := by decide +kernel
theorem d_Person_init_24 : decode b_Person_init 24 = .ok (.iload_n 2, 1) := by decide +kernel
theorem d_Person_init_25 : decode b_Person_init 25 = .ok (.putfield 25, 3) := by decide +kernel
theorem d_Person_init_28 : decode b_Person_init 28 = .ok (.return_, 1) := by decide +kernel
theorem d_Person_kind_0 : decode b_Person_kind 0 = .ok (.iconst 0, 1) := by decide +kernel
theorem d_Person_kind_1 : decode b_Person_kind 1 = .ok (.ireturn, 1) := by decide +kernel
theorem d_Person_taken_0 : decode b_Person_taken 0 = .ok (.iconst 0, 1) := by decide +kernel
theorem d_Person_taken_1 : decode b_Person_taken 1 = .ok (.ireturn, 1) := by decide +kernel
theorem d_Person_rashness_0 : decode b_Person_rashness 0 = .ok (.iconst 0, 1) := by decide +kernel
theorem d_Person_rashness_1 : decode b_Person_rashness 1 = .ok (.ireturn, 1) := by decide +kernel
theorem d_Person_beliefNext_0 : decode b_Person_beliefNext 0 = .ok (.aload_n 1, 1) := by decide +kernel
theorem d_Person_beliefNext_1 : decode b_Person_beliefNext 1 = .ok (.getfield 28, 3) := by decide +kernel
theorem d_Person_beliefNext_4 : decode b_Person_beliefNext 4 = .ok (.aload_n 0, 1) := by decide +kernel
theorem d_Person_beliefNext_5 : decode b_Person_beliefNext 5 = .ok (.getfield 21, 3) := by decide +kernel
theorem d_Person_beliefNext_8 : decode b_Person_beliefNext 8 = .ok (.iaload, 1) := by decide +kernel
theorem d_Person_beliefNext_9 : decode b_Person_beliefNext 9 = .ok (.ireturn, 1) := by decide +kernel
theorem d_Person_margin_0 : decode b_Person_margin 0 = .ok (.aload_n 0, 1) := by decide +kernel
theorem d_Person_margin_1 : decode b_Person_margin 1 = .ok (.getfield 17, 3) := by decide +kernel
theorem d_Person_margin_4 : decode b_Person_margin 4 = .ok (.aload_n 1, 1) := by decide +kernel
theorem d_Person_margin_5 : decode b_Person_margin 5 = .ok (.getfield 33, 3) := by decide +kernel
theorem d_Person_margin_8 : decode b_Person_margin 8 = .ok (.if_acmp .eq 20, 3) := by decide +kernel
theorem d_Person_margin_11 : decode b_Person_margin 11 = .ok (.aload_n 0, 1) := by decide +kernel
theorem d_Person_margin_12 : decode b_Person_margin 12 = .ok (.getfield 13, 3) := by decide +kernel
theorem d_Person_margin_15 : decode b_Person_margin 15 = .ok (.ldc 36, 2) := by decide +kernel
theorem d_Person_margin_17 : decode b_Person_margin 17 = .ok (.invokestatic 37, 3) := by decide +kernel
theorem d_Person_margin_20 : decode b_Person_margin 20 = .ok (.aload_n 0, 1) := by decide +kernel
theorem d_Person_margin_21 : decode b_Person_margin 21 = .ok (.aload_n 1, 1) := by decide +kernel
theorem d_Person_margin_22 : decode b_Person_margin 22 = .ok (.getfield 33, 3) := by decide +kernel
theorem d_Person_margin_25 : decode b_Person_margin 25 = .ok (.putfield 17, 3) := by decide +kernel
theorem d_Person_margin_28 : decode b_Person_margin 28 = .ok (.aload_n 1, 1) := by decide +kernel
theorem d_Person_margin_29 : decode b_Person_margin 29 = .ok (.getfield 43, 3) := by decide +kernel
theorem d_Person_margin_32 : decode b_Person_margin 32 = .ok (.aload_n 0, 1) := by decide +kernel
theorem d_Person_margin_33 : decode b_Person_margin 33 = .ok (.getfield 21, 3) := by decide +kernel
theorem d_Person_margin_36 : decode b_Person_margin 36 = .ok (.iaload, 1) := by decide +kernel
theorem d_Person_margin_37 : decode b_Person_margin 37 = .ok (.istore_n 2, 1) := by decide +kernel
theorem d_Person_margin_38 : decode b_Person_margin 38 = .ok (.aload_n 1, 1) := by decide +kernel
theorem d_Person_margin_39 : decode b_Person_margin 39 = .ok (.getfield 46, 3) := by decide +kernel
theorem d_Person_margin_42 : decode b_Person_margin 42 = .ok (.bipush 7, 2) := by decide +kernel
theorem d_Person_margin_44 : decode b_Person_margin 44 = .ok (.irem, 1) := by decide +kernel
theorem d_Person_margin_45 : decode b_Person_margin 45 = .ok (.istore_n 3, 1) := by decide +kernel
theorem d_Person_margin_46 : decode b_Person_margin 46 = .ok (.iload_n 2, 1) := by decide +kernel
theorem d_Person_margin_47 : decode b_Person_margin 47 = .ok (.bipush 7, 2) := by decide +kernel
theorem d_Person_margin_49 : decode b_Person_margin 49 = .ok (.imul, 1) := by decide +kernel
theorem d_Person_margin_50 : decode b_Person_margin 50 = .ok (.iload_n 3, 1) := by decide +kernel
theorem d_Person_margin_51 : decode b_Person_margin 51 = .ok (.iadd, 1) := by decide +kernel
theorem d_Person_margin_52 : decode b_Person_margin 52 = .ok (.bipush 10, 2) := by decide +kernel
theorem d_Person_margin_54 : decode b_Person_margin 54 = .ok (.imul, 1) := by decide +kernel
theorem d_Person_margin_55 : decode b_Person_margin 55 = .ok (.aload_n 1, 1) := by decide +kernel
theorem d_Person_margin_56 : decode b_Person_margin 56 = .ok (.getfield 49, 3) := by decide +kernel
theorem d_Person_margin_59 : decode b_Person_margin 59 = .ok (.iadd, 1) := by decide +kernel
theorem d_Person_margin_60 : decode b_Person_margin 60 = .ok (.istore 4, 2) := by decide +kernel
theorem d_Person_margin_62 : decode b_Person_margin 62 = .ok (.aload_n 0, 1) := by decide +kernel
theorem d_Person_margin_63 : decode b_Person_margin 63 = .ok (.getfield 13, 3) := by decide +kernel
theorem d_Person_margin_66 : decode b_Person_margin 66 = .ok (.iload 4, 2) := by decide +kernel
theorem d_Person_margin_68 : decode b_Person_margin 68 = .ok (.iaload, 1) := by decide +kernel
theorem d_Person_margin_69 : decode b_Person_margin 69 = .ok (.ldc 36, 2) := by decide +kernel
theorem d_Person_margin_71 : decode b_Person_margin 71 = .ok (.if_icmp .ne 29, 3) := by decide +kernel
theorem d_Person_margin_74 : decode b_Person_margin 74 = .ok (.aload_n 0, 1) := by decide +kernel
theorem d_Person_margin_75 : decode b_Person_margin 75 = .ok (.getfield 13, 3) := by decide +kernel
theorem d_Person_margin_78 : decode b_Person_margin 78 = .ok (.iload 4, 2) := by decide +kernel
theorem d_Person_margin_80 : decode b_Person_margin 80 = .ok (.aload_n 1, 1) := by decide +kernel
theorem d_Person_margin_81 : decode b_Person_margin 81 = .ok (.getfield 33, 3) := by decide +kernel
theorem d_Person_margin_84 : decode b_Person_margin 84 = .ok (.aload_n 0, 1) := by decide +kernel
theorem d_Person_margin_85 : decode b_Person_margin 85 = .ok (.iload_n 2, 1) := by decide +kernel
theorem d_Person_margin_86 : decode b_Person_margin 86 = .ok (.iload_n 3, 1) := by decide +kernel
theorem d_Person_margin_87 : decode b_Person_margin 87 = .ok (.aload_n 1, 1) := by decide +kernel
theorem d_Person_margin_88 : decode b_Person_margin 88 = .ok (.getfield 49, 3) := by decide +kernel
theorem d_Person_margin_91 : decode b_Person_margin 91 = .ok (.invokevirtual 52, 3) := by decide +kernel
theorem d_Person_margin_94 : decode b_Person_margin 94 = .ok (.aload_n 0, 1) := by decide +kernel
theorem d_Person_margin_95 : decode b_Person_margin 95 = .ok (.invokevirtual 58, 3) := by decide +kernel
theorem d_Person_margin_98 : decode b_Person_margin 98 = .ok (.isub, 1) := by decide +kernel
theorem d_Person_margin_99 : decode b_Person_margin 99 = .ok (.iastore, 1) := by decide +kernel
theorem d_Person_margin_100 : decode b_Person_margin 100 = .ok (.aload_n 0, 1) := by decide +kernel
theorem d_Person_margin_101 : decode b_Person_margin 101 = .ok (.getfield 13, 3) := by decide +kernel
theorem d_Person_margin_104 : decode b_Person_margin 104 = .ok (.iload 4, 2) := by decide +kernel
theorem d_Person_margin_106 : decode b_Person_margin 106 = .ok (.iaload, 1) := by decide +kernel
theorem d_Person_margin_107 : decode b_Person_margin 107 = .ok (.ireturn, 1) := by decide +kernel
theorem d_Person_looks_0 : decode b_Person_looks 0 = .ok (.aload_n 1, 1) := by decide +kernel
theorem d_Person_looks_1 : decode b_Person_looks 1 = .ok (.iconst 1, 1) := by decide +kernel
theorem d_Person_looks_2 : decode b_Person_looks 2 = .ok (.invokevirtual 62, 3) := by decide +kernel
theorem d_Person_looks_5 : decode b_Person_looks 5 = .ok (.iload_n 2, 1) := by decide +kernel
theorem d_Person_looks_6 : decode b_Person_looks 6 = .ok (.aload_n 0, 1) := by decide +kernel
theorem d_Person_looks_7 : decode b_Person_looks 7 = .ok (.getfield 21, 3) := by decide +kernel
theorem d_Person_looks_10 : decode b_Person_looks 10 = .ok (.iadd, 1) := by decide +kernel
theorem d_Person_looks_11 : decode b_Person_looks 11 = .ok (.ireturn, 1) := by decide +kernel
theorem d_Person_goes_0 : decode b_Person_goes 0 = .ok (.aload_n 1, 1) := by decide +kernel
theorem d_Person_goes_1 : decode b_Person_goes 1 = .ok (.iconst 2, 1) := by decide +kernel
theorem d_Person_goes_2 : decode b_Person_goes 2 = .ok (.invokevirtual 62, 3) := by decide +kernel
theorem d_Person_goes_5 : decode b_Person_goes 5 = .ok (.aload_n 0, 1) := by decide +kernel
theorem d_Person_goes_6 : decode b_Person_goes 6 = .ok (.aload_n 1, 1) := by decide +kernel
theorem d_Person_goes_7 : decode b_Person_goes 7 = .ok (.iload_n 2, 1) := by decide +kernel
theorem d_Person_goes_8 : decode b_Person_goes 8 = .ok (.invokevirtual 68, 3) := by decide +kernel
theorem d_Person_goes_11 : decode b_Person_goes 11 = .ok (.aload_n 0, 1) := by decide +kernel
theorem d_Person_goes_12 : decode b_Person_goes 12 = .ok (.getfield 25, 3) := by decide +kernel
theorem d_Person_goes_15 : decode b_Person_goes 15 = .ok (.isub, 1) := by decide +kernel
theorem d_Person_goes_16 : decode b_Person_goes 16 = .ok (.ireturn, 1) := by decide +kernel
theorem d_Person_tells_0 : decode b_Person_tells 0 = .ok (.aload_n 1, 1) := by decide +kernel
theorem d_Person_tells_1 : decode b_Person_tells 1 = .ok (.iconst 3, 1) := by decide +kernel
theorem d_Person_tells_2 : decode b_Person_tells 2 = .ok (.invokevirtual 62, 3) := by decide +kernel
theorem d_Person_tells_5 : decode b_Person_tells 5 = .ok (.aload_n 0, 1) := by decide +kernel
theorem d_Person_tells_6 : decode b_Person_tells 6 = .ok (.aload_n 1, 1) := by decide +kernel
theorem d_Person_tells_7 : decode b_Person_tells 7 = .ok (.iload_n 2, 1) := by decide +kernel
theorem d_Person_tells_8 : decode b_Person_tells 8 = .ok (.invokevirtual 72, 3) := by decide +kernel
theorem d_Person_tells_11 : decode b_Person_tells 11 = .ok (.iconst 2, 1) := by decide +kernel
theorem d_Person_tells_12 : decode b_Person_tells 12 = .ok (.imul, 1) := by decide +kernel
theorem d_Person_tells_13 : decode b_Person_tells 13 = .ok (.ireturn, 1) := by decide +kernel
theorem d_Learning_init_0 : decode b_Learning_init 0 = .ok (.aload_n 0, 1) := by decide +kernel
theorem d_Learning_init_1 : decode b_Learning_init 1 = .ok (.iload_n 1, 1) := by decide +kernel
theorem d_Learning_init_2 : decode b_Learning_init 2 = .ok (.iload_n 2, 1) := by decide +kernel
theorem d_Learning_init_3 : decode b_Learning_init 3 = .ok (.invokespecial 1, 3) := by decide +kernel
theorem d_Learning_init_6 : decode b_Learning_init 6 = .ok (.return_, 1) := by decide +kernel
theorem d_Learning_kind_0 : decode b_Learning_kind 0 = .ok (.iconst 1, 1) := by decide +kernel
theorem d_Learning_kind_1 : decode b_Learning_kind 1 = .ok (.ireturn, 1) := by decide +kernel
theorem d_Learning_taken_0 : decode b_Learning_taken 0 = .ok (.aload_n 1, 1) := by decide +kernel
theorem d_Learning_taken_1 : decode b_Learning_taken 1 = .ok (.getfield 7, 3) := by decide +kernel
theorem d_Learning_taken_4 : decode b_Learning_taken 4 = .ok (.aload_n 0, 1) := by decide +kernel
theorem d_Learning_taken_5 : decode b_Learning_taken 5 = .ok (.getfield 13, 3) := by decide +kernel
theorem d_Learning_taken_8 : decode b_Learning_taken 8 = .ok (.iaload, 1) := by decide +kernel
theorem d_Learning_taken_9 : decode b_Learning_taken 9 = .ok (.ireturn, 1) := by decide +kernel
theorem d_Learning_beliefNext_0 : decode b_Learning_beliefNext 0 = .ok (.aload_n 1, 1) := by decide +kernel
theorem d_Learning_beliefNext_1 : decode b_Learning_beliefNext 1 = .ok (.getfield 19, 3) := by decide +kernel
theorem d_Learning_beliefNext_4 : decode b_Learning_beliefNext 4 = .ok (.aload_n 1, 1) := by decide +kernel
theorem d_Learning_beliefNext_5 : decode b_Learning_beliefNext 5 = .ok (.getfield 22, 3) := by decide +kernel
theorem d_Learning_beliefNext_8 : decode b_Learning_beliefNext 8 = .ok (.aload_n 0, 1) := by decide +kernel
theorem d_Learning_beliefNext_9 : decode b_Learning_beliefNext 9 = .ok (.getfield 13, 3) := by decide +kernel
theorem d_Learning_beliefNext_12 : decode b_Learning_beliefNext 12 = .ok (.iaload, 1) := by decide +kernel
theorem d_Learning_beliefNext_13 : decode b_Learning_beliefNext 13 = .ok (.iaload, 1) := by decide +kernel
theorem d_Learning_beliefNext_14 : decode b_Learning_beliefNext 14 = .ok (.aload_n 1, 1) := by decide +kernel
theorem d_Learning_beliefNext_15 : decode b_Learning_beliefNext 15 = .ok (.getfield 7, 3) := by decide +kernel
theorem d_Learning_beliefNext_18 : decode b_Learning_beliefNext 18 = .ok (.aload_n 0, 1) := by decide +kernel
theorem d_Learning_beliefNext_19 : decode b_Learning_beliefNext 19 = .ok (.getfield 13, 3) := by decide +kernel
theorem d_Learning_beliefNext_22 : decode b_Learning_beliefNext 22 = .ok (.iaload, 1) := by decide +kernel
theorem d_Learning_beliefNext_23 : decode b_Learning_beliefNext 23 = .ok (.isub, 1) := by decide +kernel
theorem d_Learning_beliefNext_24 : decode b_Learning_beliefNext 24 = .ok (.istore_n 2, 1) := by decide +kernel
theorem d_Learning_beliefNext_25 : decode b_Learning_beliefNext 25 = .ok (.aload_n 1, 1) := by decide +kernel
theorem d_Learning_beliefNext_26 : decode b_Learning_beliefNext 26 = .ok (.getfield 7, 3) := by decide +kernel
theorem d_Learning_beliefNext_29 : decode b_Learning_beliefNext 29 = .ok (.aload_n 0, 1) := by decide +kernel
theorem d_Learning_beliefNext_30 : decode b_Learning_beliefNext 30 = .ok (.getfield 13, 3) := by decide +kernel
theorem d_Learning_beliefNext_33 : decode b_Learning_beliefNext 33 = .ok (.iaload, 1) := by decide +kernel
theorem d_Learning_beliefNext_34 : decode b_Learning_beliefNext 34 = .ok (.iload_n 2, 1) := by decide +kernel
theorem d_Learning_beliefNext_35 : decode b_Learning_beliefNext 35 = .ok (.aload_n 0, 1) := by decide +kernel
theorem d_Learning_beliefNext_36 : decode b_Learning_beliefNext 36 = .ok (.getfield 25, 3) := by decide +kernel
theorem d_Learning_beliefNext_39 : decode b_Learning_beliefNext 39 = .ok (.imul, 1) := by decide +kernel
theorem d_Learning_beliefNext_40 : decode b_Learning_beliefNext 40 = .ok (.bipush 10, 2) := by decide +kernel
theorem d_Learning_beliefNext_42 : decode b_Learning_beliefNext 42 = .ok (.idiv, 1) := by decide +kernel
theorem d_Learning_beliefNext_43 : decode b_Learning_beliefNext 43 = .ok (.iadd, 1) := by decide +kernel
theorem d_Learning_beliefNext_44 : decode b_Learning_beliefNext 44 = .ok (.ireturn, 1) := by decide +kernel
theorem d_Learning_looks_0 : decode b_Learning_looks 0 = .ok (.aload_n 1, 1) := by decide +kernel
theorem d_Learning_looks_1 : decode b_Learning_looks 1 = .ok (.bipush 11, 2) := by decide +kernel
theorem d_Learning_looks_3 : decode b_Learning_looks 3 = .ok (.invokevirtual 28, 3) := by decide +kernel
theorem d_Learning_looks_6 : decode b_Learning_looks 6 = .ok (.aload_n 0, 1) := by decide +kernel
theorem d_Learning_looks_7 : decode b_Learning_looks 7 = .ok (.aload_n 1, 1) := by decide +kernel
theorem d_Learning_looks_8 : decode b_Learning_looks 8 = .ok (.iload_n 2, 1) := by decide +kernel
theorem d_Learning_looks_9 : decode b_Learning_looks 9 = .ok (.iconst 3, 1) := by decide +kernel
theorem d_Learning_looks_10 : decode b_Learning_looks 10 = .ok (.imul, 1) := by decide +kernel
theorem d_Learning_looks_11 : decode b_Learning_looks 11 = .ok (.invokespecial 34, 3) := by decide +kernel
theorem d_Learning_looks_14 : decode b_Learning_looks 14 = .ok (.ireturn, 1) := by decide +kernel
theorem d_Off_init_0 : decode b_Off_init 0 = .ok (.aload_n 0, 1) := by decide +kernel
theorem d_Off_init_1 : decode b_Off_init 1 = .ok (.iload_n 1, 1) := by decide +kernel
theorem d_Off_init_2 : decode b_Off_init 2 = .ok (.iload_n 2, 1) := by decide +kernel
theorem d_Off_init_3 : decode b_Off_init 3 = .ok (.invokespecial 1, 3) := by decide +kernel
theorem d_Off_init_6 : decode b_Off_init 6 = .ok (.return_, 1) := by decide +kernel
theorem d_Off_kind_0 : decode b_Off_kind 0 = .ok (.iconst 2, 1) := by decide +kernel
theorem d_Off_kind_1 : decode b_Off_kind 1 = .ok (.ireturn, 1) := by decide +kernel
theorem d_Off_taken_0 : decode b_Off_taken 0 = .ok (.aload_n 1, 1) := by decide +kernel
theorem d_Off_taken_1 : decode b_Off_taken 1 = .ok (.getfield 7, 3) := by decide +kernel
theorem d_Off_taken_4 : decode b_Off_taken 4 = .ok (.aload_n 0, 1) := by decide +kernel
theorem d_Off_taken_5 : decode b_Off_taken 5 = .ok (.getfield 13, 3) := by decide +kernel
theorem d_Off_taken_8 : decode b_Off_taken 8 = .ok (.iaload, 1) := by decide +kernel
theorem d_Off_taken_9 : decode b_Off_taken 9 = .ok (.aload_n 0, 1) := by decide +kernel
theorem d_Off_taken_10 : decode b_Off_taken 10 = .ok (.getfield 19, 3) := by decide +kernel
theorem d_Off_taken_13 : decode b_Off_taken 13 = .ok (.iadd, 1) := by decide +kernel
theorem d_Off_taken_14 : decode b_Off_taken 14 = .ok (.ireturn, 1) := by decide +kernel
theorem d_Off_goes_0 : decode b_Off_goes 0 = .ok (.aload_n 1, 1) := by decide +kernel
theorem d_Off_goes_1 : decode b_Off_goes 1 = .ok (.bipush 21, 2) := by decide +kernel
theorem d_Off_goes_3 : decode b_Off_goes 3 = .ok (.invokevirtual 22, 3) := by decide +kernel
theorem d_Off_goes_6 : decode b_Off_goes 6 = .ok (.aload_n 0, 1) := by decide +kernel
theorem d_Off_goes_7 : decode b_Off_goes 7 = .ok (.aload_n 1, 1) := by decide +kernel
theorem d_Off_goes_8 : decode b_Off_goes 8 = .ok (.iload_n 2, 1) := by decide +kernel
theorem d_Off_goes_9 : decode b_Off_goes 9 = .ok (.invokespecial 28, 3) := by decide +kernel
theorem d_Off_goes_12 : decode b_Off_goes 12 = .ok (.ineg, 1) := by decide +kernel
theorem d_Off_goes_13 : decode b_Off_goes 13 = .ok (.ireturn, 1) := by decide +kernel
theorem d_Rash_init_0 : decode b_Rash_init 0 = .ok (.aload_n 0, 1) := by decide +kernel
theorem d_Rash_init_1 : decode b_Rash_init 1 = .ok (.iload_n 1, 1) := by decide +kernel
theorem d_Rash_init_2 : decode b_Rash_init 2 = .ok (.iload_n 2, 1) := by decide +kernel
theorem d_Rash_init_3 : decode b_Rash_init 3 = .ok (.invokespecial 1, 3) := by decide +kernel
theorem d_Rash_init_6 : decode b_Rash_init 6 = .ok (.return_, 1) := by decide +kernel
theorem d_Rash_kind_0 : decode b_Rash_kind 0 = .ok (.iconst 3, 1) := by decide +kernel
theorem d_Rash_kind_1 : decode b_Rash_kind 1 = .ok (.ireturn, 1) := by decide +kernel
theorem d_Rash_rashness_0 : decode b_Rash_rashness 0 = .ok (.aload_n 0, 1) := by decide +kernel
theorem d_Rash_rashness_1 : decode b_Rash_rashness 1 = .ok (.getfield 7, 3) := by decide +kernel
theorem d_Rash_rashness_4 : decode b_Rash_rashness 4 = .ok (.ireturn, 1) := by decide +kernel
theorem d_Rash_tells_0 : decode b_Rash_tells 0 = .ok (.aload_n 1, 1) := by decide +kernel
theorem d_Rash_tells_1 : decode b_Rash_tells 1 = .ok (.bipush 31, 2) := by decide +kernel
theorem d_Rash_tells_3 : decode b_Rash_tells 3 = .ok (.invokevirtual 13, 3) := by decide +kernel
theorem d_Rash_tells_6 : decode b_Rash_tells 6 = .ok (.aload_n 0, 1) := by decide +kernel
theorem d_Rash_tells_7 : decode b_Rash_tells 7 = .ok (.aload_n 1, 1) := by decide +kernel
theorem d_Rash_tells_8 : decode b_Rash_tells 8 = .ok (.iload_n 2, 1) := by decide +kernel
theorem d_Rash_tells_9 : decode b_Rash_tells 9 = .ok (.invokespecial 19, 3) := by decide +kernel
theorem d_Rash_tells_12 : decode b_Rash_tells 12 = .ok (.bipush 7, 2) := by decide +kernel
theorem d_Rash_tells_14 : decode b_Rash_tells 14 = .ok (.ixor, 1) := by decide +kernel
theorem d_Rash_tells_15 : decode b_Rash_tells 15 = .ok (.ireturn, 1) := by decide +kernel
theorem d_Wise_init_0 : decode b_Wise_init 0 = .ok (.aload_n 0, 1) := by decide +kernel
theorem d_Wise_init_1 : decode b_Wise_init 1 = .ok (.iload_n 1, 1) := by decide +kernel
theorem d_Wise_init_2 : decode b_Wise_init 2 = .ok (.iload_n 2, 1) := by decide +kernel
theorem d_Wise_init_3 : decode b_Wise_init 3 = .ok (.invokespecial 1, 3) := by decide +kernel
theorem d_Wise_init_6 : decode b_Wise_init 6 = .ok (.return_, 1) := by decide +kernel
theorem d_Wise_kind_0 : decode b_Wise_kind 0 = .ok (.iconst 4, 1) := by decide +kernel
theorem d_Wise_kind_1 : decode b_Wise_kind 1 = .ok (.ireturn, 1) := by decide +kernel
theorem d_Wise_taken_0 : decode b_Wise_taken 0 = .ok (.aload_n 0, 1) := by decide +kernel
theorem d_Wise_taken_1 : decode b_Wise_taken 1 = .ok (.aload_n 1, 1) := by decide +kernel
theorem d_Wise_taken_2 : decode b_Wise_taken 2 = .ok (.invokespecial 7, 3) := by decide +kernel
theorem d_Wise_taken_5 : decode b_Wise_taken 5 = .ok (.istore_n 2, 1) := by decide +kernel
theorem d_Wise_taken_6 : decode b_Wise_taken 6 = .ok (.aload_n 1, 1) := by decide +kernel
theorem d_Wise_taken_7 : decode b_Wise_taken 7 = .ok (.getfield 11, 3) := by decide +kernel
theorem d_Wise_taken_10 : decode b_Wise_taken 10 = .ok (.iconst 3, 1) := by decide +kernel
theorem d_Wise_taken_11 : decode b_Wise_taken 11 = .ok (.if_icmp .ge 14, 3) := by decide +kernel
theorem d_Wise_taken_14 : decode b_Wise_taken 14 = .ok (.iload_n 2, 1) := by decide +kernel
theorem d_Wise_taken_15 : decode b_Wise_taken 15 = .ok (.aload_n 1, 1) := by decide +kernel
theorem d_Wise_taken_16 : decode b_Wise_taken 16 = .ok (.getfield 17, 3) := by decide +kernel
theorem d_Wise_taken_19 : decode b_Wise_taken 19 = .ok (.iconst 2, 1) := by decide +kernel
theorem d_Wise_taken_20 : decode b_Wise_taken 20 = .ok (.idiv, 1) := by decide +kernel
theorem d_Wise_taken_21 : decode b_Wise_taken 21 = .ok (.iadd, 1) := by decide +kernel
theorem d_Wise_taken_22 : decode b_Wise_taken 22 = .ok (.goto 4, 3) := by decide +kernel
theorem d_Wise_taken_25 : decode b_Wise_taken 25 = .ok (.iload_n 2, 1) := by decide +kernel
theorem d_Wise_taken_26 : decode b_Wise_taken 26 = .ok (.ireturn, 1) := by decide +kernel
theorem d_Wise_tells_0 : decode b_Wise_tells 0 = .ok (.aload_n 1, 1) := by decide +kernel
theorem d_Wise_tells_1 : decode b_Wise_tells 1 = .ok (.bipush 41, 2) := by decide +kernel
theorem d_Wise_tells_3 : decode b_Wise_tells 3 = .ok (.invokevirtual 20, 3) := by decide +kernel
theorem d_Wise_tells_6 : decode b_Wise_tells 6 = .ok (.aload_n 0, 1) := by decide +kernel
theorem d_Wise_tells_7 : decode b_Wise_tells 7 = .ok (.aload_n 1, 1) := by decide +kernel
theorem d_Wise_tells_8 : decode b_Wise_tells 8 = .ok (.iload_n 2, 1) := by decide +kernel
theorem d_Wise_tells_9 : decode b_Wise_tells 9 = .ok (.iconst 1, 1) := by decide +kernel
theorem d_Wise_tells_10 : decode b_Wise_tells 10 = .ok (.isub, 1) := by decide +kernel
theorem d_Wise_tells_11 : decode b_Wise_tells 11 = .ok (.invokespecial 26, 3) := by decide +kernel
theorem d_Wise_tells_14 : decode b_Wise_tells 14 = .ok (.aload_n 0, 1) := by decide +kernel
theorem d_Wise_tells_15 : decode b_Wise_tells 15 = .ok (.aload_n 1, 1) := by decide +kernel
theorem d_Wise_tells_16 : decode b_Wise_tells 16 = .ok (.iconst 2, 1) := by decide +kernel
theorem d_Wise_tells_17 : decode b_Wise_tells 17 = .ok (.invokevirtual 30, 3) := by decide +kernel
theorem d_Wise_tells_20 : decode b_Wise_tells 20 = .ok (.iadd, 1) := by decide +kernel
theorem d_Wise_tells_21 : decode b_Wise_tells 21 = .ok (.ireturn, 1) := by decide +kernel
theorem d_Chance_init_0 : decode b_Chance_init 0 = .ok (.aload_n 0, 1) := by decide +kernel
theorem d_Chance_init_1 : decode b_Chance_init 1 = .ok (.iload_n 1, 1) := by decide +kernel
theorem d_Chance_init_2 : decode b_Chance_init 2 = .ok (.iload_n 2, 1) := by decide +kernel
theorem d_Chance_init_3 : decode b_Chance_init 3 = .ok (.invokespecial 1, 3) := by decide +kernel
theorem d_Chance_init_6 : decode b_Chance_init 6 = .ok (.return_, 1) := by decide +kernel
theorem d_Chance_kind_0 : decode b_Chance_kind 0 = .ok (.iconst 5, 1) := by decide +kernel
theorem d_Chance_kind_1 : decode b_Chance_kind 1 = .ok (.ireturn, 1) := by decide +kernel
theorem d_Chance_taken_0 : decode b_Chance_taken 0 = .ok (.aload_n 0, 1) := by decide +kernel
theorem d_Chance_taken_1 : decode b_Chance_taken 1 = .ok (.aload_n 1, 1) := by decide +kernel
theorem d_Chance_taken_2 : decode b_Chance_taken 2 = .ok (.invokespecial 7, 3) := by decide +kernel
theorem d_Chance_taken_5 : decode b_Chance_taken 5 = .ok (.aload_n 1, 1) := by decide +kernel
theorem d_Chance_taken_6 : decode b_Chance_taken 6 = .ok (.getfield 11, 3) := by decide +kernel
theorem d_Chance_taken_9 : decode b_Chance_taken 9 = .ok (.iconst 0, 1) := by decide +kernel
theorem d_Chance_taken_10 : decode b_Chance_taken 10 = .ok (.iaload, 1) := by decide +kernel
theorem d_Chance_taken_11 : decode b_Chance_taken 11 = .ok (.aload_n 1, 1) := by decide +kernel
theorem d_Chance_taken_12 : decode b_Chance_taken 12 = .ok (.getfield 11, 3) := by decide +kernel
theorem d_Chance_taken_15 : decode b_Chance_taken 15 = .ok (.iconst 1, 1) := by decide +kernel
theorem d_Chance_taken_16 : decode b_Chance_taken 16 = .ok (.iaload, 1) := by decide +kernel
theorem d_Chance_taken_17 : decode b_Chance_taken 17 = .ok (.isub, 1) := by decide +kernel
theorem d_Chance_taken_18 : decode b_Chance_taken 18 = .ok (.invokestatic 17, 3) := by decide +kernel
theorem d_Chance_taken_21 : decode b_Chance_taken 21 = .ok (.iconst 2, 1) := by decide +kernel
theorem d_Chance_taken_22 : decode b_Chance_taken 22 = .ok (.idiv, 1) := by decide +kernel
theorem d_Chance_taken_23 : decode b_Chance_taken 23 = .ok (.isub, 1) := by decide +kernel
theorem d_Chance_taken_24 : decode b_Chance_taken 24 = .ok (.ireturn, 1) := by decide +kernel
theorem d_Chance_looks_0 : decode b_Chance_looks 0 = .ok (.aload_n 1, 1) := by decide +kernel
theorem d_Chance_looks_1 : decode b_Chance_looks 1 = .ok (.bipush 51, 2) := by decide +kernel
theorem d_Chance_looks_3 : decode b_Chance_looks 3 = .ok (.invokevirtual 23, 3) := by decide +kernel
theorem d_Chance_looks_6 : decode b_Chance_looks 6 = .ok (.aload_n 0, 1) := by decide +kernel
theorem d_Chance_looks_7 : decode b_Chance_looks 7 = .ok (.aload_n 1, 1) := by decide +kernel
theorem d_Chance_looks_8 : decode b_Chance_looks 8 = .ok (.iload_n 2, 1) := by decide +kernel
theorem d_Chance_looks_9 : decode b_Chance_looks 9 = .ok (.invokespecial 29, 3) := by decide +kernel
theorem d_Chance_looks_12 : decode b_Chance_looks 12 = .ok (.aload_n 0, 1) := by decide +kernel
theorem d_Chance_looks_13 : decode b_Chance_looks 13 = .ok (.getfield 33, 3) := by decide +kernel
theorem d_Chance_looks_16 : decode b_Chance_looks 16 = .ok (.ixor, 1) := by decide +kernel
theorem d_Chance_looks_17 : decode b_Chance_looks 17 = .ok (.ireturn, 1) := by decide +kernel
theorem d_Told_init_0 : decode b_Told_init 0 = .ok (.aload_n 0, 1) := by decide +kernel
theorem d_Told_init_1 : decode b_Told_init 1 = .ok (.iload_n 1, 1) := by decide +kernel
theorem d_Told_init_2 : decode b_Told_init 2 = .ok (.iload_n 2, 1) := by decide +kernel
theorem d_Told_init_3 : decode b_Told_init 3 = .ok (.invokespecial 3, 3) := by decide +kernel
theorem d_Told_init_6 : decode b_Told_init 6 = .ok (.return_, 1) := by decide +kernel
theorem d_Told_kind_0 : decode b_Told_kind 0 = .ok (.bipush 6, 2) := by decide +kernel
theorem d_Told_kind_2 : decode b_Told_kind 2 = .ok (.ireturn, 1) := by decide +kernel
theorem d_Told_taken_0 : decode b_Told_taken 0 = .ok (.aload_n 1, 1) := by decide +kernel
theorem d_Told_taken_1 : decode b_Told_taken 1 = .ok (.getfield 9, 3) := by decide +kernel
theorem d_Told_taken_4 : decode b_Told_taken 4 = .ok (.aload_n 0, 1) := by decide +kernel
theorem d_Told_taken_5 : decode b_Told_taken 5 = .ok (.getfield 15, 3) := by decide +kernel
theorem d_Told_taken_8 : decode b_Told_taken 8 = .ok (.iconst 4, 1) := by decide +kernel
theorem d_Told_taken_9 : decode b_Told_taken 9 = .ok (.imul, 1) := by decide +kernel
theorem d_Told_taken_10 : decode b_Told_taken 10 = .ok (.aload_n 1, 1) := by decide +kernel
theorem d_Told_taken_11 : decode b_Told_taken 11 = .ok (.getfield 21, 3) := by decide +kernel
theorem d_Told_taken_14 : decode b_Told_taken 14 = .ok (.iconst 4, 1) := by decide +kernel
theorem d_Told_taken_15 : decode b_Told_taken 15 = .ok (.irem, 1) := by decide +kernel
theorem d_Told_taken_16 : decode b_Told_taken 16 = .ok (.iadd, 1) := by decide +kernel
theorem d_Told_taken_17 : decode b_Told_taken 17 = .ok (.iaload, 1) := by decide +kernel
theorem d_Told_taken_18 : decode b_Told_taken 18 = .ok (.ireturn, 1) := by decide +kernel
theorem d_Told_goes_0 : decode b_Told_goes 0 = .ok (.aload_n 1, 1) := by decide +kernel
theorem d_Told_goes_1 : decode b_Told_goes 1 = .ok (.bipush 61, 2) := by decide +kernel
theorem d_Told_goes_3 : decode b_Told_goes 3 = .ok (.invokevirtual 24, 3) := by decide +kernel
theorem d_Told_goes_6 : decode b_Told_goes 6 = .ok (.aload_n 0, 1) := by decide +kernel
theorem d_Told_goes_7 : decode b_Told_goes 7 = .ok (.aload_n 1, 1) := by decide +kernel
theorem d_Told_goes_8 : decode b_Told_goes 8 = .ok (.iload_n 2, 1) := by decide +kernel
theorem d_Told_goes_9 : decode b_Told_goes 9 = .ok (.invokespecial 30, 3) := by decide +kernel
theorem d_Told_goes_12 : decode b_Told_goes 12 = .ok (.aload_n 0, 1) := by decide +kernel
theorem d_Told_goes_13 : decode b_Told_goes 13 = .ok (.getfield 34, 3) := by decide +kernel
theorem d_Told_goes_16 : decode b_Told_goes 16 = .ok (.iadd, 1) := by decide +kernel
theorem d_Told_goes_17 : decode b_Told_goes 17 = .ok (.ireturn, 1) := by decide +kernel
def L_Stat_init_1 (X : WX) (d : Nat) : ST := (spst X (xgR [11] 1 (xr 0)) (xi 3) (xr 2))
def B_Stat_init (X : WX) (d : Nat) : ST := (sSeq (sObj (xr 0)) (sSeq (sputR [11] 0 (xr 0) (xNewI X (rmOf (d + 1) 5 44) (xc 2))) (sSeq (sputR [11] 1 (xr 0) (xNewP X (rmOf (d + 1) 5 44) (xc 6))) (sSeq (sputR [11] 2 (xr 0) (xNewI X (rmOf (d + 1) 5 44) (xc 6))) (sSeq (sputR [11] 3 (xr 0) (xNewI X (rmOf (d + 1) 5 44) (xc 6))) (sSeq (sputR [11] 4 (xr 0) (xNewI X (rmOf (d + 1) 5 44) (xc 24))) (sSeq (sput [11] 6 (xr 0) (xc 0)) (sSeq (sput [11] 7 (xr 0) (xc 0)) (sSeq (sput [11] 8 (xr 0) (xc 0)) (sSeq (sput [11] 9 (xr 0) (xc 0)) (sSeq (sputR [11] 5 (xr 0) (xr 1)) (sSeq (sI 3 (xc 0)) (sSeq (sFor (cLt (xi 3) (xc 6)) (L_Stat_init_1 X d) (sInc 3 1)) sRet)))))))))))))
set_option maxHeartbeats 4000000 in
set_option maxRecDepth 20000 in
theorem F_Stat_init (X : WX) (d : Nat) : FS X "FastClock$State" b_Stat_init 4 (none) true (rmOf (d + 1) 5 44) 0 91 0 0 (B_Stat_init X d) :=
  (s_seq (s_obj (r_aload_n d_Stat_init_0 rfl) (tg 245 (by decide +kernel) rfl) (Nat.le_add_left 1 _) (loc_of (by decide)) d_Stat_init_1) (s_seq (s_putR (Or.inr ⟨_, rfl⟩) (r_aload_n d_Stat_init_4 rfl) (r_newI (r_iconst d_Stat_init_5 (by decide)) d_Stat_init_6) Pi_Stat_9 d_Stat_init_8) (s_seq (s_putR (Or.inr ⟨_, rfl⟩) (r_aload_n d_Stat_init_11 rfl) (r_newP (r_bipush d_Stat_init_12 (by decide)) (tg 246 (by decide +kernel) rfl) d_Stat_init_14) Pi_Stat_17 d_Stat_init_17) (s_seq (s_putR (Or.inr ⟨_, rfl⟩) (r_aload_n d_Stat_init_20 rfl) (r_newI (r_bipush d_Stat_init_21 (by decide)) d_Stat_init_23) Pi_Stat_21 d_Stat_init_25) (s_seq (s_putR (Or.inr ⟨_, rfl⟩) (r_aload_n d_Stat_init_28 rfl) (r_newI (r_bipush d_Stat_init_29 (by decide)) d_Stat_init_31) Pi_Stat_24 d_Stat_init_33) (s_seq (s_putR (Or.inr ⟨_, rfl⟩) (r_aload_n d_Stat_init_36 rfl) (r_newI (r_bipush d_Stat_init_37 (by decide)) d_Stat_init_39) Pi_Stat_27 d_Stat_init_41) (s_seq (s_put (r_aload_n d_Stat_init_44 rfl) (r_iconst d_Stat_init_45 (by decide)) Pi_Stat_30 d_Stat_init_46) (s_seq (s_put (r_aload_n d_Stat_init_49 rfl) (r_iconst d_Stat_init_50 (by decide)) Pi_Stat_34 d_Stat_init_51) (s_seq (s_put (r_aload_n d_Stat_init_54 rfl) (r_iconst d_Stat_init_55 (by decide)) Pi_Stat_37 d_Stat_init_56) (s_seq (s_put (r_aload_n d_Stat_init_59 rfl) (r_iconst d_Stat_init_60 (by decide)) Pi_Stat_40 d_Stat_init_61) (s_seq (s_putR (Or.inl ⟨_, rfl⟩) (r_aload_n d_Stat_init_64 rfl) (r_aload_n d_Stat_init_65 rfl) Pi_Stat_43 d_Stat_init_66) (s_seq (s_I_n (r_iconst d_Stat_init_69 (by decide)) (by decide) d_Stat_init_70 rfl) (s_seq (s_for (x1 := 0) (x2 := 0) (c_lt_f (r_iload_n d_Stat_init_71 rfl) (r_bipush d_Stat_init_72 (by decide)) d_Stat_init_74 (by decide)) (s_pst (r_gR (r_aload_n d_Stat_init_77 rfl) G_Stat_17 d_Stat_init_78) (r_iload_n d_Stat_init_81 rfl) (r_aload_n d_Stat_init_82 rfl) d_Stat_init_83) (s_inc (by decide) d_Stat_init_84 (by decide)) d_Stat_init_87 (by decide)) (s_ret rfl d_Stat_init_90))))))))))))))
def L_Stat_copyFrom_1 (X : WX) (d : Nat) : ST := (spst X (xgR [11] 1 (xr 0)) (xi 2) (xpld X (xgR [11] 1 (xr 1)) (xi 2)))
def B_Stat_copyFrom (X : WX) (d : Nat) : ST := (sSeq (sCopy X (xgR [11] 0 (xr 1)) (xc 0) (xgR [11] 0 (xr 0)) (xc 0) (xc 2)) (sSeq (sCopy X (xgR [11] 2 (xr 1)) (xc 0) (xgR [11] 2 (xr 0)) (xc 0) (xc 6)) (sSeq (sCopy X (xgR [11] 3 (xr 1)) (xc 0) (xgR [11] 3 (xr 0)) (xc 0) (xc 6)) (sSeq (sCopy X (xgR [11] 4 (xr 1)) (xc 0) (xgR [11] 4 (xr 0)) (xc 0) (xc 24)) (sSeq (sI 2 (xc 0)) (sSeq (sFor (cLt (xi 2) (xc 6)) (L_Stat_copyFrom_1 X d) (sInc 2 1)) (sSeq (sputR [11] 5 (xr 0) (xgR [11] 5 (xr 1))) (sSeq (sput [11] 6 (xr 0) (xg [11] 6 (xr 1))) (sSeq (sput [11] 7 (xr 0) (xg [11] 7 (xr 1))) (sSeq (sput [11] 8 (xr 0) (xg [11] 8 (xr 1))) (sSeq (sput [11] 9 (xr 0) (xg [11] 9 (xr 1))) sRet)))))))))))
set_option maxHeartbeats 4000000 in
set_option maxRecDepth 20000 in
theorem F_Stat_copyFrom (X : WX) (d : Nat) : FS X "FastClock$State" b_Stat_copyFrom 3 (none) false (rmOf (d + 1) 0 0) 0 126 0 0 (B_Stat_copyFrom X d) :=
  (s_seq (s_copy (r_gR (r_aload_n d_Stat_copyFrom_0 rfl) G_Stat_9 d_Stat_copyFrom_1) (r_iconst d_Stat_copyFrom_4 (by decide)) (r_gR (r_aload_n d_Stat_copyFrom_5 rfl) G_Stat_9 d_Stat_copyFrom_6) (r_iconst d_Stat_copyFrom_9 (by decide)) (r_iconst d_Stat_copyFrom_10 (by decide)) (tg 747 (by decide +kernel) rfl) (Nat.le_add_left 1 _) (loc_of (by decide)) d_Stat_copyFrom_11) (s_seq (s_copy (r_gR (r_aload_n d_Stat_copyFrom_14 rfl) G_Stat_21 d_Stat_copyFrom_15) (r_iconst d_Stat_copyFrom_18 (by decide)) (r_gR (r_aload_n d_Stat_copyFrom_19 rfl) G_Stat_21 d_Stat_copyFrom_20) (r_iconst d_Stat_copyFrom_23 (by decide)) (r_bipush d_Stat_copyFrom_24 (by decide)) (tg 747 (by decide +kernel) rfl) (Nat.le_add_left 1 _) (loc_of (by decide)) d_Stat_copyFrom_26) (s_seq (s_copy (r_gR (r_aload_n d_Stat_copyFrom_29 rfl) G_Stat_24 d_Stat_copyFrom_30) (r_iconst d_Stat_copyFrom_33 (by decide)) (r_gR (r_aload_n d_Stat_copyFrom_34 rfl) G_Stat_24 d_Stat_copyFrom_35) (r_iconst d_Stat_copyFrom_38 (by decide)) (r_bipush d_Stat_copyFrom_39 (by decide)) (tg 747 (by decide +kernel) rfl) (Nat.le_add_left 1 _) (loc_of (by decide)) d_Stat_copyFrom_41) (s_seq (s_copy (r_gR (r_aload_n d_Stat_copyFrom_44 rfl) G_Stat_27 d_Stat_copyFrom_45) (r_iconst d_Stat_copyFrom_48 (by decide)) (r_gR (r_aload_n d_Stat_copyFrom_49 rfl) G_Stat_27 d_Stat_copyFrom_50) (r_iconst d_Stat_copyFrom_53 (by decide)) (r_bipush d_Stat_copyFrom_54 (by decide)) (tg 747 (by decide +kernel) rfl) (Nat.le_add_left 1 _) (loc_of (by decide)) d_Stat_copyFrom_56) (s_seq (s_I_n (r_iconst d_Stat_copyFrom_59 (by decide)) (by decide) d_Stat_copyFrom_60 rfl) (s_seq (s_for (x1 := 0) (x2 := 0) (c_lt_f (r_iload_n d_Stat_copyFrom_61 rfl) (r_bipush d_Stat_copyFrom_62 (by decide)) d_Stat_copyFrom_64 (by decide)) (s_pst (r_gR (r_aload_n d_Stat_copyFrom_67 rfl) G_Stat_17 d_Stat_copyFrom_68) (r_iload_n d_Stat_copyFrom_71 rfl) (r_pld (r_gR (r_aload_n d_Stat_copyFrom_72 rfl) G_Stat_17 d_Stat_copyFrom_73) (r_iload_n d_Stat_copyFrom_76 rfl) d_Stat_copyFrom_77) d_Stat_copyFrom_78) (s_inc (by decide) d_Stat_copyFrom_79 (by decide)) d_Stat_copyFrom_82 (by decide)) (s_seq (s_putR (Or.inl ⟨_, rfl⟩) (r_aload_n d_Stat_copyFrom_85 rfl) (r_gR (r_aload_n d_Stat_copyFrom_86 rfl) G_Stat_43 d_Stat_copyFrom_87) P_Stat_43 d_Stat_copyFrom_90) (s_seq (s_put (r_aload_n d_Stat_copyFrom_93 rfl) (r_g (r_aload_n d_Stat_copyFrom_94 rfl) G_Stat_30 d_Stat_copyFrom_95) P_Stat_30 d_Stat_copyFrom_98) (s_seq (s_put (r_aload_n d_Stat_copyFrom_101 rfl) (r_g (r_aload_n d_Stat_copyFrom_102 rfl) G_Stat_34 d_Stat_copyFrom_103) P_Stat_34 d_Stat_copyFrom_106) (s_seq (s_put (r_aload_n d_Stat_copyFrom_109 rfl) (r_g (r_aload_n d_Stat_copyFrom_110 rfl) G_Stat_37 d_Stat_copyFrom_111) P_Stat_37 d_Stat_copyFrom_114) (s_seq (s_put (r_aload_n d_Stat_copyFrom_117 rfl) (r_g (r_aload_n d_Stat_copyFrom_118 rfl) G_Stat_40 d_Stat_copyFrom_119) P_Stat_40 d_Stat_copyFrom_122) (s_ret rfl d_Stat_copyFrom_125))))))))))))
def B_Stat_setClock (X : WX) (d : Nat) : ST := (sSeq (sput [11] 9 (xr 0) (xsub (xi 2) (xald X (xgR [11] 0 (xr 0)) (xi 1)))) (sSeq (sast X (xgR [11] 0 (xr 0)) (xi 1) (xi 2)) (sSeq (sput [11] 8 (xr 0) (xc 0)) sRet)))
set_option maxHeartbeats 4000000 in
set_option maxRecDepth 20000 in
theorem F_Stat_setClock (X : WX) (d : Nat) : FS X "FastClock$State" b_Stat_setClock 3 (none) false (rmOf (d + 1) 0 0) 0 25 0 0 (B_Stat_setClock X d) :=
  (s_seq (s_put (r_aload_n d_Stat_setClock_0 rfl) (r_sub (r_iload_n d_Stat_setClock_1 rfl) (r_ald (r_gR (r_aload_n d_Stat_setClock_2 rfl) G_Stat_9 d_Stat_setClock_3) (r_iload_n d_Stat_setClock_6 rfl) d_Stat_setClock_7) d_Stat_setClock_8) P_Stat_40 d_Stat_setClock_9) (s_seq (s_ast (r_gR (r_aload_n d_Stat_setClock_12 rfl) G_Stat_9 d_Stat_setClock_13) (r_iload_n d_Stat_setClock_16 rfl) (r_iload_n d_Stat_setClock_17 rfl) d_Stat_setClock_18) (s_seq (s_put (r_aload_n d_Stat_setClock_19 rfl) (r_iconst d_Stat_setClock_20 (by decide)) P_Stat_37 d_Stat_setClock_21) (s_ret rfl d_Stat_setClock_24))))
def B_Stat_hearWireless (X : WX) (d : Nat) : ST := (sSeq (sast X (xgR [11] 3 (xr 0)) (xi 1) (xald X (xgR [11] 0 (xr 0)) (xald X (xgR [11] 2 (xr 0)) (xi 1)))) sRet)
set_option maxHeartbeats 4000000 in
set_option maxRecDepth 20000 in
theorem F_Stat_hearWireless (X : WX) (d : Nat) : FS X "FastClock$State" b_Stat_hearWireless 2 (none) false (rmOf (d + 1) 0 0) 0 18 0 0 (B_Stat_hearWireless X d) :=
  (s_seq (s_ast (r_gR (r_aload_n d_Stat_hearWireless_0 rfl) G_Stat_24 d_Stat_hearWireless_1) (r_iload_n d_Stat_hearWireless_4 rfl) (r_ald (r_gR (r_aload_n d_Stat_hearWireless_5 rfl) G_Stat_9 d_Stat_hearWireless_6) (r_ald (r_gR (r_aload_n d_Stat_hearWireless_9 rfl) G_Stat_21 d_Stat_hearWireless_10) (r_iload_n d_Stat_hearWireless_13 rfl) d_Stat_hearWireless_14) d_Stat_hearWireless_15) d_Stat_hearWireless_16) (s_ret rfl d_Stat_hearWireless_17))
def B_Stat_late (X : WX) (d : Nat) : ST := (sRetI (xsub (xsub (kI (kD X TG_Person_taken d (xpld X (xgR [11] 1 (xr 0)) (xi 1)) (aC (vR (xr 0)) aN))) (xald X (xgR [11] 0 (xr 0)) (xald X (xgR [11] 2 (xr 0)) (xi 1)))) (kI (kD X TG_Person_margin d (xpld X (xgR [11] 1 (xr 0)) (xi 1)) (aC (vR (xr 0)) aN)))))
set_option maxHeartbeats 4000000 in
set_option maxRecDepth 20000 in
theorem F_Stat_late (X : WX) (d : Nat) : FS X "FastClock$State" b_Stat_late 2 (some .int) false (rmOf (d + 1) 0 0) 0 34 0 0 (B_Stat_late X d) :=
  (s_retI (r_sub (r_sub (k_I (k_D (r_pld (r_gR (r_aload_n d_Stat_late_0 rfl) G_Stat_17 d_Stat_late_1) (r_iload_n d_Stat_late_4 rfl) d_Stat_late_5) (a_C (v_R (r_aload_n d_Stat_late_6 rfl)) a_N) D_Stat_53 (by decide) (Nat.le_refl _) (tg_loc (by decide)) d_Stat_late_7)) (r_ald (r_gR (r_aload_n d_Stat_late_10 rfl) G_Stat_9 d_Stat_late_11) (r_ald (r_gR (r_aload_n d_Stat_late_14 rfl) G_Stat_21 d_Stat_late_15) (r_iload_n d_Stat_late_18 rfl) d_Stat_late_19) d_Stat_late_20) d_Stat_late_21) (k_I (k_D (r_pld (r_gR (r_aload_n d_Stat_late_22 rfl) G_Stat_17 d_Stat_late_23) (r_iload_n d_Stat_late_26 rfl) d_Stat_late_27) (a_C (v_R (r_aload_n d_Stat_late_28 rfl)) a_N) D_Stat_57 (by decide) (Nat.le_refl _) (tg_loc (by decide)) d_Stat_late_29)) d_Stat_late_32) rfl d_Stat_late_33)
def L_Stat_costOfAll_1 (X : WX) (d : Nat) : ST := (sI 2 (xadd (xi 2) (kI (kV X M_House_costOf d 3 (xgR [11] 5 (xr 0)) (aC (vI (xsub (kI (kV X M_Stat_late d 11 (xr 0) (aC (vI (xi 3)) aN))) (xi 1))) aN)))))
def B_Stat_costOfAll (X : WX) (d : Nat) : ST := (sSeq (sI 2 (xc 0)) (sSeq (sI 3 (xc 0)) (sSeq (sFor (cLt (xi 3) (xg [11] 6 (xr 0))) (L_Stat_costOfAll_1 X d) (sInc 3 1)) (sRetI (xi 2)))))
set_option maxHeartbeats 4000000 in
set_option maxRecDepth 20000 in
theorem F_Stat_costOfAll (X : WX) (d : Nat) : FS X "FastClock$State" b_Stat_costOfAll 4 (some .int) false (rmOf (d + 1) 0 0) 0 37 0 0 (B_Stat_costOfAll X d) :=
  (s_seq (s_I_n (r_iconst d_Stat_costOfAll_0 (by decide)) (by decide) d_Stat_costOfAll_1 rfl) (s_seq (s_I_n (r_iconst d_Stat_costOfAll_2 (by decide)) (by decide) d_Stat_costOfAll_3 rfl) (s_seq (s_for (x1 := 0) (x2 := 0) (c_lt_f (r_iload_n d_Stat_costOfAll_4 rfl) (r_g (r_aload_n d_Stat_costOfAll_5 rfl) G_Stat_30 d_Stat_costOfAll_6) d_Stat_costOfAll_9 (by decide)) (s_I_n (r_add (r_iload_n d_Stat_costOfAll_12 rfl) (k_I (k_V (r_gR (r_aload_n d_Stat_costOfAll_13 rfl) G_Stat_43 d_Stat_costOfAll_14) (a_C (v_I (r_sub (k_I (k_V (r_aload_n d_Stat_costOfAll_17 rfl) (a_C (v_I (r_iload_n d_Stat_costOfAll_18 rfl)) a_N) V_Stat_60 (by decide) (Nat.le_refl _) (rm_loc (by decide)) d_Stat_costOfAll_19)) (r_iload_n d_Stat_costOfAll_22 rfl) d_Stat_costOfAll_23)) a_N) V_Stat_64 (by decide) (Nat.le_refl _) (rm_loc (by decide)) d_Stat_costOfAll_24)) d_Stat_costOfAll_27) (by decide) d_Stat_costOfAll_28 rfl) (s_inc (by decide) d_Stat_costOfAll_29 (by decide)) d_Stat_costOfAll_32 (by decide)) (s_retI (r_iload_n d_Stat_costOfAll_35 rfl) rfl d_Stat_costOfAll_36))))
def L_Stat_passDay_1 (X : WX) (d : Nat) : ST := (sast X (xgR [11] 3 (xr 0)) (xi 3) (kI (kD X TG_Person_beliefNext d (xpld X (xgR [11] 1 (xr 0)) (xi 3)) (aC (vR (xr 0)) aN))))
def B_Stat_passDay (X : WX) (d : Nat) : ST := (sSeq (sI 2 (kI (kV X M_Stat_costOfAll d 11 (xr 0) (aC (vI (xi 1)) aN)))) (sSeq (sI 3 (xc 0)) (sSeq (sFor (cLt (xi 3) (xg [11] 6 (xr 0))) (L_Stat_passDay_1 X d) (sInc 3 1)) (sSeq (sputC [11] 7 (fun x y => x + y) (xr 0) (xc 1)) (sSeq (sput [11] 8 (xr 0) (xmin (xadd (xg [11] 8 (xr 0)) (xc 1)) (xc 9))) (sRetI (xi 2)))))))
set_option maxHeartbeats 4000000 in
set_option maxRecDepth 20000 in
theorem F_Stat_passDay (X : WX) (d : Nat) : FS X "FastClock$State" b_Stat_passDay 4 (some .int) false (rmOf (d + 1) 0 0) 0 65 0 0 (B_Stat_passDay X d) :=
  (s_seq (s_I_n (k_I (k_V (r_aload_n d_Stat_passDay_0 rfl) (a_C (v_I (r_iload_n d_Stat_passDay_1 rfl)) a_N) V_Stat_69 (by decide) (Nat.le_refl _) (rm_loc (by decide)) d_Stat_passDay_2)) (by decide) d_Stat_passDay_5 rfl) (s_seq (s_I_n (r_iconst d_Stat_passDay_6 (by decide)) (by decide) d_Stat_passDay_7 rfl) (s_seq (s_for (x1 := 0) (x2 := 0) (c_lt_f (r_iload_n d_Stat_passDay_8 rfl) (r_g (r_aload_n d_Stat_passDay_9 rfl) G_Stat_30 d_Stat_passDay_10) d_Stat_passDay_13 (by decide)) (s_ast (r_gR (r_aload_n d_Stat_passDay_16 rfl) G_Stat_24 d_Stat_passDay_17) (r_iload_n d_Stat_passDay_20 rfl) (k_I (k_D (r_pld (r_gR (r_aload_n d_Stat_passDay_21 rfl) G_Stat_17 d_Stat_passDay_22) (r_iload_n d_Stat_passDay_25 rfl) d_Stat_passDay_26) (a_C (v_R (r_aload_n d_Stat_passDay_27 rfl)) a_N) D_Stat_72 (by decide) (Nat.le_refl _) (tg_loc (by decide)) d_Stat_passDay_28)) d_Stat_passDay_31) (s_inc (by decide) d_Stat_passDay_32 (by decide)) d_Stat_passDay_35 (by decide)) (s_seq (s_putC (Or.inl ⟨rfl, rfl⟩) (r_aload_n d_Stat_passDay_38 rfl) d_Stat_passDay_39 d_Stat_passDay_40 G_Stat_34 (r_iconst d_Stat_passDay_43 (by decide)) d_Stat_passDay_44 P_Stat_34 d_Stat_passDay_45) (s_seq (s_put (r_aload_n d_Stat_passDay_48 rfl) (r_min (r_add (r_g (r_aload_n d_Stat_passDay_49 rfl) G_Stat_37 d_Stat_passDay_50) (r_iconst d_Stat_passDay_53 (by decide)) d_Stat_passDay_54) (r_bipush d_Stat_passDay_55 (by decide)) (tg 738 (by decide +kernel) rfl) (Nat.le_add_left 1 _) (loc_of (by decide)) d_Stat_passDay_57) P_Stat_37 d_Stat_passDay_60) (s_retI (r_iload_n d_Stat_passDay_63 rfl) rfl d_Stat_passDay_64))))))
def L_Stat_passDays_1 (X : WX) (d : Nat) : ST := (sI 3 (xadd (xi 3) (kI (kV X M_Stat_passDay d 11 (xr 0) (aC (vI (xi 2)) aN)))))
def B_Stat_passDays (X : WX) (d : Nat) : ST := (sSeq (sI 3 (xc 0)) (sSeq (sI 4 (xc 0)) (sSeq (sFor (cLt (xi 4) (xi 1)) (L_Stat_passDays_1 X d) (sInc 4 1)) (sRetI (xi 3)))))
set_option maxHeartbeats 4000000 in
set_option maxRecDepth 20000 in
theorem F_Stat_passDays (X : WX) (d : Nat) : FS X "FastClock$State" b_Stat_passDays 5 (some .int) false (rmOf (d + 1) 0 0) 0 27 0 0 (B_Stat_passDays X d) :=
  (s_seq (s_I_n (r_iconst d_Stat_passDays_0 (by decide)) (by decide) d_Stat_passDays_1 rfl) (s_seq (s_I (r_iconst d_Stat_passDays_2 (by decide)) (by decide) d_Stat_passDays_3) (s_seq (s_for (x1 := 0) (x2 := 0) (c_lt_f (r_iload d_Stat_passDays_5) (r_iload_n d_Stat_passDays_7 rfl) d_Stat_passDays_8 (by decide)) (s_I_n (r_add (r_iload_n d_Stat_passDays_11 rfl) (k_I (k_V (r_aload_n d_Stat_passDays_12 rfl) (a_C (v_I (r_iload_n d_Stat_passDays_13 rfl)) a_N) V_Stat_81 (by decide) (Nat.le_refl _) (rm_loc (by decide)) d_Stat_passDays_14)) d_Stat_passDays_17) (by decide) d_Stat_passDays_18 rfl) (s_inc (by decide) d_Stat_passDays_19 (by decide)) d_Stat_passDays_22 (by decide)) (s_retI (r_iload_n d_Stat_passDays_25 rfl) rfl d_Stat_passDays_26))))
def L_Stat_nobodyLaterThan_1 (X : WX) (d : Nat) : ST := (sIf (cGt (kI (kV X M_Stat_late d 11 (xr 0) (aC (vI (xi 2)) aN))) (xi 1)) (sRetZ (xc 0)) sSkip)
def B_Stat_nobodyLaterThan (X : WX) (d : Nat) : ST := (sSeq (sI 2 (xc 0)) (sSeq (sFor (cLt (xi 2) (xg [11] 6 (xr 0))) (L_Stat_nobodyLaterThan_1 X d) (sInc 2 1)) (sRetZ (xc 1))))
set_option maxHeartbeats 4000000 in
set_option maxRecDepth 20000 in
theorem F_Stat_nobodyLaterThan (X : WX) (d : Nat) : FS X "FastClock$State" b_Stat_nobodyLaterThan 3 (some .boolean) false (rmOf (d + 1) 0 0) 0 29 0 0 (B_Stat_nobodyLaterThan X d) :=
  (s_seq (s_I_n (r_iconst d_Stat_nobodyLaterThan_0 (by decide)) (by decide) d_Stat_nobodyLaterThan_1 rfl) (s_seq (s_for (x1 := 0) (x2 := 0) (c_lt_f (r_iload_n d_Stat_nobodyLaterThan_2 rfl) (r_g (r_aload_n d_Stat_nobodyLaterThan_3 rfl) G_Stat_30 d_Stat_nobodyLaterThan_4) d_Stat_nobodyLaterThan_7 (by decide)) (s_if (c_gt_f (k_I (k_V (r_aload_n d_Stat_nobodyLaterThan_10 rfl) (a_C (v_I (r_iload_n d_Stat_nobodyLaterThan_11 rfl)) a_N) V_Stat_60 (by decide) (Nat.le_refl _) (rm_loc (by decide)) d_Stat_nobodyLaterThan_12)) (r_iload_n d_Stat_nobodyLaterThan_15 rfl) d_Stat_nobodyLaterThan_16 (by decide)) (s_retZ (r_iconst d_Stat_nobodyLaterThan_19 (by decide)) rfl d_Stat_nobodyLaterThan_20) s_skip) (s_inc (by decide) d_Stat_nobodyLaterThan_21 (by decide)) d_Stat_nobodyLaterThan_24 (by decide)) (s_retZ (r_iconst d_Stat_nobodyLaterThan_27 (by decide)) rfl d_Stat_nobodyLaterThan_28)))
def L_Stat_isAsSeen_1 (X : WX) (d : Nat) : ST := (sIf (cNot (cEq (kI (kV X M_Stat_late d 11 (xr 0) (aC (vI (xald X (xgR [1] 3 (xr 1)) (xi 2))) aN))) (xald X (xgR [1] 4 (xr 1)) (xi 2)))) (sRetZ (xc 0)) sSkip)
def B_Stat_isAsSeen (X : WX) (d : Nat) : ST := (sSeq (sI 2 (xc 0)) (sSeq (sFor (cLt (xi 2) (xg [1] 5 (xr 1))) (L_Stat_isAsSeen_1 X d) (sInc 2 1)) (sRetZ (xc 1))))
set_option maxHeartbeats 4000000 in
set_option maxRecDepth 20000 in
theorem F_Stat_isAsSeen (X : WX) (d : Nat) : FS X "FastClock$State" b_Stat_isAsSeen 3 (some .boolean) false (rmOf (d + 1) 0 0) 0 39 0 0 (B_Stat_isAsSeen X d) :=
  (s_seq (s_I_n (r_iconst d_Stat_isAsSeen_0 (by decide)) (by decide) d_Stat_isAsSeen_1 rfl) (s_seq (s_for (x1 := 0) (x2 := 0) (c_lt_f (r_iload_n d_Stat_isAsSeen_2 rfl) (r_g (r_aload_n d_Stat_isAsSeen_3 rfl) G_Stat_84 d_Stat_isAsSeen_4) d_Stat_isAsSeen_7 (by decide)) (s_if (c_not (c_eq_t (k_I (k_V (r_aload_n d_Stat_isAsSeen_10 rfl) (a_C (v_I (r_ald (r_gR (r_aload_n d_Stat_isAsSeen_11 rfl) G_Stat_89 d_Stat_isAsSeen_12) (r_iload_n d_Stat_isAsSeen_15 rfl) d_Stat_isAsSeen_16)) a_N) V_Stat_60 (by decide) (Nat.le_refl _) (rm_loc (by decide)) d_Stat_isAsSeen_17)) (r_ald (r_gR (r_aload_n d_Stat_isAsSeen_20 rfl) G_Stat_92 d_Stat_isAsSeen_21) (r_iload_n d_Stat_isAsSeen_24 rfl) d_Stat_isAsSeen_25) d_Stat_isAsSeen_26 (by decide))) (s_retZ (r_iconst d_Stat_isAsSeen_29 (by decide)) rfl d_Stat_isAsSeen_30) s_skip) (s_inc (by decide) d_Stat_isAsSeen_31 (by decide)) d_Stat_isAsSeen_34 (by decide)) (s_retZ (r_iconst d_Stat_isAsSeen_37 (by decide)) rfl d_Stat_isAsSeen_38)))
def B_Notes_init (X : WX) (d : Nat) : ST := (sSeq (sObj (xr 0)) (sSeq (sputR [1] 0 (xr 0) (xNewI X (rmOf (d + 1) 8 140) (xc 100))) (sSeq (sput [1] 1 (xr 0) (xc 0)) (sSeq (sput [1] 2 (xr 0) (xc 0)) (sSeq (sputR [1] 3 (xr 0) (xNewI X (rmOf (d + 1) 8 140) (xc 6))) (sSeq (sputR [1] 4 (xr 0) (xNewI X (rmOf (d + 1) 8 140) (xc 6))) (sSeq (sput [1] 5 (xr 0) (xc 0)) (sSeq (sputR [1] 6 (xr 0) (xNewI X (rmOf (d + 1) 8 140) (xc 4))) (sSeq (sputR [1] 7 (xr 0) (xNewI X (rmOf (d + 1) 8 140) (xc 4))) (sSeq (sputR [1] 8 (xr 0) (xNewI X (rmOf (d + 1) 8 140) (xc 4))) (sSeq (sput [1] 9 (xr 0) (xc 0)) (sSeq (sputR [1] 10 (xr 0) (xNewI X (rmOf (d + 1) 8 140) (xc 8))) (sSeq (sputR [1] 11 (xr 0) (xNewI X (rmOf (d + 1) 8 140) (xc 8))) (sSeq (sput [1] 12 (xr 0) (xc 0)) sRet))))))))))))))
set_option maxHeartbeats 4000000 in
set_option maxRecDepth 20000 in
theorem F_Notes_init (X : WX) (d : Nat) : FS X "FastClock$Notes" b_Notes_init 1 (none) true (rmOf (d + 1) 8 140) 0 91 0 0 (B_Notes_init X d) :=
  (s_seq (s_obj (r_aload_n d_Notes_init_0 rfl) (tg 87 (by decide +kernel) rfl) (Nat.le_add_left 1 _) (loc_of (by decide)) d_Notes_init_1) (s_seq (s_putR (Or.inr ⟨_, rfl⟩) (r_aload_n d_Notes_init_4 rfl) (r_newI (r_bipush d_Notes_init_5 (by decide)) d_Notes_init_7) Pi_Notes_9 d_Notes_init_9) (s_seq (s_put (r_aload_n d_Notes_init_12 rfl) (r_iconst d_Notes_init_13 (by decide)) Pi_Notes_15 d_Notes_init_14) (s_seq (s_put (r_aload_n d_Notes_init_17 rfl) (r_iconst d_Notes_init_18 (by decide)) Pi_Notes_19 d_Notes_init_19) (s_seq (s_putR (Or.inr ⟨_, rfl⟩) (r_aload_n d_Notes_init_22 rfl) (r_newI (r_bipush d_Notes_init_23 (by decide)) d_Notes_init_25) Pi_Notes_22 d_Notes_init_27) (s_seq (s_putR (Or.inr ⟨_, rfl⟩) (r_aload_n d_Notes_init_30 rfl) (r_newI (r_bipush d_Notes_init_31 (by decide)) d_Notes_init_33) Pi_Notes_25 d_Notes_init_35) (s_seq (s_put (r_aload_n d_Notes_init_38 rfl) (r_iconst d_Notes_init_39 (by decide)) Pi_Notes_28 d_Notes_init_40) (s_seq (s_putR (Or.inr ⟨_, rfl⟩) (r_aload_n d_Notes_init_43 rfl) (r_newI (r_iconst d_Notes_init_44 (by decide)) d_Notes_init_45) Pi_Notes_31 d_Notes_init_47) (s_seq (s_putR (Or.inr ⟨_, rfl⟩) (r_aload_n d_Notes_init_50 rfl) (r_newI (r_iconst d_Notes_init_51 (by decide)) d_Notes_init_52) Pi_Notes_34 d_Notes_init_54) (s_seq (s_putR (Or.inr ⟨_, rfl⟩) (r_aload_n d_Notes_init_57 rfl) (r_newI (r_iconst d_Notes_init_58 (by decide)) d_Notes_init_59) Pi_Notes_37 d_Notes_init_61) (s_seq (s_put (r_aload_n d_Notes_init_64 rfl) (r_iconst d_Notes_init_65 (by decide)) Pi_Notes_40 d_Notes_init_66) (s_seq (s_putR (Or.inr ⟨_, rfl⟩) (r_aload_n d_Notes_init_69 rfl) (r_newI (r_bipush d_Notes_init_70 (by decide)) d_Notes_init_72) Pi_Notes_43 d_Notes_init_74) (s_seq (s_putR (Or.inr ⟨_, rfl⟩) (r_aload_n d_Notes_init_77 rfl) (r_newI (r_bipush d_Notes_init_78 (by decide)) d_Notes_init_80) Pi_Notes_46 d_Notes_init_82) (s_seq (s_put (r_aload_n d_Notes_init_85 rfl) (r_iconst d_Notes_init_86 (by decide)) Pi_Notes_49 d_Notes_init_87) (s_ret rfl d_Notes_init_90)))))))))))))))
def B_Notes_copyFrom (X : WX) (d : Nat) : ST := (sSeq (sCopy X (xgR [1] 0 (xr 1)) (xc 0) (xgR [1] 0 (xr 0)) (xc 0) (xc 100)) (sSeq (sCopy X (xgR [1] 3 (xr 1)) (xc 0) (xgR [1] 3 (xr 0)) (xc 0) (xc 6)) (sSeq (sCopy X (xgR [1] 4 (xr 1)) (xc 0) (xgR [1] 4 (xr 0)) (xc 0) (xc 6)) (sSeq (sCopy X (xgR [1] 6 (xr 1)) (xc 0) (xgR [1] 6 (xr 0)) (xc 0) (xc 4)) (sSeq (sCopy X (xgR [1] 7 (xr 1)) (xc 0) (xgR [1] 7 (xr 0)) (xc 0) (xc 4)) (sSeq (sCopy X (xgR [1] 8 (xr 1)) (xc 0) (xgR [1] 8 (xr 0)) (xc 0) (xc 4)) (sSeq (sCopy X (xgR [1] 10 (xr 1)) (xc 0) (xgR [1] 10 (xr 0)) (xc 0) (xc 8)) (sSeq (sCopy X (xgR [1] 11 (xr 1)) (xc 0) (xgR [1] 11 (xr 0)) (xc 0) (xc 8)) (sSeq (sput [1] 1 (xr 0) (xg [1] 1 (xr 1))) (sSeq (sput [1] 2 (xr 0) (xg [1] 2 (xr 1))) (sSeq (sput [1] 5 (xr 0) (xg [1] 5 (xr 1))) (sSeq (sput [1] 9 (xr 0) (xg [1] 9 (xr 1))) (sSeq (sput [1] 12 (xr 0) (xg [1] 12 (xr 1))) sRet)))))))))))))
set_option maxHeartbeats 4000000 in
set_option maxRecDepth 20000 in
theorem F_Notes_copyFrom (X : WX) (d : Nat) : FS X "FastClock$Notes" b_Notes_copyFrom 2 (none) false (rmOf (d + 1) 0 0) 0 158 0 0 (B_Notes_copyFrom X d) :=
  (s_seq (s_copy (r_gR (r_aload_n d_Notes_copyFrom_0 rfl) G_Notes_9 d_Notes_copyFrom_1) (r_iconst d_Notes_copyFrom_4 (by decide)) (r_gR (r_aload_n d_Notes_copyFrom_5 rfl) G_Notes_9 d_Notes_copyFrom_6) (r_iconst d_Notes_copyFrom_9 (by decide)) (r_bipush d_Notes_copyFrom_10 (by decide)) (tg 977 (by decide +kernel) rfl) (Nat.le_add_left 1 _) (loc_of (by decide)) d_Notes_copyFrom_12) (s_seq (s_copy (r_gR (r_aload_n d_Notes_copyFrom_15 rfl) G_Notes_22 d_Notes_copyFrom_16) (r_iconst d_Notes_copyFrom_19 (by decide)) (r_gR (r_aload_n d_Notes_copyFrom_20 rfl) G_Notes_22 d_Notes_copyFrom_21) (r_iconst d_Notes_copyFrom_24 (by decide)) (r_bipush d_Notes_copyFrom_25 (by decide)) (tg 977 (by decide +kernel) rfl) (Nat.le_add_left 1 _) (loc_of (by decide)) d_Notes_copyFrom_27) (s_seq (s_copy (r_gR (r_aload_n d_Notes_copyFrom_30 rfl) G_Notes_25 d_Notes_copyFrom_31) (r_iconst d_Notes_copyFrom_34 (by decide)) (r_gR (r_aload_n d_Notes_copyFrom_35 rfl) G_Notes_25 d_Notes_copyFrom_36) (r_iconst d_Notes_copyFrom_39 (by decide)) (r_bipush d_Notes_copyFrom_40 (by decide)) (tg 977 (by decide +kernel) rfl) (Nat.le_add_left 1 _) (loc_of (by decide)) d_Notes_copyFrom_42) (s_seq (s_copy (r_gR (r_aload_n d_Notes_copyFrom_45 rfl) G_Notes_31 d_Notes_copyFrom_46) (r_iconst d_Notes_copyFrom_49 (by decide)) (r_gR (r_aload_n d_Notes_copyFrom_50 rfl) G_Notes_31 d_Notes_copyFrom_51) (r_iconst d_Notes_copyFrom_54 (by decide)) (r_iconst d_Notes_copyFrom_55 (by decide)) (tg 977 (by decide +kernel) rfl) (Nat.le_add_left 1 _) (loc_of (by decide)) d_Notes_copyFrom_56) (s_seq (s_copy (r_gR (r_aload_n d_Notes_copyFrom_59 rfl) G_Notes_34 d_Notes_copyFrom_60) (r_iconst d_Notes_copyFrom_63 (by decide)) (r_gR (r_aload_n d_Notes_copyFrom_64 rfl) G_Notes_34 d_Notes_copyFrom_65) (r_iconst d_Notes_copyFrom_68 (by decide)) (r_iconst d_Notes_copyFrom_69 (by decide)) (tg 977 (by decide +kernel) rfl) (Nat.le_add_left 1 _) (loc_of (by decide)) d_Notes_copyFrom_70) (s_seq (s_copy (r_gR (r_aload_n d_Notes_copyFrom_73 rfl) G_Notes_37 d_Notes_copyFrom_74) (r_iconst d_Notes_copyFrom_77 (by decide)) (r_gR (r_aload_n d_Notes_copyFrom_78 rfl) G_Notes_37 d_Notes_copyFrom_79) (r_iconst d_Notes_copyFrom_82 (by decide)) (r_iconst d_Notes_copyFrom_83 (by decide)) (tg 977 (by decide +kernel) rfl) (Nat.le_add_left 1 _) (loc_of (by decide)) d_Notes_copyFrom_84) (s_seq (s_copy (r_gR (r_aload_n d_Notes_copyFrom_87 rfl) G_Notes_43 d_Notes_copyFrom_88) (r_iconst d_Notes_copyFrom_91 (by decide)) (r_gR (r_aload_n d_Notes_copyFrom_92 rfl) G_Notes_43 d_Notes_copyFrom_93) (r_iconst d_Notes_copyFrom_96 (by decide)) (r_bipush d_Notes_copyFrom_97 (by decide)) (tg 977 (by decide +kernel) rfl) (Nat.le_add_left 1 _) (loc_of (by decide)) d_Notes_copyFrom_99) (s_seq (s_copy (r_gR (r_aload_n d_Notes_copyFrom_102 rfl) G_Notes_46 d_Notes_copyFrom_103) (r_iconst d_Notes_copyFrom_106 (by decide)) (r_gR (r_aload_n d_Notes_copyFrom_107 rfl) G_Notes_46 d_Notes_copyFrom_108) (r_iconst d_Notes_copyFrom_111 (by decide)) (r_bipush d_Notes_copyFrom_112 (by decide)) (tg 977 (by decide +kernel) rfl) (Nat.le_add_left 1 _) (loc_of (by decide)) d_Notes_copyFrom_114) (s_seq (s_put (r_aload_n d_Notes_copyFrom_117 rfl) (r_g (r_aload_n d_Notes_copyFrom_118 rfl) G_Notes_15 d_Notes_copyFrom_119) P_Notes_15 d_Notes_copyFrom_122) (s_seq (s_put (r_aload_n d_Notes_copyFrom_125 rfl) (r_g (r_aload_n d_Notes_copyFrom_126 rfl) G_Notes_19 d_Notes_copyFrom_127) P_Notes_19 d_Notes_copyFrom_130) (s_seq (s_put (r_aload_n d_Notes_copyFrom_133 rfl) (r_g (r_aload_n d_Notes_copyFrom_134 rfl) G_Notes_28 d_Notes_copyFrom_135) P_Notes_28 d_Notes_copyFrom_138) (s_seq (s_put (r_aload_n d_Notes_copyFrom_141 rfl) (r_g (r_aload_n d_Notes_copyFrom_142 rfl) G_Notes_40 d_Notes_copyFrom_143) P_Notes_40 d_Notes_copyFrom_146) (s_seq (s_put (r_aload_n d_Notes_copyFrom_149 rfl) (r_g (r_aload_n d_Notes_copyFrom_150 rfl) G_Notes_49 d_Notes_copyFrom_151) P_Notes_49 d_Notes_copyFrom_154) (s_ret rfl d_Notes_copyFrom_157))))))))))))))
def B_Trace_init (X : WX) (d : Nat) : ST := (sSeq (sObj (xr 0)) (sSeq (sputR [2] 0 (xr 0) (xNewI X (rmOf (d + 1) 1 20) (xc 20))) (sSeq (sput [2] 1 (xr 0) (xc 0)) sRet)))
set_option maxHeartbeats 4000000 in
set_option maxRecDepth 20000 in
theorem F_Trace_init (X : WX) (d : Nat) : FS X "FastClock$Trace" b_Trace_init 1 (none) true (rmOf (d + 1) 1 20) 0 18 0 0 (B_Trace_init X d) :=
  (s_seq (s_obj (r_aload_n d_Trace_init_0 rfl) (tg 150 (by decide +kernel) rfl) (Nat.le_add_left 1 _) (loc_of (by decide)) d_Trace_init_1) (s_seq (s_putR (Or.inr ⟨_, rfl⟩) (r_aload_n d_Trace_init_4 rfl) (r_newI (r_bipush d_Trace_init_5 (by decide)) d_Trace_init_7) Pi_Trace_9 d_Trace_init_9) (s_seq (s_put (r_aload_n d_Trace_init_12 rfl) (r_iconst d_Trace_init_13 (by decide)) Pi_Trace_15 d_Trace_init_14) (s_ret rfl d_Trace_init_17))))
def B_Trace_begin (X : WX) (d : Nat) : ST := (sSeq (sIf (cLt (xg [2] 1 (xr 0)) (xc 20)) (sast X (xgR [2] 0 (xr 0)) (xg [2] 1 (xr 0)) (xi 1)) sSkip) (sSeq (sputC [2] 1 (fun x y => x + y) (xr 0) (xc 1)) sRet))
set_option maxHeartbeats 4000000 in
set_option maxRecDepth 20000 in
theorem F_Trace_begin (X : WX) (d : Nat) : FS X "FastClock$Trace" b_Trace_begin 2 (none) false (rmOf (d + 1) 0 0) 0 30 0 0 (B_Trace_begin X d) :=
  (s_seq (s_if (c_lt_f (r_g (r_aload_n d_Trace_begin_0 rfl) G_Trace_15 d_Trace_begin_1) (r_bipush d_Trace_begin_4 (by decide)) d_Trace_begin_6 (by decide)) (s_ast (r_gR (r_aload_n d_Trace_begin_9 rfl) G_Trace_9 d_Trace_begin_10) (r_g (r_aload_n d_Trace_begin_13 rfl) G_Trace_15 d_Trace_begin_14) (r_iload_n d_Trace_begin_17 rfl) d_Trace_begin_18) s_skip) (s_seq (s_putC (Or.inl ⟨rfl, rfl⟩) (r_aload_n d_Trace_begin_19 rfl) d_Trace_begin_20 d_Trace_begin_21 G_Trace_15 (r_iconst d_Trace_begin_24 (by decide)) d_Trace_begin_25 P_Trace_15 d_Trace_begin_26) (s_ret rfl d_Trace_begin_29)))
def B_Person_init (X : WX) (d : Nat) : ST := (sSeq (sObj (xr 0)) (sSeq (sputR [4, 5, 6, 7, 8, 9, 10] 2 (xr 0) (xNewI X (rmOf (d + 1) 1 140) (xc 140))) (sSeq (sputN [4, 5, 6, 7, 8, 9, 10] 3 (xr 0)) (sSeq (sput [4, 5, 6, 7, 8, 9, 10] 0 (xr 0) (xi 1)) (sSeq (sput [4, 5, 6, 7, 8, 9, 10] 1 (xr 0) (xi 2)) sRet)))))
set_option maxHeartbeats 4000000 in
set_option maxRecDepth 20000 in
theorem F_Person_init (X : WX) (d : Nat) : FS X "FastClock$Person" b_Person_init 3 (none) true (rmOf (d + 1) 1 140) 0 29 0 0 (B_Person_init X d) :=
  (s_seq (s_obj (r_aload_n d_Person_init_0 rfl) (tg 207 (by decide +kernel) rfl) (Nat.le_add_left 1 _) (loc_of (by decide)) d_Person_init_1) (s_seq (s_putR (Or.inr ⟨_, rfl⟩) (r_aload_n d_Person_init_4 rfl) (r_newI (r_sipush d_Person_init_5 (by decide)) d_Person_init_8) Pi_Person_13 d_Person_init_10) (s_seq (s_putN (Or.inl ⟨_, rfl⟩) (r_aload_n d_Person_init_13 rfl) d_Person_init_14 Pi_Person_17 d_Person_init_15) (s_seq (s_put (r_aload_n d_Person_init_18 rfl) (r_iload_n d_Person_init_19 rfl) Pi_Person_21 d_Person_init_20) (s_seq (s_put (r_aload_n d_Person_init_23 rfl) (r_iload_n d_Person_init_24 rfl) Pi_Person_25 d_Person_init_25) (s_ret rfl d_Person_init_28))))))
def B_Person_kind (X : WX) (d : Nat) : ST := (sRetI (xc 0))
set_option maxHeartbeats 4000000 in
set_option maxRecDepth 20000 in
theorem F_Person_kind (X : WX) (d : Nat) : FS X "FastClock$Person" b_Person_kind 1 (some .int) false (rmOf (d + 1) 0 0) 0 2 0 0 (B_Person_kind X d) :=
  (s_retI (r_iconst d_Person_kind_0 (by decide)) rfl d_Person_kind_1)
def B_Person_taken (X : WX) (d : Nat) : ST := (sRetI (xc 0))
set_option maxHeartbeats 4000000 in
set_option maxRecDepth 20000 in
theorem F_Person_taken (X : WX) (d : Nat) : FS X "FastClock$Person" b_Person_taken 2 (some .int) false (rmOf (d + 1) 0 0) 0 2 0 0 (B_Person_taken X d) :=
  (s_retI (r_iconst d_Person_taken_0 (by decide)) rfl d_Person_taken_1)
def B_Person_rashness (X : WX) (d : Nat) : ST := (sRetI (xc 0))
set_option maxHeartbeats 4000000 in
set_option maxRecDepth 20000 in
theorem F_Person_rashness (X : WX) (d : Nat) : FS X "FastClock$Person" b_Person_rashness 1 (some .int) false (rmOf (d + 1) 0 0) 0 2 0 0 (B_Person_rashness X d) :=
  (s_retI (r_iconst d_Person_rashness_0 (by decide)) rfl d_Person_rashness_1)
def B_Person_beliefNext (X : WX) (d : Nat) : ST := (sRetI (xald X (xgR [11] 3 (xr 1)) (xg [4, 5, 6, 7, 8, 9, 10] 0 (xr 0))))
set_option maxHeartbeats 4000000 in
set_option maxRecDepth 20000 in
theorem F_Person_beliefNext (X : WX) (d : Nat) : FS X "FastClock$Person" b_Person_beliefNext 2 (some .int) false (rmOf (d + 1) 0 0) 0 10 0 0 (B_Person_beliefNext X d) :=
  (s_retI (r_ald (r_gR (r_aload_n d_Person_beliefNext_0 rfl) G_Person_28 d_Person_beliefNext_1) (r_g (r_aload_n d_Person_beliefNext_4 rfl) G_Person_21 d_Person_beliefNext_5) d_Person_beliefNext_8) rfl d_Person_beliefNext_9)
def B_Person_margin (X : WX) (d : Nat) : ST := (sSeq (sIf (cNot (cEqO (xgO [4, 5, 6, 7, 8, 9, 10] 3 (xr 0)) (xgO [11] 5 (xr 1)))) (sSeq (sK (kS X M_JArrays_fill d (aC (vR (xgR [4, 5, 6, 7, 8, 9, 10] 2 (xr 0))) (aC (vI (xc (-2147483648))) aN)))) (sputR [4, 5, 6, 7, 8, 9, 10] 3 (xr 0) (xgR [11] 5 (xr 1)))) sSkip) (sSeq (sI 2 (xald X (xgR [11] 2 (xr 1)) (xg [4, 5, 6, 7, 8, 9, 10] 0 (xr 0)))) (sSeq (sI 3 (xrem (xg [11] 7 (xr 1)) (xc 7))) (sSeq (sI 4 (xadd (xmul (xadd (xmul (xi 2) (xc 7)) (xi 3)) (xc 10)) (xg [11] 8 (xr 1)))) (sSeq (sIf (cEq (xald X (xgR [4, 5, 6, 7, 8, 9, 10] 2 (xr 0)) (xi 4)) (xc (-2147483648))) (sast X (xgR [4, 5, 6, 7, 8, 9, 10] 2 (xr 0)) (xi 4) (xsub (kI (kV X M_House_marginOf d 3 (xgR [11] 5 (xr 1)) (aC (vR (xr 0)) (aC (vI (xi 2)) (aC (vI (xi 3)) (aC (vI (xg [11] 8 (xr 1))) aN)))))) (kI (kD X TG_Person_rashness d (xr 0) aN)))) sSkip) (sRetI (xald X (xgR [4, 5, 6, 7, 8, 9, 10] 2 (xr 0)) (xi 4))))))))
set_option maxHeartbeats 4000000 in
set_option maxRecDepth 20000 in
theorem F_Person_margin (X : WX) (d : Nat) : FS X "FastClock$Person" b_Person_margin 5 (some .int) false (rmOf (d + 1) 0 0) 0 108 0 0 (B_Person_margin X d) :=
  (s_seq (s_if (c_not (c_eqo_t (r_gO (r_aload_n d_Person_margin_0 rfl) G_Person_17 d_Person_margin_1) (r_gO (r_aload_n d_Person_margin_4 rfl) G_Person_33 d_Person_margin_5) d_Person_margin_8 (by decide))) (s_seq (s_K (k_S (a_C (v_R (r_gR (r_aload_n d_Person_margin_11 rfl) G_Person_13 d_Person_margin_12)) (a_C (v_I (r_ldc (tg 607 (by decide +kernel) rfl) d_Person_margin_15)) a_N)) S_Person_37 (by decide) (Nat.le_refl _) (rm_loc (by decide)) d_Person_margin_17)) (s_putR (Or.inl ⟨_, rfl⟩) (r_aload_n d_Person_margin_20 rfl) (r_gR (r_aload_n d_Person_margin_21 rfl) G_Person_33 d_Person_margin_22) P_Person_17 d_Person_margin_25)) s_skip) (s_seq (s_I_n (r_ald (r_gR (r_aload_n d_Person_margin_28 rfl) G_Person_43 d_Person_margin_29) (r_g (r_aload_n d_Person_margin_32 rfl) G_Person_21 d_Person_margin_33) d_Person_margin_36) (by decide) d_Person_margin_37 rfl) (s_seq (s_I_n (r_rem (r_g (r_aload_n d_Person_margin_38 rfl) G_Person_46 d_Person_margin_39) (r_bipush d_Person_margin_42 (by decide)) d_Person_margin_44) (by decide) d_Person_margin_45 rfl) (s_seq (s_I (r_add (r_mul (r_add (r_mul (r_iload_n d_Person_margin_46 rfl) (r_bipush d_Person_margin_47 (by decide)) d_Person_margin_49) (r_iload_n d_Person_margin_50 rfl) d_Person_margin_51) (r_bipush d_Person_margin_52 (by decide)) d_Person_margin_54) (r_g (r_aload_n d_Person_margin_55 rfl) G_Person_49 d_Person_margin_56) d_Person_margin_59) (by decide) d_Person_margin_60) (s_seq (s_if (c_eq_f (r_ald (r_gR (r_aload_n d_Person_margin_62 rfl) G_Person_13 d_Person_margin_63) (r_iload d_Person_margin_66) d_Person_margin_68) (r_ldc (tg 607 (by decide +kernel) rfl) d_Person_margin_69) d_Person_margin_71 (by decide)) (s_ast (r_gR (r_aload_n d_Person_margin_74 rfl) G_Person_13 d_Person_margin_75) (r_iload d_Person_margin_78) (r_sub (k_I (k_V (r_gR (r_aload_n d_Person_margin_80 rfl) G_Person_33 d_Person_margin_81) (a_C (v_R (r_aload_n d_Person_margin_84 rfl)) (a_C (v_I (r_iload_n d_Person_margin_85 rfl)) (a_C (v_I (r_iload_n d_Person_margin_86 rfl)) (a_C (v_I (r_g (r_aload_n d_Person_margin_87 rfl) G_Person_49 d_Person_margin_88)) a_N)))) V_Person_52 (by decide) (Nat.le_refl _) (rm_loc (by decide)) d_Person_margin_91)) (k_I (k_D (r_aload_n d_Person_margin_94 rfl) a_N D_Person_58 (by decide) (Nat.le_refl _) (tg_loc (by decide)) d_Person_margin_95)) d_Person_margin_98) d_Person_margin_99) s_skip) (s_retI (r_ald (r_gR (r_aload_n d_Person_margin_100 rfl) G_Person_13 d_Person_margin_101) (r_iload d_Person_margin_104) d_Person_margin_106) rfl d_Person_margin_107))))))
def B_Person_looks (X : WX) (d : Nat) : ST := (sSeq (sK (kV X M_Trace_begin d 2 (xr 1) (aC (vI (xc 1)) aN))) (sRetI (xadd (xi 2) (xg [4, 5, 6, 7, 8, 9, 10] 0 (xr 0)))))
set_option maxHeartbeats 4000000 in
set_option maxRecDepth 20000 in
theorem F_Person_looks (X : WX) (d : Nat) : FS X "FastClock$Person" b_Person_looks 3 (some .int) false (rmOf (d + 1) 0 0) 0 12 0 0 (B_Person_looks X d) :=
  (s_seq (s_K (k_V (r_aload_n d_Person_looks_0 rfl) (a_C (v_I (r_iconst d_Person_looks_1 (by decide))) a_N) V_Person_62 (by decide) (Nat.le_refl _) (rm_loc (by decide)) d_Person_looks_2)) (s_retI (r_add (r_iload_n d_Person_looks_5 rfl) (r_g (r_aload_n d_Person_looks_6 rfl) G_Person_21 d_Person_looks_7) d_Person_looks_10) rfl d_Person_looks_11))
def B_Person_goes (X : WX) (d : Nat) : ST := (sSeq (sK (kV X M_Trace_begin d 2 (xr 1) (aC (vI (xc 2)) aN))) (sRetI (xsub (kI (kD X TG_Person_looks d (xr 0) (aC (vR (xr 1)) (aC (vI (xi 2)) aN)))) (xg [4, 5, 6, 7, 8, 9, 10] 1 (xr 0)))))
set_option maxHeartbeats 4000000 in
set_option maxRecDepth 20000 in
theorem F_Person_goes (X : WX) (d : Nat) : FS X "FastClock$Person" b_Person_goes 3 (some .int) false (rmOf (d + 1) 0 0) 0 17 0 0 (B_Person_goes X d) :=
  (s_seq (s_K (k_V (r_aload_n d_Person_goes_0 rfl) (a_C (v_I (r_iconst d_Person_goes_1 (by decide))) a_N) V_Person_62 (by decide) (Nat.le_refl _) (rm_loc (by decide)) d_Person_goes_2)) (s_retI (r_sub (k_I (k_D (r_aload_n d_Person_goes_5 rfl) (a_C (v_R (r_aload_n d_Person_goes_6 rfl)) (a_C (v_I (r_iload_n d_Person_goes_7 rfl)) a_N)) D_Person_68 (by decide) (Nat.le_refl _) (tg_loc (by decide)) d_Person_goes_8)) (r_g (r_aload_n d_Person_goes_11 rfl) G_Person_25 d_Person_goes_12) d_Person_goes_15) rfl d_Person_goes_16))
def B_Person_tells (X : WX) (d : Nat) : ST := (sSeq (sK (kV X M_Trace_begin d 2 (xr 1) (aC (vI (xc 3)) aN))) (sRetI (xmul (kI (kD X TG_Person_goes d (xr 0) (aC (vR (xr 1)) (aC (vI (xi 2)) aN)))) (xc 2))))
set_option maxHeartbeats 4000000 in
set_option maxRecDepth 20000 in
theorem F_Person_tells (X : WX) (d : Nat) : FS X "FastClock$Person" b_Person_tells 3 (some .int) false (rmOf (d + 1) 0 0) 0 14 0 0 (B_Person_tells X d) :=
  (s_seq (s_K (k_V (r_aload_n d_Person_tells_0 rfl) (a_C (v_I (r_iconst d_Person_tells_1 (by decide))) a_N) V_Person_62 (by decide) (Nat.le_refl _) (rm_loc (by decide)) d_Person_tells_2)) (s_retI (r_mul (k_I (k_D (r_aload_n d_Person_tells_5 rfl) (a_C (v_R (r_aload_n d_Person_tells_6 rfl)) (a_C (v_I (r_iload_n d_Person_tells_7 rfl)) a_N)) D_Person_72 (by decide) (Nat.le_refl _) (tg_loc (by decide)) d_Person_tells_8)) (r_iconst d_Person_tells_11 (by decide)) d_Person_tells_12) rfl d_Person_tells_13))
def B_Learning_init (X : WX) (d : Nat) : ST := (sSeq (sCtor X (rmOf (d + 1) 1 140) M_Person_init d 1 140 (xr 0) (aC (vI (xi 1)) (aC (vI (xi 2)) aN))) sRet)
set_option maxHeartbeats 4000000 in
set_option maxRecDepth 20000 in
theorem F_Learning_init (X : WX) (d : Nat) : FS X "FastClock$Learning" b_Learning_init 3 (none) true (rmOf (d + 1) 1 140) 0 7 0 0 (B_Learning_init X d) :=
  (s_seq (s_ctor (r_aload_n d_Learning_init_0 rfl) (a_C (v_I (r_iload_n d_Learning_init_1 rfl)) (a_C (v_I (r_iload_n d_Learning_init_2 rfl)) a_N)) C_Learning_1 (Nat.le_refl _) (rm_loc (by decide)) d_Learning_init_3) (s_ret rfl d_Learning_init_6))
def B_Learning_kind (X : WX) (d : Nat) : ST := (sRetI (xc 1))
set_option maxHeartbeats 4000000 in
set_option maxRecDepth 20000 in
theorem F_Learning_kind (X : WX) (d : Nat) : FS X "FastClock$Learning" b_Learning_kind 1 (some .int) false (rmOf (d + 1) 0 0) 0 2 0 0 (B_Learning_kind X d) :=
  (s_retI (r_iconst d_Learning_kind_0 (by decide)) rfl d_Learning_kind_1)
def B_Learning_taken (X : WX) (d : Nat) : ST := (sRetI (xald X (xgR [11] 3 (xr 1)) (xg [5, 8] 0 (xr 0))))
set_option maxHeartbeats 4000000 in
set_option maxRecDepth 20000 in
theorem F_Learning_taken (X : WX) (d : Nat) : FS X "FastClock$Learning" b_Learning_taken 2 (some .int) false (rmOf (d + 1) 0 0) 0 10 0 0 (B_Learning_taken X d) :=
  (s_retI (r_ald (r_gR (r_aload_n d_Learning_taken_0 rfl) G_Learning_7 d_Learning_taken_1) (r_g (r_aload_n d_Learning_taken_4 rfl) G_Learning_13 d_Learning_taken_5) d_Learning_taken_8) rfl d_Learning_taken_9)
def B_Learning_beliefNext (X : WX) (d : Nat) : ST := (sSeq (sI 2 (xsub (xald X (xgR [11] 0 (xr 1)) (xald X (xgR [11] 2 (xr 1)) (xg [5, 8] 0 (xr 0)))) (xald X (xgR [11] 3 (xr 1)) (xg [5, 8] 0 (xr 0))))) (sRetI (xadd (xald X (xgR [11] 3 (xr 1)) (xg [5, 8] 0 (xr 0))) (xdiv (xmul (xi 2) (xg [5, 8] 1 (xr 0))) (xc 10)))))
set_option maxHeartbeats 4000000 in
set_option maxRecDepth 20000 in
theorem F_Learning_beliefNext (X : WX) (d : Nat) : FS X "FastClock$Learning" b_Learning_beliefNext 3 (some .int) false (rmOf (d + 1) 0 0) 0 45 0 0 (B_Learning_beliefNext X d) :=
  (s_seq (s_I_n (r_sub (r_ald (r_gR (r_aload_n d_Learning_beliefNext_0 rfl) G_Learning_19 d_Learning_beliefNext_1) (r_ald (r_gR (r_aload_n d_Learning_beliefNext_4 rfl) G_Learning_22 d_Learning_beliefNext_5) (r_g (r_aload_n d_Learning_beliefNext_8 rfl) G_Learning_13 d_Learning_beliefNext_9) d_Learning_beliefNext_12) d_Learning_beliefNext_13) (r_ald (r_gR (r_aload_n d_Learning_beliefNext_14 rfl) G_Learning_7 d_Learning_beliefNext_15) (r_g (r_aload_n d_Learning_beliefNext_18 rfl) G_Learning_13 d_Learning_beliefNext_19) d_Learning_beliefNext_22) d_Learning_beliefNext_23) (by decide) d_Learning_beliefNext_24 rfl) (s_retI (r_add (r_ald (r_gR (r_aload_n d_Learning_beliefNext_25 rfl) G_Learning_7 d_Learning_beliefNext_26) (r_g (r_aload_n d_Learning_beliefNext_29 rfl) G_Learning_13 d_Learning_beliefNext_30) d_Learning_beliefNext_33) (r_div (r_mul (r_iload_n d_Learning_beliefNext_34 rfl) (r_g (r_aload_n d_Learning_beliefNext_35 rfl) G_Learning_25 d_Learning_beliefNext_36) d_Learning_beliefNext_39) (r_bipush d_Learning_beliefNext_40 (by decide)) d_Learning_beliefNext_42) d_Learning_beliefNext_43) rfl d_Learning_beliefNext_44))
def B_Learning_looks (X : WX) (d : Nat) : ST := (sSeq (sK (kV X M_Trace_begin d 2 (xr 1) (aC (vI (xc 11)) aN))) (sRetI (kI (kP X M_Person_looks d (xr 0) (aC (vR (xr 1)) (aC (vI (xmul (xi 2) (xc 3))) aN))))))
set_option maxHeartbeats 4000000 in
set_option maxRecDepth 20000 in
theorem F_Learning_looks (X : WX) (d : Nat) : FS X "FastClock$Learning" b_Learning_looks 3 (some .int) false (rmOf (d + 1) 0 0) 0 15 0 0 (B_Learning_looks X d) :=
  (s_seq (s_K (k_V (r_aload_n d_Learning_looks_0 rfl) (a_C (v_I (r_bipush d_Learning_looks_1 (by decide))) a_N) V_Learning_28 (by decide) (Nat.le_refl _) (rm_loc (by decide)) d_Learning_looks_3)) (s_retI (k_I (k_P (r_aload_n d_Learning_looks_6 rfl) (a_C (v_R (r_aload_n d_Learning_looks_7 rfl)) (a_C (v_I (r_mul (r_iload_n d_Learning_looks_8 rfl) (r_iconst d_Learning_looks_9 (by decide)) d_Learning_looks_10)) a_N)) U_Learning_34 (by decide) (Nat.le_refl _) (rm_loc (by decide)) d_Learning_looks_11)) rfl d_Learning_looks_14))
def B_Off_init (X : WX) (d : Nat) : ST := (sSeq (sCtor X (rmOf (d + 1) 1 140) M_Person_init d 1 140 (xr 0) (aC (vI (xi 1)) (aC (vI (xi 2)) aN))) sRet)
set_option maxHeartbeats 4000000 in
set_option maxRecDepth 20000 in
theorem F_Off_init (X : WX) (d : Nat) : FS X "FastClock$Off" b_Off_init 3 (none) true (rmOf (d + 1) 1 140) 0 7 0 0 (B_Off_init X d) :=
  (s_seq (s_ctor (r_aload_n d_Off_init_0 rfl) (a_C (v_I (r_iload_n d_Off_init_1 rfl)) (a_C (v_I (r_iload_n d_Off_init_2 rfl)) a_N)) C_Off_1 (Nat.le_refl _) (rm_loc (by decide)) d_Off_init_3) (s_ret rfl d_Off_init_6))
def B_Off_kind (X : WX) (d : Nat) : ST := (sRetI (xc 2))
set_option maxHeartbeats 4000000 in
set_option maxRecDepth 20000 in
theorem F_Off_kind (X : WX) (d : Nat) : FS X "FastClock$Off" b_Off_kind 1 (some .int) false (rmOf (d + 1) 0 0) 0 2 0 0 (B_Off_kind X d) :=
  (s_retI (r_iconst d_Off_kind_0 (by decide)) rfl d_Off_kind_1)
def B_Off_taken (X : WX) (d : Nat) : ST := (sRetI (xadd (xald X (xgR [11] 3 (xr 1)) (xg [6, 9] 0 (xr 0))) (xg [6, 9] 1 (xr 0))))
set_option maxHeartbeats 4000000 in
set_option maxRecDepth 20000 in
theorem F_Off_taken (X : WX) (d : Nat) : FS X "FastClock$Off" b_Off_taken 2 (some .int) false (rmOf (d + 1) 0 0) 0 15 0 0 (B_Off_taken X d) :=
  (s_retI (r_add (r_ald (r_gR (r_aload_n d_Off_taken_0 rfl) G_Off_7 d_Off_taken_1) (r_g (r_aload_n d_Off_taken_4 rfl) G_Off_13 d_Off_taken_5) d_Off_taken_8) (r_g (r_aload_n d_Off_taken_9 rfl) G_Off_19 d_Off_taken_10) d_Off_taken_13) rfl d_Off_taken_14)
def B_Off_goes (X : WX) (d : Nat) : ST := (sSeq (sK (kV X M_Trace_begin d 2 (xr 1) (aC (vI (xc 21)) aN))) (sRetI (xneg (kI (kP X M_Person_goes d (xr 0) (aC (vR (xr 1)) (aC (vI (xi 2)) aN)))))))
set_option maxHeartbeats 4000000 in
set_option maxRecDepth 20000 in
theorem F_Off_goes (X : WX) (d : Nat) : FS X "FastClock$Off" b_Off_goes 3 (some .int) false (rmOf (d + 1) 0 0) 0 14 0 0 (B_Off_goes X d) :=
  (s_seq (s_K (k_V (r_aload_n d_Off_goes_0 rfl) (a_C (v_I (r_bipush d_Off_goes_1 (by decide))) a_N) V_Off_22 (by decide) (Nat.le_refl _) (rm_loc (by decide)) d_Off_goes_3)) (s_retI (r_neg (k_I (k_P (r_aload_n d_Off_goes_6 rfl) (a_C (v_R (r_aload_n d_Off_goes_7 rfl)) (a_C (v_I (r_iload_n d_Off_goes_8 rfl)) a_N)) U_Off_28 (by decide) (Nat.le_refl _) (rm_loc (by decide)) d_Off_goes_9)) d_Off_goes_12) rfl d_Off_goes_13))
def B_Rash_init (X : WX) (d : Nat) : ST := (sSeq (sCtor X (rmOf (d + 1) 1 140) M_Person_init d 1 140 (xr 0) (aC (vI (xi 1)) (aC (vI (xi 2)) aN))) sRet)
set_option maxHeartbeats 4000000 in
set_option maxRecDepth 20000 in
theorem F_Rash_init (X : WX) (d : Nat) : FS X "FastClock$Rash" b_Rash_init 3 (none) true (rmOf (d + 1) 1 140) 0 7 0 0 (B_Rash_init X d) :=
  (s_seq (s_ctor (r_aload_n d_Rash_init_0 rfl) (a_C (v_I (r_iload_n d_Rash_init_1 rfl)) (a_C (v_I (r_iload_n d_Rash_init_2 rfl)) a_N)) C_Rash_1 (Nat.le_refl _) (rm_loc (by decide)) d_Rash_init_3) (s_ret rfl d_Rash_init_6))
def B_Rash_kind (X : WX) (d : Nat) : ST := (sRetI (xc 3))
set_option maxHeartbeats 4000000 in
set_option maxRecDepth 20000 in
theorem F_Rash_kind (X : WX) (d : Nat) : FS X "FastClock$Rash" b_Rash_kind 1 (some .int) false (rmOf (d + 1) 0 0) 0 2 0 0 (B_Rash_kind X d) :=
  (s_retI (r_iconst d_Rash_kind_0 (by decide)) rfl d_Rash_kind_1)
def B_Rash_rashness (X : WX) (d : Nat) : ST := (sRetI (xg [7, 10] 1 (xr 0)))
set_option maxHeartbeats 4000000 in
set_option maxRecDepth 20000 in
theorem F_Rash_rashness (X : WX) (d : Nat) : FS X "FastClock$Rash" b_Rash_rashness 1 (some .int) false (rmOf (d + 1) 0 0) 0 5 0 0 (B_Rash_rashness X d) :=
  (s_retI (r_g (r_aload_n d_Rash_rashness_0 rfl) G_Rash_7 d_Rash_rashness_1) rfl d_Rash_rashness_4)
def B_Rash_tells (X : WX) (d : Nat) : ST := (sSeq (sK (kV X M_Trace_begin d 2 (xr 1) (aC (vI (xc 31)) aN))) (sRetI (xxor (kI (kP X M_Person_tells d (xr 0) (aC (vR (xr 1)) (aC (vI (xi 2)) aN)))) (xc 7))))
set_option maxHeartbeats 4000000 in
set_option maxRecDepth 20000 in
theorem F_Rash_tells (X : WX) (d : Nat) : FS X "FastClock$Rash" b_Rash_tells 3 (some .int) false (rmOf (d + 1) 0 0) 0 16 0 0 (B_Rash_tells X d) :=
  (s_seq (s_K (k_V (r_aload_n d_Rash_tells_0 rfl) (a_C (v_I (r_bipush d_Rash_tells_1 (by decide))) a_N) V_Rash_13 (by decide) (Nat.le_refl _) (rm_loc (by decide)) d_Rash_tells_3)) (s_retI (r_xor (k_I (k_P (r_aload_n d_Rash_tells_6 rfl) (a_C (v_R (r_aload_n d_Rash_tells_7 rfl)) (a_C (v_I (r_iload_n d_Rash_tells_8 rfl)) a_N)) U_Rash_19 (by decide) (Nat.le_refl _) (rm_loc (by decide)) d_Rash_tells_9)) (r_bipush d_Rash_tells_12 (by decide)) d_Rash_tells_14) rfl d_Rash_tells_15))
def B_Wise_init (X : WX) (d : Nat) : ST := (sSeq (sCtor X (rmOf (d + 1) 1 140) M_Learning_init d 1 140 (xr 0) (aC (vI (xi 1)) (aC (vI (xi 2)) aN))) sRet)
set_option maxHeartbeats 4000000 in
set_option maxRecDepth 20000 in
theorem F_Wise_init (X : WX) (d : Nat) : FS X "FastClock$Wise" b_Wise_init 3 (none) true (rmOf (d + 1) 1 140) 0 7 0 0 (B_Wise_init X d) :=
  (s_seq (s_ctor (r_aload_n d_Wise_init_0 rfl) (a_C (v_I (r_iload_n d_Wise_init_1 rfl)) (a_C (v_I (r_iload_n d_Wise_init_2 rfl)) a_N)) C_Wise_1 (Nat.le_refl _) (rm_loc (by decide)) d_Wise_init_3) (s_ret rfl d_Wise_init_6))
def B_Wise_kind (X : WX) (d : Nat) : ST := (sRetI (xc 4))
set_option maxHeartbeats 4000000 in
set_option maxRecDepth 20000 in
theorem F_Wise_kind (X : WX) (d : Nat) : FS X "FastClock$Wise" b_Wise_kind 1 (some .int) false (rmOf (d + 1) 0 0) 0 2 0 0 (B_Wise_kind X d) :=
  (s_retI (r_iconst d_Wise_kind_0 (by decide)) rfl d_Wise_kind_1)
def B_Wise_taken (X : WX) (d : Nat) : ST := (sSeq (sI 2 (kI (kP X M_Learning_taken d (xr 0) (aC (vR (xr 1)) aN)))) (sRetI (xite (cLt (xg [11] 8 (xr 1)) (xc 3)) (xadd (xi 2) (xdiv (xg [11] 9 (xr 1)) (xc 2))) (xi 2))))
set_option maxHeartbeats 4000000 in
set_option maxRecDepth 20000 in
theorem F_Wise_taken (X : WX) (d : Nat) : FS X "FastClock$Wise" b_Wise_taken 3 (some .int) false (rmOf (d + 1) 0 0) 0 27 0 0 (B_Wise_taken X d) :=
  (s_seq (s_I_n (k_I (k_P (r_aload_n d_Wise_taken_0 rfl) (a_C (v_R (r_aload_n d_Wise_taken_1 rfl)) a_N) U_Wise_7 (by decide) (Nat.le_refl _) (rm_loc (by decide)) d_Wise_taken_2)) (by decide) d_Wise_taken_5 rfl) (s_retI (r_itea (c_lt_f (r_g (r_aload_n d_Wise_taken_6 rfl) G_Wise_11 d_Wise_taken_7) (r_iconst d_Wise_taken_10 (by decide)) d_Wise_taken_11 (by decide)) (f2 (r_add (r_iload_n d_Wise_taken_14 rfl) (r_div (r_g (r_aload_n d_Wise_taken_15 rfl) G_Wise_17 d_Wise_taken_16) (r_iconst d_Wise_taken_19 (by decide)) d_Wise_taken_20) d_Wise_taken_21)) d_Wise_taken_22 (by decide) (r_iload_n d_Wise_taken_25 rfl)) rfl d_Wise_taken_26))
def B_Wise_tells (X : WX) (d : Nat) : ST := (sSeq (sK (kV X M_Trace_begin d 2 (xr 1) (aC (vI (xc 41)) aN))) (sRetI (xadd (kI (kP X M_Person_tells d (xr 0) (aC (vR (xr 1)) (aC (vI (xsub (xi 2) (xc 1))) aN)))) (kI (kD X TG_Wise_looks d (xr 0) (aC (vR (xr 1)) (aC (vI (xc 2)) aN)))))))
set_option maxHeartbeats 4000000 in
set_option maxRecDepth 20000 in
theorem F_Wise_tells (X : WX) (d : Nat) : FS X "FastClock$Wise" b_Wise_tells 3 (some .int) false (rmOf (d + 1) 0 0) 0 22 0 0 (B_Wise_tells X d) :=
  (s_seq (s_K (k_V (r_aload_n d_Wise_tells_0 rfl) (a_C (v_I (r_bipush d_Wise_tells_1 (by decide))) a_N) V_Wise_20 (by decide) (Nat.le_refl _) (rm_loc (by decide)) d_Wise_tells_3)) (s_retI (r_add (k_I (k_P (r_aload_n d_Wise_tells_6 rfl) (a_C (v_R (r_aload_n d_Wise_tells_7 rfl)) (a_C (v_I (r_sub (r_iload_n d_Wise_tells_8 rfl) (r_iconst d_Wise_tells_9 (by decide)) d_Wise_tells_10)) a_N)) U_Wise_26 (by decide) (Nat.le_refl _) (rm_loc (by decide)) d_Wise_tells_11)) (k_I (k_D (r_aload_n d_Wise_tells_14 rfl) (a_C (v_R (r_aload_n d_Wise_tells_15 rfl)) (a_C (v_I (r_iconst d_Wise_tells_16 (by decide))) a_N)) D_Wise_30 (by decide) (Nat.le_refl _) (tg_loc (by decide)) d_Wise_tells_17)) d_Wise_tells_20) rfl d_Wise_tells_21))
def B_Chance_init (X : WX) (d : Nat) : ST := (sSeq (sCtor X (rmOf (d + 1) 1 140) M_Off_init d 1 140 (xr 0) (aC (vI (xi 1)) (aC (vI (xi 2)) aN))) sRet)
set_option maxHeartbeats 4000000 in
set_option maxRecDepth 20000 in
theorem F_Chance_init (X : WX) (d : Nat) : FS X "FastClock$Chance" b_Chance_init 3 (none) true (rmOf (d + 1) 1 140) 0 7 0 0 (B_Chance_init X d) :=
  (s_seq (s_ctor (r_aload_n d_Chance_init_0 rfl) (a_C (v_I (r_iload_n d_Chance_init_1 rfl)) (a_C (v_I (r_iload_n d_Chance_init_2 rfl)) a_N)) C_Chance_1 (Nat.le_refl _) (rm_loc (by decide)) d_Chance_init_3) (s_ret rfl d_Chance_init_6))
def B_Chance_kind (X : WX) (d : Nat) : ST := (sRetI (xc 5))
set_option maxHeartbeats 4000000 in
set_option maxRecDepth 20000 in
theorem F_Chance_kind (X : WX) (d : Nat) : FS X "FastClock$Chance" b_Chance_kind 1 (some .int) false (rmOf (d + 1) 0 0) 0 2 0 0 (B_Chance_kind X d) :=
  (s_retI (r_iconst d_Chance_kind_0 (by decide)) rfl d_Chance_kind_1)
def B_Chance_taken (X : WX) (d : Nat) : ST := (sRetI (xsub (kI (kP X M_Off_taken d (xr 0) (aC (vR (xr 1)) aN))) (xdiv (xabs (xsub (xald X (xgR [11] 0 (xr 1)) (xc 0)) (xald X (xgR [11] 0 (xr 1)) (xc 1)))) (xc 2))))
set_option maxHeartbeats 4000000 in
set_option maxRecDepth 20000 in
theorem F_Chance_taken (X : WX) (d : Nat) : FS X "FastClock$Chance" b_Chance_taken 2 (some .int) false (rmOf (d + 1) 0 0) 0 25 0 0 (B_Chance_taken X d) :=
  (s_retI (r_sub (k_I (k_P (r_aload_n d_Chance_taken_0 rfl) (a_C (v_R (r_aload_n d_Chance_taken_1 rfl)) a_N) U_Chance_7 (by decide) (Nat.le_refl _) (rm_loc (by decide)) d_Chance_taken_2)) (r_div (r_abs (r_sub (r_ald (r_gR (r_aload_n d_Chance_taken_5 rfl) G_Chance_11 d_Chance_taken_6) (r_iconst d_Chance_taken_9 (by decide)) d_Chance_taken_10) (r_ald (r_gR (r_aload_n d_Chance_taken_11 rfl) G_Chance_11 d_Chance_taken_12) (r_iconst d_Chance_taken_15 (by decide)) d_Chance_taken_16) d_Chance_taken_17) (tg 643 (by decide +kernel) rfl) (Nat.le_add_left 1 _) (loc_of (by decide)) d_Chance_taken_18) (r_iconst d_Chance_taken_21 (by decide)) d_Chance_taken_22) d_Chance_taken_23) rfl d_Chance_taken_24)
def B_Chance_looks (X : WX) (d : Nat) : ST := (sSeq (sK (kV X M_Trace_begin d 2 (xr 1) (aC (vI (xc 51)) aN))) (sRetI (xxor (kI (kP X M_Person_looks d (xr 0) (aC (vR (xr 1)) (aC (vI (xi 2)) aN)))) (xg [9] 0 (xr 0)))))
set_option maxHeartbeats 4000000 in
set_option maxRecDepth 20000 in
theorem F_Chance_looks (X : WX) (d : Nat) : FS X "FastClock$Chance" b_Chance_looks 3 (some .int) false (rmOf (d + 1) 0 0) 0 18 0 0 (B_Chance_looks X d) :=
  (s_seq (s_K (k_V (r_aload_n d_Chance_looks_0 rfl) (a_C (v_I (r_bipush d_Chance_looks_1 (by decide))) a_N) V_Chance_23 (by decide) (Nat.le_refl _) (rm_loc (by decide)) d_Chance_looks_3)) (s_retI (r_xor (k_I (k_P (r_aload_n d_Chance_looks_6 rfl) (a_C (v_R (r_aload_n d_Chance_looks_7 rfl)) (a_C (v_I (r_iload_n d_Chance_looks_8 rfl)) a_N)) U_Chance_29 (by decide) (Nat.le_refl _) (rm_loc (by decide)) d_Chance_looks_9)) (r_g (r_aload_n d_Chance_looks_12 rfl) G_Chance_33 d_Chance_looks_13) d_Chance_looks_16) rfl d_Chance_looks_17))
def B_Told_init (X : WX) (d : Nat) : ST := (sSeq (sCtor X (rmOf (d + 1) 1 140) M_Rash_init d 1 140 (xr 0) (aC (vI (xi 1)) (aC (vI (xi 2)) aN))) sRet)
set_option maxHeartbeats 4000000 in
set_option maxRecDepth 20000 in
theorem F_Told_init (X : WX) (d : Nat) : FS X "FastClock$Told" b_Told_init 3 (none) true (rmOf (d + 1) 1 140) 0 7 0 0 (B_Told_init X d) :=
  (s_seq (s_ctor (r_aload_n d_Told_init_0 rfl) (a_C (v_I (r_iload_n d_Told_init_1 rfl)) (a_C (v_I (r_iload_n d_Told_init_2 rfl)) a_N)) C_Told_3 (Nat.le_refl _) (rm_loc (by decide)) d_Told_init_3) (s_ret rfl d_Told_init_6))
def B_Told_kind (X : WX) (d : Nat) : ST := (sRetI (xc 6))
set_option maxHeartbeats 4000000 in
set_option maxRecDepth 20000 in
theorem F_Told_kind (X : WX) (d : Nat) : FS X "FastClock$Told" b_Told_kind 1 (some .int) false (rmOf (d + 1) 0 0) 0 3 0 0 (B_Told_kind X d) :=
  (s_retI (r_bipush d_Told_kind_0 (by decide)) rfl d_Told_kind_2)
def B_Told_taken (X : WX) (d : Nat) : ST := (sRetI (xald X (xgR [11] 4 (xr 1)) (xadd (xmul (xg [10] 0 (xr 0)) (xc 4)) (xrem (xg [11] 7 (xr 1)) (xc 4)))))
set_option maxHeartbeats 4000000 in
set_option maxRecDepth 20000 in
theorem F_Told_taken (X : WX) (d : Nat) : FS X "FastClock$Told" b_Told_taken 2 (some .int) false (rmOf (d + 1) 0 0) 0 19 0 0 (B_Told_taken X d) :=
  (s_retI (r_ald (r_gR (r_aload_n d_Told_taken_0 rfl) G_Told_9 d_Told_taken_1) (r_add (r_mul (r_g (r_aload_n d_Told_taken_4 rfl) G_Told_15 d_Told_taken_5) (r_iconst d_Told_taken_8 (by decide)) d_Told_taken_9) (r_rem (r_g (r_aload_n d_Told_taken_10 rfl) G_Told_21 d_Told_taken_11) (r_iconst d_Told_taken_14 (by decide)) d_Told_taken_15) d_Told_taken_16) d_Told_taken_17) rfl d_Told_taken_18)
def B_Told_goes (X : WX) (d : Nat) : ST := (sSeq (sK (kV X M_Trace_begin d 2 (xr 1) (aC (vI (xc 61)) aN))) (sRetI (xadd (kI (kP X M_Person_goes d (xr 0) (aC (vR (xr 1)) (aC (vI (xi 2)) aN)))) (xg [10] 1 (xr 0)))))
set_option maxHeartbeats 4000000 in
set_option maxRecDepth 20000 in
theorem F_Told_goes (X : WX) (d : Nat) : FS X "FastClock$Told" b_Told_goes 3 (some .int) false (rmOf (d + 1) 0 0) 0 18 0 0 (B_Told_goes X d) :=
  (s_seq (s_K (k_V (r_aload_n d_Told_goes_0 rfl) (a_C (v_I (r_bipush d_Told_goes_1 (by decide))) a_N) V_Told_24 (by decide) (Nat.le_refl _) (rm_loc (by decide)) d_Told_goes_3)) (s_retI (r_add (k_I (k_P (r_aload_n d_Told_goes_6 rfl) (a_C (v_R (r_aload_n d_Told_goes_7 rfl)) (a_C (v_I (r_iload_n d_Told_goes_8 rfl)) a_N)) U_Told_30 (by decide) (Nat.le_refl _) (rm_loc (by decide)) d_Told_goes_9)) (r_g (r_aload_n d_Told_goes_12 rfl) G_Told_34 d_Told_goes_13) d_Told_goes_16) rfl d_Told_goes_17))
