/-! decoded by program -/
theorem d_FC_init_0 : decode b_FC_init 0 = .ok (.aload_n 0, 1) := by decide +kernel
theorem d_FC_init_1 : decode b_FC_init 1 = .ok (.invokespecial 3, 3) := by decide +kernel
theorem d_FC_init_4 : decode b_FC_init 4 = .ok (.aload_n 0, 1) := by decide +kernel
theorem d_FC_init_5 : decode b_FC_init 5 = .ok (.new 9, 3) := by decide +kernel
theorem d_FC_init_8 : decode b_FC_init 8 = .ok (.dup, 1) := by decide +kernel
theorem d_FC_init_9 : decode b_FC_init 9 = .ok (.invokespecial 11, 3) := by decide +kernel
theorem d_FC_init_12 : decode b_FC_init 12 = .ok (.putfield 12, 3) := by decide +kernel
theorem d_FC_init_15 : decode b_FC_init 15 = .ok (.aload_n 0, 1) := by decide +kernel
theorem d_FC_init_16 : decode b_FC_init 16 = .ok (.new 9, 3) := by decide +kernel
theorem d_FC_init_19 : decode b_FC_init 19 = .ok (.dup, 1) := by decide +kernel
theorem d_FC_init_20 : decode b_FC_init 20 = .ok (.invokespecial 11, 3) := by decide +kernel
theorem d_FC_init_23 : decode b_FC_init 23 = .ok (.putfield 18, 3) := by decide +kernel
theorem d_FC_init_26 : decode b_FC_init 26 = .ok (.aload_n 0, 1) := by decide +kernel
theorem d_FC_init_27 : decode b_FC_init 27 = .ok (.iconst 0, 1) := by decide +kernel
theorem d_FC_init_28 : decode b_FC_init 28 = .ok (.putfield 21, 3) := by decide +kernel
theorem d_FC_init_31 : decode b_FC_init 31 = .ok (.aload_n 0, 1) := by decide +kernel
theorem d_FC_init_32 : decode b_FC_init 32 = .ok (.new 25, 3) := by decide +kernel
theorem d_FC_init_35 : decode b_FC_init 35 = .ok (.dup, 1) := by decide +kernel
theorem d_FC_init_36 : decode b_FC_init 36 = .ok (.invokespecial 27, 3) := by decide +kernel
theorem d_FC_init_39 : decode b_FC_init 39 = .ok (.putfield 28, 3) := by decide +kernel
theorem d_FC_init_42 : decode b_FC_init 42 = .ok (.new 32, 3) := by decide +kernel
theorem d_FC_init_45 : decode b_FC_init 45 = .ok (.dup, 1) := by decide +kernel
theorem d_FC_init_46 : decode b_FC_init 46 = .ok (.invokespecial 34, 3) := by decide +kernel
theorem d_FC_init_49 : decode b_FC_init 49 = .ok (.astore_n 1, 1) := by decide +kernel
theorem d_FC_init_50 : decode b_FC_init 50 = .ok (.new 35, 3) := by decide +kernel
theorem d_FC_init_53 : decode b_FC_init 53 = .ok (.dup, 1) := by decide +kernel
theorem d_FC_init_54 : decode b_FC_init 54 = .ok (.iconst 0, 1) := by decide +kernel
theorem d_FC_init_55 : decode b_FC_init 55 = .ok (.iconst 0, 1) := by decide +kernel
theorem d_FC_init_56 : decode b_FC_init 56 = .ok (.invokespecial 37, 3) := by decide +kernel
theorem d_FC_init_59 : decode b_FC_init 59 = .ok (.astore_n 2, 1) := by decide +kernel
theorem d_FC_init_60 : decode b_FC_init 60 = .ok (.aload_n 0, 1) := by decide +kernel
theorem d_FC_init_61 : decode b_FC_init 61 = .ok (.new 40, 3) := by decide +kernel
theorem d_FC_init_64 : decode b_FC_init 64 = .ok (.dup, 1) := by decide +kernel
theorem d_FC_init_65 : decode b_FC_init 65 = .ok (.aload_n 1, 1) := by decide +kernel
theorem d_FC_init_66 : decode b_FC_init 66 = .ok (.aload_n 2, 1) := by decide +kernel
theorem d_FC_init_67 : decode b_FC_init 67 = .ok (.invokespecial 42, 3) := by decide +kernel
theorem d_FC_init_70 : decode b_FC_init 70 = .ok (.putfield 45, 3) := by decide +kernel
theorem d_FC_init_73 : decode b_FC_init 73 = .ok (.aload_n 0, 1) := by decide +kernel
theorem d_FC_init_74 : decode b_FC_init 74 = .ok (.new 40, 3) := by decide +kernel
theorem d_FC_init_77 : decode b_FC_init 77 = .ok (.dup, 1) := by decide +kernel
theorem d_FC_init_78 : decode b_FC_init 78 = .ok (.aload_n 1, 1) := by decide +kernel
theorem d_FC_init_79 : decode b_FC_init 79 = .ok (.aload_n 2, 1) := by decide +kernel
theorem d_FC_init_80 : decode b_FC_init 80 = .ok (.invokespecial 42, 3) := by decide +kernel
theorem d_FC_init_83 : decode b_FC_init 83 = .ok (.putfield 49, 3) := by decide +kernel
theorem d_FC_init_86 : decode b_FC_init 86 = .ok (.aload_n 0, 1) := by decide +kernel
theorem d_FC_init_87 : decode b_FC_init 87 = .ok (.new 40, 3) := by decide +kernel
theorem d_FC_init_90 : decode b_FC_init 90 = .ok (.dup, 1) := by decide +kernel
theorem d_FC_init_91 : decode b_FC_init 91 = .ok (.aload_n 1, 1) := by decide +kernel
theorem d_FC_init_92 : decode b_FC_init 92 = .ok (.aload_n 2, 1) := by decide +kernel
theorem d_FC_init_93 : decode b_FC_init 93 = .ok (.invokespecial 42, 3) := by decide +kernel
theorem d_FC_init_96 : decode b_FC_init 96 = .ok (.putfield 52, 3) := by decide +kernel
theorem d_FC_init_99 : decode b_FC_init 99 = .ok (.aload_n 0, 1) := by decide +kernel
theorem d_FC_init_100 : decode b_FC_init 100 = .ok (.new 40, 3) := by decide +kernel
theorem d_FC_init_103 : decode b_FC_init 103 = .ok (.dup, 1) := by decide +kernel
theorem d_FC_init_104 : decode b_FC_init 104 = .ok (.aload_n 1, 1) := by decide +kernel
theorem d_FC_init_105 : decode b_FC_init 105 = .ok (.aload_n 2, 1) := by decide +kernel
theorem d_FC_init_106 : decode b_FC_init 106 = .ok (.invokespecial 42, 3) := by decide +kernel
theorem d_FC_init_109 : decode b_FC_init 109 = .ok (.putfield 55, 3) := by decide +kernel
theorem d_FC_init_112 : decode b_FC_init 112 = .ok (.return_, 1) := by decide +kernel
theorem d_FC_feed_0 : decode b_FC_feed 0 = .ok (.iload_n 1, 1) := by decide +kernel
theorem d_FC_feed_1 : decode b_FC_feed 1 = .ok (.ifCond .lt 9, 3) := by decide +kernel
theorem d_FC_feed_4 : decode b_FC_feed 4 = .ok (.iload_n 1, 1) := by decide +kernel
theorem d_FC_feed_5 : decode b_FC_feed 5 = .ok (.bipush 127, 2) := by decide +kernel
theorem d_FC_feed_7 : decode b_FC_feed 7 = .ok (.if_icmp .le 6, 3) := by decide +kernel
theorem d_FC_feed_10 : decode b_FC_feed 10 = .ok (.bipush (-2), 2) := by decide +kernel
theorem d_FC_feed_12 : decode b_FC_feed 12 = .ok (.ireturn, 1) := by decide +kernel
theorem d_FC_feed_13 : decode b_FC_feed 13 = .ok (.aload_n 0, 1) := by decide +kernel
theorem d_FC_feed_14 : decode b_FC_feed 14 = .ok (.getfield 12, 3) := by decide +kernel
theorem d_FC_feed_17 : decode b_FC_feed 17 = .ok (.getfield 58, 3) := by decide +kernel
theorem d_FC_feed_20 : decode b_FC_feed 20 = .ok (.bipush 100, 2) := by decide +kernel
theorem d_FC_feed_22 : decode b_FC_feed 22 = .ok (.if_icmp .lt 6, 3) := by decide +kernel
theorem d_FC_feed_25 : decode b_FC_feed 25 = .ok (.bipush (-4), 2) := by decide +kernel
theorem d_FC_feed_27 : decode b_FC_feed 27 = .ok (.ireturn, 1) := by decide +kernel
theorem d_FC_feed_28 : decode b_FC_feed 28 = .ok (.aload_n 0, 1) := by decide +kernel
theorem d_FC_feed_29 : decode b_FC_feed 29 = .ok (.getfield 12, 3) := by decide +kernel
theorem d_FC_feed_32 : decode b_FC_feed 32 = .ok (.getfield 62, 3) := by decide +kernel
theorem d_FC_feed_35 : decode b_FC_feed 35 = .ok (.aload_n 0, 1) := by decide +kernel
theorem d_FC_feed_36 : decode b_FC_feed 36 = .ok (.getfield 12, 3) := by decide +kernel
theorem d_FC_feed_39 : decode b_FC_feed 39 = .ok (.getfield 58, 3) := by decide +kernel
theorem d_FC_feed_42 : decode b_FC_feed 42 = .ok (.iload_n 1, 1) := by decide +kernel
theorem d_FC_feed_43 : decode b_FC_feed 43 = .ok (.iastore, 1) := by decide +kernel
theorem d_FC_feed_44 : decode b_FC_feed 44 = .ok (.aload_n 0, 1) := by decide +kernel
theorem d_FC_feed_45 : decode b_FC_feed 45 = .ok (.getfield 12, 3) := by decide +kernel
theorem d_FC_feed_48 : decode b_FC_feed 48 = .ok (.dup, 1) := by decide +kernel
theorem d_FC_feed_49 : decode b_FC_feed 49 = .ok (.getfield 58, 3) := by decide +kernel
theorem d_FC_feed_52 : decode b_FC_feed 52 = .ok (.iconst 1, 1) := by decide +kernel
theorem d_FC_feed_53 : decode b_FC_feed 53 = .ok (.iadd, 1) := by decide +kernel
theorem d_FC_feed_54 : decode b_FC_feed 54 = .ok (.putfield 58, 3) := by decide +kernel
theorem d_FC_feed_57 : decode b_FC_feed 57 = .ok (.aload_n 0, 1) := by decide +kernel
theorem d_FC_feed_58 : decode b_FC_feed 58 = .ok (.getfield 12, 3) := by decide +kernel
theorem d_FC_feed_61 : decode b_FC_feed 61 = .ok (.getfield 58, 3) := by decide +kernel
theorem d_FC_feed_64 : decode b_FC_feed 64 = .ok (.ireturn, 1) := by decide +kernel
theorem d_FC_house_0 : decode b_FC_house 0 = .ok (.aload_n 0, 1) := by decide +kernel
theorem d_FC_house_1 : decode b_FC_house 1 = .ok (.getfield 12, 3) := by decide +kernel
theorem d_FC_house_4 : decode b_FC_house 4 = .ok (.getfield 66, 3) := by decide +kernel
theorem d_FC_house_7 : decode b_FC_house 7 = .ok (.iconst 5, 1) := by decide +kernel
theorem d_FC_house_8 : decode b_FC_house 8 = .ok (.if_icmp .lt 6, 3) := by decide +kernel
theorem d_FC_house_11 : decode b_FC_house 11 = .ok (.bipush (-4), 2) := by decide +kernel
theorem d_FC_house_13 : decode b_FC_house 13 = .ok (.ireturn, 1) := by decide +kernel
theorem d_FC_house_14 : decode b_FC_house 14 = .ok (.new 32, 3) := by decide +kernel
theorem d_FC_house_17 : decode b_FC_house 17 = .ok (.dup, 1) := by decide +kernel
theorem d_FC_house_18 : decode b_FC_house 18 = .ok (.invokespecial 34, 3) := by decide +kernel
theorem d_FC_house_21 : decode b_FC_house 21 = .ok (.astore_n 1, 1) := by decide +kernel
theorem d_FC_house_22 : decode b_FC_house 22 = .ok (.aload_n 1, 1) := by decide +kernel
theorem d_FC_house_23 : decode b_FC_house 23 = .ok (.aload_n 0, 1) := by decide +kernel
theorem d_FC_house_24 : decode b_FC_house 24 = .ok (.getfield 12, 3) := by decide +kernel
theorem d_FC_house_27 : decode b_FC_house 27 = .ok (.getfield 62, 3) := by decide +kernel
theorem d_FC_house_30 : decode b_FC_house 30 = .ok (.aload_n 0, 1) := by decide +kernel
theorem d_FC_house_31 : decode b_FC_house 31 = .ok (.getfield 12, 3) := by decide +kernel
theorem d_FC_house_34 : decode b_FC_house 34 = .ok (.getfield 58, 3) := by decide +kernel
theorem d_FC_house_37 : decode b_FC_house 37 = .ok (.invokevirtual 69, 3) := by decide +kernel
theorem d_FC_house_40 : decode b_FC_house 40 = .ok (.istore_n 2, 1) := by decide +kernel
theorem d_FC_house_41 : decode b_FC_house 41 = .ok (.aload_n 0, 1) := by decide +kernel
theorem d_FC_house_42 : decode b_FC_house 42 = .ok (.getfield 12, 3) := by decide +kernel
theorem d_FC_house_45 : decode b_FC_house 45 = .ok (.iconst 0, 1) := by decide +kernel
theorem d_FC_house_46 : decode b_FC_house 46 = .ok (.putfield 58, 3) := by decide +kernel
theorem d_FC_house_49 : decode b_FC_house 49 = .ok (.iload_n 2, 1) := by decide +kernel
theorem d_FC_house_50 : decode b_FC_house 50 = .ok (.ifCond .lt 8, 3) := by decide +kernel
theorem d_FC_house_53 : decode b_FC_house 53 = .ok (.bipush (-10), 2) := by decide +kernel
theorem d_FC_house_55 : decode b_FC_house 55 = .ok (.iload_n 2, 1) := by decide +kernel
theorem d_FC_house_56 : decode b_FC_house 56 = .ok (.isub, 1) := by decide +kernel
theorem d_FC_house_57 : decode b_FC_house 57 = .ok (.ireturn, 1) := by decide +kernel
theorem d_FC_house_58 : decode b_FC_house 58 = .ok (.aload_n 0, 1) := by decide +kernel
theorem d_FC_house_59 : decode b_FC_house 59 = .ok (.getfield 45, 3) := by decide +kernel
theorem d_FC_house_62 : decode b_FC_house 62 = .ok (.aload_n 1, 1) := by decide +kernel
theorem d_FC_house_63 : decode b_FC_house 63 = .ok (.putfield 73, 3) := by decide +kernel
theorem d_FC_house_66 : decode b_FC_house 66 = .ok (.aload_n 0, 1) := by decide +kernel
theorem d_FC_house_67 : decode b_FC_house 67 = .ok (.getfield 12, 3) := by decide +kernel
theorem d_FC_house_70 : decode b_FC_house 70 = .ok (.dup, 1) := by decide +kernel
theorem d_FC_house_71 : decode b_FC_house 71 = .ok (.getfield 66, 3) := by decide +kernel
theorem d_FC_house_74 : decode b_FC_house 74 = .ok (.iconst 1, 1) := by decide +kernel
theorem d_FC_house_75 : decode b_FC_house 75 = .ok (.iadd, 1) := by decide +kernel
theorem d_FC_house_76 : decode b_FC_house 76 = .ok (.putfield 66, 3) := by decide +kernel
theorem d_FC_house_79 : decode b_FC_house 79 = .ok (.aload_n 0, 1) := by decide +kernel
theorem d_FC_house_80 : decode b_FC_house 80 = .ok (.getfield 12, 3) := by decide +kernel
theorem d_FC_house_83 : decode b_FC_house 83 = .ok (.getfield 66, 3) := by decide +kernel
theorem d_FC_house_86 : decode b_FC_house 86 = .ok (.iconst 1, 1) := by decide +kernel
theorem d_FC_house_87 : decode b_FC_house 87 = .ok (.isub, 1) := by decide +kernel
theorem d_FC_house_88 : decode b_FC_house 88 = .ok (.ireturn, 1) := by decide +kernel
theorem d_FC_person_0 : decode b_FC_person 0 = .ok (.iload_n 1, 1) := by decide +kernel
theorem d_FC_person_1 : decode b_FC_person 1 = .ok (.ifCond .lt 9, 3) := by decide +kernel
theorem d_FC_person_4 : decode b_FC_person 4 = .ok (.iload_n 1, 1) := by decide +kernel
theorem d_FC_person_5 : decode b_FC_person 5 = .ok (.bipush 7, 2) := by decide +kernel
theorem d_FC_person_7 : decode b_FC_person 7 = .ok (.if_icmp .lt 5, 3) := by decide +kernel
theorem d_FC_person_10 : decode b_FC_person 10 = .ok (.iconst (-1), 1) := by decide +kernel
theorem d_FC_person_11 : decode b_FC_person 11 = .ok (.ireturn, 1) := by decide +kernel
theorem d_FC_person_12 : decode b_FC_person 12 = .ok (.iload_n 2, 1) := by decide +kernel
theorem d_FC_person_13 : decode b_FC_person 13 = .ok (.ifCond .lt 9, 3) := by decide +kernel
theorem d_FC_person_16 : decode b_FC_person 16 = .ok (.iload_n 2, 1) := by decide +kernel
theorem d_FC_person_17 : decode b_FC_person 17 = .ok (.bipush 9, 2) := by decide +kernel
theorem d_FC_person_19 : decode b_FC_person 19 = .ok (.if_icmp .le 6, 3) := by decide +kernel
theorem d_FC_person_22 : decode b_FC_person 22 = .ok (.bipush (-2), 2) := by decide +kernel
theorem d_FC_person_24 : decode b_FC_person 24 = .ok (.ireturn, 1) := by decide +kernel
theorem d_FC_person_25 : decode b_FC_person 25 = .ok (.aload_n 0, 1) := by decide +kernel
theorem d_FC_person_26 : decode b_FC_person 26 = .ok (.getfield 45, 3) := by decide +kernel
theorem d_FC_person_29 : decode b_FC_person 29 = .ok (.getfield 77, 3) := by decide +kernel
theorem d_FC_person_32 : decode b_FC_person 32 = .ok (.bipush 6, 2) := by decide +kernel
theorem d_FC_person_34 : decode b_FC_person 34 = .ok (.if_icmp .lt 6, 3) := by decide +kernel
theorem d_FC_person_37 : decode b_FC_person 37 = .ok (.bipush (-4), 2) := by decide +kernel
theorem d_FC_person_39 : decode b_FC_person 39 = .ok (.ireturn, 1) := by decide +kernel
theorem d_FC_person_40 : decode b_FC_person 40 = .ok (.aload_n 0, 1) := by decide +kernel
theorem d_FC_person_41 : decode b_FC_person 41 = .ok (.getfield 45, 3) := by decide +kernel
theorem d_FC_person_44 : decode b_FC_person 44 = .ok (.getfield 77, 3) := by decide +kernel
theorem d_FC_person_47 : decode b_FC_person 47 = .ok (.istore_n 3, 1) := by decide +kernel
theorem d_FC_person_48 : decode b_FC_person 48 = .ok (.aload_n 0, 1) := by decide +kernel
theorem d_FC_person_49 : decode b_FC_person 49 = .ok (.getfield 45, 3) := by decide +kernel
theorem d_FC_person_52 : decode b_FC_person 52 = .ok (.getfield 80, 3) := by decide +kernel
theorem d_FC_person_55 : decode b_FC_person 55 = .ok (.iload_n 3, 1) := by decide +kernel
theorem d_FC_person_56 : decode b_FC_person 56 = .ok (.iload_n 1, 1) := by decide +kernel
theorem d_FC_person_57 : decode b_FC_person 57 = .ok (.iload_n 3, 1) := by decide +kernel
theorem d_FC_person_58 : decode b_FC_person 58 = .ok (.iload_n 2, 1) := by decide +kernel
theorem d_FC_person_59 : decode b_FC_person 59 = .ok (.invokestatic 84, 3) := by decide +kernel
theorem d_FC_person_62 : decode b_FC_person 62 = .ok (.aastore, 1) := by decide +kernel
theorem d_FC_person_63 : decode b_FC_person 63 = .ok (.aload_n 0, 1) := by decide +kernel
theorem d_FC_person_64 : decode b_FC_person 64 = .ok (.getfield 45, 3) := by decide +kernel
theorem d_FC_person_67 : decode b_FC_person 67 = .ok (.getfield 88, 3) := by decide +kernel
theorem d_FC_person_70 : decode b_FC_person 70 = .ok (.iload_n 3, 1) := by decide +kernel
theorem d_FC_person_71 : decode b_FC_person 71 = .ok (.iconst 0, 1) := by decide +kernel
theorem d_FC_person_72 : decode b_FC_person 72 = .ok (.iastore, 1) := by decide +kernel
theorem d_FC_person_73 : decode b_FC_person 73 = .ok (.aload_n 0, 1) := by decide +kernel
theorem d_FC_person_74 : decode b_FC_person 74 = .ok (.getfield 45, 3) := by decide +kernel
theorem d_FC_person_77 : decode b_FC_person 77 = .ok (.getfield 91, 3) := by decide +kernel
theorem d_FC_person_80 : decode b_FC_person 80 = .ok (.iload_n 3, 1) := by decide +kernel
theorem d_FC_person_81 : decode b_FC_person 81 = .ok (.iconst 0, 1) := by decide +kernel
theorem d_FC_person_82 : decode b_FC_person 82 = .ok (.iastore, 1) := by decide +kernel
theorem d_FC_person_83 : decode b_FC_person 83 = .ok (.iconst 0, 1) := by decide +kernel
theorem d_FC_person_84 : decode b_FC_person 84 = .ok (.istore 4, 2) := by decide +kernel
theorem d_FC_person_86 : decode b_FC_person 86 = .ok (.iload 4, 2) := by decide +kernel
theorem d_FC_person_88 : decode b_FC_person 88 = .ok (.iconst 4, 1) := by decide +kernel
theorem d_FC_person_89 : decode b_FC_person 89 = .ok (.if_icmp .ge 24, 3) := by decide +kernel
theorem d_FC_person_92 : decode b_FC_person 92 = .ok (.aload_n 0, 1) := by decide +kernel
theorem d_FC_person_93 : decode b_FC_person 93 = .ok (.getfield 45, 3) := by decide +kernel
theorem d_FC_person_96 : decode b_FC_person 96 = .ok (.getfield 94, 3) := by decide +kernel
theorem d_FC_person_99 : decode b_FC_person 99 = .ok (.iload_n 3, 1) := by decide +kernel
theorem d_FC_person_100 : decode b_FC_person 100 = .ok (.iconst 4, 1) := by decide +kernel
theorem d_FC_person_101 : decode b_FC_person 101 = .ok (.imul, 1) := by decide +kernel
theorem d_FC_person_102 : decode b_FC_person 102 = .ok (.iload 4, 2) := by decide +kernel
theorem d_FC_person_104 : decode b_FC_person 104 = .ok (.iadd, 1) := by decide +kernel
theorem d_FC_person_105 : decode b_FC_person 105 = .ok (.iconst 0, 1) := by decide +kernel
theorem d_FC_person_106 : decode b_FC_person 106 = .ok (.iastore, 1) := by decide +kernel
theorem d_FC_person_107 : decode b_FC_person 107 = .ok (.iinc 4 1, 3) := by decide +kernel
theorem d_FC_person_110 : decode b_FC_person 110 = .ok (.goto (-24), 3) := by decide +kernel
theorem d_FC_person_113 : decode b_FC_person 113 = .ok (.aload_n 0, 1) := by decide +kernel
theorem d_FC_person_114 : decode b_FC_person 114 = .ok (.getfield 45, 3) := by decide +kernel
theorem d_FC_person_117 : decode b_FC_person 117 = .ok (.dup, 1) := by decide +kernel
theorem d_FC_person_118 : decode b_FC_person 118 = .ok (.getfield 77, 3) := by decide +kernel
theorem d_FC_person_121 : decode b_FC_person 121 = .ok (.iconst 1, 1) := by decide +kernel
theorem d_FC_person_122 : decode b_FC_person 122 = .ok (.iadd, 1) := by decide +kernel
theorem d_FC_person_123 : decode b_FC_person 123 = .ok (.putfield 77, 3) := by decide +kernel
theorem d_FC_person_126 : decode b_FC_person 126 = .ok (.iload_n 3, 1) := by decide +kernel
theorem d_FC_person_127 : decode b_FC_person 127 = .ok (.ireturn, 1) := by decide +kernel
theorem d_FC_of_0 : decode b_FC_of 0 = .ok (.aload_n 0, 1) := by decide +kernel
theorem d_FC_of_1 : decode b_FC_of 1 = .ok (.iload_n 1, 1) := by decide +kernel
theorem d_FC_of_2 : decode b_FC_of 2 = .ok (.invokevirtual 97, 3) := by decide +kernel
theorem d_FC_of_5 : decode b_FC_of 5 = .ok (.ifCond .ne 7, 3) := by decide +kernel
theorem d_FC_of_8 : decode b_FC_of 8 = .ok (.sipush (-10001), 3) := by decide +kernel
theorem d_FC_of_11 : decode b_FC_of 11 = .ok (.ireturn, 1) := by decide +kernel
theorem d_FC_of_12 : decode b_FC_of 12 = .ok (.iload_n 2, 1) := by decide +kernel
theorem d_FC_of_13 : decode b_FC_of 13 = .ok (.tableswitch 155 0 7 #[47, 60, 73, 83, 93, 110, 127, 136], 47) := by decide +kernel
theorem d_FC_of_60 : decode b_FC_of 60 = .ok (.aload_n 0, 1) := by decide +kernel
theorem d_FC_of_61 : decode b_FC_of 61 = .ok (.getfield 45, 3) := by decide +kernel
theorem d_FC_of_64 : decode b_FC_of 64 = .ok (.getfield 80, 3) := by decide +kernel
theorem d_FC_of_67 : decode b_FC_of 67 = .ok (.iload_n 1, 1) := by decide +kernel
theorem d_FC_of_68 : decode b_FC_of 68 = .ok (.aaload, 1) := by decide +kernel
theorem d_FC_of_69 : decode b_FC_of 69 = .ok (.invokevirtual 101, 3) := by decide +kernel
theorem d_FC_of_72 : decode b_FC_of 72 = .ok (.ireturn, 1) := by decide +kernel
theorem d_FC_of_73 : decode b_FC_of 73 = .ok (.aload_n 0, 1) := by decide +kernel
theorem d_FC_of_74 : decode b_FC_of 74 = .ok (.getfield 45, 3) := by decide +kernel
theorem d_FC_of_77 : decode b_FC_of 77 = .ok (.getfield 80, 3) := by decide +kernel
theorem d_FC_of_80 : decode b_FC_of 80 = .ok (.iload_n 1, 1) := by decide +kernel
theorem d_FC_of_81 : decode b_FC_of 81 = .ok (.aaload, 1) := by decide +kernel
theorem d_FC_of_82 : decode b_FC_of 82 = .ok (.getfield 105, 3) := by decide +kernel
theorem d_FC_of_85 : decode b_FC_of 85 = .ok (.ireturn, 1) := by decide +kernel
theorem d_FC_of_86 : decode b_FC_of 86 = .ok (.aload_n 0, 1) := by decide +kernel
theorem d_FC_of_87 : decode b_FC_of 87 = .ok (.getfield 45, 3) := by decide +kernel
theorem d_FC_of_90 : decode b_FC_of 90 = .ok (.getfield 88, 3) := by decide +kernel
theorem d_FC_of_93 : decode b_FC_of 93 = .ok (.iload_n 1, 1) := by decide +kernel
theorem d_FC_of_94 : decode b_FC_of 94 = .ok (.iaload, 1) := by decide +kernel
theorem d_FC_of_95 : decode b_FC_of 95 = .ok (.ireturn, 1) := by decide +kernel
theorem d_FC_of_96 : decode b_FC_of 96 = .ok (.aload_n 0, 1) := by decide +kernel
theorem d_FC_of_97 : decode b_FC_of 97 = .ok (.getfield 45, 3) := by decide +kernel
theorem d_FC_of_100 : decode b_FC_of 100 = .ok (.getfield 91, 3) := by decide +kernel
theorem d_FC_of_103 : decode b_FC_of 103 = .ok (.iload_n 1, 1) := by decide +kernel
theorem d_FC_of_104 : decode b_FC_of 104 = .ok (.iaload, 1) := by decide +kernel
theorem d_FC_of_105 : decode b_FC_of 105 = .ok (.ireturn, 1) := by decide +kernel
theorem d_FC_of_106 : decode b_FC_of 106 = .ok (.aload_n 0, 1) := by decide +kernel
theorem d_FC_of_107 : decode b_FC_of 107 = .ok (.getfield 45, 3) := by decide +kernel
theorem d_FC_of_110 : decode b_FC_of 110 = .ok (.getfield 80, 3) := by decide +kernel
theorem d_FC_of_113 : decode b_FC_of 113 = .ok (.iload_n 1, 1) := by decide +kernel
theorem d_FC_of_114 : decode b_FC_of 114 = .ok (.aaload, 1) := by decide +kernel
theorem d_FC_of_115 : decode b_FC_of 115 = .ok (.aload_n 0, 1) := by decide +kernel
theorem d_FC_of_116 : decode b_FC_of 116 = .ok (.getfield 45, 3) := by decide +kernel
theorem d_FC_of_119 : decode b_FC_of 119 = .ok (.invokevirtual 108, 3) := by decide +kernel
theorem d_FC_of_122 : decode b_FC_of 122 = .ok (.ireturn, 1) := by decide +kernel
theorem d_FC_of_123 : decode b_FC_of 123 = .ok (.aload_n 0, 1) := by decide +kernel
theorem d_FC_of_124 : decode b_FC_of 124 = .ok (.getfield 45, 3) := by decide +kernel
theorem d_FC_of_127 : decode b_FC_of 127 = .ok (.getfield 80, 3) := by decide +kernel
theorem d_FC_of_130 : decode b_FC_of 130 = .ok (.iload_n 1, 1) := by decide +kernel
theorem d_FC_of_131 : decode b_FC_of 131 = .ok (.aaload, 1) := by decide +kernel
theorem d_FC_of_132 : decode b_FC_of 132 = .ok (.aload_n 0, 1) := by decide +kernel
theorem d_FC_of_133 : decode b_FC_of 133 = .ok (.getfield 45, 3) := by decide +kernel
theorem d_FC_of_136 : decode b_FC_of 136 = .ok (.invokevirtual 112, 3) := by decide +kernel
theorem d_FC_of_139 : decode b_FC_of 139 = .ok (.ireturn, 1) := by decide +kernel
theorem d_FC_of_140 : decode b_FC_of 140 = .ok (.aload_n 0, 1) := by decide +kernel
theorem d_FC_of_141 : decode b_FC_of 141 = .ok (.getfield 45, 3) := by decide +kernel
theorem d_FC_of_144 : decode b_FC_of 144 = .ok (.iload_n 1, 1) := by decide +kernel
theorem d_FC_of_145 : decode b_FC_of 145 = .ok (.invokevirtual 115, 3) := by decide +kernel
theorem d_FC_of_148 : decode b_FC_of 148 = .ok (.ireturn, 1) := by decide +kernel
theorem d_FC_of_149 : decode b_FC_of 149 = .ok (.aload_n 0, 1) := by decide +kernel
theorem d_FC_of_150 : decode b_FC_of 150 = .ok (.getfield 45, 3) := by decide +kernel
theorem d_FC_of_153 : decode b_FC_of 153 = .ok (.getfield 73, 3) := by decide +kernel
theorem d_FC_of_156 : decode b_FC_of 156 = .ok (.aload_n 0, 1) := by decide +kernel
theorem d_FC_of_157 : decode b_FC_of 157 = .ok (.getfield 45, 3) := by decide +kernel
theorem d_FC_of_160 : decode b_FC_of 160 = .ok (.iload_n 1, 1) := by decide +kernel
theorem d_FC_of_161 : decode b_FC_of 161 = .ok (.invokevirtual 115, 3) := by decide +kernel
theorem d_FC_of_164 : decode b_FC_of 164 = .ok (.invokevirtual 119, 3) := by decide +kernel
theorem d_FC_of_167 : decode b_FC_of 167 = .ok (.ireturn, 1) := by decide +kernel
theorem d_FC_of_168 : decode b_FC_of 168 = .ok (.sipush (-10001), 3) := by decide +kernel
theorem d_FC_of_171 : decode b_FC_of 171 = .ok (.ireturn, 1) := by decide +kernel
theorem d_FC_use_0 : decode b_FC_use 0 = .ok (.aload_n 0, 1) := by decide +kernel
theorem d_FC_use_1 : decode b_FC_use 1 = .ok (.iload_n 1, 1) := by decide +kernel
theorem d_FC_use_2 : decode b_FC_use 2 = .ok (.invokevirtual 97, 3) := by decide +kernel
theorem d_FC_use_5 : decode b_FC_use 5 = .ok (.ifCond .eq 10, 3) := by decide +kernel
theorem d_FC_use_8 : decode b_FC_use 8 = .ok (.iload_n 2, 1) := by decide +kernel
theorem d_FC_use_9 : decode b_FC_use 9 = .ok (.invokestatic 122, 3) := by decide +kernel
theorem d_FC_use_12 : decode b_FC_use 12 = .ok (.ifCond .ne 5, 3) := by decide +kernel
theorem d_FC_use_15 : decode b_FC_use 15 = .ok (.iconst (-1), 1) := by decide +kernel
theorem d_FC_use_16 : decode b_FC_use 16 = .ok (.ireturn, 1) := by decide +kernel
theorem d_FC_use_17 : decode b_FC_use 17 = .ok (.aload_n 0, 1) := by decide +kernel
theorem d_FC_use_18 : decode b_FC_use 18 = .ok (.getfield 45, 3) := by decide +kernel
theorem d_FC_use_21 : decode b_FC_use 21 = .ok (.getfield 88, 3) := by decide +kernel
theorem d_FC_use_24 : decode b_FC_use 24 = .ok (.iload_n 1, 1) := by decide +kernel
theorem d_FC_use_25 : decode b_FC_use 25 = .ok (.iaload, 1) := by decide +kernel
theorem d_FC_use_26 : decode b_FC_use 26 = .ok (.istore_n 3, 1) := by decide +kernel
theorem d_FC_use_27 : decode b_FC_use 27 = .ok (.aload_n 0, 1) := by decide +kernel
theorem d_FC_use_28 : decode b_FC_use 28 = .ok (.getfield 45, 3) := by decide +kernel
theorem d_FC_use_31 : decode b_FC_use 31 = .ok (.getfield 88, 3) := by decide +kernel
theorem d_FC_use_34 : decode b_FC_use 34 = .ok (.iload_n 1, 1) := by decide +kernel
theorem d_FC_use_35 : decode b_FC_use 35 = .ok (.iload_n 2, 1) := by decide +kernel
theorem d_FC_use_36 : decode b_FC_use 36 = .ok (.iastore, 1) := by decide +kernel
theorem d_FC_use_37 : decode b_FC_use 37 = .ok (.iload_n 3, 1) := by decide +kernel
theorem d_FC_use_38 : decode b_FC_use 38 = .ok (.ireturn, 1) := by decide +kernel
theorem d_FC_believe_0 : decode b_FC_believe 0 = .ok (.aload_n 0, 1) := by decide +kernel
theorem d_FC_believe_1 : decode b_FC_believe 1 = .ok (.iload_n 1, 1) := by decide +kernel
theorem d_FC_believe_2 : decode b_FC_believe 2 = .ok (.invokevirtual 97, 3) := by decide +kernel
theorem d_FC_believe_5 : decode b_FC_believe 5 = .ok (.ifCond .ne 7, 3) := by decide +kernel
theorem d_FC_believe_8 : decode b_FC_believe 8 = .ok (.sipush (-10001), 3) := by decide +kernel
theorem d_FC_believe_11 : decode b_FC_believe 11 = .ok (.ireturn, 1) := by decide +kernel
theorem d_FC_believe_12 : decode b_FC_believe 12 = .ok (.iload_n 2, 1) := by decide +kernel
theorem d_FC_believe_13 : decode b_FC_believe 13 = .ok (.invokestatic 125, 3) := by decide +kernel
theorem d_FC_believe_16 : decode b_FC_believe 16 = .ok (.ifCond .ne 7, 3) := by decide +kernel
theorem d_FC_believe_19 : decode b_FC_believe 19 = .ok (.sipush (-10002), 3) := by decide +kernel
theorem d_FC_believe_22 : decode b_FC_believe 22 = .ok (.ireturn, 1) := by decide +kernel
theorem d_FC_believe_23 : decode b_FC_believe 23 = .ok (.aload_n 0, 1) := by decide +kernel
theorem d_FC_believe_24 : decode b_FC_believe 24 = .ok (.getfield 45, 3) := by decide +kernel
theorem d_FC_believe_27 : decode b_FC_believe 27 = .ok (.getfield 91, 3) := by decide +kernel
theorem d_FC_believe_30 : decode b_FC_believe 30 = .ok (.iload_n 1, 1) := by decide +kernel
theorem d_FC_believe_31 : decode b_FC_believe 31 = .ok (.iaload, 1) := by decide +kernel
theorem d_FC_believe_32 : decode b_FC_believe 32 = .ok (.istore_n 3, 1) := by decide +kernel
theorem d_FC_believe_33 : decode b_FC_believe 33 = .ok (.aload_n 0, 1) := by decide +kernel
theorem d_FC_believe_34 : decode b_FC_believe 34 = .ok (.getfield 45, 3) := by decide +kernel
theorem d_FC_believe_37 : decode b_FC_believe 37 = .ok (.getfield 91, 3) := by decide +kernel
theorem d_FC_believe_40 : decode b_FC_believe 40 = .ok (.iload_n 1, 1) := by decide +kernel
theorem d_FC_believe_41 : decode b_FC_believe 41 = .ok (.iload_n 2, 1) := by decide +kernel
theorem d_FC_believe_42 : decode b_FC_believe 42 = .ok (.iastore, 1) := by decide +kernel
theorem d_FC_believe_43 : decode b_FC_believe 43 = .ok (.iload_n 3, 1) := by decide +kernel
theorem d_FC_believe_44 : decode b_FC_believe 44 = .ok (.ireturn, 1) := by decide +kernel
theorem d_FC_row_0 : decode b_FC_row 0 = .ok (.aload_n 0, 1) := by decide +kernel
theorem d_FC_row_1 : decode b_FC_row 1 = .ok (.iload_n 1, 1) := by decide +kernel
theorem d_FC_row_2 : decode b_FC_row 2 = .ok (.invokevirtual 97, 3) := by decide +kernel
theorem d_FC_row_5 : decode b_FC_row 5 = .ok (.ifCond .eq 12, 3) := by decide +kernel
theorem d_FC_row_8 : decode b_FC_row 8 = .ok (.iload_n 2, 1) := by decide +kernel
theorem d_FC_row_9 : decode b_FC_row 9 = .ok (.ifCond .lt 8, 3) := by decide +kernel
theorem d_FC_row_12 : decode b_FC_row 12 = .ok (.iload_n 2, 1) := by decide +kernel
theorem d_FC_row_13 : decode b_FC_row 13 = .ok (.iconst 4, 1) := by decide +kernel
theorem d_FC_row_14 : decode b_FC_row 14 = .ok (.if_icmp .lt 5, 3) := by decide +kernel
theorem d_FC_row_17 : decode b_FC_row 17 = .ok (.iconst (-1), 1) := by decide +kernel
theorem d_FC_row_18 : decode b_FC_row 18 = .ok (.ireturn, 1) := by decide +kernel
theorem d_FC_row_19 : decode b_FC_row 19 = .ok (.iload_n 3, 1) := by decide +kernel
theorem d_FC_row_20 : decode b_FC_row 20 = .ok (.ifCond .lt 9, 3) := by decide +kernel
theorem d_FC_row_23 : decode b_FC_row 23 = .ok (.iload_n 3, 1) := by decide +kernel
theorem d_FC_row_24 : decode b_FC_row 24 = .ok (.bipush 9, 2) := by decide +kernel
theorem d_FC_row_26 : decode b_FC_row 26 = .ok (.if_icmp .le 6, 3) := by decide +kernel
theorem d_FC_row_29 : decode b_FC_row 29 = .ok (.bipush (-2), 2) := by decide +kernel
theorem d_FC_row_31 : decode b_FC_row 31 = .ok (.ireturn, 1) := by decide +kernel
theorem d_FC_row_32 : decode b_FC_row 32 = .ok (.aload_n 0, 1) := by decide +kernel
theorem d_FC_row_33 : decode b_FC_row 33 = .ok (.getfield 45, 3) := by decide +kernel
theorem d_FC_row_36 : decode b_FC_row 36 = .ok (.getfield 80, 3) := by decide +kernel
theorem d_FC_row_39 : decode b_FC_row 39 = .ok (.iload_n 1, 1) := by decide +kernel
theorem d_FC_row_40 : decode b_FC_row 40 = .ok (.aaload, 1) := by decide +kernel
theorem d_FC_row_41 : decode b_FC_row 41 = .ok (.instanceof 128, 3) := by decide +kernel
theorem d_FC_row_44 : decode b_FC_row 44 = .ok (.ifCond .ne 6, 3) := by decide +kernel
theorem d_FC_row_47 : decode b_FC_row 47 = .ok (.bipush (-3), 2) := by decide +kernel
theorem d_FC_row_49 : decode b_FC_row 49 = .ok (.ireturn, 1) := by decide +kernel
theorem d_FC_row_50 : decode b_FC_row 50 = .ok (.iload_n 1, 1) := by decide +kernel
theorem d_FC_row_51 : decode b_FC_row 51 = .ok (.iconst 4, 1) := by decide +kernel
theorem d_FC_row_52 : decode b_FC_row 52 = .ok (.imul, 1) := by decide +kernel
theorem d_FC_row_53 : decode b_FC_row 53 = .ok (.iload_n 2, 1) := by decide +kernel
theorem d_FC_row_54 : decode b_FC_row 54 = .ok (.iadd, 1) := by decide +kernel
theorem d_FC_row_55 : decode b_FC_row 55 = .ok (.istore 4, 2) := by decide +kernel
theorem d_FC_row_57 : decode b_FC_row 57 = .ok (.aload_n 0, 1) := by decide +kernel
theorem d_FC_row_58 : decode b_FC_row 58 = .ok (.getfield 45, 3) := by decide +kernel
theorem d_FC_row_61 : decode b_FC_row 61 = .ok (.getfield 94, 3) := by decide +kernel
theorem d_FC_row_64 : decode b_FC_row 64 = .ok (.iload 4, 2) := by decide +kernel
theorem d_FC_row_66 : decode b_FC_row 66 = .ok (.iaload, 1) := by decide +kernel
theorem d_FC_row_67 : decode b_FC_row 67 = .ok (.istore 5, 2) := by decide +kernel
theorem d_FC_row_69 : decode b_FC_row 69 = .ok (.aload_n 0, 1) := by decide +kernel
theorem d_FC_row_70 : decode b_FC_row 70 = .ok (.getfield 45, 3) := by decide +kernel
theorem d_FC_row_73 : decode b_FC_row 73 = .ok (.getfield 94, 3) := by decide +kernel
theorem d_FC_row_76 : decode b_FC_row 76 = .ok (.iload 4, 2) := by decide +kernel
theorem d_FC_row_78 : decode b_FC_row 78 = .ok (.iload_n 3, 1) := by decide +kernel
theorem d_FC_row_79 : decode b_FC_row 79 = .ok (.iastore, 1) := by decide +kernel
theorem d_FC_row_80 : decode b_FC_row 80 = .ok (.iload 5, 2) := by decide +kernel
theorem d_FC_row_82 : decode b_FC_row 82 = .ok (.ireturn, 1) := by decide +kernel
theorem d_FC_set_0 : decode b_FC_set 0 = .ok (.iload_n 1, 1) := by decide +kernel
theorem d_FC_set_1 : decode b_FC_set 1 = .ok (.invokestatic 122, 3) := by decide +kernel
theorem d_FC_set_4 : decode b_FC_set 4 = .ok (.ifCond .ne 7, 3) := by decide +kernel
theorem d_FC_set_7 : decode b_FC_set 7 = .ok (.sipush (-10001), 3) := by decide +kernel
theorem d_FC_set_10 : decode b_FC_set 10 = .ok (.ireturn, 1) := by decide +kernel
theorem d_FC_set_11 : decode b_FC_set 11 = .ok (.iload_n 2, 1) := by decide +kernel
theorem d_FC_set_12 : decode b_FC_set 12 = .ok (.invokestatic 125, 3) := by decide +kernel
theorem d_FC_set_15 : decode b_FC_set 15 = .ok (.ifCond .ne 7, 3) := by decide +kernel
theorem d_FC_set_18 : decode b_FC_set 18 = .ok (.sipush (-10002), 3) := by decide +kernel
theorem d_FC_set_21 : decode b_FC_set 21 = .ok (.ireturn, 1) := by decide +kernel
theorem d_FC_set_22 : decode b_FC_set 22 = .ok (.aload_n 0, 1) := by decide +kernel
theorem d_FC_set_23 : decode b_FC_set 23 = .ok (.getfield 45, 3) := by decide +kernel
theorem d_FC_set_26 : decode b_FC_set 26 = .ok (.iload_n 1, 1) := by decide +kernel
theorem d_FC_set_27 : decode b_FC_set 27 = .ok (.iload_n 2, 1) := by decide +kernel
theorem d_FC_set_28 : decode b_FC_set 28 = .ok (.invokevirtual 130, 3) := by decide +kernel
theorem d_FC_set_31 : decode b_FC_set 31 = .ok (.aload_n 0, 1) := by decide +kernel
theorem d_FC_set_32 : decode b_FC_set 32 = .ok (.getfield 45, 3) := by decide +kernel
theorem d_FC_set_35 : decode b_FC_set 35 = .ok (.getfield 133, 3) := by decide +kernel
theorem d_FC_set_38 : decode b_FC_set 38 = .ok (.ireturn, 1) := by decide +kernel
theorem d_FC_hear_0 : decode b_FC_hear 0 = .ok (.aload_n 0, 1) := by decide +kernel
theorem d_FC_hear_1 : decode b_FC_hear 1 = .ok (.iload_n 1, 1) := by decide +kernel
theorem d_FC_hear_2 : decode b_FC_hear 2 = .ok (.invokevirtual 97, 3) := by decide +kernel
theorem d_FC_hear_5 : decode b_FC_hear 5 = .ok (.ifCond .ne 7, 3) := by decide +kernel
theorem d_FC_hear_8 : decode b_FC_hear 8 = .ok (.sipush (-10001), 3) := by decide +kernel
theorem d_FC_hear_11 : decode b_FC_hear 11 = .ok (.ireturn, 1) := by decide +kernel
theorem d_FC_hear_12 : decode b_FC_hear 12 = .ok (.aload_n 0, 1) := by decide +kernel
theorem d_FC_hear_13 : decode b_FC_hear 13 = .ok (.getfield 45, 3) := by decide +kernel
theorem d_FC_hear_16 : decode b_FC_hear 16 = .ok (.iload_n 1, 1) := by decide +kernel
theorem d_FC_hear_17 : decode b_FC_hear 17 = .ok (.invokevirtual 136, 3) := by decide +kernel
theorem d_FC_hear_20 : decode b_FC_hear 20 = .ok (.aload_n 0, 1) := by decide +kernel
theorem d_FC_hear_21 : decode b_FC_hear 21 = .ok (.getfield 45, 3) := by decide +kernel
theorem d_FC_hear_24 : decode b_FC_hear 24 = .ok (.getfield 91, 3) := by decide +kernel
theorem d_FC_hear_27 : decode b_FC_hear 27 = .ok (.iload_n 1, 1) := by decide +kernel
theorem d_FC_hear_28 : decode b_FC_hear 28 = .ok (.iaload, 1) := by decide +kernel
theorem d_FC_hear_29 : decode b_FC_hear 29 = .ok (.ireturn, 1) := by decide +kernel
theorem d_FC_tell_0 : decode b_FC_tell 0 = .ok (.aload_n 0, 1) := by decide +kernel
theorem d_FC_tell_1 : decode b_FC_tell 1 = .ok (.iload_n 1, 1) := by decide +kernel
theorem d_FC_tell_2 : decode b_FC_tell 2 = .ok (.invokevirtual 97, 3) := by decide +kernel
theorem d_FC_tell_5 : decode b_FC_tell 5 = .ok (.ifCond .eq 11, 3) := by decide +kernel
theorem d_FC_tell_8 : decode b_FC_tell 8 = .ok (.aload_n 0, 1) := by decide +kernel
theorem d_FC_tell_9 : decode b_FC_tell 9 = .ok (.iload_n 2, 1) := by decide +kernel
theorem d_FC_tell_10 : decode b_FC_tell 10 = .ok (.invokevirtual 97, 3) := by decide +kernel
theorem d_FC_tell_13 : decode b_FC_tell 13 = .ok (.ifCond .ne 7, 3) := by decide +kernel
theorem d_FC_tell_16 : decode b_FC_tell 16 = .ok (.sipush (-10001), 3) := by decide +kernel
theorem d_FC_tell_19 : decode b_FC_tell 19 = .ok (.ireturn, 1) := by decide +kernel
theorem d_FC_tell_20 : decode b_FC_tell 20 = .ok (.iload_n 1, 1) := by decide +kernel
theorem d_FC_tell_21 : decode b_FC_tell 21 = .ok (.iload_n 2, 1) := by decide +kernel
theorem d_FC_tell_22 : decode b_FC_tell 22 = .ok (.if_icmp .ne 7, 3) := by decide +kernel
theorem d_FC_tell_25 : decode b_FC_tell 25 = .ok (.sipush (-10002), 3) := by decide +kernel
theorem d_FC_tell_28 : decode b_FC_tell 28 = .ok (.ireturn, 1) := by decide +kernel
theorem d_FC_tell_29 : decode b_FC_tell 29 = .ok (.aload_n 0, 1) := by decide +kernel
theorem d_FC_tell_30 : decode b_FC_tell 30 = .ok (.getfield 45, 3) := by decide +kernel
theorem d_FC_tell_33 : decode b_FC_tell 33 = .ok (.getfield 88, 3) := by decide +kernel
theorem d_FC_tell_36 : decode b_FC_tell 36 = .ok (.iload_n 1, 1) := by decide +kernel
theorem d_FC_tell_37 : decode b_FC_tell 37 = .ok (.iaload, 1) := by decide +kernel
theorem d_FC_tell_38 : decode b_FC_tell 38 = .ok (.aload_n 0, 1) := by decide +kernel
theorem d_FC_tell_39 : decode b_FC_tell 39 = .ok (.getfield 45, 3) := by decide +kernel
theorem d_FC_tell_42 : decode b_FC_tell 42 = .ok (.getfield 88, 3) := by decide +kernel
theorem d_FC_tell_45 : decode b_FC_tell 45 = .ok (.iload_n 2, 1) := by decide +kernel
theorem d_FC_tell_46 : decode b_FC_tell 46 = .ok (.iaload, 1) := by decide +kernel
theorem d_FC_tell_47 : decode b_FC_tell 47 = .ok (.if_icmp .eq 7, 3) := by decide +kernel
theorem d_FC_tell_50 : decode b_FC_tell 50 = .ok (.sipush (-10003), 3) := by decide +kernel
theorem d_FC_tell_53 : decode b_FC_tell 53 = .ok (.ireturn, 1) := by decide +kernel
theorem d_FC_tell_54 : decode b_FC_tell 54 = .ok (.aload_n 0, 1) := by decide +kernel
theorem d_FC_tell_55 : decode b_FC_tell 55 = .ok (.getfield 45, 3) := by decide +kernel
theorem d_FC_tell_58 : decode b_FC_tell 58 = .ok (.getfield 91, 3) := by decide +kernel
theorem d_FC_tell_61 : decode b_FC_tell 61 = .ok (.iload_n 2, 1) := by decide +kernel
theorem d_FC_tell_62 : decode b_FC_tell 62 = .ok (.aload_n 0, 1) := by decide +kernel
theorem d_FC_tell_63 : decode b_FC_tell 63 = .ok (.getfield 45, 3) := by decide +kernel
theorem d_FC_tell_66 : decode b_FC_tell 66 = .ok (.getfield 91, 3) := by decide +kernel
theorem d_FC_tell_69 : decode b_FC_tell 69 = .ok (.iload_n 1, 1) := by decide +kernel
theorem d_FC_tell_70 : decode b_FC_tell 70 = .ok (.iaload, 1) := by decide +kernel
theorem d_FC_tell_71 : decode b_FC_tell 71 = .ok (.iastore, 1) := by decide +kernel
theorem d_FC_tell_72 : decode b_FC_tell 72 = .ok (.aload_n 0, 1) := by decide +kernel
theorem d_FC_tell_73 : decode b_FC_tell 73 = .ok (.getfield 45, 3) := by decide +kernel
theorem d_FC_tell_76 : decode b_FC_tell 76 = .ok (.getfield 91, 3) := by decide +kernel
theorem d_FC_tell_79 : decode b_FC_tell 79 = .ok (.iload_n 2, 1) := by decide +kernel
theorem d_FC_tell_80 : decode b_FC_tell 80 = .ok (.iaload, 1) := by decide +kernel
theorem d_FC_tell_81 : decode b_FC_tell 81 = .ok (.ireturn, 1) := by decide +kernel
theorem d_FC_told_0 : decode b_FC_told 0 = .ok (.iload_n 1, 1) := by decide +kernel
theorem d_FC_told_1 : decode b_FC_told 1 = .ok (.tableswitch 129 0 11 #[63, 71, 79, 87, 98, 129, 129, 129, 129, 129, 109, 119], 63) := by decide +kernel
theorem d_FC_told_64 : decode b_FC_told 64 = .ok (.aload_n 0, 1) := by decide +kernel
theorem d_FC_told_65 : decode b_FC_told 65 = .ok (.getfield 45, 3) := by decide +kernel
theorem d_FC_told_68 : decode b_FC_told 68 = .ok (.getfield 140, 3) := by decide +kernel
theorem d_FC_told_71 : decode b_FC_told 71 = .ok (.ireturn, 1) := by decide +kernel
theorem d_FC_told_72 : decode b_FC_told 72 = .ok (.aload_n 0, 1) := by decide +kernel
theorem d_FC_told_73 : decode b_FC_told 73 = .ok (.getfield 45, 3) := by decide +kernel
theorem d_FC_told_76 : decode b_FC_told 76 = .ok (.getfield 143, 3) := by decide +kernel
theorem d_FC_told_79 : decode b_FC_told 79 = .ok (.ireturn, 1) := by decide +kernel
theorem d_FC_told_80 : decode b_FC_told 80 = .ok (.aload_n 0, 1) := by decide +kernel
theorem d_FC_told_81 : decode b_FC_told 81 = .ok (.getfield 45, 3) := by decide +kernel
theorem d_FC_told_84 : decode b_FC_told 84 = .ok (.getfield 133, 3) := by decide +kernel
theorem d_FC_told_87 : decode b_FC_told 87 = .ok (.ireturn, 1) := by decide +kernel
theorem d_FC_told_88 : decode b_FC_told 88 = .ok (.aload_n 0, 1) := by decide +kernel
theorem d_FC_told_89 : decode b_FC_told 89 = .ok (.getfield 45, 3) := by decide +kernel
theorem d_FC_told_92 : decode b_FC_told 92 = .ok (.getfield 73, 3) := by decide +kernel
theorem d_FC_told_95 : decode b_FC_told 95 = .ok (.getfield 146, 3) := by decide +kernel
theorem d_FC_told_98 : decode b_FC_told 98 = .ok (.ireturn, 1) := by decide +kernel
theorem d_FC_told_99 : decode b_FC_told 99 = .ok (.aload_n 0, 1) := by decide +kernel
theorem d_FC_told_100 : decode b_FC_told 100 = .ok (.getfield 45, 3) := by decide +kernel
theorem d_FC_told_103 : decode b_FC_told 103 = .ok (.getfield 73, 3) := by decide +kernel
theorem d_FC_told_106 : decode b_FC_told 106 = .ok (.getfield 149, 3) := by decide +kernel
theorem d_FC_told_109 : decode b_FC_told 109 = .ok (.ireturn, 1) := by decide +kernel
theorem d_FC_told_110 : decode b_FC_told 110 = .ok (.aload_n 0, 1) := by decide +kernel
theorem d_FC_told_111 : decode b_FC_told 111 = .ok (.getfield 45, 3) := by decide +kernel
theorem d_FC_told_114 : decode b_FC_told 114 = .ok (.getfield 152, 3) := by decide +kernel
theorem d_FC_told_117 : decode b_FC_told 117 = .ok (.iconst 0, 1) := by decide +kernel
theorem d_FC_told_118 : decode b_FC_told 118 = .ok (.iaload, 1) := by decide +kernel
theorem d_FC_told_119 : decode b_FC_told 119 = .ok (.ireturn, 1) := by decide +kernel
theorem d_FC_told_120 : decode b_FC_told 120 = .ok (.aload_n 0, 1) := by decide +kernel
theorem d_FC_told_121 : decode b_FC_told 121 = .ok (.getfield 45, 3) := by decide +kernel
theorem d_FC_told_124 : decode b_FC_told 124 = .ok (.getfield 152, 3) := by decide +kernel
theorem d_FC_told_127 : decode b_FC_told 127 = .ok (.iconst 1, 1) := by decide +kernel
theorem d_FC_told_128 : decode b_FC_told 128 = .ok (.iaload, 1) := by decide +kernel
theorem d_FC_told_129 : decode b_FC_told 129 = .ok (.ireturn, 1) := by decide +kernel
theorem d_FC_told_130 : decode b_FC_told 130 = .ok (.sipush (-10001), 3) := by decide +kernel
theorem d_FC_told_133 : decode b_FC_told 133 = .ok (.ireturn, 1) := by decide +kernel
theorem d_FC_day_0 : decode b_FC_day 0 = .ok (.aload_n 0, 1) := by decide +kernel
theorem d_FC_day_1 : decode b_FC_day 1 = .ok (.getfield 45, 3) := by decide +kernel
theorem d_FC_day_4 : decode b_FC_day 4 = .ok (.getfield 140, 3) := by decide +kernel
theorem d_FC_day_7 : decode b_FC_day 7 = .ok (.sipush 9999, 3) := by decide +kernel
theorem d_FC_day_10 : decode b_FC_day 10 = .ok (.if_icmp .lt 6, 3) := by decide +kernel
theorem d_FC_day_13 : decode b_FC_day 13 = .ok (.bipush (-3), 2) := by decide +kernel
theorem d_FC_day_15 : decode b_FC_day 15 = .ok (.ireturn, 1) := by decide +kernel
theorem d_FC_day_16 : decode b_FC_day 16 = .ok (.aload_n 0, 1) := by decide +kernel
theorem d_FC_day_17 : decode b_FC_day 17 = .ok (.getfield 45, 3) := by decide +kernel
theorem d_FC_day_20 : decode b_FC_day 20 = .ok (.iconst 0, 1) := by decide +kernel
theorem d_FC_day_21 : decode b_FC_day 21 = .ok (.invokevirtual 155, 3) := by decide +kernel
theorem d_FC_day_24 : decode b_FC_day 24 = .ok (.ireturn, 1) := by decide +kernel
theorem d_FC_on_0 : decode b_FC_on 0 = .ok (.iload_n 2, 1) := by decide +kernel
theorem d_FC_on_1 : decode b_FC_on 1 = .ok (.bipush 10, 2) := by decide +kernel
theorem d_FC_on_3 : decode b_FC_on 3 = .ok (.if_icmp .lt 18, 3) := by decide +kernel
theorem d_FC_on_6 : decode b_FC_on 6 = .ok (.aload_n 0, 1) := by decide +kernel
theorem d_FC_on_7 : decode b_FC_on 7 = .ok (.iload_n 2, 1) := by decide +kernel
theorem d_FC_on_8 : decode b_FC_on 8 = .ok (.bipush 10, 2) := by decide +kernel
theorem d_FC_on_10 : decode b_FC_on 10 = .ok (.isub, 1) := by decide +kernel
theorem d_FC_on_11 : decode b_FC_on 11 = .ok (.invokevirtual 97, 3) := by decide +kernel
theorem d_FC_on_14 : decode b_FC_on 14 = .ok (.ifCond .eq 7, 3) := by decide +kernel
theorem d_FC_on_17 : decode b_FC_on 17 = .ok (.iconst 1, 1) := by decide +kernel
theorem d_FC_on_18 : decode b_FC_on 18 = .ok (.goto 4, 3) := by decide +kernel
theorem d_FC_on_21 : decode b_FC_on 21 = .ok (.iconst 0, 1) := by decide +kernel
theorem d_FC_on_22 : decode b_FC_on 22 = .ok (.istore_n 3, 1) := by decide +kernel
theorem d_FC_on_23 : decode b_FC_on 23 = .ok (.iload_n 2, 1) := by decide +kernel
theorem d_FC_on_24 : decode b_FC_on 24 = .ok (.bipush 20, 2) := by decide +kernel
theorem d_FC_on_26 : decode b_FC_on 26 = .ok (.if_icmp .lt 18, 3) := by decide +kernel
theorem d_FC_on_29 : decode b_FC_on 29 = .ok (.aload_n 0, 1) := by decide +kernel
theorem d_FC_on_30 : decode b_FC_on 30 = .ok (.iload_n 2, 1) := by decide +kernel
theorem d_FC_on_31 : decode b_FC_on 31 = .ok (.bipush 20, 2) := by decide +kernel
theorem d_FC_on_33 : decode b_FC_on 33 = .ok (.isub, 1) := by decide +kernel
theorem d_FC_on_34 : decode b_FC_on 34 = .ok (.invokevirtual 97, 3) := by decide +kernel
theorem d_FC_on_37 : decode b_FC_on 37 = .ok (.ifCond .eq 7, 3) := by decide +kernel
theorem d_FC_on_40 : decode b_FC_on 40 = .ok (.iconst 1, 1) := by decide +kernel
theorem d_FC_on_41 : decode b_FC_on 41 = .ok (.goto 4, 3) := by decide +kernel
theorem d_FC_on_44 : decode b_FC_on 44 = .ok (.iconst 0, 1) := by decide +kernel
theorem d_FC_on_45 : decode b_FC_on 45 = .ok (.istore 4, 2) := by decide +kernel
theorem d_FC_on_47 : decode b_FC_on 47 = .ok (.iload_n 2, 1) := by decide +kernel
theorem d_FC_on_48 : decode b_FC_on 48 = .ok (.ifCond .eq 16, 3) := by decide +kernel
theorem d_FC_on_51 : decode b_FC_on 51 = .ok (.iload_n 3, 1) := by decide +kernel
theorem d_FC_on_52 : decode b_FC_on 52 = .ok (.ifCond .ne 12, 3) := by decide +kernel
theorem d_FC_on_55 : decode b_FC_on 55 = .ok (.iload 4, 2) := by decide +kernel
theorem d_FC_on_57 : decode b_FC_on 57 = .ok (.ifCond .ne 7, 3) := by decide +kernel
theorem d_FC_on_60 : decode b_FC_on 60 = .ok (.sipush (-10001), 3) := by decide +kernel
theorem d_FC_on_63 : decode b_FC_on 63 = .ok (.ireturn, 1) := by decide +kernel
theorem d_FC_on_64 : decode b_FC_on 64 = .ok (.iload_n 1, 1) := by decide +kernel
theorem d_FC_on_65 : decode b_FC_on 65 = .ok (.ifCond .lt 9, 3) := by decide +kernel
theorem d_FC_on_68 : decode b_FC_on 68 = .ok (.iload_n 1, 1) := by decide +kernel
theorem d_FC_on_69 : decode b_FC_on 69 = .ok (.bipush 30, 2) := by decide +kernel
theorem d_FC_on_71 : decode b_FC_on 71 = .ok (.if_icmp .le 7, 3) := by decide +kernel
theorem d_FC_on_74 : decode b_FC_on 74 = .ok (.sipush (-10002), 3) := by decide +kernel
theorem d_FC_on_77 : decode b_FC_on 77 = .ok (.ireturn, 1) := by decide +kernel
theorem d_FC_on_78 : decode b_FC_on 78 = .ok (.aload_n 0, 1) := by decide +kernel
theorem d_FC_on_79 : decode b_FC_on 79 = .ok (.getfield 49, 3) := by decide +kernel
theorem d_FC_on_82 : decode b_FC_on 82 = .ok (.aload_n 0, 1) := by decide +kernel
theorem d_FC_on_83 : decode b_FC_on 83 = .ok (.getfield 45, 3) := by decide +kernel
theorem d_FC_on_86 : decode b_FC_on 86 = .ok (.invokevirtual 158, 3) := by decide +kernel
theorem d_FC_on_89 : decode b_FC_on 89 = .ok (.aload_n 0, 1) := by decide +kernel
theorem d_FC_on_90 : decode b_FC_on 90 = .ok (.getfield 49, 3) := by decide +kernel
theorem d_FC_on_93 : decode b_FC_on 93 = .ok (.iload_n 1, 1) := by decide +kernel
theorem d_FC_on_94 : decode b_FC_on 94 = .ok (.iconst 0, 1) := by decide +kernel
theorem d_FC_on_95 : decode b_FC_on 95 = .ok (.invokevirtual 162, 3) := by decide +kernel
theorem d_FC_on_98 : decode b_FC_on 98 = .ok (.istore 5, 2) := by decide +kernel
theorem d_FC_on_100 : decode b_FC_on 100 = .ok (.iload_n 3, 1) := by decide +kernel
theorem d_FC_on_101 : decode b_FC_on 101 = .ok (.ifCond .eq 15, 3) := by decide +kernel
theorem d_FC_on_104 : decode b_FC_on 104 = .ok (.aload_n 0, 1) := by decide +kernel
theorem d_FC_on_105 : decode b_FC_on 105 = .ok (.getfield 49, 3) := by decide +kernel
theorem d_FC_on_108 : decode b_FC_on 108 = .ok (.iload_n 2, 1) := by decide +kernel
theorem d_FC_on_109 : decode b_FC_on 109 = .ok (.bipush 10, 2) := by decide +kernel
theorem d_FC_on_111 : decode b_FC_on 111 = .ok (.isub, 1) := by decide +kernel
theorem d_FC_on_112 : decode b_FC_on 112 = .ok (.invokevirtual 115, 3) := by decide +kernel
theorem d_FC_on_115 : decode b_FC_on 115 = .ok (.ireturn, 1) := by decide +kernel
theorem d_FC_on_116 : decode b_FC_on 116 = .ok (.iload 4, 2) := by decide +kernel
theorem d_FC_on_118 : decode b_FC_on 118 = .ok (.ifCond .eq 16, 3) := by decide +kernel
theorem d_FC_on_121 : decode b_FC_on 121 = .ok (.aload_n 0, 1) := by decide +kernel
theorem d_FC_on_122 : decode b_FC_on 122 = .ok (.getfield 49, 3) := by decide +kernel
theorem d_FC_on_125 : decode b_FC_on 125 = .ok (.getfield 91, 3) := by decide +kernel
theorem d_FC_on_128 : decode b_FC_on 128 = .ok (.iload_n 2, 1) := by decide +kernel
theorem d_FC_on_129 : decode b_FC_on 129 = .ok (.bipush 20, 2) := by decide +kernel
theorem d_FC_on_131 : decode b_FC_on 131 = .ok (.isub, 1) := by decide +kernel
theorem d_FC_on_132 : decode b_FC_on 132 = .ok (.iaload, 1) := by decide +kernel
theorem d_FC_on_133 : decode b_FC_on 133 = .ok (.ireturn, 1) := by decide +kernel
theorem d_FC_on_134 : decode b_FC_on 134 = .ok (.iload 5, 2) := by decide +kernel
theorem d_FC_on_136 : decode b_FC_on 136 = .ok (.ireturn, 1) := by decide +kernel
theorem d_FC_inTime_0 : decode b_FC_inTime 0 = .ok (.aload_n 0, 1) := by decide +kernel
theorem d_FC_inTime_1 : decode b_FC_inTime 1 = .ok (.getfield 49, 3) := by decide +kernel
theorem d_FC_inTime_4 : decode b_FC_inTime 4 = .ok (.aload_n 0, 1) := by decide +kernel
theorem d_FC_inTime_5 : decode b_FC_inTime 5 = .ok (.getfield 45, 3) := by decide +kernel
theorem d_FC_inTime_8 : decode b_FC_inTime 8 = .ok (.invokevirtual 158, 3) := by decide +kernel
theorem d_FC_inTime_11 : decode b_FC_inTime 11 = .ok (.iconst 0, 1) := by decide +kernel
theorem d_FC_inTime_12 : decode b_FC_inTime 12 = .ok (.istore_n 1, 1) := by decide +kernel
theorem d_FC_inTime_13 : decode b_FC_inTime 13 = .ok (.iload_n 1, 1) := by decide +kernel
theorem d_FC_inTime_14 : decode b_FC_inTime 14 = .ok (.bipush 30, 2) := by decide +kernel
theorem d_FC_inTime_16 : decode b_FC_inTime 16 = .ok (.if_icmp .gt 31, 3) := by decide +kernel
theorem d_FC_inTime_19 : decode b_FC_inTime 19 = .ok (.aload_n 0, 1) := by decide +kernel
theorem d_FC_inTime_20 : decode b_FC_inTime 20 = .ok (.getfield 49, 3) := by decide +kernel
theorem d_FC_inTime_23 : decode b_FC_inTime 23 = .ok (.iconst 0, 1) := by decide +kernel
theorem d_FC_inTime_24 : decode b_FC_inTime 24 = .ok (.invokevirtual 166, 3) := by decide +kernel
theorem d_FC_inTime_27 : decode b_FC_inTime 27 = .ok (.ifCond .eq 5, 3) := by decide +kernel
theorem d_FC_inTime_30 : decode b_FC_inTime 30 = .ok (.iload_n 1, 1) := by decide +kernel
theorem d_FC_inTime_31 : decode b_FC_inTime 31 = .ok (.ireturn, 1) := by decide +kernel
theorem d_FC_inTime_32 : decode b_FC_inTime 32 = .ok (.aload_n 0, 1) := by decide +kernel
theorem d_FC_inTime_33 : decode b_FC_inTime 33 = .ok (.getfield 49, 3) := by decide +kernel
theorem d_FC_inTime_36 : decode b_FC_inTime 36 = .ok (.iconst 0, 1) := by decide +kernel
theorem d_FC_inTime_37 : decode b_FC_inTime 37 = .ok (.invokevirtual 155, 3) := by decide +kernel
theorem d_FC_inTime_40 : decode b_FC_inTime 40 = .ok (.pop, 1) := by decide +kernel
theorem d_FC_inTime_41 : decode b_FC_inTime 41 = .ok (.iinc 1 1, 3) := by decide +kernel
theorem d_FC_inTime_44 : decode b_FC_inTime 44 = .ok (.goto (-31), 3) := by decide +kernel
theorem d_FC_inTime_47 : decode b_FC_inTime 47 = .ok (.bipush (-5), 2) := by decide +kernel
theorem d_FC_inTime_49 : decode b_FC_inTime 49 = .ok (.ireturn, 1) := by decide +kernel
theorem d_FC_worst_0 : decode b_FC_worst 0 = .ok (.bipush (-5), 2) := by decide +kernel
theorem d_FC_worst_2 : decode b_FC_worst 2 = .ok (.istore_n 1, 1) := by decide +kernel
theorem d_FC_worst_3 : decode b_FC_worst 3 = .ok (.iconst 0, 1) := by decide +kernel
theorem d_FC_worst_4 : decode b_FC_worst 4 = .ok (.istore_n 2, 1) := by decide +kernel
theorem d_FC_worst_5 : decode b_FC_worst 5 = .ok (.iconst 0, 1) := by decide +kernel
theorem d_FC_worst_6 : decode b_FC_worst 6 = .ok (.istore_n 3, 1) := by decide +kernel
theorem d_FC_worst_7 : decode b_FC_worst 7 = .ok (.iload_n 3, 1) := by decide +kernel
theorem d_FC_worst_8 : decode b_FC_worst 8 = .ok (.aload_n 0, 1) := by decide +kernel
theorem d_FC_worst_9 : decode b_FC_worst 9 = .ok (.getfield 45, 3) := by decide +kernel
theorem d_FC_worst_12 : decode b_FC_worst 12 = .ok (.getfield 77, 3) := by decide +kernel
theorem d_FC_worst_15 : decode b_FC_worst 15 = .ok (.if_icmp .ge 34, 3) := by decide +kernel
theorem d_FC_worst_18 : decode b_FC_worst 18 = .ok (.aload_n 0, 1) := by decide +kernel
theorem d_FC_worst_19 : decode b_FC_worst 19 = .ok (.getfield 45, 3) := by decide +kernel
theorem d_FC_worst_22 : decode b_FC_worst 22 = .ok (.iload_n 3, 1) := by decide +kernel
theorem d_FC_worst_23 : decode b_FC_worst 23 = .ok (.invokevirtual 115, 3) := by decide +kernel
theorem d_FC_worst_26 : decode b_FC_worst 26 = .ok (.istore 4, 2) := by decide +kernel
theorem d_FC_worst_28 : decode b_FC_worst 28 = .ok (.iload_n 1, 1) := by decide +kernel
theorem d_FC_worst_29 : decode b_FC_worst 29 = .ok (.ifCond .lt 9, 3) := by decide +kernel
theorem d_FC_worst_32 : decode b_FC_worst 32 = .ok (.iload 4, 2) := by decide +kernel
theorem d_FC_worst_34 : decode b_FC_worst 34 = .ok (.iload_n 2, 1) := by decide +kernel
theorem d_FC_worst_35 : decode b_FC_worst 35 = .ok (.if_icmp .le 8, 3) := by decide +kernel
theorem d_FC_worst_38 : decode b_FC_worst 38 = .ok (.iload_n 3, 1) := by decide +kernel
theorem d_FC_worst_39 : decode b_FC_worst 39 = .ok (.istore_n 1, 1) := by decide +kernel
theorem d_FC_worst_40 : decode b_FC_worst 40 = .ok (.iload 4, 2) := by decide +kernel
theorem d_FC_worst_42 : decode b_FC_worst 42 = .ok (.istore_n 2, 1) := by decide +kernel
theorem d_FC_worst_43 : decode b_FC_worst 43 = .ok (.iinc 3 1, 3) := by decide +kernel
theorem d_FC_worst_46 : decode b_FC_worst 46 = .ok (.goto (-39), 3) := by decide +kernel
theorem d_FC_worst_49 : decode b_FC_worst 49 = .ok (.iload_n 1, 1) := by decide +kernel
theorem d_FC_worst_50 : decode b_FC_worst 50 = .ok (.ireturn, 1) := by decide +kernel
theorem d_FC_order_0 : decode b_FC_order 0 = .ok (.iconst 0, 1) := by decide +kernel
theorem d_FC_order_1 : decode b_FC_order 1 = .ok (.istore_n 2, 1) := by decide +kernel
theorem d_FC_order_2 : decode b_FC_order 2 = .ok (.iload_n 2, 1) := by decide +kernel
theorem d_FC_order_3 : decode b_FC_order 3 = .ok (.aload_n 0, 1) := by decide +kernel
theorem d_FC_order_4 : decode b_FC_order 4 = .ok (.getfield 45, 3) := by decide +kernel
theorem d_FC_order_7 : decode b_FC_order 7 = .ok (.getfield 77, 3) := by decide +kernel
theorem d_FC_order_10 : decode b_FC_order 10 = .ok (.if_icmp .ge 20, 3) := by decide +kernel
theorem d_FC_order_13 : decode b_FC_order 13 = .ok (.aload_n 0, 1) := by decide +kernel
theorem d_FC_order_14 : decode b_FC_order 14 = .ok (.iload_n 2, 1) := by decide +kernel
theorem d_FC_order_15 : decode b_FC_order 15 = .ok (.invokevirtual 169, 3) := by decide +kernel
theorem d_FC_order_18 : decode b_FC_order 18 = .ok (.iload_n 1, 1) := by decide +kernel
theorem d_FC_order_19 : decode b_FC_order 19 = .ok (.if_icmp .ne 5, 3) := by decide +kernel
theorem d_FC_order_22 : decode b_FC_order 22 = .ok (.iload_n 2, 1) := by decide +kernel
theorem d_FC_order_23 : decode b_FC_order 23 = .ok (.ireturn, 1) := by decide +kernel
theorem d_FC_order_24 : decode b_FC_order 24 = .ok (.iinc 2 1, 3) := by decide +kernel
theorem d_FC_order_27 : decode b_FC_order 27 = .ok (.goto (-25), 3) := by decide +kernel
theorem d_FC_order_30 : decode b_FC_order 30 = .ok (.iconst (-1), 1) := by decide +kernel
theorem d_FC_order_31 : decode b_FC_order 31 = .ok (.ireturn, 1) := by decide +kernel
theorem d_FC_best_0 : decode b_FC_best 0 = .ok (.iload_n 1, 1) := by decide +kernel
theorem d_FC_best_1 : decode b_FC_best 1 = .ok (.invokestatic 122, 3) := by decide +kernel
theorem d_FC_best_4 : decode b_FC_best 4 = .ok (.ifCond .eq 10, 3) := by decide +kernel
theorem d_FC_best_7 : decode b_FC_best 7 = .ok (.iload_n 3, 1) := by decide +kernel
theorem d_FC_best_8 : decode b_FC_best 8 = .ok (.invokestatic 172, 3) := by decide +kernel
theorem d_FC_best_11 : decode b_FC_best 11 = .ok (.ifCond .ne 7, 3) := by decide +kernel
theorem d_FC_best_14 : decode b_FC_best 14 = .ok (.sipush (-10001), 3) := by decide +kernel
theorem d_FC_best_17 : decode b_FC_best 17 = .ok (.ireturn, 1) := by decide +kernel
theorem d_FC_best_18 : decode b_FC_best 18 = .ok (.iload_n 2, 1) := by decide +kernel
theorem d_FC_best_19 : decode b_FC_best 19 = .ok (.iconst 1, 1) := by decide +kernel
theorem d_FC_best_20 : decode b_FC_best 20 = .ok (.if_icmp .lt 9, 3) := by decide +kernel
theorem d_FC_best_23 : decode b_FC_best 23 = .ok (.iload_n 2, 1) := by decide +kernel
theorem d_FC_best_24 : decode b_FC_best 24 = .ok (.bipush 20, 2) := by decide +kernel
theorem d_FC_best_26 : decode b_FC_best 26 = .ok (.if_icmp .le 7, 3) := by decide +kernel
theorem d_FC_best_29 : decode b_FC_best 29 = .ok (.sipush (-10002), 3) := by decide +kernel
theorem d_FC_best_32 : decode b_FC_best 32 = .ok (.ireturn, 1) := by decide +kernel
theorem d_FC_best_33 : decode b_FC_best 33 = .ok (.bipush (-30), 2) := by decide +kernel
theorem d_FC_best_35 : decode b_FC_best 35 = .ok (.istore 4, 2) := by decide +kernel
theorem d_FC_best_37 : decode b_FC_best 37 = .ok (.ldc 177, 2) := by decide +kernel
theorem d_FC_best_39 : decode b_FC_best 39 = .ok (.istore 5, 2) := by decide +kernel
theorem d_FC_best_41 : decode b_FC_best 41 = .ok (.bipush (-30), 2) := by decide +kernel
theorem d_FC_best_43 : decode b_FC_best 43 = .ok (.istore 6, 2) := by decide +kernel
theorem d_FC_best_45 : decode b_FC_best 45 = .ok (.iload 6, 2) := by decide +kernel
theorem d_FC_best_47 : decode b_FC_best 47 = .ok (.bipush 60, 2) := by decide +kernel
theorem d_FC_best_49 : decode b_FC_best 49 = .ok (.if_icmp .gt 56, 3) := by decide +kernel
theorem d_FC_best_52 : decode b_FC_best 52 = .ok (.aload_n 0, 1) := by decide +kernel
theorem d_FC_best_53 : decode b_FC_best 53 = .ok (.getfield 49, 3) := by decide +kernel
theorem d_FC_best_56 : decode b_FC_best 56 = .ok (.aload_n 0, 1) := by decide +kernel
theorem d_FC_best_57 : decode b_FC_best 57 = .ok (.getfield 45, 3) := by decide +kernel
theorem d_FC_best_60 : decode b_FC_best 60 = .ok (.invokevirtual 158, 3) := by decide +kernel
theorem d_FC_best_63 : decode b_FC_best 63 = .ok (.aload_n 0, 1) := by decide +kernel
theorem d_FC_best_64 : decode b_FC_best 64 = .ok (.getfield 49, 3) := by decide +kernel
theorem d_FC_best_67 : decode b_FC_best 67 = .ok (.iload_n 1, 1) := by decide +kernel
theorem d_FC_best_68 : decode b_FC_best 68 = .ok (.iload 6, 2) := by decide +kernel
theorem d_FC_best_70 : decode b_FC_best 70 = .ok (.invokevirtual 130, 3) := by decide +kernel
theorem d_FC_best_73 : decode b_FC_best 73 = .ok (.aload_n 0, 1) := by decide +kernel
theorem d_FC_best_74 : decode b_FC_best 74 = .ok (.getfield 49, 3) := by decide +kernel
theorem d_FC_best_77 : decode b_FC_best 77 = .ok (.iload_n 2, 1) := by decide +kernel
theorem d_FC_best_78 : decode b_FC_best 78 = .ok (.iconst 0, 1) := by decide +kernel
theorem d_FC_best_79 : decode b_FC_best 79 = .ok (.invokevirtual 162, 3) := by decide +kernel
theorem d_FC_best_82 : decode b_FC_best 82 = .ok (.istore 7, 2) := by decide +kernel
theorem d_FC_best_84 : decode b_FC_best 84 = .ok (.iload 7, 2) := by decide +kernel
theorem d_FC_best_86 : decode b_FC_best 86 = .ok (.iload 5, 2) := by decide +kernel
theorem d_FC_best_88 : decode b_FC_best 88 = .ok (.if_icmp .ge 11, 3) := by decide +kernel
theorem d_FC_best_91 : decode b_FC_best 91 = .ok (.iload 7, 2) := by decide +kernel
theorem d_FC_best_93 : decode b_FC_best 93 = .ok (.istore 5, 2) := by decide +kernel
theorem d_FC_best_95 : decode b_FC_best 95 = .ok (.iload 6, 2) := by decide +kernel
theorem d_FC_best_97 : decode b_FC_best 97 = .ok (.istore 4, 2) := by decide +kernel
theorem d_FC_best_99 : decode b_FC_best 99 = .ok (.iinc 6 1, 3) := by decide +kernel
theorem d_FC_best_102 : decode b_FC_best 102 = .ok (.goto (-57), 3) := by decide +kernel
theorem d_FC_best_105 : decode b_FC_best 105 = .ok (.iload_n 3, 1) := by decide +kernel
theorem d_FC_best_106 : decode b_FC_best 106 = .ok (.ifCond .ne 8, 3) := by decide +kernel
theorem d_FC_best_109 : decode b_FC_best 109 = .ok (.iload 4, 2) := by decide +kernel
theorem d_FC_best_111 : decode b_FC_best 111 = .ok (.goto 5, 3) := by decide +kernel
theorem d_FC_best_114 : decode b_FC_best 114 = .ok (.iload 5, 2) := by decide +kernel
theorem d_FC_best_116 : decode b_FC_best 116 = .ok (.ireturn, 1) := by decide +kernel
theorem d_FC_rowOf_0 : decode b_FC_rowOf 0 = .ok (.iload_n 1, 1) := by decide +kernel
theorem d_FC_rowOf_1 : decode b_FC_rowOf 1 = .ok (.invokestatic 122, 3) := by decide +kernel
theorem d_FC_rowOf_4 : decode b_FC_rowOf 4 = .ok (.ifCond .eq 13, 3) := by decide +kernel
theorem d_FC_rowOf_7 : decode b_FC_rowOf 7 = .ok (.iload_n 3, 1) := by decide +kernel
theorem d_FC_rowOf_8 : decode b_FC_rowOf 8 = .ok (.iconst (-1), 1) := by decide +kernel
theorem d_FC_rowOf_9 : decode b_FC_rowOf 9 = .ok (.if_icmp .lt 8, 3) := by decide +kernel
theorem d_FC_rowOf_12 : decode b_FC_rowOf 12 = .ok (.iload_n 3, 1) := by decide +kernel
theorem d_FC_rowOf_13 : decode b_FC_rowOf 13 = .ok (.iconst 3, 1) := by decide +kernel
theorem d_FC_rowOf_14 : decode b_FC_rowOf 14 = .ok (.if_icmp .le 5, 3) := by decide +kernel
theorem d_FC_rowOf_17 : decode b_FC_rowOf 17 = .ok (.iconst (-1), 1) := by decide +kernel
theorem d_FC_rowOf_18 : decode b_FC_rowOf 18 = .ok (.ireturn, 1) := by decide +kernel
theorem d_FC_rowOf_19 : decode b_FC_rowOf 19 = .ok (.iload_n 2, 1) := by decide +kernel
theorem d_FC_rowOf_20 : decode b_FC_rowOf 20 = .ok (.iconst 1, 1) := by decide +kernel
theorem d_FC_rowOf_21 : decode b_FC_rowOf 21 = .ok (.if_icmp .lt 8, 3) := by decide +kernel
theorem d_FC_rowOf_24 : decode b_FC_rowOf 24 = .ok (.iload_n 2, 1) := by decide +kernel
theorem d_FC_rowOf_25 : decode b_FC_rowOf 25 = .ok (.iconst 4, 1) := by decide +kernel
theorem d_FC_rowOf_26 : decode b_FC_rowOf 26 = .ok (.if_icmp .le 6, 3) := by decide +kernel
theorem d_FC_rowOf_29 : decode b_FC_rowOf 29 = .ok (.bipush (-2), 2) := by decide +kernel
theorem d_FC_rowOf_31 : decode b_FC_rowOf 31 = .ok (.ireturn, 1) := by decide +kernel
theorem d_FC_rowOf_32 : decode b_FC_rowOf 32 = .ok (.iconst 0, 1) := by decide +kernel
theorem d_FC_rowOf_33 : decode b_FC_rowOf 33 = .ok (.istore 4, 2) := by decide +kernel
theorem d_FC_rowOf_35 : decode b_FC_rowOf 35 = .ok (.ldc 177, 2) := by decide +kernel
theorem d_FC_rowOf_37 : decode b_FC_rowOf 37 = .ok (.istore 5, 2) := by decide +kernel
theorem d_FC_rowOf_39 : decode b_FC_rowOf 39 = .ok (.iload_n 2, 1) := by decide +kernel
theorem d_FC_rowOf_40 : decode b_FC_rowOf 40 = .ok (.invokestatic 178, 3) := by decide +kernel
theorem d_FC_rowOf_43 : decode b_FC_rowOf 43 = .ok (.istore 6, 2) := by decide +kernel
theorem d_FC_rowOf_45 : decode b_FC_rowOf 45 = .ok (.iconst 0, 1) := by decide +kernel
theorem d_FC_rowOf_46 : decode b_FC_rowOf 46 = .ok (.istore 7, 2) := by decide +kernel
theorem d_FC_rowOf_48 : decode b_FC_rowOf 48 = .ok (.iload 7, 2) := by decide +kernel
theorem d_FC_rowOf_50 : decode b_FC_rowOf 50 = .ok (.iload 6, 2) := by decide +kernel
theorem d_FC_rowOf_52 : decode b_FC_rowOf 52 = .ok (.if_icmp .ge 34, 3) := by decide +kernel
theorem d_FC_rowOf_55 : decode b_FC_rowOf 55 = .ok (.aload_n 0, 1) := by decide +kernel
theorem d_FC_rowOf_56 : decode b_FC_rowOf 56 = .ok (.iload_n 1, 1) := by decide +kernel
theorem d_FC_rowOf_57 : decode b_FC_rowOf 57 = .ok (.iload_n 2, 1) := by decide +kernel
theorem d_FC_rowOf_58 : decode b_FC_rowOf 58 = .ok (.iload 7, 2) := by decide +kernel
theorem d_FC_rowOf_60 : decode b_FC_rowOf 60 = .ok (.invokevirtual 181, 3) := by decide +kernel
theorem d_FC_rowOf_63 : decode b_FC_rowOf 63 = .ok (.istore 8, 2) := by decide +kernel
theorem d_FC_rowOf_65 : decode b_FC_rowOf 65 = .ok (.iload 8, 2) := by decide +kernel
theorem d_FC_rowOf_67 : decode b_FC_rowOf 67 = .ok (.iload 5, 2) := by decide +kernel
theorem d_FC_rowOf_69 : decode b_FC_rowOf 69 = .ok (.if_icmp .ge 11, 3) := by decide +kernel
theorem d_FC_rowOf_72 : decode b_FC_rowOf 72 = .ok (.iload 8, 2) := by decide +kernel
theorem d_FC_rowOf_74 : decode b_FC_rowOf 74 = .ok (.istore 5, 2) := by decide +kernel
theorem d_FC_rowOf_76 : decode b_FC_rowOf 76 = .ok (.iload 7, 2) := by decide +kernel
theorem d_FC_rowOf_78 : decode b_FC_rowOf 78 = .ok (.istore 4, 2) := by decide +kernel
theorem d_FC_rowOf_80 : decode b_FC_rowOf 80 = .ok (.iinc 7 1, 3) := by decide +kernel
theorem d_FC_rowOf_83 : decode b_FC_rowOf 83 = .ok (.goto (-35), 3) := by decide +kernel
theorem d_FC_rowOf_86 : decode b_FC_rowOf 86 = .ok (.iload_n 3, 1) := by decide +kernel
theorem d_FC_rowOf_87 : decode b_FC_rowOf 87 = .ok (.iconst (-1), 1) := by decide +kernel
theorem d_FC_rowOf_88 : decode b_FC_rowOf 88 = .ok (.if_icmp .ne 6, 3) := by decide +kernel
theorem d_FC_rowOf_91 : decode b_FC_rowOf 91 = .ok (.iload 5, 2) := by decide +kernel
theorem d_FC_rowOf_93 : decode b_FC_rowOf 93 = .ok (.ireturn, 1) := by decide +kernel
theorem d_FC_rowOf_94 : decode b_FC_rowOf 94 = .ok (.iload_n 3, 1) := by decide +kernel
theorem d_FC_rowOf_95 : decode b_FC_rowOf 95 = .ok (.iload_n 2, 1) := by decide +kernel
theorem d_FC_rowOf_96 : decode b_FC_rowOf 96 = .ok (.if_icmp .lt 6, 3) := by decide +kernel
theorem d_FC_rowOf_99 : decode b_FC_rowOf 99 = .ok (.bipush (-5), 2) := by decide +kernel
theorem d_FC_rowOf_101 : decode b_FC_rowOf 101 = .ok (.ireturn, 1) := by decide +kernel
theorem d_FC_rowOf_102 : decode b_FC_rowOf 102 = .ok (.iload 4, 2) := by decide +kernel
theorem d_FC_rowOf_104 : decode b_FC_rowOf 104 = .ok (.iload_n 2, 1) := by decide +kernel
theorem d_FC_rowOf_105 : decode b_FC_rowOf 105 = .ok (.iload_n 3, 1) := by decide +kernel
theorem d_FC_rowOf_106 : decode b_FC_rowOf 106 = .ok (.invokestatic 185, 3) := by decide +kernel
theorem d_FC_rowOf_109 : decode b_FC_rowOf 109 = .ok (.ireturn, 1) := by decide +kernel
theorem d_FC_lasts_0 : decode b_FC_lasts 0 = .ok (.iload_n 1, 1) := by decide +kernel
theorem d_FC_lasts_1 : decode b_FC_lasts 1 = .ok (.invokestatic 122, 3) := by decide +kernel
theorem d_FC_lasts_4 : decode b_FC_lasts 4 = .ok (.ifCond .ne 5, 3) := by decide +kernel
theorem d_FC_lasts_7 : decode b_FC_lasts 7 = .ok (.iconst (-1), 1) := by decide +kernel
theorem d_FC_lasts_8 : decode b_FC_lasts 8 = .ok (.ireturn, 1) := by decide +kernel
theorem d_FC_lasts_9 : decode b_FC_lasts 9 = .ok (.iload_n 2, 1) := by decide +kernel
theorem d_FC_lasts_10 : decode b_FC_lasts 10 = .ok (.invokestatic 125, 3) := by decide +kernel
theorem d_FC_lasts_13 : decode b_FC_lasts 13 = .ok (.ifCond .ne 6, 3) := by decide +kernel
theorem d_FC_lasts_16 : decode b_FC_lasts 16 = .ok (.bipush (-2), 2) := by decide +kernel
theorem d_FC_lasts_18 : decode b_FC_lasts 18 = .ok (.ireturn, 1) := by decide +kernel
theorem d_FC_lasts_19 : decode b_FC_lasts 19 = .ok (.aload_n 0, 1) := by decide +kernel
theorem d_FC_lasts_20 : decode b_FC_lasts 20 = .ok (.getfield 49, 3) := by decide +kernel
theorem d_FC_lasts_23 : decode b_FC_lasts 23 = .ok (.aload_n 0, 1) := by decide +kernel
theorem d_FC_lasts_24 : decode b_FC_lasts 24 = .ok (.getfield 45, 3) := by decide +kernel
theorem d_FC_lasts_27 : decode b_FC_lasts 27 = .ok (.invokevirtual 158, 3) := by decide +kernel
theorem d_FC_lasts_30 : decode b_FC_lasts 30 = .ok (.aload_n 0, 1) := by decide +kernel
theorem d_FC_lasts_31 : decode b_FC_lasts 31 = .ok (.getfield 49, 3) := by decide +kernel
theorem d_FC_lasts_34 : decode b_FC_lasts 34 = .ok (.iload_n 1, 1) := by decide +kernel
theorem d_FC_lasts_35 : decode b_FC_lasts 35 = .ok (.iload_n 2, 1) := by decide +kernel
theorem d_FC_lasts_36 : decode b_FC_lasts 36 = .ok (.invokevirtual 130, 3) := by decide +kernel
theorem d_FC_lasts_39 : decode b_FC_lasts 39 = .ok (.aload_n 0, 1) := by decide +kernel
theorem d_FC_lasts_40 : decode b_FC_lasts 40 = .ok (.getfield 52, 3) := by decide +kernel
theorem d_FC_lasts_43 : decode b_FC_lasts 43 = .ok (.aload_n 0, 1) := by decide +kernel
theorem d_FC_lasts_44 : decode b_FC_lasts 44 = .ok (.getfield 45, 3) := by decide +kernel
theorem d_FC_lasts_47 : decode b_FC_lasts 47 = .ok (.invokevirtual 158, 3) := by decide +kernel
theorem d_FC_lasts_50 : decode b_FC_lasts 50 = .ok (.iconst 1, 1) := by decide +kernel
theorem d_FC_lasts_51 : decode b_FC_lasts 51 = .ok (.istore_n 3, 1) := by decide +kernel
theorem d_FC_lasts_52 : decode b_FC_lasts 52 = .ok (.iload_n 3, 1) := by decide +kernel
theorem d_FC_lasts_53 : decode b_FC_lasts 53 = .ok (.bipush 30, 2) := by decide +kernel
theorem d_FC_lasts_55 : decode b_FC_lasts 55 = .ok (.if_icmp .gt 30, 3) := by decide +kernel
theorem d_FC_lasts_58 : decode b_FC_lasts 58 = .ok (.aload_n 0, 1) := by decide +kernel
theorem d_FC_lasts_59 : decode b_FC_lasts 59 = .ok (.getfield 49, 3) := by decide +kernel
theorem d_FC_lasts_62 : decode b_FC_lasts 62 = .ok (.iconst 0, 1) := by decide +kernel
theorem d_FC_lasts_63 : decode b_FC_lasts 63 = .ok (.invokevirtual 155, 3) := by decide +kernel
theorem d_FC_lasts_66 : decode b_FC_lasts 66 = .ok (.aload_n 0, 1) := by decide +kernel
theorem d_FC_lasts_67 : decode b_FC_lasts 67 = .ok (.getfield 52, 3) := by decide +kernel
theorem d_FC_lasts_70 : decode b_FC_lasts 70 = .ok (.iconst 0, 1) := by decide +kernel
theorem d_FC_lasts_71 : decode b_FC_lasts 71 = .ok (.invokevirtual 155, 3) := by decide +kernel
theorem d_FC_lasts_74 : decode b_FC_lasts 74 = .ok (.if_icmp .lt 5, 3) := by decide +kernel
theorem d_FC_lasts_77 : decode b_FC_lasts 77 = .ok (.iload_n 3, 1) := by decide +kernel
theorem d_FC_lasts_78 : decode b_FC_lasts 78 = .ok (.ireturn, 1) := by decide +kernel
theorem d_FC_lasts_79 : decode b_FC_lasts 79 = .ok (.iinc 3 1, 3) := by decide +kernel
theorem d_FC_lasts_82 : decode b_FC_lasts 82 = .ok (.goto (-30), 3) := by decide +kernel
theorem d_FC_lasts_85 : decode b_FC_lasts 85 = .ok (.bipush (-5), 2) := by decide +kernel
theorem d_FC_lasts_87 : decode b_FC_lasts 87 = .ok (.ireturn, 1) := by decide +kernel
theorem d_FC_mixed_0 : decode b_FC_mixed 0 = .ok (.iload_n 1, 1) := by decide +kernel
theorem d_FC_mixed_1 : decode b_FC_mixed 1 = .ok (.invokestatic 122, 3) := by decide +kernel
theorem d_FC_mixed_4 : decode b_FC_mixed 4 = .ok (.ifCond .eq 30, 3) := by decide +kernel
theorem d_FC_mixed_7 : decode b_FC_mixed 7 = .ok (.iload_n 2, 1) := by decide +kernel
theorem d_FC_mixed_8 : decode b_FC_mixed 8 = .ok (.invokestatic 125, 3) := by decide +kernel
theorem d_FC_mixed_11 : decode b_FC_mixed 11 = .ok (.ifCond .eq 23, 3) := by decide +kernel
theorem d_FC_mixed_14 : decode b_FC_mixed 14 = .ok (.iload_n 3, 1) := by decide +kernel
theorem d_FC_mixed_15 : decode b_FC_mixed 15 = .ok (.invokestatic 125, 3) := by decide +kernel
theorem d_FC_mixed_18 : decode b_FC_mixed 18 = .ok (.ifCond .eq 16, 3) := by decide +kernel
theorem d_FC_mixed_21 : decode b_FC_mixed 21 = .ok (.iload_n 2, 1) := by decide +kernel
theorem d_FC_mixed_22 : decode b_FC_mixed 22 = .ok (.iload_n 3, 1) := by decide +kernel
theorem d_FC_mixed_23 : decode b_FC_mixed 23 = .ok (.if_icmp .gt 11, 3) := by decide +kernel
theorem d_FC_mixed_26 : decode b_FC_mixed 26 = .ok (.iload 4, 2) := by decide +kernel
theorem d_FC_mixed_28 : decode b_FC_mixed 28 = .ok (.invokestatic 172, 3) := by decide +kernel
theorem d_FC_mixed_31 : decode b_FC_mixed 31 = .ok (.ifCond .ne 7, 3) := by decide +kernel
theorem d_FC_mixed_34 : decode b_FC_mixed 34 = .ok (.ldc2_w 188, 3) := by decide +kernel
theorem d_FC_mixed_37 : decode b_FC_mixed 37 = .ok (.lreturn, 1) := by decide +kernel
theorem d_FC_mixed_38 : decode b_FC_mixed 38 = .ok (.aload_n 0, 1) := by decide +kernel
theorem d_FC_mixed_39 : decode b_FC_mixed 39 = .ok (.getfield 49, 3) := by decide +kernel
theorem d_FC_mixed_42 : decode b_FC_mixed 42 = .ok (.aload_n 0, 1) := by decide +kernel
theorem d_FC_mixed_43 : decode b_FC_mixed 43 = .ok (.getfield 45, 3) := by decide +kernel
theorem d_FC_mixed_46 : decode b_FC_mixed 46 = .ok (.invokevirtual 158, 3) := by decide +kernel
theorem d_FC_mixed_49 : decode b_FC_mixed 49 = .ok (.lconst 0, 1) := by decide +kernel
theorem d_FC_mixed_50 : decode b_FC_mixed 50 = .ok (.lstore 5, 2) := by decide +kernel
theorem d_FC_mixed_52 : decode b_FC_mixed 52 = .ok (.iload_n 2, 1) := by decide +kernel
theorem d_FC_mixed_53 : decode b_FC_mixed 53 = .ok (.istore 7, 2) := by decide +kernel
theorem d_FC_mixed_55 : decode b_FC_mixed 55 = .ok (.iload 7, 2) := by decide +kernel
theorem d_FC_mixed_57 : decode b_FC_mixed 57 = .ok (.iload_n 3, 1) := by decide +kernel
theorem d_FC_mixed_58 : decode b_FC_mixed 58 = .ok (.if_icmp .gt 34, 3) := by decide +kernel
theorem d_FC_mixed_61 : decode b_FC_mixed 61 = .ok (.aload_n 0, 1) := by decide +kernel
theorem d_FC_mixed_62 : decode b_FC_mixed 62 = .ok (.getfield 49, 3) := by decide +kernel
theorem d_FC_mixed_65 : decode b_FC_mixed 65 = .ok (.getfield 152, 3) := by decide +kernel
theorem d_FC_mixed_68 : decode b_FC_mixed 68 = .ok (.iload_n 1, 1) := by decide +kernel
theorem d_FC_mixed_69 : decode b_FC_mixed 69 = .ok (.iload 7, 2) := by decide +kernel
theorem d_FC_mixed_71 : decode b_FC_mixed 71 = .ok (.iastore, 1) := by decide +kernel
theorem d_FC_mixed_72 : decode b_FC_mixed 72 = .ok (.lload 5, 2) := by decide +kernel
theorem d_FC_mixed_74 : decode b_FC_mixed 74 = .ok (.aload_n 0, 1) := by decide +kernel
theorem d_FC_mixed_75 : decode b_FC_mixed 75 = .ok (.getfield 49, 3) := by decide +kernel
theorem d_FC_mixed_78 : decode b_FC_mixed 78 = .ok (.iconst 0, 1) := by decide +kernel
theorem d_FC_mixed_79 : decode b_FC_mixed 79 = .ok (.invokevirtual 190, 3) := by decide +kernel
theorem d_FC_mixed_82 : decode b_FC_mixed 82 = .ok (.i2l, 1) := by decide +kernel
theorem d_FC_mixed_83 : decode b_FC_mixed 83 = .ok (.ladd, 1) := by decide +kernel
theorem d_FC_mixed_84 : decode b_FC_mixed 84 = .ok (.lstore 5, 2) := by decide +kernel
theorem d_FC_mixed_86 : decode b_FC_mixed 86 = .ok (.iinc 7 1, 3) := by decide +kernel
theorem d_FC_mixed_89 : decode b_FC_mixed 89 = .ok (.goto (-34), 3) := by decide +kernel
theorem d_FC_mixed_92 : decode b_FC_mixed 92 = .ok (.lload 5, 2) := by decide +kernel
theorem d_FC_mixed_94 : decode b_FC_mixed 94 = .ok (.iload_n 3, 1) := by decide +kernel
theorem d_FC_mixed_95 : decode b_FC_mixed 95 = .ok (.iload_n 2, 1) := by decide +kernel
theorem d_FC_mixed_96 : decode b_FC_mixed 96 = .ok (.isub, 1) := by decide +kernel
theorem d_FC_mixed_97 : decode b_FC_mixed 97 = .ok (.iconst 1, 1) := by decide +kernel
theorem d_FC_mixed_98 : decode b_FC_mixed 98 = .ok (.iadd, 1) := by decide +kernel
theorem d_FC_mixed_99 : decode b_FC_mixed 99 = .ok (.i2l, 1) := by decide +kernel
theorem d_FC_mixed_100 : decode b_FC_mixed 100 = .ok (.iload 4, 2) := by decide +kernel
theorem d_FC_mixed_102 : decode b_FC_mixed 102 = .ok (.invokestatic 193, 3) := by decide +kernel
theorem d_FC_mixed_105 : decode b_FC_mixed 105 = .ok (.lreturn, 1) := by decide +kernel
theorem d_FC_goBy_0 : decode b_FC_goBy 0 = .ok (.aload_n 0, 1) := by decide +kernel
theorem d_FC_goBy_1 : decode b_FC_goBy 1 = .ok (.iload_n 1, 1) := by decide +kernel
theorem d_FC_goBy_2 : decode b_FC_goBy 2 = .ok (.invokevirtual 97, 3) := by decide +kernel
theorem d_FC_goBy_5 : decode b_FC_goBy 5 = .ok (.ifCond .ne 5, 3) := by decide +kernel
theorem d_FC_goBy_8 : decode b_FC_goBy 8 = .ok (.iconst (-1), 1) := by decide +kernel
theorem d_FC_goBy_9 : decode b_FC_goBy 9 = .ok (.ireturn, 1) := by decide +kernel
theorem d_FC_goBy_10 : decode b_FC_goBy 10 = .ok (.aload_n 0, 1) := by decide +kernel
theorem d_FC_goBy_11 : decode b_FC_goBy 11 = .ok (.getfield 49, 3) := by decide +kernel
theorem d_FC_goBy_14 : decode b_FC_goBy 14 = .ok (.aload_n 0, 1) := by decide +kernel
theorem d_FC_goBy_15 : decode b_FC_goBy 15 = .ok (.getfield 45, 3) := by decide +kernel
theorem d_FC_goBy_18 : decode b_FC_goBy 18 = .ok (.invokevirtual 158, 3) := by decide +kernel
theorem d_FC_goBy_21 : decode b_FC_goBy 21 = .ok (.iconst 0, 1) := by decide +kernel
theorem d_FC_goBy_22 : decode b_FC_goBy 22 = .ok (.istore_n 2, 1) := by decide +kernel
theorem d_FC_goBy_23 : decode b_FC_goBy 23 = .ok (.ldc 177, 2) := by decide +kernel
theorem d_FC_goBy_25 : decode b_FC_goBy 25 = .ok (.istore_n 3, 1) := by decide +kernel
theorem d_FC_goBy_26 : decode b_FC_goBy 26 = .ok (.iconst 0, 1) := by decide +kernel
theorem d_FC_goBy_27 : decode b_FC_goBy 27 = .ok (.istore 4, 2) := by decide +kernel
theorem d_FC_goBy_29 : decode b_FC_goBy 29 = .ok (.iload 4, 2) := by decide +kernel
theorem d_FC_goBy_31 : decode b_FC_goBy 31 = .ok (.iconst 2, 1) := by decide +kernel
theorem d_FC_goBy_32 : decode b_FC_goBy 32 = .ok (.if_icmp .ge 52, 3) := by decide +kernel
theorem d_FC_goBy_35 : decode b_FC_goBy 35 = .ok (.aload_n 0, 1) := by decide +kernel
theorem d_FC_goBy_36 : decode b_FC_goBy 36 = .ok (.getfield 49, 3) := by decide +kernel
theorem d_FC_goBy_39 : decode b_FC_goBy 39 = .ok (.getfield 88, 3) := by decide +kernel
theorem d_FC_goBy_42 : decode b_FC_goBy 42 = .ok (.iload_n 1, 1) := by decide +kernel
theorem d_FC_goBy_43 : decode b_FC_goBy 43 = .ok (.iload 4, 2) := by decide +kernel
theorem d_FC_goBy_45 : decode b_FC_goBy 45 = .ok (.iastore, 1) := by decide +kernel
theorem d_FC_goBy_46 : decode b_FC_goBy 46 = .ok (.aload_n 0, 1) := by decide +kernel
theorem d_FC_goBy_47 : decode b_FC_goBy 47 = .ok (.getfield 49, 3) := by decide +kernel
theorem d_FC_goBy_50 : decode b_FC_goBy 50 = .ok (.getfield 73, 3) := by decide +kernel
theorem d_FC_goBy_53 : decode b_FC_goBy 53 = .ok (.aload_n 0, 1) := by decide +kernel
theorem d_FC_goBy_54 : decode b_FC_goBy 54 = .ok (.getfield 49, 3) := by decide +kernel
theorem d_FC_goBy_57 : decode b_FC_goBy 57 = .ok (.iload_n 1, 1) := by decide +kernel
theorem d_FC_goBy_58 : decode b_FC_goBy 58 = .ok (.invokevirtual 115, 3) := by decide +kernel
theorem d_FC_goBy_61 : decode b_FC_goBy 61 = .ok (.invokevirtual 119, 3) := by decide +kernel
theorem d_FC_goBy_64 : decode b_FC_goBy 64 = .ok (.istore 5, 2) := by decide +kernel
theorem d_FC_goBy_66 : decode b_FC_goBy 66 = .ok (.iload 5, 2) := by decide +kernel
theorem d_FC_goBy_68 : decode b_FC_goBy 68 = .ok (.iload_n 3, 1) := by decide +kernel
theorem d_FC_goBy_69 : decode b_FC_goBy 69 = .ok (.if_icmp .ge 9, 3) := by decide +kernel
theorem d_FC_goBy_72 : decode b_FC_goBy 72 = .ok (.iload 5, 2) := by decide +kernel
theorem d_FC_goBy_74 : decode b_FC_goBy 74 = .ok (.istore_n 3, 1) := by decide +kernel
theorem d_FC_goBy_75 : decode b_FC_goBy 75 = .ok (.iload 4, 2) := by decide +kernel
theorem d_FC_goBy_77 : decode b_FC_goBy 77 = .ok (.istore_n 2, 1) := by decide +kernel
theorem d_FC_goBy_78 : decode b_FC_goBy 78 = .ok (.iinc 4 1, 3) := by decide +kernel
theorem d_FC_goBy_81 : decode b_FC_goBy 81 = .ok (.goto (-52), 3) := by decide +kernel
theorem d_FC_goBy_84 : decode b_FC_goBy 84 = .ok (.iload_n 2, 1) := by decide +kernel
theorem d_FC_goBy_85 : decode b_FC_goBy 85 = .ok (.ireturn, 1) := by decide +kernel
theorem d_FC_call_0 : decode b_FC_call 0 = .ok (.iload_n 1, 1) := by decide +kernel
theorem d_FC_call_1 : decode b_FC_call 1 = .ok (.iconst 1, 1) := by decide +kernel
theorem d_FC_call_2 : decode b_FC_call 2 = .ok (.if_icmp .lt 9, 3) := by decide +kernel
theorem d_FC_call_5 : decode b_FC_call 5 = .ok (.iload_n 1, 1) := by decide +kernel
theorem d_FC_call_6 : decode b_FC_call 6 = .ok (.bipush 20, 2) := by decide +kernel
theorem d_FC_call_8 : decode b_FC_call 8 = .ok (.if_icmp .le 6, 3) := by decide +kernel
theorem d_FC_call_11 : decode b_FC_call 11 = .ok (.bipush (-2), 2) := by decide +kernel
theorem d_FC_call_13 : decode b_FC_call 13 = .ok (.ireturn, 1) := by decide +kernel
theorem d_FC_call_14 : decode b_FC_call 14 = .ok (.iconst 0, 1) := by decide +kernel
theorem d_FC_call_15 : decode b_FC_call 15 = .ok (.istore_n 2, 1) := by decide +kernel
theorem d_FC_call_16 : decode b_FC_call 16 = .ok (.ldc 177, 2) := by decide +kernel
theorem d_FC_call_18 : decode b_FC_call 18 = .ok (.istore_n 3, 1) := by decide +kernel
theorem d_FC_call_19 : decode b_FC_call 19 = .ok (.iconst 0, 1) := by decide +kernel
theorem d_FC_call_20 : decode b_FC_call 20 = .ok (.istore 4, 2) := by decide +kernel
theorem d_FC_call_22 : decode b_FC_call 22 = .ok (.iload 4, 2) := by decide +kernel
theorem d_FC_call_24 : decode b_FC_call 24 = .ok (.bipush 60, 2) := by decide +kernel
theorem d_FC_call_26 : decode b_FC_call 26 = .ok (.if_icmp .gt 44, 3) := by decide +kernel
theorem d_FC_call_29 : decode b_FC_call 29 = .ok (.aload_n 0, 1) := by decide +kernel
theorem d_FC_call_30 : decode b_FC_call 30 = .ok (.getfield 49, 3) := by decide +kernel
theorem d_FC_call_33 : decode b_FC_call 33 = .ok (.aload_n 0, 1) := by decide +kernel
theorem d_FC_call_34 : decode b_FC_call 34 = .ok (.getfield 45, 3) := by decide +kernel
theorem d_FC_call_37 : decode b_FC_call 37 = .ok (.invokevirtual 158, 3) := by decide +kernel
theorem d_FC_call_40 : decode b_FC_call 40 = .ok (.aload_n 0, 1) := by decide +kernel
theorem d_FC_call_41 : decode b_FC_call 41 = .ok (.getfield 49, 3) := by decide +kernel
theorem d_FC_call_44 : decode b_FC_call 44 = .ok (.iload_n 1, 1) := by decide +kernel
theorem d_FC_call_45 : decode b_FC_call 45 = .ok (.iload 4, 2) := by decide +kernel
theorem d_FC_call_47 : decode b_FC_call 47 = .ok (.invokevirtual 162, 3) := by decide +kernel
theorem d_FC_call_50 : decode b_FC_call 50 = .ok (.istore 5, 2) := by decide +kernel
theorem d_FC_call_52 : decode b_FC_call 52 = .ok (.iload 5, 2) := by decide +kernel
theorem d_FC_call_54 : decode b_FC_call 54 = .ok (.iload_n 3, 1) := by decide +kernel
theorem d_FC_call_55 : decode b_FC_call 55 = .ok (.if_icmp .ge 9, 3) := by decide +kernel
theorem d_FC_call_58 : decode b_FC_call 58 = .ok (.iload 5, 2) := by decide +kernel
theorem d_FC_call_60 : decode b_FC_call 60 = .ok (.istore_n 3, 1) := by decide +kernel
theorem d_FC_call_61 : decode b_FC_call 61 = .ok (.iload 4, 2) := by decide +kernel
theorem d_FC_call_63 : decode b_FC_call 63 = .ok (.istore_n 2, 1) := by decide +kernel
theorem d_FC_call_64 : decode b_FC_call 64 = .ok (.iinc 4 1, 3) := by decide +kernel
theorem d_FC_call_67 : decode b_FC_call 67 = .ok (.goto (-45), 3) := by decide +kernel
theorem d_FC_call_70 : decode b_FC_call 70 = .ok (.iload_n 2, 1) := by decide +kernel
theorem d_FC_call_71 : decode b_FC_call 71 = .ok (.ireturn, 1) := by decide +kernel
theorem d_FC_padded_0 : decode b_FC_padded 0 = .ok (.aload_n 0, 1) := by decide +kernel
theorem d_FC_padded_1 : decode b_FC_padded 1 = .ok (.iload_n 1, 1) := by decide +kernel
theorem d_FC_padded_2 : decode b_FC_padded 2 = .ok (.invokevirtual 97, 3) := by decide +kernel
theorem d_FC_padded_5 : decode b_FC_padded 5 = .ok (.ifCond .ne 5, 3) := by decide +kernel
theorem d_FC_padded_8 : decode b_FC_padded 8 = .ok (.iconst (-1), 1) := by decide +kernel
theorem d_FC_padded_9 : decode b_FC_padded 9 = .ok (.ireturn, 1) := by decide +kernel
theorem d_FC_padded_10 : decode b_FC_padded 10 = .ok (.iload_n 2, 1) := by decide +kernel
theorem d_FC_padded_11 : decode b_FC_padded 11 = .ok (.ifCond .lt 9, 3) := by decide +kernel
theorem d_FC_padded_14 : decode b_FC_padded 14 = .ok (.iload_n 2, 1) := by decide +kernel
theorem d_FC_padded_15 : decode b_FC_padded 15 = .ok (.bipush 30, 2) := by decide +kernel
theorem d_FC_padded_17 : decode b_FC_padded 17 = .ok (.if_icmp .le 6, 3) := by decide +kernel
theorem d_FC_padded_20 : decode b_FC_padded 20 = .ok (.bipush (-2), 2) := by decide +kernel
theorem d_FC_padded_22 : decode b_FC_padded 22 = .ok (.ireturn, 1) := by decide +kernel
theorem d_FC_padded_23 : decode b_FC_padded 23 = .ok (.aload_n 0, 1) := by decide +kernel
theorem d_FC_padded_24 : decode b_FC_padded 24 = .ok (.getfield 49, 3) := by decide +kernel
theorem d_FC_padded_27 : decode b_FC_padded 27 = .ok (.aload_n 0, 1) := by decide +kernel
theorem d_FC_padded_28 : decode b_FC_padded 28 = .ok (.getfield 45, 3) := by decide +kernel
theorem d_FC_padded_31 : decode b_FC_padded 31 = .ok (.invokevirtual 158, 3) := by decide +kernel
theorem d_FC_padded_34 : decode b_FC_padded 34 = .ok (.iconst 0, 1) := by decide +kernel
theorem d_FC_padded_35 : decode b_FC_padded 35 = .ok (.aload_n 0, 1) := by decide +kernel
theorem d_FC_padded_36 : decode b_FC_padded 36 = .ok (.getfield 49, 3) := by decide +kernel
theorem d_FC_padded_39 : decode b_FC_padded 39 = .ok (.iload_n 1, 1) := by decide +kernel
theorem d_FC_padded_40 : decode b_FC_padded 40 = .ok (.invokevirtual 115, 3) := by decide +kernel
theorem d_FC_padded_43 : decode b_FC_padded 43 = .ok (.invokestatic 197, 3) := by decide +kernel
theorem d_FC_padded_46 : decode b_FC_padded 46 = .ok (.istore_n 3, 1) := by decide +kernel
theorem d_FC_padded_47 : decode b_FC_padded 47 = .ok (.iconst 0, 1) := by decide +kernel
theorem d_FC_padded_48 : decode b_FC_padded 48 = .ok (.istore 4, 2) := by decide +kernel
theorem d_FC_padded_50 : decode b_FC_padded 50 = .ok (.iload 4, 2) := by decide +kernel
theorem d_FC_padded_52 : decode b_FC_padded 52 = .ok (.iload_n 2, 1) := by decide +kernel
theorem d_FC_padded_53 : decode b_FC_padded 53 = .ok (.if_icmp .ge 31, 3) := by decide +kernel
theorem d_FC_padded_56 : decode b_FC_padded 56 = .ok (.aload_n 0, 1) := by decide +kernel
theorem d_FC_padded_57 : decode b_FC_padded 57 = .ok (.getfield 49, 3) := by decide +kernel
theorem d_FC_padded_60 : decode b_FC_padded 60 = .ok (.iconst 0, 1) := by decide +kernel
theorem d_FC_padded_61 : decode b_FC_padded 61 = .ok (.invokevirtual 155, 3) := by decide +kernel
theorem d_FC_padded_64 : decode b_FC_padded 64 = .ok (.pop, 1) := by decide +kernel
theorem d_FC_padded_65 : decode b_FC_padded 65 = .ok (.iload_n 3, 1) := by decide +kernel
theorem d_FC_padded_66 : decode b_FC_padded 66 = .ok (.aload_n 0, 1) := by decide +kernel
theorem d_FC_padded_67 : decode b_FC_padded 67 = .ok (.getfield 49, 3) := by decide +kernel
theorem d_FC_padded_70 : decode b_FC_padded 70 = .ok (.iload_n 1, 1) := by decide +kernel
theorem d_FC_padded_71 : decode b_FC_padded 71 = .ok (.invokevirtual 115, 3) := by decide +kernel
theorem d_FC_padded_74 : decode b_FC_padded 74 = .ok (.invokestatic 197, 3) := by decide +kernel
theorem d_FC_padded_77 : decode b_FC_padded 77 = .ok (.istore_n 3, 1) := by decide +kernel
theorem d_FC_padded_78 : decode b_FC_padded 78 = .ok (.iinc 4 1, 3) := by decide +kernel
theorem d_FC_padded_81 : decode b_FC_padded 81 = .ok (.goto (-31), 3) := by decide +kernel
theorem d_FC_padded_84 : decode b_FC_padded 84 = .ok (.iload_n 3, 1) := by decide +kernel
theorem d_FC_padded_85 : decode b_FC_padded 85 = .ok (.bipush 99, 2) := by decide +kernel
theorem d_FC_padded_87 : decode b_FC_padded 87 = .ok (.if_icmp .le 8, 3) := by decide +kernel
theorem d_FC_padded_90 : decode b_FC_padded 90 = .ok (.bipush (-5), 2) := by decide +kernel
theorem d_FC_padded_92 : decode b_FC_padded 92 = .ok (.goto 4, 3) := by decide +kernel
theorem d_FC_padded_95 : decode b_FC_padded 95 = .ok (.iload_n 3, 1) := by decide +kernel
theorem d_FC_padded_96 : decode b_FC_padded 96 = .ok (.ireturn, 1) := by decide +kernel
theorem d_FC_tellOne_0 : decode b_FC_tellOne 0 = .ok (.bipush (-5), 2) := by decide +kernel
theorem d_FC_tellOne_2 : decode b_FC_tellOne 2 = .ok (.istore_n 1, 1) := by decide +kernel
theorem d_FC_tellOne_3 : decode b_FC_tellOne 3 = .ok (.aload_n 0, 1) := by decide +kernel
theorem d_FC_tellOne_4 : decode b_FC_tellOne 4 = .ok (.getfield 45, 3) := by decide +kernel
theorem d_FC_tellOne_7 : decode b_FC_tellOne 7 = .ok (.iconst 0, 1) := by decide +kernel
theorem d_FC_tellOne_8 : decode b_FC_tellOne 8 = .ok (.invokevirtual 190, 3) := by decide +kernel
theorem d_FC_tellOne_11 : decode b_FC_tellOne 11 = .ok (.istore_n 2, 1) := by decide +kernel
theorem d_FC_tellOne_12 : decode b_FC_tellOne 12 = .ok (.aload_n 0, 1) := by decide +kernel
theorem d_FC_tellOne_13 : decode b_FC_tellOne 13 = .ok (.getfield 49, 3) := by decide +kernel
theorem d_FC_tellOne_16 : decode b_FC_tellOne 16 = .ok (.aload_n 0, 1) := by decide +kernel
theorem d_FC_tellOne_17 : decode b_FC_tellOne 17 = .ok (.getfield 45, 3) := by decide +kernel
theorem d_FC_tellOne_20 : decode b_FC_tellOne 20 = .ok (.invokevirtual 158, 3) := by decide +kernel
theorem d_FC_tellOne_23 : decode b_FC_tellOne 23 = .ok (.iconst 0, 1) := by decide +kernel
theorem d_FC_tellOne_24 : decode b_FC_tellOne 24 = .ok (.istore_n 3, 1) := by decide +kernel
theorem d_FC_tellOne_25 : decode b_FC_tellOne 25 = .ok (.iload_n 3, 1) := by decide +kernel
theorem d_FC_tellOne_26 : decode b_FC_tellOne 26 = .ok (.aload_n 0, 1) := by decide +kernel
theorem d_FC_tellOne_27 : decode b_FC_tellOne 27 = .ok (.getfield 45, 3) := by decide +kernel
theorem d_FC_tellOne_30 : decode b_FC_tellOne 30 = .ok (.getfield 77, 3) := by decide +kernel
theorem d_FC_tellOne_33 : decode b_FC_tellOne 33 = .ok (.if_icmp .ge 127, 3) := by decide +kernel
theorem d_FC_tellOne_36 : decode b_FC_tellOne 36 = .ok (.iconst 0, 1) := by decide +kernel
theorem d_FC_tellOne_37 : decode b_FC_tellOne 37 = .ok (.istore 4, 2) := by decide +kernel
theorem d_FC_tellOne_39 : decode b_FC_tellOne 39 = .ok (.iload 4, 2) := by decide +kernel
theorem d_FC_tellOne_41 : decode b_FC_tellOne 41 = .ok (.aload_n 0, 1) := by decide +kernel
theorem d_FC_tellOne_42 : decode b_FC_tellOne 42 = .ok (.getfield 45, 3) := by decide +kernel
theorem d_FC_tellOne_45 : decode b_FC_tellOne 45 = .ok (.getfield 77, 3) := by decide +kernel
theorem d_FC_tellOne_48 : decode b_FC_tellOne 48 = .ok (.if_icmp .ge 106, 3) := by decide +kernel
theorem d_FC_tellOne_51 : decode b_FC_tellOne 51 = .ok (.iload_n 3, 1) := by decide +kernel
theorem d_FC_tellOne_52 : decode b_FC_tellOne 52 = .ok (.iload 4, 2) := by decide +kernel
theorem d_FC_tellOne_54 : decode b_FC_tellOne 54 = .ok (.if_icmp .eq 94, 3) := by decide +kernel
theorem d_FC_tellOne_57 : decode b_FC_tellOne 57 = .ok (.aload_n 0, 1) := by decide +kernel
theorem d_FC_tellOne_58 : decode b_FC_tellOne 58 = .ok (.getfield 45, 3) := by decide +kernel
theorem d_FC_tellOne_61 : decode b_FC_tellOne 61 = .ok (.getfield 88, 3) := by decide +kernel
theorem d_FC_tellOne_64 : decode b_FC_tellOne 64 = .ok (.iload_n 3, 1) := by decide +kernel
theorem d_FC_tellOne_65 : decode b_FC_tellOne 65 = .ok (.iaload, 1) := by decide +kernel
theorem d_FC_tellOne_66 : decode b_FC_tellOne 66 = .ok (.aload_n 0, 1) := by decide +kernel
theorem d_FC_tellOne_67 : decode b_FC_tellOne 67 = .ok (.getfield 45, 3) := by decide +kernel
theorem d_FC_tellOne_70 : decode b_FC_tellOne 70 = .ok (.getfield 88, 3) := by decide +kernel
theorem d_FC_tellOne_73 : decode b_FC_tellOne 73 = .ok (.iload 4, 2) := by decide +kernel
theorem d_FC_tellOne_75 : decode b_FC_tellOne 75 = .ok (.iaload, 1) := by decide +kernel
theorem d_FC_tellOne_76 : decode b_FC_tellOne 76 = .ok (.if_icmp .eq 6, 3) := by decide +kernel
theorem d_FC_tellOne_79 : decode b_FC_tellOne 79 = .ok (.goto 69, 3) := by decide +kernel
theorem d_FC_tellOne_82 : decode b_FC_tellOne 82 = .ok (.aload_n 0, 1) := by decide +kernel
theorem d_FC_tellOne_83 : decode b_FC_tellOne 83 = .ok (.getfield 49, 3) := by decide +kernel
theorem d_FC_tellOne_86 : decode b_FC_tellOne 86 = .ok (.getfield 91, 3) := by decide +kernel
theorem d_FC_tellOne_89 : decode b_FC_tellOne 89 = .ok (.iload 4, 2) := by decide +kernel
theorem d_FC_tellOne_91 : decode b_FC_tellOne 91 = .ok (.aload_n 0, 1) := by decide +kernel
theorem d_FC_tellOne_92 : decode b_FC_tellOne 92 = .ok (.getfield 45, 3) := by decide +kernel
theorem d_FC_tellOne_95 : decode b_FC_tellOne 95 = .ok (.getfield 91, 3) := by decide +kernel
theorem d_FC_tellOne_98 : decode b_FC_tellOne 98 = .ok (.iload_n 3, 1) := by decide +kernel
theorem d_FC_tellOne_99 : decode b_FC_tellOne 99 = .ok (.iaload, 1) := by decide +kernel
theorem d_FC_tellOne_100 : decode b_FC_tellOne 100 = .ok (.iastore, 1) := by decide +kernel
theorem d_FC_tellOne_101 : decode b_FC_tellOne 101 = .ok (.aload_n 0, 1) := by decide +kernel
theorem d_FC_tellOne_102 : decode b_FC_tellOne 102 = .ok (.getfield 49, 3) := by decide +kernel
theorem d_FC_tellOne_105 : decode b_FC_tellOne 105 = .ok (.iconst 0, 1) := by decide +kernel
theorem d_FC_tellOne_106 : decode b_FC_tellOne 106 = .ok (.invokevirtual 190, 3) := by decide +kernel
theorem d_FC_tellOne_109 : decode b_FC_tellOne 109 = .ok (.istore 5, 2) := by decide +kernel
theorem d_FC_tellOne_111 : decode b_FC_tellOne 111 = .ok (.aload_n 0, 1) := by decide +kernel
theorem d_FC_tellOne_112 : decode b_FC_tellOne 112 = .ok (.getfield 49, 3) := by decide +kernel
theorem d_FC_tellOne_115 : decode b_FC_tellOne 115 = .ok (.getfield 91, 3) := by decide +kernel
theorem d_FC_tellOne_118 : decode b_FC_tellOne 118 = .ok (.iload 4, 2) := by decide +kernel
theorem d_FC_tellOne_120 : decode b_FC_tellOne 120 = .ok (.aload_n 0, 1) := by decide +kernel
theorem d_FC_tellOne_121 : decode b_FC_tellOne 121 = .ok (.getfield 45, 3) := by decide +kernel
theorem d_FC_tellOne_124 : decode b_FC_tellOne 124 = .ok (.getfield 91, 3) := by decide +kernel
theorem d_FC_tellOne_127 : decode b_FC_tellOne 127 = .ok (.iload 4, 2) := by decide +kernel
theorem d_FC_tellOne_129 : decode b_FC_tellOne 129 = .ok (.iaload, 1) := by decide +kernel
theorem d_FC_tellOne_130 : decode b_FC_tellOne 130 = .ok (.iastore, 1) := by decide +kernel
theorem d_FC_tellOne_131 : decode b_FC_tellOne 131 = .ok (.iload 5, 2) := by decide +kernel
theorem d_FC_tellOne_133 : decode b_FC_tellOne 133 = .ok (.iload_n 2, 1) := by decide +kernel
theorem d_FC_tellOne_134 : decode b_FC_tellOne 134 = .ok (.if_icmp .ge 14, 3) := by decide +kernel
theorem d_FC_tellOne_137 : decode b_FC_tellOne 137 = .ok (.iload 5, 2) := by decide +kernel
theorem d_FC_tellOne_139 : decode b_FC_tellOne 139 = .ok (.istore_n 2, 1) := by decide +kernel
theorem d_FC_tellOne_140 : decode b_FC_tellOne 140 = .ok (.bipush 10, 2) := by decide +kernel
theorem d_FC_tellOne_142 : decode b_FC_tellOne 142 = .ok (.iload_n 3, 1) := by decide +kernel
theorem d_FC_tellOne_143 : decode b_FC_tellOne 143 = .ok (.imul, 1) := by decide +kernel
theorem d_FC_tellOne_144 : decode b_FC_tellOne 144 = .ok (.iload 4, 2) := by decide +kernel
theorem d_FC_tellOne_146 : decode b_FC_tellOne 146 = .ok (.iadd, 1) := by decide +kernel
theorem d_FC_tellOne_147 : decode b_FC_tellOne 147 = .ok (.istore_n 1, 1) := by decide +kernel
theorem d_FC_tellOne_148 : decode b_FC_tellOne 148 = .ok (.iinc 4 1, 3) := by decide +kernel
theorem d_FC_tellOne_151 : decode b_FC_tellOne 151 = .ok (.goto (-112), 3) := by decide +kernel
theorem d_FC_tellOne_154 : decode b_FC_tellOne 154 = .ok (.iinc 3 1, 3) := by decide +kernel
theorem d_FC_tellOne_157 : decode b_FC_tellOne 157 = .ok (.goto (-132), 3) := by decide +kernel
theorem d_FC_tellOne_160 : decode b_FC_tellOne 160 = .ok (.iload_n 1, 1) := by decide +kernel
theorem d_FC_tellOne_161 : decode b_FC_tellOne 161 = .ok (.ireturn, 1) := by decide +kernel
theorem d_FC_known_0 : decode b_FC_known 0 = .ok (.aload_n 0, 1) := by decide +kernel
theorem d_FC_known_1 : decode b_FC_known 1 = .ok (.iload_n 1, 1) := by decide +kernel
theorem d_FC_known_2 : decode b_FC_known 2 = .ok (.invokevirtual 97, 3) := by decide +kernel
theorem d_FC_known_5 : decode b_FC_known 5 = .ok (.ifCond .ne 5, 3) := by decide +kernel
theorem d_FC_known_8 : decode b_FC_known 8 = .ok (.iconst (-1), 1) := by decide +kernel
theorem d_FC_known_9 : decode b_FC_known 9 = .ok (.ireturn, 1) := by decide +kernel
theorem d_FC_known_10 : decode b_FC_known 10 = .ok (.iconst 0, 1) := by decide +kernel
theorem d_FC_known_11 : decode b_FC_known 11 = .ok (.istore_n 2, 1) := by decide +kernel
theorem d_FC_known_12 : decode b_FC_known 12 = .ok (.iconst 0, 1) := by decide +kernel
theorem d_FC_known_13 : decode b_FC_known 13 = .ok (.istore_n 3, 1) := by decide +kernel
theorem d_FC_known_14 : decode b_FC_known 14 = .ok (.iconst 0, 1) := by decide +kernel
theorem d_FC_known_15 : decode b_FC_known 15 = .ok (.istore 4, 2) := by decide +kernel
theorem d_FC_known_17 : decode b_FC_known 17 = .ok (.iload 4, 2) := by decide +kernel
theorem d_FC_known_19 : decode b_FC_known 19 = .ok (.aload_n 0, 1) := by decide +kernel
theorem d_FC_known_20 : decode b_FC_known 20 = .ok (.getfield 45, 3) := by decide +kernel
theorem d_FC_known_23 : decode b_FC_known 23 = .ok (.getfield 77, 3) := by decide +kernel
theorem d_FC_known_26 : decode b_FC_known 26 = .ok (.if_icmp .ge 70, 3) := by decide +kernel
theorem d_FC_known_29 : decode b_FC_known 29 = .ok (.aload_n 0, 1) := by decide +kernel
theorem d_FC_known_30 : decode b_FC_known 30 = .ok (.getfield 45, 3) := by decide +kernel
theorem d_FC_known_33 : decode b_FC_known 33 = .ok (.getfield 88, 3) := by decide +kernel
theorem d_FC_known_36 : decode b_FC_known 36 = .ok (.iload 4, 2) := by decide +kernel
theorem d_FC_known_38 : decode b_FC_known 38 = .ok (.iaload, 1) := by decide +kernel
theorem d_FC_known_39 : decode b_FC_known 39 = .ok (.aload_n 0, 1) := by decide +kernel
theorem d_FC_known_40 : decode b_FC_known 40 = .ok (.getfield 45, 3) := by decide +kernel
theorem d_FC_known_43 : decode b_FC_known 43 = .ok (.getfield 88, 3) := by decide +kernel
theorem d_FC_known_46 : decode b_FC_known 46 = .ok (.iload_n 1, 1) := by decide +kernel
theorem d_FC_known_47 : decode b_FC_known 47 = .ok (.iaload, 1) := by decide +kernel
theorem d_FC_known_48 : decode b_FC_known 48 = .ok (.if_icmp .eq 6, 3) := by decide +kernel
theorem d_FC_known_51 : decode b_FC_known 51 = .ok (.goto 39, 3) := by decide +kernel
theorem d_FC_known_54 : decode b_FC_known 54 = .ok (.iload_n 2, 1) := by decide +kernel
theorem d_FC_known_55 : decode b_FC_known 55 = .ok (.iconst 1, 1) := by decide +kernel
theorem d_FC_known_56 : decode b_FC_known 56 = .ok (.iload 4, 2) := by decide +kernel
theorem d_FC_known_58 : decode b_FC_known 58 = .ok (.ishl, 1) := by decide +kernel
theorem d_FC_known_59 : decode b_FC_known 59 = .ok (.ior, 1) := by decide +kernel
theorem d_FC_known_60 : decode b_FC_known 60 = .ok (.istore_n 2, 1) := by decide +kernel
theorem d_FC_known_61 : decode b_FC_known 61 = .ok (.aload_n 0, 1) := by decide +kernel
theorem d_FC_known_62 : decode b_FC_known 62 = .ok (.getfield 45, 3) := by decide +kernel
theorem d_FC_known_65 : decode b_FC_known 65 = .ok (.getfield 91, 3) := by decide +kernel
theorem d_FC_known_68 : decode b_FC_known 68 = .ok (.iload 4, 2) := by decide +kernel
theorem d_FC_known_70 : decode b_FC_known 70 = .ok (.iaload, 1) := by decide +kernel
theorem d_FC_known_71 : decode b_FC_known 71 = .ok (.aload_n 0, 1) := by decide +kernel
theorem d_FC_known_72 : decode b_FC_known 72 = .ok (.getfield 45, 3) := by decide +kernel
theorem d_FC_known_75 : decode b_FC_known 75 = .ok (.getfield 91, 3) := by decide +kernel
theorem d_FC_known_78 : decode b_FC_known 78 = .ok (.iload_n 1, 1) := by decide +kernel
theorem d_FC_known_79 : decode b_FC_known 79 = .ok (.iaload, 1) := by decide +kernel
theorem d_FC_known_80 : decode b_FC_known 80 = .ok (.if_icmp .ne 10, 3) := by decide +kernel
theorem d_FC_known_83 : decode b_FC_known 83 = .ok (.iload_n 3, 1) := by decide +kernel
theorem d_FC_known_84 : decode b_FC_known 84 = .ok (.iconst 1, 1) := by decide +kernel
theorem d_FC_known_85 : decode b_FC_known 85 = .ok (.iload 4, 2) := by decide +kernel
theorem d_FC_known_87 : decode b_FC_known 87 = .ok (.ishl, 1) := by decide +kernel
theorem d_FC_known_88 : decode b_FC_known 88 = .ok (.ior, 1) := by decide +kernel
theorem d_FC_known_89 : decode b_FC_known 89 = .ok (.istore_n 3, 1) := by decide +kernel
theorem d_FC_known_90 : decode b_FC_known 90 = .ok (.iinc 4 1, 3) := by decide +kernel
theorem d_FC_known_93 : decode b_FC_known 93 = .ok (.goto (-76), 3) := by decide +kernel
theorem d_FC_known_96 : decode b_FC_known 96 = .ok (.iconst 0, 1) := by decide +kernel
theorem d_FC_known_97 : decode b_FC_known 97 = .ok (.istore 4, 2) := by decide +kernel
theorem d_FC_known_99 : decode b_FC_known 99 = .ok (.iload 4, 2) := by decide +kernel
theorem d_FC_known_101 : decode b_FC_known 101 = .ok (.bipush 20, 2) := by decide +kernel
theorem d_FC_known_103 : decode b_FC_known 103 = .ok (.if_icmp .gt 24, 3) := by decide +kernel
theorem d_FC_known_106 : decode b_FC_known 106 = .ok (.iload_n 3, 1) := by decide +kernel
theorem d_FC_known_107 : decode b_FC_known 107 = .ok (.iload_n 2, 1) := by decide +kernel
theorem d_FC_known_108 : decode b_FC_known 108 = .ok (.if_icmp .ne 6, 3) := by decide +kernel
theorem d_FC_known_111 : decode b_FC_known 111 = .ok (.iload 4, 2) := by decide +kernel
theorem d_FC_known_113 : decode b_FC_known 113 = .ok (.ireturn, 1) := by decide +kernel
theorem d_FC_known_114 : decode b_FC_known 114 = .ok (.aload_n 0, 1) := by decide +kernel
theorem d_FC_known_115 : decode b_FC_known 115 = .ok (.iload_n 2, 1) := by decide +kernel
theorem d_FC_known_116 : decode b_FC_known 116 = .ok (.iload_n 3, 1) := by decide +kernel
theorem d_FC_known_117 : decode b_FC_known 117 = .ok (.invokevirtual 202, 3) := by decide +kernel
theorem d_FC_known_120 : decode b_FC_known 120 = .ok (.istore_n 3, 1) := by decide +kernel
theorem d_FC_known_121 : decode b_FC_known 121 = .ok (.iinc 4 1, 3) := by decide +kernel
theorem d_FC_known_124 : decode b_FC_known 124 = .ok (.goto (-25), 3) := by decide +kernel
theorem d_FC_known_127 : decode b_FC_known 127 = .ok (.bipush (-5), 2) := by decide +kernel
theorem d_FC_known_129 : decode b_FC_known 129 = .ok (.ireturn, 1) := by decide +kernel
theorem d_FC_see_0 : decode b_FC_see 0 = .ok (.iload_n 1, 1) := by decide +kernel
theorem d_FC_see_1 : decode b_FC_see 1 = .ok (.iconst (-1), 1) := by decide +kernel
theorem d_FC_see_2 : decode b_FC_see 2 = .ok (.if_icmp .ne 13, 3) := by decide +kernel
theorem d_FC_see_5 : decode b_FC_see 5 = .ok (.aload_n 0, 1) := by decide +kernel
theorem d_FC_see_6 : decode b_FC_see 6 = .ok (.getfield 12, 3) := by decide +kernel
theorem d_FC_see_9 : decode b_FC_see 9 = .ok (.iconst 0, 1) := by decide +kernel
theorem d_FC_see_10 : decode b_FC_see 10 = .ok (.putfield 205, 3) := by decide +kernel
theorem d_FC_see_13 : decode b_FC_see 13 = .ok (.iconst 0, 1) := by decide +kernel
theorem d_FC_see_14 : decode b_FC_see 14 = .ok (.ireturn, 1) := by decide +kernel
theorem d_FC_see_15 : decode b_FC_see 15 = .ok (.aload_n 0, 1) := by decide +kernel
theorem d_FC_see_16 : decode b_FC_see 16 = .ok (.iload_n 1, 1) := by decide +kernel
theorem d_FC_see_17 : decode b_FC_see 17 = .ok (.invokevirtual 97, 3) := by decide +kernel
theorem d_FC_see_20 : decode b_FC_see 20 = .ok (.ifCond .ne 5, 3) := by decide +kernel
theorem d_FC_see_23 : decode b_FC_see 23 = .ok (.iconst (-1), 1) := by decide +kernel
theorem d_FC_see_24 : decode b_FC_see 24 = .ok (.ireturn, 1) := by decide +kernel
theorem d_FC_see_25 : decode b_FC_see 25 = .ok (.iload_n 2, 1) := by decide +kernel
theorem d_FC_see_26 : decode b_FC_see 26 = .ok (.invokestatic 208, 3) := by decide +kernel
theorem d_FC_see_29 : decode b_FC_see 29 = .ok (.ifCond .ne 6, 3) := by decide +kernel
theorem d_FC_see_32 : decode b_FC_see 32 = .ok (.bipush (-2), 2) := by decide +kernel
theorem d_FC_see_34 : decode b_FC_see 34 = .ok (.ireturn, 1) := by decide +kernel
theorem d_FC_see_35 : decode b_FC_see 35 = .ok (.aload_n 0, 1) := by decide +kernel
theorem d_FC_see_36 : decode b_FC_see 36 = .ok (.getfield 12, 3) := by decide +kernel
theorem d_FC_see_39 : decode b_FC_see 39 = .ok (.getfield 205, 3) := by decide +kernel
theorem d_FC_see_42 : decode b_FC_see 42 = .ok (.bipush 6, 2) := by decide +kernel
theorem d_FC_see_44 : decode b_FC_see 44 = .ok (.if_icmp .lt 6, 3) := by decide +kernel
theorem d_FC_see_47 : decode b_FC_see 47 = .ok (.bipush (-4), 2) := by decide +kernel
theorem d_FC_see_49 : decode b_FC_see 49 = .ok (.ireturn, 1) := by decide +kernel
theorem d_FC_see_50 : decode b_FC_see 50 = .ok (.aload_n 0, 1) := by decide +kernel
theorem d_FC_see_51 : decode b_FC_see 51 = .ok (.getfield 12, 3) := by decide +kernel
theorem d_FC_see_54 : decode b_FC_see 54 = .ok (.getfield 211, 3) := by decide +kernel
theorem d_FC_see_57 : decode b_FC_see 57 = .ok (.aload_n 0, 1) := by decide +kernel
theorem d_FC_see_58 : decode b_FC_see 58 = .ok (.getfield 12, 3) := by decide +kernel
theorem d_FC_see_61 : decode b_FC_see 61 = .ok (.getfield 205, 3) := by decide +kernel
theorem d_FC_see_64 : decode b_FC_see 64 = .ok (.iload_n 1, 1) := by decide +kernel
theorem d_FC_see_65 : decode b_FC_see 65 = .ok (.iastore, 1) := by decide +kernel
theorem d_FC_see_66 : decode b_FC_see 66 = .ok (.aload_n 0, 1) := by decide +kernel
theorem d_FC_see_67 : decode b_FC_see 67 = .ok (.getfield 12, 3) := by decide +kernel
theorem d_FC_see_70 : decode b_FC_see 70 = .ok (.getfield 214, 3) := by decide +kernel
theorem d_FC_see_73 : decode b_FC_see 73 = .ok (.aload_n 0, 1) := by decide +kernel
theorem d_FC_see_74 : decode b_FC_see 74 = .ok (.getfield 12, 3) := by decide +kernel
theorem d_FC_see_77 : decode b_FC_see 77 = .ok (.getfield 205, 3) := by decide +kernel
theorem d_FC_see_80 : decode b_FC_see 80 = .ok (.iload_n 2, 1) := by decide +kernel
theorem d_FC_see_81 : decode b_FC_see 81 = .ok (.iastore, 1) := by decide +kernel
theorem d_FC_see_82 : decode b_FC_see 82 = .ok (.aload_n 0, 1) := by decide +kernel
theorem d_FC_see_83 : decode b_FC_see 83 = .ok (.getfield 12, 3) := by decide +kernel
theorem d_FC_see_86 : decode b_FC_see 86 = .ok (.dup, 1) := by decide +kernel
theorem d_FC_see_87 : decode b_FC_see 87 = .ok (.getfield 205, 3) := by decide +kernel
theorem d_FC_see_90 : decode b_FC_see 90 = .ok (.iconst 1, 1) := by decide +kernel
theorem d_FC_see_91 : decode b_FC_see 91 = .ok (.iadd, 1) := by decide +kernel
theorem d_FC_see_92 : decode b_FC_see 92 = .ok (.putfield 205, 3) := by decide +kernel
theorem d_FC_see_95 : decode b_FC_see 95 = .ok (.aload_n 0, 1) := by decide +kernel
theorem d_FC_see_96 : decode b_FC_see 96 = .ok (.getfield 12, 3) := by decide +kernel
theorem d_FC_see_99 : decode b_FC_see 99 = .ok (.getfield 205, 3) := by decide +kernel
theorem d_FC_see_102 : decode b_FC_see 102 = .ok (.ireturn, 1) := by decide +kernel
theorem d_FC_fast_0 : decode b_FC_fast 0 = .ok (.iload_n 1, 1) := by decide +kernel
theorem d_FC_fast_1 : decode b_FC_fast 1 = .ok (.invokestatic 122, 3) := by decide +kernel
theorem d_FC_fast_4 : decode b_FC_fast 4 = .ok (.ifCond .eq 10, 3) := by decide +kernel
theorem d_FC_fast_7 : decode b_FC_fast 7 = .ok (.iload_n 2, 1) := by decide +kernel
theorem d_FC_fast_8 : decode b_FC_fast 8 = .ok (.invokestatic 172, 3) := by decide +kernel
theorem d_FC_fast_11 : decode b_FC_fast 11 = .ok (.ifCond .ne 5, 3) := by decide +kernel
theorem d_FC_fast_14 : decode b_FC_fast 14 = .ok (.iconst (-1), 1) := by decide +kernel
theorem d_FC_fast_15 : decode b_FC_fast 15 = .ok (.ireturn, 1) := by decide +kernel
theorem d_FC_fast_16 : decode b_FC_fast 16 = .ok (.aload_n 0, 1) := by decide +kernel
theorem d_FC_fast_17 : decode b_FC_fast 17 = .ok (.getfield 49, 3) := by decide +kernel
theorem d_FC_fast_20 : decode b_FC_fast 20 = .ok (.aload_n 0, 1) := by decide +kernel
theorem d_FC_fast_21 : decode b_FC_fast 21 = .ok (.getfield 45, 3) := by decide +kernel
theorem d_FC_fast_24 : decode b_FC_fast 24 = .ok (.invokevirtual 158, 3) := by decide +kernel
theorem d_FC_fast_27 : decode b_FC_fast 27 = .ok (.iconst 0, 1) := by decide +kernel
theorem d_FC_fast_28 : decode b_FC_fast 28 = .ok (.istore_n 3, 1) := by decide +kernel
theorem d_FC_fast_29 : decode b_FC_fast 29 = .ok (.bipush (-99), 2) := by decide +kernel
theorem d_FC_fast_31 : decode b_FC_fast 31 = .ok (.istore 4, 2) := by decide +kernel
theorem d_FC_fast_33 : decode b_FC_fast 33 = .ok (.bipush (-60), 2) := by decide +kernel
theorem d_FC_fast_35 : decode b_FC_fast 35 = .ok (.istore 5, 2) := by decide +kernel
theorem d_FC_fast_37 : decode b_FC_fast 37 = .ok (.iload 5, 2) := by decide +kernel
theorem d_FC_fast_39 : decode b_FC_fast 39 = .ok (.bipush 60, 2) := by decide +kernel
theorem d_FC_fast_41 : decode b_FC_fast 41 = .ok (.if_icmp .gt 48, 3) := by decide +kernel
theorem d_FC_fast_44 : decode b_FC_fast 44 = .ok (.aload_n 0, 1) := by decide +kernel
theorem d_FC_fast_45 : decode b_FC_fast 45 = .ok (.getfield 49, 3) := by decide +kernel
theorem d_FC_fast_48 : decode b_FC_fast 48 = .ok (.getfield 152, 3) := by decide +kernel
theorem d_FC_fast_51 : decode b_FC_fast 51 = .ok (.iload_n 1, 1) := by decide +kernel
theorem d_FC_fast_52 : decode b_FC_fast 52 = .ok (.iload 5, 2) := by decide +kernel
theorem d_FC_fast_54 : decode b_FC_fast 54 = .ok (.iastore, 1) := by decide +kernel
theorem d_FC_fast_55 : decode b_FC_fast 55 = .ok (.aload_n 0, 1) := by decide +kernel
theorem d_FC_fast_56 : decode b_FC_fast 56 = .ok (.getfield 49, 3) := by decide +kernel
theorem d_FC_fast_59 : decode b_FC_fast 59 = .ok (.aload_n 0, 1) := by decide +kernel
theorem d_FC_fast_60 : decode b_FC_fast 60 = .ok (.getfield 12, 3) := by decide +kernel
theorem d_FC_fast_63 : decode b_FC_fast 63 = .ok (.invokevirtual 217, 3) := by decide +kernel
theorem d_FC_fast_66 : decode b_FC_fast 66 = .ok (.ifCond .ne 6, 3) := by decide +kernel
theorem d_FC_fast_69 : decode b_FC_fast 69 = .ok (.goto 14, 3) := by decide +kernel
theorem d_FC_fast_72 : decode b_FC_fast 72 = .ok (.iload_n 3, 1) := by decide +kernel
theorem d_FC_fast_73 : decode b_FC_fast 73 = .ok (.ifCond .ne 7, 3) := by decide +kernel
theorem d_FC_fast_76 : decode b_FC_fast 76 = .ok (.iload 5, 2) := by decide +kernel
theorem d_FC_fast_78 : decode b_FC_fast 78 = .ok (.istore 4, 2) := by decide +kernel
theorem d_FC_fast_80 : decode b_FC_fast 80 = .ok (.iinc 3 1, 3) := by decide +kernel
theorem d_FC_fast_83 : decode b_FC_fast 83 = .ok (.iinc 5 1, 3) := by decide +kernel
theorem d_FC_fast_86 : decode b_FC_fast 86 = .ok (.goto (-49), 3) := by decide +kernel
theorem d_FC_fast_89 : decode b_FC_fast 89 = .ok (.iload_n 2, 1) := by decide +kernel
theorem d_FC_fast_90 : decode b_FC_fast 90 = .ok (.ifCond .ne 7, 3) := by decide +kernel
theorem d_FC_fast_93 : decode b_FC_fast 93 = .ok (.iload_n 3, 1) := by decide +kernel
theorem d_FC_fast_94 : decode b_FC_fast 94 = .ok (.goto 5, 3) := by decide +kernel
theorem d_FC_fast_97 : decode b_FC_fast 97 = .ok (.iload 4, 2) := by decide +kernel
theorem d_FC_fast_99 : decode b_FC_fast 99 = .ok (.ireturn, 1) := by decide +kernel
theorem d_FC_who_0 : decode b_FC_who 0 = .ok (.iload_n 1, 1) := by decide +kernel
theorem d_FC_who_1 : decode b_FC_who 1 = .ok (.invokestatic 208, 3) := by decide +kernel
theorem d_FC_who_4 : decode b_FC_who 4 = .ok (.ifCond .ne 6, 3) := by decide +kernel
theorem d_FC_who_7 : decode b_FC_who 7 = .ok (.bipush (-2), 2) := by decide +kernel
theorem d_FC_who_9 : decode b_FC_who 9 = .ok (.ireturn, 1) := by decide +kernel
theorem d_FC_who_10 : decode b_FC_who 10 = .ok (.iconst 0, 1) := by decide +kernel
theorem d_FC_who_11 : decode b_FC_who 11 = .ok (.istore_n 2, 1) := by decide +kernel
theorem d_FC_who_12 : decode b_FC_who 12 = .ok (.iconst 0, 1) := by decide +kernel
theorem d_FC_who_13 : decode b_FC_who 13 = .ok (.istore_n 3, 1) := by decide +kernel
theorem d_FC_who_14 : decode b_FC_who 14 = .ok (.iload_n 3, 1) := by decide +kernel
theorem d_FC_who_15 : decode b_FC_who 15 = .ok (.aload_n 0, 1) := by decide +kernel
theorem d_FC_who_16 : decode b_FC_who 16 = .ok (.getfield 45, 3) := by decide +kernel
theorem d_FC_who_19 : decode b_FC_who 19 = .ok (.getfield 77, 3) := by decide +kernel
theorem d_FC_who_22 : decode b_FC_who 22 = .ok (.if_icmp .ge 27, 3) := by decide +kernel
theorem d_FC_who_25 : decode b_FC_who 25 = .ok (.aload_n 0, 1) := by decide +kernel
theorem d_FC_who_26 : decode b_FC_who 26 = .ok (.getfield 45, 3) := by decide +kernel
theorem d_FC_who_29 : decode b_FC_who 29 = .ok (.iload_n 3, 1) := by decide +kernel
theorem d_FC_who_30 : decode b_FC_who 30 = .ok (.invokevirtual 115, 3) := by decide +kernel
theorem d_FC_who_33 : decode b_FC_who 33 = .ok (.iload_n 1, 1) := by decide +kernel
theorem d_FC_who_34 : decode b_FC_who 34 = .ok (.if_icmp .ne 9, 3) := by decide +kernel
theorem d_FC_who_37 : decode b_FC_who 37 = .ok (.iload_n 2, 1) := by decide +kernel
theorem d_FC_who_38 : decode b_FC_who 38 = .ok (.iconst 1, 1) := by decide +kernel
theorem d_FC_who_39 : decode b_FC_who 39 = .ok (.iload_n 3, 1) := by decide +kernel
theorem d_FC_who_40 : decode b_FC_who 40 = .ok (.ishl, 1) := by decide +kernel
theorem d_FC_who_41 : decode b_FC_who 41 = .ok (.ior, 1) := by decide +kernel
theorem d_FC_who_42 : decode b_FC_who 42 = .ok (.istore_n 2, 1) := by decide +kernel
theorem d_FC_who_43 : decode b_FC_who 43 = .ok (.iinc 3 1, 3) := by decide +kernel
theorem d_FC_who_46 : decode b_FC_who 46 = .ok (.goto (-32), 3) := by decide +kernel
theorem d_FC_who_49 : decode b_FC_who 49 = .ok (.iload_n 2, 1) := by decide +kernel
theorem d_FC_who_50 : decode b_FC_who 50 = .ok (.ireturn, 1) := by decide +kernel
theorem d_FC_odds_0 : decode b_FC_odds 0 = .ok (.iload_n 1, 1) := by decide +kernel
theorem d_FC_odds_1 : decode b_FC_odds 1 = .ok (.invokestatic 125, 3) := by decide +kernel
theorem d_FC_odds_4 : decode b_FC_odds 4 = .ok (.ifCond .eq 20, 3) := by decide +kernel
theorem d_FC_odds_7 : decode b_FC_odds 7 = .ok (.iload_n 2, 1) := by decide +kernel
theorem d_FC_odds_8 : decode b_FC_odds 8 = .ok (.invokestatic 172, 3) := by decide +kernel
theorem d_FC_odds_11 : decode b_FC_odds 11 = .ok (.ifCond .eq 13, 3) := by decide +kernel
theorem d_FC_odds_14 : decode b_FC_odds 14 = .ok (.aload_n 0, 1) := by decide +kernel
theorem d_FC_odds_15 : decode b_FC_odds 15 = .ok (.getfield 45, 3) := by decide +kernel
theorem d_FC_odds_18 : decode b_FC_odds 18 = .ok (.getfield 77, 3) := by decide +kernel
theorem d_FC_odds_21 : decode b_FC_odds 21 = .ok (.ifCond .ne 7, 3) := by decide +kernel
theorem d_FC_odds_24 : decode b_FC_odds 24 = .ok (.ldc2_w 188, 3) := by decide +kernel
theorem d_FC_odds_27 : decode b_FC_odds 27 = .ok (.lreturn, 1) := by decide +kernel
theorem d_FC_odds_28 : decode b_FC_odds 28 = .ok (.aload_n 0, 1) := by decide +kernel
theorem d_FC_odds_29 : decode b_FC_odds 29 = .ok (.getfield 49, 3) := by decide +kernel
theorem d_FC_odds_32 : decode b_FC_odds 32 = .ok (.aload_n 0, 1) := by decide +kernel
theorem d_FC_odds_33 : decode b_FC_odds 33 = .ok (.getfield 45, 3) := by decide +kernel
theorem d_FC_odds_36 : decode b_FC_odds 36 = .ok (.invokevirtual 158, 3) := by decide +kernel
theorem d_FC_odds_39 : decode b_FC_odds 39 = .ok (.iconst 0, 1) := by decide +kernel
theorem d_FC_odds_40 : decode b_FC_odds 40 = .ok (.istore_n 3, 1) := by decide +kernel
theorem d_FC_odds_41 : decode b_FC_odds 41 = .ok (.iconst 0, 1) := by decide +kernel
theorem d_FC_odds_42 : decode b_FC_odds 42 = .ok (.istore 4, 2) := by decide +kernel
theorem d_FC_odds_44 : decode b_FC_odds 44 = .ok (.iload 4, 2) := by decide +kernel
theorem d_FC_odds_46 : decode b_FC_odds 46 = .ok (.aload_n 0, 1) := by decide +kernel
theorem d_FC_odds_47 : decode b_FC_odds 47 = .ok (.getfield 45, 3) := by decide +kernel
theorem d_FC_odds_50 : decode b_FC_odds 50 = .ok (.getfield 77, 3) := by decide +kernel
theorem d_FC_odds_53 : decode b_FC_odds 53 = .ok (.if_icmp .ge 52, 3) := by decide +kernel
theorem d_FC_odds_56 : decode b_FC_odds 56 = .ok (.aload_n 0, 1) := by decide +kernel
theorem d_FC_odds_57 : decode b_FC_odds 57 = .ok (.getfield 49, 3) := by decide +kernel
theorem d_FC_odds_60 : decode b_FC_odds 60 = .ok (.iload 4, 2) := by decide +kernel
theorem d_FC_odds_62 : decode b_FC_odds 62 = .ok (.invokevirtual 136, 3) := by decide +kernel
theorem d_FC_odds_65 : decode b_FC_odds 65 = .ok (.aload_n 0, 1) := by decide +kernel
theorem d_FC_odds_66 : decode b_FC_odds 66 = .ok (.getfield 49, 3) := by decide +kernel
theorem d_FC_odds_69 : decode b_FC_odds 69 = .ok (.iload_n 1, 1) := by decide +kernel
theorem d_FC_odds_70 : decode b_FC_odds 70 = .ok (.invokevirtual 166, 3) := by decide +kernel
theorem d_FC_odds_73 : decode b_FC_odds 73 = .ok (.ifCond .eq 6, 3) := by decide +kernel
theorem d_FC_odds_76 : decode b_FC_odds 76 = .ok (.iinc 3 1, 3) := by decide +kernel
theorem d_FC_odds_79 : decode b_FC_odds 79 = .ok (.aload_n 0, 1) := by decide +kernel
theorem d_FC_odds_80 : decode b_FC_odds 80 = .ok (.getfield 49, 3) := by decide +kernel
theorem d_FC_odds_83 : decode b_FC_odds 83 = .ok (.getfield 91, 3) := by decide +kernel
theorem d_FC_odds_86 : decode b_FC_odds 86 = .ok (.iload 4, 2) := by decide +kernel
theorem d_FC_odds_88 : decode b_FC_odds 88 = .ok (.aload_n 0, 1) := by decide +kernel
theorem d_FC_odds_89 : decode b_FC_odds 89 = .ok (.getfield 45, 3) := by decide +kernel
theorem d_FC_odds_92 : decode b_FC_odds 92 = .ok (.getfield 91, 3) := by decide +kernel
theorem d_FC_odds_95 : decode b_FC_odds 95 = .ok (.iload 4, 2) := by decide +kernel
theorem d_FC_odds_97 : decode b_FC_odds 97 = .ok (.iaload, 1) := by decide +kernel
theorem d_FC_odds_98 : decode b_FC_odds 98 = .ok (.iastore, 1) := by decide +kernel
theorem d_FC_odds_99 : decode b_FC_odds 99 = .ok (.iinc 4 1, 3) := by decide +kernel
theorem d_FC_odds_102 : decode b_FC_odds 102 = .ok (.goto (-58), 3) := by decide +kernel
theorem d_FC_odds_105 : decode b_FC_odds 105 = .ok (.iload_n 3, 1) := by decide +kernel
theorem d_FC_odds_106 : decode b_FC_odds 106 = .ok (.i2l, 1) := by decide +kernel
theorem d_FC_odds_107 : decode b_FC_odds 107 = .ok (.aload_n 0, 1) := by decide +kernel
theorem d_FC_odds_108 : decode b_FC_odds 108 = .ok (.getfield 45, 3) := by decide +kernel
theorem d_FC_odds_111 : decode b_FC_odds 111 = .ok (.getfield 77, 3) := by decide +kernel
theorem d_FC_odds_114 : decode b_FC_odds 114 = .ok (.i2l, 1) := by decide +kernel
theorem d_FC_odds_115 : decode b_FC_odds 115 = .ok (.iload_n 2, 1) := by decide +kernel
theorem d_FC_odds_116 : decode b_FC_odds 116 = .ok (.invokestatic 193, 3) := by decide +kernel
theorem d_FC_odds_119 : decode b_FC_odds 119 = .ok (.lreturn, 1) := by decide +kernel
theorem d_FC_mean_0 : decode b_FC_mean 0 = .ok (.iload_n 1, 1) := by decide +kernel
theorem d_FC_mean_1 : decode b_FC_mean 1 = .ok (.invokestatic 172, 3) := by decide +kernel
theorem d_FC_mean_4 : decode b_FC_mean 4 = .ok (.ifCond .eq 13, 3) := by decide +kernel
theorem d_FC_mean_7 : decode b_FC_mean 7 = .ok (.aload_n 0, 1) := by decide +kernel
theorem d_FC_mean_8 : decode b_FC_mean 8 = .ok (.getfield 45, 3) := by decide +kernel
theorem d_FC_mean_11 : decode b_FC_mean 11 = .ok (.getfield 77, 3) := by decide +kernel
theorem d_FC_mean_14 : decode b_FC_mean 14 = .ok (.ifCond .ne 7, 3) := by decide +kernel
theorem d_FC_mean_17 : decode b_FC_mean 17 = .ok (.ldc2_w 188, 3) := by decide +kernel
theorem d_FC_mean_20 : decode b_FC_mean 20 = .ok (.lreturn, 1) := by decide +kernel
theorem d_FC_mean_21 : decode b_FC_mean 21 = .ok (.lconst 0, 1) := by decide +kernel
theorem d_FC_mean_22 : decode b_FC_mean 22 = .ok (.lstore_n 2, 1) := by decide +kernel
theorem d_FC_mean_23 : decode b_FC_mean 23 = .ok (.iconst 0, 1) := by decide +kernel
theorem d_FC_mean_24 : decode b_FC_mean 24 = .ok (.istore 4, 2) := by decide +kernel
theorem d_FC_mean_26 : decode b_FC_mean 26 = .ok (.iload 4, 2) := by decide +kernel
theorem d_FC_mean_28 : decode b_FC_mean 28 = .ok (.aload_n 0, 1) := by decide +kernel
theorem d_FC_mean_29 : decode b_FC_mean 29 = .ok (.getfield 45, 3) := by decide +kernel
theorem d_FC_mean_32 : decode b_FC_mean 32 = .ok (.getfield 77, 3) := by decide +kernel
theorem d_FC_mean_35 : decode b_FC_mean 35 = .ok (.if_icmp .ge 22, 3) := by decide +kernel
theorem d_FC_mean_38 : decode b_FC_mean 38 = .ok (.lload_n 2, 1) := by decide +kernel
theorem d_FC_mean_39 : decode b_FC_mean 39 = .ok (.aload_n 0, 1) := by decide +kernel
theorem d_FC_mean_40 : decode b_FC_mean 40 = .ok (.getfield 45, 3) := by decide +kernel
theorem d_FC_mean_43 : decode b_FC_mean 43 = .ok (.iload 4, 2) := by decide +kernel
theorem d_FC_mean_45 : decode b_FC_mean 45 = .ok (.invokevirtual 115, 3) := by decide +kernel
theorem d_FC_mean_48 : decode b_FC_mean 48 = .ok (.i2l, 1) := by decide +kernel
theorem d_FC_mean_49 : decode b_FC_mean 49 = .ok (.ladd, 1) := by decide +kernel
theorem d_FC_mean_50 : decode b_FC_mean 50 = .ok (.lstore_n 2, 1) := by decide +kernel
theorem d_FC_mean_51 : decode b_FC_mean 51 = .ok (.iinc 4 1, 3) := by decide +kernel
theorem d_FC_mean_54 : decode b_FC_mean 54 = .ok (.goto (-28), 3) := by decide +kernel
theorem d_FC_mean_57 : decode b_FC_mean 57 = .ok (.lload_n 2, 1) := by decide +kernel
theorem d_FC_mean_58 : decode b_FC_mean 58 = .ok (.aload_n 0, 1) := by decide +kernel
theorem d_FC_mean_59 : decode b_FC_mean 59 = .ok (.getfield 45, 3) := by decide +kernel
theorem d_FC_mean_62 : decode b_FC_mean 62 = .ok (.getfield 77, 3) := by decide +kernel
theorem d_FC_mean_65 : decode b_FC_mean 65 = .ok (.i2l, 1) := by decide +kernel
theorem d_FC_mean_66 : decode b_FC_mean 66 = .ok (.iload_n 1, 1) := by decide +kernel
theorem d_FC_mean_67 : decode b_FC_mean 67 = .ok (.invokestatic 193, 3) := by decide +kernel
theorem d_FC_mean_70 : decode b_FC_mean 70 = .ok (.lreturn, 1) := by decide +kernel
theorem d_FC_rule_0 : decode b_FC_rule 0 = .ok (.iload_n 3, 1) := by decide +kernel
theorem d_FC_rule_1 : decode b_FC_rule 1 = .ok (.iconst (-1), 1) := by decide +kernel
theorem d_FC_rule_2 : decode b_FC_rule 2 = .ok (.if_icmp .ne 13, 3) := by decide +kernel
theorem d_FC_rule_5 : decode b_FC_rule 5 = .ok (.aload_n 0, 1) := by decide +kernel
theorem d_FC_rule_6 : decode b_FC_rule 6 = .ok (.getfield 12, 3) := by decide +kernel
theorem d_FC_rule_9 : decode b_FC_rule 9 = .ok (.iconst 0, 1) := by decide +kernel
theorem d_FC_rule_10 : decode b_FC_rule 10 = .ok (.putfield 221, 3) := by decide +kernel
theorem d_FC_rule_13 : decode b_FC_rule 13 = .ok (.iconst 0, 1) := by decide +kernel
theorem d_FC_rule_14 : decode b_FC_rule 14 = .ok (.ireturn, 1) := by decide +kernel
theorem d_FC_rule_15 : decode b_FC_rule 15 = .ok (.iload_n 1, 1) := by decide +kernel
theorem d_FC_rule_16 : decode b_FC_rule 16 = .ok (.invokestatic 122, 3) := by decide +kernel
theorem d_FC_rule_19 : decode b_FC_rule 19 = .ok (.ifCond .ne 5, 3) := by decide +kernel
theorem d_FC_rule_22 : decode b_FC_rule 22 = .ok (.iconst (-1), 1) := by decide +kernel
theorem d_FC_rule_23 : decode b_FC_rule 23 = .ok (.ireturn, 1) := by decide +kernel
theorem d_FC_rule_24 : decode b_FC_rule 24 = .ok (.iload_n 2, 1) := by decide +kernel
theorem d_FC_rule_25 : decode b_FC_rule 25 = .ok (.invokestatic 125, 3) := by decide +kernel
theorem d_FC_rule_28 : decode b_FC_rule 28 = .ok (.ifCond .eq 14, 3) := by decide +kernel
theorem d_FC_rule_31 : decode b_FC_rule 31 = .ok (.iload_n 3, 1) := by decide +kernel
theorem d_FC_rule_32 : decode b_FC_rule 32 = .ok (.iconst 1, 1) := by decide +kernel
theorem d_FC_rule_33 : decode b_FC_rule 33 = .ok (.if_icmp .lt 9, 3) := by decide +kernel
theorem d_FC_rule_36 : decode b_FC_rule 36 = .ok (.iload_n 3, 1) := by decide +kernel
theorem d_FC_rule_37 : decode b_FC_rule 37 = .ok (.bipush 9, 2) := by decide +kernel
theorem d_FC_rule_39 : decode b_FC_rule 39 = .ok (.if_icmp .le 6, 3) := by decide +kernel
theorem d_FC_rule_42 : decode b_FC_rule 42 = .ok (.bipush (-2), 2) := by decide +kernel
theorem d_FC_rule_44 : decode b_FC_rule 44 = .ok (.ireturn, 1) := by decide +kernel
theorem d_FC_rule_45 : decode b_FC_rule 45 = .ok (.aload_n 0, 1) := by decide +kernel
theorem d_FC_rule_46 : decode b_FC_rule 46 = .ok (.getfield 12, 3) := by decide +kernel
theorem d_FC_rule_49 : decode b_FC_rule 49 = .ok (.getfield 221, 3) := by decide +kernel
theorem d_FC_rule_52 : decode b_FC_rule 52 = .ok (.iconst 4, 1) := by decide +kernel
theorem d_FC_rule_53 : decode b_FC_rule 53 = .ok (.if_icmp .lt 6, 3) := by decide +kernel
theorem d_FC_rule_56 : decode b_FC_rule 56 = .ok (.bipush (-4), 2) := by decide +kernel
theorem d_FC_rule_58 : decode b_FC_rule 58 = .ok (.ireturn, 1) := by decide +kernel
theorem d_FC_rule_59 : decode b_FC_rule 59 = .ok (.aload_n 0, 1) := by decide +kernel
theorem d_FC_rule_60 : decode b_FC_rule 60 = .ok (.getfield 12, 3) := by decide +kernel
theorem d_FC_rule_63 : decode b_FC_rule 63 = .ok (.getfield 224, 3) := by decide +kernel
theorem d_FC_rule_66 : decode b_FC_rule 66 = .ok (.aload_n 0, 1) := by decide +kernel
theorem d_FC_rule_67 : decode b_FC_rule 67 = .ok (.getfield 12, 3) := by decide +kernel
theorem d_FC_rule_70 : decode b_FC_rule 70 = .ok (.getfield 221, 3) := by decide +kernel
theorem d_FC_rule_73 : decode b_FC_rule 73 = .ok (.iload_n 1, 1) := by decide +kernel
theorem d_FC_rule_74 : decode b_FC_rule 74 = .ok (.iastore, 1) := by decide +kernel
theorem d_FC_rule_75 : decode b_FC_rule 75 = .ok (.aload_n 0, 1) := by decide +kernel
theorem d_FC_rule_76 : decode b_FC_rule 76 = .ok (.getfield 12, 3) := by decide +kernel
theorem d_FC_rule_79 : decode b_FC_rule 79 = .ok (.getfield 227, 3) := by decide +kernel
theorem d_FC_rule_82 : decode b_FC_rule 82 = .ok (.aload_n 0, 1) := by decide +kernel
theorem d_FC_rule_83 : decode b_FC_rule 83 = .ok (.getfield 12, 3) := by decide +kernel
theorem d_FC_rule_86 : decode b_FC_rule 86 = .ok (.getfield 221, 3) := by decide +kernel
theorem d_FC_rule_89 : decode b_FC_rule 89 = .ok (.iload_n 2, 1) := by decide +kernel
theorem d_FC_rule_90 : decode b_FC_rule 90 = .ok (.iastore, 1) := by decide +kernel
theorem d_FC_rule_91 : decode b_FC_rule 91 = .ok (.aload_n 0, 1) := by decide +kernel
theorem d_FC_rule_92 : decode b_FC_rule 92 = .ok (.getfield 12, 3) := by decide +kernel
theorem d_FC_rule_95 : decode b_FC_rule 95 = .ok (.getfield 230, 3) := by decide +kernel
theorem d_FC_rule_98 : decode b_FC_rule 98 = .ok (.aload_n 0, 1) := by decide +kernel
theorem d_FC_rule_99 : decode b_FC_rule 99 = .ok (.getfield 12, 3) := by decide +kernel
theorem d_FC_rule_102 : decode b_FC_rule 102 = .ok (.getfield 221, 3) := by decide +kernel
theorem d_FC_rule_105 : decode b_FC_rule 105 = .ok (.iload_n 3, 1) := by decide +kernel
theorem d_FC_rule_106 : decode b_FC_rule 106 = .ok (.iastore, 1) := by decide +kernel
theorem d_FC_rule_107 : decode b_FC_rule 107 = .ok (.aload_n 0, 1) := by decide +kernel
theorem d_FC_rule_108 : decode b_FC_rule 108 = .ok (.getfield 12, 3) := by decide +kernel
theorem d_FC_rule_111 : decode b_FC_rule 111 = .ok (.dup, 1) := by decide +kernel
theorem d_FC_rule_112 : decode b_FC_rule 112 = .ok (.getfield 221, 3) := by decide +kernel
theorem d_FC_rule_115 : decode b_FC_rule 115 = .ok (.iconst 1, 1) := by decide +kernel
theorem d_FC_rule_116 : decode b_FC_rule 116 = .ok (.iadd, 1) := by decide +kernel
theorem d_FC_rule_117 : decode b_FC_rule 117 = .ok (.putfield 221, 3) := by decide +kernel
theorem d_FC_rule_120 : decode b_FC_rule 120 = .ok (.aload_n 0, 1) := by decide +kernel
theorem d_FC_rule_121 : decode b_FC_rule 121 = .ok (.getfield 12, 3) := by decide +kernel
theorem d_FC_rule_124 : decode b_FC_rule 124 = .ok (.getfield 221, 3) := by decide +kernel
theorem d_FC_rule_127 : decode b_FC_rule 127 = .ok (.ireturn, 1) := by decide +kernel
theorem d_FC_ruled_0 : decode b_FC_ruled 0 = .ok (.aload_n 0, 1) := by decide +kernel
theorem d_FC_ruled_1 : decode b_FC_ruled 1 = .ok (.getfield 49, 3) := by decide +kernel
theorem d_FC_ruled_4 : decode b_FC_ruled 4 = .ok (.aload_n 0, 1) := by decide +kernel
theorem d_FC_ruled_5 : decode b_FC_ruled 5 = .ok (.getfield 45, 3) := by decide +kernel
theorem d_FC_ruled_8 : decode b_FC_ruled 8 = .ok (.invokevirtual 158, 3) := by decide +kernel
theorem d_FC_ruled_11 : decode b_FC_ruled 11 = .ok (.iconst 0, 1) := by decide +kernel
theorem d_FC_ruled_12 : decode b_FC_ruled 12 = .ok (.istore_n 1, 1) := by decide +kernel
theorem d_FC_ruled_13 : decode b_FC_ruled 13 = .ok (.iconst 0, 1) := by decide +kernel
theorem d_FC_ruled_14 : decode b_FC_ruled 14 = .ok (.istore_n 2, 1) := by decide +kernel
theorem d_FC_ruled_15 : decode b_FC_ruled 15 = .ok (.iload_n 2, 1) := by decide +kernel
theorem d_FC_ruled_16 : decode b_FC_ruled 16 = .ok (.aload_n 0, 1) := by decide +kernel
theorem d_FC_ruled_17 : decode b_FC_ruled 17 = .ok (.getfield 12, 3) := by decide +kernel
theorem d_FC_ruled_20 : decode b_FC_ruled 20 = .ok (.getfield 221, 3) := by decide +kernel
theorem d_FC_ruled_23 : decode b_FC_ruled 23 = .ok (.if_icmp .ge 54, 3) := by decide +kernel
theorem d_FC_ruled_26 : decode b_FC_ruled 26 = .ok (.aload_n 0, 1) := by decide +kernel
theorem d_FC_ruled_27 : decode b_FC_ruled 27 = .ok (.getfield 49, 3) := by decide +kernel
theorem d_FC_ruled_30 : decode b_FC_ruled 30 = .ok (.aload_n 0, 1) := by decide +kernel
theorem d_FC_ruled_31 : decode b_FC_ruled 31 = .ok (.getfield 12, 3) := by decide +kernel
theorem d_FC_ruled_34 : decode b_FC_ruled 34 = .ok (.getfield 224, 3) := by decide +kernel
theorem d_FC_ruled_37 : decode b_FC_ruled 37 = .ok (.iload_n 2, 1) := by decide +kernel
theorem d_FC_ruled_38 : decode b_FC_ruled 38 = .ok (.iaload, 1) := by decide +kernel
theorem d_FC_ruled_39 : decode b_FC_ruled 39 = .ok (.aload_n 0, 1) := by decide +kernel
theorem d_FC_ruled_40 : decode b_FC_ruled 40 = .ok (.getfield 12, 3) := by decide +kernel
theorem d_FC_ruled_43 : decode b_FC_ruled 43 = .ok (.getfield 227, 3) := by decide +kernel
theorem d_FC_ruled_46 : decode b_FC_ruled 46 = .ok (.iload_n 2, 1) := by decide +kernel
theorem d_FC_ruled_47 : decode b_FC_ruled 47 = .ok (.iaload, 1) := by decide +kernel
theorem d_FC_ruled_48 : decode b_FC_ruled 48 = .ok (.invokevirtual 130, 3) := by decide +kernel
theorem d_FC_ruled_51 : decode b_FC_ruled 51 = .ok (.iload_n 1, 1) := by decide +kernel
theorem d_FC_ruled_52 : decode b_FC_ruled 52 = .ok (.aload_n 0, 1) := by decide +kernel
theorem d_FC_ruled_53 : decode b_FC_ruled 53 = .ok (.getfield 49, 3) := by decide +kernel
theorem d_FC_ruled_56 : decode b_FC_ruled 56 = .ok (.aload_n 0, 1) := by decide +kernel
theorem d_FC_ruled_57 : decode b_FC_ruled 57 = .ok (.getfield 12, 3) := by decide +kernel
theorem d_FC_ruled_60 : decode b_FC_ruled 60 = .ok (.getfield 230, 3) := by decide +kernel
theorem d_FC_ruled_63 : decode b_FC_ruled 63 = .ok (.iload_n 2, 1) := by decide +kernel
theorem d_FC_ruled_64 : decode b_FC_ruled 64 = .ok (.iaload, 1) := by decide +kernel
theorem d_FC_ruled_65 : decode b_FC_ruled 65 = .ok (.iconst 0, 1) := by decide +kernel
theorem d_FC_ruled_66 : decode b_FC_ruled 66 = .ok (.invokevirtual 162, 3) := by decide +kernel
theorem d_FC_ruled_69 : decode b_FC_ruled 69 = .ok (.iadd, 1) := by decide +kernel
theorem d_FC_ruled_70 : decode b_FC_ruled 70 = .ok (.istore_n 1, 1) := by decide +kernel
theorem d_FC_ruled_71 : decode b_FC_ruled 71 = .ok (.iinc 2 1, 3) := by decide +kernel
theorem d_FC_ruled_74 : decode b_FC_ruled 74 = .ok (.goto (-59), 3) := by decide +kernel
theorem d_FC_ruled_77 : decode b_FC_ruled 77 = .ok (.iload_n 1, 1) := by decide +kernel
theorem d_FC_ruled_78 : decode b_FC_ruled 78 = .ok (.ireturn, 1) := by decide +kernel
theorem d_FC_book_0 : decode b_FC_book 0 = .ok (.iload_n 1, 1) := by decide +kernel
theorem d_FC_book_1 : decode b_FC_book 1 = .ok (.iconst (-1), 1) := by decide +kernel
theorem d_FC_book_2 : decode b_FC_book 2 = .ok (.if_icmp .ne 13, 3) := by decide +kernel
theorem d_FC_book_5 : decode b_FC_book 5 = .ok (.aload_n 0, 1) := by decide +kernel
theorem d_FC_book_6 : decode b_FC_book 6 = .ok (.getfield 12, 3) := by decide +kernel
theorem d_FC_book_9 : decode b_FC_book 9 = .ok (.iconst 0, 1) := by decide +kernel
theorem d_FC_book_10 : decode b_FC_book 10 = .ok (.putfield 233, 3) := by decide +kernel
theorem d_FC_book_13 : decode b_FC_book 13 = .ok (.iconst 0, 1) := by decide +kernel
theorem d_FC_book_14 : decode b_FC_book 14 = .ok (.ireturn, 1) := by decide +kernel
theorem d_FC_book_15 : decode b_FC_book 15 = .ok (.aload_n 0, 1) := by decide +kernel
theorem d_FC_book_16 : decode b_FC_book 16 = .ok (.iload_n 1, 1) := by decide +kernel
theorem d_FC_book_17 : decode b_FC_book 17 = .ok (.invokevirtual 97, 3) := by decide +kernel
theorem d_FC_book_20 : decode b_FC_book 20 = .ok (.ifCond .ne 5, 3) := by decide +kernel
theorem d_FC_book_23 : decode b_FC_book 23 = .ok (.iconst (-1), 1) := by decide +kernel
theorem d_FC_book_24 : decode b_FC_book 24 = .ok (.ireturn, 1) := by decide +kernel
theorem d_FC_book_25 : decode b_FC_book 25 = .ok (.iload_n 2, 1) := by decide +kernel
theorem d_FC_book_26 : decode b_FC_book 26 = .ok (.invokestatic 208, 3) := by decide +kernel
theorem d_FC_book_29 : decode b_FC_book 29 = .ok (.ifCond .ne 6, 3) := by decide +kernel
theorem d_FC_book_32 : decode b_FC_book 32 = .ok (.bipush (-2), 2) := by decide +kernel
theorem d_FC_book_34 : decode b_FC_book 34 = .ok (.ireturn, 1) := by decide +kernel
theorem d_FC_book_35 : decode b_FC_book 35 = .ok (.aload_n 0, 1) := by decide +kernel
theorem d_FC_book_36 : decode b_FC_book 36 = .ok (.getfield 12, 3) := by decide +kernel
theorem d_FC_book_39 : decode b_FC_book 39 = .ok (.getfield 233, 3) := by decide +kernel
theorem d_FC_book_42 : decode b_FC_book 42 = .ok (.bipush 8, 2) := by decide +kernel
theorem d_FC_book_44 : decode b_FC_book 44 = .ok (.if_icmp .lt 6, 3) := by decide +kernel
theorem d_FC_book_47 : decode b_FC_book 47 = .ok (.bipush (-4), 2) := by decide +kernel
theorem d_FC_book_49 : decode b_FC_book 49 = .ok (.ireturn, 1) := by decide +kernel
theorem d_FC_book_50 : decode b_FC_book 50 = .ok (.aload_n 0, 1) := by decide +kernel
theorem d_FC_book_51 : decode b_FC_book 51 = .ok (.getfield 12, 3) := by decide +kernel
theorem d_FC_book_54 : decode b_FC_book 54 = .ok (.getfield 236, 3) := by decide +kernel
theorem d_FC_book_57 : decode b_FC_book 57 = .ok (.aload_n 0, 1) := by decide +kernel
theorem d_FC_book_58 : decode b_FC_book 58 = .ok (.getfield 12, 3) := by decide +kernel
theorem d_FC_book_61 : decode b_FC_book 61 = .ok (.getfield 233, 3) := by decide +kernel
theorem d_FC_book_64 : decode b_FC_book 64 = .ok (.iload_n 1, 1) := by decide +kernel
theorem d_FC_book_65 : decode b_FC_book 65 = .ok (.iastore, 1) := by decide +kernel
theorem d_FC_book_66 : decode b_FC_book 66 = .ok (.aload_n 0, 1) := by decide +kernel
theorem d_FC_book_67 : decode b_FC_book 67 = .ok (.getfield 12, 3) := by decide +kernel
theorem d_FC_book_70 : decode b_FC_book 70 = .ok (.getfield 239, 3) := by decide +kernel
theorem d_FC_book_73 : decode b_FC_book 73 = .ok (.aload_n 0, 1) := by decide +kernel
theorem d_FC_book_74 : decode b_FC_book 74 = .ok (.getfield 12, 3) := by decide +kernel
theorem d_FC_book_77 : decode b_FC_book 77 = .ok (.getfield 233, 3) := by decide +kernel
theorem d_FC_book_80 : decode b_FC_book 80 = .ok (.iload_n 2, 1) := by decide +kernel
theorem d_FC_book_81 : decode b_FC_book 81 = .ok (.iastore, 1) := by decide +kernel
theorem d_FC_book_82 : decode b_FC_book 82 = .ok (.aload_n 0, 1) := by decide +kernel
theorem d_FC_book_83 : decode b_FC_book 83 = .ok (.getfield 12, 3) := by decide +kernel
theorem d_FC_book_86 : decode b_FC_book 86 = .ok (.dup, 1) := by decide +kernel
theorem d_FC_book_87 : decode b_FC_book 87 = .ok (.getfield 233, 3) := by decide +kernel
theorem d_FC_book_90 : decode b_FC_book 90 = .ok (.iconst 1, 1) := by decide +kernel
theorem d_FC_book_91 : decode b_FC_book 91 = .ok (.iadd, 1) := by decide +kernel
theorem d_FC_book_92 : decode b_FC_book 92 = .ok (.putfield 233, 3) := by decide +kernel
theorem d_FC_book_95 : decode b_FC_book 95 = .ok (.aload_n 0, 1) := by decide +kernel
theorem d_FC_book_96 : decode b_FC_book 96 = .ok (.getfield 12, 3) := by decide +kernel
theorem d_FC_book_99 : decode b_FC_book 99 = .ok (.getfield 233, 3) := by decide +kernel
theorem d_FC_book_102 : decode b_FC_book 102 = .ok (.ireturn, 1) := by decide +kernel
theorem d_FC_looked_0 : decode b_FC_looked 0 = .ok (.aload_n 0, 1) := by decide +kernel
theorem d_FC_looked_1 : decode b_FC_looked 1 = .ok (.getfield 49, 3) := by decide +kernel
theorem d_FC_looked_4 : decode b_FC_looked 4 = .ok (.aload_n 0, 1) := by decide +kernel
theorem d_FC_looked_5 : decode b_FC_looked 5 = .ok (.getfield 45, 3) := by decide +kernel
theorem d_FC_looked_8 : decode b_FC_looked 8 = .ok (.invokevirtual 158, 3) := by decide +kernel
theorem d_FC_looked_11 : decode b_FC_looked 11 = .ok (.iconst 0, 1) := by decide +kernel
theorem d_FC_looked_12 : decode b_FC_looked 12 = .ok (.istore_n 1, 1) := by decide +kernel
theorem d_FC_looked_13 : decode b_FC_looked 13 = .ok (.iload_n 1, 1) := by decide +kernel
theorem d_FC_looked_14 : decode b_FC_looked 14 = .ok (.aload_n 0, 1) := by decide +kernel
theorem d_FC_looked_15 : decode b_FC_looked 15 = .ok (.getfield 12, 3) := by decide +kernel
theorem d_FC_looked_18 : decode b_FC_looked 18 = .ok (.getfield 233, 3) := by decide +kernel
theorem d_FC_looked_21 : decode b_FC_looked 21 = .ok (.if_icmp .ge 48, 3) := by decide +kernel
theorem d_FC_looked_24 : decode b_FC_looked 24 = .ok (.aload_n 0, 1) := by decide +kernel
theorem d_FC_looked_25 : decode b_FC_looked 25 = .ok (.getfield 49, 3) := by decide +kernel
theorem d_FC_looked_28 : decode b_FC_looked 28 = .ok (.aload_n 0, 1) := by decide +kernel
theorem d_FC_looked_29 : decode b_FC_looked 29 = .ok (.getfield 12, 3) := by decide +kernel
theorem d_FC_looked_32 : decode b_FC_looked 32 = .ok (.getfield 236, 3) := by decide +kernel
theorem d_FC_looked_35 : decode b_FC_looked 35 = .ok (.iload_n 1, 1) := by decide +kernel
theorem d_FC_looked_36 : decode b_FC_looked 36 = .ok (.iaload, 1) := by decide +kernel
theorem d_FC_looked_37 : decode b_FC_looked 37 = .ok (.invokevirtual 115, 3) := by decide +kernel
theorem d_FC_looked_40 : decode b_FC_looked 40 = .ok (.aload_n 0, 1) := by decide +kernel
theorem d_FC_looked_41 : decode b_FC_looked 41 = .ok (.getfield 12, 3) := by decide +kernel
theorem d_FC_looked_44 : decode b_FC_looked 44 = .ok (.getfield 239, 3) := by decide +kernel
theorem d_FC_looked_47 : decode b_FC_looked 47 = .ok (.iload_n 1, 1) := by decide +kernel
theorem d_FC_looked_48 : decode b_FC_looked 48 = .ok (.iaload, 1) := by decide +kernel
theorem d_FC_looked_49 : decode b_FC_looked 49 = .ok (.if_icmp .eq 5, 3) := by decide +kernel
theorem d_FC_looked_52 : decode b_FC_looked 52 = .ok (.iload_n 1, 1) := by decide +kernel
theorem d_FC_looked_53 : decode b_FC_looked 53 = .ok (.ireturn, 1) := by decide +kernel
theorem d_FC_looked_54 : decode b_FC_looked 54 = .ok (.aload_n 0, 1) := by decide +kernel
theorem d_FC_looked_55 : decode b_FC_looked 55 = .ok (.getfield 49, 3) := by decide +kernel
theorem d_FC_looked_58 : decode b_FC_looked 58 = .ok (.iconst 0, 1) := by decide +kernel
theorem d_FC_looked_59 : decode b_FC_looked 59 = .ok (.invokevirtual 155, 3) := by decide +kernel
theorem d_FC_looked_62 : decode b_FC_looked 62 = .ok (.pop, 1) := by decide +kernel
theorem d_FC_looked_63 : decode b_FC_looked 63 = .ok (.iinc 1 1, 3) := by decide +kernel
theorem d_FC_looked_66 : decode b_FC_looked 66 = .ok (.goto (-53), 3) := by decide +kernel
theorem d_FC_looked_69 : decode b_FC_looked 69 = .ok (.bipush (-5), 2) := by decide +kernel
theorem d_FC_looked_71 : decode b_FC_looked 71 = .ok (.ireturn, 1) := by decide +kernel
theorem d_FC_act_0 : decode b_FC_act 0 = .ok (.aload_n 0, 1) := by decide +kernel
theorem d_FC_act_1 : decode b_FC_act 1 = .ok (.getfield 28, 3) := by decide +kernel
theorem d_FC_act_4 : decode b_FC_act 4 = .ok (.iconst 0, 1) := by decide +kernel
theorem d_FC_act_5 : decode b_FC_act 5 = .ok (.putfield 242, 3) := by decide +kernel
theorem d_FC_act_8 : decode b_FC_act 8 = .ok (.aload_n 0, 1) := by decide +kernel
theorem d_FC_act_9 : decode b_FC_act 9 = .ok (.iload_n 1, 1) := by decide +kernel
theorem d_FC_act_10 : decode b_FC_act 10 = .ok (.invokevirtual 97, 3) := by decide +kernel
theorem d_FC_act_13 : decode b_FC_act 13 = .ok (.ifCond .ne 5, 3) := by decide +kernel
theorem d_FC_act_16 : decode b_FC_act 16 = .ok (.iconst 0, 1) := by decide +kernel
theorem d_FC_act_17 : decode b_FC_act 17 = .ok (.ireturn, 1) := by decide +kernel
theorem d_FC_act_18 : decode b_FC_act 18 = .ok (.aload_n 0, 1) := by decide +kernel
theorem d_FC_act_19 : decode b_FC_act 19 = .ok (.getfield 45, 3) := by decide +kernel
theorem d_FC_act_22 : decode b_FC_act 22 = .ok (.getfield 80, 3) := by decide +kernel
theorem d_FC_act_25 : decode b_FC_act 25 = .ok (.iload_n 1, 1) := by decide +kernel
theorem d_FC_act_26 : decode b_FC_act 26 = .ok (.aaload, 1) := by decide +kernel
theorem d_FC_act_27 : decode b_FC_act 27 = .ok (.astore 4, 2) := by decide +kernel
theorem d_FC_act_29 : decode b_FC_act 29 = .ok (.iload_n 2, 1) := by decide +kernel
theorem d_FC_act_30 : decode b_FC_act 30 = .ok (.tableswitch 59 0 2 #[26, 37, 48], 26) := by decide +kernel
theorem d_FC_act_56 : decode b_FC_act 56 = .ok (.aload 4, 2) := by decide +kernel
theorem d_FC_act_58 : decode b_FC_act 58 = .ok (.aload_n 0, 1) := by decide +kernel
theorem d_FC_act_59 : decode b_FC_act 59 = .ok (.getfield 28, 3) := by decide +kernel
theorem d_FC_act_62 : decode b_FC_act 62 = .ok (.iload_n 3, 1) := by decide +kernel
theorem d_FC_act_63 : decode b_FC_act 63 = .ok (.invokevirtual 245, 3) := by decide +kernel
theorem d_FC_act_66 : decode b_FC_act 66 = .ok (.ireturn, 1) := by decide +kernel
theorem d_FC_act_67 : decode b_FC_act 67 = .ok (.aload 4, 2) := by decide +kernel
theorem d_FC_act_69 : decode b_FC_act 69 = .ok (.aload_n 0, 1) := by decide +kernel
theorem d_FC_act_70 : decode b_FC_act 70 = .ok (.getfield 28, 3) := by decide +kernel
theorem d_FC_act_73 : decode b_FC_act 73 = .ok (.iload_n 3, 1) := by decide +kernel
theorem d_FC_act_74 : decode b_FC_act 74 = .ok (.invokevirtual 249, 3) := by decide +kernel
theorem d_FC_act_77 : decode b_FC_act 77 = .ok (.ireturn, 1) := by decide +kernel
theorem d_FC_act_78 : decode b_FC_act 78 = .ok (.aload 4, 2) := by decide +kernel
theorem d_FC_act_80 : decode b_FC_act 80 = .ok (.aload_n 0, 1) := by decide +kernel
theorem d_FC_act_81 : decode b_FC_act 81 = .ok (.getfield 28, 3) := by decide +kernel
theorem d_FC_act_84 : decode b_FC_act 84 = .ok (.iload_n 3, 1) := by decide +kernel
theorem d_FC_act_85 : decode b_FC_act 85 = .ok (.invokevirtual 252, 3) := by decide +kernel
theorem d_FC_act_88 : decode b_FC_act 88 = .ok (.ireturn, 1) := by decide +kernel
theorem d_FC_act_89 : decode b_FC_act 89 = .ok (.iconst 0, 1) := by decide +kernel
theorem d_FC_act_90 : decode b_FC_act 90 = .ok (.ireturn, 1) := by decide +kernel
theorem d_FC_trace_0 : decode b_FC_trace 0 = .ok (.iload_n 1, 1) := by decide +kernel
theorem d_FC_trace_1 : decode b_FC_trace 1 = .ok (.ifCond .lt 20, 3) := by decide +kernel
theorem d_FC_trace_4 : decode b_FC_trace 4 = .ok (.iload_n 1, 1) := by decide +kernel
theorem d_FC_trace_5 : decode b_FC_trace 5 = .ok (.aload_n 0, 1) := by decide +kernel
theorem d_FC_trace_6 : decode b_FC_trace 6 = .ok (.getfield 28, 3) := by decide +kernel
theorem d_FC_trace_9 : decode b_FC_trace 9 = .ok (.getfield 242, 3) := by decide +kernel
theorem d_FC_trace_12 : decode b_FC_trace 12 = .ok (.if_icmp .ge 9, 3) := by decide +kernel
theorem d_FC_trace_15 : decode b_FC_trace 15 = .ok (.iload_n 1, 1) := by decide +kernel
theorem d_FC_trace_16 : decode b_FC_trace 16 = .ok (.bipush 20, 2) := by decide +kernel
theorem d_FC_trace_18 : decode b_FC_trace 18 = .ok (.if_icmp .lt 5, 3) := by decide +kernel
theorem d_FC_trace_21 : decode b_FC_trace 21 = .ok (.iconst (-1), 1) := by decide +kernel
theorem d_FC_trace_22 : decode b_FC_trace 22 = .ok (.ireturn, 1) := by decide +kernel
theorem d_FC_trace_23 : decode b_FC_trace 23 = .ok (.aload_n 0, 1) := by decide +kernel
theorem d_FC_trace_24 : decode b_FC_trace 24 = .ok (.getfield 28, 3) := by decide +kernel
theorem d_FC_trace_27 : decode b_FC_trace 27 = .ok (.getfield 255, 3) := by decide +kernel
theorem d_FC_trace_30 : decode b_FC_trace 30 = .ok (.iload_n 1, 1) := by decide +kernel
theorem d_FC_trace_31 : decode b_FC_trace 31 = .ok (.iaload, 1) := by decide +kernel
theorem d_FC_trace_32 : decode b_FC_trace 32 = .ok (.ireturn, 1) := by decide +kernel
theorem d_FC_as_0 : decode b_FC_as 0 = .ok (.aload_n 0, 1) := by decide +kernel
theorem d_FC_as_1 : decode b_FC_as 1 = .ok (.iload_n 1, 1) := by decide +kernel
theorem d_FC_as_2 : decode b_FC_as 2 = .ok (.invokevirtual 97, 3) := by decide +kernel
theorem d_FC_as_5 : decode b_FC_as 5 = .ok (.ifCond .eq 13, 3) := by decide +kernel
theorem d_FC_as_8 : decode b_FC_as 8 = .ok (.iload_n 2, 1) := by decide +kernel
theorem d_FC_as_9 : decode b_FC_as 9 = .ok (.ifCond .lt 9, 3) := by decide +kernel
theorem d_FC_as_12 : decode b_FC_as 12 = .ok (.iload_n 2, 1) := by decide +kernel
theorem d_FC_as_13 : decode b_FC_as 13 = .ok (.bipush 7, 2) := by decide +kernel
theorem d_FC_as_15 : decode b_FC_as 15 = .ok (.if_icmp .lt 5, 3) := by decide +kernel
theorem d_FC_as_18 : decode b_FC_as 18 = .ok (.iconst (-1), 1) := by decide +kernel
theorem d_FC_as_19 : decode b_FC_as 19 = .ok (.ireturn, 1) := by decide +kernel
theorem d_FC_as_20 : decode b_FC_as 20 = .ok (.aload_n 0, 1) := by decide +kernel
theorem d_FC_as_21 : decode b_FC_as 21 = .ok (.getfield 45, 3) := by decide +kernel
theorem d_FC_as_24 : decode b_FC_as 24 = .ok (.getfield 80, 3) := by decide +kernel
theorem d_FC_as_27 : decode b_FC_as 27 = .ok (.iload_n 1, 1) := by decide +kernel
theorem d_FC_as_28 : decode b_FC_as 28 = .ok (.aaload, 1) := by decide +kernel
theorem d_FC_as_29 : decode b_FC_as 29 = .ok (.astore_n 3, 1) := by decide +kernel
theorem d_FC_as_30 : decode b_FC_as 30 = .ok (.aload_n 3, 1) := by decide +kernel
theorem d_FC_as_31 : decode b_FC_as 31 = .ok (.iload_n 2, 1) := by decide +kernel
theorem d_FC_as_32 : decode b_FC_as 32 = .ok (.invokestatic 258, 3) := by decide +kernel
theorem d_FC_as_35 : decode b_FC_as 35 = .ok (.ifCond .eq 10, 3) := by decide +kernel
theorem d_FC_as_38 : decode b_FC_as 38 = .ok (.aload_n 3, 1) := by decide +kernel
theorem d_FC_as_39 : decode b_FC_as 39 = .ok (.getfield 105, 3) := by decide +kernel
theorem d_FC_as_42 : decode b_FC_as 42 = .ok (.goto 5, 3) := by decide +kernel
theorem d_FC_as_45 : decode b_FC_as 45 = .ok (.bipush (-6), 2) := by decide +kernel
theorem d_FC_as_47 : decode b_FC_as 47 = .ok (.ireturn, 1) := by decide +kernel
theorem d_FC_image_0 : decode b_FC_image 0 = .ok (.aload_n 0, 1) := by decide +kernel
theorem d_FC_image_1 : decode b_FC_image 1 = .ok (.getfield 55, 3) := by decide +kernel
theorem d_FC_image_4 : decode b_FC_image 4 = .ok (.aload_n 0, 1) := by decide +kernel
theorem d_FC_image_5 : decode b_FC_image 5 = .ok (.getfield 45, 3) := by decide +kernel
theorem d_FC_image_8 : decode b_FC_image 8 = .ok (.invokevirtual 158, 3) := by decide +kernel
theorem d_FC_image_11 : decode b_FC_image 11 = .ok (.aload_n 0, 1) := by decide +kernel
theorem d_FC_image_12 : decode b_FC_image 12 = .ok (.getfield 18, 3) := by decide +kernel
theorem d_FC_image_15 : decode b_FC_image 15 = .ok (.aload_n 0, 1) := by decide +kernel
theorem d_FC_image_16 : decode b_FC_image 16 = .ok (.getfield 12, 3) := by decide +kernel
theorem d_FC_image_19 : decode b_FC_image 19 = .ok (.invokevirtual 262, 3) := by decide +kernel
theorem d_FC_image_22 : decode b_FC_image 22 = .ok (.aload_n 0, 1) := by decide +kernel
theorem d_FC_image_23 : decode b_FC_image 23 = .ok (.iconst 1, 1) := by decide +kernel
theorem d_FC_image_24 : decode b_FC_image 24 = .ok (.putfield 21, 3) := by decide +kernel
theorem d_FC_image_27 : decode b_FC_image 27 = .ok (.aload_n 0, 1) := by decide +kernel
theorem d_FC_image_28 : decode b_FC_image 28 = .ok (.getfield 45, 3) := by decide +kernel
theorem d_FC_image_31 : decode b_FC_image 31 = .ok (.getfield 77, 3) := by decide +kernel
theorem d_FC_image_34 : decode b_FC_image 34 = .ok (.ireturn, 1) := by decide +kernel
theorem d_FC_undo_0 : decode b_FC_undo 0 = .ok (.aload_n 0, 1) := by decide +kernel
theorem d_FC_undo_1 : decode b_FC_undo 1 = .ok (.getfield 21, 3) := by decide +kernel
theorem d_FC_undo_4 : decode b_FC_undo 4 = .ok (.ifCond .ne 6, 3) := by decide +kernel
theorem d_FC_undo_7 : decode b_FC_undo 7 = .ok (.bipush (-3), 2) := by decide +kernel
theorem d_FC_undo_9 : decode b_FC_undo 9 = .ok (.ireturn, 1) := by decide +kernel
theorem d_FC_undo_10 : decode b_FC_undo 10 = .ok (.aload_n 0, 1) := by decide +kernel
theorem d_FC_undo_11 : decode b_FC_undo 11 = .ok (.getfield 45, 3) := by decide +kernel
theorem d_FC_undo_14 : decode b_FC_undo 14 = .ok (.aload_n 0, 1) := by decide +kernel
theorem d_FC_undo_15 : decode b_FC_undo 15 = .ok (.getfield 55, 3) := by decide +kernel
theorem d_FC_undo_18 : decode b_FC_undo 18 = .ok (.invokevirtual 158, 3) := by decide +kernel
theorem d_FC_undo_21 : decode b_FC_undo 21 = .ok (.aload_n 0, 1) := by decide +kernel
theorem d_FC_undo_22 : decode b_FC_undo 22 = .ok (.getfield 12, 3) := by decide +kernel
theorem d_FC_undo_25 : decode b_FC_undo 25 = .ok (.aload_n 0, 1) := by decide +kernel
theorem d_FC_undo_26 : decode b_FC_undo 26 = .ok (.getfield 18, 3) := by decide +kernel
theorem d_FC_undo_29 : decode b_FC_undo 29 = .ok (.invokevirtual 262, 3) := by decide +kernel
theorem d_FC_undo_32 : decode b_FC_undo 32 = .ok (.aload_n 0, 1) := by decide +kernel
theorem d_FC_undo_33 : decode b_FC_undo 33 = .ok (.getfield 45, 3) := by decide +kernel
theorem d_FC_undo_36 : decode b_FC_undo 36 = .ok (.getfield 77, 3) := by decide +kernel
theorem d_FC_undo_39 : decode b_FC_undo 39 = .ok (.ireturn, 1) := by decide +kernel
theorem d_FC_count_0 : decode b_FC_count 0 = .ok (.iload_n 1, 1) := by decide +kernel
theorem d_FC_count_1 : decode b_FC_count 1 = .ok (.tableswitch 99 0 6 #[43, 51, 59, 67, 75, 83, 91], 43) := by decide +kernel
theorem d_FC_count_44 : decode b_FC_count 44 = .ok (.aload_n 0, 1) := by decide +kernel
theorem d_FC_count_45 : decode b_FC_count 45 = .ok (.getfield 45, 3) := by decide +kernel
theorem d_FC_count_48 : decode b_FC_count 48 = .ok (.getfield 77, 3) := by decide +kernel
theorem d_FC_count_51 : decode b_FC_count 51 = .ok (.ireturn, 1) := by decide +kernel
theorem d_FC_count_52 : decode b_FC_count 52 = .ok (.aload_n 0, 1) := by decide +kernel
theorem d_FC_count_53 : decode b_FC_count 53 = .ok (.getfield 12, 3) := by decide +kernel
theorem d_FC_count_56 : decode b_FC_count 56 = .ok (.getfield 66, 3) := by decide +kernel
theorem d_FC_count_59 : decode b_FC_count 59 = .ok (.ireturn, 1) := by decide +kernel
theorem d_FC_count_60 : decode b_FC_count 60 = .ok (.aload_n 0, 1) := by decide +kernel
theorem d_FC_count_61 : decode b_FC_count 61 = .ok (.getfield 12, 3) := by decide +kernel
theorem d_FC_count_64 : decode b_FC_count 64 = .ok (.getfield 205, 3) := by decide +kernel
theorem d_FC_count_67 : decode b_FC_count 67 = .ok (.ireturn, 1) := by decide +kernel
theorem d_FC_count_68 : decode b_FC_count 68 = .ok (.aload_n 0, 1) := by decide +kernel
theorem d_FC_count_69 : decode b_FC_count 69 = .ok (.getfield 12, 3) := by decide +kernel
theorem d_FC_count_72 : decode b_FC_count 72 = .ok (.getfield 221, 3) := by decide +kernel
theorem d_FC_count_75 : decode b_FC_count 75 = .ok (.ireturn, 1) := by decide +kernel
theorem d_FC_count_76 : decode b_FC_count 76 = .ok (.aload_n 0, 1) := by decide +kernel
theorem d_FC_count_77 : decode b_FC_count 77 = .ok (.getfield 12, 3) := by decide +kernel
theorem d_FC_count_80 : decode b_FC_count 80 = .ok (.getfield 233, 3) := by decide +kernel
theorem d_FC_count_83 : decode b_FC_count 83 = .ok (.ireturn, 1) := by decide +kernel
theorem d_FC_count_84 : decode b_FC_count 84 = .ok (.aload_n 0, 1) := by decide +kernel
theorem d_FC_count_85 : decode b_FC_count 85 = .ok (.getfield 12, 3) := by decide +kernel
theorem d_FC_count_88 : decode b_FC_count 88 = .ok (.getfield 58, 3) := by decide +kernel
theorem d_FC_count_91 : decode b_FC_count 91 = .ok (.ireturn, 1) := by decide +kernel
theorem d_FC_count_92 : decode b_FC_count 92 = .ok (.aload_n 0, 1) := by decide +kernel
theorem d_FC_count_93 : decode b_FC_count 93 = .ok (.getfield 28, 3) := by decide +kernel
theorem d_FC_count_96 : decode b_FC_count 96 = .ok (.getfield 242, 3) := by decide +kernel
theorem d_FC_count_99 : decode b_FC_count 99 = .ok (.ireturn, 1) := by decide +kernel
theorem d_FC_count_100 : decode b_FC_count 100 = .ok (.iconst (-1), 1) := by decide +kernel
theorem d_FC_count_101 : decode b_FC_count 101 = .ok (.ireturn, 1) := by decide +kernel
theorem d_FC_isPerson_0 : decode b_FC_isPerson 0 = .ok (.iload_n 1, 1) := by decide +kernel
theorem d_FC_isPerson_1 : decode b_FC_isPerson 1 = .ok (.ifCond .lt 18, 3) := by decide +kernel
theorem d_FC_isPerson_4 : decode b_FC_isPerson 4 = .ok (.iload_n 1, 1) := by decide +kernel
theorem d_FC_isPerson_5 : decode b_FC_isPerson 5 = .ok (.aload_n 0, 1) := by decide +kernel
theorem d_FC_isPerson_6 : decode b_FC_isPerson 6 = .ok (.getfield 45, 3) := by decide +kernel
theorem d_FC_isPerson_9 : decode b_FC_isPerson 9 = .ok (.getfield 77, 3) := by decide +kernel
theorem d_FC_isPerson_12 : decode b_FC_isPerson 12 = .ok (.if_icmp .ge 7, 3) := by decide +kernel
theorem d_FC_isPerson_15 : decode b_FC_isPerson 15 = .ok (.iconst 1, 1) := by decide +kernel
theorem d_FC_isPerson_16 : decode b_FC_isPerson 16 = .ok (.goto 4, 3) := by decide +kernel
theorem d_FC_isPerson_19 : decode b_FC_isPerson 19 = .ok (.iconst 0, 1) := by decide +kernel
theorem d_FC_isPerson_20 : decode b_FC_isPerson 20 = .ok (.ireturn, 1) := by decide +kernel
theorem d_FC_isClock_0 : decode b_FC_isClock 0 = .ok (.iload_n 0, 1) := by decide +kernel
theorem d_FC_isClock_1 : decode b_FC_isClock 1 = .ok (.ifCond .lt 12, 3) := by decide +kernel
theorem d_FC_isClock_4 : decode b_FC_isClock 4 = .ok (.iload_n 0, 1) := by decide +kernel
theorem d_FC_isClock_5 : decode b_FC_isClock 5 = .ok (.iconst 2, 1) := by decide +kernel
theorem d_FC_isClock_6 : decode b_FC_isClock 6 = .ok (.if_icmp .ge 7, 3) := by decide +kernel
theorem d_FC_isClock_9 : decode b_FC_isClock 9 = .ok (.iconst 1, 1) := by decide +kernel
theorem d_FC_isClock_10 : decode b_FC_isClock 10 = .ok (.goto 4, 3) := by decide +kernel
theorem d_FC_isClock_13 : decode b_FC_isClock 13 = .ok (.iconst 0, 1) := by decide +kernel
theorem d_FC_isClock_14 : decode b_FC_isClock 14 = .ok (.ireturn, 1) := by decide +kernel
theorem d_FC_isFast_0 : decode b_FC_isFast 0 = .ok (.iload_n 0, 1) := by decide +kernel
theorem d_FC_isFast_1 : decode b_FC_isFast 1 = .ok (.bipush (-60), 2) := by decide +kernel
theorem d_FC_isFast_3 : decode b_FC_isFast 3 = .ok (.if_icmp .lt 13, 3) := by decide +kernel
theorem d_FC_isFast_6 : decode b_FC_isFast 6 = .ok (.iload_n 0, 1) := by decide +kernel
theorem d_FC_isFast_7 : decode b_FC_isFast 7 = .ok (.bipush 60, 2) := by decide +kernel
theorem d_FC_isFast_9 : decode b_FC_isFast 9 = .ok (.if_icmp .gt 7, 3) := by decide +kernel
theorem d_FC_isFast_12 : decode b_FC_isFast 12 = .ok (.iconst 1, 1) := by decide +kernel
theorem d_FC_isFast_13 : decode b_FC_isFast 13 = .ok (.goto 4, 3) := by decide +kernel
theorem d_FC_isFast_16 : decode b_FC_isFast 16 = .ok (.iconst 0, 1) := by decide +kernel
theorem d_FC_isFast_17 : decode b_FC_isFast 17 = .ok (.ireturn, 1) := by decide +kernel
theorem d_FC_isLate_0 : decode b_FC_isLate 0 = .ok (.iload_n 0, 1) := by decide +kernel
theorem d_FC_isLate_1 : decode b_FC_isLate 1 = .ok (.sipush (-200), 3) := by decide +kernel
theorem d_FC_isLate_4 : decode b_FC_isLate 4 = .ok (.if_icmp .lt 14, 3) := by decide +kernel
theorem d_FC_isLate_7 : decode b_FC_isLate 7 = .ok (.iload_n 0, 1) := by decide +kernel
theorem d_FC_isLate_8 : decode b_FC_isLate 8 = .ok (.sipush 200, 3) := by decide +kernel
theorem d_FC_isLate_11 : decode b_FC_isLate 11 = .ok (.if_icmp .gt 7, 3) := by decide +kernel
theorem d_FC_isLate_14 : decode b_FC_isLate 14 = .ok (.iconst 1, 1) := by decide +kernel
theorem d_FC_isLate_15 : decode b_FC_isLate 15 = .ok (.goto 4, 3) := by decide +kernel
theorem d_FC_isLate_18 : decode b_FC_isLate 18 = .ok (.iconst 0, 1) := by decide +kernel
theorem d_FC_isLate_19 : decode b_FC_isLate 19 = .ok (.ireturn, 1) := by decide +kernel
theorem d_FC_isPart_0 : decode b_FC_isPart 0 = .ok (.iload_n 0, 1) := by decide +kernel
theorem d_FC_isPart_1 : decode b_FC_isPart 1 = .ok (.ifCond .eq 8, 3) := by decide +kernel
theorem d_FC_isPart_4 : decode b_FC_isPart 4 = .ok (.iload_n 0, 1) := by decide +kernel
theorem d_FC_isPart_5 : decode b_FC_isPart 5 = .ok (.iconst 1, 1) := by decide +kernel
theorem d_FC_isPart_6 : decode b_FC_isPart 6 = .ok (.if_icmp .ne 7, 3) := by decide +kernel
theorem d_FC_isPart_9 : decode b_FC_isPart 9 = .ok (.iconst 1, 1) := by decide +kernel
theorem d_FC_isPart_10 : decode b_FC_isPart 10 = .ok (.goto 4, 3) := by decide +kernel
theorem d_FC_isPart_13 : decode b_FC_isPart 13 = .ok (.iconst 0, 1) := by decide +kernel
theorem d_FC_isPart_14 : decode b_FC_isPart 14 = .ok (.ireturn, 1) := by decide +kernel
theorem d_FC_newPerson_0 : decode b_FC_newPerson 0 = .ok (.iload_n 0, 1) := by decide +kernel
theorem d_FC_newPerson_1 : decode b_FC_newPerson 1 = .ok (.tableswitch 99 1 6 #[39, 49, 59, 69, 79, 89], 39) := by decide +kernel
theorem d_FC_newPerson_40 : decode b_FC_newPerson 40 = .ok (.new 265, 3) := by decide +kernel
theorem d_FC_newPerson_43 : decode b_FC_newPerson 43 = .ok (.dup, 1) := by decide +kernel
theorem d_FC_newPerson_44 : decode b_FC_newPerson 44 = .ok (.iload_n 1, 1) := by decide +kernel
theorem d_FC_newPerson_45 : decode b_FC_newPerson 45 = .ok (.iload_n 2, 1) := by decide +kernel
theorem d_FC_newPerson_46 : decode b_FC_newPerson 46 = .ok (.invokespecial 267, 3) := by decide +kernel
theorem d_FC_newPerson_49 : decode b_FC_newPerson 49 = .ok (.areturn, 1) := by decide +kernel
theorem d_FC_newPerson_50 : decode b_FC_newPerson 50 = .ok (.new 268, 3) := by decide +kernel
theorem d_FC_newPerson_53 : decode b_FC_newPerson 53 = .ok (.dup, 1) := by decide +kernel
theorem d_FC_newPerson_54 : decode b_FC_newPerson 54 = .ok (.iload_n 1, 1) := by decide +kernel
theorem d_FC_newPerson_55 : decode b_FC_newPerson 55 = .ok (.iload_n 2, 1) := by decide +kernel
theorem d_FC_newPerson_56 : decode b_FC_newPerson 56 = .ok (.invokespecial 270, 3) := by decide +kernel
theorem d_FC_newPerson_59 : decode b_FC_newPerson 59 = .ok (.areturn, 1) := by decide +kernel
theorem d_FC_newPerson_60 : decode b_FC_newPerson 60 = .ok (.new 271, 3) := by decide +kernel
theorem d_FC_newPerson_63 : decode b_FC_newPerson 63 = .ok (.dup, 1) := by decide +kernel
theorem d_FC_newPerson_64 : decode b_FC_newPerson 64 = .ok (.iload_n 1, 1) := by decide +kernel
theorem d_FC_newPerson_65 : decode b_FC_newPerson 65 = .ok (.iload_n 2, 1) := by decide +kernel
theorem d_FC_newPerson_66 : decode b_FC_newPerson 66 = .ok (.invokespecial 273, 3) := by decide +kernel
theorem d_FC_newPerson_69 : decode b_FC_newPerson 69 = .ok (.areturn, 1) := by decide +kernel
theorem d_FC_newPerson_70 : decode b_FC_newPerson 70 = .ok (.new 274, 3) := by decide +kernel
theorem d_FC_newPerson_73 : decode b_FC_newPerson 73 = .ok (.dup, 1) := by decide +kernel
theorem d_FC_newPerson_74 : decode b_FC_newPerson 74 = .ok (.iload_n 1, 1) := by decide +kernel
theorem d_FC_newPerson_75 : decode b_FC_newPerson 75 = .ok (.iload_n 2, 1) := by decide +kernel
theorem d_FC_newPerson_76 : decode b_FC_newPerson 76 = .ok (.invokespecial 276, 3) := by decide +kernel
theorem d_FC_newPerson_79 : decode b_FC_newPerson 79 = .ok (.areturn, 1) := by decide +kernel
theorem d_FC_newPerson_80 : decode b_FC_newPerson 80 = .ok (.new 277, 3) := by decide +kernel
theorem d_FC_newPerson_83 : decode b_FC_newPerson 83 = .ok (.dup, 1) := by decide +kernel
theorem d_FC_newPerson_84 : decode b_FC_newPerson 84 = .ok (.iload_n 1, 1) := by decide +kernel
theorem d_FC_newPerson_85 : decode b_FC_newPerson 85 = .ok (.iload_n 2, 1) := by decide +kernel
theorem d_FC_newPerson_86 : decode b_FC_newPerson 86 = .ok (.invokespecial 279, 3) := by decide +kernel
theorem d_FC_newPerson_89 : decode b_FC_newPerson 89 = .ok (.areturn, 1) := by decide +kernel
theorem d_FC_newPerson_90 : decode b_FC_newPerson 90 = .ok (.new 128, 3) := by decide +kernel
theorem d_FC_newPerson_93 : decode b_FC_newPerson 93 = .ok (.dup, 1) := by decide +kernel
theorem d_FC_newPerson_94 : decode b_FC_newPerson 94 = .ok (.iload_n 1, 1) := by decide +kernel
theorem d_FC_newPerson_95 : decode b_FC_newPerson 95 = .ok (.iload_n 2, 1) := by decide +kernel
theorem d_FC_newPerson_96 : decode b_FC_newPerson 96 = .ok (.invokespecial 280, 3) := by decide +kernel
theorem d_FC_newPerson_99 : decode b_FC_newPerson 99 = .ok (.areturn, 1) := by decide +kernel
theorem d_FC_newPerson_100 : decode b_FC_newPerson 100 = .ok (.new 35, 3) := by decide +kernel
theorem d_FC_newPerson_103 : decode b_FC_newPerson 103 = .ok (.dup, 1) := by decide +kernel
theorem d_FC_newPerson_104 : decode b_FC_newPerson 104 = .ok (.iload_n 1, 1) := by decide +kernel
theorem d_FC_newPerson_105 : decode b_FC_newPerson 105 = .ok (.iload_n 2, 1) := by decide +kernel
theorem d_FC_newPerson_106 : decode b_FC_newPerson 106 = .ok (.invokespecial 37, 3) := by decide +kernel
theorem d_FC_newPerson_109 : decode b_FC_newPerson 109 = .ok (.areturn, 1) := by decide +kernel
theorem d_FC_isOfKind_0 : decode b_FC_isOfKind 0 = .ok (.iload_n 1, 1) := by decide +kernel
theorem d_FC_isOfKind_1 : decode b_FC_isOfKind 1 = .ok (.tableswitch 69 1 6 #[39, 44, 49, 54, 59, 64], 39) := by decide +kernel
theorem d_FC_isOfKind_40 : decode b_FC_isOfKind 40 = .ok (.aload_n 0, 1) := by decide +kernel
theorem d_FC_isOfKind_41 : decode b_FC_isOfKind 41 = .ok (.instanceof 265, 3) := by decide +kernel
theorem d_FC_isOfKind_44 : decode b_FC_isOfKind 44 = .ok (.ireturn, 1) := by decide +kernel
theorem d_FC_isOfKind_45 : decode b_FC_isOfKind 45 = .ok (.aload_n 0, 1) := by decide +kernel
theorem d_FC_isOfKind_46 : decode b_FC_isOfKind 46 = .ok (.instanceof 268, 3) := by decide +kernel
theorem d_FC_isOfKind_49 : decode b_FC_isOfKind 49 = .ok (.ireturn, 1) := by decide +kernel
theorem d_FC_isOfKind_50 : decode b_FC_isOfKind 50 = .ok (.aload_n 0, 1) := by decide +kernel
theorem d_FC_isOfKind_51 : decode b_FC_isOfKind 51 = .ok (.instanceof 271, 3) := by decide +kernel
theorem d_FC_isOfKind_54 : decode b_FC_isOfKind 54 = .ok (.ireturn, 1) := by decide +kernel
theorem d_FC_isOfKind_55 : decode b_FC_isOfKind 55 = .ok (.aload_n 0, 1) := by decide +kernel
theorem d_FC_isOfKind_56 : decode b_FC_isOfKind 56 = .ok (.instanceof 274, 3) := by decide +kernel
theorem d_FC_isOfKind_59 : decode b_FC_isOfKind 59 = .ok (.ireturn, 1) := by decide +kernel
theorem d_FC_isOfKind_60 : decode b_FC_isOfKind 60 = .ok (.aload_n 0, 1) := by decide +kernel
theorem d_FC_isOfKind_61 : decode b_FC_isOfKind 61 = .ok (.instanceof 277, 3) := by decide +kernel
theorem d_FC_isOfKind_64 : decode b_FC_isOfKind 64 = .ok (.ireturn, 1) := by decide +kernel
theorem d_FC_isOfKind_65 : decode b_FC_isOfKind 65 = .ok (.aload_n 0, 1) := by decide +kernel
theorem d_FC_isOfKind_66 : decode b_FC_isOfKind 66 = .ok (.instanceof 128, 3) := by decide +kernel
theorem d_FC_isOfKind_69 : decode b_FC_isOfKind 69 = .ok (.ireturn, 1) := by decide +kernel
theorem d_FC_isOfKind_70 : decode b_FC_isOfKind 70 = .ok (.iconst 1, 1) := by decide +kernel
theorem d_FC_isOfKind_71 : decode b_FC_isOfKind 71 = .ok (.ireturn, 1) := by decide +kernel
theorem d_FC_howManyComeAheadOf_0 : decode b_FC_howManyComeAheadOf 0 = .ok (.aload_n 0, 1) := by decide +kernel
theorem d_FC_howManyComeAheadOf_1 : decode b_FC_howManyComeAheadOf 1 = .ok (.getfield 45, 3) := by decide +kernel
theorem d_FC_howManyComeAheadOf_4 : decode b_FC_howManyComeAheadOf 4 = .ok (.iload_n 1, 1) := by decide +kernel
theorem d_FC_howManyComeAheadOf_5 : decode b_FC_howManyComeAheadOf 5 = .ok (.invokevirtual 115, 3) := by decide +kernel
theorem d_FC_howManyComeAheadOf_8 : decode b_FC_howManyComeAheadOf 8 = .ok (.istore_n 2, 1) := by decide +kernel
theorem d_FC_howManyComeAheadOf_9 : decode b_FC_howManyComeAheadOf 9 = .ok (.iconst 0, 1) := by decide +kernel
theorem d_FC_howManyComeAheadOf_10 : decode b_FC_howManyComeAheadOf 10 = .ok (.istore_n 3, 1) := by decide +kernel
theorem d_FC_howManyComeAheadOf_11 : decode b_FC_howManyComeAheadOf 11 = .ok (.iconst 0, 1) := by decide +kernel
theorem d_FC_howManyComeAheadOf_12 : decode b_FC_howManyComeAheadOf 12 = .ok (.istore 4, 2) := by decide +kernel
theorem d_FC_howManyComeAheadOf_14 : decode b_FC_howManyComeAheadOf 14 = .ok (.iload 4, 2) := by decide +kernel
theorem d_FC_howManyComeAheadOf_16 : decode b_FC_howManyComeAheadOf 16 = .ok (.aload_n 0, 1) := by decide +kernel
theorem d_FC_howManyComeAheadOf_17 : decode b_FC_howManyComeAheadOf 17 = .ok (.getfield 45, 3) := by decide +kernel
theorem d_FC_howManyComeAheadOf_20 : decode b_FC_howManyComeAheadOf 20 = .ok (.getfield 77, 3) := by decide +kernel
theorem d_FC_howManyComeAheadOf_23 : decode b_FC_howManyComeAheadOf 23 = .ok (.if_icmp .ge 41, 3) := by decide +kernel
theorem d_FC_howManyComeAheadOf_26 : decode b_FC_howManyComeAheadOf 26 = .ok (.aload_n 0, 1) := by decide +kernel
theorem d_FC_howManyComeAheadOf_27 : decode b_FC_howManyComeAheadOf 27 = .ok (.getfield 45, 3) := by decide +kernel
theorem d_FC_howManyComeAheadOf_30 : decode b_FC_howManyComeAheadOf 30 = .ok (.iload 4, 2) := by decide +kernel
theorem d_FC_howManyComeAheadOf_32 : decode b_FC_howManyComeAheadOf 32 = .ok (.invokevirtual 115, 3) := by decide +kernel
theorem d_FC_howManyComeAheadOf_35 : decode b_FC_howManyComeAheadOf 35 = .ok (.istore 5, 2) := by decide +kernel
theorem d_FC_howManyComeAheadOf_37 : decode b_FC_howManyComeAheadOf 37 = .ok (.iload 5, 2) := by decide +kernel
theorem d_FC_howManyComeAheadOf_39 : decode b_FC_howManyComeAheadOf 39 = .ok (.iload_n 2, 1) := by decide +kernel
theorem d_FC_howManyComeAheadOf_40 : decode b_FC_howManyComeAheadOf 40 = .ok (.if_icmp .lt 15, 3) := by decide +kernel
theorem d_FC_howManyComeAheadOf_43 : decode b_FC_howManyComeAheadOf 43 = .ok (.iload 5, 2) := by decide +kernel
theorem d_FC_howManyComeAheadOf_45 : decode b_FC_howManyComeAheadOf 45 = .ok (.iload_n 2, 1) := by decide +kernel
theorem d_FC_howManyComeAheadOf_46 : decode b_FC_howManyComeAheadOf 46 = .ok (.if_icmp .ne 12, 3) := by decide +kernel
theorem d_FC_howManyComeAheadOf_49 : decode b_FC_howManyComeAheadOf 49 = .ok (.iload 4, 2) := by decide +kernel
theorem d_FC_howManyComeAheadOf_51 : decode b_FC_howManyComeAheadOf 51 = .ok (.iload_n 1, 1) := by decide +kernel
theorem d_FC_howManyComeAheadOf_52 : decode b_FC_howManyComeAheadOf 52 = .ok (.if_icmp .ge 6, 3) := by decide +kernel
theorem d_FC_howManyComeAheadOf_55 : decode b_FC_howManyComeAheadOf 55 = .ok (.iinc 3 1, 3) := by decide +kernel
theorem d_FC_howManyComeAheadOf_58 : decode b_FC_howManyComeAheadOf 58 = .ok (.iinc 4 1, 3) := by decide +kernel
theorem d_FC_howManyComeAheadOf_61 : decode b_FC_howManyComeAheadOf 61 = .ok (.goto (-47), 3) := by decide +kernel
theorem d_FC_howManyComeAheadOf_64 : decode b_FC_howManyComeAheadOf 64 = .ok (.iload_n 3, 1) := by decide +kernel
theorem d_FC_howManyComeAheadOf_65 : decode b_FC_howManyComeAheadOf 65 = .ok (.ireturn, 1) := by decide +kernel
theorem d_FC_choicesOf_0 : decode b_FC_choicesOf 0 = .ok (.iconst 1, 1) := by decide +kernel
theorem d_FC_choicesOf_1 : decode b_FC_choicesOf 1 = .ok (.istore_n 1, 1) := by decide +kernel
theorem d_FC_choicesOf_2 : decode b_FC_choicesOf 2 = .ok (.iconst 0, 1) := by decide +kernel
theorem d_FC_choicesOf_3 : decode b_FC_choicesOf 3 = .ok (.istore_n 2, 1) := by decide +kernel
theorem d_FC_choicesOf_4 : decode b_FC_choicesOf 4 = .ok (.iload_n 2, 1) := by decide +kernel
theorem d_FC_choicesOf_5 : decode b_FC_choicesOf 5 = .ok (.iload_n 0, 1) := by decide +kernel
theorem d_FC_choicesOf_6 : decode b_FC_choicesOf 6 = .ok (.if_icmp .ge 13, 3) := by decide +kernel
theorem d_FC_choicesOf_9 : decode b_FC_choicesOf 9 = .ok (.iload_n 1, 1) := by decide +kernel
theorem d_FC_choicesOf_10 : decode b_FC_choicesOf 10 = .ok (.iconst 5, 1) := by decide +kernel
theorem d_FC_choicesOf_11 : decode b_FC_choicesOf 11 = .ok (.imul, 1) := by decide +kernel
theorem d_FC_choicesOf_12 : decode b_FC_choicesOf 12 = .ok (.istore_n 1, 1) := by decide +kernel
theorem d_FC_choicesOf_13 : decode b_FC_choicesOf 13 = .ok (.iinc 2 1, 3) := by decide +kernel
theorem d_FC_choicesOf_16 : decode b_FC_choicesOf 16 = .ok (.goto (-12), 3) := by decide +kernel
theorem d_FC_choicesOf_19 : decode b_FC_choicesOf 19 = .ok (.iload_n 1, 1) := by decide +kernel
theorem d_FC_choicesOf_20 : decode b_FC_choicesOf 20 = .ok (.ireturn, 1) := by decide +kernel
theorem d_FC_settingOf_0 : decode b_FC_settingOf 0 = .ok (.iload_n 0, 1) := by decide +kernel
theorem d_FC_settingOf_1 : decode b_FC_settingOf 1 = .ok (.istore_n 3, 1) := by decide +kernel
theorem d_FC_settingOf_2 : decode b_FC_settingOf 2 = .ok (.iload_n 1, 1) := by decide +kernel
theorem d_FC_settingOf_3 : decode b_FC_settingOf 3 = .ok (.iconst 1, 1) := by decide +kernel
theorem d_FC_settingOf_4 : decode b_FC_settingOf 4 = .ok (.isub, 1) := by decide +kernel
theorem d_FC_settingOf_5 : decode b_FC_settingOf 5 = .ok (.istore 4, 2) := by decide +kernel
theorem d_FC_settingOf_7 : decode b_FC_settingOf 7 = .ok (.iload 4, 2) := by decide +kernel
theorem d_FC_settingOf_9 : decode b_FC_settingOf 9 = .ok (.iload_n 2, 1) := by decide +kernel
theorem d_FC_settingOf_10 : decode b_FC_settingOf 10 = .ok (.if_icmp .le 13, 3) := by decide +kernel
theorem d_FC_settingOf_13 : decode b_FC_settingOf 13 = .ok (.iload_n 3, 1) := by decide +kernel
theorem d_FC_settingOf_14 : decode b_FC_settingOf 14 = .ok (.iconst 5, 1) := by decide +kernel
theorem d_FC_settingOf_15 : decode b_FC_settingOf 15 = .ok (.idiv, 1) := by decide +kernel
theorem d_FC_settingOf_16 : decode b_FC_settingOf 16 = .ok (.istore_n 3, 1) := by decide +kernel
theorem d_FC_settingOf_17 : decode b_FC_settingOf 17 = .ok (.iinc 4 (-1), 3) := by decide +kernel
theorem d_FC_settingOf_20 : decode b_FC_settingOf 20 = .ok (.goto (-13), 3) := by decide +kernel
theorem d_FC_settingOf_23 : decode b_FC_settingOf 23 = .ok (.iload_n 3, 1) := by decide +kernel
theorem d_FC_settingOf_24 : decode b_FC_settingOf 24 = .ok (.iconst 5, 1) := by decide +kernel
theorem d_FC_settingOf_25 : decode b_FC_settingOf 25 = .ok (.irem, 1) := by decide +kernel
theorem d_FC_settingOf_26 : decode b_FC_settingOf 26 = .ok (.iconst 5, 1) := by decide +kernel
theorem d_FC_settingOf_27 : decode b_FC_settingOf 27 = .ok (.imul, 1) := by decide +kernel
theorem d_FC_settingOf_28 : decode b_FC_settingOf 28 = .ok (.ireturn, 1) := by decide +kernel
theorem d_FC_costOfRow_0 : decode b_FC_costOfRow 0 = .ok (.aload_n 0, 1) := by decide +kernel
theorem d_FC_costOfRow_1 : decode b_FC_costOfRow 1 = .ok (.getfield 49, 3) := by decide +kernel
theorem d_FC_costOfRow_4 : decode b_FC_costOfRow 4 = .ok (.aload_n 0, 1) := by decide +kernel
theorem d_FC_costOfRow_5 : decode b_FC_costOfRow 5 = .ok (.getfield 45, 3) := by decide +kernel
theorem d_FC_costOfRow_8 : decode b_FC_costOfRow 8 = .ok (.invokevirtual 158, 3) := by decide +kernel
theorem d_FC_costOfRow_11 : decode b_FC_costOfRow 11 = .ok (.iconst 0, 1) := by decide +kernel
theorem d_FC_costOfRow_12 : decode b_FC_costOfRow 12 = .ok (.istore 4, 2) := by decide +kernel
theorem d_FC_costOfRow_14 : decode b_FC_costOfRow 14 = .ok (.iconst 0, 1) := by decide +kernel
theorem d_FC_costOfRow_15 : decode b_FC_costOfRow 15 = .ok (.istore 5, 2) := by decide +kernel
theorem d_FC_costOfRow_17 : decode b_FC_costOfRow 17 = .ok (.iload 5, 2) := by decide +kernel
theorem d_FC_costOfRow_19 : decode b_FC_costOfRow 19 = .ok (.iload_n 2, 1) := by decide +kernel
theorem d_FC_costOfRow_20 : decode b_FC_costOfRow 20 = .ok (.if_icmp .ge 37, 3) := by decide +kernel
theorem d_FC_costOfRow_23 : decode b_FC_costOfRow 23 = .ok (.aload_n 0, 1) := by decide +kernel
theorem d_FC_costOfRow_24 : decode b_FC_costOfRow 24 = .ok (.getfield 49, 3) := by decide +kernel
theorem d_FC_costOfRow_27 : decode b_FC_costOfRow 27 = .ok (.iload_n 1, 1) := by decide +kernel
theorem d_FC_costOfRow_28 : decode b_FC_costOfRow 28 = .ok (.iload_n 3, 1) := by decide +kernel
theorem d_FC_costOfRow_29 : decode b_FC_costOfRow 29 = .ok (.iload_n 2, 1) := by decide +kernel
theorem d_FC_costOfRow_30 : decode b_FC_costOfRow 30 = .ok (.iload 5, 2) := by decide +kernel
theorem d_FC_costOfRow_32 : decode b_FC_costOfRow 32 = .ok (.invokestatic 185, 3) := by decide +kernel
theorem d_FC_costOfRow_35 : decode b_FC_costOfRow 35 = .ok (.invokevirtual 130, 3) := by decide +kernel
theorem d_FC_costOfRow_38 : decode b_FC_costOfRow 38 = .ok (.iload 4, 2) := by decide +kernel
theorem d_FC_costOfRow_40 : decode b_FC_costOfRow 40 = .ok (.aload_n 0, 1) := by decide +kernel
theorem d_FC_costOfRow_41 : decode b_FC_costOfRow 41 = .ok (.getfield 49, 3) := by decide +kernel
theorem d_FC_costOfRow_44 : decode b_FC_costOfRow 44 = .ok (.iconst 0, 1) := by decide +kernel
theorem d_FC_costOfRow_45 : decode b_FC_costOfRow 45 = .ok (.invokevirtual 155, 3) := by decide +kernel
theorem d_FC_costOfRow_48 : decode b_FC_costOfRow 48 = .ok (.iadd, 1) := by decide +kernel
theorem d_FC_costOfRow_49 : decode b_FC_costOfRow 49 = .ok (.istore 4, 2) := by decide +kernel
theorem d_FC_costOfRow_51 : decode b_FC_costOfRow 51 = .ok (.iinc 5 1, 3) := by decide +kernel
theorem d_FC_costOfRow_54 : decode b_FC_costOfRow 54 = .ok (.goto (-37), 3) := by decide +kernel
theorem d_FC_costOfRow_57 : decode b_FC_costOfRow 57 = .ok (.iload 4, 2) := by decide +kernel
theorem d_FC_costOfRow_59 : decode b_FC_costOfRow 59 = .ok (.ireturn, 1) := by decide +kernel
theorem d_FC_knowingAfter_0 : decode b_FC_knowingAfter 0 = .ok (.iload_n 2, 1) := by decide +kernel
theorem d_FC_knowingAfter_1 : decode b_FC_knowingAfter 1 = .ok (.istore_n 3, 1) := by decide +kernel
theorem d_FC_knowingAfter_2 : decode b_FC_knowingAfter 2 = .ok (.iconst 0, 1) := by decide +kernel
theorem d_FC_knowingAfter_3 : decode b_FC_knowingAfter 3 = .ok (.istore 4, 2) := by decide +kernel
theorem d_FC_knowingAfter_5 : decode b_FC_knowingAfter 5 = .ok (.iload 4, 2) := by decide +kernel
theorem d_FC_knowingAfter_7 : decode b_FC_knowingAfter 7 = .ok (.aload_n 0, 1) := by decide +kernel
theorem d_FC_knowingAfter_8 : decode b_FC_knowingAfter 8 = .ok (.getfield 45, 3) := by decide +kernel
theorem d_FC_knowingAfter_11 : decode b_FC_knowingAfter 11 = .ok (.getfield 77, 3) := by decide +kernel
theorem d_FC_knowingAfter_14 : decode b_FC_knowingAfter 14 = .ok (.if_icmp .ge 83, 3) := by decide +kernel
theorem d_FC_knowingAfter_17 : decode b_FC_knowingAfter 17 = .ok (.iload_n 2, 1) := by decide +kernel
theorem d_FC_knowingAfter_18 : decode b_FC_knowingAfter 18 = .ok (.iload 4, 2) := by decide +kernel
theorem d_FC_knowingAfter_20 : decode b_FC_knowingAfter 20 = .ok (.ishr, 1) := by decide +kernel
theorem d_FC_knowingAfter_21 : decode b_FC_knowingAfter 21 = .ok (.iconst 1, 1) := by decide +kernel
theorem d_FC_knowingAfter_22 : decode b_FC_knowingAfter 22 = .ok (.iand, 1) := by decide +kernel
theorem d_FC_knowingAfter_23 : decode b_FC_knowingAfter 23 = .ok (.ifCond .ne 6, 3) := by decide +kernel
theorem d_FC_knowingAfter_26 : decode b_FC_knowingAfter 26 = .ok (.goto 65, 3) := by decide +kernel
theorem d_FC_knowingAfter_29 : decode b_FC_knowingAfter 29 = .ok (.iconst 1, 1) := by decide +kernel
theorem d_FC_knowingAfter_30 : decode b_FC_knowingAfter 30 = .ok (.istore 5, 2) := by decide +kernel
theorem d_FC_knowingAfter_32 : decode b_FC_knowingAfter 32 = .ok (.iload 5, 2) := by decide +kernel
theorem d_FC_knowingAfter_34 : decode b_FC_knowingAfter 34 = .ok (.aload_n 0, 1) := by decide +kernel
theorem d_FC_knowingAfter_35 : decode b_FC_knowingAfter 35 = .ok (.getfield 45, 3) := by decide +kernel
theorem d_FC_knowingAfter_38 : decode b_FC_knowingAfter 38 = .ok (.getfield 77, 3) := by decide +kernel
theorem d_FC_knowingAfter_41 : decode b_FC_knowingAfter 41 = .ok (.if_icmp .ge 50, 3) := by decide +kernel
theorem d_FC_knowingAfter_44 : decode b_FC_knowingAfter 44 = .ok (.iload 4, 2) := by decide +kernel
theorem d_FC_knowingAfter_46 : decode b_FC_knowingAfter 46 = .ok (.iload 5, 2) := by decide +kernel
theorem d_FC_knowingAfter_48 : decode b_FC_knowingAfter 48 = .ok (.iadd, 1) := by decide +kernel
theorem d_FC_knowingAfter_49 : decode b_FC_knowingAfter 49 = .ok (.aload_n 0, 1) := by decide +kernel
theorem d_FC_knowingAfter_50 : decode b_FC_knowingAfter 50 = .ok (.getfield 45, 3) := by decide +kernel
theorem d_FC_knowingAfter_53 : decode b_FC_knowingAfter 53 = .ok (.getfield 77, 3) := by decide +kernel
theorem d_FC_knowingAfter_56 : decode b_FC_knowingAfter 56 = .ok (.irem, 1) := by decide +kernel
theorem d_FC_knowingAfter_57 : decode b_FC_knowingAfter 57 = .ok (.istore 6, 2) := by decide +kernel
theorem d_FC_knowingAfter_59 : decode b_FC_knowingAfter 59 = .ok (.iload_n 1, 1) := by decide +kernel
theorem d_FC_knowingAfter_60 : decode b_FC_knowingAfter 60 = .ok (.iload_n 2, 1) := by decide +kernel
theorem d_FC_knowingAfter_61 : decode b_FC_knowingAfter 61 = .ok (.iconst (-1), 1) := by decide +kernel
theorem d_FC_knowingAfter_62 : decode b_FC_knowingAfter 62 = .ok (.ixor, 1) := by decide +kernel
theorem d_FC_knowingAfter_63 : decode b_FC_knowingAfter 63 = .ok (.iand, 1) := by decide +kernel
theorem d_FC_knowingAfter_64 : decode b_FC_knowingAfter 64 = .ok (.iload 6, 2) := by decide +kernel
theorem d_FC_knowingAfter_66 : decode b_FC_knowingAfter 66 = .ok (.ishr, 1) := by decide +kernel
theorem d_FC_knowingAfter_67 : decode b_FC_knowingAfter 67 = .ok (.iconst 1, 1) := by decide +kernel
theorem d_FC_knowingAfter_68 : decode b_FC_knowingAfter 68 = .ok (.iand, 1) := by decide +kernel
theorem d_FC_knowingAfter_69 : decode b_FC_knowingAfter 69 = .ok (.ifCond .ne 6, 3) := by decide +kernel
theorem d_FC_knowingAfter_72 : decode b_FC_knowingAfter 72 = .ok (.goto 13, 3) := by decide +kernel
theorem d_FC_knowingAfter_75 : decode b_FC_knowingAfter 75 = .ok (.iload_n 3, 1) := by decide +kernel
theorem d_FC_knowingAfter_76 : decode b_FC_knowingAfter 76 = .ok (.iconst 1, 1) := by decide +kernel
theorem d_FC_knowingAfter_77 : decode b_FC_knowingAfter 77 = .ok (.iload 6, 2) := by decide +kernel
theorem d_FC_knowingAfter_79 : decode b_FC_knowingAfter 79 = .ok (.ishl, 1) := by decide +kernel
theorem d_FC_knowingAfter_80 : decode b_FC_knowingAfter 80 = .ok (.ior, 1) := by decide +kernel
theorem d_FC_knowingAfter_81 : decode b_FC_knowingAfter 81 = .ok (.istore_n 3, 1) := by decide +kernel
theorem d_FC_knowingAfter_82 : decode b_FC_knowingAfter 82 = .ok (.goto 9, 3) := by decide +kernel
theorem d_FC_knowingAfter_85 : decode b_FC_knowingAfter 85 = .ok (.iinc 5 1, 3) := by decide +kernel
theorem d_FC_knowingAfter_88 : decode b_FC_knowingAfter 88 = .ok (.goto (-56), 3) := by decide +kernel
theorem d_FC_knowingAfter_91 : decode b_FC_knowingAfter 91 = .ok (.iinc 4 1, 3) := by decide +kernel
theorem d_FC_knowingAfter_94 : decode b_FC_knowingAfter 94 = .ok (.goto (-89), 3) := by decide +kernel
theorem d_FC_knowingAfter_97 : decode b_FC_knowingAfter 97 = .ok (.iload_n 3, 1) := by decide +kernel
theorem d_FC_knowingAfter_98 : decode b_FC_knowingAfter 98 = .ok (.ireturn, 1) := by decide +kernel
theorem d_FC_partOf_0 : decode b_FC_partOf 0 = .ok (.lload_n 0, 1) := by decide +kernel
theorem d_FC_partOf_1 : decode b_FC_partOf 1 = .ok (.invokestatic 281, 3) := by decide +kernel
theorem d_FC_partOf_4 : decode b_FC_partOf 4 = .ok (.lstore 5, 2) := by decide +kernel
theorem d_FC_partOf_6 : decode b_FC_partOf 6 = .ok (.lload_n 2, 1) := by decide +kernel
theorem d_FC_partOf_7 : decode b_FC_partOf 7 = .ok (.lstore 7, 2) := by decide +kernel
theorem d_FC_partOf_9 : decode b_FC_partOf 9 = .ok (.iconst 0, 1) := by decide +kernel
theorem d_FC_partOf_10 : decode b_FC_partOf 10 = .ok (.istore 9, 2) := by decide +kernel
theorem d_FC_partOf_12 : decode b_FC_partOf 12 = .ok (.iload 9, 2) := by decide +kernel
theorem d_FC_partOf_14 : decode b_FC_partOf 14 = .ok (.bipush 100, 2) := by decide +kernel
theorem d_FC_partOf_16 : decode b_FC_partOf 16 = .ok (.if_icmp .ge 31, 3) := by decide +kernel
theorem d_FC_partOf_19 : decode b_FC_partOf 19 = .ok (.lload 7, 2) := by decide +kernel
theorem d_FC_partOf_21 : decode b_FC_partOf 21 = .ok (.lconst 0, 1) := by decide +kernel
theorem d_FC_partOf_22 : decode b_FC_partOf 22 = .ok (.lcmp, 1) := by decide +kernel
theorem d_FC_partOf_23 : decode b_FC_partOf 23 = .ok (.ifCond .eq 24, 3) := by decide +kernel
theorem d_FC_partOf_26 : decode b_FC_partOf 26 = .ok (.lload 5, 2) := by decide +kernel
theorem d_FC_partOf_28 : decode b_FC_partOf 28 = .ok (.lload 7, 2) := by decide +kernel
theorem d_FC_partOf_30 : decode b_FC_partOf 30 = .ok (.lrem, 1) := by decide +kernel
theorem d_FC_partOf_31 : decode b_FC_partOf 31 = .ok (.lstore 10, 2) := by decide +kernel
theorem d_FC_partOf_33 : decode b_FC_partOf 33 = .ok (.lload 7, 2) := by decide +kernel
theorem d_FC_partOf_35 : decode b_FC_partOf 35 = .ok (.lstore 5, 2) := by decide +kernel
theorem d_FC_partOf_37 : decode b_FC_partOf 37 = .ok (.lload 10, 2) := by decide +kernel
theorem d_FC_partOf_39 : decode b_FC_partOf 39 = .ok (.lstore 7, 2) := by decide +kernel
theorem d_FC_partOf_41 : decode b_FC_partOf 41 = .ok (.iinc 9 1, 3) := by decide +kernel
theorem d_FC_partOf_44 : decode b_FC_partOf 44 = .ok (.goto (-32), 3) := by decide +kernel
theorem d_FC_partOf_47 : decode b_FC_partOf 47 = .ok (.lload 5, 2) := by decide +kernel
theorem d_FC_partOf_49 : decode b_FC_partOf 49 = .ok (.lconst 0, 1) := by decide +kernel
theorem d_FC_partOf_50 : decode b_FC_partOf 50 = .ok (.lcmp, 1) := by decide +kernel
theorem d_FC_partOf_51 : decode b_FC_partOf 51 = .ok (.ifCond .gt 7, 3) := by decide +kernel
theorem d_FC_partOf_54 : decode b_FC_partOf 54 = .ok (.ldc2_w 188, 3) := by decide +kernel
theorem d_FC_partOf_57 : decode b_FC_partOf 57 = .ok (.lreturn, 1) := by decide +kernel
theorem d_FC_partOf_58 : decode b_FC_partOf 58 = .ok (.iload 4, 2) := by decide +kernel
theorem d_FC_partOf_60 : decode b_FC_partOf 60 = .ok (.ifCond .ne 10, 3) := by decide +kernel
theorem d_FC_partOf_63 : decode b_FC_partOf 63 = .ok (.lload_n 0, 1) := by decide +kernel
theorem d_FC_partOf_64 : decode b_FC_partOf 64 = .ok (.lload 5, 2) := by decide +kernel
theorem d_FC_partOf_66 : decode b_FC_partOf 66 = .ok (.ldiv, 1) := by decide +kernel
theorem d_FC_partOf_67 : decode b_FC_partOf 67 = .ok (.goto 7, 3) := by decide +kernel
theorem d_FC_partOf_70 : decode b_FC_partOf 70 = .ok (.lload_n 2, 1) := by decide +kernel
theorem d_FC_partOf_71 : decode b_FC_partOf 71 = .ok (.lload 5, 2) := by decide +kernel
theorem d_FC_partOf_73 : decode b_FC_partOf 73 = .ok (.ldiv, 1) := by decide +kernel
theorem d_FC_partOf_74 : decode b_FC_partOf 74 = .ok (.lreturn, 1) := by decide +kernel
