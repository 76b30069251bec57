/-! decoded, and bodies, by program out of the source beside the bytecode -/
theorem d_House_init_0 : decode b_House_init 0 = .ok (.aload_n 0, 1) := by decide +kernel
theorem d_House_init_1 : decode b_House_init 1 = .ok (.invokespecial 3, 3) := by decide +kernel
theorem d_House_init_4 : decode b_House_init 4 = .ok (.aload_n 0, 1) := by decide +kernel
theorem d_House_init_5 : decode b_House_init 5 = .ok (.iconst 3, 1) := by decide +kernel
theorem d_House_init_6 : decode b_House_init 6 = .ok (.putfield 9, 3) := by decide +kernel
theorem d_House_init_9 : decode b_House_init 9 = .ok (.aload_n 0, 1) := by decide +kernel
theorem d_House_init_10 : decode b_House_init 10 = .ok (.iconst 1, 1) := by decide +kernel
theorem d_House_init_11 : decode b_House_init 11 = .ok (.putfield 15, 3) := by decide +kernel
theorem d_House_init_14 : decode b_House_init 14 = .ok (.aload_n 0, 1) := by decide +kernel
theorem d_House_init_15 : decode b_House_init 15 = .ok (.bipush 10, 2) := by decide +kernel
theorem d_House_init_17 : decode b_House_init 17 = .ok (.newarray .int, 2) := by decide +kernel
theorem d_House_init_19 : decode b_House_init 19 = .ok (.putfield 18, 3) := by decide +kernel
theorem d_House_init_22 : decode b_House_init 22 = .ok (.aload_n 0, 1) := by decide +kernel
theorem d_House_init_23 : decode b_House_init 23 = .ok (.bipush 10, 2) := by decide +kernel
theorem d_House_init_25 : decode b_House_init 25 = .ok (.newarray .int, 2) := by decide +kernel
theorem d_House_init_27 : decode b_House_init 27 = .ok (.putfield 22, 3) := by decide +kernel
theorem d_House_init_30 : decode b_House_init 30 = .ok (.aload_n 0, 1) := by decide +kernel
theorem d_House_init_31 : decode b_House_init 31 = .ok (.iconst 0, 1) := by decide +kernel
theorem d_House_init_32 : decode b_House_init 32 = .ok (.putfield 25, 3) := by decide +kernel
theorem d_House_init_35 : decode b_House_init 35 = .ok (.aload_n 0, 1) := by decide +kernel
theorem d_House_init_36 : decode b_House_init 36 = .ok (.bipush 100, 2) := by decide +kernel
theorem d_House_init_38 : decode b_House_init 38 = .ok (.newarray .int, 2) := by decide +kernel
theorem d_House_init_40 : decode b_House_init 40 = .ok (.putfield 28, 3) := by decide +kernel
theorem d_House_init_43 : decode b_House_init 43 = .ok (.aload_n 0, 1) := by decide +kernel
theorem d_House_init_44 : decode b_House_init 44 = .ok (.iconst 0, 1) := by decide +kernel
theorem d_House_init_45 : decode b_House_init 45 = .ok (.putfield 31, 3) := by decide +kernel
theorem d_House_init_48 : decode b_House_init 48 = .ok (.aload_n 0, 1) := by decide +kernel
theorem d_House_init_49 : decode b_House_init 49 = .ok (.bipush 6, 2) := by decide +kernel
theorem d_House_init_51 : decode b_House_init 51 = .ok (.newarray .int, 2) := by decide +kernel
theorem d_House_init_53 : decode b_House_init 53 = .ok (.putfield 34, 3) := by decide +kernel
theorem d_House_init_56 : decode b_House_init 56 = .ok (.aload_n 0, 1) := by decide +kernel
theorem d_House_init_57 : decode b_House_init 57 = .ok (.iconst 0, 1) := by decide +kernel
theorem d_House_init_58 : decode b_House_init 58 = .ok (.newarray .int, 2) := by decide +kernel
theorem d_House_init_60 : decode b_House_init 60 = .ok (.putfield 37, 3) := by decide +kernel
theorem d_House_init_63 : decode b_House_init 63 = .ok (.aload_n 0, 1) := by decide +kernel
theorem d_House_init_64 : decode b_House_init 64 = .ok (.iconst 0, 1) := by decide +kernel
theorem d_House_init_65 : decode b_House_init 65 = .ok (.putfield 40, 3) := by decide +kernel
theorem d_House_init_68 : decode b_House_init 68 = .ok (.aload_n 0, 1) := by decide +kernel
theorem d_House_init_69 : decode b_House_init 69 = .ok (.iconst 0, 1) := by decide +kernel
theorem d_House_init_70 : decode b_House_init 70 = .ok (.putfield 43, 3) := by decide +kernel
theorem d_House_init_73 : decode b_House_init 73 = .ok (.return_, 1) := by decide +kernel
theorem d_House_costOf_0 : decode b_House_costOf 0 = .ok (.iload_n 1, 1) := by decide +kernel
theorem d_House_costOf_1 : decode b_House_costOf 1 = .ok (.ifCond .le 12, 3) := by decide +kernel
theorem d_House_costOf_4 : decode b_House_costOf 4 = .ok (.iload_n 1, 1) := by decide +kernel
theorem d_House_costOf_5 : decode b_House_costOf 5 = .ok (.aload_n 0, 1) := by decide +kernel
theorem d_House_costOf_6 : decode b_House_costOf 6 = .ok (.getfield 9, 3) := by decide +kernel
theorem d_House_costOf_9 : decode b_House_costOf 9 = .ok (.imul, 1) := by decide +kernel
theorem d_House_costOf_10 : decode b_House_costOf 10 = .ok (.goto 10, 3) := by decide +kernel
theorem d_House_costOf_13 : decode b_House_costOf 13 = .ok (.iload_n 1, 1) := by decide +kernel
theorem d_House_costOf_14 : decode b_House_costOf 14 = .ok (.ineg, 1) := by decide +kernel
theorem d_House_costOf_15 : decode b_House_costOf 15 = .ok (.aload_n 0, 1) := by decide +kernel
theorem d_House_costOf_16 : decode b_House_costOf 16 = .ok (.getfield 15, 3) := by decide +kernel
theorem d_House_costOf_19 : decode b_House_costOf 19 = .ok (.imul, 1) := by decide +kernel
theorem d_House_costOf_20 : decode b_House_costOf 20 = .ok (.ireturn, 1) := by decide +kernel
theorem d_House_marginOf_0 : decode b_House_marginOf 0 = .ok (.aload_n 0, 1) := by decide +kernel
theorem d_House_marginOf_1 : decode b_House_marginOf 1 = .ok (.getfield 34, 3) := by decide +kernel
theorem d_House_marginOf_4 : decode b_House_marginOf 4 = .ok (.iconst 0, 1) := by decide +kernel
theorem d_House_marginOf_5 : decode b_House_marginOf 5 = .ok (.aload_n 1, 1) := by decide +kernel
theorem d_House_marginOf_6 : decode b_House_marginOf 6 = .ok (.getfield 46, 3) := by decide +kernel
theorem d_House_marginOf_9 : decode b_House_marginOf 9 = .ok (.iastore, 1) := by decide +kernel
theorem d_House_marginOf_10 : decode b_House_marginOf 10 = .ok (.aload_n 0, 1) := by decide +kernel
theorem d_House_marginOf_11 : decode b_House_marginOf 11 = .ok (.getfield 34, 3) := by decide +kernel
theorem d_House_marginOf_14 : decode b_House_marginOf 14 = .ok (.iconst 1, 1) := by decide +kernel
theorem d_House_marginOf_15 : decode b_House_marginOf 15 = .ok (.aload_n 1, 1) := by decide +kernel
theorem d_House_marginOf_16 : decode b_House_marginOf 16 = .ok (.invokevirtual 51, 3) := by decide +kernel
theorem d_House_marginOf_19 : decode b_House_marginOf 19 = .ok (.iastore, 1) := by decide +kernel
theorem d_House_marginOf_20 : decode b_House_marginOf 20 = .ok (.aload_n 0, 1) := by decide +kernel
theorem d_House_marginOf_21 : decode b_House_marginOf 21 = .ok (.getfield 34, 3) := by decide +kernel
theorem d_House_marginOf_24 : decode b_House_marginOf 24 = .ok (.iconst 2, 1) := by decide +kernel
theorem d_House_marginOf_25 : decode b_House_marginOf 25 = .ok (.aload_n 1, 1) := by decide +kernel
theorem d_House_marginOf_26 : decode b_House_marginOf 26 = .ok (.getfield 55, 3) := by decide +kernel
theorem d_House_marginOf_29 : decode b_House_marginOf 29 = .ok (.iastore, 1) := by decide +kernel
theorem d_House_marginOf_30 : decode b_House_marginOf 30 = .ok (.aload_n 0, 1) := by decide +kernel
theorem d_House_marginOf_31 : decode b_House_marginOf 31 = .ok (.getfield 34, 3) := by decide +kernel
theorem d_House_marginOf_34 : decode b_House_marginOf 34 = .ok (.iconst 3, 1) := by decide +kernel
theorem d_House_marginOf_35 : decode b_House_marginOf 35 = .ok (.iload_n 2, 1) := by decide +kernel
theorem d_House_marginOf_36 : decode b_House_marginOf 36 = .ok (.iastore, 1) := by decide +kernel
theorem d_House_marginOf_37 : decode b_House_marginOf 37 = .ok (.aload_n 0, 1) := by decide +kernel
theorem d_House_marginOf_38 : decode b_House_marginOf 38 = .ok (.getfield 34, 3) := by decide +kernel
theorem d_House_marginOf_41 : decode b_House_marginOf 41 = .ok (.iconst 4, 1) := by decide +kernel
theorem d_House_marginOf_42 : decode b_House_marginOf 42 = .ok (.iload_n 3, 1) := by decide +kernel
theorem d_House_marginOf_43 : decode b_House_marginOf 43 = .ok (.iastore, 1) := by decide +kernel
theorem d_House_marginOf_44 : decode b_House_marginOf 44 = .ok (.aload_n 0, 1) := by decide +kernel
theorem d_House_marginOf_45 : decode b_House_marginOf 45 = .ok (.getfield 34, 3) := by decide +kernel
theorem d_House_marginOf_48 : decode b_House_marginOf 48 = .ok (.iconst 5, 1) := by decide +kernel
theorem d_House_marginOf_49 : decode b_House_marginOf 49 = .ok (.iload 4, 2) := by decide +kernel
theorem d_House_marginOf_51 : decode b_House_marginOf 51 = .ok (.iastore, 1) := by decide +kernel
theorem d_House_marginOf_52 : decode b_House_marginOf 52 = .ok (.iconst 0, 1) := by decide +kernel
theorem d_House_marginOf_53 : decode b_House_marginOf 53 = .ok (.istore 5, 2) := by decide +kernel
theorem d_House_marginOf_55 : decode b_House_marginOf 55 = .ok (.iconst 0, 1) := by decide +kernel
theorem d_House_marginOf_56 : decode b_House_marginOf 56 = .ok (.istore 6, 2) := by decide +kernel
theorem d_House_marginOf_58 : decode b_House_marginOf 58 = .ok (.iconst 0, 1) := by decide +kernel
theorem d_House_marginOf_59 : decode b_House_marginOf 59 = .ok (.istore 7, 2) := by decide +kernel
theorem d_House_marginOf_61 : decode b_House_marginOf 61 = .ok (.iload 7, 2) := by decide +kernel
theorem d_House_marginOf_63 : decode b_House_marginOf 63 = .ok (.aload_n 0, 1) := by decide +kernel
theorem d_House_marginOf_64 : decode b_House_marginOf 64 = .ok (.getfield 25, 3) := by decide +kernel
theorem d_House_marginOf_67 : decode b_House_marginOf 67 = .ok (.if_icmp .ge 46, 3) := by decide +kernel
theorem d_House_marginOf_70 : decode b_House_marginOf 70 = .ok (.aload_n 0, 1) := by decide +kernel
theorem d_House_marginOf_71 : decode b_House_marginOf 71 = .ok (.iload 6, 2) := by decide +kernel
theorem d_House_marginOf_73 : decode b_House_marginOf 73 = .ok (.aload_n 0, 1) := by decide +kernel
theorem d_House_marginOf_74 : decode b_House_marginOf 74 = .ok (.getfield 22, 3) := by decide +kernel
theorem d_House_marginOf_77 : decode b_House_marginOf 77 = .ok (.iload 7, 2) := by decide +kernel
theorem d_House_marginOf_79 : decode b_House_marginOf 79 = .ok (.iaload, 1) := by decide +kernel
theorem d_House_marginOf_80 : decode b_House_marginOf 80 = .ok (.invokevirtual 58, 3) := by decide +kernel
theorem d_House_marginOf_83 : decode b_House_marginOf 83 = .ok (.ifCond .eq 15, 3) := by decide +kernel
theorem d_House_marginOf_86 : decode b_House_marginOf 86 = .ok (.iload 5, 2) := by decide +kernel
theorem d_House_marginOf_88 : decode b_House_marginOf 88 = .ok (.aload_n 0, 1) := by decide +kernel
theorem d_House_marginOf_89 : decode b_House_marginOf 89 = .ok (.getfield 18, 3) := by decide +kernel
theorem d_House_marginOf_92 : decode b_House_marginOf 92 = .ok (.iload 7, 2) := by decide +kernel
theorem d_House_marginOf_94 : decode b_House_marginOf 94 = .ok (.iaload, 1) := by decide +kernel
theorem d_House_marginOf_95 : decode b_House_marginOf 95 = .ok (.iadd, 1) := by decide +kernel
theorem d_House_marginOf_96 : decode b_House_marginOf 96 = .ok (.istore 5, 2) := by decide +kernel
theorem d_House_marginOf_98 : decode b_House_marginOf 98 = .ok (.aload_n 0, 1) := by decide +kernel
theorem d_House_marginOf_99 : decode b_House_marginOf 99 = .ok (.getfield 22, 3) := by decide +kernel
theorem d_House_marginOf_102 : decode b_House_marginOf 102 = .ok (.iload 7, 2) := by decide +kernel
theorem d_House_marginOf_104 : decode b_House_marginOf 104 = .ok (.iaload, 1) := by decide +kernel
theorem d_House_marginOf_105 : decode b_House_marginOf 105 = .ok (.istore 6, 2) := by decide +kernel
theorem d_House_marginOf_107 : decode b_House_marginOf 107 = .ok (.iinc 7 1, 3) := by decide +kernel
theorem d_House_marginOf_110 : decode b_House_marginOf 110 = .ok (.goto (-49), 3) := by decide +kernel
theorem d_House_marginOf_113 : decode b_House_marginOf 113 = .ok (.iload 5, 2) := by decide +kernel
theorem d_House_marginOf_115 : decode b_House_marginOf 115 = .ok (.ireturn, 1) := by decide +kernel
theorem d_House_holds_0 : decode b_House_holds 0 = .ok (.iconst 0, 1) := by decide +kernel
theorem d_House_holds_1 : decode b_House_holds 1 = .ok (.istore_n 3, 1) := by decide +kernel
theorem d_House_holds_2 : decode b_House_holds 2 = .ok (.iload_n 1, 1) := by decide +kernel
theorem d_House_holds_3 : decode b_House_holds 3 = .ok (.istore 4, 2) := by decide +kernel
theorem d_House_holds_5 : decode b_House_holds 5 = .ok (.iload 4, 2) := by decide +kernel
theorem d_House_holds_7 : decode b_House_holds 7 = .ok (.iload_n 2, 1) := by decide +kernel
theorem d_House_holds_8 : decode b_House_holds 8 = .ok (.if_icmp .ge 167, 3) := by decide +kernel
theorem d_House_holds_11 : decode b_House_holds 11 = .ok (.aload_n 0, 1) := by decide +kernel
theorem d_House_holds_12 : decode b_House_holds 12 = .ok (.getfield 28, 3) := by decide +kernel
theorem d_House_holds_15 : decode b_House_holds 15 = .ok (.iload 4, 2) := by decide +kernel
theorem d_House_holds_17 : decode b_House_holds 17 = .ok (.iaload, 1) := by decide +kernel
theorem d_House_holds_18 : decode b_House_holds 18 = .ok (.istore 5, 2) := by decide +kernel
theorem d_House_holds_20 : decode b_House_holds 20 = .ok (.iload 5, 2) := by decide +kernel
theorem d_House_holds_22 : decode b_House_holds 22 = .ok (.iconst (-1), 1) := by decide +kernel
theorem d_House_holds_23 : decode b_House_holds 23 = .ok (.if_icmp .ne 10, 3) := by decide +kernel
theorem d_House_holds_26 : decode b_House_holds 26 = .ok (.iload_n 3, 1) := by decide +kernel
theorem d_House_holds_27 : decode b_House_holds 27 = .ok (.iconst 1, 1) := by decide +kernel
theorem d_House_holds_28 : decode b_House_holds 28 = .ok (.ixor, 1) := by decide +kernel
theorem d_House_holds_29 : decode b_House_holds 29 = .ok (.istore_n 3, 1) := by decide +kernel
theorem d_House_holds_30 : decode b_House_holds 30 = .ok (.goto 139, 3) := by decide +kernel
theorem d_House_holds_33 : decode b_House_holds 33 = .ok (.iload 5, 2) := by decide +kernel
theorem d_House_holds_35 : decode b_House_holds 35 = .ok (.bipush (-2), 2) := by decide +kernel
theorem d_House_holds_37 : decode b_House_holds 37 = .ok (.if_icmp .ne 15, 3) := by decide +kernel
theorem d_House_holds_40 : decode b_House_holds 40 = .ok (.iload_n 3, 1) := by decide +kernel
theorem d_House_holds_41 : decode b_House_holds 41 = .ok (.iconst 1, 1) := by decide +kernel
theorem d_House_holds_42 : decode b_House_holds 42 = .ok (.ishr, 1) := by decide +kernel
theorem d_House_holds_43 : decode b_House_holds 43 = .ok (.iload_n 3, 1) := by decide +kernel
theorem d_House_holds_44 : decode b_House_holds 44 = .ok (.bipush (-2), 2) := by decide +kernel
theorem d_House_holds_46 : decode b_House_holds 46 = .ok (.ior, 1) := by decide +kernel
theorem d_House_holds_47 : decode b_House_holds 47 = .ok (.iand, 1) := by decide +kernel
theorem d_House_holds_48 : decode b_House_holds 48 = .ok (.istore_n 3, 1) := by decide +kernel
theorem d_House_holds_49 : decode b_House_holds 49 = .ok (.goto 120, 3) := by decide +kernel
theorem d_House_holds_52 : decode b_House_holds 52 = .ok (.iload 5, 2) := by decide +kernel
theorem d_House_holds_54 : decode b_House_holds 54 = .ok (.bipush (-3), 2) := by decide +kernel
theorem d_House_holds_56 : decode b_House_holds 56 = .ok (.if_icmp .ne 14, 3) := by decide +kernel
theorem d_House_holds_59 : decode b_House_holds 59 = .ok (.iload_n 3, 1) := by decide +kernel
theorem d_House_holds_60 : decode b_House_holds 60 = .ok (.iconst 1, 1) := by decide +kernel
theorem d_House_holds_61 : decode b_House_holds 61 = .ok (.ishr, 1) := by decide +kernel
theorem d_House_holds_62 : decode b_House_holds 62 = .ok (.iload_n 3, 1) := by decide +kernel
theorem d_House_holds_63 : decode b_House_holds 63 = .ok (.iconst 1, 1) := by decide +kernel
theorem d_House_holds_64 : decode b_House_holds 64 = .ok (.iand, 1) := by decide +kernel
theorem d_House_holds_65 : decode b_House_holds 65 = .ok (.ior, 1) := by decide +kernel
theorem d_House_holds_66 : decode b_House_holds 66 = .ok (.istore_n 3, 1) := by decide +kernel
theorem d_House_holds_67 : decode b_House_holds 67 = .ok (.goto 102, 3) := by decide +kernel
theorem d_House_holds_70 : decode b_House_holds 70 = .ok (.aload_n 0, 1) := by decide +kernel
theorem d_House_holds_71 : decode b_House_holds 71 = .ok (.getfield 34, 3) := by decide +kernel
theorem d_House_holds_74 : decode b_House_holds 74 = .ok (.iload 5, 2) := by decide +kernel
theorem d_House_holds_76 : decode b_House_holds 76 = .ok (.sipush 300, 3) := by decide +kernel
theorem d_House_holds_79 : decode b_House_holds 79 = .ok (.idiv, 1) := by decide +kernel
theorem d_House_holds_80 : decode b_House_holds 80 = .ok (.iaload, 1) := by decide +kernel
theorem d_House_holds_81 : decode b_House_holds 81 = .ok (.istore 6, 2) := by decide +kernel
theorem d_House_holds_83 : decode b_House_holds 83 = .ok (.iload 5, 2) := by decide +kernel
theorem d_House_holds_85 : decode b_House_holds 85 = .ok (.bipush 100, 2) := by decide +kernel
theorem d_House_holds_87 : decode b_House_holds 87 = .ok (.idiv, 1) := by decide +kernel
theorem d_House_holds_88 : decode b_House_holds 88 = .ok (.iconst 3, 1) := by decide +kernel
theorem d_House_holds_89 : decode b_House_holds 89 = .ok (.irem, 1) := by decide +kernel
theorem d_House_holds_90 : decode b_House_holds 90 = .ok (.istore 7, 2) := by decide +kernel
theorem d_House_holds_92 : decode b_House_holds 92 = .ok (.iload 5, 2) := by decide +kernel
theorem d_House_holds_94 : decode b_House_holds 94 = .ok (.bipush 100, 2) := by decide +kernel
theorem d_House_holds_96 : decode b_House_holds 96 = .ok (.irem, 1) := by decide +kernel
theorem d_House_holds_97 : decode b_House_holds 97 = .ok (.istore 8, 2) := by decide +kernel
theorem d_House_holds_99 : decode b_House_holds 99 = .ok (.iload 7, 2) := by decide +kernel
theorem d_House_holds_101 : decode b_House_holds 101 = .ok (.ifCond .ne 18, 3) := by decide +kernel
theorem d_House_holds_104 : decode b_House_holds 104 = .ok (.iload 6, 2) := by decide +kernel
theorem d_House_holds_106 : decode b_House_holds 106 = .ok (.iload 8, 2) := by decide +kernel
theorem d_House_holds_108 : decode b_House_holds 108 = .ok (.if_icmp .ge 7, 3) := by decide +kernel
theorem d_House_holds_111 : decode b_House_holds 111 = .ok (.iconst 1, 1) := by decide +kernel
theorem d_House_holds_112 : decode b_House_holds 112 = .ok (.goto 40, 3) := by decide +kernel
theorem d_House_holds_115 : decode b_House_holds 115 = .ok (.iconst 0, 1) := by decide +kernel
theorem d_House_holds_116 : decode b_House_holds 116 = .ok (.goto 36, 3) := by decide +kernel
theorem d_House_holds_119 : decode b_House_holds 119 = .ok (.iload 7, 2) := by decide +kernel
theorem d_House_holds_121 : decode b_House_holds 121 = .ok (.iconst 1, 1) := by decide +kernel
theorem d_House_holds_122 : decode b_House_holds 122 = .ok (.if_icmp .ne 18, 3) := by decide +kernel
theorem d_House_holds_125 : decode b_House_holds 125 = .ok (.iload 6, 2) := by decide +kernel
theorem d_House_holds_127 : decode b_House_holds 127 = .ok (.iload 8, 2) := by decide +kernel
theorem d_House_holds_129 : decode b_House_holds 129 = .ok (.if_icmp .ne 7, 3) := by decide +kernel
theorem d_House_holds_132 : decode b_House_holds 132 = .ok (.iconst 1, 1) := by decide +kernel
theorem d_House_holds_133 : decode b_House_holds 133 = .ok (.goto 19, 3) := by decide +kernel
theorem d_House_holds_136 : decode b_House_holds 136 = .ok (.iconst 0, 1) := by decide +kernel
theorem d_House_holds_137 : decode b_House_holds 137 = .ok (.goto 15, 3) := by decide +kernel
theorem d_House_holds_140 : decode b_House_holds 140 = .ok (.iload 6, 2) := by decide +kernel
theorem d_House_holds_142 : decode b_House_holds 142 = .ok (.iload 8, 2) := by decide +kernel
theorem d_House_holds_144 : decode b_House_holds 144 = .ok (.if_icmp .le 7, 3) := by decide +kernel
theorem d_House_holds_147 : decode b_House_holds 147 = .ok (.iconst 1, 1) := by decide +kernel
theorem d_House_holds_148 : decode b_House_holds 148 = .ok (.goto 4, 3) := by decide +kernel
theorem d_House_holds_151 : decode b_House_holds 151 = .ok (.iconst 0, 1) := by decide +kernel
theorem d_House_holds_152 : decode b_House_holds 152 = .ok (.istore 9, 2) := by decide +kernel
theorem d_House_holds_154 : decode b_House_holds 154 = .ok (.iload_n 3, 1) := by decide +kernel
theorem d_House_holds_155 : decode b_House_holds 155 = .ok (.iconst 1, 1) := by decide +kernel
theorem d_House_holds_156 : decode b_House_holds 156 = .ok (.ishl, 1) := by decide +kernel
theorem d_House_holds_157 : decode b_House_holds 157 = .ok (.iload 9, 2) := by decide +kernel
theorem d_House_holds_159 : decode b_House_holds 159 = .ok (.ifCond .eq 7, 3) := by decide +kernel
theorem d_House_holds_162 : decode b_House_holds 162 = .ok (.iconst 1, 1) := by decide +kernel
theorem d_House_holds_163 : decode b_House_holds 163 = .ok (.goto 4, 3) := by decide +kernel
theorem d_House_holds_166 : decode b_House_holds 166 = .ok (.iconst 0, 1) := by decide +kernel
theorem d_House_holds_167 : decode b_House_holds 167 = .ok (.ior, 1) := by decide +kernel
theorem d_House_holds_168 : decode b_House_holds 168 = .ok (.istore_n 3, 1) := by decide +kernel
theorem d_House_holds_169 : decode b_House_holds 169 = .ok (.iinc 4 1, 3) := by decide +kernel
theorem d_House_holds_172 : decode b_House_holds 172 = .ok (.goto (-167), 3) := by decide +kernel
theorem d_House_holds_175 : decode b_House_holds 175 = .ok (.iload_n 3, 1) := by decide +kernel
theorem d_House_holds_176 : decode b_House_holds 176 = .ok (.iconst 1, 1) := by decide +kernel
theorem d_House_holds_177 : decode b_House_holds 177 = .ok (.iand, 1) := by decide +kernel
theorem d_House_holds_178 : decode b_House_holds 178 = .ok (.iconst 1, 1) := by decide +kernel
theorem d_House_holds_179 : decode b_House_holds 179 = .ok (.if_icmp .ne 7, 3) := by decide +kernel
theorem d_House_holds_182 : decode b_House_holds 182 = .ok (.iconst 1, 1) := by decide +kernel
theorem d_House_holds_183 : decode b_House_holds 183 = .ok (.goto 4, 3) := by decide +kernel
theorem d_House_holds_186 : decode b_House_holds 186 = .ok (.iconst 0, 1) := by decide +kernel
theorem d_House_holds_187 : decode b_House_holds 187 = .ok (.ireturn, 1) := by decide +kernel
theorem d_House_readFrom_0 : decode b_House_readFrom 0 = .ok (.aload_n 0, 1) := by decide +kernel
theorem d_House_readFrom_1 : decode b_House_readFrom 1 = .ok (.aload_n 1, 1) := by decide +kernel
theorem d_House_readFrom_2 : decode b_House_readFrom 2 = .ok (.putfield 37, 3) := by decide +kernel
theorem d_House_readFrom_5 : decode b_House_readFrom 5 = .ok (.aload_n 0, 1) := by decide +kernel
theorem d_House_readFrom_6 : decode b_House_readFrom 6 = .ok (.iload_n 2, 1) := by decide +kernel
theorem d_House_readFrom_7 : decode b_House_readFrom 7 = .ok (.putfield 40, 3) := by decide +kernel
theorem d_House_readFrom_10 : decode b_House_readFrom 10 = .ok (.iconst 0, 1) := by decide +kernel
theorem d_House_readFrom_11 : decode b_House_readFrom 11 = .ok (.istore_n 3, 1) := by decide +kernel
theorem d_House_readFrom_12 : decode b_House_readFrom 12 = .ok (.iload_n 3, 1) := by decide +kernel
theorem d_House_readFrom_13 : decode b_House_readFrom 13 = .ok (.bipush 10, 2) := by decide +kernel
theorem d_House_readFrom_15 : decode b_House_readFrom 15 = .ok (.if_icmp .ge 52, 3) := by decide +kernel
theorem d_House_readFrom_18 : decode b_House_readFrom 18 = .ok (.iload_n 3, 1) := by decide +kernel
theorem d_House_readFrom_19 : decode b_House_readFrom 19 = .ok (.ifCond .le 17, 3) := by decide +kernel
theorem d_House_readFrom_22 : decode b_House_readFrom 22 = .ok (.aload_n 0, 1) := by decide +kernel
theorem d_House_readFrom_23 : decode b_House_readFrom 23 = .ok (.bipush 59, 2) := by decide +kernel
theorem d_House_readFrom_25 : decode b_House_readFrom 25 = .ok (.invokevirtual 62, 3) := by decide +kernel
theorem d_House_readFrom_28 : decode b_House_readFrom 28 = .ok (.ifCond .ne 8, 3) := by decide +kernel
theorem d_House_readFrom_31 : decode b_House_readFrom 31 = .ok (.aload_n 0, 1) := by decide +kernel
theorem d_House_readFrom_32 : decode b_House_readFrom 32 = .ok (.getfield 43, 3) := by decide +kernel
theorem d_House_readFrom_35 : decode b_House_readFrom 35 = .ok (.ireturn, 1) := by decide +kernel
theorem d_House_readFrom_36 : decode b_House_readFrom 36 = .ok (.aload_n 0, 1) := by decide +kernel
theorem d_House_readFrom_37 : decode b_House_readFrom 37 = .ok (.invokevirtual 66, 3) := by decide +kernel
theorem d_House_readFrom_40 : decode b_House_readFrom 40 = .ok (.ifCond .ne 8, 3) := by decide +kernel
theorem d_House_readFrom_43 : decode b_House_readFrom 43 = .ok (.aload_n 0, 1) := by decide +kernel
theorem d_House_readFrom_44 : decode b_House_readFrom 44 = .ok (.getfield 43, 3) := by decide +kernel
theorem d_House_readFrom_47 : decode b_House_readFrom 47 = .ok (.ireturn, 1) := by decide +kernel
theorem d_House_readFrom_48 : decode b_House_readFrom 48 = .ok (.aload_n 0, 1) := by decide +kernel
theorem d_House_readFrom_49 : decode b_House_readFrom 49 = .ok (.getfield 43, 3) := by decide +kernel
theorem d_House_readFrom_52 : decode b_House_readFrom 52 = .ok (.aload_n 0, 1) := by decide +kernel
theorem d_House_readFrom_53 : decode b_House_readFrom 53 = .ok (.getfield 40, 3) := by decide +kernel
theorem d_House_readFrom_56 : decode b_House_readFrom 56 = .ok (.if_icmp .lt 5, 3) := by decide +kernel
theorem d_House_readFrom_59 : decode b_House_readFrom 59 = .ok (.iconst (-1), 1) := by decide +kernel
theorem d_House_readFrom_60 : decode b_House_readFrom 60 = .ok (.ireturn, 1) := by decide +kernel
theorem d_House_readFrom_61 : decode b_House_readFrom 61 = .ok (.iinc 3 1, 3) := by decide +kernel
theorem d_House_readFrom_64 : decode b_House_readFrom 64 = .ok (.goto (-52), 3) := by decide +kernel
theorem d_House_readFrom_67 : decode b_House_readFrom 67 = .ok (.aload_n 0, 1) := by decide +kernel
theorem d_House_readFrom_68 : decode b_House_readFrom 68 = .ok (.getfield 43, 3) := by decide +kernel
theorem d_House_readFrom_71 : decode b_House_readFrom 71 = .ok (.ireturn, 1) := by decide +kernel
theorem d_House_take_0 : decode b_House_take 0 = .ok (.aload_n 0, 1) := by decide +kernel
theorem d_House_take_1 : decode b_House_take 1 = .ok (.getfield 43, 3) := by decide +kernel
theorem d_House_take_4 : decode b_House_take 4 = .ok (.aload_n 0, 1) := by decide +kernel
theorem d_House_take_5 : decode b_House_take 5 = .ok (.getfield 40, 3) := by decide +kernel
theorem d_House_take_8 : decode b_House_take 8 = .ok (.if_icmp .ge 16, 3) := by decide +kernel
theorem d_House_take_11 : decode b_House_take 11 = .ok (.aload_n 0, 1) := by decide +kernel
theorem d_House_take_12 : decode b_House_take 12 = .ok (.getfield 37, 3) := by decide +kernel
theorem d_House_take_15 : decode b_House_take 15 = .ok (.aload_n 0, 1) := by decide +kernel
theorem d_House_take_16 : decode b_House_take 16 = .ok (.getfield 43, 3) := by decide +kernel
theorem d_House_take_19 : decode b_House_take 19 = .ok (.iaload, 1) := by decide +kernel
theorem d_House_take_20 : decode b_House_take 20 = .ok (.iload_n 1, 1) := by decide +kernel
theorem d_House_take_21 : decode b_House_take 21 = .ok (.if_icmp .eq 5, 3) := by decide +kernel
theorem d_House_take_24 : decode b_House_take 24 = .ok (.iconst 0, 1) := by decide +kernel
theorem d_House_take_25 : decode b_House_take 25 = .ok (.ireturn, 1) := by decide +kernel
theorem d_House_take_26 : decode b_House_take 26 = .ok (.aload_n 0, 1) := by decide +kernel
theorem d_House_take_27 : decode b_House_take 27 = .ok (.dup, 1) := by decide +kernel
theorem d_House_take_28 : decode b_House_take 28 = .ok (.getfield 43, 3) := by decide +kernel
theorem d_House_take_31 : decode b_House_take 31 = .ok (.iconst 1, 1) := by decide +kernel
theorem d_House_take_32 : decode b_House_take 32 = .ok (.iadd, 1) := by decide +kernel
theorem d_House_take_33 : decode b_House_take 33 = .ok (.putfield 43, 3) := by decide +kernel
theorem d_House_take_36 : decode b_House_take 36 = .ok (.iconst 1, 1) := by decide +kernel
theorem d_House_take_37 : decode b_House_take 37 = .ok (.ireturn, 1) := by decide +kernel
theorem d_House_takeWord_0 : decode b_House_takeWord 0 = .ok (.iconst 0, 1) := by decide +kernel
theorem d_House_takeWord_1 : decode b_House_takeWord 1 = .ok (.istore_n 2, 1) := by decide +kernel
theorem d_House_takeWord_2 : decode b_House_takeWord 2 = .ok (.iload_n 2, 1) := by decide +kernel
theorem d_House_takeWord_3 : decode b_House_takeWord 3 = .ok (.aload_n 1, 1) := by decide +kernel
theorem d_House_takeWord_4 : decode b_House_takeWord 4 = .ok (.invokevirtual 70, 3) := by decide +kernel
theorem d_House_takeWord_7 : decode b_House_takeWord 7 = .ok (.if_icmp .ge 23, 3) := by decide +kernel
theorem d_House_takeWord_10 : decode b_House_takeWord 10 = .ok (.aload_n 0, 1) := by decide +kernel
theorem d_House_takeWord_11 : decode b_House_takeWord 11 = .ok (.aload_n 1, 1) := by decide +kernel
theorem d_House_takeWord_12 : decode b_House_takeWord 12 = .ok (.iload_n 2, 1) := by decide +kernel
theorem d_House_takeWord_13 : decode b_House_takeWord 13 = .ok (.invokevirtual 75, 3) := by decide +kernel
theorem d_House_takeWord_16 : decode b_House_takeWord 16 = .ok (.invokevirtual 62, 3) := by decide +kernel
theorem d_House_takeWord_19 : decode b_House_takeWord 19 = .ok (.ifCond .ne 5, 3) := by decide +kernel
theorem d_House_takeWord_22 : decode b_House_takeWord 22 = .ok (.iconst 0, 1) := by decide +kernel
theorem d_House_takeWord_23 : decode b_House_takeWord 23 = .ok (.ireturn, 1) := by decide +kernel
theorem d_House_takeWord_24 : decode b_House_takeWord 24 = .ok (.iinc 2 1, 3) := by decide +kernel
theorem d_House_takeWord_27 : decode b_House_takeWord 27 = .ok (.goto (-25), 3) := by decide +kernel
theorem d_House_takeWord_30 : decode b_House_takeWord 30 = .ok (.iconst 1, 1) := by decide +kernel
theorem d_House_takeWord_31 : decode b_House_takeWord 31 = .ok (.ireturn, 1) := by decide +kernel
theorem d_House_takeOneOf_0 : decode b_House_takeOneOf 0 = .ok (.aload_n 0, 1) := by decide +kernel
theorem d_House_takeOneOf_1 : decode b_House_takeOneOf 1 = .ok (.getfield 43, 3) := by decide +kernel
theorem d_House_takeOneOf_4 : decode b_House_takeOneOf 4 = .ok (.aload_n 0, 1) := by decide +kernel
theorem d_House_takeOneOf_5 : decode b_House_takeOneOf 5 = .ok (.getfield 40, 3) := by decide +kernel
theorem d_House_takeOneOf_8 : decode b_House_takeOneOf 8 = .ok (.if_icmp .lt 5, 3) := by decide +kernel
theorem d_House_takeOneOf_11 : decode b_House_takeOneOf 11 = .ok (.iconst (-1), 1) := by decide +kernel
theorem d_House_takeOneOf_12 : decode b_House_takeOneOf 12 = .ok (.ireturn, 1) := by decide +kernel
theorem d_House_takeOneOf_13 : decode b_House_takeOneOf 13 = .ok (.aload_n 1, 1) := by decide +kernel
theorem d_House_takeOneOf_14 : decode b_House_takeOneOf 14 = .ok (.aload_n 0, 1) := by decide +kernel
theorem d_House_takeOneOf_15 : decode b_House_takeOneOf 15 = .ok (.getfield 37, 3) := by decide +kernel
theorem d_House_takeOneOf_18 : decode b_House_takeOneOf 18 = .ok (.aload_n 0, 1) := by decide +kernel
theorem d_House_takeOneOf_19 : decode b_House_takeOneOf 19 = .ok (.getfield 43, 3) := by decide +kernel
theorem d_House_takeOneOf_22 : decode b_House_takeOneOf 22 = .ok (.iaload, 1) := by decide +kernel
theorem d_House_takeOneOf_23 : decode b_House_takeOneOf 23 = .ok (.i2c, 1) := by decide +kernel
theorem d_House_takeOneOf_24 : decode b_House_takeOneOf 24 = .ok (.invokevirtual 79, 3) := by decide +kernel
theorem d_House_takeOneOf_27 : decode b_House_takeOneOf 27 = .ok (.istore_n 2, 1) := by decide +kernel
theorem d_House_takeOneOf_28 : decode b_House_takeOneOf 28 = .ok (.iload_n 2, 1) := by decide +kernel
theorem d_House_takeOneOf_29 : decode b_House_takeOneOf 29 = .ok (.ifCond .lt 13, 3) := by decide +kernel
theorem d_House_takeOneOf_32 : decode b_House_takeOneOf 32 = .ok (.aload_n 0, 1) := by decide +kernel
theorem d_House_takeOneOf_33 : decode b_House_takeOneOf 33 = .ok (.dup, 1) := by decide +kernel
theorem d_House_takeOneOf_34 : decode b_House_takeOneOf 34 = .ok (.getfield 43, 3) := by decide +kernel
theorem d_House_takeOneOf_37 : decode b_House_takeOneOf 37 = .ok (.iconst 1, 1) := by decide +kernel
theorem d_House_takeOneOf_38 : decode b_House_takeOneOf 38 = .ok (.iadd, 1) := by decide +kernel
theorem d_House_takeOneOf_39 : decode b_House_takeOneOf 39 = .ok (.putfield 43, 3) := by decide +kernel
theorem d_House_takeOneOf_42 : decode b_House_takeOneOf 42 = .ok (.iload_n 2, 1) := by decide +kernel
theorem d_House_takeOneOf_43 : decode b_House_takeOneOf 43 = .ok (.ireturn, 1) := by decide +kernel
theorem d_House_takeClause_0 : decode b_House_takeClause 0 = .ok (.aload_n 0, 1) := by decide +kernel
theorem d_House_takeClause_1 : decode b_House_takeClause 1 = .ok (.ldc 83, 2) := by decide +kernel
theorem d_House_takeClause_3 : decode b_House_takeClause 3 = .ok (.invokevirtual 85, 3) := by decide +kernel
theorem d_House_takeClause_6 : decode b_House_takeClause 6 = .ok (.istore_n 1, 1) := by decide +kernel
theorem d_House_takeClause_7 : decode b_House_takeClause 7 = .ok (.iload_n 1, 1) := by decide +kernel
theorem d_House_takeClause_8 : decode b_House_takeClause 8 = .ok (.ifCond .ge 5, 3) := by decide +kernel
theorem d_House_takeClause_11 : decode b_House_takeClause 11 = .ok (.iconst 0, 1) := by decide +kernel
theorem d_House_takeClause_12 : decode b_House_takeClause 12 = .ok (.ireturn, 1) := by decide +kernel
theorem d_House_takeClause_13 : decode b_House_takeClause 13 = .ok (.aload_n 0, 1) := by decide +kernel
theorem d_House_takeClause_14 : decode b_House_takeClause 14 = .ok (.iload_n 1, 1) := by decide +kernel
theorem d_House_takeClause_15 : decode b_House_takeClause 15 = .ok (.ifCond .ne 8, 3) := by decide +kernel
theorem d_House_takeClause_18 : decode b_House_takeClause 18 = .ok (.ldc 89, 2) := by decide +kernel
theorem d_House_takeClause_20 : decode b_House_takeClause 20 = .ok (.goto 25, 3) := by decide +kernel
theorem d_House_takeClause_23 : decode b_House_takeClause 23 = .ok (.iload_n 1, 1) := by decide +kernel
theorem d_House_takeClause_24 : decode b_House_takeClause 24 = .ok (.iconst 1, 1) := by decide +kernel
theorem d_House_takeClause_25 : decode b_House_takeClause 25 = .ok (.if_icmp .ne 8, 3) := by decide +kernel
theorem d_House_takeClause_28 : decode b_House_takeClause 28 = .ok (.ldc 91, 2) := by decide +kernel
theorem d_House_takeClause_30 : decode b_House_takeClause 30 = .ok (.goto 15, 3) := by decide +kernel
theorem d_House_takeClause_33 : decode b_House_takeClause 33 = .ok (.iload_n 1, 1) := by decide +kernel
theorem d_House_takeClause_34 : decode b_House_takeClause 34 = .ok (.iconst 2, 1) := by decide +kernel
theorem d_House_takeClause_35 : decode b_House_takeClause 35 = .ok (.if_icmp .ne 8, 3) := by decide +kernel
theorem d_House_takeClause_38 : decode b_House_takeClause 38 = .ok (.ldc 93, 2) := by decide +kernel
theorem d_House_takeClause_40 : decode b_House_takeClause 40 = .ok (.goto 5, 3) := by decide +kernel
theorem d_House_takeClause_43 : decode b_House_takeClause 43 = .ok (.ldc 95, 2) := by decide +kernel
theorem d_House_takeClause_45 : decode b_House_takeClause 45 = .ok (.invokevirtual 97, 3) := by decide +kernel
theorem d_House_takeClause_48 : decode b_House_takeClause 48 = .ok (.ifCond .ne 5, 3) := by decide +kernel
theorem d_House_takeClause_51 : decode b_House_takeClause 51 = .ok (.iconst 0, 1) := by decide +kernel
theorem d_House_takeClause_52 : decode b_House_takeClause 52 = .ok (.ireturn, 1) := by decide +kernel
theorem d_House_takeClause_53 : decode b_House_takeClause 53 = .ok (.aload_n 0, 1) := by decide +kernel
theorem d_House_takeClause_54 : decode b_House_takeClause 54 = .ok (.invokevirtual 101, 3) := by decide +kernel
theorem d_House_takeClause_57 : decode b_House_takeClause 57 = .ok (.istore_n 2, 1) := by decide +kernel
theorem d_House_takeClause_58 : decode b_House_takeClause 58 = .ok (.iload_n 2, 1) := by decide +kernel
theorem d_House_takeClause_59 : decode b_House_takeClause 59 = .ok (.ifCond .ge 5, 3) := by decide +kernel
theorem d_House_takeClause_62 : decode b_House_takeClause 62 = .ok (.iconst 0, 1) := by decide +kernel
theorem d_House_takeClause_63 : decode b_House_takeClause 63 = .ok (.ireturn, 1) := by decide +kernel
theorem d_House_takeClause_64 : decode b_House_takeClause 64 = .ok (.iload_n 1, 1) := by decide +kernel
theorem d_House_takeClause_65 : decode b_House_takeClause 65 = .ok (.ifCond .ne 10, 3) := by decide +kernel
theorem d_House_takeClause_68 : decode b_House_takeClause 68 = .ok (.aload_n 0, 1) := by decide +kernel
theorem d_House_takeClause_69 : decode b_House_takeClause 69 = .ok (.iload_n 2, 1) := by decide +kernel
theorem d_House_takeClause_70 : decode b_House_takeClause 70 = .ok (.putfield 9, 3) := by decide +kernel
theorem d_House_takeClause_73 : decode b_House_takeClause 73 = .ok (.iconst 1, 1) := by decide +kernel
theorem d_House_takeClause_74 : decode b_House_takeClause 74 = .ok (.ireturn, 1) := by decide +kernel
theorem d_House_takeClause_75 : decode b_House_takeClause 75 = .ok (.iload_n 1, 1) := by decide +kernel
theorem d_House_takeClause_76 : decode b_House_takeClause 76 = .ok (.iconst 1, 1) := by decide +kernel
theorem d_House_takeClause_77 : decode b_House_takeClause 77 = .ok (.if_icmp .ne 10, 3) := by decide +kernel
theorem d_House_takeClause_80 : decode b_House_takeClause 80 = .ok (.aload_n 0, 1) := by decide +kernel
theorem d_House_takeClause_81 : decode b_House_takeClause 81 = .ok (.iload_n 2, 1) := by decide +kernel
theorem d_House_takeClause_82 : decode b_House_takeClause 82 = .ok (.putfield 15, 3) := by decide +kernel
theorem d_House_takeClause_85 : decode b_House_takeClause 85 = .ok (.iconst 1, 1) := by decide +kernel
theorem d_House_takeClause_86 : decode b_House_takeClause 86 = .ok (.ireturn, 1) := by decide +kernel
theorem d_House_takeClause_87 : decode b_House_takeClause 87 = .ok (.aload_n 0, 1) := by decide +kernel
theorem d_House_takeClause_88 : decode b_House_takeClause 88 = .ok (.bipush 32, 2) := by decide +kernel
theorem d_House_takeClause_90 : decode b_House_takeClause 90 = .ok (.invokevirtual 62, 3) := by decide +kernel
theorem d_House_takeClause_93 : decode b_House_takeClause 93 = .ok (.ifCond .eq 11, 3) := by decide +kernel
theorem d_House_takeClause_96 : decode b_House_takeClause 96 = .ok (.aload_n 0, 1) := by decide +kernel
theorem d_House_takeClause_97 : decode b_House_takeClause 97 = .ok (.iconst 0, 1) := by decide +kernel
theorem d_House_takeClause_98 : decode b_House_takeClause 98 = .ok (.invokevirtual 104, 3) := by decide +kernel
theorem d_House_takeClause_101 : decode b_House_takeClause 101 = .ok (.ifCond .ne 5, 3) := by decide +kernel
theorem d_House_takeClause_104 : decode b_House_takeClause 104 = .ok (.iconst 0, 1) := by decide +kernel
theorem d_House_takeClause_105 : decode b_House_takeClause 105 = .ok (.ireturn, 1) := by decide +kernel
theorem d_House_takeClause_106 : decode b_House_takeClause 106 = .ok (.aload_n 0, 1) := by decide +kernel
theorem d_House_takeClause_107 : decode b_House_takeClause 107 = .ok (.getfield 25, 3) := by decide +kernel
theorem d_House_takeClause_110 : decode b_House_takeClause 110 = .ok (.bipush 10, 2) := by decide +kernel
theorem d_House_takeClause_112 : decode b_House_takeClause 112 = .ok (.if_icmp .ge 46, 3) := by decide +kernel
theorem d_House_takeClause_115 : decode b_House_takeClause 115 = .ok (.aload_n 0, 1) := by decide +kernel
theorem d_House_takeClause_116 : decode b_House_takeClause 116 = .ok (.getfield 18, 3) := by decide +kernel
theorem d_House_takeClause_119 : decode b_House_takeClause 119 = .ok (.aload_n 0, 1) := by decide +kernel
theorem d_House_takeClause_120 : decode b_House_takeClause 120 = .ok (.getfield 25, 3) := by decide +kernel
theorem d_House_takeClause_123 : decode b_House_takeClause 123 = .ok (.iload_n 1, 1) := by decide +kernel
theorem d_House_takeClause_124 : decode b_House_takeClause 124 = .ok (.iconst 2, 1) := by decide +kernel
theorem d_House_takeClause_125 : decode b_House_takeClause 125 = .ok (.if_icmp .ne 8, 3) := by decide +kernel
theorem d_House_takeClause_128 : decode b_House_takeClause 128 = .ok (.iload_n 2, 1) := by decide +kernel
theorem d_House_takeClause_129 : decode b_House_takeClause 129 = .ok (.ineg, 1) := by decide +kernel
theorem d_House_takeClause_130 : decode b_House_takeClause 130 = .ok (.goto 4, 3) := by decide +kernel
theorem d_House_takeClause_133 : decode b_House_takeClause 133 = .ok (.iload_n 2, 1) := by decide +kernel
theorem d_House_takeClause_134 : decode b_House_takeClause 134 = .ok (.iastore, 1) := by decide +kernel
theorem d_House_takeClause_135 : decode b_House_takeClause 135 = .ok (.aload_n 0, 1) := by decide +kernel
theorem d_House_takeClause_136 : decode b_House_takeClause 136 = .ok (.getfield 22, 3) := by decide +kernel
theorem d_House_takeClause_139 : decode b_House_takeClause 139 = .ok (.aload_n 0, 1) := by decide +kernel
theorem d_House_takeClause_140 : decode b_House_takeClause 140 = .ok (.getfield 25, 3) := by decide +kernel
theorem d_House_takeClause_143 : decode b_House_takeClause 143 = .ok (.aload_n 0, 1) := by decide +kernel
theorem d_House_takeClause_144 : decode b_House_takeClause 144 = .ok (.getfield 31, 3) := by decide +kernel
theorem d_House_takeClause_147 : decode b_House_takeClause 147 = .ok (.iastore, 1) := by decide +kernel
theorem d_House_takeClause_148 : decode b_House_takeClause 148 = .ok (.aload_n 0, 1) := by decide +kernel
theorem d_House_takeClause_149 : decode b_House_takeClause 149 = .ok (.dup, 1) := by decide +kernel
theorem d_House_takeClause_150 : decode b_House_takeClause 150 = .ok (.getfield 25, 3) := by decide +kernel
theorem d_House_takeClause_153 : decode b_House_takeClause 153 = .ok (.iconst 1, 1) := by decide +kernel
theorem d_House_takeClause_154 : decode b_House_takeClause 154 = .ok (.iadd, 1) := by decide +kernel
theorem d_House_takeClause_155 : decode b_House_takeClause 155 = .ok (.putfield 25, 3) := by decide +kernel
theorem d_House_takeClause_158 : decode b_House_takeClause 158 = .ok (.iconst 1, 1) := by decide +kernel
theorem d_House_takeClause_159 : decode b_House_takeClause 159 = .ok (.ireturn, 1) := by decide +kernel
theorem d_House_takeNumber_0 : decode b_House_takeNumber 0 = .ok (.aload_n 0, 1) := by decide +kernel
theorem d_House_takeNumber_1 : decode b_House_takeNumber 1 = .ok (.ldc 108, 2) := by decide +kernel
theorem d_House_takeNumber_3 : decode b_House_takeNumber 3 = .ok (.invokevirtual 85, 3) := by decide +kernel
theorem d_House_takeNumber_6 : decode b_House_takeNumber 6 = .ok (.istore_n 1, 1) := by decide +kernel
theorem d_House_takeNumber_7 : decode b_House_takeNumber 7 = .ok (.iload_n 1, 1) := by decide +kernel
theorem d_House_takeNumber_8 : decode b_House_takeNumber 8 = .ok (.ifCond .gt 5, 3) := by decide +kernel
theorem d_House_takeNumber_11 : decode b_House_takeNumber 11 = .ok (.iload_n 1, 1) := by decide +kernel
theorem d_House_takeNumber_12 : decode b_House_takeNumber 12 = .ok (.ireturn, 1) := by decide +kernel
theorem d_House_takeNumber_13 : decode b_House_takeNumber 13 = .ok (.aload_n 0, 1) := by decide +kernel
theorem d_House_takeNumber_14 : decode b_House_takeNumber 14 = .ok (.ldc 108, 2) := by decide +kernel
theorem d_House_takeNumber_16 : decode b_House_takeNumber 16 = .ok (.invokevirtual 85, 3) := by decide +kernel
theorem d_House_takeNumber_19 : decode b_House_takeNumber 19 = .ok (.istore_n 2, 1) := by decide +kernel
theorem d_House_takeNumber_20 : decode b_House_takeNumber 20 = .ok (.iload_n 2, 1) := by decide +kernel
theorem d_House_takeNumber_21 : decode b_House_takeNumber 21 = .ok (.ifCond .ge 7, 3) := by decide +kernel
theorem d_House_takeNumber_24 : decode b_House_takeNumber 24 = .ok (.iload_n 1, 1) := by decide +kernel
theorem d_House_takeNumber_25 : decode b_House_takeNumber 25 = .ok (.goto 9, 3) := by decide +kernel
theorem d_House_takeNumber_28 : decode b_House_takeNumber 28 = .ok (.iload_n 1, 1) := by decide +kernel
theorem d_House_takeNumber_29 : decode b_House_takeNumber 29 = .ok (.bipush 10, 2) := by decide +kernel
theorem d_House_takeNumber_31 : decode b_House_takeNumber 31 = .ok (.imul, 1) := by decide +kernel
theorem d_House_takeNumber_32 : decode b_House_takeNumber 32 = .ok (.iload_n 2, 1) := by decide +kernel
theorem d_House_takeNumber_33 : decode b_House_takeNumber 33 = .ok (.iadd, 1) := by decide +kernel
theorem d_House_takeNumber_34 : decode b_House_takeNumber 34 = .ok (.ireturn, 1) := by decide +kernel
theorem d_House_takeEither_0 : decode b_House_takeEither 0 = .ok (.aload_n 0, 1) := by decide +kernel
theorem d_House_takeEither_1 : decode b_House_takeEither 1 = .ok (.iload_n 1, 1) := by decide +kernel
theorem d_House_takeEither_2 : decode b_House_takeEither 2 = .ok (.invokevirtual 110, 3) := by decide +kernel
theorem d_House_takeEither_5 : decode b_House_takeEither 5 = .ok (.ifCond .ne 5, 3) := by decide +kernel
theorem d_House_takeEither_8 : decode b_House_takeEither 8 = .ok (.iconst 0, 1) := by decide +kernel
theorem d_House_takeEither_9 : decode b_House_takeEither 9 = .ok (.ireturn, 1) := by decide +kernel
theorem d_House_takeEither_10 : decode b_House_takeEither 10 = .ok (.iconst 0, 1) := by decide +kernel
theorem d_House_takeEither_11 : decode b_House_takeEither 11 = .ok (.istore_n 2, 1) := by decide +kernel
theorem d_House_takeEither_12 : decode b_House_takeEither 12 = .ok (.iload_n 2, 1) := by decide +kernel
theorem d_House_takeEither_13 : decode b_House_takeEither 13 = .ok (.bipush 100, 2) := by decide +kernel
theorem d_House_takeEither_15 : decode b_House_takeEither 15 = .ok (.if_icmp .ge 34, 3) := by decide +kernel
theorem d_House_takeEither_18 : decode b_House_takeEither 18 = .ok (.aload_n 0, 1) := by decide +kernel
theorem d_House_takeEither_19 : decode b_House_takeEither 19 = .ok (.bipush 124, 2) := by decide +kernel
theorem d_House_takeEither_21 : decode b_House_takeEither 21 = .ok (.invokevirtual 62, 3) := by decide +kernel
theorem d_House_takeEither_24 : decode b_House_takeEither 24 = .ok (.ifCond .eq 25, 3) := by decide +kernel
theorem d_House_takeEither_27 : decode b_House_takeEither 27 = .ok (.aload_n 0, 1) := by decide +kernel
theorem d_House_takeEither_28 : decode b_House_takeEither 28 = .ok (.iload_n 1, 1) := by decide +kernel
theorem d_House_takeEither_29 : decode b_House_takeEither 29 = .ok (.invokevirtual 110, 3) := by decide +kernel
theorem d_House_takeEither_32 : decode b_House_takeEither 32 = .ok (.ifCond .ne 5, 3) := by decide +kernel
theorem d_House_takeEither_35 : decode b_House_takeEither 35 = .ok (.iconst 0, 1) := by decide +kernel
theorem d_House_takeEither_36 : decode b_House_takeEither 36 = .ok (.ireturn, 1) := by decide +kernel
theorem d_House_takeEither_37 : decode b_House_takeEither 37 = .ok (.aload_n 0, 1) := by decide +kernel
theorem d_House_takeEither_38 : decode b_House_takeEither 38 = .ok (.bipush (-3), 2) := by decide +kernel
theorem d_House_takeEither_40 : decode b_House_takeEither 40 = .ok (.invokevirtual 113, 3) := by decide +kernel
theorem d_House_takeEither_43 : decode b_House_takeEither 43 = .ok (.iinc 2 1, 3) := by decide +kernel
theorem d_House_takeEither_46 : decode b_House_takeEither 46 = .ok (.goto (-34), 3) := by decide +kernel
theorem d_House_takeEither_49 : decode b_House_takeEither 49 = .ok (.iconst 1, 1) := by decide +kernel
theorem d_House_takeEither_50 : decode b_House_takeEither 50 = .ok (.ireturn, 1) := by decide +kernel
theorem d_House_takeBoth_0 : decode b_House_takeBoth 0 = .ok (.aload_n 0, 1) := by decide +kernel
theorem d_House_takeBoth_1 : decode b_House_takeBoth 1 = .ok (.iload_n 1, 1) := by decide +kernel
theorem d_House_takeBoth_2 : decode b_House_takeBoth 2 = .ok (.invokevirtual 117, 3) := by decide +kernel
theorem d_House_takeBoth_5 : decode b_House_takeBoth 5 = .ok (.ifCond .ne 5, 3) := by decide +kernel
theorem d_House_takeBoth_8 : decode b_House_takeBoth 8 = .ok (.iconst 0, 1) := by decide +kernel
theorem d_House_takeBoth_9 : decode b_House_takeBoth 9 = .ok (.ireturn, 1) := by decide +kernel
theorem d_House_takeBoth_10 : decode b_House_takeBoth 10 = .ok (.iconst 0, 1) := by decide +kernel
theorem d_House_takeBoth_11 : decode b_House_takeBoth 11 = .ok (.istore_n 2, 1) := by decide +kernel
theorem d_House_takeBoth_12 : decode b_House_takeBoth 12 = .ok (.iload_n 2, 1) := by decide +kernel
theorem d_House_takeBoth_13 : decode b_House_takeBoth 13 = .ok (.bipush 100, 2) := by decide +kernel
theorem d_House_takeBoth_15 : decode b_House_takeBoth 15 = .ok (.if_icmp .ge 34, 3) := by decide +kernel
theorem d_House_takeBoth_18 : decode b_House_takeBoth 18 = .ok (.aload_n 0, 1) := by decide +kernel
theorem d_House_takeBoth_19 : decode b_House_takeBoth 19 = .ok (.bipush 38, 2) := by decide +kernel
theorem d_House_takeBoth_21 : decode b_House_takeBoth 21 = .ok (.invokevirtual 62, 3) := by decide +kernel
theorem d_House_takeBoth_24 : decode b_House_takeBoth 24 = .ok (.ifCond .eq 25, 3) := by decide +kernel
theorem d_House_takeBoth_27 : decode b_House_takeBoth 27 = .ok (.aload_n 0, 1) := by decide +kernel
theorem d_House_takeBoth_28 : decode b_House_takeBoth 28 = .ok (.iload_n 1, 1) := by decide +kernel
theorem d_House_takeBoth_29 : decode b_House_takeBoth 29 = .ok (.invokevirtual 117, 3) := by decide +kernel
theorem d_House_takeBoth_32 : decode b_House_takeBoth 32 = .ok (.ifCond .ne 5, 3) := by decide +kernel
theorem d_House_takeBoth_35 : decode b_House_takeBoth 35 = .ok (.iconst 0, 1) := by decide +kernel
theorem d_House_takeBoth_36 : decode b_House_takeBoth 36 = .ok (.ireturn, 1) := by decide +kernel
theorem d_House_takeBoth_37 : decode b_House_takeBoth 37 = .ok (.aload_n 0, 1) := by decide +kernel
theorem d_House_takeBoth_38 : decode b_House_takeBoth 38 = .ok (.bipush (-2), 2) := by decide +kernel
theorem d_House_takeBoth_40 : decode b_House_takeBoth 40 = .ok (.invokevirtual 113, 3) := by decide +kernel
theorem d_House_takeBoth_43 : decode b_House_takeBoth 43 = .ok (.iinc 2 1, 3) := by decide +kernel
theorem d_House_takeBoth_46 : decode b_House_takeBoth 46 = .ok (.goto (-34), 3) := by decide +kernel
theorem d_House_takeBoth_49 : decode b_House_takeBoth 49 = .ok (.iconst 1, 1) := by decide +kernel
theorem d_House_takeBoth_50 : decode b_House_takeBoth 50 = .ok (.ireturn, 1) := by decide +kernel
theorem d_House_takeSingle_0 : decode b_House_takeSingle 0 = .ok (.iload_n 1, 1) := by decide +kernel
theorem d_House_takeSingle_1 : decode b_House_takeSingle 1 = .ok (.iconst 5, 1) := by decide +kernel
theorem d_House_takeSingle_2 : decode b_House_takeSingle 2 = .ok (.if_icmp .ge 31, 3) := by decide +kernel
theorem d_House_takeSingle_5 : decode b_House_takeSingle 5 = .ok (.aload_n 0, 1) := by decide +kernel
theorem d_House_takeSingle_6 : decode b_House_takeSingle 6 = .ok (.bipush 33, 2) := by decide +kernel
theorem d_House_takeSingle_8 : decode b_House_takeSingle 8 = .ok (.invokevirtual 62, 3) := by decide +kernel
theorem d_House_takeSingle_11 : decode b_House_takeSingle 11 = .ok (.ifCond .eq 22, 3) := by decide +kernel
theorem d_House_takeSingle_14 : decode b_House_takeSingle 14 = .ok (.aload_n 0, 1) := by decide +kernel
theorem d_House_takeSingle_15 : decode b_House_takeSingle 15 = .ok (.iload_n 1, 1) := by decide +kernel
theorem d_House_takeSingle_16 : decode b_House_takeSingle 16 = .ok (.iconst 1, 1) := by decide +kernel
theorem d_House_takeSingle_17 : decode b_House_takeSingle 17 = .ok (.iadd, 1) := by decide +kernel
theorem d_House_takeSingle_18 : decode b_House_takeSingle 18 = .ok (.invokevirtual 117, 3) := by decide +kernel
theorem d_House_takeSingle_21 : decode b_House_takeSingle 21 = .ok (.ifCond .ne 5, 3) := by decide +kernel
theorem d_House_takeSingle_24 : decode b_House_takeSingle 24 = .ok (.iconst 0, 1) := by decide +kernel
theorem d_House_takeSingle_25 : decode b_House_takeSingle 25 = .ok (.ireturn, 1) := by decide +kernel
theorem d_House_takeSingle_26 : decode b_House_takeSingle 26 = .ok (.aload_n 0, 1) := by decide +kernel
theorem d_House_takeSingle_27 : decode b_House_takeSingle 27 = .ok (.iconst (-1), 1) := by decide +kernel
theorem d_House_takeSingle_28 : decode b_House_takeSingle 28 = .ok (.invokevirtual 113, 3) := by decide +kernel
theorem d_House_takeSingle_31 : decode b_House_takeSingle 31 = .ok (.iconst 1, 1) := by decide +kernel
theorem d_House_takeSingle_32 : decode b_House_takeSingle 32 = .ok (.ireturn, 1) := by decide +kernel
theorem d_House_takeSingle_33 : decode b_House_takeSingle 33 = .ok (.iload_n 1, 1) := by decide +kernel
theorem d_House_takeSingle_34 : decode b_House_takeSingle 34 = .ok (.iconst 5, 1) := by decide +kernel
theorem d_House_takeSingle_35 : decode b_House_takeSingle 35 = .ok (.if_icmp .ge 37, 3) := by decide +kernel
theorem d_House_takeSingle_38 : decode b_House_takeSingle 38 = .ok (.aload_n 0, 1) := by decide +kernel
theorem d_House_takeSingle_39 : decode b_House_takeSingle 39 = .ok (.bipush 40, 2) := by decide +kernel
theorem d_House_takeSingle_41 : decode b_House_takeSingle 41 = .ok (.invokevirtual 62, 3) := by decide +kernel
theorem d_House_takeSingle_44 : decode b_House_takeSingle 44 = .ok (.ifCond .eq 28, 3) := by decide +kernel
theorem d_House_takeSingle_47 : decode b_House_takeSingle 47 = .ok (.aload_n 0, 1) := by decide +kernel
theorem d_House_takeSingle_48 : decode b_House_takeSingle 48 = .ok (.iload_n 1, 1) := by decide +kernel
theorem d_House_takeSingle_49 : decode b_House_takeSingle 49 = .ok (.iconst 1, 1) := by decide +kernel
theorem d_House_takeSingle_50 : decode b_House_takeSingle 50 = .ok (.iadd, 1) := by decide +kernel
theorem d_House_takeSingle_51 : decode b_House_takeSingle 51 = .ok (.invokevirtual 104, 3) := by decide +kernel
theorem d_House_takeSingle_54 : decode b_House_takeSingle 54 = .ok (.ifCond .eq 16, 3) := by decide +kernel
theorem d_House_takeSingle_57 : decode b_House_takeSingle 57 = .ok (.aload_n 0, 1) := by decide +kernel
theorem d_House_takeSingle_58 : decode b_House_takeSingle 58 = .ok (.bipush 41, 2) := by decide +kernel
theorem d_House_takeSingle_60 : decode b_House_takeSingle 60 = .ok (.invokevirtual 62, 3) := by decide +kernel
theorem d_House_takeSingle_63 : decode b_House_takeSingle 63 = .ok (.ifCond .eq 7, 3) := by decide +kernel
theorem d_House_takeSingle_66 : decode b_House_takeSingle 66 = .ok (.iconst 1, 1) := by decide +kernel
theorem d_House_takeSingle_67 : decode b_House_takeSingle 67 = .ok (.goto 4, 3) := by decide +kernel
theorem d_House_takeSingle_70 : decode b_House_takeSingle 70 = .ok (.iconst 0, 1) := by decide +kernel
theorem d_House_takeSingle_71 : decode b_House_takeSingle 71 = .ok (.ireturn, 1) := by decide +kernel
theorem d_House_takeSingle_72 : decode b_House_takeSingle 72 = .ok (.aload_n 0, 1) := by decide +kernel
theorem d_House_takeSingle_73 : decode b_House_takeSingle 73 = .ok (.ldc 120, 2) := by decide +kernel
theorem d_House_takeSingle_75 : decode b_House_takeSingle 75 = .ok (.invokevirtual 85, 3) := by decide +kernel
theorem d_House_takeSingle_78 : decode b_House_takeSingle 78 = .ok (.istore_n 2, 1) := by decide +kernel
theorem d_House_takeSingle_79 : decode b_House_takeSingle 79 = .ok (.iload_n 2, 1) := by decide +kernel
theorem d_House_takeSingle_80 : decode b_House_takeSingle 80 = .ok (.ifCond .ge 5, 3) := by decide +kernel
theorem d_House_takeSingle_83 : decode b_House_takeSingle 83 = .ok (.iconst 0, 1) := by decide +kernel
theorem d_House_takeSingle_84 : decode b_House_takeSingle 84 = .ok (.ireturn, 1) := by decide +kernel
theorem d_House_takeSingle_85 : decode b_House_takeSingle 85 = .ok (.aload_n 0, 1) := by decide +kernel
theorem d_House_takeSingle_86 : decode b_House_takeSingle 86 = .ok (.ldc 122, 2) := by decide +kernel
theorem d_House_takeSingle_88 : decode b_House_takeSingle 88 = .ok (.invokevirtual 85, 3) := by decide +kernel
theorem d_House_takeSingle_91 : decode b_House_takeSingle 91 = .ok (.istore_n 3, 1) := by decide +kernel
theorem d_House_takeSingle_92 : decode b_House_takeSingle 92 = .ok (.iload_n 3, 1) := by decide +kernel
theorem d_House_takeSingle_93 : decode b_House_takeSingle 93 = .ok (.ifCond .ge 5, 3) := by decide +kernel
theorem d_House_takeSingle_96 : decode b_House_takeSingle 96 = .ok (.iconst 0, 1) := by decide +kernel
theorem d_House_takeSingle_97 : decode b_House_takeSingle 97 = .ok (.ireturn, 1) := by decide +kernel
theorem d_House_takeSingle_98 : decode b_House_takeSingle 98 = .ok (.aload_n 0, 1) := by decide +kernel
theorem d_House_takeSingle_99 : decode b_House_takeSingle 99 = .ok (.invokevirtual 101, 3) := by decide +kernel
theorem d_House_takeSingle_102 : decode b_House_takeSingle 102 = .ok (.istore 4, 2) := by decide +kernel
theorem d_House_takeSingle_104 : decode b_House_takeSingle 104 = .ok (.iload 4, 2) := by decide +kernel
theorem d_House_takeSingle_106 : decode b_House_takeSingle 106 = .ok (.ifCond .ge 5, 3) := by decide +kernel
theorem d_House_takeSingle_109 : decode b_House_takeSingle 109 = .ok (.iconst 0, 1) := by decide +kernel
theorem d_House_takeSingle_110 : decode b_House_takeSingle 110 = .ok (.ireturn, 1) := by decide +kernel
theorem d_House_takeSingle_111 : decode b_House_takeSingle 111 = .ok (.aload_n 0, 1) := by decide +kernel
theorem d_House_takeSingle_112 : decode b_House_takeSingle 112 = .ok (.iload_n 2, 1) := by decide +kernel
theorem d_House_takeSingle_113 : decode b_House_takeSingle 113 = .ok (.sipush 300, 3) := by decide +kernel
theorem d_House_takeSingle_116 : decode b_House_takeSingle 116 = .ok (.imul, 1) := by decide +kernel
theorem d_House_takeSingle_117 : decode b_House_takeSingle 117 = .ok (.iload_n 3, 1) := by decide +kernel
theorem d_House_takeSingle_118 : decode b_House_takeSingle 118 = .ok (.bipush 100, 2) := by decide +kernel
theorem d_House_takeSingle_120 : decode b_House_takeSingle 120 = .ok (.imul, 1) := by decide +kernel
theorem d_House_takeSingle_121 : decode b_House_takeSingle 121 = .ok (.iadd, 1) := by decide +kernel
theorem d_House_takeSingle_122 : decode b_House_takeSingle 122 = .ok (.iload 4, 2) := by decide +kernel
theorem d_House_takeSingle_124 : decode b_House_takeSingle 124 = .ok (.iadd, 1) := by decide +kernel
theorem d_House_takeSingle_125 : decode b_House_takeSingle 125 = .ok (.invokevirtual 113, 3) := by decide +kernel
theorem d_House_takeSingle_128 : decode b_House_takeSingle 128 = .ok (.iconst 1, 1) := by decide +kernel
theorem d_House_takeSingle_129 : decode b_House_takeSingle 129 = .ok (.ireturn, 1) := by decide +kernel
theorem d_House_put_0 : decode b_House_put 0 = .ok (.aload_n 0, 1) := by decide +kernel
theorem d_House_put_1 : decode b_House_put 1 = .ok (.getfield 31, 3) := by decide +kernel
theorem d_House_put_4 : decode b_House_put 4 = .ok (.bipush 100, 2) := by decide +kernel
theorem d_House_put_6 : decode b_House_put 6 = .ok (.if_icmp .lt 4, 3) := by decide +kernel
theorem d_House_put_9 : decode b_House_put 9 = .ok (.return_, 1) := by decide +kernel
theorem d_House_put_10 : decode b_House_put 10 = .ok (.aload_n 0, 1) := by decide +kernel
theorem d_House_put_11 : decode b_House_put 11 = .ok (.getfield 28, 3) := by decide +kernel
theorem d_House_put_14 : decode b_House_put 14 = .ok (.aload_n 0, 1) := by decide +kernel
theorem d_House_put_15 : decode b_House_put 15 = .ok (.getfield 31, 3) := by decide +kernel
theorem d_House_put_18 : decode b_House_put 18 = .ok (.iload_n 1, 1) := by decide +kernel
theorem d_House_put_19 : decode b_House_put 19 = .ok (.iastore, 1) := by decide +kernel
theorem d_House_put_20 : decode b_House_put 20 = .ok (.aload_n 0, 1) := by decide +kernel
theorem d_House_put_21 : decode b_House_put 21 = .ok (.dup, 1) := by decide +kernel
theorem d_House_put_22 : decode b_House_put 22 = .ok (.getfield 31, 3) := by decide +kernel
theorem d_House_put_25 : decode b_House_put 25 = .ok (.iconst 1, 1) := by decide +kernel
theorem d_House_put_26 : decode b_House_put 26 = .ok (.iadd, 1) := by decide +kernel
theorem d_House_put_27 : decode b_House_put 27 = .ok (.putfield 31, 3) := by decide +kernel
theorem d_House_put_30 : decode b_House_put 30 = .ok (.return_, 1) := by decide +kernel
def B_House_init (X : WX) (d : Nat) : ST := (sSeq (sObj (xr 0)) (sSeq (sput [3] 0 (xr 0) (xc 3)) (sSeq (sput [3] 1 (xr 0) (xc 1)) (sSeq (sputR [3] 2 (xr 0) (xNewI X (rmOf (d + 1) 5 126) (xc 10))) (sSeq (sputR [3] 3 (xr 0) (xNewI X (rmOf (d + 1) 5 126) (xc 10))) (sSeq (sput [3] 4 (xr 0) (xc 0)) (sSeq (sputR [3] 5 (xr 0) (xNewI X (rmOf (d + 1) 5 126) (xc 100))) (sSeq (sput [3] 6 (xr 0) (xc 0)) (sSeq (sputR [3] 7 (xr 0) (xNewI X (rmOf (d + 1) 5 126) (xc 6))) (sSeq (sputR [3] 8 (xr 0) (xNewI X (rmOf (d + 1) 5 126) (xc 0))) (sSeq (sput [3] 9 (xr 0) (xc 0)) (sSeq (sput [3] 10 (xr 0) (xc 0)) sRet))))))))))))
set_option maxHeartbeats 4000000 in
set_option maxRecDepth 20000 in
theorem F_House_init (X : WX) (d : Nat) : FS X "FastClock$House" b_House_init 1 (none) true (rmOf (d + 1) 5 126) 0 74 0 0 (B_House_init X d) :=
  (s_seq (s_obj (r_aload_n d_House_init_0 rfl) (tg 165 (by decide +kernel) rfl) (Nat.le_add_left 1 _) (loc_of (by decide)) d_House_init_1) (s_seq (s_put (r_aload_n d_House_init_4 rfl) (r_iconst d_House_init_5 (by decide)) Pi_House_9 d_House_init_6) (s_seq (s_put (r_aload_n d_House_init_9 rfl) (r_iconst d_House_init_10 (by decide)) Pi_House_15 d_House_init_11) (s_seq (s_putR (Or.inr ⟨_, rfl⟩) (r_aload_n d_House_init_14 rfl) (r_newI (r_bipush d_House_init_15 (by decide)) d_House_init_17) Pi_House_18 d_House_init_19) (s_seq (s_putR (Or.inr ⟨_, rfl⟩) (r_aload_n d_House_init_22 rfl) (r_newI (r_bipush d_House_init_23 (by decide)) d_House_init_25) Pi_House_22 d_House_init_27) (s_seq (s_put (r_aload_n d_House_init_30 rfl) (r_iconst d_House_init_31 (by decide)) Pi_House_25 d_House_init_32) (s_seq (s_putR (Or.inr ⟨_, rfl⟩) (r_aload_n d_House_init_35 rfl) (r_newI (r_bipush d_House_init_36 (by decide)) d_House_init_38) Pi_House_28 d_House_init_40) (s_seq (s_put (r_aload_n d_House_init_43 rfl) (r_iconst d_House_init_44 (by decide)) Pi_House_31 d_House_init_45) (s_seq (s_putR (Or.inr ⟨_, rfl⟩) (r_aload_n d_House_init_48 rfl) (r_newI (r_bipush d_House_init_49 (by decide)) d_House_init_51) Pi_House_34 d_House_init_53) (s_seq (s_putR (Or.inr ⟨_, rfl⟩) (r_aload_n d_House_init_56 rfl) (r_newI (r_iconst d_House_init_57 (by decide)) d_House_init_58) Pi_House_37 d_House_init_60) (s_seq (s_put (r_aload_n d_House_init_63 rfl) (r_iconst d_House_init_64 (by decide)) Pi_House_40 d_House_init_65) (s_seq (s_put (r_aload_n d_House_init_68 rfl) (r_iconst d_House_init_69 (by decide)) Pi_House_43 d_House_init_70) (s_ret rfl d_House_init_73)))))))))))))
def B_House_costOf (X : WX) (d : Nat) : ST := (sRetI (xite (cGt0 (xi 1)) (xmul (xi 1) (xg [3] 0 (xr 0))) (xmul (xneg (xi 1)) (xg [3] 1 (xr 0)))))
set_option maxHeartbeats 4000000 in
set_option maxRecDepth 20000 in
theorem F_House_costOf (X : WX) (d : Nat) : FS X "FastClock$House" b_House_costOf 2 (some .int) false (rmOf (d + 1) 0 0) 0 21 0 0 (B_House_costOf X d) :=
  (s_retI (r_itea (c_gt0_f (r_iload_n d_House_costOf_0 rfl) d_House_costOf_1 (by decide)) (f2 (r_mul (r_iload_n d_House_costOf_4 rfl) (r_g (r_aload_n d_House_costOf_5 rfl) G_House_9 d_House_costOf_6) d_House_costOf_9)) d_House_costOf_10 (by decide) (r_mul (r_neg (r_iload_n d_House_costOf_13 rfl) d_House_costOf_14) (r_g (r_aload_n d_House_costOf_15 rfl) G_House_15 d_House_costOf_16) d_House_costOf_19)) rfl d_House_costOf_20)
def L_House_marginOf_1 (X : WX) (d : Nat) : ST := (sSeq (sIf (cNot (cEq0 (kI (kV X M_House_holds d 3 (xr 0) (aC (vI (xi 6)) (aC (vI (xald X (xgR [3] 3 (xr 0)) (xi 7))) aN)))))) (sI 5 (xadd (xi 5) (xald X (xgR [3] 2 (xr 0)) (xi 7)))) sSkip) (sI 6 (xald X (xgR [3] 3 (xr 0)) (xi 7))))
def B_House_marginOf (X : WX) (d : Nat) : ST := (sSeq (sast X (xgR [3] 7 (xr 0)) (xc 0) (xg [4, 5, 6, 7, 8, 9, 10] 0 (xr 1))) (sSeq (sast X (xgR [3] 7 (xr 0)) (xc 1) (kI (kD X TG_Person_kind d (xr 1) aN))) (sSeq (sast X (xgR [3] 7 (xr 0)) (xc 2) (xg [4, 5, 6, 7, 8, 9, 10] 1 (xr 1))) (sSeq (sast X (xgR [3] 7 (xr 0)) (xc 3) (xi 2)) (sSeq (sast X (xgR [3] 7 (xr 0)) (xc 4) (xi 3)) (sSeq (sast X (xgR [3] 7 (xr 0)) (xc 5) (xi 4)) (sSeq (sI 5 (xc 0)) (sSeq (sI 6 (xc 0)) (sSeq (sI 7 (xc 0)) (sSeq (sFor (cLt (xi 7) (xg [3] 4 (xr 0))) (L_House_marginOf_1 X d) (sInc 7 1)) (sRetI (xi 5))))))))))))
set_option maxHeartbeats 4000000 in
set_option maxRecDepth 20000 in
theorem F_House_marginOf (X : WX) (d : Nat) : FS X "FastClock$House" b_House_marginOf 8 (some .int) false (rmOf (d + 1) 0 0) 0 116 0 0 (B_House_marginOf X d) :=
  (s_seq (s_ast (r_gR (r_aload_n d_House_marginOf_0 rfl) G_House_34 d_House_marginOf_1) (r_iconst d_House_marginOf_4 (by decide)) (r_g (r_aload_n d_House_marginOf_5 rfl) G_House_46 d_House_marginOf_6) d_House_marginOf_9) (s_seq (s_ast (r_gR (r_aload_n d_House_marginOf_10 rfl) G_House_34 d_House_marginOf_11) (r_iconst d_House_marginOf_14 (by decide)) (k_I (k_D (r_aload_n d_House_marginOf_15 rfl) a_N D_House_51 (by decide) (Nat.le_refl _) (tg_loc (by decide)) d_House_marginOf_16)) d_House_marginOf_19) (s_seq (s_ast (r_gR (r_aload_n d_House_marginOf_20 rfl) G_House_34 d_House_marginOf_21) (r_iconst d_House_marginOf_24 (by decide)) (r_g (r_aload_n d_House_marginOf_25 rfl) G_House_55 d_House_marginOf_26) d_House_marginOf_29) (s_seq (s_ast (r_gR (r_aload_n d_House_marginOf_30 rfl) G_House_34 d_House_marginOf_31) (r_iconst d_House_marginOf_34 (by decide)) (r_iload_n d_House_marginOf_35 rfl) d_House_marginOf_36) (s_seq (s_ast (r_gR (r_aload_n d_House_marginOf_37 rfl) G_House_34 d_House_marginOf_38) (r_iconst d_House_marginOf_41 (by decide)) (r_iload_n d_House_marginOf_42 rfl) d_House_marginOf_43) (s_seq (s_ast (r_gR (r_aload_n d_House_marginOf_44 rfl) G_House_34 d_House_marginOf_45) (r_iconst d_House_marginOf_48 (by decide)) (r_iload d_House_marginOf_49) d_House_marginOf_51) (s_seq (s_I (r_iconst d_House_marginOf_52 (by decide)) (by decide) d_House_marginOf_53) (s_seq (s_I (r_iconst d_House_marginOf_55 (by decide)) (by decide) d_House_marginOf_56) (s_seq (s_I (r_iconst d_House_marginOf_58 (by decide)) (by decide) d_House_marginOf_59) (s_seq (s_for (x1 := 0) (x2 := 0) (c_lt_f (r_iload d_House_marginOf_61) (r_g (r_aload_n d_House_marginOf_63 rfl) G_House_25 d_House_marginOf_64) d_House_marginOf_67 (by decide)) (s_seq (s_if (c_not (c_eq0_t (k_I (k_V (r_aload_n d_House_marginOf_70 rfl) (a_C (v_I (r_iload d_House_marginOf_71)) (a_C (v_I (r_ald (r_gR (r_aload_n d_House_marginOf_73 rfl) G_House_22 d_House_marginOf_74) (r_iload d_House_marginOf_77) d_House_marginOf_79)) a_N)) V_House_58 (by decide) (Nat.le_refl _) (rm_loc (by decide)) d_House_marginOf_80)) d_House_marginOf_83 (by decide))) (s_I (r_add (r_iload d_House_marginOf_86) (r_ald (r_gR (r_aload_n d_House_marginOf_88 rfl) G_House_18 d_House_marginOf_89) (r_iload d_House_marginOf_92) d_House_marginOf_94) d_House_marginOf_95) (by decide) d_House_marginOf_96) s_skip) (s_I (r_ald (r_gR (r_aload_n d_House_marginOf_98 rfl) G_House_22 d_House_marginOf_99) (r_iload d_House_marginOf_102) d_House_marginOf_104) (by decide) d_House_marginOf_105)) (s_inc (by decide) d_House_marginOf_107 (by decide)) d_House_marginOf_110 (by decide)) (s_retI (r_iload d_House_marginOf_113) rfl d_House_marginOf_115)))))))))))
def L_House_holds_1 (X : WX) (d : Nat) : ST := (sSeq (sI 5 (xald X (xgR [3] 5 (xr 0)) (xi 4))) (sIf (cEq (xi 5) (xc (-1))) (sI 3 (xxor (xi 3) (xc 1))) (sIf (cEq (xi 5) (xc (-2))) (sI 3 (xand (xshr (xi 3) (xc 1)) (xor (xi 3) (xc (-2))))) (sIf (cEq (xi 5) (xc (-3))) (sI 3 (xor (xshr (xi 3) (xc 1)) (xand (xi 3) (xc 1)))) (sSeq (sI 6 (xald X (xgR [3] 7 (xr 0)) (xdiv (xi 5) (xc 300)))) (sSeq (sI 7 (xrem (xdiv (xi 5) (xc 100)) (xc 3))) (sSeq (sI 8 (xrem (xi 5) (xc 100))) (sSeq (sI 9 (xite (cEq0 (xi 7)) (xofC (cLt (xi 6) (xi 8))) (xite (cEq (xi 7) (xc 1)) (xofC (cEq (xi 6) (xi 8))) (xofC (cGt (xi 6) (xi 8)))))) (sI 3 (xor (xshl (xi 3) (xc 1)) (xite (cNot (cEq0 (xi 9))) (xc 1) (xc 0))))))))))))
def B_House_holds (X : WX) (d : Nat) : ST := (sSeq (sI 3 (xc 0)) (sSeq (sI 4 (xi 1)) (sSeq (sFor (cLt (xi 4) (xi 2)) (L_House_holds_1 X d) (sInc 4 1)) (sRetZ (xofC (cEq (xand (xi 3) (xc 1)) (xc 1)))))))
set_option maxHeartbeats 4000000 in
set_option maxRecDepth 20000 in
theorem F_House_holds (X : WX) (d : Nat) : FS X "FastClock$House" b_House_holds 10 (some .boolean) false (rmOf (d + 1) 0 0) 0 188 0 0 (B_House_holds X d) :=
  (s_seq (s_I_n (r_iconst d_House_holds_0 (by decide)) (by decide) d_House_holds_1 rfl) (s_seq (s_I (r_iload_n d_House_holds_2 rfl) (by decide) d_House_holds_3) (s_seq (s_for (x1 := 0) (x2 := 0) (c_lt_f (r_iload d_House_holds_5) (r_iload_n d_House_holds_7 rfl) d_House_holds_8 (by decide)) (s_seq (s_I (r_ald (r_gR (r_aload_n d_House_holds_11 rfl) G_House_28 d_House_holds_12) (r_iload d_House_holds_15) d_House_holds_17) (by decide) d_House_holds_18) (s_if (c_eq_f (r_iload d_House_holds_20) (r_iconst d_House_holds_22 (by decide)) d_House_holds_23 (by decide)) (s_goto (s_I_n (r_xor (r_iload_n d_House_holds_26 rfl) (r_iconst d_House_holds_27 (by decide)) d_House_holds_28) (by decide) d_House_holds_29 rfl) d_House_holds_30 (by decide)) (s_if (c_eq_f (r_iload d_House_holds_33) (r_bipush d_House_holds_35 (by decide)) d_House_holds_37 (by decide)) (s_goto (s_I_n (r_and (r_shr (r_iload_n d_House_holds_40 rfl) (r_iconst d_House_holds_41 (by decide)) d_House_holds_42) (r_or (r_iload_n d_House_holds_43 rfl) (r_bipush d_House_holds_44 (by decide)) d_House_holds_46) d_House_holds_47) (by decide) d_House_holds_48 rfl) d_House_holds_49 (by decide)) (s_if (c_eq_f (r_iload d_House_holds_52) (r_bipush d_House_holds_54 (by decide)) d_House_holds_56 (by decide)) (s_goto (s_I_n (r_or (r_shr (r_iload_n d_House_holds_59 rfl) (r_iconst d_House_holds_60 (by decide)) d_House_holds_61) (r_and (r_iload_n d_House_holds_62 rfl) (r_iconst d_House_holds_63 (by decide)) d_House_holds_64) d_House_holds_65) (by decide) d_House_holds_66 rfl) d_House_holds_67 (by decide)) (s_seq (s_I (r_ald (r_gR (r_aload_n d_House_holds_70 rfl) G_House_34 d_House_holds_71) (r_div (r_iload d_House_holds_74) (r_sipush d_House_holds_76 (by decide)) d_House_holds_79) d_House_holds_80) (by decide) d_House_holds_81) (s_seq (s_I (r_rem (r_div (r_iload d_House_holds_83) (r_bipush d_House_holds_85 (by decide)) d_House_holds_87) (r_iconst d_House_holds_88 (by decide)) d_House_holds_89) (by decide) d_House_holds_90) (s_seq (s_I (r_rem (r_iload d_House_holds_92) (r_bipush d_House_holds_94 (by decide)) d_House_holds_96) (by decide) d_House_holds_97) (s_seq (s_I (r_itea (c_eq0_f (r_iload d_House_holds_99) d_House_holds_101 (by decide)) (r_ofC2 (c_lt_f (r_iload d_House_holds_104) (r_iload d_House_holds_106) d_House_holds_108 (by decide)) d_House_holds_111 d_House_holds_112 (by decide) d_House_holds_115) d_House_holds_116 (by decide) (r_itea (c_eq_f (r_iload d_House_holds_119) (r_iconst d_House_holds_121 (by decide)) d_House_holds_122 (by decide)) (r_ofC2 (c_eq_f (r_iload d_House_holds_125) (r_iload d_House_holds_127) d_House_holds_129 (by decide)) d_House_holds_132 d_House_holds_133 (by decide) d_House_holds_136) d_House_holds_137 (by decide) (r_ofC (c_gt_f (r_iload d_House_holds_140) (r_iload d_House_holds_142) d_House_holds_144 (by decide)) d_House_holds_147 d_House_holds_148 (by decide) d_House_holds_151))) (by decide) d_House_holds_152) (s_I_n (r_or (r_shl (r_iload_n d_House_holds_154 rfl) (r_iconst d_House_holds_155 (by decide)) d_House_holds_156) (r_itea (c_not (c_eq0_t (r_iload d_House_holds_157) d_House_holds_159 (by decide))) (f2 (r_iconst d_House_holds_162 (by decide))) d_House_holds_163 (by decide) (r_iconst d_House_holds_166 (by decide))) d_House_holds_167) (by decide) d_House_holds_168 rfl))))))))) (s_inc (by decide) d_House_holds_169 (by decide)) d_House_holds_172 (by decide)) (s_retZ (r_ofC (c_eq_f (r_and (r_iload_n d_House_holds_175 rfl) (r_iconst d_House_holds_176 (by decide)) d_House_holds_177) (r_iconst d_House_holds_178 (by decide)) d_House_holds_179 (by decide)) d_House_holds_182 d_House_holds_183 (by decide) d_House_holds_186) rfl d_House_holds_187))))
def L_House_readFrom_1 (X : WX) (d : Nat) : ST := (sSeq (sIf (cAnd (cGt0 (xi 3)) (cNot (cNot (cEq0 (kI (kV X M_House_take d 3 (xr 0) (aC (vI (xc 59)) aN))))))) (sRetI (xg [3] 10 (xr 0))) sSkip) (sSeq (sIf (cNot (cNot (cEq0 (kI (kV X M_House_takeClause d 3 (xr 0) aN))))) (sRetI (xg [3] 10 (xr 0))) sSkip) (sIf (cNot (cLt (xg [3] 10 (xr 0)) (xg [3] 9 (xr 0)))) (sRetI (xc (-1))) sSkip)))
def B_House_readFrom (X : WX) (d : Nat) : ST := (sSeq (sputR [3] 8 (xr 0) (xr 1)) (sSeq (sput [3] 9 (xr 0) (xi 2)) (sSeq (sI 3 (xc 0)) (sSeq (sFor (cLt (xi 3) (xc 10)) (L_House_readFrom_1 X d) (sInc 3 1)) (sRetI (xg [3] 10 (xr 0)))))))
set_option maxHeartbeats 4000000 in
set_option maxRecDepth 20000 in
theorem F_House_readFrom (X : WX) (d : Nat) : FS X "FastClock$House" b_House_readFrom 4 (some .int) false (rmOf (d + 1) 0 0) 0 72 0 0 (B_House_readFrom X d) :=
  (s_seq (s_putR (Or.inr ⟨_, rfl⟩) (r_aload_n d_House_readFrom_0 rfl) (r_aload_n d_House_readFrom_1 rfl) P_House_37 d_House_readFrom_2) (s_seq (s_put (r_aload_n d_House_readFrom_5 rfl) (r_iload_n d_House_readFrom_6 rfl) P_House_40 d_House_readFrom_7) (s_seq (s_I_n (r_iconst d_House_readFrom_10 (by decide)) (by decide) d_House_readFrom_11 rfl) (s_seq (s_for (x1 := 0) (x2 := 0) (c_lt_f (r_iload_n d_House_readFrom_12 rfl) (r_bipush d_House_readFrom_13 (by decide)) d_House_readFrom_15 (by decide)) (s_seq (s_if (c_and (c_gt0_f (r_iload_n d_House_readFrom_18 rfl) d_House_readFrom_19 (by decide)) (c_not (c_not (c_eq0_f (k_I (k_V (r_aload_n d_House_readFrom_22 rfl) (a_C (v_I (r_bipush d_House_readFrom_23 (by decide))) a_N) V_House_62 (by decide) (Nat.le_refl _) (rm_loc (by decide)) d_House_readFrom_25)) d_House_readFrom_28 (by decide))))) (s_retI (r_g (r_aload_n d_House_readFrom_31 rfl) G_House_43 d_House_readFrom_32) rfl d_House_readFrom_35) s_skip) (s_seq (s_if (c_not (c_not (c_eq0_f (k_I (k_V (r_aload_n d_House_readFrom_36 rfl) a_N V_House_66 (by decide) (Nat.le_refl _) (rm_loc (by decide)) d_House_readFrom_37)) d_House_readFrom_40 (by decide)))) (s_retI (r_g (r_aload_n d_House_readFrom_43 rfl) G_House_43 d_House_readFrom_44) rfl d_House_readFrom_47) s_skip) (s_if (c_not (c_lt_t (r_g (r_aload_n d_House_readFrom_48 rfl) G_House_43 d_House_readFrom_49) (r_g (r_aload_n d_House_readFrom_52 rfl) G_House_40 d_House_readFrom_53) d_House_readFrom_56 (by decide))) (s_retI (r_iconst d_House_readFrom_59 (by decide)) rfl d_House_readFrom_60) s_skip))) (s_inc (by decide) d_House_readFrom_61 (by decide)) d_House_readFrom_64 (by decide)) (s_retI (r_g (r_aload_n d_House_readFrom_67 rfl) G_House_43 d_House_readFrom_68) rfl d_House_readFrom_71)))))
def B_House_take (X : WX) (d : Nat) : ST := (sSeq (sIf (cOr (cNot (cLt (xg [3] 10 (xr 0)) (xg [3] 9 (xr 0)))) (cNot (cEq (xald X (xgR [3] 8 (xr 0)) (xg [3] 10 (xr 0))) (xi 1)))) (sRetZ (xc 0)) sSkip) (sSeq (sputC [3] 10 (fun x y => x + y) (xr 0) (xc 1)) (sRetZ (xc 1))))
set_option maxHeartbeats 4000000 in
set_option maxRecDepth 20000 in
theorem F_House_take (X : WX) (d : Nat) : FS X "FastClock$House" b_House_take 2 (some .boolean) false (rmOf (d + 1) 0 0) 0 38 0 0 (B_House_take X d) :=
  (s_seq (s_if (c_or (c_not (c_lt_f (r_g (r_aload_n d_House_take_0 rfl) G_House_43 d_House_take_1) (r_g (r_aload_n d_House_take_4 rfl) G_House_40 d_House_take_5) d_House_take_8 (by decide))) (c_not (c_eq_t (r_ald (r_gR (r_aload_n d_House_take_11 rfl) G_House_37 d_House_take_12) (r_g (r_aload_n d_House_take_15 rfl) G_House_43 d_House_take_16) d_House_take_19) (r_iload_n d_House_take_20 rfl) d_House_take_21 (by decide)))) (s_retZ (r_iconst d_House_take_24 (by decide)) rfl d_House_take_25) s_skip) (s_seq (s_putC (Or.inl ⟨rfl, rfl⟩) (r_aload_n d_House_take_26 rfl) d_House_take_27 d_House_take_28 G_House_43 (r_iconst d_House_take_31 (by decide)) d_House_take_32 P_House_43 d_House_take_33) (s_retZ (r_iconst d_House_take_36 (by decide)) rfl d_House_take_37)))
def L_House_takeWord_1 (X : WX) (d : Nat) : ST := (sIf (cNot (cNot (cEq0 (kI (kV X M_House_take d 3 (xr 0) (aC (vI (kI (kT X M_JString_charAt d (xr 1) (aC (vI (xi 2)) aN)))) aN)))))) (sRetZ (xc 0)) sSkip)
def B_House_takeWord (X : WX) (d : Nat) : ST := (sSeq (sI 2 (xc 0)) (sSeq (sFor (cLt (xi 2) (kI (kT X M_JString_length d (xr 1) aN))) (L_House_takeWord_1 X d) (sInc 2 1)) (sRetZ (xc 1))))
set_option maxHeartbeats 4000000 in
set_option maxRecDepth 20000 in
theorem F_House_takeWord (X : WX) (d : Nat) : FS X "FastClock$House" b_House_takeWord 3 (some .boolean) false (rmOf (d + 1) 0 0) 0 32 0 0 (B_House_takeWord X d) :=
  (s_seq (s_I_n (r_iconst d_House_takeWord_0 (by decide)) (by decide) d_House_takeWord_1 rfl) (s_seq (s_for (x1 := 0) (x2 := 0) (c_lt_f (r_iload_n d_House_takeWord_2 rfl) (k_I (k_T (r_aload_n d_House_takeWord_3 rfl) a_N T_House_70 (by decide) (Nat.le_refl _) (rm_loc (by decide)) d_House_takeWord_4)) d_House_takeWord_7 (by decide)) (s_if (c_not (c_not (c_eq0_f (k_I (k_V (r_aload_n d_House_takeWord_10 rfl) (a_C (v_I (k_I (k_T (r_aload_n d_House_takeWord_11 rfl) (a_C (v_I (r_iload_n d_House_takeWord_12 rfl)) a_N) T_House_75 (by decide) (Nat.le_refl _) (rm_loc (by decide)) d_House_takeWord_13))) a_N) V_House_62 (by decide) (Nat.le_refl _) (rm_loc (by decide)) d_House_takeWord_16)) d_House_takeWord_19 (by decide)))) (s_retZ (r_iconst d_House_takeWord_22 (by decide)) rfl d_House_takeWord_23) s_skip) (s_inc (by decide) d_House_takeWord_24 (by decide)) d_House_takeWord_27 (by decide)) (s_retZ (r_iconst d_House_takeWord_30 (by decide)) rfl d_House_takeWord_31)))
def B_House_takeOneOf (X : WX) (d : Nat) : ST := (sSeq (sIf (cNot (cLt (xg [3] 10 (xr 0)) (xg [3] 9 (xr 0)))) (sRetI (xc (-1))) sSkip) (sSeq (sI 2 (kI (kT X M_JString_indexOf d (xr 1) (aC (vI (xi2c (xald X (xgR [3] 8 (xr 0)) (xg [3] 10 (xr 0))))) aN)))) (sSeq (sIf (cNot (cLt0 (xi 2))) (sputC [3] 10 (fun x y => x + y) (xr 0) (xc 1)) sSkip) (sRetI (xi 2)))))
set_option maxHeartbeats 4000000 in
set_option maxRecDepth 20000 in
theorem F_House_takeOneOf (X : WX) (d : Nat) : FS X "FastClock$House" b_House_takeOneOf 3 (some .int) false (rmOf (d + 1) 0 0) 0 44 0 0 (B_House_takeOneOf X d) :=
  (s_seq (s_if (c_not (c_lt_t (r_g (r_aload_n d_House_takeOneOf_0 rfl) G_House_43 d_House_takeOneOf_1) (r_g (r_aload_n d_House_takeOneOf_4 rfl) G_House_40 d_House_takeOneOf_5) d_House_takeOneOf_8 (by decide))) (s_retI (r_iconst d_House_takeOneOf_11 (by decide)) rfl d_House_takeOneOf_12) s_skip) (s_seq (s_I_n (k_I (k_T (r_aload_n d_House_takeOneOf_13 rfl) (a_C (v_I (r_i2c (r_ald (r_gR (r_aload_n d_House_takeOneOf_14 rfl) G_House_37 d_House_takeOneOf_15) (r_g (r_aload_n d_House_takeOneOf_18 rfl) G_House_43 d_House_takeOneOf_19) d_House_takeOneOf_22) d_House_takeOneOf_23)) a_N) T_House_79 (by decide) (Nat.le_refl _) (rm_loc (by decide)) d_House_takeOneOf_24)) (by decide) d_House_takeOneOf_27 rfl) (s_seq (s_if (c_not (c_lt0_t (r_iload_n d_House_takeOneOf_28 rfl) d_House_takeOneOf_29 (by decide))) (s_putC (Or.inl ⟨rfl, rfl⟩) (r_aload_n d_House_takeOneOf_32 rfl) d_House_takeOneOf_33 d_House_takeOneOf_34 G_House_43 (r_iconst d_House_takeOneOf_37 (by decide)) d_House_takeOneOf_38 P_House_43 d_House_takeOneOf_39) s_skip) (s_retI (r_iload_n d_House_takeOneOf_42 rfl) rfl d_House_takeOneOf_43))))
def B_House_takeClause (X : WX) (d : Nat) : ST := (sSeq (sI 1 (kI (kV X M_House_takeOneOf d 3 (xr 0) (aC (vR (xstr X 0)) aN)))) (sSeq (sIf (cLt0 (xi 1)) (sRetZ (xc 0)) sSkip) (sSeq (sIf (cNot (cNot (cEq0 (kI (kV X M_House_takeWord d 3 (xr 0) (aC (vR (xiter (cEq0 (xi 1)) (xstr X 1) (xiter (cEq (xi 1) (xc 1)) (xstr X 2) (xiter (cEq (xi 1) (xc 2)) (xstr X 3) (xstr X 4))))) aN)))))) (sRetZ (xc 0)) sSkip) (sSeq (sI 2 (kI (kV X M_House_takeNumber d 3 (xr 0) aN))) (sSeq (sIf (cLt0 (xi 2)) (sRetZ (xc 0)) sSkip) (sSeq (sIf (cEq0 (xi 1)) (sSeq (sput [3] 0 (xr 0) (xi 2)) (sRetZ (xc 1))) sSkip) (sSeq (sIf (cEq (xi 1) (xc 1)) (sSeq (sput [3] 1 (xr 0) (xi 2)) (sRetZ (xc 1))) sSkip) (sSeq (sIf (cOr (cNot (cNot (cEq0 (kI (kV X M_House_take d 3 (xr 0) (aC (vI (xc 32)) aN)))))) (cNot (cNot (cEq0 (kI (kV X M_House_takeEither d 3 (xr 0) (aC (vI (xc 0)) aN))))))) (sRetZ (xc 0)) sSkip) (sSeq (sIf (cLt (xg [3] 4 (xr 0)) (xc 10)) (sSeq (sast X (xgR [3] 2 (xr 0)) (xg [3] 4 (xr 0)) (xite (cEq (xi 1) (xc 2)) (xneg (xi 2)) (xi 2))) (sSeq (sast X (xgR [3] 3 (xr 0)) (xg [3] 4 (xr 0)) (xg [3] 6 (xr 0))) (sputC [3] 4 (fun x y => x + y) (xr 0) (xc 1)))) sSkip) (sRetZ (xc 1)))))))))))
set_option maxHeartbeats 4000000 in
set_option maxRecDepth 20000 in
theorem F_House_takeClause (X : WX) (d : Nat) : FS X "FastClock$House" b_House_takeClause 3 (some .boolean) false (rmOf (d + 1) 0 0) 0 160 0 0 (B_House_takeClause X d) :=
  (s_seq (s_I_n (k_I (k_V (r_aload_n d_House_takeClause_0 rfl) (a_C (v_R (r_str (i := 0) rfl rfl rfl d_House_takeClause_1)) a_N) V_House_85 (by decide) (Nat.le_refl _) (rm_loc (by decide)) d_House_takeClause_3)) (by decide) d_House_takeClause_6 rfl) (s_seq (s_if (c_lt0_f (r_iload_n d_House_takeClause_7 rfl) d_House_takeClause_8 (by decide)) (s_retZ (r_iconst d_House_takeClause_11 (by decide)) rfl d_House_takeClause_12) s_skip) (s_seq (s_if (c_not (c_not (c_eq0_f (k_I (k_V (r_aload_n d_House_takeClause_13 rfl) (a_C (v_R (r_iter (c_eq0_f (r_iload_n d_House_takeClause_14 rfl) d_House_takeClause_15 (by decide)) (r_str (i := 1) rfl rfl rfl d_House_takeClause_18) d_House_takeClause_20 (by decide) (r_iter (c_eq_f (r_iload_n d_House_takeClause_23 rfl) (r_iconst d_House_takeClause_24 (by decide)) d_House_takeClause_25 (by decide)) (r_str (i := 2) rfl rfl rfl d_House_takeClause_28) d_House_takeClause_30 (by decide) (r_iter (c_eq_f (r_iload_n d_House_takeClause_33 rfl) (r_iconst d_House_takeClause_34 (by decide)) d_House_takeClause_35 (by decide)) (r_str (i := 3) rfl rfl rfl d_House_takeClause_38) d_House_takeClause_40 (by decide) (r_str (i := 4) rfl rfl rfl d_House_takeClause_43))))) a_N) V_House_97 (by decide) (Nat.le_refl _) (rm_loc (by decide)) d_House_takeClause_45)) d_House_takeClause_48 (by decide)))) (s_retZ (r_iconst d_House_takeClause_51 (by decide)) rfl d_House_takeClause_52) s_skip) (s_seq (s_I_n (k_I (k_V (r_aload_n d_House_takeClause_53 rfl) a_N V_House_101 (by decide) (Nat.le_refl _) (rm_loc (by decide)) d_House_takeClause_54)) (by decide) d_House_takeClause_57 rfl) (s_seq (s_if (c_lt0_f (r_iload_n d_House_takeClause_58 rfl) d_House_takeClause_59 (by decide)) (s_retZ (r_iconst d_House_takeClause_62 (by decide)) rfl d_House_takeClause_63) s_skip) (s_seq (s_if (c_eq0_f (r_iload_n d_House_takeClause_64 rfl) d_House_takeClause_65 (by decide)) (s_seq (s_put (r_aload_n d_House_takeClause_68 rfl) (r_iload_n d_House_takeClause_69 rfl) P_House_9 d_House_takeClause_70) (s_retZ (r_iconst d_House_takeClause_73 (by decide)) rfl d_House_takeClause_74)) s_skip) (s_seq (s_if (c_eq_f (r_iload_n d_House_takeClause_75 rfl) (r_iconst d_House_takeClause_76 (by decide)) d_House_takeClause_77 (by decide)) (s_seq (s_put (r_aload_n d_House_takeClause_80 rfl) (r_iload_n d_House_takeClause_81 rfl) P_House_15 d_House_takeClause_82) (s_retZ (r_iconst d_House_takeClause_85 (by decide)) rfl d_House_takeClause_86)) s_skip) (s_seq (s_if (c_or (c_not (c_not (c_eq0_t (k_I (k_V (r_aload_n d_House_takeClause_87 rfl) (a_C (v_I (r_bipush d_House_takeClause_88 (by decide))) a_N) V_House_62 (by decide) (Nat.le_refl _) (rm_loc (by decide)) d_House_takeClause_90)) d_House_takeClause_93 (by decide)))) (c_not (c_not (c_eq0_f (k_I (k_V (r_aload_n d_House_takeClause_96 rfl) (a_C (v_I (r_iconst d_House_takeClause_97 (by decide))) a_N) V_House_104 (by decide) (Nat.le_refl _) (rm_loc (by decide)) d_House_takeClause_98)) d_House_takeClause_101 (by decide))))) (s_retZ (r_iconst d_House_takeClause_104 (by decide)) rfl d_House_takeClause_105) s_skip) (s_seq (s_if (c_lt_f (r_g (r_aload_n d_House_takeClause_106 rfl) G_House_25 d_House_takeClause_107) (r_bipush d_House_takeClause_110 (by decide)) d_House_takeClause_112 (by decide)) (s_seq (s_ast (r_gR (r_aload_n d_House_takeClause_115 rfl) G_House_18 d_House_takeClause_116) (r_g (r_aload_n d_House_takeClause_119 rfl) G_House_25 d_House_takeClause_120) (r_itea (c_eq_f (r_iload_n d_House_takeClause_123 rfl) (r_iconst d_House_takeClause_124 (by decide)) d_House_takeClause_125 (by decide)) (f2 (r_neg (r_iload_n d_House_takeClause_128 rfl) d_House_takeClause_129)) d_House_takeClause_130 (by decide) (r_iload_n d_House_takeClause_133 rfl)) d_House_takeClause_134) (s_seq (s_ast (r_gR (r_aload_n d_House_takeClause_135 rfl) G_House_22 d_House_takeClause_136) (r_g (r_aload_n d_House_takeClause_139 rfl) G_House_25 d_House_takeClause_140) (r_g (r_aload_n d_House_takeClause_143 rfl) G_House_31 d_House_takeClause_144) d_House_takeClause_147) (s_putC (Or.inl ⟨rfl, rfl⟩) (r_aload_n d_House_takeClause_148 rfl) d_House_takeClause_149 d_House_takeClause_150 G_House_25 (r_iconst d_House_takeClause_153 (by decide)) d_House_takeClause_154 P_House_25 d_House_takeClause_155))) s_skip) (s_retZ (r_iconst d_House_takeClause_158 (by decide)) rfl d_House_takeClause_159))))))))))
def B_House_takeNumber (X : WX) (d : Nat) : ST := (sSeq (sI 1 (kI (kV X M_House_takeOneOf d 3 (xr 0) (aC (vR (xstr X 5)) aN)))) (sSeq (sIf (cNot (cGt0 (xi 1))) (sRetI (xi 1)) sSkip) (sSeq (sI 2 (kI (kV X M_House_takeOneOf d 3 (xr 0) (aC (vR (xstr X 5)) aN)))) (sRetI (xite (cLt0 (xi 2)) (xi 1) (xadd (xmul (xi 1) (xc 10)) (xi 2)))))))
set_option maxHeartbeats 4000000 in
set_option maxRecDepth 20000 in
theorem F_House_takeNumber (X : WX) (d : Nat) : FS X "FastClock$House" b_House_takeNumber 3 (some .int) false (rmOf (d + 1) 0 0) 0 35 0 0 (B_House_takeNumber X d) :=
  (s_seq (s_I_n (k_I (k_V (r_aload_n d_House_takeNumber_0 rfl) (a_C (v_R (r_str (i := 5) rfl rfl rfl d_House_takeNumber_1)) a_N) V_House_85 (by decide) (Nat.le_refl _) (rm_loc (by decide)) d_House_takeNumber_3)) (by decide) d_House_takeNumber_6 rfl) (s_seq (s_if (c_not (c_gt0_t (r_iload_n d_House_takeNumber_7 rfl) d_House_takeNumber_8 (by decide))) (s_retI (r_iload_n d_House_takeNumber_11 rfl) rfl d_House_takeNumber_12) s_skip) (s_seq (s_I_n (k_I (k_V (r_aload_n d_House_takeNumber_13 rfl) (a_C (v_R (r_str (i := 5) rfl rfl rfl d_House_takeNumber_14)) a_N) V_House_85 (by decide) (Nat.le_refl _) (rm_loc (by decide)) d_House_takeNumber_16)) (by decide) d_House_takeNumber_19 rfl) (s_retI (r_itea (c_lt0_f (r_iload_n d_House_takeNumber_20 rfl) d_House_takeNumber_21 (by decide)) (f2 (r_iload_n d_House_takeNumber_24 rfl)) d_House_takeNumber_25 (by decide) (r_add (r_mul (r_iload_n d_House_takeNumber_28 rfl) (r_bipush d_House_takeNumber_29 (by decide)) d_House_takeNumber_31) (r_iload_n d_House_takeNumber_32 rfl) d_House_takeNumber_33)) rfl d_House_takeNumber_34))))
def L_House_takeEither_1 (X : WX) (d : Nat) : ST := (sSeq (sIf (cNot (cNot (cEq0 (kI (kV X M_House_takeBoth d 3 (xr 0) (aC (vI (xi 1)) aN)))))) (sRetZ (xc 0)) sSkip) (sK (kV X M_House_put d 3 (xr 0) (aC (vI (xc (-3))) aN))))
def B_House_takeEither (X : WX) (d : Nat) : ST := (sSeq (sIf (cNot (cNot (cEq0 (kI (kV X M_House_takeBoth d 3 (xr 0) (aC (vI (xi 1)) aN)))))) (sRetZ (xc 0)) sSkip) (sSeq (sI 2 (xc 0)) (sSeq (sFor (cAnd (cLt (xi 2) (xc 100)) (cNot (cEq0 (kI (kV X M_House_take d 3 (xr 0) (aC (vI (xc 124)) aN)))))) (L_House_takeEither_1 X d) (sInc 2 1)) (sRetZ (xc 1)))))
set_option maxHeartbeats 4000000 in
set_option maxRecDepth 20000 in
theorem F_House_takeEither (X : WX) (d : Nat) : FS X "FastClock$House" b_House_takeEither 3 (some .boolean) false (rmOf (d + 1) 0 0) 0 51 0 0 (B_House_takeEither X d) :=
  (s_seq (s_if (c_not (c_not (c_eq0_f (k_I (k_V (r_aload_n d_House_takeEither_0 rfl) (a_C (v_I (r_iload_n d_House_takeEither_1 rfl)) a_N) V_House_110 (by decide) (Nat.le_refl _) (rm_loc (by decide)) d_House_takeEither_2)) d_House_takeEither_5 (by decide)))) (s_retZ (r_iconst d_House_takeEither_8 (by decide)) rfl d_House_takeEither_9) s_skip) (s_seq (s_I_n (r_iconst d_House_takeEither_10 (by decide)) (by decide) d_House_takeEither_11 rfl) (s_seq (s_for (x1 := 0) (x2 := 0) (c_and (c_lt_f (r_iload_n d_House_takeEither_12 rfl) (r_bipush d_House_takeEither_13 (by decide)) d_House_takeEither_15 (by decide)) (c_not (c_eq0_t (k_I (k_V (r_aload_n d_House_takeEither_18 rfl) (a_C (v_I (r_bipush d_House_takeEither_19 (by decide))) a_N) V_House_62 (by decide) (Nat.le_refl _) (rm_loc (by decide)) d_House_takeEither_21)) d_House_takeEither_24 (by decide)))) (s_seq (s_if (c_not (c_not (c_eq0_f (k_I (k_V (r_aload_n d_House_takeEither_27 rfl) (a_C (v_I (r_iload_n d_House_takeEither_28 rfl)) a_N) V_House_110 (by decide) (Nat.le_refl _) (rm_loc (by decide)) d_House_takeEither_29)) d_House_takeEither_32 (by decide)))) (s_retZ (r_iconst d_House_takeEither_35 (by decide)) rfl d_House_takeEither_36) s_skip) (s_K (k_V (r_aload_n d_House_takeEither_37 rfl) (a_C (v_I (r_bipush d_House_takeEither_38 (by decide))) a_N) V_House_113 (by decide) (Nat.le_refl _) (rm_loc (by decide)) d_House_takeEither_40))) (s_inc (by decide) d_House_takeEither_43 (by decide)) d_House_takeEither_46 (by decide)) (s_retZ (r_iconst d_House_takeEither_49 (by decide)) rfl d_House_takeEither_50))))
def L_House_takeBoth_1 (X : WX) (d : Nat) : ST := (sSeq (sIf (cNot (cNot (cEq0 (kI (kV X M_House_takeSingle d 3 (xr 0) (aC (vI (xi 1)) aN)))))) (sRetZ (xc 0)) sSkip) (sK (kV X M_House_put d 3 (xr 0) (aC (vI (xc (-2))) aN))))
def B_House_takeBoth (X : WX) (d : Nat) : ST := (sSeq (sIf (cNot (cNot (cEq0 (kI (kV X M_House_takeSingle d 3 (xr 0) (aC (vI (xi 1)) aN)))))) (sRetZ (xc 0)) sSkip) (sSeq (sI 2 (xc 0)) (sSeq (sFor (cAnd (cLt (xi 2) (xc 100)) (cNot (cEq0 (kI (kV X M_House_take d 3 (xr 0) (aC (vI (xc 38)) aN)))))) (L_House_takeBoth_1 X d) (sInc 2 1)) (sRetZ (xc 1)))))
set_option maxHeartbeats 4000000 in
set_option maxRecDepth 20000 in
theorem F_House_takeBoth (X : WX) (d : Nat) : FS X "FastClock$House" b_House_takeBoth 3 (some .boolean) false (rmOf (d + 1) 0 0) 0 51 0 0 (B_House_takeBoth X d) :=
  (s_seq (s_if (c_not (c_not (c_eq0_f (k_I (k_V (r_aload_n d_House_takeBoth_0 rfl) (a_C (v_I (r_iload_n d_House_takeBoth_1 rfl)) a_N) V_House_117 (by decide) (Nat.le_refl _) (rm_loc (by decide)) d_House_takeBoth_2)) d_House_takeBoth_5 (by decide)))) (s_retZ (r_iconst d_House_takeBoth_8 (by decide)) rfl d_House_takeBoth_9) s_skip) (s_seq (s_I_n (r_iconst d_House_takeBoth_10 (by decide)) (by decide) d_House_takeBoth_11 rfl) (s_seq (s_for (x1 := 0) (x2 := 0) (c_and (c_lt_f (r_iload_n d_House_takeBoth_12 rfl) (r_bipush d_House_takeBoth_13 (by decide)) d_House_takeBoth_15 (by decide)) (c_not (c_eq0_t (k_I (k_V (r_aload_n d_House_takeBoth_18 rfl) (a_C (v_I (r_bipush d_House_takeBoth_19 (by decide))) a_N) V_House_62 (by decide) (Nat.le_refl _) (rm_loc (by decide)) d_House_takeBoth_21)) d_House_takeBoth_24 (by decide)))) (s_seq (s_if (c_not (c_not (c_eq0_f (k_I (k_V (r_aload_n d_House_takeBoth_27 rfl) (a_C (v_I (r_iload_n d_House_takeBoth_28 rfl)) a_N) V_House_117 (by decide) (Nat.le_refl _) (rm_loc (by decide)) d_House_takeBoth_29)) d_House_takeBoth_32 (by decide)))) (s_retZ (r_iconst d_House_takeBoth_35 (by decide)) rfl d_House_takeBoth_36) s_skip) (s_K (k_V (r_aload_n d_House_takeBoth_37 rfl) (a_C (v_I (r_bipush d_House_takeBoth_38 (by decide))) a_N) V_House_113 (by decide) (Nat.le_refl _) (rm_loc (by decide)) d_House_takeBoth_40))) (s_inc (by decide) d_House_takeBoth_43 (by decide)) d_House_takeBoth_46 (by decide)) (s_retZ (r_iconst d_House_takeBoth_49 (by decide)) rfl d_House_takeBoth_50))))
def B_House_takeSingle (X : WX) (d : Nat) : ST := (sSeq (sIf (cAnd (cLt (xi 1) (xc 5)) (cNot (cEq0 (kI (kV X M_House_take d 3 (xr 0) (aC (vI (xc 33)) aN)))))) (sSeq (sIf (cNot (cNot (cEq0 (kI (kV X M_House_takeSingle d 3 (xr 0) (aC (vI (xadd (xi 1) (xc 1))) aN)))))) (sRetZ (xc 0)) sSkip) (sSeq (sK (kV X M_House_put d 3 (xr 0) (aC (vI (xc (-1))) aN))) (sRetZ (xc 1)))) sSkip) (sSeq (sIf (cAnd (cLt (xi 1) (xc 5)) (cNot (cEq0 (kI (kV X M_House_take d 3 (xr 0) (aC (vI (xc 40)) aN)))))) (sRetZ (xofC (cAnd (cNot (cEq0 (kI (kV X M_House_takeEither d 3 (xr 0) (aC (vI (xadd (xi 1) (xc 1))) aN))))) (cNot (cEq0 (kI (kV X M_House_take d 3 (xr 0) (aC (vI (xc 41)) aN)))))))) sSkip) (sSeq (sI 2 (kI (kV X M_House_takeOneOf d 3 (xr 0) (aC (vR (xstr X 6)) aN)))) (sSeq (sIf (cLt0 (xi 2)) (sRetZ (xc 0)) sSkip) (sSeq (sI 3 (kI (kV X M_House_takeOneOf d 3 (xr 0) (aC (vR (xstr X 7)) aN)))) (sSeq (sIf (cLt0 (xi 3)) (sRetZ (xc 0)) sSkip) (sSeq (sI 4 (kI (kV X M_House_takeNumber d 3 (xr 0) aN))) (sSeq (sIf (cLt0 (xi 4)) (sRetZ (xc 0)) sSkip) (sSeq (sK (kV X M_House_put d 3 (xr 0) (aC (vI (xadd (xadd (xmul (xi 2) (xc 300)) (xmul (xi 3) (xc 100))) (xi 4))) aN))) (sRetZ (xc 1)))))))))))
set_option maxHeartbeats 4000000 in
set_option maxRecDepth 20000 in
theorem F_House_takeSingle (X : WX) (d : Nat) : FS X "FastClock$House" b_House_takeSingle 5 (some .boolean) false (rmOf (d + 1) 0 0) 0 130 0 0 (B_House_takeSingle X d) :=
  (s_seq (s_if (c_and (c_lt_f (r_iload_n d_House_takeSingle_0 rfl) (r_iconst d_House_takeSingle_1 (by decide)) d_House_takeSingle_2 (by decide)) (c_not (c_eq0_t (k_I (k_V (r_aload_n d_House_takeSingle_5 rfl) (a_C (v_I (r_bipush d_House_takeSingle_6 (by decide))) a_N) V_House_62 (by decide) (Nat.le_refl _) (rm_loc (by decide)) d_House_takeSingle_8)) d_House_takeSingle_11 (by decide)))) (s_seq (s_if (c_not (c_not (c_eq0_f (k_I (k_V (r_aload_n d_House_takeSingle_14 rfl) (a_C (v_I (r_add (r_iload_n d_House_takeSingle_15 rfl) (r_iconst d_House_takeSingle_16 (by decide)) d_House_takeSingle_17)) a_N) V_House_117 (by decide) (Nat.le_refl _) (rm_loc (by decide)) d_House_takeSingle_18)) d_House_takeSingle_21 (by decide)))) (s_retZ (r_iconst d_House_takeSingle_24 (by decide)) rfl d_House_takeSingle_25) s_skip) (s_seq (s_K (k_V (r_aload_n d_House_takeSingle_26 rfl) (a_C (v_I (r_iconst d_House_takeSingle_27 (by decide))) a_N) V_House_113 (by decide) (Nat.le_refl _) (rm_loc (by decide)) d_House_takeSingle_28)) (s_retZ (r_iconst d_House_takeSingle_31 (by decide)) rfl d_House_takeSingle_32))) s_skip) (s_seq (s_if (c_and (c_lt_f (r_iload_n d_House_takeSingle_33 rfl) (r_iconst d_House_takeSingle_34 (by decide)) d_House_takeSingle_35 (by decide)) (c_not (c_eq0_t (k_I (k_V (r_aload_n d_House_takeSingle_38 rfl) (a_C (v_I (r_bipush d_House_takeSingle_39 (by decide))) a_N) V_House_62 (by decide) (Nat.le_refl _) (rm_loc (by decide)) d_House_takeSingle_41)) d_House_takeSingle_44 (by decide)))) (s_retZ (r_ofC (c_and (c_not (c_eq0_t (k_I (k_V (r_aload_n d_House_takeSingle_47 rfl) (a_C (v_I (r_add (r_iload_n d_House_takeSingle_48 rfl) (r_iconst d_House_takeSingle_49 (by decide)) d_House_takeSingle_50)) a_N) V_House_104 (by decide) (Nat.le_refl _) (rm_loc (by decide)) d_House_takeSingle_51)) d_House_takeSingle_54 (by decide))) (c_not (c_eq0_t (k_I (k_V (r_aload_n d_House_takeSingle_57 rfl) (a_C (v_I (r_bipush d_House_takeSingle_58 (by decide))) a_N) V_House_62 (by decide) (Nat.le_refl _) (rm_loc (by decide)) d_House_takeSingle_60)) d_House_takeSingle_63 (by decide)))) d_House_takeSingle_66 d_House_takeSingle_67 (by decide) d_House_takeSingle_70) rfl d_House_takeSingle_71) s_skip) (s_seq (s_I_n (k_I (k_V (r_aload_n d_House_takeSingle_72 rfl) (a_C (v_R (r_str (i := 6) rfl rfl rfl d_House_takeSingle_73)) a_N) V_House_85 (by decide) (Nat.le_refl _) (rm_loc (by decide)) d_House_takeSingle_75)) (by decide) d_House_takeSingle_78 rfl) (s_seq (s_if (c_lt0_f (r_iload_n d_House_takeSingle_79 rfl) d_House_takeSingle_80 (by decide)) (s_retZ (r_iconst d_House_takeSingle_83 (by decide)) rfl d_House_takeSingle_84) s_skip) (s_seq (s_I_n (k_I (k_V (r_aload_n d_House_takeSingle_85 rfl) (a_C (v_R (r_str (i := 7) rfl rfl rfl d_House_takeSingle_86)) a_N) V_House_85 (by decide) (Nat.le_refl _) (rm_loc (by decide)) d_House_takeSingle_88)) (by decide) d_House_takeSingle_91 rfl) (s_seq (s_if (c_lt0_f (r_iload_n d_House_takeSingle_92 rfl) d_House_takeSingle_93 (by decide)) (s_retZ (r_iconst d_House_takeSingle_96 (by decide)) rfl d_House_takeSingle_97) s_skip) (s_seq (s_I (k_I (k_V (r_aload_n d_House_takeSingle_98 rfl) a_N V_House_101 (by decide) (Nat.le_refl _) (rm_loc (by decide)) d_House_takeSingle_99)) (by decide) d_House_takeSingle_102) (s_seq (s_if (c_lt0_f (r_iload d_House_takeSingle_104) d_House_takeSingle_106 (by decide)) (s_retZ (r_iconst d_House_takeSingle_109 (by decide)) rfl d_House_takeSingle_110) s_skip) (s_seq (s_K (k_V (r_aload_n d_House_takeSingle_111 rfl) (a_C (v_I (r_add (r_add (r_mul (r_iload_n d_House_takeSingle_112 rfl) (r_sipush d_House_takeSingle_113 (by decide)) d_House_takeSingle_116) (r_mul (r_iload_n d_House_takeSingle_117 rfl) (r_bipush d_House_takeSingle_118 (by decide)) d_House_takeSingle_120) d_House_takeSingle_121) (r_iload d_House_takeSingle_122) d_House_takeSingle_124)) a_N) V_House_113 (by decide) (Nat.le_refl _) (rm_loc (by decide)) d_House_takeSingle_125)) (s_retZ (r_iconst d_House_takeSingle_128 (by decide)) rfl d_House_takeSingle_129))))))))))
def B_House_put (X : WX) (d : Nat) : ST := (sSeq (sIf (cNot (cLt (xg [3] 6 (xr 0)) (xc 100))) sRet sSkip) (sSeq (sast X (xgR [3] 5 (xr 0)) (xg [3] 6 (xr 0)) (xi 1)) (sSeq (sputC [3] 6 (fun x y => x + y) (xr 0) (xc 1)) sRet)))
set_option maxHeartbeats 4000000 in
set_option maxRecDepth 20000 in
theorem F_House_put (X : WX) (d : Nat) : FS X "FastClock$House" b_House_put 2 (none) false (rmOf (d + 1) 0 0) 0 31 0 0 (B_House_put X d) :=
  (s_seq (s_if (c_not (c_lt_t (r_g (r_aload_n d_House_put_0 rfl) G_House_31 d_House_put_1) (r_bipush d_House_put_4 (by decide)) d_House_put_6 (by decide))) (s_ret rfl d_House_put_9) s_skip) (s_seq (s_ast (r_gR (r_aload_n d_House_put_10 rfl) G_House_28 d_House_put_11) (r_g (r_aload_n d_House_put_14 rfl) G_House_31 d_House_put_15) (r_iload_n d_House_put_18 rfl) d_House_put_19) (s_seq (s_putC (Or.inl ⟨rfl, rfl⟩) (r_aload_n d_House_put_20 rfl) d_House_put_21 d_House_put_22 G_House_31 (r_iconst d_House_put_25 (by decide)) d_House_put_26 P_House_31 d_House_put_27) (s_ret rfl d_House_put_30))))
