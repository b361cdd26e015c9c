theorem dX7_width_12 : decode cX7_width 12 = .ok (.sipush 999, 3) := by decide +kernel
theorem dX7_width_15 : decode cX7_width 15 = .ok (.invokestatic 69, 3) := by decide +kernel
theorem dX7_width_18 : decode cX7_width 18 = .ok (.ifCond .ne 6, 3) := by decide +kernel
theorem dX7_width_21 : decode cX7_width 21 = .ok (.bipush (-2), 2) := by decide +kernel
theorem dX7_width_23 : decode cX7_width 23 = .ok (.ireturn, 1) := by decide +kernel
theorem dX7_width_24 : decode cX7_width 24 = .ok (.aload_n 0, 1) := by decide +kernel
theorem dX7_width_25 : decode cX7_width 25 = .ok (.getfield 19, 3) := by decide +kernel
theorem dX7_width_28 : decode cX7_width 28 = .ok (.iload_n 1, 1) := by decide +kernel
theorem dX7_width_29 : decode cX7_width 29 = .ok (.iaload, 1) := by decide +kernel
theorem dX7_width_30 : decode cX7_width 30 = .ok (.istore_n 3, 1) := by decide +kernel
theorem dX7_width_31 : decode cX7_width 31 = .ok (.aload_n 0, 1) := by decide +kernel
theorem dX7_width_32 : decode cX7_width 32 = .ok (.getfield 19, 3) := by decide +kernel
theorem dX7_width_35 : decode cX7_width 35 = .ok (.iload_n 1, 1) := by decide +kernel
theorem dX7_width_36 : decode cX7_width 36 = .ok (.iload_n 2, 1) := by decide +kernel
theorem dX7_width_37 : decode cX7_width 37 = .ok (.ifCond .ne 8, 3) := by decide +kernel
theorem dX7_width_40 : decode cX7_width 40 = .ok (.bipush (-6), 2) := by decide +kernel
theorem dX7_width_42 : decode cX7_width 42 = .ok (.goto 4, 3) := by decide +kernel
theorem dX7_width_45 : decode cX7_width 45 = .ok (.iload_n 2, 1) := by decide +kernel
theorem dX7_width_46 : decode cX7_width 46 = .ok (.iastore, 1) := by decide +kernel
theorem dX7_width_47 : decode cX7_width 47 = .ok (.iload_n 3, 1) := by decide +kernel
theorem dX7_width_48 : decode cX7_width 48 = .ok (.ireturn, 1) := by decide +kernel
theorem dX7_spread_0 : decode cX7_spread 0 = .ok (.iload_n 1, 1) := by decide +kernel
theorem dX7_spread_1 : decode cX7_spread 1 = .ok (.iconst 0, 1) := by decide +kernel
theorem dX7_spread_2 : decode cX7_spread 2 = .ok (.iconst 1, 1) := by decide +kernel
theorem dX7_spread_3 : decode cX7_spread 3 = .ok (.invokestatic 69, 3) := by decide +kernel
theorem dX7_spread_6 : decode cX7_spread 6 = .ok (.ifCond .eq 23, 3) := by decide +kernel
theorem dX7_spread_9 : decode cX7_spread 9 = .ok (.iload_n 2, 1) := by decide +kernel
theorem dX7_spread_10 : decode cX7_spread 10 = .ok (.iconst 1, 1) := by decide +kernel
theorem dX7_spread_11 : decode cX7_spread 11 = .ok (.bipush 99, 2) := by decide +kernel
theorem dX7_spread_13 : decode cX7_spread 13 = .ok (.invokestatic 69, 3) := by decide +kernel
theorem dX7_spread_16 : decode cX7_spread 16 = .ok (.ifCond .eq 13, 3) := by decide +kernel
theorem dX7_spread_19 : decode cX7_spread 19 = .ok (.iload_n 3, 1) := by decide +kernel
theorem dX7_spread_20 : decode cX7_spread 20 = .ok (.iload_n 2, 1) := by decide +kernel
theorem dX7_spread_21 : decode cX7_spread 21 = .ok (.bipush 99, 2) := by decide +kernel
theorem dX7_spread_23 : decode cX7_spread 23 = .ok (.invokestatic 69, 3) := by decide +kernel
theorem dX7_spread_26 : decode cX7_spread 26 = .ok (.ifCond .ne 6, 3) := by decide +kernel
theorem dX7_spread_29 : decode cX7_spread 29 = .ok (.bipush (-2), 2) := by decide +kernel
theorem dX7_spread_31 : decode cX7_spread 31 = .ok (.ireturn, 1) := by decide +kernel
theorem dX7_spread_32 : decode cX7_spread 32 = .ok (.bipush 100, 2) := by decide +kernel
theorem dX7_spread_34 : decode cX7_spread 34 = .ok (.aload_n 0, 1) := by decide +kernel
theorem dX7_spread_35 : decode cX7_spread 35 = .ok (.getfield 31, 3) := by decide +kernel
theorem dX7_spread_38 : decode cX7_spread 38 = .ok (.iconst 2, 1) := by decide +kernel
theorem dX7_spread_39 : decode cX7_spread 39 = .ok (.iload_n 1, 1) := by decide +kernel
theorem dX7_spread_40 : decode cX7_spread 40 = .ok (.imul, 1) := by decide +kernel
theorem dX7_spread_41 : decode cX7_spread 41 = .ok (.iaload, 1) := by decide +kernel
theorem dX7_spread_42 : decode cX7_spread 42 = .ok (.imul, 1) := by decide +kernel
theorem dX7_spread_43 : decode cX7_spread 43 = .ok (.aload_n 0, 1) := by decide +kernel
theorem dX7_spread_44 : decode cX7_spread 44 = .ok (.getfield 31, 3) := by decide +kernel
theorem dX7_spread_47 : decode cX7_spread 47 = .ok (.iconst 2, 1) := by decide +kernel
theorem dX7_spread_48 : decode cX7_spread 48 = .ok (.iload_n 1, 1) := by decide +kernel
theorem dX7_spread_49 : decode cX7_spread 49 = .ok (.imul, 1) := by decide +kernel
theorem dX7_spread_50 : decode cX7_spread 50 = .ok (.iconst 1, 1) := by decide +kernel
theorem dX7_spread_51 : decode cX7_spread 51 = .ok (.iadd, 1) := by decide +kernel
theorem dX7_spread_52 : decode cX7_spread 52 = .ok (.iaload, 1) := by decide +kernel
theorem dX7_spread_53 : decode cX7_spread 53 = .ok (.iadd, 1) := by decide +kernel
theorem dX7_spread_54 : decode cX7_spread 54 = .ok (.istore 4, 2) := by decide +kernel
theorem dX7_spread_56 : decode cX7_spread 56 = .ok (.aload_n 0, 1) := by decide +kernel
theorem dX7_spread_57 : decode cX7_spread 57 = .ok (.getfield 31, 3) := by decide +kernel
theorem dX7_spread_60 : decode cX7_spread 60 = .ok (.iconst 2, 1) := by decide +kernel
theorem dX7_spread_61 : decode cX7_spread 61 = .ok (.iload_n 1, 1) := by decide +kernel
theorem dX7_spread_62 : decode cX7_spread 62 = .ok (.imul, 1) := by decide +kernel
theorem dX7_spread_63 : decode cX7_spread 63 = .ok (.iload_n 2, 1) := by decide +kernel
theorem dX7_spread_64 : decode cX7_spread 64 = .ok (.iastore, 1) := by decide +kernel
theorem dX7_spread_65 : decode cX7_spread 65 = .ok (.aload_n 0, 1) := by decide +kernel
theorem dX7_spread_66 : decode cX7_spread 66 = .ok (.getfield 31, 3) := by decide +kernel
theorem dX7_spread_69 : decode cX7_spread 69 = .ok (.iconst 2, 1) := by decide +kernel
theorem dX7_spread_70 : decode cX7_spread 70 = .ok (.iload_n 1, 1) := by decide +kernel
theorem dX7_spread_71 : decode cX7_spread 71 = .ok (.imul, 1) := by decide +kernel
theorem dX7_spread_72 : decode cX7_spread 72 = .ok (.iconst 1, 1) := by decide +kernel
theorem dX7_spread_73 : decode cX7_spread 73 = .ok (.iadd, 1) := by decide +kernel
theorem dX7_spread_74 : decode cX7_spread 74 = .ok (.iload_n 3, 1) := by decide +kernel
theorem dX7_spread_75 : decode cX7_spread 75 = .ok (.iastore, 1) := by decide +kernel
theorem dX7_spread_76 : decode cX7_spread 76 = .ok (.iload 4, 2) := by decide +kernel
theorem dX7_spread_78 : decode cX7_spread 78 = .ok (.ireturn, 1) := by decide +kernel
theorem dX7_layAged_0 : decode cX7_layAged 0 = .ok (.aload_n 0, 1) := by decide +kernel
theorem dX7_layAged_1 : decode cX7_layAged 1 = .ok (.bipush (-6), 2) := by decide +kernel
theorem dX7_layAged_3 : decode cX7_layAged 3 = .ok (.putfield 131, 3) := by decide +kernel
theorem dX7_layAged_6 : decode cX7_layAged 6 = .ok (.aload_n 0, 1) := by decide +kernel
theorem dX7_layAged_7 : decode cX7_layAged 7 = .ok (.bipush (-6), 2) := by decide +kernel
theorem dX7_layAged_9 : decode cX7_layAged 9 = .ok (.putfield 134, 3) := by decide +kernel
theorem dX7_layAged_12 : decode cX7_layAged 12 = .ok (.aload_n 0, 1) := by decide +kernel
theorem dX7_layAged_13 : decode cX7_layAged 13 = .ok (.iconst 0, 1) := by decide +kernel
theorem dX7_layAged_14 : decode cX7_layAged 14 = .ok (.putfield 137, 3) := by decide +kernel
theorem dX7_layAged_17 : decode cX7_layAged 17 = .ok (.iconst 0, 1) := by decide +kernel
theorem dX7_layAged_18 : decode cX7_layAged 18 = .ok (.istore_n 2, 1) := by decide +kernel
theorem dX7_layAged_19 : decode cX7_layAged 19 = .ok (.iload_n 2, 1) := by decide +kernel
theorem dX7_layAged_20 : decode cX7_layAged 20 = .ok (.aload_n 0, 1) := by decide +kernel
theorem dX7_layAged_21 : decode cX7_layAged 21 = .ok (.getfield 22, 3) := by decide +kernel
theorem dX7_layAged_24 : decode cX7_layAged 24 = .ok (.iconst 1, 1) := by decide +kernel
theorem dX7_layAged_25 : decode cX7_layAged 25 = .ok (.iaload, 1) := by decide +kernel
theorem dX7_layAged_26 : decode cX7_layAged 26 = .ok (.if_icmp .gt 124, 3) := by decide +kernel
theorem dX7_layAged_29 : decode cX7_layAged 29 = .ok (.iconst 0, 1) := by decide +kernel
theorem dX7_layAged_30 : decode cX7_layAged 30 = .ok (.istore_n 3, 1) := by decide +kernel
theorem dX7_layAged_31 : decode cX7_layAged 31 = .ok (.aload_n 0, 1) := by decide +kernel
theorem dX7_layAged_32 : decode cX7_layAged 32 = .ok (.getfield 31, 3) := by decide +kernel
theorem dX7_layAged_35 : decode cX7_layAged 35 = .ok (.iconst 2, 1) := by decide +kernel
theorem dX7_layAged_36 : decode cX7_layAged 36 = .ok (.iaload, 1) := by decide +kernel
theorem dX7_layAged_37 : decode cX7_layAged 37 = .ok (.istore 4, 2) := by decide +kernel
theorem dX7_layAged_39 : decode cX7_layAged 39 = .ok (.iload 4, 2) := by decide +kernel
theorem dX7_layAged_41 : decode cX7_layAged 41 = .ok (.aload_n 0, 1) := by decide +kernel
theorem dX7_layAged_42 : decode cX7_layAged 42 = .ok (.getfield 31, 3) := by decide +kernel
theorem dX7_layAged_45 : decode cX7_layAged 45 = .ok (.iconst 3, 1) := by decide +kernel
theorem dX7_layAged_46 : decode cX7_layAged 46 = .ok (.iaload, 1) := by decide +kernel
theorem dX7_layAged_47 : decode cX7_layAged 47 = .ok (.if_icmp .gt 59, 3) := by decide +kernel
theorem dX7_layAged_50 : decode cX7_layAged 50 = .ok (.aload_n 0, 1) := by decide +kernel
theorem dX7_layAged_51 : decode cX7_layAged 51 = .ok (.getfield 19, 3) := by decide +kernel
theorem dX7_layAged_54 : decode cX7_layAged 54 = .ok (.iload_n 1, 1) := by decide +kernel
theorem dX7_layAged_55 : decode cX7_layAged 55 = .ok (.iaload, 1) := by decide +kernel
theorem dX7_layAged_56 : decode cX7_layAged 56 = .ok (.iload 4, 2) := by decide +kernel
theorem dX7_layAged_58 : decode cX7_layAged 58 = .ok (.aload_n 0, 1) := by decide +kernel
theorem dX7_layAged_59 : decode cX7_layAged 59 = .ok (.getfield 22, 3) := by decide +kernel
theorem dX7_layAged_62 : decode cX7_layAged 62 = .ok (.iconst 1, 1) := by decide +kernel
theorem dX7_layAged_63 : decode cX7_layAged 63 = .ok (.iaload, 1) := by decide +kernel
theorem dX7_layAged_64 : decode cX7_layAged 64 = .ok (.iload_n 2, 1) := by decide +kernel
theorem dX7_layAged_65 : decode cX7_layAged 65 = .ok (.isub, 1) := by decide +kernel
theorem dX7_layAged_66 : decode cX7_layAged 66 = .ok (.imul, 1) := by decide +kernel
theorem dX7_layAged_67 : decode cX7_layAged 67 = .ok (.isub, 1) := by decide +kernel
theorem dX7_layAged_68 : decode cX7_layAged 68 = .ok (.istore 5, 2) := by decide +kernel
theorem dX7_layAged_70 : decode cX7_layAged 70 = .ok (.iload_n 3, 1) := by decide +kernel
theorem dX7_layAged_71 : decode cX7_layAged 71 = .ok (.ifCond .ne 23, 3) := by decide +kernel
theorem dX7_layAged_74 : decode cX7_layAged 74 = .ok (.iload 5, 2) := by decide +kernel
theorem dX7_layAged_76 : decode cX7_layAged 76 = .ok (.aload_n 0, 1) := by decide +kernel
theorem dX7_layAged_77 : decode cX7_layAged 77 = .ok (.getfield 31, 3) := by decide +kernel
theorem dX7_layAged_80 : decode cX7_layAged 80 = .ok (.iconst 0, 1) := by decide +kernel
theorem dX7_layAged_81 : decode cX7_layAged 81 = .ok (.iaload, 1) := by decide +kernel
theorem dX7_layAged_82 : decode cX7_layAged 82 = .ok (.aload_n 0, 1) := by decide +kernel
theorem dX7_layAged_83 : decode cX7_layAged 83 = .ok (.getfield 31, 3) := by decide +kernel
theorem dX7_layAged_86 : decode cX7_layAged 86 = .ok (.iconst 1, 1) := by decide +kernel
theorem dX7_layAged_87 : decode cX7_layAged 87 = .ok (.iaload, 1) := by decide +kernel
theorem dX7_layAged_88 : decode cX7_layAged 88 = .ok (.invokestatic 69, 3) := by decide +kernel
theorem dX7_layAged_91 : decode cX7_layAged 91 = .ok (.ifCond .eq 7, 3) := by decide +kernel
theorem dX7_layAged_94 : decode cX7_layAged 94 = .ok (.iconst 1, 1) := by decide +kernel
theorem dX7_layAged_95 : decode cX7_layAged 95 = .ok (.goto 4, 3) := by decide +kernel
theorem dX7_layAged_98 : decode cX7_layAged 98 = .ok (.iconst 0, 1) := by decide +kernel
theorem dX7_layAged_99 : decode cX7_layAged 99 = .ok (.istore_n 3, 1) := by decide +kernel
theorem dX7_layAged_100 : decode cX7_layAged 100 = .ok (.iinc 4 1, 3) := by decide +kernel
theorem dX7_layAged_103 : decode cX7_layAged 103 = .ok (.goto (-64), 3) := by decide +kernel
theorem dX7_layAged_106 : decode cX7_layAged 106 = .ok (.iload_n 3, 1) := by decide +kernel
theorem dX7_layAged_107 : decode cX7_layAged 107 = .ok (.ifCond .eq 37, 3) := by decide +kernel
theorem dX7_layAged_110 : decode cX7_layAged 110 = .ok (.aload_n 0, 1) := by decide +kernel
theorem dX7_layAged_111 : decode cX7_layAged 111 = .ok (.aload_n 0, 1) := by decide +kernel
theorem dX7_layAged_112 : decode cX7_layAged 112 = .ok (.getfield 131, 3) := by decide +kernel
theorem dX7_layAged_115 : decode cX7_layAged 115 = .ok (.ifCond .ge 7, 3) := by decide +kernel
theorem dX7_layAged_118 : decode cX7_layAged 118 = .ok (.iload_n 2, 1) := by decide +kernel
theorem dX7_layAged_119 : decode cX7_layAged 119 = .ok (.goto 7, 3) := by decide +kernel
theorem dX7_layAged_122 : decode cX7_layAged 122 = .ok (.aload_n 0, 1) := by decide +kernel
theorem dX7_layAged_123 : decode cX7_layAged 123 = .ok (.getfield 131, 3) := by decide +kernel
theorem dX7_layAged_126 : decode cX7_layAged 126 = .ok (.putfield 131, 3) := by decide +kernel
theorem dX7_layAged_129 : decode cX7_layAged 129 = .ok (.aload_n 0, 1) := by decide +kernel
theorem dX7_layAged_130 : decode cX7_layAged 130 = .ok (.iload_n 2, 1) := by decide +kernel
theorem dX7_layAged_131 : decode cX7_layAged 131 = .ok (.putfield 134, 3) := by decide +kernel
theorem dX7_layAged_134 : decode cX7_layAged 134 = .ok (.aload_n 0, 1) := by decide +kernel
theorem dX7_layAged_135 : decode cX7_layAged 135 = .ok (.dup, 1) := by decide +kernel
theorem dX7_layAged_136 : decode cX7_layAged 136 = .ok (.getfield 137, 3) := by decide +kernel
theorem dX7_layAged_139 : decode cX7_layAged 139 = .ok (.iconst 1, 1) := by decide +kernel
theorem dX7_layAged_140 : decode cX7_layAged 140 = .ok (.iadd, 1) := by decide +kernel
theorem dX7_layAged_141 : decode cX7_layAged 141 = .ok (.putfield 137, 3) := by decide +kernel
theorem dX7_layAged_144 : decode cX7_layAged 144 = .ok (.iinc 2 1, 3) := by decide +kernel
theorem dX7_layAged_147 : decode cX7_layAged 147 = .ok (.goto (-128), 3) := by decide +kernel
theorem dX7_layAged_150 : decode cX7_layAged 150 = .ok (.return_, 1) := by decide +kernel
theorem dX7_aged_0 : decode cX7_aged 0 = .ok (.aload_n 0, 1) := by decide +kernel
theorem dX7_aged_1 : decode cX7_aged 1 = .ok (.iload_n 1, 1) := by decide +kernel
theorem dX7_aged_2 : decode cX7_aged 2 = .ok (.invokevirtual 85, 3) := by decide +kernel
theorem dX7_aged_5 : decode cX7_aged 5 = .ok (.ifCond .ne 5, 3) := by decide +kernel
theorem dX7_aged_8 : decode cX7_aged 8 = .ok (.iconst (-1), 1) := by decide +kernel
theorem dX7_aged_9 : decode cX7_aged 9 = .ok (.ireturn, 1) := by decide +kernel
theorem dX7_aged_10 : decode cX7_aged 10 = .ok (.iload_n 2, 1) := by decide +kernel
theorem dX7_aged_11 : decode cX7_aged 11 = .ok (.iconst 0, 1) := by decide +kernel
theorem dX7_aged_12 : decode cX7_aged 12 = .ok (.iconst 2, 1) := by decide +kernel
theorem dX7_aged_13 : decode cX7_aged 13 = .ok (.invokestatic 69, 3) := by decide +kernel
theorem dX7_aged_16 : decode cX7_aged 16 = .ok (.ifCond .ne 6, 3) := by decide +kernel
theorem dX7_aged_19 : decode cX7_aged 19 = .ok (.bipush (-2), 2) := by decide +kernel
theorem dX7_aged_21 : decode cX7_aged 21 = .ok (.ireturn, 1) := by decide +kernel
theorem dX7_aged_22 : decode cX7_aged 22 = .ok (.aload_n 0, 1) := by decide +kernel
theorem dX7_aged_23 : decode cX7_aged 23 = .ok (.getfield 19, 3) := by decide +kernel
theorem dX7_aged_26 : decode cX7_aged 26 = .ok (.iload_n 1, 1) := by decide +kernel
theorem dX7_aged_27 : decode cX7_aged 27 = .ok (.iaload, 1) := by decide +kernel
theorem dX7_aged_28 : decode cX7_aged 28 = .ok (.ifCond .ge 6, 3) := by decide +kernel
theorem dX7_aged_31 : decode cX7_aged 31 = .ok (.bipush (-3), 2) := by decide +kernel
theorem dX7_aged_33 : decode cX7_aged 33 = .ok (.ireturn, 1) := by decide +kernel
theorem dX7_aged_34 : decode cX7_aged 34 = .ok (.aload_n 0, 1) := by decide +kernel
theorem dX7_aged_35 : decode cX7_aged 35 = .ok (.iload_n 1, 1) := by decide +kernel
theorem dX7_aged_36 : decode cX7_aged 36 = .ok (.invokevirtual 140, 3) := by decide +kernel
theorem dX7_aged_39 : decode cX7_aged 39 = .ok (.aload_n 0, 1) := by decide +kernel
theorem dX7_aged_40 : decode cX7_aged 40 = .ok (.getfield 137, 3) := by decide +kernel
theorem dX7_aged_43 : decode cX7_aged 43 = .ok (.ifCond .ne 8, 3) := by decide +kernel
theorem dX7_aged_46 : decode cX7_aged 46 = .ok (.bipush (-5), 2) := by decide +kernel
theorem dX7_aged_48 : decode cX7_aged 48 = .ok (.goto 30, 3) := by decide +kernel
theorem dX7_aged_51 : decode cX7_aged 51 = .ok (.iload_n 2, 1) := by decide +kernel
theorem dX7_aged_52 : decode cX7_aged 52 = .ok (.ifCond .ne 10, 3) := by decide +kernel
theorem dX7_aged_55 : decode cX7_aged 55 = .ok (.aload_n 0, 1) := by decide +kernel
theorem dX7_aged_56 : decode cX7_aged 56 = .ok (.getfield 131, 3) := by decide +kernel
theorem dX7_aged_59 : decode cX7_aged 59 = .ok (.goto 19, 3) := by decide +kernel
theorem dX7_aged_62 : decode cX7_aged 62 = .ok (.iload_n 2, 1) := by decide +kernel
theorem dX7_aged_63 : decode cX7_aged 63 = .ok (.iconst 1, 1) := by decide +kernel
theorem dX7_aged_64 : decode cX7_aged 64 = .ok (.if_icmp .ne 10, 3) := by decide +kernel
theorem dX7_aged_67 : decode cX7_aged 67 = .ok (.aload_n 0, 1) := by decide +kernel
theorem dX7_aged_68 : decode cX7_aged 68 = .ok (.getfield 134, 3) := by decide +kernel
theorem dX7_aged_71 : decode cX7_aged 71 = .ok (.goto 7, 3) := by decide +kernel
theorem dX7_aged_74 : decode cX7_aged 74 = .ok (.aload_n 0, 1) := by decide +kernel
theorem dX7_aged_75 : decode cX7_aged 75 = .ok (.getfield 137, 3) := by decide +kernel
theorem dX7_aged_78 : decode cX7_aged 78 = .ok (.ireturn, 1) := by decide +kernel
theorem dX7_take_0 : decode cX7_take 0 = .ok (.aload_n 0, 1) := by decide +kernel
theorem dX7_take_1 : decode cX7_take 1 = .ok (.iload_n 1, 1) := by decide +kernel
theorem dX7_take_2 : decode cX7_take 2 = .ok (.invokevirtual 85, 3) := by decide +kernel
theorem dX7_take_5 : decode cX7_take 5 = .ok (.ifCond .ne 5, 3) := by decide +kernel
theorem dX7_take_8 : decode cX7_take 8 = .ok (.iconst (-1), 1) := by decide +kernel
theorem dX7_take_9 : decode cX7_take 9 = .ok (.ireturn, 1) := by decide +kernel
theorem dX7_take_10 : decode cX7_take 10 = .ok (.aload_n 0, 1) := by decide +kernel
theorem dX7_take_11 : decode cX7_take 11 = .ok (.getfield 19, 3) := by decide +kernel
theorem dX7_take_14 : decode cX7_take 14 = .ok (.iload_n 1, 1) := by decide +kernel
theorem dX7_take_15 : decode cX7_take 15 = .ok (.iaload, 1) := by decide +kernel
theorem dX7_take_16 : decode cX7_take 16 = .ok (.ifCond .ge 6, 3) := by decide +kernel
theorem dX7_take_19 : decode cX7_take 19 = .ok (.bipush (-3), 2) := by decide +kernel
theorem dX7_take_21 : decode cX7_take 21 = .ok (.ireturn, 1) := by decide +kernel
theorem dX7_take_22 : decode cX7_take 22 = .ok (.aload_n 0, 1) := by decide +kernel
theorem dX7_take_23 : decode cX7_take 23 = .ok (.iload_n 1, 1) := by decide +kernel
theorem dX7_take_24 : decode cX7_take 24 = .ok (.invokevirtual 140, 3) := by decide +kernel
theorem dX7_take_27 : decode cX7_take 27 = .ok (.aload_n 0, 1) := by decide +kernel
theorem dX7_take_28 : decode cX7_take 28 = .ok (.getfield 131, 3) := by decide +kernel
theorem dX7_take_31 : decode cX7_take 31 = .ok (.aload_n 0, 1) := by decide +kernel
theorem dX7_take_32 : decode cX7_take 32 = .ok (.getfield 13, 3) := by decide +kernel
theorem dX7_take_35 : decode cX7_take 35 = .ok (.iload_n 1, 1) := by decide +kernel
theorem dX7_take_36 : decode cX7_take 36 = .ok (.iaload, 1) := by decide +kernel
theorem dX7_take_37 : decode cX7_take 37 = .ok (.if_icmp .le 10, 3) := by decide +kernel
theorem dX7_take_40 : decode cX7_take 40 = .ok (.aload_n 0, 1) := by decide +kernel
theorem dX7_take_41 : decode cX7_take 41 = .ok (.getfield 131, 3) := by decide +kernel
theorem dX7_take_44 : decode cX7_take 44 = .ok (.goto 9, 3) := by decide +kernel
theorem dX7_take_47 : decode cX7_take 47 = .ok (.aload_n 0, 1) := by decide +kernel
theorem dX7_take_48 : decode cX7_take 48 = .ok (.getfield 13, 3) := by decide +kernel
theorem dX7_take_51 : decode cX7_take 51 = .ok (.iload_n 1, 1) := by decide +kernel
theorem dX7_take_52 : decode cX7_take 52 = .ok (.iaload, 1) := by decide +kernel
theorem dX7_take_53 : decode cX7_take 53 = .ok (.istore_n 2, 1) := by decide +kernel
theorem dX7_take_54 : decode cX7_take 54 = .ok (.aload_n 0, 1) := by decide +kernel
theorem dX7_take_55 : decode cX7_take 55 = .ok (.getfield 134, 3) := by decide +kernel
theorem dX7_take_58 : decode cX7_take 58 = .ok (.aload_n 0, 1) := by decide +kernel
theorem dX7_take_59 : decode cX7_take 59 = .ok (.getfield 16, 3) := by decide +kernel
theorem dX7_take_62 : decode cX7_take 62 = .ok (.iload_n 1, 1) := by decide +kernel
theorem dX7_take_63 : decode cX7_take 63 = .ok (.iaload, 1) := by decide +kernel
theorem dX7_take_64 : decode cX7_take 64 = .ok (.if_icmp .ge 10, 3) := by decide +kernel
theorem dX7_take_67 : decode cX7_take 67 = .ok (.aload_n 0, 1) := by decide +kernel
theorem dX7_take_68 : decode cX7_take 68 = .ok (.getfield 134, 3) := by decide +kernel
theorem dX7_take_71 : decode cX7_take 71 = .ok (.goto 9, 3) := by decide +kernel
theorem dX7_take_74 : decode cX7_take 74 = .ok (.aload_n 0, 1) := by decide +kernel
theorem dX7_take_75 : decode cX7_take 75 = .ok (.getfield 16, 3) := by decide +kernel
theorem dX7_take_78 : decode cX7_take 78 = .ok (.iload_n 1, 1) := by decide +kernel
theorem dX7_take_79 : decode cX7_take 79 = .ok (.iaload, 1) := by decide +kernel
theorem dX7_take_80 : decode cX7_take 80 = .ok (.istore_n 3, 1) := by decide +kernel
theorem dX7_take_81 : decode cX7_take 81 = .ok (.aload_n 0, 1) := by decide +kernel
theorem dX7_take_82 : decode cX7_take 82 = .ok (.getfield 137, 3) := by decide +kernel
theorem dX7_take_85 : decode cX7_take 85 = .ok (.ifCond .eq 8, 3) := by decide +kernel
theorem dX7_take_88 : decode cX7_take 88 = .ok (.iload_n 2, 1) := by decide +kernel
theorem dX7_take_89 : decode cX7_take 89 = .ok (.iload_n 3, 1) := by decide +kernel
theorem dX7_take_90 : decode cX7_take 90 = .ok (.if_icmp .le 6, 3) := by decide +kernel
theorem dX7_take_93 : decode cX7_take 93 = .ok (.bipush (-5), 2) := by decide +kernel
theorem dX7_take_95 : decode cX7_take 95 = .ok (.ireturn, 1) := by decide +kernel
theorem dX7_take_96 : decode cX7_take 96 = .ok (.aload_n 0, 1) := by decide +kernel
theorem dX7_take_97 : decode cX7_take 97 = .ok (.getfield 13, 3) := by decide +kernel
theorem dX7_take_100 : decode cX7_take 100 = .ok (.iload_n 1, 1) := by decide +kernel
theorem dX7_take_101 : decode cX7_take 101 = .ok (.iload_n 2, 1) := by decide +kernel
theorem dX7_take_102 : decode cX7_take 102 = .ok (.iastore, 1) := by decide +kernel
theorem dX7_take_103 : decode cX7_take 103 = .ok (.aload_n 0, 1) := by decide +kernel
theorem dX7_take_104 : decode cX7_take 104 = .ok (.getfield 16, 3) := by decide +kernel
theorem dX7_take_107 : decode cX7_take 107 = .ok (.iload_n 1, 1) := by decide +kernel
theorem dX7_take_108 : decode cX7_take 108 = .ok (.iload_n 3, 1) := by decide +kernel
theorem dX7_take_109 : decode cX7_take 109 = .ok (.iastore, 1) := by decide +kernel
theorem dX7_take_110 : decode cX7_take 110 = .ok (.aload_n 0, 1) := by decide +kernel
theorem dX7_take_111 : decode cX7_take 111 = .ok (.iconst 0, 1) := by decide +kernel
theorem dX7_take_112 : decode cX7_take 112 = .ok (.putfield 81, 3) := by decide +kernel
theorem dX7_take_115 : decode cX7_take 115 = .ok (.iload_n 3, 1) := by decide +kernel
theorem dX7_take_116 : decode cX7_take 116 = .ok (.iload_n 2, 1) := by decide +kernel
theorem dX7_take_117 : decode cX7_take 117 = .ok (.isub, 1) := by decide +kernel
theorem dX7_take_118 : decode cX7_take 118 = .ok (.iconst 1, 1) := by decide +kernel
theorem dX7_take_119 : decode cX7_take 119 = .ok (.iadd, 1) := by decide +kernel
theorem dX7_take_120 : decode cX7_take 120 = .ok (.ireturn, 1) := by decide +kernel
theorem dX7_hide_0 : decode cX7_hide 0 = .ok (.iload_n 1, 1) := by decide +kernel
theorem dX7_hide_1 : decode cX7_hide 1 = .ok (.iconst 0, 1) := by decide +kernel
theorem dX7_hide_2 : decode cX7_hide 2 = .ok (.bipush 7, 2) := by decide +kernel
theorem dX7_hide_4 : decode cX7_hide 4 = .ok (.invokestatic 69, 3) := by decide +kernel
theorem dX7_hide_7 : decode cX7_hide 7 = .ok (.ifCond .ne 5, 3) := by decide +kernel
theorem dX7_hide_10 : decode cX7_hide 10 = .ok (.iconst (-1), 1) := by decide +kernel
theorem dX7_hide_11 : decode cX7_hide 11 = .ok (.ireturn, 1) := by decide +kernel
theorem dX7_hide_12 : decode cX7_hide 12 = .ok (.iload_n 3, 1) := by decide +kernel
theorem dX7_hide_13 : decode cX7_hide 13 = .ok (.iconst 0, 1) := by decide +kernel
theorem dX7_hide_14 : decode cX7_hide 14 = .ok (.sipush 255, 3) := by decide +kernel
theorem dX7_hide_17 : decode cX7_hide 17 = .ok (.invokestatic 69, 3) := by decide +kernel
theorem dX7_hide_20 : decode cX7_hide 20 = .ok (.ifCond .ne 6, 3) := by decide +kernel
theorem dX7_hide_23 : decode cX7_hide 23 = .ok (.bipush (-2), 2) := by decide +kernel
theorem dX7_hide_25 : decode cX7_hide 25 = .ok (.ireturn, 1) := by decide +kernel
theorem dX7_hide_26 : decode cX7_hide 26 = .ok (.iload_n 2, 1) := by decide +kernel
theorem dX7_hide_27 : decode cX7_hide 27 = .ok (.ifCond .eq 12, 3) := by decide +kernel
theorem dX7_hide_30 : decode cX7_hide 30 = .ok (.aload_n 0, 1) := by decide +kernel
theorem dX7_hide_31 : decode cX7_hide 31 = .ok (.getfield 37, 3) := by decide +kernel
theorem dX7_hide_34 : decode cX7_hide 34 = .ok (.iload_n 1, 1) := by decide +kernel
theorem dX7_hide_35 : decode cX7_hide 35 = .ok (.iaload, 1) := by decide +kernel
theorem dX7_hide_36 : decode cX7_hide 36 = .ok (.goto 9, 3) := by decide +kernel
theorem dX7_hide_39 : decode cX7_hide 39 = .ok (.aload_n 0, 1) := by decide +kernel
theorem dX7_hide_40 : decode cX7_hide 40 = .ok (.getfield 34, 3) := by decide +kernel
theorem dX7_hide_43 : decode cX7_hide 43 = .ok (.iload_n 1, 1) := by decide +kernel
theorem dX7_hide_44 : decode cX7_hide 44 = .ok (.iaload, 1) := by decide +kernel
theorem dX7_hide_45 : decode cX7_hide 45 = .ok (.istore 4, 2) := by decide +kernel
theorem dX7_hide_47 : decode cX7_hide 47 = .ok (.iload_n 2, 1) := by decide +kernel
theorem dX7_hide_48 : decode cX7_hide 48 = .ok (.ifCond .eq 13, 3) := by decide +kernel
theorem dX7_hide_51 : decode cX7_hide 51 = .ok (.aload_n 0, 1) := by decide +kernel
theorem dX7_hide_52 : decode cX7_hide 52 = .ok (.getfield 37, 3) := by decide +kernel
theorem dX7_hide_55 : decode cX7_hide 55 = .ok (.iload_n 1, 1) := by decide +kernel
theorem dX7_hide_56 : decode cX7_hide 56 = .ok (.iload_n 3, 1) := by decide +kernel
theorem dX7_hide_57 : decode cX7_hide 57 = .ok (.iastore, 1) := by decide +kernel
theorem dX7_hide_58 : decode cX7_hide 58 = .ok (.goto 10, 3) := by decide +kernel
theorem dX7_hide_61 : decode cX7_hide 61 = .ok (.aload_n 0, 1) := by decide +kernel
theorem dX7_hide_62 : decode cX7_hide 62 = .ok (.getfield 34, 3) := by decide +kernel
theorem dX7_hide_65 : decode cX7_hide 65 = .ok (.iload_n 1, 1) := by decide +kernel
theorem dX7_hide_66 : decode cX7_hide 66 = .ok (.iload_n 3, 1) := by decide +kernel
theorem dX7_hide_67 : decode cX7_hide 67 = .ok (.iastore, 1) := by decide +kernel
theorem dX7_hide_68 : decode cX7_hide 68 = .ok (.iload 4, 2) := by decide +kernel
theorem dX7_hide_70 : decode cX7_hide 70 = .ok (.ireturn, 1) := by decide +kernel
theorem dX7_hidden_0 : decode cX7_hidden 0 = .ok (.iconst 0, 1) := by decide +kernel
theorem dX7_hidden_1 : decode cX7_hidden 1 = .ok (.istore_n 2, 1) := by decide +kernel
theorem dX7_hidden_2 : decode cX7_hidden 2 = .ok (.iconst 0, 1) := by decide +kernel
theorem dX7_hidden_3 : decode cX7_hidden 3 = .ok (.istore_n 3, 1) := by decide +kernel
theorem dX7_hidden_4 : decode cX7_hidden 4 = .ok (.iload_n 3, 1) := by decide +kernel
theorem dX7_hidden_5 : decode cX7_hidden 5 = .ok (.bipush 8, 2) := by decide +kernel
theorem dX7_hidden_7 : decode cX7_hidden 7 = .ok (.if_icmp .ge 49, 3) := by decide +kernel
theorem dX7_hidden_10 : decode cX7_hidden 10 = .ok (.iload_n 1, 1) := by decide +kernel
theorem dX7_hidden_11 : decode cX7_hidden 11 = .ok (.iload_n 3, 1) := by decide +kernel
theorem dX7_hidden_12 : decode cX7_hidden 12 = .ok (.invokestatic 104, 3) := by decide +kernel
theorem dX7_hidden_15 : decode cX7_hidden 15 = .ok (.istore 4, 2) := by decide +kernel
theorem dX7_hidden_17 : decode cX7_hidden 17 = .ok (.iload_n 2, 1) := by decide +kernel
theorem dX7_hidden_18 : decode cX7_hidden 18 = .ok (.iload 4, 2) := by decide +kernel
theorem dX7_hidden_20 : decode cX7_hidden 20 = .ok (.ifCond .ne 7, 3) := by decide +kernel
theorem dX7_hidden_23 : decode cX7_hidden 23 = .ok (.iconst 0, 1) := by decide +kernel
theorem dX7_hidden_24 : decode cX7_hidden 24 = .ok (.goto 24, 3) := by decide +kernel
theorem dX7_hidden_27 : decode cX7_hidden 27 = .ok (.iload 4, 2) := by decide +kernel
theorem dX7_hidden_29 : decode cX7_hidden 29 = .ok (.iconst 3, 1) := by decide +kernel
theorem dX7_hidden_30 : decode cX7_hidden 30 = .ok (.if_icmp .ne 12, 3) := by decide +kernel
theorem dX7_hidden_33 : decode cX7_hidden 33 = .ok (.aload_n 0, 1) := by decide +kernel
theorem dX7_hidden_34 : decode cX7_hidden 34 = .ok (.getfield 37, 3) := by decide +kernel
theorem dX7_hidden_37 : decode cX7_hidden 37 = .ok (.iload_n 3, 1) := by decide +kernel
theorem dX7_hidden_38 : decode cX7_hidden 38 = .ok (.iaload, 1) := by decide +kernel
theorem dX7_hidden_39 : decode cX7_hidden 39 = .ok (.goto 9, 3) := by decide +kernel
theorem dX7_hidden_42 : decode cX7_hidden 42 = .ok (.aload_n 0, 1) := by decide +kernel
theorem dX7_hidden_43 : decode cX7_hidden 43 = .ok (.getfield 34, 3) := by decide +kernel
theorem dX7_hidden_46 : decode cX7_hidden 46 = .ok (.iload_n 3, 1) := by decide +kernel
theorem dX7_hidden_47 : decode cX7_hidden 47 = .ok (.iaload, 1) := by decide +kernel
theorem dX7_hidden_48 : decode cX7_hidden 48 = .ok (.ior, 1) := by decide +kernel
theorem dX7_hidden_49 : decode cX7_hidden 49 = .ok (.istore_n 2, 1) := by decide +kernel
theorem dX7_hidden_50 : decode cX7_hidden 50 = .ok (.iinc 3 1, 3) := by decide +kernel
theorem dX7_hidden_53 : decode cX7_hidden 53 = .ok (.goto (-49), 3) := by decide +kernel
theorem dX7_hidden_56 : decode cX7_hidden 56 = .ok (.iload_n 2, 1) := by decide +kernel
theorem dX7_hidden_57 : decode cX7_hidden 57 = .ok (.ireturn, 1) := by decide +kernel
theorem dX7_ink_0 : decode cX7_ink 0 = .ok (.iconst 0, 1) := by decide +kernel
theorem dX7_ink_1 : decode cX7_ink 1 = .ok (.istore_n 1, 1) := by decide +kernel
theorem dX7_ink_2 : decode cX7_ink 2 = .ok (.iconst 0, 1) := by decide +kernel
theorem dX7_ink_3 : decode cX7_ink 3 = .ok (.istore_n 2, 1) := by decide +kernel
theorem dX7_ink_4 : decode cX7_ink 4 = .ok (.iload_n 2, 1) := by decide +kernel
theorem dX7_ink_5 : decode cX7_ink 5 = .ok (.bipush 8, 2) := by decide +kernel
theorem dX7_ink_7 : decode cX7_ink 7 = .ok (.if_icmp .ge 36, 3) := by decide +kernel
theorem dX7_ink_10 : decode cX7_ink 10 = .ok (.iload_n 0, 1) := by decide +kernel
theorem dX7_ink_11 : decode cX7_ink 11 = .ok (.iload_n 2, 1) := by decide +kernel
theorem dX7_ink_12 : decode cX7_ink 12 = .ok (.invokestatic 104, 3) := by decide +kernel
theorem dX7_ink_15 : decode cX7_ink 15 = .ok (.istore_n 3, 1) := by decide +kernel
theorem dX7_ink_16 : decode cX7_ink 16 = .ok (.iload_n 1, 1) := by decide +kernel
theorem dX7_ink_17 : decode cX7_ink 17 = .ok (.iload_n 3, 1) := by decide +kernel
theorem dX7_ink_18 : decode cX7_ink 18 = .ok (.ifCond .ne 7, 3) := by decide +kernel
theorem dX7_ink_21 : decode cX7_ink 21 = .ok (.iconst 0, 1) := by decide +kernel
theorem dX7_ink_22 : decode cX7_ink 22 = .ok (.goto 13, 3) := by decide +kernel
theorem dX7_ink_25 : decode cX7_ink 25 = .ok (.iload_n 3, 1) := by decide +kernel
theorem dX7_ink_26 : decode cX7_ink 26 = .ok (.iconst 3, 1) := by decide +kernel
theorem dX7_ink_27 : decode cX7_ink 27 = .ok (.if_icmp .ne 7, 3) := by decide +kernel
theorem dX7_ink_30 : decode cX7_ink 30 = .ok (.iconst 2, 1) := by decide +kernel
theorem dX7_ink_31 : decode cX7_ink 31 = .ok (.goto 4, 3) := by decide +kernel
theorem dX7_ink_34 : decode cX7_ink 34 = .ok (.iconst 1, 1) := by decide +kernel
theorem dX7_ink_35 : decode cX7_ink 35 = .ok (.iadd, 1) := by decide +kernel
theorem dX7_ink_36 : decode cX7_ink 36 = .ok (.istore_n 1, 1) := by decide +kernel
theorem dX7_ink_37 : decode cX7_ink 37 = .ok (.iinc 2 1, 3) := by decide +kernel
theorem dX7_ink_40 : decode cX7_ink 40 = .ok (.goto (-36), 3) := by decide +kernel
theorem dX7_ink_43 : decode cX7_ink 43 = .ok (.iload_n 1, 1) := by decide +kernel
theorem dX7_ink_44 : decode cX7_ink 44 = .ok (.ireturn, 1) := by decide +kernel
theorem dX7_hides_0 : decode cX7_hides 0 = .ok (.iload_n 1, 1) := by decide +kernel
theorem dX7_hides_1 : decode cX7_hides 1 = .ok (.invokestatic 74, 3) := by decide +kernel
theorem dX7_hides_4 : decode cX7_hides 4 = .ok (.ifCond .eq 12, 3) := by decide +kernel
theorem dX7_hides_7 : decode cX7_hides 7 = .ok (.iload_n 2, 1) := by decide +kernel
theorem dX7_hides_8 : decode cX7_hides 8 = .ok (.iconst 0, 1) := by decide +kernel
theorem dX7_hides_9 : decode cX7_hides 9 = .ok (.iconst 1, 1) := by decide +kernel
theorem dX7_hides_10 : decode cX7_hides 10 = .ok (.invokestatic 69, 3) := by decide +kernel
theorem dX7_hides_13 : decode cX7_hides 13 = .ok (.ifCond .ne 6, 3) := by decide +kernel
theorem dX7_hides_16 : decode cX7_hides 16 = .ok (.bipush (-2), 2) := by decide +kernel
theorem dX7_hides_18 : decode cX7_hides 18 = .ok (.ireturn, 1) := by decide +kernel
theorem dX7_hides_19 : decode cX7_hides 19 = .ok (.iload_n 2, 1) := by decide +kernel
theorem dX7_hides_20 : decode cX7_hides 20 = .ok (.ifCond .ne 11, 3) := by decide +kernel
theorem dX7_hides_23 : decode cX7_hides 23 = .ok (.aload_n 0, 1) := by decide +kernel
theorem dX7_hides_24 : decode cX7_hides 24 = .ok (.iload_n 1, 1) := by decide +kernel
theorem dX7_hides_25 : decode cX7_hides 25 = .ok (.invokevirtual 144, 3) := by decide +kernel
theorem dX7_hides_28 : decode cX7_hides 28 = .ok (.goto 7, 3) := by decide +kernel
theorem dX7_hides_31 : decode cX7_hides 31 = .ok (.iload_n 1, 1) := by decide +kernel
theorem dX7_hides_32 : decode cX7_hides 32 = .ok (.invokestatic 147, 3) := by decide +kernel
theorem dX7_hides_35 : decode cX7_hides 35 = .ok (.ireturn, 1) := by decide +kernel
theorem dX7_cover_0 : decode cX7_cover 0 = .ok (.iload_n 1, 1) := by decide +kernel
theorem dX7_cover_1 : decode cX7_cover 1 = .ok (.invokestatic 74, 3) := by decide +kernel
theorem dX7_cover_4 : decode cX7_cover 4 = .ok (.ifCond .ne 6, 3) := by decide +kernel
theorem dX7_cover_7 : decode cX7_cover 7 = .ok (.bipush (-2), 2) := by decide +kernel
theorem dX7_cover_9 : decode cX7_cover 9 = .ok (.ireturn, 1) := by decide +kernel
theorem dX7_cover_10 : decode cX7_cover 10 = .ok (.iconst 0, 1) := by decide +kernel
theorem dX7_cover_11 : decode cX7_cover 11 = .ok (.istore_n 2, 1) := by decide +kernel
theorem dX7_cover_12 : decode cX7_cover 12 = .ok (.iconst 0, 1) := by decide +kernel
theorem dX7_cover_13 : decode cX7_cover 13 = .ok (.istore_n 3, 1) := by decide +kernel
theorem dX7_cover_14 : decode cX7_cover 14 = .ok (.iload_n 3, 1) := by decide +kernel
theorem dX7_cover_15 : decode cX7_cover 15 = .ok (.bipush 8, 2) := by decide +kernel
theorem dX7_cover_17 : decode cX7_cover 17 = .ok (.if_icmp .ge 27, 3) := by decide +kernel
theorem dX7_cover_20 : decode cX7_cover 20 = .ok (.iload_n 2, 1) := by decide +kernel
theorem dX7_cover_21 : decode cX7_cover 21 = .ok (.iload_n 1, 1) := by decide +kernel
theorem dX7_cover_22 : decode cX7_cover 22 = .ok (.iload_n 3, 1) := by decide +kernel
theorem dX7_cover_23 : decode cX7_cover 23 = .ok (.invokestatic 104, 3) := by decide +kernel
theorem dX7_cover_26 : decode cX7_cover 26 = .ok (.ifCond .le 9, 3) := by decide +kernel
theorem dX7_cover_29 : decode cX7_cover 29 = .ok (.iconst 1, 1) := by decide +kernel
theorem dX7_cover_30 : decode cX7_cover 30 = .ok (.iload_n 3, 1) := by decide +kernel
theorem dX7_cover_31 : decode cX7_cover 31 = .ok (.ishl, 1) := by decide +kernel
theorem dX7_cover_32 : decode cX7_cover 32 = .ok (.goto 4, 3) := by decide +kernel
theorem dX7_cover_35 : decode cX7_cover 35 = .ok (.iconst 0, 1) := by decide +kernel
theorem dX7_cover_36 : decode cX7_cover 36 = .ok (.ior, 1) := by decide +kernel
theorem dX7_cover_37 : decode cX7_cover 37 = .ok (.istore_n 2, 1) := by decide +kernel
theorem dX7_cover_38 : decode cX7_cover 38 = .ok (.iinc 3 1, 3) := by decide +kernel
theorem dX7_cover_41 : decode cX7_cover 41 = .ok (.goto (-27), 3) := by decide +kernel
theorem dX7_cover_44 : decode cX7_cover 44 = .ok (.bipush (-6), 2) := by decide +kernel
theorem dX7_cover_46 : decode cX7_cover 46 = .ok (.istore_n 3, 1) := by decide +kernel
theorem dX7_cover_47 : decode cX7_cover 47 = .ok (.iconst 0, 1) := by decide +kernel
theorem dX7_cover_48 : decode cX7_cover 48 = .ok (.istore 4, 2) := by decide +kernel
theorem dX7_cover_50 : decode cX7_cover 50 = .ok (.iload 4, 2) := by decide +kernel
theorem dX7_cover_52 : decode cX7_cover 52 = .ok (.sipush 6561, 3) := by decide +kernel
theorem dX7_cover_55 : decode cX7_cover 55 = .ok (.if_icmp .ge 100, 3) := by decide +kernel
theorem dX7_cover_58 : decode cX7_cover 58 = .ok (.iload 4, 2) := by decide +kernel
theorem dX7_cover_60 : decode cX7_cover 60 = .ok (.istore 5, 2) := by decide +kernel
theorem dX7_cover_62 : decode cX7_cover 62 = .ok (.iconst 0, 1) := by decide +kernel
theorem dX7_cover_63 : decode cX7_cover 63 = .ok (.istore 6, 2) := by decide +kernel
theorem dX7_cover_65 : decode cX7_cover 65 = .ok (.bipush 7, 2) := by decide +kernel
theorem dX7_cover_67 : decode cX7_cover 67 = .ok (.istore 7, 2) := by decide +kernel
theorem dX7_cover_69 : decode cX7_cover 69 = .ok (.iload 7, 2) := by decide +kernel
theorem dX7_cover_71 : decode cX7_cover 71 = .ok (.ifCond .lt 46, 3) := by decide +kernel
theorem dX7_cover_74 : decode cX7_cover 74 = .ok (.iload 5, 2) := by decide +kernel
theorem dX7_cover_76 : decode cX7_cover 76 = .ok (.iconst 3, 1) := by decide +kernel
theorem dX7_cover_77 : decode cX7_cover 77 = .ok (.irem, 1) := by decide +kernel
theorem dX7_cover_78 : decode cX7_cover 78 = .ok (.istore 8, 2) := by decide +kernel
theorem dX7_cover_80 : decode cX7_cover 80 = .ok (.iload 6, 2) := by decide +kernel
theorem dX7_cover_82 : decode cX7_cover 82 = .ok (.iload 8, 2) := by decide +kernel
theorem dX7_cover_84 : decode cX7_cover 84 = .ok (.iconst 2, 1) := by decide +kernel
theorem dX7_cover_85 : decode cX7_cover 85 = .ok (.if_icmp .ne 7, 3) := by decide +kernel
theorem dX7_cover_88 : decode cX7_cover 88 = .ok (.iconst 3, 1) := by decide +kernel
theorem dX7_cover_89 : decode cX7_cover 89 = .ok (.goto 5, 3) := by decide +kernel
theorem dX7_cover_92 : decode cX7_cover 92 = .ok (.iload 8, 2) := by decide +kernel
theorem dX7_cover_94 : decode cX7_cover 94 = .ok (.bipush 14, 2) := by decide +kernel
theorem dX7_cover_96 : decode cX7_cover 96 = .ok (.iconst 2, 1) := by decide +kernel
theorem dX7_cover_97 : decode cX7_cover 97 = .ok (.iload 7, 2) := by decide +kernel
theorem dX7_cover_99 : decode cX7_cover 99 = .ok (.imul, 1) := by decide +kernel
theorem dX7_cover_100 : decode cX7_cover 100 = .ok (.isub, 1) := by decide +kernel
theorem dX7_cover_101 : decode cX7_cover 101 = .ok (.ishl, 1) := by decide +kernel
theorem dX7_cover_102 : decode cX7_cover 102 = .ok (.ior, 1) := by decide +kernel
theorem dX7_cover_103 : decode cX7_cover 103 = .ok (.istore 6, 2) := by decide +kernel
theorem dX7_cover_105 : decode cX7_cover 105 = .ok (.iload 5, 2) := by decide +kernel
theorem dX7_cover_107 : decode cX7_cover 107 = .ok (.iconst 3, 1) := by decide +kernel
theorem dX7_cover_108 : decode cX7_cover 108 = .ok (.idiv, 1) := by decide +kernel
theorem dX7_cover_109 : decode cX7_cover 109 = .ok (.istore 5, 2) := by decide +kernel
theorem dX7_cover_111 : decode cX7_cover 111 = .ok (.iinc 7 (-1), 3) := by decide +kernel
theorem dX7_cover_114 : decode cX7_cover 114 = .ok (.goto (-45), 3) := by decide +kernel
theorem dX7_cover_117 : decode cX7_cover 117 = .ok (.iload_n 2, 1) := by decide +kernel
theorem dX7_cover_118 : decode cX7_cover 118 = .ok (.aload_n 0, 1) := by decide +kernel
theorem dX7_cover_119 : decode cX7_cover 119 = .ok (.iload 6, 2) := by decide +kernel
theorem dX7_cover_121 : decode cX7_cover 121 = .ok (.invokevirtual 144, 3) := by decide +kernel
theorem dX7_cover_124 : decode cX7_cover 124 = .ok (.iconst (-1), 1) := by decide +kernel
theorem dX7_cover_125 : decode cX7_cover 125 = .ok (.ixor, 1) := by decide +kernel
theorem dX7_cover_126 : decode cX7_cover 126 = .ok (.iand, 1) := by decide +kernel
theorem dX7_cover_127 : decode cX7_cover 127 = .ok (.ifCond .ne 22, 3) := by decide +kernel
theorem dX7_cover_130 : decode cX7_cover 130 = .ok (.iload_n 3, 1) := by decide +kernel
theorem dX7_cover_131 : decode cX7_cover 131 = .ok (.ifCond .lt 15, 3) := by decide +kernel
theorem dX7_cover_134 : decode cX7_cover 134 = .ok (.iload 6, 2) := by decide +kernel
theorem dX7_cover_136 : decode cX7_cover 136 = .ok (.invokestatic 147, 3) := by decide +kernel
theorem dX7_cover_139 : decode cX7_cover 139 = .ok (.iload_n 3, 1) := by decide +kernel
theorem dX7_cover_140 : decode cX7_cover 140 = .ok (.invokestatic 147, 3) := by decide +kernel
theorem dX7_cover_143 : decode cX7_cover 143 = .ok (.if_icmp .ge 6, 3) := by decide +kernel
theorem dX7_cover_146 : decode cX7_cover 146 = .ok (.iload 6, 2) := by decide +kernel
theorem dX7_cover_148 : decode cX7_cover 148 = .ok (.istore_n 3, 1) := by decide +kernel
theorem dX7_cover_149 : decode cX7_cover 149 = .ok (.iinc 4 1, 3) := by decide +kernel
theorem dX7_cover_152 : decode cX7_cover 152 = .ok (.goto (-102), 3) := by decide +kernel
theorem dX7_cover_155 : decode cX7_cover 155 = .ok (.iload_n 3, 1) := by decide +kernel
theorem dX7_cover_156 : decode cX7_cover 156 = .ok (.ireturn, 1) := by decide +kernel
theorem dX7_under_0 : decode cX7_under 0 = .ok (.iload_n 1, 1) := by decide +kernel
theorem dX7_under_1 : decode cX7_under 1 = .ok (.invokestatic 74, 3) := by decide +kernel
theorem dX7_under_4 : decode cX7_under 4 = .ok (.ifCond .ne 6, 3) := by decide +kernel
theorem dX7_under_7 : decode cX7_under 7 = .ok (.bipush (-2), 2) := by decide +kernel
theorem dX7_under_9 : decode cX7_under 9 = .ok (.ireturn, 1) := by decide +kernel
theorem dX7_under_10 : decode cX7_under 10 = .ok (.aload_n 0, 1) := by decide +kernel
theorem dX7_under_11 : decode cX7_under 11 = .ok (.iload_n 1, 1) := by decide +kernel
theorem dX7_under_12 : decode cX7_under 12 = .ok (.invokevirtual 144, 3) := by decide +kernel
theorem dX7_under_15 : decode cX7_under 15 = .ok (.istore_n 2, 1) := by decide +kernel
theorem dX7_under_16 : decode cX7_under 16 = .ok (.iconst 0, 1) := by decide +kernel
theorem dX7_under_17 : decode cX7_under 17 = .ok (.istore_n 3, 1) := by decide +kernel
theorem dX7_under_18 : decode cX7_under 18 = .ok (.iconst 0, 1) := by decide +kernel
theorem dX7_under_19 : decode cX7_under 19 = .ok (.istore 4, 2) := by decide +kernel
theorem dX7_under_21 : decode cX7_under 21 = .ok (.iload 4, 2) := by decide +kernel
theorem dX7_under_23 : decode cX7_under 23 = .ok (.aload_n 0, 1) := by decide +kernel
theorem dX7_under_24 : decode cX7_under 24 = .ok (.getfield 65, 3) := by decide +kernel
theorem dX7_under_27 : decode cX7_under 27 = .ok (.if_icmp .ge 96, 3) := by decide +kernel
theorem dX7_under_30 : decode cX7_under 30 = .ok (.iconst 1, 1) := by decide +kernel
theorem dX7_under_31 : decode cX7_under 31 = .ok (.istore 5, 2) := by decide +kernel
theorem dX7_under_33 : decode cX7_under 33 = .ok (.iconst 0, 1) := by decide +kernel
theorem dX7_under_34 : decode cX7_under 34 = .ok (.istore 6, 2) := by decide +kernel
theorem dX7_under_36 : decode cX7_under 36 = .ok (.iload 6, 2) := by decide +kernel
theorem dX7_under_38 : decode cX7_under 38 = .ok (.bipush 8, 2) := by decide +kernel
theorem dX7_under_40 : decode cX7_under 40 = .ok (.if_icmp .ge 61, 3) := by decide +kernel
theorem dX7_under_43 : decode cX7_under 43 = .ok (.aload_n 0, 1) := by decide +kernel
theorem dX7_under_44 : decode cX7_under 44 = .ok (.getfield 7, 3) := by decide +kernel
theorem dX7_under_47 : decode cX7_under 47 = .ok (.iload 4, 2) := by decide +kernel
theorem dX7_under_49 : decode cX7_under 49 = .ok (.iaload, 1) := by decide +kernel
theorem dX7_under_50 : decode cX7_under 50 = .ok (.iload 6, 2) := by decide +kernel
theorem dX7_under_52 : decode cX7_under 52 = .ok (.invokestatic 104, 3) := by decide +kernel
theorem dX7_under_55 : decode cX7_under 55 = .ok (.istore 7, 2) := by decide +kernel
theorem dX7_under_57 : decode cX7_under 57 = .ok (.iload 5, 2) := by decide +kernel
theorem dX7_under_59 : decode cX7_under 59 = .ok (.ifCond .eq 33, 3) := by decide +kernel
theorem dX7_under_62 : decode cX7_under 62 = .ok (.iload 7, 2) := by decide +kernel
theorem dX7_under_64 : decode cX7_under 64 = .ok (.ifCond .eq 24, 3) := by decide +kernel
theorem dX7_under_67 : decode cX7_under 67 = .ok (.iload_n 2, 1) := by decide +kernel
theorem dX7_under_68 : decode cX7_under 68 = .ok (.iload 6, 2) := by decide +kernel
theorem dX7_under_70 : decode cX7_under 70 = .ok (.ishr, 1) := by decide +kernel
theorem dX7_under_71 : decode cX7_under 71 = .ok (.iconst 1, 1) := by decide +kernel
theorem dX7_under_72 : decode cX7_under 72 = .ok (.iand, 1) := by decide +kernel
theorem dX7_under_73 : decode cX7_under 73 = .ok (.iconst 1, 1) := by decide +kernel
theorem dX7_under_74 : decode cX7_under 74 = .ok (.if_icmp .eq 14, 3) := by decide +kernel
theorem dX7_under_77 : decode cX7_under 77 = .ok (.iload 7, 2) := by decide +kernel
theorem dX7_under_79 : decode cX7_under 79 = .ok (.iload_n 1, 1) := by decide +kernel
theorem dX7_under_80 : decode cX7_under 80 = .ok (.iload 6, 2) := by decide +kernel
theorem dX7_under_82 : decode cX7_under 82 = .ok (.invokestatic 104, 3) := by decide +kernel
theorem dX7_under_85 : decode cX7_under 85 = .ok (.if_icmp .ne 7, 3) := by decide +kernel
theorem dX7_under_88 : decode cX7_under 88 = .ok (.iconst 1, 1) := by decide +kernel
theorem dX7_under_89 : decode cX7_under 89 = .ok (.goto 4, 3) := by decide +kernel
theorem dX7_under_92 : decode cX7_under 92 = .ok (.iconst 0, 1) := by decide +kernel
theorem dX7_under_93 : decode cX7_under 93 = .ok (.istore 5, 2) := by decide +kernel
theorem dX7_under_95 : decode cX7_under 95 = .ok (.iinc 6 1, 3) := by decide +kernel
theorem dX7_under_98 : decode cX7_under 98 = .ok (.goto (-62), 3) := by decide +kernel
theorem dX7_under_101 : decode cX7_under 101 = .ok (.iload_n 3, 1) := by decide +kernel
theorem dX7_under_102 : decode cX7_under 102 = .ok (.iload 5, 2) := by decide +kernel
theorem dX7_under_104 : decode cX7_under 104 = .ok (.ifCond .eq 10, 3) := by decide +kernel
theorem dX7_under_107 : decode cX7_under 107 = .ok (.iconst 1, 1) := by decide +kernel
theorem dX7_under_108 : decode cX7_under 108 = .ok (.iload 4, 2) := by decide +kernel
theorem dX7_under_110 : decode cX7_under 110 = .ok (.ishl, 1) := by decide +kernel
theorem dX7_under_111 : decode cX7_under 111 = .ok (.goto 4, 3) := by decide +kernel
theorem dX7_under_114 : decode cX7_under 114 = .ok (.iconst 0, 1) := by decide +kernel
theorem dX7_under_115 : decode cX7_under 115 = .ok (.ior, 1) := by decide +kernel
theorem dX7_under_116 : decode cX7_under 116 = .ok (.istore_n 3, 1) := by decide +kernel
theorem dX7_under_117 : decode cX7_under 117 = .ok (.iinc 4 1, 3) := by decide +kernel
theorem dX7_under_120 : decode cX7_under 120 = .ok (.goto (-99), 3) := by decide +kernel
theorem dX7_under_123 : decode cX7_under 123 = .ok (.iload_n 3, 1) := by decide +kernel
theorem dX7_under_124 : decode cX7_under 124 = .ok (.ireturn, 1) := by decide +kernel
theorem dX7_isMan_0 : decode cX7_isMan 0 = .ok (.iload_n 1, 1) := by decide +kernel
theorem dX7_isMan_1 : decode cX7_isMan 1 = .ok (.iconst 0, 1) := by decide +kernel
theorem dX7_isMan_2 : decode cX7_isMan 2 = .ok (.aload_n 0, 1) := by decide +kernel
theorem dX7_isMan_3 : decode cX7_isMan 3 = .ok (.getfield 150, 3) := by decide +kernel
theorem dX7_isMan_6 : decode cX7_isMan 6 = .ok (.iconst 1, 1) := by decide +kernel
theorem dX7_isMan_7 : decode cX7_isMan 7 = .ok (.isub, 1) := by decide +kernel
theorem dX7_isMan_8 : decode cX7_isMan 8 = .ok (.invokestatic 69, 3) := by decide +kernel
theorem dX7_isMan_11 : decode cX7_isMan 11 = .ok (.ireturn, 1) := by decide +kernel
theorem dX7_man_0 : decode cX7_man 0 = .ok (.aload_n 0, 1) := by decide +kernel
theorem dX7_man_1 : decode cX7_man 1 = .ok (.getfield 150, 3) := by decide +kernel
theorem dX7_man_4 : decode cX7_man 4 = .ok (.bipush 8, 2) := by decide +kernel
theorem dX7_man_6 : decode cX7_man 6 = .ok (.if_icmp .ne 6, 3) := by decide +kernel
theorem dX7_man_9 : decode cX7_man 9 = .ok (.bipush (-4), 2) := by decide +kernel
theorem dX7_man_11 : decode cX7_man 11 = .ok (.ireturn, 1) := by decide +kernel
theorem dX7_man_12 : decode cX7_man 12 = .ok (.aload_n 0, 1) := by decide +kernel
theorem dX7_man_13 : decode cX7_man 13 = .ok (.getfield 40, 3) := by decide +kernel
theorem dX7_man_16 : decode cX7_man 16 = .ok (.aload_n 0, 1) := by decide +kernel
theorem dX7_man_17 : decode cX7_man 17 = .ok (.getfield 150, 3) := by decide +kernel
theorem dX7_man_20 : decode cX7_man 20 = .ok (.bipush (-6), 2) := by decide +kernel
theorem dX7_man_22 : decode cX7_man 22 = .ok (.iastore, 1) := by decide +kernel
theorem dX7_man_23 : decode cX7_man 23 = .ok (.aload_n 0, 1) := by decide +kernel
theorem dX7_man_24 : decode cX7_man 24 = .ok (.dup, 1) := by decide +kernel
theorem dX7_man_25 : decode cX7_man 25 = .ok (.getfield 150, 3) := by decide +kernel
theorem dX7_man_28 : decode cX7_man 28 = .ok (.iconst 1, 1) := by decide +kernel
theorem dX7_man_29 : decode cX7_man 29 = .ok (.iadd, 1) := by decide +kernel
theorem dX7_man_30 : decode cX7_man 30 = .ok (.putfield 150, 3) := by decide +kernel
theorem dX7_man_33 : decode cX7_man 33 = .ok (.aload_n 0, 1) := by decide +kernel
theorem dX7_man_34 : decode cX7_man 34 = .ok (.getfield 150, 3) := by decide +kernel
theorem dX7_man_37 : decode cX7_man 37 = .ok (.iconst 1, 1) := by decide +kernel
theorem dX7_man_38 : decode cX7_man 38 = .ok (.isub, 1) := by decide +kernel
theorem dX7_man_39 : decode cX7_man 39 = .ok (.ireturn, 1) := by decide +kernel
theorem dX7_meet_0 : decode cX7_meet 0 = .ok (.aload_n 0, 1) := by decide +kernel
theorem dX7_meet_1 : decode cX7_meet 1 = .ok (.iload_n 1, 1) := by decide +kernel
theorem dX7_meet_2 : decode cX7_meet 2 = .ok (.invokevirtual 153, 3) := by decide +kernel
theorem dX7_meet_5 : decode cX7_meet 5 = .ok (.ifCond .ne 5, 3) := by decide +kernel
theorem dX7_meet_8 : decode cX7_meet 8 = .ok (.iconst (-1), 1) := by decide +kernel
theorem dX7_meet_9 : decode cX7_meet 9 = .ok (.ireturn, 1) := by decide +kernel
theorem dX7_meet_10 : decode cX7_meet 10 = .ok (.iload_n 2, 1) := by decide +kernel
theorem dX7_meet_11 : decode cX7_meet 11 = .ok (.aload_n 0, 1) := by decide +kernel
theorem dX7_meet_12 : decode cX7_meet 12 = .ok (.getfield 156, 3) := by decide +kernel
theorem dX7_meet_15 : decode cX7_meet 15 = .ok (.ifCond .ne 7, 3) := by decide +kernel
theorem dX7_meet_18 : decode cX7_meet 18 = .ok (.iconst 0, 1) := by decide +kernel
theorem dX7_meet_19 : decode cX7_meet 19 = .ok (.goto 14, 3) := by decide +kernel
theorem dX7_meet_22 : decode cX7_meet 22 = .ok (.aload_n 0, 1) := by decide +kernel
theorem dX7_meet_23 : decode cX7_meet 23 = .ok (.getfield 46, 3) := by decide +kernel
theorem dX7_meet_26 : decode cX7_meet 26 = .ok (.aload_n 0, 1) := by decide +kernel
theorem dX7_meet_27 : decode cX7_meet 27 = .ok (.getfield 156, 3) := by decide +kernel
theorem dX7_meet_30 : decode cX7_meet 30 = .ok (.iconst 1, 1) := by decide +kernel
theorem dX7_meet_31 : decode cX7_meet 31 = .ok (.isub, 1) := by decide +kernel
theorem dX7_meet_32 : decode cX7_meet 32 = .ok (.iaload, 1) := by decide +kernel
theorem dX7_meet_33 : decode cX7_meet 33 = .ok (.bipush 99, 2) := by decide +kernel
theorem dX7_meet_35 : decode cX7_meet 35 = .ok (.invokestatic 69, 3) := by decide +kernel
theorem dX7_meet_38 : decode cX7_meet 38 = .ok (.ifCond .ne 6, 3) := by decide +kernel
theorem dX7_meet_41 : decode cX7_meet 41 = .ok (.bipush (-2), 2) := by decide +kernel
theorem dX7_meet_43 : decode cX7_meet 43 = .ok (.ireturn, 1) := by decide +kernel
theorem dX7_meet_44 : decode cX7_meet 44 = .ok (.aload_n 0, 1) := by decide +kernel
theorem dX7_meet_45 : decode cX7_meet 45 = .ok (.getfield 156, 3) := by decide +kernel
theorem dX7_meet_48 : decode cX7_meet 48 = .ok (.bipush 16, 2) := by decide +kernel
theorem dX7_meet_50 : decode cX7_meet 50 = .ok (.if_icmp .ne 6, 3) := by decide +kernel
theorem dX7_meet_53 : decode cX7_meet 53 = .ok (.bipush (-4), 2) := by decide +kernel
theorem dX7_meet_55 : decode cX7_meet 55 = .ok (.ireturn, 1) := by decide +kernel
theorem dX7_meet_56 : decode cX7_meet 56 = .ok (.aload_n 0, 1) := by decide +kernel
theorem dX7_meet_57 : decode cX7_meet 57 = .ok (.getfield 43, 3) := by decide +kernel
theorem dX7_meet_60 : decode cX7_meet 60 = .ok (.aload_n 0, 1) := by decide +kernel
theorem dX7_meet_61 : decode cX7_meet 61 = .ok (.getfield 156, 3) := by decide +kernel
theorem dX7_meet_64 : decode cX7_meet 64 = .ok (.iload_n 1, 1) := by decide +kernel
theorem dX7_meet_65 : decode cX7_meet 65 = .ok (.iastore, 1) := by decide +kernel
theorem dX7_meet_66 : decode cX7_meet 66 = .ok (.aload_n 0, 1) := by decide +kernel
theorem dX7_meet_67 : decode cX7_meet 67 = .ok (.getfield 46, 3) := by decide +kernel
theorem dX7_meet_70 : decode cX7_meet 70 = .ok (.aload_n 0, 1) := by decide +kernel
theorem dX7_meet_71 : decode cX7_meet 71 = .ok (.getfield 156, 3) := by decide +kernel
theorem dX7_meet_74 : decode cX7_meet 74 = .ok (.iload_n 2, 1) := by decide +kernel
theorem dX7_meet_75 : decode cX7_meet 75 = .ok (.iastore, 1) := by decide +kernel
theorem dX7_meet_76 : decode cX7_meet 76 = .ok (.aload_n 0, 1) := by decide +kernel
theorem dX7_meet_77 : decode cX7_meet 77 = .ok (.dup, 1) := by decide +kernel
theorem dX7_meet_78 : decode cX7_meet 78 = .ok (.getfield 156, 3) := by decide +kernel
theorem dX7_meet_81 : decode cX7_meet 81 = .ok (.iconst 1, 1) := by decide +kernel
theorem dX7_meet_82 : decode cX7_meet 82 = .ok (.iadd, 1) := by decide +kernel
theorem dX7_meet_83 : decode cX7_meet 83 = .ok (.putfield 156, 3) := by decide +kernel
theorem dX7_meet_86 : decode cX7_meet 86 = .ok (.aload_n 0, 1) := by decide +kernel
theorem dX7_meet_87 : decode cX7_meet 87 = .ok (.getfield 156, 3) := by decide +kernel
theorem dX7_meet_90 : decode cX7_meet 90 = .ok (.iconst 1, 1) := by decide +kernel
theorem dX7_meet_91 : decode cX7_meet 91 = .ok (.isub, 1) := by decide +kernel
theorem dX7_meet_92 : decode cX7_meet 92 = .ok (.ireturn, 1) := by decide +kernel
theorem dX7_sick_0 : decode cX7_sick 0 = .ok (.aload_n 0, 1) := by decide +kernel
theorem dX7_sick_1 : decode cX7_sick 1 = .ok (.iload_n 1, 1) := by decide +kernel
theorem dX7_sick_2 : decode cX7_sick 2 = .ok (.invokevirtual 153, 3) := by decide +kernel
theorem dX7_sick_5 : decode cX7_sick 5 = .ok (.ifCond .ne 5, 3) := by decide +kernel
theorem dX7_sick_8 : decode cX7_sick 8 = .ok (.iconst (-1), 1) := by decide +kernel
theorem dX7_sick_9 : decode cX7_sick 9 = .ok (.ireturn, 1) := by decide +kernel
theorem dX7_sick_10 : decode cX7_sick 10 = .ok (.iload_n 2, 1) := by decide +kernel
theorem dX7_sick_11 : decode cX7_sick 11 = .ok (.iconst (-1), 1) := by decide +kernel
theorem dX7_sick_12 : decode cX7_sick 12 = .ok (.bipush 99, 2) := by decide +kernel
theorem dX7_sick_14 : decode cX7_sick 14 = .ok (.invokestatic 69, 3) := by decide +kernel
theorem dX7_sick_17 : decode cX7_sick 17 = .ok (.ifCond .ne 6, 3) := by decide +kernel
theorem dX7_sick_20 : decode cX7_sick 20 = .ok (.bipush (-2), 2) := by decide +kernel
theorem dX7_sick_22 : decode cX7_sick 22 = .ok (.ireturn, 1) := by decide +kernel
theorem dX7_sick_23 : decode cX7_sick 23 = .ok (.aload_n 0, 1) := by decide +kernel
theorem dX7_sick_24 : decode cX7_sick 24 = .ok (.getfield 40, 3) := by decide +kernel
theorem dX7_sick_27 : decode cX7_sick 27 = .ok (.iload_n 1, 1) := by decide +kernel
theorem dX7_sick_28 : decode cX7_sick 28 = .ok (.iaload, 1) := by decide +kernel
theorem dX7_sick_29 : decode cX7_sick 29 = .ok (.istore_n 3, 1) := by decide +kernel
theorem dX7_sick_30 : decode cX7_sick 30 = .ok (.aload_n 0, 1) := by decide +kernel
theorem dX7_sick_31 : decode cX7_sick 31 = .ok (.getfield 40, 3) := by decide +kernel
theorem dX7_sick_34 : decode cX7_sick 34 = .ok (.iload_n 1, 1) := by decide +kernel
theorem dX7_sick_35 : decode cX7_sick 35 = .ok (.iload_n 2, 1) := by decide +kernel
theorem dX7_sick_36 : decode cX7_sick 36 = .ok (.ifCond .ge 8, 3) := by decide +kernel
theorem dX7_sick_39 : decode cX7_sick 39 = .ok (.bipush (-6), 2) := by decide +kernel
theorem dX7_sick_41 : decode cX7_sick 41 = .ok (.goto 4, 3) := by decide +kernel
theorem dX7_sick_44 : decode cX7_sick 44 = .ok (.iload_n 2, 1) := by decide +kernel
theorem dX7_sick_45 : decode cX7_sick 45 = .ok (.iastore, 1) := by decide +kernel
theorem dX7_sick_46 : decode cX7_sick 46 = .ok (.iload_n 3, 1) := by decide +kernel
theorem dX7_sick_47 : decode cX7_sick 47 = .ok (.ireturn, 1) := by decide +kernel
theorem dX7_fromOf_0 : decode cX7_fromOf 0 = .ok (.iconst 0, 1) := by decide +kernel
theorem dX7_fromOf_1 : decode cX7_fromOf 1 = .ok (.istore_n 2, 1) := by decide +kernel
theorem dX7_fromOf_2 : decode cX7_fromOf 2 = .ok (.iconst 1, 1) := by decide +kernel
theorem dX7_fromOf_3 : decode cX7_fromOf 3 = .ok (.istore_n 3, 1) := by decide +kernel
theorem dX7_fromOf_4 : decode cX7_fromOf 4 = .ok (.iload_n 3, 1) := by decide +kernel
theorem dX7_fromOf_5 : decode cX7_fromOf 5 = .ok (.aload_n 0, 1) := by decide +kernel
theorem dX7_fromOf_6 : decode cX7_fromOf 6 = .ok (.getfield 156, 3) := by decide +kernel
theorem dX7_fromOf_9 : decode cX7_fromOf 9 = .ok (.if_icmp .ge 164, 3) := by decide +kernel
theorem dX7_fromOf_12 : decode cX7_fromOf 12 = .ok (.aload_n 0, 1) := by decide +kernel
theorem dX7_fromOf_13 : decode cX7_fromOf 13 = .ok (.getfield 40, 3) := by decide +kernel
theorem dX7_fromOf_16 : decode cX7_fromOf 16 = .ok (.iload_n 1, 1) := by decide +kernel
theorem dX7_fromOf_17 : decode cX7_fromOf 17 = .ok (.iaload, 1) := by decide +kernel
theorem dX7_fromOf_18 : decode cX7_fromOf 18 = .ok (.ifCond .lt 155, 3) := by decide +kernel
theorem dX7_fromOf_21 : decode cX7_fromOf 21 = .ok (.aload_n 0, 1) := by decide +kernel
theorem dX7_fromOf_22 : decode cX7_fromOf 22 = .ok (.getfield 43, 3) := by decide +kernel
theorem dX7_fromOf_25 : decode cX7_fromOf 25 = .ok (.iload_n 3, 1) := by decide +kernel
theorem dX7_fromOf_26 : decode cX7_fromOf 26 = .ok (.iconst 1, 1) := by decide +kernel
theorem dX7_fromOf_27 : decode cX7_fromOf 27 = .ok (.isub, 1) := by decide +kernel
theorem dX7_fromOf_28 : decode cX7_fromOf 28 = .ok (.iaload, 1) := by decide +kernel
theorem dX7_fromOf_29 : decode cX7_fromOf 29 = .ok (.istore 4, 2) := by decide +kernel
theorem dX7_fromOf_31 : decode cX7_fromOf 31 = .ok (.aload_n 0, 1) := by decide +kernel
theorem dX7_fromOf_32 : decode cX7_fromOf 32 = .ok (.getfield 46, 3) := by decide +kernel
theorem dX7_fromOf_35 : decode cX7_fromOf 35 = .ok (.iload_n 3, 1) := by decide +kernel
theorem dX7_fromOf_36 : decode cX7_fromOf 36 = .ok (.iaload, 1) := by decide +kernel
theorem dX7_fromOf_37 : decode cX7_fromOf 37 = .ok (.istore 5, 2) := by decide +kernel
theorem dX7_fromOf_39 : decode cX7_fromOf 39 = .ok (.aload_n 0, 1) := by decide +kernel
theorem dX7_fromOf_40 : decode cX7_fromOf 40 = .ok (.getfield 43, 3) := by decide +kernel
theorem dX7_fromOf_43 : decode cX7_fromOf 43 = .ok (.iload_n 3, 1) := by decide +kernel
theorem dX7_fromOf_44 : decode cX7_fromOf 44 = .ok (.iaload, 1) := by decide +kernel
theorem dX7_fromOf_45 : decode cX7_fromOf 45 = .ok (.iload_n 1, 1) := by decide +kernel
theorem dX7_fromOf_46 : decode cX7_fromOf 46 = .ok (.if_icmp .ne 36, 3) := by decide +kernel
theorem dX7_fromOf_49 : decode cX7_fromOf 49 = .ok (.iload 5, 2) := by decide +kernel
theorem dX7_fromOf_51 : decode cX7_fromOf 51 = .ok (.aload_n 0, 1) := by decide +kernel
theorem dX7_fromOf_52 : decode cX7_fromOf 52 = .ok (.getfield 40, 3) := by decide +kernel
theorem dX7_fromOf_55 : decode cX7_fromOf 55 = .ok (.iload_n 1, 1) := by decide +kernel
theorem dX7_fromOf_56 : decode cX7_fromOf 56 = .ok (.iaload, 1) := by decide +kernel
theorem dX7_fromOf_57 : decode cX7_fromOf 57 = .ok (.aload_n 0, 1) := by decide +kernel
theorem dX7_fromOf_58 : decode cX7_fromOf 58 = .ok (.getfield 22, 3) := by decide +kernel
theorem dX7_fromOf_61 : decode cX7_fromOf 61 = .ok (.iconst 2, 1) := by decide +kernel
theorem dX7_fromOf_62 : decode cX7_fromOf 62 = .ok (.iaload, 1) := by decide +kernel
theorem dX7_fromOf_63 : decode cX7_fromOf 63 = .ok (.isub, 1) := by decide +kernel
theorem dX7_fromOf_64 : decode cX7_fromOf 64 = .ok (.aload_n 0, 1) := by decide +kernel
theorem dX7_fromOf_65 : decode cX7_fromOf 65 = .ok (.getfield 40, 3) := by decide +kernel
theorem dX7_fromOf_68 : decode cX7_fromOf 68 = .ok (.iload_n 1, 1) := by decide +kernel
theorem dX7_fromOf_69 : decode cX7_fromOf 69 = .ok (.iaload, 1) := by decide +kernel
theorem dX7_fromOf_70 : decode cX7_fromOf 70 = .ok (.iconst 1, 1) := by decide +kernel
theorem dX7_fromOf_71 : decode cX7_fromOf 71 = .ok (.isub, 1) := by decide +kernel
theorem dX7_fromOf_72 : decode cX7_fromOf 72 = .ok (.invokestatic 69, 3) := by decide +kernel
theorem dX7_fromOf_75 : decode cX7_fromOf 75 = .ok (.ifCond .eq 7, 3) := by decide +kernel
theorem dX7_fromOf_78 : decode cX7_fromOf 78 = .ok (.iconst 1, 1) := by decide +kernel
theorem dX7_fromOf_79 : decode cX7_fromOf 79 = .ok (.goto 4, 3) := by decide +kernel
theorem dX7_fromOf_82 : decode cX7_fromOf 82 = .ok (.iconst 0, 1) := by decide +kernel
theorem dX7_fromOf_83 : decode cX7_fromOf 83 = .ok (.istore 6, 2) := by decide +kernel
theorem dX7_fromOf_85 : decode cX7_fromOf 85 = .ok (.iload 4, 2) := by decide +kernel
theorem dX7_fromOf_87 : decode cX7_fromOf 87 = .ok (.iload_n 1, 1) := by decide +kernel
theorem dX7_fromOf_88 : decode cX7_fromOf 88 = .ok (.if_icmp .eq 55, 3) := by decide +kernel
theorem dX7_fromOf_91 : decode cX7_fromOf 91 = .ok (.aload_n 0, 1) := by decide +kernel
theorem dX7_fromOf_92 : decode cX7_fromOf 92 = .ok (.getfield 40, 3) := by decide +kernel
theorem dX7_fromOf_95 : decode cX7_fromOf 95 = .ok (.iload 4, 2) := by decide +kernel
theorem dX7_fromOf_97 : decode cX7_fromOf 97 = .ok (.iaload, 1) := by decide +kernel
theorem dX7_fromOf_98 : decode cX7_fromOf 98 = .ok (.ifCond .lt 45, 3) := by decide +kernel
theorem dX7_fromOf_101 : decode cX7_fromOf 101 = .ok (.iload 5, 2) := by decide +kernel
theorem dX7_fromOf_103 : decode cX7_fromOf 103 = .ok (.aload_n 0, 1) := by decide +kernel
theorem dX7_fromOf_104 : decode cX7_fromOf 104 = .ok (.getfield 40, 3) := by decide +kernel
theorem dX7_fromOf_107 : decode cX7_fromOf 107 = .ok (.iload 4, 2) := by decide +kernel
theorem dX7_fromOf_109 : decode cX7_fromOf 109 = .ok (.iaload, 1) := by decide +kernel
theorem dX7_fromOf_110 : decode cX7_fromOf 110 = .ok (.aload_n 0, 1) := by decide +kernel
theorem dX7_fromOf_111 : decode cX7_fromOf 111 = .ok (.getfield 22, 3) := by decide +kernel
theorem dX7_fromOf_114 : decode cX7_fromOf 114 = .ok (.iconst 2, 1) := by decide +kernel
theorem dX7_fromOf_115 : decode cX7_fromOf 115 = .ok (.iaload, 1) := by decide +kernel
theorem dX7_fromOf_116 : decode cX7_fromOf 116 = .ok (.isub, 1) := by decide +kernel
theorem dX7_fromOf_117 : decode cX7_fromOf 117 = .ok (.aload_n 0, 1) := by decide +kernel
theorem dX7_fromOf_118 : decode cX7_fromOf 118 = .ok (.getfield 40, 3) := by decide +kernel
theorem dX7_fromOf_121 : decode cX7_fromOf 121 = .ok (.iload 4, 2) := by decide +kernel
theorem dX7_fromOf_123 : decode cX7_fromOf 123 = .ok (.iaload, 1) := by decide +kernel
theorem dX7_fromOf_124 : decode cX7_fromOf 124 = .ok (.aload_n 0, 1) := by decide +kernel
theorem dX7_fromOf_125 : decode cX7_fromOf 125 = .ok (.getfield 22, 3) := by decide +kernel
theorem dX7_fromOf_128 : decode cX7_fromOf 128 = .ok (.iconst 3, 1) := by decide +kernel
theorem dX7_fromOf_129 : decode cX7_fromOf 129 = .ok (.iaload, 1) := by decide +kernel
theorem dX7_fromOf_130 : decode cX7_fromOf 130 = .ok (.iadd, 1) := by decide +kernel
theorem dX7_fromOf_131 : decode cX7_fromOf 131 = .ok (.iconst 2, 1) := by decide +kernel
theorem dX7_fromOf_132 : decode cX7_fromOf 132 = .ok (.isub, 1) := by decide +kernel
theorem dX7_fromOf_133 : decode cX7_fromOf 133 = .ok (.invokestatic 69, 3) := by decide +kernel
theorem dX7_fromOf_136 : decode cX7_fromOf 136 = .ok (.ifCond .eq 7, 3) := by decide +kernel
theorem dX7_fromOf_139 : decode cX7_fromOf 139 = .ok (.iconst 1, 1) := by decide +kernel
theorem dX7_fromOf_140 : decode cX7_fromOf 140 = .ok (.goto 4, 3) := by decide +kernel
theorem dX7_fromOf_143 : decode cX7_fromOf 143 = .ok (.iconst 0, 1) := by decide +kernel
theorem dX7_fromOf_144 : decode cX7_fromOf 144 = .ok (.istore 7, 2) := by decide +kernel
theorem dX7_fromOf_146 : decode cX7_fromOf 146 = .ok (.iload_n 2, 1) := by decide +kernel
theorem dX7_fromOf_147 : decode cX7_fromOf 147 = .ok (.iload 6, 2) := by decide +kernel
theorem dX7_fromOf_149 : decode cX7_fromOf 149 = .ok (.ifCond .eq 15, 3) := by decide +kernel
theorem dX7_fromOf_152 : decode cX7_fromOf 152 = .ok (.iload 7, 2) := by decide +kernel
theorem dX7_fromOf_154 : decode cX7_fromOf 154 = .ok (.ifCond .eq 10, 3) := by decide +kernel
theorem dX7_fromOf_157 : decode cX7_fromOf 157 = .ok (.iconst 1, 1) := by decide +kernel
theorem dX7_fromOf_158 : decode cX7_fromOf 158 = .ok (.iload 4, 2) := by decide +kernel
theorem dX7_fromOf_160 : decode cX7_fromOf 160 = .ok (.ishl, 1) := by decide +kernel
theorem dX7_fromOf_161 : decode cX7_fromOf 161 = .ok (.goto 4, 3) := by decide +kernel
theorem dX7_fromOf_164 : decode cX7_fromOf 164 = .ok (.iconst 0, 1) := by decide +kernel
theorem dX7_fromOf_165 : decode cX7_fromOf 165 = .ok (.ior, 1) := by decide +kernel
theorem dX7_fromOf_166 : decode cX7_fromOf 166 = .ok (.istore_n 2, 1) := by decide +kernel
theorem dX7_fromOf_167 : decode cX7_fromOf 167 = .ok (.iinc 3 1, 3) := by decide +kernel
theorem dX7_fromOf_170 : decode cX7_fromOf 170 = .ok (.goto (-166), 3) := by decide +kernel
theorem dX7_fromOf_173 : decode cX7_fromOf 173 = .ok (.iload_n 2, 1) := by decide +kernel
theorem dX7_fromOf_174 : decode cX7_fromOf 174 = .ok (.ireturn, 1) := by decide +kernel
theorem dX7_from_0 : decode cX7_from 0 = .ok (.aload_n 0, 1) := by decide +kernel
theorem dX7_from_1 : decode cX7_from 1 = .ok (.iload_n 1, 1) := by decide +kernel
theorem dX7_from_2 : decode cX7_from 2 = .ok (.invokevirtual 153, 3) := by decide +kernel
theorem dX7_from_5 : decode cX7_from 5 = .ok (.ifCond .eq 11, 3) := by decide +kernel
theorem dX7_from_8 : decode cX7_from 8 = .ok (.aload_n 0, 1) := by decide +kernel
theorem dX7_from_9 : decode cX7_from 9 = .ok (.iload_n 1, 1) := by decide +kernel
theorem dX7_from_10 : decode cX7_from 10 = .ok (.invokevirtual 159, 3) := by decide +kernel
theorem dX7_from_13 : decode cX7_from 13 = .ok (.goto 4, 3) := by decide +kernel
theorem dX7_from_16 : decode cX7_from 16 = .ok (.iconst (-1), 1) := by decide +kernel
theorem dX7_from_17 : decode cX7_from 17 = .ok (.ireturn, 1) := by decide +kernel
theorem dX7_sickSet_0 : decode cX7_sickSet 0 = .ok (.iconst 0, 1) := by decide +kernel
theorem dX7_sickSet_1 : decode cX7_sickSet 1 = .ok (.istore_n 1, 1) := by decide +kernel
theorem dX7_sickSet_2 : decode cX7_sickSet 2 = .ok (.iconst 0, 1) := by decide +kernel
theorem dX7_sickSet_3 : decode cX7_sickSet 3 = .ok (.istore_n 2, 1) := by decide +kernel
theorem dX7_sickSet_4 : decode cX7_sickSet 4 = .ok (.iload_n 2, 1) := by decide +kernel
theorem dX7_sickSet_5 : decode cX7_sickSet 5 = .ok (.aload_n 0, 1) := by decide +kernel
theorem dX7_sickSet_6 : decode cX7_sickSet 6 = .ok (.getfield 150, 3) := by decide +kernel
theorem dX7_sickSet_9 : decode cX7_sickSet 9 = .ok (.if_icmp .ge 28, 3) := by decide +kernel
theorem dX7_sickSet_12 : decode cX7_sickSet 12 = .ok (.iload_n 1, 1) := by decide +kernel
theorem dX7_sickSet_13 : decode cX7_sickSet 13 = .ok (.aload_n 0, 1) := by decide +kernel
theorem dX7_sickSet_14 : decode cX7_sickSet 14 = .ok (.getfield 40, 3) := by decide +kernel
theorem dX7_sickSet_17 : decode cX7_sickSet 17 = .ok (.iload_n 2, 1) := by decide +kernel
theorem dX7_sickSet_18 : decode cX7_sickSet 18 = .ok (.iaload, 1) := by decide +kernel
theorem dX7_sickSet_19 : decode cX7_sickSet 19 = .ok (.ifCond .lt 9, 3) := by decide +kernel
theorem dX7_sickSet_22 : decode cX7_sickSet 22 = .ok (.iconst 1, 1) := by decide +kernel
theorem dX7_sickSet_23 : decode cX7_sickSet 23 = .ok (.iload_n 2, 1) := by decide +kernel
theorem dX7_sickSet_24 : decode cX7_sickSet 24 = .ok (.ishl, 1) := by decide +kernel
theorem dX7_sickSet_25 : decode cX7_sickSet 25 = .ok (.goto 4, 3) := by decide +kernel
theorem dX7_sickSet_28 : decode cX7_sickSet 28 = .ok (.iconst 0, 1) := by decide +kernel
theorem dX7_sickSet_29 : decode cX7_sickSet 29 = .ok (.ior, 1) := by decide +kernel
theorem dX7_sickSet_30 : decode cX7_sickSet 30 = .ok (.istore_n 1, 1) := by decide +kernel
theorem dX7_sickSet_31 : decode cX7_sickSet 31 = .ok (.iinc 2 1, 3) := by decide +kernel
theorem dX7_sickSet_34 : decode cX7_sickSet 34 = .ok (.goto (-30), 3) := by decide +kernel
theorem dX7_sickSet_37 : decode cX7_sickSet 37 = .ok (.iload_n 1, 1) := by decide +kernel
theorem dX7_sickSet_38 : decode cX7_sickSet 38 = .ok (.ireturn, 1) := by decide +kernel
theorem dX7_firstSet_0 : decode cX7_firstSet 0 = .ok (.aload_n 0, 1) := by decide +kernel
theorem dX7_firstSet_1 : decode cX7_firstSet 1 = .ok (.invokevirtual 162, 3) := by decide +kernel
theorem dX7_firstSet_4 : decode cX7_firstSet 4 = .ok (.istore_n 1, 1) := by decide +kernel
theorem dX7_firstSet_5 : decode cX7_firstSet 5 = .ok (.iconst 0, 1) := by decide +kernel
theorem dX7_firstSet_6 : decode cX7_firstSet 6 = .ok (.istore_n 2, 1) := by decide +kernel
theorem dX7_firstSet_7 : decode cX7_firstSet 7 = .ok (.iload_n 2, 1) := by decide +kernel
theorem dX7_firstSet_8 : decode cX7_firstSet 8 = .ok (.aload_n 0, 1) := by decide +kernel
theorem dX7_firstSet_9 : decode cX7_firstSet 9 = .ok (.getfield 150, 3) := by decide +kernel
theorem dX7_firstSet_12 : decode cX7_firstSet 12 = .ok (.if_icmp .ge 31, 3) := by decide +kernel
theorem dX7_firstSet_15 : decode cX7_firstSet 15 = .ok (.iload_n 1, 1) := by decide +kernel
theorem dX7_firstSet_16 : decode cX7_firstSet 16 = .ok (.aload_n 0, 1) := by decide +kernel
theorem dX7_firstSet_17 : decode cX7_firstSet 17 = .ok (.iload_n 2, 1) := by decide +kernel
theorem dX7_firstSet_18 : decode cX7_firstSet 18 = .ok (.invokevirtual 159, 3) := by decide +kernel
theorem dX7_firstSet_21 : decode cX7_firstSet 21 = .ok (.ifCond .ne 9, 3) := by decide +kernel
theorem dX7_firstSet_24 : decode cX7_firstSet 24 = .ok (.sipush 255, 3) := by decide +kernel
theorem dX7_firstSet_27 : decode cX7_firstSet 27 = .ok (.goto 8, 3) := by decide +kernel
theorem dX7_firstSet_30 : decode cX7_firstSet 30 = .ok (.iconst 1, 1) := by decide +kernel
theorem dX7_firstSet_31 : decode cX7_firstSet 31 = .ok (.iload_n 2, 1) := by decide +kernel
theorem dX7_firstSet_32 : decode cX7_firstSet 32 = .ok (.ishl, 1) := by decide +kernel
theorem dX7_firstSet_33 : decode cX7_firstSet 33 = .ok (.iconst (-1), 1) := by decide +kernel
theorem dX7_firstSet_34 : decode cX7_firstSet 34 = .ok (.ixor, 1) := by decide +kernel
theorem dX7_firstSet_35 : decode cX7_firstSet 35 = .ok (.iand, 1) := by decide +kernel
theorem dX7_firstSet_36 : decode cX7_firstSet 36 = .ok (.istore_n 1, 1) := by decide +kernel
theorem dX7_firstSet_37 : decode cX7_firstSet 37 = .ok (.iinc 2 1, 3) := by decide +kernel
theorem dX7_firstSet_40 : decode cX7_firstSet 40 = .ok (.goto (-33), 3) := by decide +kernel
theorem dX7_firstSet_43 : decode cX7_firstSet 43 = .ok (.iload_n 1, 1) := by decide +kernel
theorem dX7_firstSet_44 : decode cX7_firstSet 44 = .ok (.ireturn, 1) := by decide +kernel
theorem dX7_firsts_0 : decode cX7_firsts 0 = .ok (.iload_n 1, 1) := by decide +kernel
theorem dX7_firsts_1 : decode cX7_firsts 1 = .ok (.iconst 0, 1) := by decide +kernel
theorem dX7_firsts_2 : decode cX7_firsts 2 = .ok (.iconst 1, 1) := by decide +kernel
theorem dX7_firsts_3 : decode cX7_firsts 3 = .ok (.invokestatic 69, 3) := by decide +kernel
theorem dX7_firsts_6 : decode cX7_firsts 6 = .ok (.ifCond .ne 8, 3) := by decide +kernel
theorem dX7_firsts_9 : decode cX7_firsts 9 = .ok (.bipush (-2), 2) := by decide +kernel
theorem dX7_firsts_11 : decode cX7_firsts 11 = .ok (.goto 18, 3) := by decide +kernel
theorem dX7_firsts_14 : decode cX7_firsts 14 = .ok (.iload_n 1, 1) := by decide +kernel
theorem dX7_firsts_15 : decode cX7_firsts 15 = .ok (.ifCond .ne 10, 3) := by decide +kernel
theorem dX7_firsts_18 : decode cX7_firsts 18 = .ok (.aload_n 0, 1) := by decide +kernel
theorem dX7_firsts_19 : decode cX7_firsts 19 = .ok (.invokevirtual 165, 3) := by decide +kernel
theorem dX7_firsts_22 : decode cX7_firsts 22 = .ok (.goto 7, 3) := by decide +kernel
theorem dX7_firsts_25 : decode cX7_firsts 25 = .ok (.aload_n 0, 1) := by decide +kernel
theorem dX7_firsts_26 : decode cX7_firsts 26 = .ok (.invokevirtual 162, 3) := by decide +kernel
theorem dX7_firsts_29 : decode cX7_firsts 29 = .ok (.ireturn, 1) := by decide +kernel
theorem dX7_pathTo_0 : decode cX7_pathTo 0 = .ok (.aload_n 0, 1) := by decide +kernel
theorem dX7_pathTo_1 : decode cX7_pathTo 1 = .ok (.invokevirtual 165, 3) := by decide +kernel
theorem dX7_pathTo_4 : decode cX7_pathTo 4 = .ok (.iload_n 2, 1) := by decide +kernel
theorem dX7_pathTo_5 : decode cX7_pathTo 5 = .ok (.iconst (-1), 1) := by decide +kernel
theorem dX7_pathTo_6 : decode cX7_pathTo 6 = .ok (.ixor, 1) := by decide +kernel
theorem dX7_pathTo_7 : decode cX7_pathTo 7 = .ok (.iand, 1) := by decide +kernel
theorem dX7_pathTo_8 : decode cX7_pathTo 8 = .ok (.istore_n 3, 1) := by decide +kernel
theorem dX7_pathTo_9 : decode cX7_pathTo 9 = .ok (.iconst 1, 1) := by decide +kernel
theorem dX7_pathTo_10 : decode cX7_pathTo 10 = .ok (.istore 4, 2) := by decide +kernel
theorem dX7_pathTo_12 : decode cX7_pathTo 12 = .ok (.iload 4, 2) := by decide +kernel
theorem dX7_pathTo_14 : decode cX7_pathTo 14 = .ok (.aload_n 0, 1) := by decide +kernel
theorem dX7_pathTo_15 : decode cX7_pathTo 15 = .ok (.getfield 150, 3) := by decide +kernel
theorem dX7_pathTo_18 : decode cX7_pathTo 18 = .ok (.if_icmp .gt 73, 3) := by decide +kernel
theorem dX7_pathTo_21 : decode cX7_pathTo 21 = .ok (.iload_n 3, 1) := by decide +kernel
theorem dX7_pathTo_22 : decode cX7_pathTo 22 = .ok (.iload_n 1, 1) := by decide +kernel
theorem dX7_pathTo_23 : decode cX7_pathTo 23 = .ok (.ishr, 1) := by decide +kernel
theorem dX7_pathTo_24 : decode cX7_pathTo 24 = .ok (.iconst 1, 1) := by decide +kernel
theorem dX7_pathTo_25 : decode cX7_pathTo 25 = .ok (.iand, 1) := by decide +kernel
theorem dX7_pathTo_26 : decode cX7_pathTo 26 = .ok (.iconst 1, 1) := by decide +kernel
theorem dX7_pathTo_27 : decode cX7_pathTo 27 = .ok (.if_icmp .ne 6, 3) := by decide +kernel
theorem dX7_pathTo_30 : decode cX7_pathTo 30 = .ok (.iload 4, 2) := by decide +kernel
theorem dX7_pathTo_32 : decode cX7_pathTo 32 = .ok (.ireturn, 1) := by decide +kernel
theorem dX7_pathTo_33 : decode cX7_pathTo 33 = .ok (.iload_n 3, 1) := by decide +kernel
theorem dX7_pathTo_34 : decode cX7_pathTo 34 = .ok (.istore 5, 2) := by decide +kernel
theorem dX7_pathTo_36 : decode cX7_pathTo 36 = .ok (.iconst 0, 1) := by decide +kernel
theorem dX7_pathTo_37 : decode cX7_pathTo 37 = .ok (.istore 6, 2) := by decide +kernel
theorem dX7_pathTo_39 : decode cX7_pathTo 39 = .ok (.iload 6, 2) := by decide +kernel
theorem dX7_pathTo_41 : decode cX7_pathTo 41 = .ok (.aload_n 0, 1) := by decide +kernel
theorem dX7_pathTo_42 : decode cX7_pathTo 42 = .ok (.getfield 150, 3) := by decide +kernel
theorem dX7_pathTo_45 : decode cX7_pathTo 45 = .ok (.if_icmp .ge 33, 3) := by decide +kernel
theorem dX7_pathTo_48 : decode cX7_pathTo 48 = .ok (.iload 5, 2) := by decide +kernel
theorem dX7_pathTo_50 : decode cX7_pathTo 50 = .ok (.aload_n 0, 1) := by decide +kernel
theorem dX7_pathTo_51 : decode cX7_pathTo 51 = .ok (.iload 6, 2) := by decide +kernel
theorem dX7_pathTo_53 : decode cX7_pathTo 53 = .ok (.invokevirtual 159, 3) := by decide +kernel
theorem dX7_pathTo_56 : decode cX7_pathTo 56 = .ok (.iload_n 3, 1) := by decide +kernel
theorem dX7_pathTo_57 : decode cX7_pathTo 57 = .ok (.iand, 1) := by decide +kernel
theorem dX7_pathTo_58 : decode cX7_pathTo 58 = .ok (.ifCond .eq 10, 3) := by decide +kernel
theorem dX7_pathTo_61 : decode cX7_pathTo 61 = .ok (.iconst 1, 1) := by decide +kernel
theorem dX7_pathTo_62 : decode cX7_pathTo 62 = .ok (.iload 6, 2) := by decide +kernel
theorem dX7_pathTo_64 : decode cX7_pathTo 64 = .ok (.ishl, 1) := by decide +kernel
theorem dX7_pathTo_65 : decode cX7_pathTo 65 = .ok (.goto 4, 3) := by decide +kernel
theorem dX7_pathTo_68 : decode cX7_pathTo 68 = .ok (.iconst 0, 1) := by decide +kernel
theorem dX7_pathTo_69 : decode cX7_pathTo 69 = .ok (.ior, 1) := by decide +kernel
theorem dX7_pathTo_70 : decode cX7_pathTo 70 = .ok (.istore 5, 2) := by decide +kernel
theorem dX7_pathTo_72 : decode cX7_pathTo 72 = .ok (.iinc 6 1, 3) := by decide +kernel
theorem dX7_pathTo_75 : decode cX7_pathTo 75 = .ok (.goto (-36), 3) := by decide +kernel
theorem dX7_pathTo_78 : decode cX7_pathTo 78 = .ok (.iload 5, 2) := by decide +kernel
theorem dX7_pathTo_80 : decode cX7_pathTo 80 = .ok (.iload_n 2, 1) := by decide +kernel
theorem dX7_pathTo_81 : decode cX7_pathTo 81 = .ok (.iconst (-1), 1) := by decide +kernel
theorem dX7_pathTo_82 : decode cX7_pathTo 82 = .ok (.ixor, 1) := by decide +kernel
theorem dX7_pathTo_83 : decode cX7_pathTo 83 = .ok (.iand, 1) := by decide +kernel
theorem dX7_pathTo_84 : decode cX7_pathTo 84 = .ok (.istore_n 3, 1) := by decide +kernel
theorem dX7_pathTo_85 : decode cX7_pathTo 85 = .ok (.iinc 4 1, 3) := by decide +kernel
theorem dX7_pathTo_88 : decode cX7_pathTo 88 = .ok (.goto (-76), 3) := by decide +kernel
theorem dX7_pathTo_91 : decode cX7_pathTo 91 = .ok (.iconst 0, 1) := by decide +kernel
theorem dX7_pathTo_92 : decode cX7_pathTo 92 = .ok (.ireturn, 1) := by decide +kernel
theorem dX7_must_0 : decode cX7_must 0 = .ok (.aload_n 0, 1) := by decide +kernel
theorem dX7_must_1 : decode cX7_must 1 = .ok (.iload_n 1, 1) := by decide +kernel
theorem dX7_must_2 : decode cX7_must 2 = .ok (.invokevirtual 153, 3) := by decide +kernel
theorem dX7_must_5 : decode cX7_must 5 = .ok (.ifCond .ne 5, 3) := by decide +kernel
theorem dX7_must_8 : decode cX7_must 8 = .ok (.iconst (-1), 1) := by decide +kernel
theorem dX7_must_9 : decode cX7_must 9 = .ok (.ireturn, 1) := by decide +kernel
theorem dX7_must_10 : decode cX7_must 10 = .ok (.iload_n 2, 1) := by decide +kernel
theorem dX7_must_11 : decode cX7_must 11 = .ok (.iconst 0, 1) := by decide +kernel
theorem dX7_must_12 : decode cX7_must 12 = .ok (.iconst 1, 1) := by decide +kernel
theorem dX7_must_13 : decode cX7_must 13 = .ok (.invokestatic 69, 3) := by decide +kernel
theorem dX7_must_16 : decode cX7_must 16 = .ok (.ifCond .ne 6, 3) := by decide +kernel
theorem dX7_must_19 : decode cX7_must 19 = .ok (.bipush (-2), 2) := by decide +kernel
theorem dX7_must_21 : decode cX7_must 21 = .ok (.ireturn, 1) := by decide +kernel
theorem dX7_must_22 : decode cX7_must 22 = .ok (.aload_n 0, 1) := by decide +kernel
theorem dX7_must_23 : decode cX7_must 23 = .ok (.iload_n 1, 1) := by decide +kernel
theorem dX7_must_24 : decode cX7_must 24 = .ok (.iconst 0, 1) := by decide +kernel
theorem dX7_must_25 : decode cX7_must 25 = .ok (.invokevirtual 168, 3) := by decide +kernel
theorem dX7_must_28 : decode cX7_must 28 = .ok (.istore_n 3, 1) := by decide +kernel
theorem dX7_must_29 : decode cX7_must 29 = .ok (.iconst 0, 1) := by decide +kernel
theorem dX7_must_30 : decode cX7_must 30 = .ok (.istore 4, 2) := by decide +kernel
theorem dX7_must_32 : decode cX7_must 32 = .ok (.iconst 0, 1) := by decide +kernel
theorem dX7_must_33 : decode cX7_must 33 = .ok (.istore 5, 2) := by decide +kernel
theorem dX7_must_35 : decode cX7_must 35 = .ok (.iload 5, 2) := by decide +kernel
theorem dX7_must_37 : decode cX7_must 37 = .ok (.aload_n 0, 1) := by decide +kernel
theorem dX7_must_38 : decode cX7_must 38 = .ok (.getfield 150, 3) := by decide +kernel
theorem dX7_must_41 : decode cX7_must 41 = .ok (.if_icmp .ge 38, 3) := by decide +kernel
theorem dX7_must_44 : decode cX7_must 44 = .ok (.iload_n 3, 1) := by decide +kernel
theorem dX7_must_45 : decode cX7_must 45 = .ok (.ifCond .le 34, 3) := by decide +kernel
theorem dX7_must_48 : decode cX7_must 48 = .ok (.iload 4, 2) := by decide +kernel
theorem dX7_must_50 : decode cX7_must 50 = .ok (.aload_n 0, 1) := by decide +kernel
theorem dX7_must_51 : decode cX7_must 51 = .ok (.iload_n 1, 1) := by decide +kernel
theorem dX7_must_52 : decode cX7_must 52 = .ok (.iconst 1, 1) := by decide +kernel
theorem dX7_must_53 : decode cX7_must 53 = .ok (.iload 5, 2) := by decide +kernel
theorem dX7_must_55 : decode cX7_must 55 = .ok (.ishl, 1) := by decide +kernel
theorem dX7_must_56 : decode cX7_must 56 = .ok (.invokevirtual 168, 3) := by decide +kernel
theorem dX7_must_59 : decode cX7_must 59 = .ok (.ifCond .ne 10, 3) := by decide +kernel
theorem dX7_must_62 : decode cX7_must 62 = .ok (.iconst 1, 1) := by decide +kernel
theorem dX7_must_63 : decode cX7_must 63 = .ok (.iload 5, 2) := by decide +kernel
theorem dX7_must_65 : decode cX7_must 65 = .ok (.ishl, 1) := by decide +kernel
theorem dX7_must_66 : decode cX7_must 66 = .ok (.goto 4, 3) := by decide +kernel
theorem dX7_must_69 : decode cX7_must 69 = .ok (.iconst 0, 1) := by decide +kernel
theorem dX7_must_70 : decode cX7_must 70 = .ok (.ior, 1) := by decide +kernel
theorem dX7_must_71 : decode cX7_must 71 = .ok (.istore 4, 2) := by decide +kernel
theorem dX7_must_73 : decode cX7_must 73 = .ok (.iinc 5 1, 3) := by decide +kernel
theorem dX7_must_76 : decode cX7_must 76 = .ok (.goto (-41), 3) := by decide +kernel
theorem dX7_must_79 : decode cX7_must 79 = .ok (.iload_n 2, 1) := by decide +kernel
theorem dX7_must_80 : decode cX7_must 80 = .ok (.ifCond .ne 8, 3) := by decide +kernel
theorem dX7_must_83 : decode cX7_must 83 = .ok (.iload 4, 2) := by decide +kernel
theorem dX7_must_85 : decode cX7_must 85 = .ok (.goto 4, 3) := by decide +kernel
theorem dX7_must_88 : decode cX7_must 88 = .ok (.iload_n 3, 1) := by decide +kernel
theorem dX7_must_89 : decode cX7_must 89 = .ok (.ireturn, 1) := by decide +kernel
theorem dX7_image_0 : decode cX7_image 0 = .ok (.iload_n 1, 1) := by decide +kernel
theorem dX7_image_1 : decode cX7_image 1 = .ok (.iconst 0, 1) := by decide +kernel
theorem dX7_image_2 : decode cX7_image 2 = .ok (.iconst 1, 1) := by decide +kernel
theorem dX7_image_3 : decode cX7_image 3 = .ok (.invokestatic 69, 3) := by decide +kernel
theorem dX7_image_6 : decode cX7_image 6 = .ok (.ifCond .ne 6, 3) := by decide +kernel
theorem dX7_image_9 : decode cX7_image 9 = .ok (.bipush (-2), 2) := by decide +kernel
theorem dX7_image_11 : decode cX7_image 11 = .ok (.ireturn, 1) := by decide +kernel
theorem dX7_image_12 : decode cX7_image 12 = .ok (.bipush 110, 2) := by decide +kernel
theorem dX7_image_14 : decode cX7_image 14 = .ok (.iload_n 1, 1) := by decide +kernel
theorem dX7_image_15 : decode cX7_image 15 = .ok (.imul, 1) := by decide +kernel
theorem dX7_image_16 : decode cX7_image 16 = .ok (.istore_n 2, 1) := by decide +kernel
theorem dX7_image_17 : decode cX7_image 17 = .ok (.aload_n 0, 1) := by decide +kernel
theorem dX7_image_18 : decode cX7_image 18 = .ok (.getfield 58, 3) := by decide +kernel
theorem dX7_image_21 : decode cX7_image 21 = .ok (.iload_n 2, 1) := by decide +kernel
theorem dX7_image_22 : decode cX7_image 22 = .ok (.aload_n 0, 1) := by decide +kernel
theorem dX7_image_23 : decode cX7_image 23 = .ok (.getfield 65, 3) := by decide +kernel
theorem dX7_image_26 : decode cX7_image 26 = .ok (.iastore, 1) := by decide +kernel
theorem dX7_image_27 : decode cX7_image 27 = .ok (.aload_n 0, 1) := by decide +kernel
theorem dX7_image_28 : decode cX7_image 28 = .ok (.getfield 58, 3) := by decide +kernel
theorem dX7_image_31 : decode cX7_image 31 = .ok (.iload_n 2, 1) := by decide +kernel
theorem dX7_image_32 : decode cX7_image 32 = .ok (.iconst 1, 1) := by decide +kernel
theorem dX7_image_33 : decode cX7_image 33 = .ok (.iadd, 1) := by decide +kernel
theorem dX7_image_34 : decode cX7_image 34 = .ok (.aload_n 0, 1) := by decide +kernel
theorem dX7_image_35 : decode cX7_image 35 = .ok (.getfield 95, 3) := by decide +kernel
theorem dX7_image_38 : decode cX7_image 38 = .ok (.iastore, 1) := by decide +kernel
theorem dX7_image_39 : decode cX7_image 39 = .ok (.iconst 0, 1) := by decide +kernel
theorem dX7_image_40 : decode cX7_image 40 = .ok (.istore_n 3, 1) := by decide +kernel
theorem dX7_image_41 : decode cX7_image 41 = .ok (.iload_n 3, 1) := by decide +kernel
theorem dX7_image_42 : decode cX7_image 42 = .ok (.bipush 6, 2) := by decide +kernel
theorem dX7_image_44 : decode cX7_image 44 = .ok (.if_icmp .ge 76, 3) := by decide +kernel
theorem dX7_image_47 : decode cX7_image 47 = .ok (.aload_n 0, 1) := by decide +kernel
theorem dX7_image_48 : decode cX7_image 48 = .ok (.getfield 58, 3) := by decide +kernel
theorem dX7_image_51 : decode cX7_image 51 = .ok (.iload_n 2, 1) := by decide +kernel
theorem dX7_image_52 : decode cX7_image 52 = .ok (.iconst 2, 1) := by decide +kernel
theorem dX7_image_53 : decode cX7_image 53 = .ok (.iadd, 1) := by decide +kernel
theorem dX7_image_54 : decode cX7_image 54 = .ok (.iload_n 3, 1) := by decide +kernel
theorem dX7_image_55 : decode cX7_image 55 = .ok (.iadd, 1) := by decide +kernel
theorem dX7_image_56 : decode cX7_image 56 = .ok (.aload_n 0, 1) := by decide +kernel
theorem dX7_image_57 : decode cX7_image 57 = .ok (.getfield 7, 3) := by decide +kernel
theorem dX7_image_60 : decode cX7_image 60 = .ok (.iload_n 3, 1) := by decide +kernel
theorem dX7_image_61 : decode cX7_image 61 = .ok (.iaload, 1) := by decide +kernel
theorem dX7_image_62 : decode cX7_image 62 = .ok (.iastore, 1) := by decide +kernel
theorem dX7_image_63 : decode cX7_image 63 = .ok (.aload_n 0, 1) := by decide +kernel
theorem dX7_image_64 : decode cX7_image 64 = .ok (.getfield 58, 3) := by decide +kernel
theorem dX7_image_67 : decode cX7_image 67 = .ok (.iload_n 2, 1) := by decide +kernel
theorem dX7_image_68 : decode cX7_image 68 = .ok (.bipush 8, 2) := by decide +kernel
theorem dX7_image_70 : decode cX7_image 70 = .ok (.iadd, 1) := by decide +kernel
theorem dX7_image_71 : decode cX7_image 71 = .ok (.iload_n 3, 1) := by decide +kernel
theorem dX7_image_72 : decode cX7_image 72 = .ok (.iadd, 1) := by decide +kernel
theorem dX7_image_73 : decode cX7_image 73 = .ok (.aload_n 0, 1) := by decide +kernel
theorem dX7_image_74 : decode cX7_image 74 = .ok (.getfield 13, 3) := by decide +kernel
theorem dX7_image_77 : decode cX7_image 77 = .ok (.iload_n 3, 1) := by decide +kernel
theorem dX7_image_78 : decode cX7_image 78 = .ok (.iaload, 1) := by decide +kernel
theorem dX7_image_79 : decode cX7_image 79 = .ok (.iastore, 1) := by decide +kernel
theorem dX7_image_80 : decode cX7_image 80 = .ok (.aload_n 0, 1) := by decide +kernel
theorem dX7_image_81 : decode cX7_image 81 = .ok (.getfield 58, 3) := by decide +kernel
theorem dX7_image_84 : decode cX7_image 84 = .ok (.iload_n 2, 1) := by decide +kernel
theorem dX7_image_85 : decode cX7_image 85 = .ok (.bipush 14, 2) := by decide +kernel
theorem dX7_image_87 : decode cX7_image 87 = .ok (.iadd, 1) := by decide +kernel
theorem dX7_image_88 : decode cX7_image 88 = .ok (.iload_n 3, 1) := by decide +kernel
theorem dX7_image_89 : decode cX7_image 89 = .ok (.iadd, 1) := by decide +kernel
theorem dX7_image_90 : decode cX7_image 90 = .ok (.aload_n 0, 1) := by decide +kernel
theorem dX7_image_91 : decode cX7_image 91 = .ok (.getfield 16, 3) := by decide +kernel
theorem dX7_image_94 : decode cX7_image 94 = .ok (.iload_n 3, 1) := by decide +kernel
theorem dX7_image_95 : decode cX7_image 95 = .ok (.iaload, 1) := by decide +kernel
theorem dX7_image_96 : decode cX7_image 96 = .ok (.iastore, 1) := by decide +kernel
theorem dX7_image_97 : decode cX7_image 97 = .ok (.aload_n 0, 1) := by decide +kernel
theorem dX7_image_98 : decode cX7_image 98 = .ok (.getfield 58, 3) := by decide +kernel
theorem dX7_image_101 : decode cX7_image 101 = .ok (.iload_n 2, 1) := by decide +kernel
theorem dX7_image_102 : decode cX7_image 102 = .ok (.bipush 20, 2) := by decide +kernel
theorem dX7_image_104 : decode cX7_image 104 = .ok (.iadd, 1) := by decide +kernel
theorem dX7_image_105 : decode cX7_image 105 = .ok (.iload_n 3, 1) := by decide +kernel
theorem dX7_image_106 : decode cX7_image 106 = .ok (.iadd, 1) := by decide +kernel
theorem dX7_image_107 : decode cX7_image 107 = .ok (.aload_n 0, 1) := by decide +kernel
theorem dX7_image_108 : decode cX7_image 108 = .ok (.getfield 19, 3) := by decide +kernel
theorem dX7_image_111 : decode cX7_image 111 = .ok (.iload_n 3, 1) := by decide +kernel
theorem dX7_image_112 : decode cX7_image 112 = .ok (.iaload, 1) := by decide +kernel
theorem dX7_image_113 : decode cX7_image 113 = .ok (.iastore, 1) := by decide +kernel
theorem dX7_image_114 : decode cX7_image 114 = .ok (.iinc 3 1, 3) := by decide +kernel
theorem dX7_image_117 : decode cX7_image 117 = .ok (.goto (-76), 3) := by decide +kernel
theorem dX7_image_120 : decode cX7_image 120 = .ok (.iconst 0, 1) := by decide +kernel
theorem dX7_image_121 : decode cX7_image 121 = .ok (.istore_n 3, 1) := by decide +kernel
theorem dX7_image_122 : decode cX7_image 122 = .ok (.iload_n 3, 1) := by decide +kernel
theorem dX7_image_123 : decode cX7_image 123 = .ok (.iconst 4, 1) := by decide +kernel
theorem dX7_image_124 : decode cX7_image 124 = .ok (.if_icmp .ge 43, 3) := by decide +kernel
theorem dX7_image_127 : decode cX7_image 127 = .ok (.aload_n 0, 1) := by decide +kernel
theorem dX7_image_128 : decode cX7_image 128 = .ok (.getfield 58, 3) := by decide +kernel
theorem dX7_image_131 : decode cX7_image 131 = .ok (.iload_n 2, 1) := by decide +kernel
theorem dX7_image_132 : decode cX7_image 132 = .ok (.bipush 26, 2) := by decide +kernel
theorem dX7_image_134 : decode cX7_image 134 = .ok (.iadd, 1) := by decide +kernel
theorem dX7_image_135 : decode cX7_image 135 = .ok (.iload_n 3, 1) := by decide +kernel
theorem dX7_image_136 : decode cX7_image 136 = .ok (.iadd, 1) := by decide +kernel
theorem dX7_image_137 : decode cX7_image 137 = .ok (.aload_n 0, 1) := by decide +kernel
theorem dX7_image_138 : decode cX7_image 138 = .ok (.getfield 22, 3) := by decide +kernel
theorem dX7_image_141 : decode cX7_image 141 = .ok (.iload_n 3, 1) := by decide +kernel
theorem dX7_image_142 : decode cX7_image 142 = .ok (.iaload, 1) := by decide +kernel
theorem dX7_image_143 : decode cX7_image 143 = .ok (.iastore, 1) := by decide +kernel
theorem dX7_image_144 : decode cX7_image 144 = .ok (.aload_n 0, 1) := by decide +kernel
theorem dX7_image_145 : decode cX7_image 145 = .ok (.getfield 58, 3) := by decide +kernel
theorem dX7_image_148 : decode cX7_image 148 = .ok (.iload_n 2, 1) := by decide +kernel
theorem dX7_image_149 : decode cX7_image 149 = .ok (.bipush 30, 2) := by decide +kernel
theorem dX7_image_151 : decode cX7_image 151 = .ok (.iadd, 1) := by decide +kernel
theorem dX7_image_152 : decode cX7_image 152 = .ok (.iload_n 3, 1) := by decide +kernel
theorem dX7_image_153 : decode cX7_image 153 = .ok (.iadd, 1) := by decide +kernel
theorem dX7_image_154 : decode cX7_image 154 = .ok (.aload_n 0, 1) := by decide +kernel
theorem dX7_image_155 : decode cX7_image 155 = .ok (.getfield 31, 3) := by decide +kernel
theorem dX7_image_158 : decode cX7_image 158 = .ok (.iload_n 3, 1) := by decide +kernel
theorem dX7_image_159 : decode cX7_image 159 = .ok (.iaload, 1) := by decide +kernel
theorem dX7_image_160 : decode cX7_image 160 = .ok (.iastore, 1) := by decide +kernel
theorem dX7_image_161 : decode cX7_image 161 = .ok (.iinc 3 1, 3) := by decide +kernel
theorem dX7_image_164 : decode cX7_image 164 = .ok (.goto (-42), 3) := by decide +kernel
theorem dX7_image_167 : decode cX7_image 167 = .ok (.iconst 0, 1) := by decide +kernel
theorem dX7_image_168 : decode cX7_image 168 = .ok (.istore_n 3, 1) := by decide +kernel
theorem dX7_image_169 : decode cX7_image 169 = .ok (.iload_n 3, 1) := by decide +kernel
theorem dX7_image_170 : decode cX7_image 170 = .ok (.bipush 8, 2) := by decide +kernel
theorem dX7_image_172 : decode cX7_image 172 = .ok (.if_icmp .ge 43, 3) := by decide +kernel
theorem dX7_image_175 : decode cX7_image 175 = .ok (.aload_n 0, 1) := by decide +kernel
theorem dX7_image_176 : decode cX7_image 176 = .ok (.getfield 58, 3) := by decide +kernel
theorem dX7_image_179 : decode cX7_image 179 = .ok (.iload_n 2, 1) := by decide +kernel
theorem dX7_image_180 : decode cX7_image 180 = .ok (.bipush 34, 2) := by decide +kernel
theorem dX7_image_182 : decode cX7_image 182 = .ok (.iadd, 1) := by decide +kernel
theorem dX7_image_183 : decode cX7_image 183 = .ok (.iload_n 3, 1) := by decide +kernel
theorem dX7_image_184 : decode cX7_image 184 = .ok (.iadd, 1) := by decide +kernel
theorem dX7_image_185 : decode cX7_image 185 = .ok (.aload_n 0, 1) := by decide +kernel
theorem dX7_image_186 : decode cX7_image 186 = .ok (.getfield 34, 3) := by decide +kernel
theorem dX7_image_189 : decode cX7_image 189 = .ok (.iload_n 3, 1) := by decide +kernel
theorem dX7_image_190 : decode cX7_image 190 = .ok (.iaload, 1) := by decide +kernel
theorem dX7_image_191 : decode cX7_image 191 = .ok (.iastore, 1) := by decide +kernel
theorem dX7_image_192 : decode cX7_image 192 = .ok (.aload_n 0, 1) := by decide +kernel
theorem dX7_image_193 : decode cX7_image 193 = .ok (.getfield 58, 3) := by decide +kernel
theorem dX7_image_196 : decode cX7_image 196 = .ok (.iload_n 2, 1) := by decide +kernel
theorem dX7_image_197 : decode cX7_image 197 = .ok (.bipush 42, 2) := by decide +kernel
theorem dX7_image_199 : decode cX7_image 199 = .ok (.iadd, 1) := by decide +kernel
theorem dX7_image_200 : decode cX7_image 200 = .ok (.iload_n 3, 1) := by decide +kernel
theorem dX7_image_201 : decode cX7_image 201 = .ok (.iadd, 1) := by decide +kernel
theorem dX7_image_202 : decode cX7_image 202 = .ok (.aload_n 0, 1) := by decide +kernel
theorem dX7_image_203 : decode cX7_image 203 = .ok (.getfield 37, 3) := by decide +kernel
theorem dX7_image_206 : decode cX7_image 206 = .ok (.iload_n 3, 1) := by decide +kernel
theorem dX7_image_207 : decode cX7_image 207 = .ok (.iaload, 1) := by decide +kernel
theorem dX7_image_208 : decode cX7_image 208 = .ok (.iastore, 1) := by decide +kernel
theorem dX7_image_209 : decode cX7_image 209 = .ok (.iinc 3 1, 3) := by decide +kernel
theorem dX7_image_212 : decode cX7_image 212 = .ok (.goto (-43), 3) := by decide +kernel
theorem dX7_image_215 : decode cX7_image 215 = .ok (.iconst 0, 1) := by decide +kernel
theorem dX7_image_216 : decode cX7_image 216 = .ok (.istore_n 3, 1) := by decide +kernel
theorem dX7_image_217 : decode cX7_image 217 = .ok (.iload_n 3, 1) := by decide +kernel
theorem dX7_image_218 : decode cX7_image 218 = .ok (.bipush 50, 2) := by decide +kernel
theorem dX7_image_220 : decode cX7_image 220 = .ok (.if_icmp .ge 26, 3) := by decide +kernel
theorem dX7_image_223 : decode cX7_image 223 = .ok (.aload_n 0, 1) := by decide +kernel
theorem dX7_image_224 : decode cX7_image 224 = .ok (.getfield 58, 3) := by decide +kernel
theorem dX7_image_227 : decode cX7_image 227 = .ok (.iload_n 2, 1) := by decide +kernel
theorem dX7_image_228 : decode cX7_image 228 = .ok (.bipush 50, 2) := by decide +kernel
theorem dX7_image_230 : decode cX7_image 230 = .ok (.iadd, 1) := by decide +kernel
theorem dX7_image_231 : decode cX7_image 231 = .ok (.iload_n 3, 1) := by decide +kernel
theorem dX7_image_232 : decode cX7_image 232 = .ok (.iadd, 1) := by decide +kernel
theorem dX7_image_233 : decode cX7_image 233 = .ok (.aload_n 0, 1) := by decide +kernel
theorem dX7_image_234 : decode cX7_image 234 = .ok (.getfield 28, 3) := by decide +kernel
theorem dX7_image_237 : decode cX7_image 237 = .ok (.iload_n 3, 1) := by decide +kernel
theorem dX7_image_238 : decode cX7_image 238 = .ok (.iaload, 1) := by decide +kernel
theorem dX7_image_239 : decode cX7_image 239 = .ok (.iastore, 1) := by decide +kernel
theorem dX7_image_240 : decode cX7_image 240 = .ok (.iinc 3 1, 3) := by decide +kernel
theorem dX7_image_243 : decode cX7_image 243 = .ok (.goto (-26), 3) := by decide +kernel
theorem dX7_image_246 : decode cX7_image 246 = .ok (.aload_n 0, 1) := by decide +kernel
theorem dX7_image_247 : decode cX7_image 247 = .ok (.getfield 61, 3) := by decide +kernel
theorem dX7_image_250 : decode cX7_image 250 = .ok (.iload_n 1, 1) := by decide +kernel
theorem dX7_image_251 : decode cX7_image 251 = .ok (.iconst 1, 1) := by decide +kernel
theorem dX7_image_252 : decode cX7_image 252 = .ok (.bastore, 1) := by decide +kernel
theorem dX7_image_253 : decode cX7_image 253 = .ok (.iconst 1, 1) := by decide +kernel
theorem dX7_image_254 : decode cX7_image 254 = .ok (.ireturn, 1) := by decide +kernel
theorem dX7_restore_0 : decode cX7_restore 0 = .ok (.iload_n 1, 1) := by decide +kernel
theorem dX7_restore_1 : decode cX7_restore 1 = .ok (.iconst 0, 1) := by decide +kernel
theorem dX7_restore_2 : decode cX7_restore 2 = .ok (.iconst 1, 1) := by decide +kernel
theorem dX7_restore_3 : decode cX7_restore 3 = .ok (.invokestatic 69, 3) := by decide +kernel
theorem dX7_restore_6 : decode cX7_restore 6 = .ok (.ifCond .ne 6, 3) := by decide +kernel
theorem dX7_restore_9 : decode cX7_restore 9 = .ok (.bipush (-2), 2) := by decide +kernel
theorem dX7_restore_11 : decode cX7_restore 11 = .ok (.ireturn, 1) := by decide +kernel
theorem dX7_restore_12 : decode cX7_restore 12 = .ok (.aload_n 0, 1) := by decide +kernel
theorem dX7_restore_13 : decode cX7_restore 13 = .ok (.getfield 61, 3) := by decide +kernel
theorem dX7_restore_16 : decode cX7_restore 16 = .ok (.iload_n 1, 1) := by decide +kernel
theorem dX7_restore_17 : decode cX7_restore 17 = .ok (.baload, 1) := by decide +kernel
theorem dX7_restore_18 : decode cX7_restore 18 = .ok (.ifCond .ne 6, 3) := by decide +kernel
theorem dX7_restore_21 : decode cX7_restore 21 = .ok (.bipush (-3), 2) := by decide +kernel
theorem dX7_restore_23 : decode cX7_restore 23 = .ok (.ireturn, 1) := by decide +kernel
theorem dX7_restore_24 : decode cX7_restore 24 = .ok (.bipush 110, 2) := by decide +kernel
theorem dX7_restore_26 : decode cX7_restore 26 = .ok (.iload_n 1, 1) := by decide +kernel
theorem dX7_restore_27 : decode cX7_restore 27 = .ok (.imul, 1) := by decide +kernel
theorem dX7_restore_28 : decode cX7_restore 28 = .ok (.istore_n 2, 1) := by decide +kernel
theorem dX7_restore_29 : decode cX7_restore 29 = .ok (.aload_n 0, 1) := by decide +kernel
theorem dX7_restore_30 : decode cX7_restore 30 = .ok (.aload_n 0, 1) := by decide +kernel
theorem dX7_restore_31 : decode cX7_restore 31 = .ok (.getfield 58, 3) := by decide +kernel
theorem dX7_restore_34 : decode cX7_restore 34 = .ok (.iload_n 2, 1) := by decide +kernel
theorem dX7_restore_35 : decode cX7_restore 35 = .ok (.iaload, 1) := by decide +kernel
theorem dX7_restore_36 : decode cX7_restore 36 = .ok (.putfield 65, 3) := by decide +kernel
theorem dX7_restore_39 : decode cX7_restore 39 = .ok (.aload_n 0, 1) := by decide +kernel
theorem dX7_restore_40 : decode cX7_restore 40 = .ok (.aload_n 0, 1) := by decide +kernel
theorem dX7_restore_41 : decode cX7_restore 41 = .ok (.getfield 58, 3) := by decide +kernel
theorem dX7_restore_44 : decode cX7_restore 44 = .ok (.iload_n 2, 1) := by decide +kernel
theorem dX7_restore_45 : decode cX7_restore 45 = .ok (.iconst 1, 1) := by decide +kernel
theorem dX7_restore_46 : decode cX7_restore 46 = .ok (.iadd, 1) := by decide +kernel
theorem dX7_restore_47 : decode cX7_restore 47 = .ok (.iaload, 1) := by decide +kernel
theorem dX7_restore_48 : decode cX7_restore 48 = .ok (.putfield 95, 3) := by decide +kernel
theorem dX7_restore_51 : decode cX7_restore 51 = .ok (.iconst 0, 1) := by decide +kernel
theorem dX7_restore_52 : decode cX7_restore 52 = .ok (.istore_n 3, 1) := by decide +kernel
theorem dX7_restore_53 : decode cX7_restore 53 = .ok (.iload_n 3, 1) := by decide +kernel
theorem dX7_restore_54 : decode cX7_restore 54 = .ok (.bipush 6, 2) := by decide +kernel
theorem dX7_restore_56 : decode cX7_restore 56 = .ok (.if_icmp .ge 76, 3) := by decide +kernel
theorem dX7_restore_59 : decode cX7_restore 59 = .ok (.aload_n 0, 1) := by decide +kernel
theorem dX7_restore_60 : decode cX7_restore 60 = .ok (.getfield 7, 3) := by decide +kernel
theorem dX7_restore_63 : decode cX7_restore 63 = .ok (.iload_n 3, 1) := by decide +kernel
theorem dX7_restore_64 : decode cX7_restore 64 = .ok (.aload_n 0, 1) := by decide +kernel
theorem dX7_restore_65 : decode cX7_restore 65 = .ok (.getfield 58, 3) := by decide +kernel
theorem dX7_restore_68 : decode cX7_restore 68 = .ok (.iload_n 2, 1) := by decide +kernel
theorem dX7_restore_69 : decode cX7_restore 69 = .ok (.iconst 2, 1) := by decide +kernel
theorem dX7_restore_70 : decode cX7_restore 70 = .ok (.iadd, 1) := by decide +kernel
theorem dX7_restore_71 : decode cX7_restore 71 = .ok (.iload_n 3, 1) := by decide +kernel
theorem dX7_restore_72 : decode cX7_restore 72 = .ok (.iadd, 1) := by decide +kernel
theorem dX7_restore_73 : decode cX7_restore 73 = .ok (.iaload, 1) := by decide +kernel
theorem dX7_restore_74 : decode cX7_restore 74 = .ok (.iastore, 1) := by decide +kernel
theorem dX7_restore_75 : decode cX7_restore 75 = .ok (.aload_n 0, 1) := by decide +kernel
theorem dX7_restore_76 : decode cX7_restore 76 = .ok (.getfield 13, 3) := by decide +kernel
theorem dX7_restore_79 : decode cX7_restore 79 = .ok (.iload_n 3, 1) := by decide +kernel
theorem dX7_restore_80 : decode cX7_restore 80 = .ok (.aload_n 0, 1) := by decide +kernel
theorem dX7_restore_81 : decode cX7_restore 81 = .ok (.getfield 58, 3) := by decide +kernel
theorem dX7_restore_84 : decode cX7_restore 84 = .ok (.iload_n 2, 1) := by decide +kernel
theorem dX7_restore_85 : decode cX7_restore 85 = .ok (.bipush 8, 2) := by decide +kernel
theorem dX7_restore_87 : decode cX7_restore 87 = .ok (.iadd, 1) := by decide +kernel
theorem dX7_restore_88 : decode cX7_restore 88 = .ok (.iload_n 3, 1) := by decide +kernel
theorem dX7_restore_89 : decode cX7_restore 89 = .ok (.iadd, 1) := by decide +kernel
theorem dX7_restore_90 : decode cX7_restore 90 = .ok (.iaload, 1) := by decide +kernel
theorem dX7_restore_91 : decode cX7_restore 91 = .ok (.iastore, 1) := by decide +kernel
theorem dX7_restore_92 : decode cX7_restore 92 = .ok (.aload_n 0, 1) := by decide +kernel
theorem dX7_restore_93 : decode cX7_restore 93 = .ok (.getfield 16, 3) := by decide +kernel
theorem dX7_restore_96 : decode cX7_restore 96 = .ok (.iload_n 3, 1) := by decide +kernel
theorem dX7_restore_97 : decode cX7_restore 97 = .ok (.aload_n 0, 1) := by decide +kernel
theorem dX7_restore_98 : decode cX7_restore 98 = .ok (.getfield 58, 3) := by decide +kernel
theorem dX7_restore_101 : decode cX7_restore 101 = .ok (.iload_n 2, 1) := by decide +kernel
theorem dX7_restore_102 : decode cX7_restore 102 = .ok (.bipush 14, 2) := by decide +kernel
theorem dX7_restore_104 : decode cX7_restore 104 = .ok (.iadd, 1) := by decide +kernel
theorem dX7_restore_105 : decode cX7_restore 105 = .ok (.iload_n 3, 1) := by decide +kernel
theorem dX7_restore_106 : decode cX7_restore 106 = .ok (.iadd, 1) := by decide +kernel
theorem dX7_restore_107 : decode cX7_restore 107 = .ok (.iaload, 1) := by decide +kernel
theorem dX7_restore_108 : decode cX7_restore 108 = .ok (.iastore, 1) := by decide +kernel
theorem dX7_restore_109 : decode cX7_restore 109 = .ok (.aload_n 0, 1) := by decide +kernel
theorem dX7_restore_110 : decode cX7_restore 110 = .ok (.getfield 19, 3) := by decide +kernel
theorem dX7_restore_113 : decode cX7_restore 113 = .ok (.iload_n 3, 1) := by decide +kernel
theorem dX7_restore_114 : decode cX7_restore 114 = .ok (.aload_n 0, 1) := by decide +kernel
theorem dX7_restore_115 : decode cX7_restore 115 = .ok (.getfield 58, 3) := by decide +kernel
theorem dX7_restore_118 : decode cX7_restore 118 = .ok (.iload_n 2, 1) := by decide +kernel
theorem dX7_restore_119 : decode cX7_restore 119 = .ok (.bipush 20, 2) := by decide +kernel
theorem dX7_restore_121 : decode cX7_restore 121 = .ok (.iadd, 1) := by decide +kernel
theorem dX7_restore_122 : decode cX7_restore 122 = .ok (.iload_n 3, 1) := by decide +kernel
theorem dX7_restore_123 : decode cX7_restore 123 = .ok (.iadd, 1) := by decide +kernel
theorem dX7_restore_124 : decode cX7_restore 124 = .ok (.iaload, 1) := by decide +kernel
theorem dX7_restore_125 : decode cX7_restore 125 = .ok (.iastore, 1) := by decide +kernel
theorem dX7_restore_126 : decode cX7_restore 126 = .ok (.iinc 3 1, 3) := by decide +kernel
theorem dX7_restore_129 : decode cX7_restore 129 = .ok (.goto (-76), 3) := by decide +kernel
theorem dX7_restore_132 : decode cX7_restore 132 = .ok (.iconst 0, 1) := by decide +kernel
theorem dX7_restore_133 : decode cX7_restore 133 = .ok (.istore_n 3, 1) := by decide +kernel
theorem dX7_restore_134 : decode cX7_restore 134 = .ok (.iload_n 3, 1) := by decide +kernel
theorem dX7_restore_135 : decode cX7_restore 135 = .ok (.iconst 4, 1) := by decide +kernel
theorem dX7_restore_136 : decode cX7_restore 136 = .ok (.if_icmp .ge 43, 3) := by decide +kernel
theorem dX7_restore_139 : decode cX7_restore 139 = .ok (.aload_n 0, 1) := by decide +kernel
theorem dX7_restore_140 : decode cX7_restore 140 = .ok (.getfield 22, 3) := by decide +kernel
theorem dX7_restore_143 : decode cX7_restore 143 = .ok (.iload_n 3, 1) := by decide +kernel
theorem dX7_restore_144 : decode cX7_restore 144 = .ok (.aload_n 0, 1) := by decide +kernel
theorem dX7_restore_145 : decode cX7_restore 145 = .ok (.getfield 58, 3) := by decide +kernel
theorem dX7_restore_148 : decode cX7_restore 148 = .ok (.iload_n 2, 1) := by decide +kernel
theorem dX7_restore_149 : decode cX7_restore 149 = .ok (.bipush 26, 2) := by decide +kernel
theorem dX7_restore_151 : decode cX7_restore 151 = .ok (.iadd, 1) := by decide +kernel
theorem dX7_restore_152 : decode cX7_restore 152 = .ok (.iload_n 3, 1) := by decide +kernel
theorem dX7_restore_153 : decode cX7_restore 153 = .ok (.iadd, 1) := by decide +kernel
theorem dX7_restore_154 : decode cX7_restore 154 = .ok (.iaload, 1) := by decide +kernel
theorem dX7_restore_155 : decode cX7_restore 155 = .ok (.iastore, 1) := by decide +kernel
theorem dX7_restore_156 : decode cX7_restore 156 = .ok (.aload_n 0, 1) := by decide +kernel
theorem dX7_restore_157 : decode cX7_restore 157 = .ok (.getfield 31, 3) := by decide +kernel
theorem dX7_restore_160 : decode cX7_restore 160 = .ok (.iload_n 3, 1) := by decide +kernel
theorem dX7_restore_161 : decode cX7_restore 161 = .ok (.aload_n 0, 1) := by decide +kernel
theorem dX7_restore_162 : decode cX7_restore 162 = .ok (.getfield 58, 3) := by decide +kernel
theorem dX7_restore_165 : decode cX7_restore 165 = .ok (.iload_n 2, 1) := by decide +kernel
theorem dX7_restore_166 : decode cX7_restore 166 = .ok (.bipush 30, 2) := by decide +kernel
theorem dX7_restore_168 : decode cX7_restore 168 = .ok (.iadd, 1) := by decide +kernel
theorem dX7_restore_169 : decode cX7_restore 169 = .ok (.iload_n 3, 1) := by decide +kernel
theorem dX7_restore_170 : decode cX7_restore 170 = .ok (.iadd, 1) := by decide +kernel
theorem dX7_restore_171 : decode cX7_restore 171 = .ok (.iaload, 1) := by decide +kernel
theorem dX7_restore_172 : decode cX7_restore 172 = .ok (.iastore, 1) := by decide +kernel
theorem dX7_restore_173 : decode cX7_restore 173 = .ok (.iinc 3 1, 3) := by decide +kernel
theorem dX7_restore_176 : decode cX7_restore 176 = .ok (.goto (-42), 3) := by decide +kernel
theorem dX7_restore_179 : decode cX7_restore 179 = .ok (.iconst 0, 1) := by decide +kernel
theorem dX7_restore_180 : decode cX7_restore 180 = .ok (.istore_n 3, 1) := by decide +kernel
theorem dX7_restore_181 : decode cX7_restore 181 = .ok (.iload_n 3, 1) := by decide +kernel
theorem dX7_restore_182 : decode cX7_restore 182 = .ok (.bipush 8, 2) := by decide +kernel
theorem dX7_restore_184 : decode cX7_restore 184 = .ok (.if_icmp .ge 43, 3) := by decide +kernel
theorem dX7_restore_187 : decode cX7_restore 187 = .ok (.aload_n 0, 1) := by decide +kernel
theorem dX7_restore_188 : decode cX7_restore 188 = .ok (.getfield 34, 3) := by decide +kernel
theorem dX7_restore_191 : decode cX7_restore 191 = .ok (.iload_n 3, 1) := by decide +kernel
theorem dX7_restore_192 : decode cX7_restore 192 = .ok (.aload_n 0, 1) := by decide +kernel
theorem dX7_restore_193 : decode cX7_restore 193 = .ok (.getfield 58, 3) := by decide +kernel
theorem dX7_restore_196 : decode cX7_restore 196 = .ok (.iload_n 2, 1) := by decide +kernel
theorem dX7_restore_197 : decode cX7_restore 197 = .ok (.bipush 34, 2) := by decide +kernel
theorem dX7_restore_199 : decode cX7_restore 199 = .ok (.iadd, 1) := by decide +kernel
theorem dX7_restore_200 : decode cX7_restore 200 = .ok (.iload_n 3, 1) := by decide +kernel
theorem dX7_restore_201 : decode cX7_restore 201 = .ok (.iadd, 1) := by decide +kernel
theorem dX7_restore_202 : decode cX7_restore 202 = .ok (.iaload, 1) := by decide +kernel
theorem dX7_restore_203 : decode cX7_restore 203 = .ok (.iastore, 1) := by decide +kernel
theorem dX7_restore_204 : decode cX7_restore 204 = .ok (.aload_n 0, 1) := by decide +kernel
theorem dX7_restore_205 : decode cX7_restore 205 = .ok (.getfield 37, 3) := by decide +kernel
theorem dX7_restore_208 : decode cX7_restore 208 = .ok (.iload_n 3, 1) := by decide +kernel
theorem dX7_restore_209 : decode cX7_restore 209 = .ok (.aload_n 0, 1) := by decide +kernel
theorem dX7_restore_210 : decode cX7_restore 210 = .ok (.getfield 58, 3) := by decide +kernel
theorem dX7_restore_213 : decode cX7_restore 213 = .ok (.iload_n 2, 1) := by decide +kernel
theorem dX7_restore_214 : decode cX7_restore 214 = .ok (.bipush 42, 2) := by decide +kernel
theorem dX7_restore_216 : decode cX7_restore 216 = .ok (.iadd, 1) := by decide +kernel
theorem dX7_restore_217 : decode cX7_restore 217 = .ok (.iload_n 3, 1) := by decide +kernel
theorem dX7_restore_218 : decode cX7_restore 218 = .ok (.iadd, 1) := by decide +kernel
theorem dX7_restore_219 : decode cX7_restore 219 = .ok (.iaload, 1) := by decide +kernel
theorem dX7_restore_220 : decode cX7_restore 220 = .ok (.iastore, 1) := by decide +kernel
theorem dX7_restore_221 : decode cX7_restore 221 = .ok (.iinc 3 1, 3) := by decide +kernel
theorem dX7_restore_224 : decode cX7_restore 224 = .ok (.goto (-43), 3) := by decide +kernel
theorem dX7_restore_227 : decode cX7_restore 227 = .ok (.iconst 0, 1) := by decide +kernel
theorem dX7_restore_228 : decode cX7_restore 228 = .ok (.istore_n 3, 1) := by decide +kernel
theorem dX7_restore_229 : decode cX7_restore 229 = .ok (.iload_n 3, 1) := by decide +kernel
theorem dX7_restore_230 : decode cX7_restore 230 = .ok (.bipush 50, 2) := by decide +kernel
theorem dX7_restore_232 : decode cX7_restore 232 = .ok (.if_icmp .ge 26, 3) := by decide +kernel
theorem dX7_restore_235 : decode cX7_restore 235 = .ok (.aload_n 0, 1) := by decide +kernel
theorem dX7_restore_236 : decode cX7_restore 236 = .ok (.getfield 28, 3) := by decide +kernel
theorem dX7_restore_239 : decode cX7_restore 239 = .ok (.iload_n 3, 1) := by decide +kernel
theorem dX7_restore_240 : decode cX7_restore 240 = .ok (.aload_n 0, 1) := by decide +kernel
theorem dX7_restore_241 : decode cX7_restore 241 = .ok (.getfield 58, 3) := by decide +kernel
theorem dX7_restore_244 : decode cX7_restore 244 = .ok (.iload_n 2, 1) := by decide +kernel
theorem dX7_restore_245 : decode cX7_restore 245 = .ok (.bipush 50, 2) := by decide +kernel
theorem dX7_restore_247 : decode cX7_restore 247 = .ok (.iadd, 1) := by decide +kernel
theorem dX7_restore_248 : decode cX7_restore 248 = .ok (.iload_n 3, 1) := by decide +kernel
theorem dX7_restore_249 : decode cX7_restore 249 = .ok (.iadd, 1) := by decide +kernel
theorem dX7_restore_250 : decode cX7_restore 250 = .ok (.iaload, 1) := by decide +kernel
theorem dX7_restore_251 : decode cX7_restore 251 = .ok (.iastore, 1) := by decide +kernel
theorem dX7_restore_252 : decode cX7_restore 252 = .ok (.iinc 3 1, 3) := by decide +kernel
theorem dX7_restore_255 : decode cX7_restore 255 = .ok (.goto (-26), 3) := by decide +kernel
theorem dX7_restore_258 : decode cX7_restore 258 = .ok (.aload_n 0, 1) := by decide +kernel
theorem dX7_restore_259 : decode cX7_restore 259 = .ok (.iconst 0, 1) := by decide +kernel
theorem dX7_restore_260 : decode cX7_restore 260 = .ok (.putfield 81, 3) := by decide +kernel
theorem dX7_restore_263 : decode cX7_restore 263 = .ok (.iconst 1, 1) := by decide +kernel
theorem dX7_restore_264 : decode cX7_restore 264 = .ok (.ireturn, 1) := by decide +kernel
theorem dX7_told_0 : decode cX7_told 0 = .ok (.iload_n 1, 1) := by decide +kernel
theorem dX7_told_1 : decode cX7_told 1 = .ok (.ifCond .ne 10, 3) := by decide +kernel
theorem dX7_told_4 : decode cX7_told 4 = .ok (.aload_n 0, 1) := by decide +kernel
theorem dX7_told_5 : decode cX7_told 5 = .ok (.getfield 65, 3) := by decide +kernel
theorem dX7_told_8 : decode cX7_told 8 = .ok (.goto 74, 3) := by decide +kernel
theorem dX7_told_11 : decode cX7_told 11 = .ok (.iload_n 1, 1) := by decide +kernel
theorem dX7_told_12 : decode cX7_told 12 = .ok (.iconst 1, 1) := by decide +kernel
theorem dX7_told_13 : decode cX7_told 13 = .ok (.if_icmp .ne 10, 3) := by decide +kernel
theorem dX7_told_16 : decode cX7_told 16 = .ok (.aload_n 0, 1) := by decide +kernel
theorem dX7_told_17 : decode cX7_told 17 = .ok (.getfield 88, 3) := by decide +kernel
theorem dX7_told_20 : decode cX7_told 20 = .ok (.goto 62, 3) := by decide +kernel
theorem dX7_told_23 : decode cX7_told 23 = .ok (.iload_n 1, 1) := by decide +kernel
theorem dX7_told_24 : decode cX7_told 24 = .ok (.iconst 2, 1) := by decide +kernel
theorem dX7_told_25 : decode cX7_told 25 = .ok (.if_icmp .ne 10, 3) := by decide +kernel
theorem dX7_told_28 : decode cX7_told 28 = .ok (.aload_n 0, 1) := by decide +kernel
theorem dX7_told_29 : decode cX7_told 29 = .ok (.invokevirtual 98, 3) := by decide +kernel
theorem dX7_told_32 : decode cX7_told 32 = .ok (.goto 50, 3) := by decide +kernel
theorem dX7_told_35 : decode cX7_told 35 = .ok (.iload_n 1, 1) := by decide +kernel
theorem dX7_told_36 : decode cX7_told 36 = .ok (.iconst 3, 1) := by decide +kernel
theorem dX7_told_37 : decode cX7_told 37 = .ok (.if_icmp .ne 10, 3) := by decide +kernel
theorem dX7_told_40 : decode cX7_told 40 = .ok (.aload_n 0, 1) := by decide +kernel
theorem dX7_told_41 : decode cX7_told 41 = .ok (.getfield 150, 3) := by decide +kernel
theorem dX7_told_44 : decode cX7_told 44 = .ok (.goto 38, 3) := by decide +kernel
theorem dX7_told_47 : decode cX7_told 47 = .ok (.iload_n 1, 1) := by decide +kernel
theorem dX7_told_48 : decode cX7_told 48 = .ok (.iconst 4, 1) := by decide +kernel
theorem dX7_told_49 : decode cX7_told 49 = .ok (.if_icmp .ne 10, 3) := by decide +kernel
theorem dX7_told_52 : decode cX7_told 52 = .ok (.aload_n 0, 1) := by decide +kernel
theorem dX7_told_53 : decode cX7_told 53 = .ok (.getfield 156, 3) := by decide +kernel
theorem dX7_told_56 : decode cX7_told 56 = .ok (.goto 26, 3) := by decide +kernel
theorem dX7_told_59 : decode cX7_told 59 = .ok (.iload_n 1, 1) := by decide +kernel
theorem dX7_told_60 : decode cX7_told 60 = .ok (.iconst 5, 1) := by decide +kernel
theorem dX7_told_61 : decode cX7_told 61 = .ok (.bipush 8, 2) := by decide +kernel
theorem dX7_told_63 : decode cX7_told 63 = .ok (.invokestatic 69, 3) := by decide +kernel
theorem dX7_told_66 : decode cX7_told 66 = .ok (.ifCond .eq 14, 3) := by decide +kernel
theorem dX7_told_69 : decode cX7_told 69 = .ok (.aload_n 0, 1) := by decide +kernel
theorem dX7_told_70 : decode cX7_told 70 = .ok (.getfield 22, 3) := by decide +kernel
theorem dX7_told_73 : decode cX7_told 73 = .ok (.iload_n 1, 1) := by decide +kernel
theorem dX7_told_74 : decode cX7_told 74 = .ok (.iconst 5, 1) := by decide +kernel
theorem dX7_told_75 : decode cX7_told 75 = .ok (.isub, 1) := by decide +kernel
theorem dX7_told_76 : decode cX7_told 76 = .ok (.iaload, 1) := by decide +kernel
theorem dX7_told_77 : decode cX7_told 77 = .ok (.goto 5, 3) := by decide +kernel
theorem dX7_told_80 : decode cX7_told 80 = .ok (.bipush (-2), 2) := by decide +kernel
theorem dX7_told_82 : decode cX7_told 82 = .ok (.ireturn, 1) := by decide +kernel
