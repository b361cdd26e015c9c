theorem dX0_init_0 : decode cX0_init 0 = .ok (.aload_n 0, 1) := by decide +kernel
theorem dX0_init_1 : decode cX0_init 1 = .ok (.invokespecial 3, 3) := by decide +kernel
theorem dX0_init_4 : decode cX0_init 4 = .ok (.aload_n 0, 1) := by decide +kernel
theorem dX0_init_5 : decode cX0_init 5 = .ok (.aload_n 1, 1) := by decide +kernel
theorem dX0_init_6 : decode cX0_init 6 = .ok (.putfield 9, 3) := by decide +kernel
theorem dX0_init_9 : decode cX0_init 9 = .ok (.return_, 1) := by decide +kernel
theorem dX0_measure_0 : decode cX0_measure 0 = .ok (.aload_n 0, 1) := by decide +kernel
theorem dX0_measure_1 : decode cX0_measure 1 = .ok (.iconst 0, 1) := by decide +kernel
theorem dX0_measure_2 : decode cX0_measure 2 = .ok (.putfield 15, 3) := by decide +kernel
theorem dX0_measure_5 : decode cX0_measure 5 = .ok (.aload_n 0, 1) := by decide +kernel
theorem dX0_measure_6 : decode cX0_measure 6 = .ok (.iconst 0, 1) := by decide +kernel
theorem dX0_measure_7 : decode cX0_measure 7 = .ok (.putfield 19, 3) := by decide +kernel
theorem dX0_measure_10 : decode cX0_measure 10 = .ok (.aload_n 0, 1) := by decide +kernel
theorem dX0_measure_11 : decode cX0_measure 11 = .ok (.iconst 0, 1) := by decide +kernel
theorem dX0_measure_12 : decode cX0_measure 12 = .ok (.putfield 22, 3) := by decide +kernel
theorem dX0_measure_15 : decode cX0_measure 15 = .ok (.aload_n 0, 1) := by decide +kernel
theorem dX0_measure_16 : decode cX0_measure 16 = .ok (.getfield 9, 3) := by decide +kernel
theorem dX0_measure_19 : decode cX0_measure 19 = .ok (.getfield 25, 3) := by decide +kernel
theorem dX0_measure_22 : decode cX0_measure 22 = .ok (.iconst 1, 1) := by decide +kernel
theorem dX0_measure_23 : decode cX0_measure 23 = .ok (.iaload, 1) := by decide +kernel
theorem dX0_measure_24 : decode cX0_measure 24 = .ok (.istore_n 2, 1) := by decide +kernel
theorem dX0_measure_25 : decode cX0_measure 25 = .ok (.iconst 0, 1) := by decide +kernel
theorem dX0_measure_26 : decode cX0_measure 26 = .ok (.istore_n 3, 1) := by decide +kernel
theorem dX0_measure_27 : decode cX0_measure 27 = .ok (.iload_n 3, 1) := by decide +kernel
theorem dX0_measure_28 : decode cX0_measure 28 = .ok (.iload_n 2, 1) := by decide +kernel
theorem dX0_measure_29 : decode cX0_measure 29 = .ok (.if_icmp .gt 47, 3) := by decide +kernel
theorem dX0_measure_32 : decode cX0_measure 32 = .ok (.aload_n 0, 1) := by decide +kernel
theorem dX0_measure_33 : decode cX0_measure 33 = .ok (.iload_n 1, 1) := by decide +kernel
theorem dX0_measure_34 : decode cX0_measure 34 = .ok (.iload_n 2, 1) := by decide +kernel
theorem dX0_measure_35 : decode cX0_measure 35 = .ok (.iload_n 3, 1) := by decide +kernel
theorem dX0_measure_36 : decode cX0_measure 36 = .ok (.isub, 1) := by decide +kernel
theorem dX0_measure_37 : decode cX0_measure 37 = .ok (.invokevirtual 31, 3) := by decide +kernel
theorem dX0_measure_40 : decode cX0_measure 40 = .ok (.ifCond .eq 30, 3) := by decide +kernel
theorem dX0_measure_43 : decode cX0_measure 43 = .ok (.aload_n 0, 1) := by decide +kernel
theorem dX0_measure_44 : decode cX0_measure 44 = .ok (.getfield 22, 3) := by decide +kernel
theorem dX0_measure_47 : decode cX0_measure 47 = .ok (.ifCond .ne 8, 3) := by decide +kernel
theorem dX0_measure_50 : decode cX0_measure 50 = .ok (.aload_n 0, 1) := by decide +kernel
theorem dX0_measure_51 : decode cX0_measure 51 = .ok (.iload_n 3, 1) := by decide +kernel
theorem dX0_measure_52 : decode cX0_measure 52 = .ok (.putfield 15, 3) := by decide +kernel
theorem dX0_measure_55 : decode cX0_measure 55 = .ok (.aload_n 0, 1) := by decide +kernel
theorem dX0_measure_56 : decode cX0_measure 56 = .ok (.iload_n 3, 1) := by decide +kernel
theorem dX0_measure_57 : decode cX0_measure 57 = .ok (.putfield 19, 3) := by decide +kernel
theorem dX0_measure_60 : decode cX0_measure 60 = .ok (.aload_n 0, 1) := by decide +kernel
theorem dX0_measure_61 : decode cX0_measure 61 = .ok (.dup, 1) := by decide +kernel
theorem dX0_measure_62 : decode cX0_measure 62 = .ok (.getfield 22, 3) := by decide +kernel
theorem dX0_measure_65 : decode cX0_measure 65 = .ok (.iconst 1, 1) := by decide +kernel
theorem dX0_measure_66 : decode cX0_measure 66 = .ok (.iadd, 1) := by decide +kernel
theorem dX0_measure_67 : decode cX0_measure 67 = .ok (.putfield 22, 3) := by decide +kernel
theorem dX0_measure_70 : decode cX0_measure 70 = .ok (.iinc 3 1, 3) := by decide +kernel
theorem dX0_measure_73 : decode cX0_measure 73 = .ok (.goto (-46), 3) := by decide +kernel
theorem dX0_measure_76 : decode cX0_measure 76 = .ok (.return_, 1) := by decide +kernel
theorem dX0_canReach_0 : decode cX0_canReach 0 = .ok (.aload_n 0, 1) := by decide +kernel
theorem dX0_canReach_1 : decode cX0_canReach 1 = .ok (.getfield 9, 3) := by decide +kernel
theorem dX0_canReach_4 : decode cX0_canReach 4 = .ok (.getfield 35, 3) := by decide +kernel
theorem dX0_canReach_7 : decode cX0_canReach 7 = .ok (.iconst 1, 1) := by decide +kernel
theorem dX0_canReach_8 : decode cX0_canReach 8 = .ok (.iaload, 1) := by decide +kernel
theorem dX0_canReach_9 : decode cX0_canReach 9 = .ok (.istore_n 3, 1) := by decide +kernel
theorem dX0_canReach_10 : decode cX0_canReach 10 = .ok (.iload_n 3, 1) := by decide +kernel
theorem dX0_canReach_11 : decode cX0_canReach 11 = .ok (.aload_n 0, 1) := by decide +kernel
theorem dX0_canReach_12 : decode cX0_canReach 12 = .ok (.getfield 9, 3) := by decide +kernel
theorem dX0_canReach_15 : decode cX0_canReach 15 = .ok (.getfield 38, 3) := by decide +kernel
theorem dX0_canReach_18 : decode cX0_canReach 18 = .ok (.iconst 1, 1) := by decide +kernel
theorem dX0_canReach_19 : decode cX0_canReach 19 = .ok (.iaload, 1) := by decide +kernel
theorem dX0_canReach_20 : decode cX0_canReach 20 = .ok (.if_icmp .gt 44, 3) := by decide +kernel
theorem dX0_canReach_23 : decode cX0_canReach 23 = .ok (.iload_n 1, 1) := by decide +kernel
theorem dX0_canReach_24 : decode cX0_canReach 24 = .ok (.iload_n 3, 1) := by decide +kernel
theorem dX0_canReach_25 : decode cX0_canReach 25 = .ok (.iload_n 2, 1) := by decide +kernel
theorem dX0_canReach_26 : decode cX0_canReach 26 = .ok (.imul, 1) := by decide +kernel
theorem dX0_canReach_27 : decode cX0_canReach 27 = .ok (.isub, 1) := by decide +kernel
theorem dX0_canReach_28 : decode cX0_canReach 28 = .ok (.istore 4, 2) := by decide +kernel
theorem dX0_canReach_30 : decode cX0_canReach 30 = .ok (.iload 4, 2) := by decide +kernel
theorem dX0_canReach_32 : decode cX0_canReach 32 = .ok (.aload_n 0, 1) := by decide +kernel
theorem dX0_canReach_33 : decode cX0_canReach 33 = .ok (.getfield 9, 3) := by decide +kernel
theorem dX0_canReach_36 : decode cX0_canReach 36 = .ok (.getfield 35, 3) := by decide +kernel
theorem dX0_canReach_39 : decode cX0_canReach 39 = .ok (.iconst 0, 1) := by decide +kernel
theorem dX0_canReach_40 : decode cX0_canReach 40 = .ok (.iaload, 1) := by decide +kernel
theorem dX0_canReach_41 : decode cX0_canReach 41 = .ok (.aload_n 0, 1) := by decide +kernel
theorem dX0_canReach_42 : decode cX0_canReach 42 = .ok (.getfield 9, 3) := by decide +kernel
theorem dX0_canReach_45 : decode cX0_canReach 45 = .ok (.getfield 38, 3) := by decide +kernel
theorem dX0_canReach_48 : decode cX0_canReach 48 = .ok (.iconst 0, 1) := by decide +kernel
theorem dX0_canReach_49 : decode cX0_canReach 49 = .ok (.iaload, 1) := by decide +kernel
theorem dX0_canReach_50 : decode cX0_canReach 50 = .ok (.invokestatic 41, 3) := by decide +kernel
theorem dX0_canReach_53 : decode cX0_canReach 53 = .ok (.ifCond .eq 5, 3) := by decide +kernel
theorem dX0_canReach_56 : decode cX0_canReach 56 = .ok (.iconst 1, 1) := by decide +kernel
theorem dX0_canReach_57 : decode cX0_canReach 57 = .ok (.ireturn, 1) := by decide +kernel
theorem dX0_canReach_58 : decode cX0_canReach 58 = .ok (.iinc 3 1, 3) := by decide +kernel
theorem dX0_canReach_61 : decode cX0_canReach 61 = .ok (.goto (-51), 3) := by decide +kernel
theorem dX0_canReach_64 : decode cX0_canReach 64 = .ok (.iconst 0, 1) := by decide +kernel
theorem dX0_canReach_65 : decode cX0_canReach 65 = .ok (.ireturn, 1) := by decide +kernel
theorem dX1_init_0 : decode cX1_init 0 = .ok (.aload_n 0, 1) := by decide +kernel
theorem dX1_init_1 : decode cX1_init 1 = .ok (.invokespecial 3, 3) := by decide +kernel
theorem dX1_init_4 : decode cX1_init 4 = .ok (.aload_n 0, 1) := by decide +kernel
theorem dX1_init_5 : decode cX1_init 5 = .ok (.bipush 6, 2) := by decide +kernel
theorem dX1_init_7 : decode cX1_init 7 = .ok (.newarray .int, 2) := by decide +kernel
theorem dX1_init_9 : decode cX1_init 9 = .ok (.putfield 9, 3) := by decide +kernel
theorem dX1_init_12 : decode cX1_init 12 = .ok (.aload_n 0, 1) := by decide +kernel
theorem dX1_init_13 : decode cX1_init 13 = .ok (.bipush 6, 2) := by decide +kernel
theorem dX1_init_15 : decode cX1_init 15 = .ok (.newarray .int, 2) := by decide +kernel
theorem dX1_init_17 : decode cX1_init 17 = .ok (.putfield 15, 3) := by decide +kernel
theorem dX1_init_20 : decode cX1_init 20 = .ok (.aload_n 0, 1) := by decide +kernel
theorem dX1_init_21 : decode cX1_init 21 = .ok (.bipush 6, 2) := by decide +kernel
theorem dX1_init_23 : decode cX1_init 23 = .ok (.newarray .int, 2) := by decide +kernel
theorem dX1_init_25 : decode cX1_init 25 = .ok (.putfield 18, 3) := by decide +kernel
theorem dX1_init_28 : decode cX1_init 28 = .ok (.aload_n 0, 1) := by decide +kernel
theorem dX1_init_29 : decode cX1_init 29 = .ok (.bipush 6, 2) := by decide +kernel
theorem dX1_init_31 : decode cX1_init 31 = .ok (.newarray .int, 2) := by decide +kernel
theorem dX1_init_33 : decode cX1_init 33 = .ok (.putfield 21, 3) := by decide +kernel
theorem dX1_init_36 : decode cX1_init 36 = .ok (.aload_n 0, 1) := by decide +kernel
theorem dX1_init_37 : decode cX1_init 37 = .ok (.iconst 4, 1) := by decide +kernel
theorem dX1_init_38 : decode cX1_init 38 = .ok (.iconst 4, 1) := by decide +kernel
theorem dX1_init_39 : decode cX1_init 39 = .ok (.multianewarray 24 2, 4) := by decide +kernel
theorem dX1_init_43 : decode cX1_init 43 = .ok (.putfield 26, 3) := by decide +kernel
theorem dX1_init_46 : decode cX1_init 46 = .ok (.aload_n 0, 1) := by decide +kernel
theorem dX1_init_47 : decode cX1_init 47 = .ok (.iconst 4, 1) := by decide +kernel
theorem dX1_init_48 : decode cX1_init 48 = .ok (.newarray .int, 2) := by decide +kernel
theorem dX1_init_50 : decode cX1_init 50 = .ok (.dup, 1) := by decide +kernel
theorem dX1_init_51 : decode cX1_init 51 = .ok (.iconst 0, 1) := by decide +kernel
theorem dX1_init_52 : decode cX1_init 52 = .ok (.bipush 20, 2) := by decide +kernel
theorem dX1_init_54 : decode cX1_init 54 = .ok (.iastore, 1) := by decide +kernel
theorem dX1_init_55 : decode cX1_init 55 = .ok (.dup, 1) := by decide +kernel
theorem dX1_init_56 : decode cX1_init 56 = .ok (.iconst 1, 1) := by decide +kernel
theorem dX1_init_57 : decode cX1_init 57 = .ok (.bipush 99, 2) := by decide +kernel
theorem dX1_init_59 : decode cX1_init 59 = .ok (.iastore, 1) := by decide +kernel
theorem dX1_init_60 : decode cX1_init 60 = .ok (.dup, 1) := by decide +kernel
theorem dX1_init_61 : decode cX1_init 61 = .ok (.iconst 2, 1) := by decide +kernel
theorem dX1_init_62 : decode cX1_init 62 = .ok (.bipush 10, 2) := by decide +kernel
theorem dX1_init_64 : decode cX1_init 64 = .ok (.iastore, 1) := by decide +kernel
theorem dX1_init_65 : decode cX1_init 65 = .ok (.dup, 1) := by decide +kernel
theorem dX1_init_66 : decode cX1_init 66 = .ok (.iconst 3, 1) := by decide +kernel
theorem dX1_init_67 : decode cX1_init 67 = .ok (.bipush 10, 2) := by decide +kernel
theorem dX1_init_69 : decode cX1_init 69 = .ok (.iastore, 1) := by decide +kernel
theorem dX1_init_70 : decode cX1_init 70 = .ok (.putfield 29, 3) := by decide +kernel
theorem dX1_init_73 : decode cX1_init 73 = .ok (.aload_n 0, 1) := by decide +kernel
theorem dX1_init_74 : decode cX1_init 74 = .ok (.iconst 2, 1) := by decide +kernel
theorem dX1_init_75 : decode cX1_init 75 = .ok (.newarray .int, 2) := by decide +kernel
theorem dX1_init_77 : decode cX1_init 77 = .ok (.dup, 1) := by decide +kernel
theorem dX1_init_78 : decode cX1_init 78 = .ok (.iconst 0, 1) := by decide +kernel
theorem dX1_init_79 : decode cX1_init 79 = .ok (.bipush 10, 2) := by decide +kernel
theorem dX1_init_81 : decode cX1_init 81 = .ok (.iastore, 1) := by decide +kernel
theorem dX1_init_82 : decode cX1_init 82 = .ok (.dup, 1) := by decide +kernel
theorem dX1_init_83 : decode cX1_init 83 = .ok (.iconst 1, 1) := by decide +kernel
theorem dX1_init_84 : decode cX1_init 84 = .ok (.iconst 1, 1) := by decide +kernel
theorem dX1_init_85 : decode cX1_init 85 = .ok (.iastore, 1) := by decide +kernel
theorem dX1_init_86 : decode cX1_init 86 = .ok (.putfield 32, 3) := by decide +kernel
theorem dX1_init_89 : decode cX1_init 89 = .ok (.aload_n 0, 1) := by decide +kernel
theorem dX1_init_90 : decode cX1_init 90 = .ok (.iconst 2, 1) := by decide +kernel
theorem dX1_init_91 : decode cX1_init 91 = .ok (.newarray .int, 2) := by decide +kernel
theorem dX1_init_93 : decode cX1_init 93 = .ok (.dup, 1) := by decide +kernel
theorem dX1_init_94 : decode cX1_init 94 = .ok (.iconst 0, 1) := by decide +kernel
theorem dX1_init_95 : decode cX1_init 95 = .ok (.bipush 10, 2) := by decide +kernel
theorem dX1_init_97 : decode cX1_init 97 = .ok (.iastore, 1) := by decide +kernel
theorem dX1_init_98 : decode cX1_init 98 = .ok (.dup, 1) := by decide +kernel
theorem dX1_init_99 : decode cX1_init 99 = .ok (.iconst 1, 1) := by decide +kernel
theorem dX1_init_100 : decode cX1_init 100 = .ok (.iconst 1, 1) := by decide +kernel
theorem dX1_init_101 : decode cX1_init 101 = .ok (.iastore, 1) := by decide +kernel
theorem dX1_init_102 : decode cX1_init 102 = .ok (.putfield 35, 3) := by decide +kernel
theorem dX1_init_105 : decode cX1_init 105 = .ok (.aload_n 0, 1) := by decide +kernel
theorem dX1_init_106 : decode cX1_init 106 = .ok (.bipush 8, 2) := by decide +kernel
theorem dX1_init_108 : decode cX1_init 108 = .ok (.newarray .int, 2) := by decide +kernel
theorem dX1_init_110 : decode cX1_init 110 = .ok (.putfield 38, 3) := by decide +kernel
theorem dX1_init_113 : decode cX1_init 113 = .ok (.aload_n 0, 1) := by decide +kernel
theorem dX1_init_114 : decode cX1_init 114 = .ok (.bipush 8, 2) := by decide +kernel
theorem dX1_init_116 : decode cX1_init 116 = .ok (.newarray .int, 2) := by decide +kernel
theorem dX1_init_118 : decode cX1_init 118 = .ok (.putfield 41, 3) := by decide +kernel
theorem dX1_init_121 : decode cX1_init 121 = .ok (.iconst 0, 1) := by decide +kernel
theorem dX1_init_122 : decode cX1_init 122 = .ok (.istore_n 1, 1) := by decide +kernel
theorem dX1_init_123 : decode cX1_init 123 = .ok (.iload_n 1, 1) := by decide +kernel
theorem dX1_init_124 : decode cX1_init 124 = .ok (.iconst 4, 1) := by decide +kernel
theorem dX1_init_125 : decode cX1_init 125 = .ok (.if_icmp .ge 41, 3) := by decide +kernel
theorem dX1_init_128 : decode cX1_init 128 = .ok (.iconst 0, 1) := by decide +kernel
theorem dX1_init_129 : decode cX1_init 129 = .ok (.istore_n 2, 1) := by decide +kernel
theorem dX1_init_130 : decode cX1_init 130 = .ok (.iload_n 2, 1) := by decide +kernel
theorem dX1_init_131 : decode cX1_init 131 = .ok (.iconst 4, 1) := by decide +kernel
theorem dX1_init_132 : decode cX1_init 132 = .ok (.if_icmp .ge 28, 3) := by decide +kernel
theorem dX1_init_135 : decode cX1_init 135 = .ok (.aload_n 0, 1) := by decide +kernel
theorem dX1_init_136 : decode cX1_init 136 = .ok (.getfield 26, 3) := by decide +kernel
theorem dX1_init_139 : decode cX1_init 139 = .ok (.iload_n 1, 1) := by decide +kernel
theorem dX1_init_140 : decode cX1_init 140 = .ok (.aaload, 1) := by decide +kernel
theorem dX1_init_141 : decode cX1_init 141 = .ok (.iload_n 2, 1) := by decide +kernel
theorem dX1_init_142 : decode cX1_init 142 = .ok (.iload_n 1, 1) := by decide +kernel
theorem dX1_init_143 : decode cX1_init 143 = .ok (.iload_n 2, 1) := by decide +kernel
theorem dX1_init_144 : decode cX1_init 144 = .ok (.if_icmp .ne 7, 3) := by decide +kernel
theorem dX1_init_147 : decode cX1_init 147 = .ok (.iconst 0, 1) := by decide +kernel
theorem dX1_init_148 : decode cX1_init 148 = .ok (.goto 5, 3) := by decide +kernel
theorem dX1_init_151 : decode cX1_init 151 = .ok (.bipush 10, 2) := by decide +kernel
theorem dX1_init_153 : decode cX1_init 153 = .ok (.iastore, 1) := by decide +kernel
theorem dX1_init_154 : decode cX1_init 154 = .ok (.iinc 2 1, 3) := by decide +kernel
theorem dX1_init_157 : decode cX1_init 157 = .ok (.goto (-27), 3) := by decide +kernel
theorem dX1_init_160 : decode cX1_init 160 = .ok (.iinc 1 1, 3) := by decide +kernel
theorem dX1_init_163 : decode cX1_init 163 = .ok (.goto (-40), 3) := by decide +kernel
theorem dX1_init_166 : decode cX1_init 166 = .ok (.iconst 0, 1) := by decide +kernel
theorem dX1_init_167 : decode cX1_init 167 = .ok (.istore_n 1, 1) := by decide +kernel
theorem dX1_init_168 : decode cX1_init 168 = .ok (.iload_n 1, 1) := by decide +kernel
theorem dX1_init_169 : decode cX1_init 169 = .ok (.bipush 8, 2) := by decide +kernel
theorem dX1_init_171 : decode cX1_init 171 = .ok (.if_icmp .ge 27, 3) := by decide +kernel
theorem dX1_init_174 : decode cX1_init 174 = .ok (.aload_n 0, 1) := by decide +kernel
theorem dX1_init_175 : decode cX1_init 175 = .ok (.getfield 38, 3) := by decide +kernel
theorem dX1_init_178 : decode cX1_init 178 = .ok (.iload_n 1, 1) := by decide +kernel
theorem dX1_init_179 : decode cX1_init 179 = .ok (.iconst 1, 1) := by decide +kernel
theorem dX1_init_180 : decode cX1_init 180 = .ok (.iload_n 1, 1) := by decide +kernel
theorem dX1_init_181 : decode cX1_init 181 = .ok (.ishl, 1) := by decide +kernel
theorem dX1_init_182 : decode cX1_init 182 = .ok (.iastore, 1) := by decide +kernel
theorem dX1_init_183 : decode cX1_init 183 = .ok (.aload_n 0, 1) := by decide +kernel
theorem dX1_init_184 : decode cX1_init 184 = .ok (.getfield 41, 3) := by decide +kernel
theorem dX1_init_187 : decode cX1_init 187 = .ok (.iload_n 1, 1) := by decide +kernel
theorem dX1_init_188 : decode cX1_init 188 = .ok (.iconst 1, 1) := by decide +kernel
theorem dX1_init_189 : decode cX1_init 189 = .ok (.iload_n 1, 1) := by decide +kernel
theorem dX1_init_190 : decode cX1_init 190 = .ok (.ishl, 1) := by decide +kernel
theorem dX1_init_191 : decode cX1_init 191 = .ok (.iastore, 1) := by decide +kernel
theorem dX1_init_192 : decode cX1_init 192 = .ok (.iinc 1 1, 3) := by decide +kernel
theorem dX1_init_195 : decode cX1_init 195 = .ok (.goto (-27), 3) := by decide +kernel
theorem dX1_init_198 : decode cX1_init 198 = .ok (.return_, 1) := by decide +kernel
theorem dX1_copyOf_0 : decode cX1_copyOf 0 = .ok (.aload_n 0, 1) := by decide +kernel
theorem dX1_copyOf_1 : decode cX1_copyOf 1 = .ok (.aload_n 1, 1) := by decide +kernel
theorem dX1_copyOf_2 : decode cX1_copyOf 2 = .ok (.getfield 44, 3) := by decide +kernel
theorem dX1_copyOf_5 : decode cX1_copyOf 5 = .ok (.putfield 44, 3) := by decide +kernel
theorem dX1_copyOf_8 : decode cX1_copyOf 8 = .ok (.aload_n 0, 1) := by decide +kernel
theorem dX1_copyOf_9 : decode cX1_copyOf 9 = .ok (.aload_n 1, 1) := by decide +kernel
theorem dX1_copyOf_10 : decode cX1_copyOf 10 = .ok (.getfield 48, 3) := by decide +kernel
theorem dX1_copyOf_13 : decode cX1_copyOf 13 = .ok (.putfield 48, 3) := by decide +kernel
theorem dX1_copyOf_16 : decode cX1_copyOf 16 = .ok (.aload_n 1, 1) := by decide +kernel
theorem dX1_copyOf_17 : decode cX1_copyOf 17 = .ok (.getfield 9, 3) := by decide +kernel
theorem dX1_copyOf_20 : decode cX1_copyOf 20 = .ok (.iconst 0, 1) := by decide +kernel
theorem dX1_copyOf_21 : decode cX1_copyOf 21 = .ok (.aload_n 0, 1) := by decide +kernel
theorem dX1_copyOf_22 : decode cX1_copyOf 22 = .ok (.getfield 9, 3) := by decide +kernel
theorem dX1_copyOf_25 : decode cX1_copyOf 25 = .ok (.iconst 0, 1) := by decide +kernel
theorem dX1_copyOf_26 : decode cX1_copyOf 26 = .ok (.bipush 6, 2) := by decide +kernel
theorem dX1_copyOf_28 : decode cX1_copyOf 28 = .ok (.invokestatic 51, 3) := by decide +kernel
theorem dX1_copyOf_31 : decode cX1_copyOf 31 = .ok (.aload_n 1, 1) := by decide +kernel
theorem dX1_copyOf_32 : decode cX1_copyOf 32 = .ok (.getfield 15, 3) := by decide +kernel
theorem dX1_copyOf_35 : decode cX1_copyOf 35 = .ok (.iconst 0, 1) := by decide +kernel
theorem dX1_copyOf_36 : decode cX1_copyOf 36 = .ok (.aload_n 0, 1) := by decide +kernel
theorem dX1_copyOf_37 : decode cX1_copyOf 37 = .ok (.getfield 15, 3) := by decide +kernel
theorem dX1_copyOf_40 : decode cX1_copyOf 40 = .ok (.iconst 0, 1) := by decide +kernel
theorem dX1_copyOf_41 : decode cX1_copyOf 41 = .ok (.bipush 6, 2) := by decide +kernel
theorem dX1_copyOf_43 : decode cX1_copyOf 43 = .ok (.invokestatic 51, 3) := by decide +kernel
theorem dX1_copyOf_46 : decode cX1_copyOf 46 = .ok (.aload_n 1, 1) := by decide +kernel
theorem dX1_copyOf_47 : decode cX1_copyOf 47 = .ok (.getfield 18, 3) := by decide +kernel
theorem dX1_copyOf_50 : decode cX1_copyOf 50 = .ok (.iconst 0, 1) := by decide +kernel
theorem dX1_copyOf_51 : decode cX1_copyOf 51 = .ok (.aload_n 0, 1) := by decide +kernel
theorem dX1_copyOf_52 : decode cX1_copyOf 52 = .ok (.getfield 18, 3) := by decide +kernel
theorem dX1_copyOf_55 : decode cX1_copyOf 55 = .ok (.iconst 0, 1) := by decide +kernel
theorem dX1_copyOf_56 : decode cX1_copyOf 56 = .ok (.bipush 6, 2) := by decide +kernel
theorem dX1_copyOf_58 : decode cX1_copyOf 58 = .ok (.invokestatic 51, 3) := by decide +kernel
theorem dX1_copyOf_61 : decode cX1_copyOf 61 = .ok (.aload_n 1, 1) := by decide +kernel
theorem dX1_copyOf_62 : decode cX1_copyOf 62 = .ok (.getfield 21, 3) := by decide +kernel
theorem dX1_copyOf_65 : decode cX1_copyOf 65 = .ok (.iconst 0, 1) := by decide +kernel
theorem dX1_copyOf_66 : decode cX1_copyOf 66 = .ok (.aload_n 0, 1) := by decide +kernel
theorem dX1_copyOf_67 : decode cX1_copyOf 67 = .ok (.getfield 21, 3) := by decide +kernel
theorem dX1_copyOf_70 : decode cX1_copyOf 70 = .ok (.iconst 0, 1) := by decide +kernel
theorem dX1_copyOf_71 : decode cX1_copyOf 71 = .ok (.bipush 6, 2) := by decide +kernel
theorem dX1_copyOf_73 : decode cX1_copyOf 73 = .ok (.invokestatic 51, 3) := by decide +kernel
theorem dX1_copyOf_76 : decode cX1_copyOf 76 = .ok (.iconst 0, 1) := by decide +kernel
theorem dX1_copyOf_77 : decode cX1_copyOf 77 = .ok (.istore_n 2, 1) := by decide +kernel
theorem dX1_copyOf_78 : decode cX1_copyOf 78 = .ok (.iload_n 2, 1) := by decide +kernel
theorem dX1_copyOf_79 : decode cX1_copyOf 79 = .ok (.iconst 4, 1) := by decide +kernel
theorem dX1_copyOf_80 : decode cX1_copyOf 80 = .ok (.if_icmp .ge 27, 3) := by decide +kernel
theorem dX1_copyOf_83 : decode cX1_copyOf 83 = .ok (.aload_n 1, 1) := by decide +kernel
theorem dX1_copyOf_84 : decode cX1_copyOf 84 = .ok (.getfield 26, 3) := by decide +kernel
theorem dX1_copyOf_87 : decode cX1_copyOf 87 = .ok (.iload_n 2, 1) := by decide +kernel
theorem dX1_copyOf_88 : decode cX1_copyOf 88 = .ok (.aaload, 1) := by decide +kernel
theorem dX1_copyOf_89 : decode cX1_copyOf 89 = .ok (.iconst 0, 1) := by decide +kernel
theorem dX1_copyOf_90 : decode cX1_copyOf 90 = .ok (.aload_n 0, 1) := by decide +kernel
theorem dX1_copyOf_91 : decode cX1_copyOf 91 = .ok (.getfield 26, 3) := by decide +kernel
theorem dX1_copyOf_94 : decode cX1_copyOf 94 = .ok (.iload_n 2, 1) := by decide +kernel
theorem dX1_copyOf_95 : decode cX1_copyOf 95 = .ok (.aaload, 1) := by decide +kernel
theorem dX1_copyOf_96 : decode cX1_copyOf 96 = .ok (.iconst 0, 1) := by decide +kernel
theorem dX1_copyOf_97 : decode cX1_copyOf 97 = .ok (.iconst 4, 1) := by decide +kernel
theorem dX1_copyOf_98 : decode cX1_copyOf 98 = .ok (.invokestatic 51, 3) := by decide +kernel
theorem dX1_copyOf_101 : decode cX1_copyOf 101 = .ok (.iinc 2 1, 3) := by decide +kernel
theorem dX1_copyOf_104 : decode cX1_copyOf 104 = .ok (.goto (-26), 3) := by decide +kernel
theorem dX1_copyOf_107 : decode cX1_copyOf 107 = .ok (.aload_n 1, 1) := by decide +kernel
theorem dX1_copyOf_108 : decode cX1_copyOf 108 = .ok (.getfield 29, 3) := by decide +kernel
theorem dX1_copyOf_111 : decode cX1_copyOf 111 = .ok (.iconst 0, 1) := by decide +kernel
theorem dX1_copyOf_112 : decode cX1_copyOf 112 = .ok (.aload_n 0, 1) := by decide +kernel
theorem dX1_copyOf_113 : decode cX1_copyOf 113 = .ok (.getfield 29, 3) := by decide +kernel
theorem dX1_copyOf_116 : decode cX1_copyOf 116 = .ok (.iconst 0, 1) := by decide +kernel
theorem dX1_copyOf_117 : decode cX1_copyOf 117 = .ok (.iconst 4, 1) := by decide +kernel
theorem dX1_copyOf_118 : decode cX1_copyOf 118 = .ok (.invokestatic 51, 3) := by decide +kernel
theorem dX1_copyOf_121 : decode cX1_copyOf 121 = .ok (.aload_n 1, 1) := by decide +kernel
theorem dX1_copyOf_122 : decode cX1_copyOf 122 = .ok (.getfield 32, 3) := by decide +kernel
theorem dX1_copyOf_125 : decode cX1_copyOf 125 = .ok (.iconst 0, 1) := by decide +kernel
theorem dX1_copyOf_126 : decode cX1_copyOf 126 = .ok (.aload_n 0, 1) := by decide +kernel
theorem dX1_copyOf_127 : decode cX1_copyOf 127 = .ok (.getfield 32, 3) := by decide +kernel
theorem dX1_copyOf_130 : decode cX1_copyOf 130 = .ok (.iconst 0, 1) := by decide +kernel
theorem dX1_copyOf_131 : decode cX1_copyOf 131 = .ok (.iconst 2, 1) := by decide +kernel
theorem dX1_copyOf_132 : decode cX1_copyOf 132 = .ok (.invokestatic 51, 3) := by decide +kernel
theorem dX1_copyOf_135 : decode cX1_copyOf 135 = .ok (.aload_n 1, 1) := by decide +kernel
theorem dX1_copyOf_136 : decode cX1_copyOf 136 = .ok (.getfield 35, 3) := by decide +kernel
theorem dX1_copyOf_139 : decode cX1_copyOf 139 = .ok (.iconst 0, 1) := by decide +kernel
theorem dX1_copyOf_140 : decode cX1_copyOf 140 = .ok (.aload_n 0, 1) := by decide +kernel
theorem dX1_copyOf_141 : decode cX1_copyOf 141 = .ok (.getfield 35, 3) := by decide +kernel
theorem dX1_copyOf_144 : decode cX1_copyOf 144 = .ok (.iconst 0, 1) := by decide +kernel
theorem dX1_copyOf_145 : decode cX1_copyOf 145 = .ok (.iconst 2, 1) := by decide +kernel
theorem dX1_copyOf_146 : decode cX1_copyOf 146 = .ok (.invokestatic 51, 3) := by decide +kernel
theorem dX1_copyOf_149 : decode cX1_copyOf 149 = .ok (.aload_n 1, 1) := by decide +kernel
theorem dX1_copyOf_150 : decode cX1_copyOf 150 = .ok (.getfield 38, 3) := by decide +kernel
theorem dX1_copyOf_153 : decode cX1_copyOf 153 = .ok (.iconst 0, 1) := by decide +kernel
theorem dX1_copyOf_154 : decode cX1_copyOf 154 = .ok (.aload_n 0, 1) := by decide +kernel
theorem dX1_copyOf_155 : decode cX1_copyOf 155 = .ok (.getfield 38, 3) := by decide +kernel
theorem dX1_copyOf_158 : decode cX1_copyOf 158 = .ok (.iconst 0, 1) := by decide +kernel
theorem dX1_copyOf_159 : decode cX1_copyOf 159 = .ok (.bipush 8, 2) := by decide +kernel
theorem dX1_copyOf_161 : decode cX1_copyOf 161 = .ok (.invokestatic 51, 3) := by decide +kernel
theorem dX1_copyOf_164 : decode cX1_copyOf 164 = .ok (.aload_n 1, 1) := by decide +kernel
theorem dX1_copyOf_165 : decode cX1_copyOf 165 = .ok (.getfield 41, 3) := by decide +kernel
theorem dX1_copyOf_168 : decode cX1_copyOf 168 = .ok (.iconst 0, 1) := by decide +kernel
theorem dX1_copyOf_169 : decode cX1_copyOf 169 = .ok (.aload_n 0, 1) := by decide +kernel
theorem dX1_copyOf_170 : decode cX1_copyOf 170 = .ok (.getfield 41, 3) := by decide +kernel
theorem dX1_copyOf_173 : decode cX1_copyOf 173 = .ok (.iconst 0, 1) := by decide +kernel
theorem dX1_copyOf_174 : decode cX1_copyOf 174 = .ok (.bipush 8, 2) := by decide +kernel
theorem dX1_copyOf_176 : decode cX1_copyOf 176 = .ok (.invokestatic 51, 3) := by decide +kernel
theorem dX1_copyOf_179 : decode cX1_copyOf 179 = .ok (.return_, 1) := by decide +kernel
theorem dX1_hasPicture_0 : decode cX1_hasPicture 0 = .ok (.iload_n 1, 1) := by decide +kernel
theorem dX1_hasPicture_1 : decode cX1_hasPicture 1 = .ok (.ifCond .lt 15, 3) := by decide +kernel
theorem dX1_hasPicture_4 : decode cX1_hasPicture 4 = .ok (.iload_n 1, 1) := by decide +kernel
theorem dX1_hasPicture_5 : decode cX1_hasPicture 5 = .ok (.aload_n 0, 1) := by decide +kernel
theorem dX1_hasPicture_6 : decode cX1_hasPicture 6 = .ok (.getfield 44, 3) := by decide +kernel
theorem dX1_hasPicture_9 : decode cX1_hasPicture 9 = .ok (.if_icmp .ge 7, 3) := by decide +kernel
theorem dX1_hasPicture_12 : decode cX1_hasPicture 12 = .ok (.iconst 1, 1) := by decide +kernel
theorem dX1_hasPicture_13 : decode cX1_hasPicture 13 = .ok (.goto 4, 3) := by decide +kernel
theorem dX1_hasPicture_16 : decode cX1_hasPicture 16 = .ok (.iconst 0, 1) := by decide +kernel
theorem dX1_hasPicture_17 : decode cX1_hasPicture 17 = .ok (.ireturn, 1) := by decide +kernel
theorem dX1_addPicture_0 : decode cX1_addPicture 0 = .ok (.aload_n 0, 1) := by decide +kernel
theorem dX1_addPicture_1 : decode cX1_addPicture 1 = .ok (.getfield 44, 3) := by decide +kernel
theorem dX1_addPicture_4 : decode cX1_addPicture 4 = .ok (.istore 4, 2) := by decide +kernel
theorem dX1_addPicture_6 : decode cX1_addPicture 6 = .ok (.aload_n 0, 1) := by decide +kernel
theorem dX1_addPicture_7 : decode cX1_addPicture 7 = .ok (.getfield 9, 3) := by decide +kernel
theorem dX1_addPicture_10 : decode cX1_addPicture 10 = .ok (.iload 4, 2) := by decide +kernel
theorem dX1_addPicture_12 : decode cX1_addPicture 12 = .ok (.iload_n 1, 1) := by decide +kernel
theorem dX1_addPicture_13 : decode cX1_addPicture 13 = .ok (.iastore, 1) := by decide +kernel
theorem dX1_addPicture_14 : decode cX1_addPicture 14 = .ok (.aload_n 0, 1) := by decide +kernel
theorem dX1_addPicture_15 : decode cX1_addPicture 15 = .ok (.getfield 15, 3) := by decide +kernel
theorem dX1_addPicture_18 : decode cX1_addPicture 18 = .ok (.iload 4, 2) := by decide +kernel
theorem dX1_addPicture_20 : decode cX1_addPicture 20 = .ok (.iload_n 2, 1) := by decide +kernel
theorem dX1_addPicture_21 : decode cX1_addPicture 21 = .ok (.iastore, 1) := by decide +kernel
theorem dX1_addPicture_22 : decode cX1_addPicture 22 = .ok (.aload_n 0, 1) := by decide +kernel
theorem dX1_addPicture_23 : decode cX1_addPicture 23 = .ok (.getfield 18, 3) := by decide +kernel
theorem dX1_addPicture_26 : decode cX1_addPicture 26 = .ok (.iload 4, 2) := by decide +kernel
theorem dX1_addPicture_28 : decode cX1_addPicture 28 = .ok (.iload_n 3, 1) := by decide +kernel
theorem dX1_addPicture_29 : decode cX1_addPicture 29 = .ok (.iastore, 1) := by decide +kernel
theorem dX1_addPicture_30 : decode cX1_addPicture 30 = .ok (.aload_n 0, 1) := by decide +kernel
theorem dX1_addPicture_31 : decode cX1_addPicture 31 = .ok (.getfield 21, 3) := by decide +kernel
theorem dX1_addPicture_34 : decode cX1_addPicture 34 = .ok (.iload 4, 2) := by decide +kernel
theorem dX1_addPicture_36 : decode cX1_addPicture 36 = .ok (.iconst 0, 1) := by decide +kernel
theorem dX1_addPicture_37 : decode cX1_addPicture 37 = .ok (.iastore, 1) := by decide +kernel
theorem dX1_addPicture_38 : decode cX1_addPicture 38 = .ok (.aload_n 0, 1) := by decide +kernel
theorem dX1_addPicture_39 : decode cX1_addPicture 39 = .ok (.dup, 1) := by decide +kernel
theorem dX1_addPicture_40 : decode cX1_addPicture 40 = .ok (.getfield 44, 3) := by decide +kernel
theorem dX1_addPicture_43 : decode cX1_addPicture 43 = .ok (.iconst 1, 1) := by decide +kernel
theorem dX1_addPicture_44 : decode cX1_addPicture 44 = .ok (.iadd, 1) := by decide +kernel
theorem dX1_addPicture_45 : decode cX1_addPicture 45 = .ok (.putfield 44, 3) := by decide +kernel
theorem dX1_addPicture_48 : decode cX1_addPicture 48 = .ok (.iload 4, 2) := by decide +kernel
theorem dX1_addPicture_50 : decode cX1_addPicture 50 = .ok (.ireturn, 1) := by decide +kernel
theorem dX1_widthOrNone_0 : decode cX1_widthOrNone 0 = .ok (.aload_n 0, 1) := by decide +kernel
theorem dX1_widthOrNone_1 : decode cX1_widthOrNone 1 = .ok (.getfield 21, 3) := by decide +kernel
theorem dX1_widthOrNone_4 : decode cX1_widthOrNone 4 = .ok (.iload_n 1, 1) := by decide +kernel
theorem dX1_widthOrNone_5 : decode cX1_widthOrNone 5 = .ok (.iaload, 1) := by decide +kernel
theorem dX1_widthOrNone_6 : decode cX1_widthOrNone 6 = .ok (.ifCond .ne 8, 3) := by decide +kernel
theorem dX1_widthOrNone_9 : decode cX1_widthOrNone 9 = .ok (.bipush (-6), 2) := by decide +kernel
theorem dX1_widthOrNone_11 : decode cX1_widthOrNone 11 = .ok (.goto 9, 3) := by decide +kernel
theorem dX1_widthOrNone_14 : decode cX1_widthOrNone 14 = .ok (.aload_n 0, 1) := by decide +kernel
theorem dX1_widthOrNone_15 : decode cX1_widthOrNone 15 = .ok (.getfield 21, 3) := by decide +kernel
theorem dX1_widthOrNone_18 : decode cX1_widthOrNone 18 = .ok (.iload_n 1, 1) := by decide +kernel
theorem dX1_widthOrNone_19 : decode cX1_widthOrNone 19 = .ok (.iaload, 1) := by decide +kernel
theorem dX1_widthOrNone_20 : decode cX1_widthOrNone 20 = .ok (.ireturn, 1) := by decide +kernel
theorem dX1_tracingCost_0 : decode cX1_tracingCost 0 = .ok (.iconst 0, 1) := by decide +kernel
theorem dX1_tracingCost_1 : decode cX1_tracingCost 1 = .ok (.istore_n 3, 1) := by decide +kernel
theorem dX1_tracingCost_2 : decode cX1_tracingCost 2 = .ok (.iconst 0, 1) := by decide +kernel
theorem dX1_tracingCost_3 : decode cX1_tracingCost 3 = .ok (.istore 4, 2) := by decide +kernel
theorem dX1_tracingCost_5 : decode cX1_tracingCost 5 = .ok (.iload 4, 2) := by decide +kernel
theorem dX1_tracingCost_7 : decode cX1_tracingCost 7 = .ok (.bipush 8, 2) := by decide +kernel
theorem dX1_tracingCost_9 : decode cX1_tracingCost 9 = .ok (.if_icmp .ge 30, 3) := by decide +kernel
theorem dX1_tracingCost_12 : decode cX1_tracingCost 12 = .ok (.iload_n 3, 1) := by decide +kernel
theorem dX1_tracingCost_13 : decode cX1_tracingCost 13 = .ok (.aload_n 0, 1) := by decide +kernel
theorem dX1_tracingCost_14 : decode cX1_tracingCost 14 = .ok (.getfield 26, 3) := by decide +kernel
theorem dX1_tracingCost_17 : decode cX1_tracingCost 17 = .ok (.iload_n 1, 1) := by decide +kernel
theorem dX1_tracingCost_18 : decode cX1_tracingCost 18 = .ok (.iload 4, 2) := by decide +kernel
theorem dX1_tracingCost_20 : decode cX1_tracingCost 20 = .ok (.invokestatic 57, 3) := by decide +kernel
theorem dX1_tracingCost_23 : decode cX1_tracingCost 23 = .ok (.aaload, 1) := by decide +kernel
theorem dX1_tracingCost_24 : decode cX1_tracingCost 24 = .ok (.iload_n 2, 1) := by decide +kernel
theorem dX1_tracingCost_25 : decode cX1_tracingCost 25 = .ok (.iload 4, 2) := by decide +kernel
theorem dX1_tracingCost_27 : decode cX1_tracingCost 27 = .ok (.invokestatic 57, 3) := by decide +kernel
theorem dX1_tracingCost_30 : decode cX1_tracingCost 30 = .ok (.iaload, 1) := by decide +kernel
theorem dX1_tracingCost_31 : decode cX1_tracingCost 31 = .ok (.iadd, 1) := by decide +kernel
theorem dX1_tracingCost_32 : decode cX1_tracingCost 32 = .ok (.istore_n 3, 1) := by decide +kernel
theorem dX1_tracingCost_33 : decode cX1_tracingCost 33 = .ok (.iinc 4 1, 3) := by decide +kernel
theorem dX1_tracingCost_36 : decode cX1_tracingCost 36 = .ok (.goto (-31), 3) := by decide +kernel
theorem dX1_tracingCost_39 : decode cX1_tracingCost 39 = .ok (.iload_n 3, 1) := by decide +kernel
theorem dX1_tracingCost_40 : decode cX1_tracingCost 40 = .ok (.ireturn, 1) := by decide +kernel
theorem dX1_lostDrawing_0 : decode cX1_lostDrawing 0 = .ok (.iconst 0, 1) := by decide +kernel
theorem dX1_lostDrawing_1 : decode cX1_lostDrawing 1 = .ok (.istore_n 3, 1) := by decide +kernel
theorem dX1_lostDrawing_2 : decode cX1_lostDrawing 2 = .ok (.iconst 0, 1) := by decide +kernel
theorem dX1_lostDrawing_3 : decode cX1_lostDrawing 3 = .ok (.istore 4, 2) := by decide +kernel
theorem dX1_lostDrawing_5 : decode cX1_lostDrawing 5 = .ok (.iload 4, 2) := by decide +kernel
theorem dX1_lostDrawing_7 : decode cX1_lostDrawing 7 = .ok (.bipush 8, 2) := by decide +kernel
theorem dX1_lostDrawing_9 : decode cX1_lostDrawing 9 = .ok (.if_icmp .ge 72, 3) := by decide +kernel
theorem dX1_lostDrawing_12 : decode cX1_lostDrawing 12 = .ok (.iconst 0, 1) := by decide +kernel
theorem dX1_lostDrawing_13 : decode cX1_lostDrawing 13 = .ok (.istore 5, 2) := by decide +kernel
theorem dX1_lostDrawing_15 : decode cX1_lostDrawing 15 = .ok (.aload_n 0, 1) := by decide +kernel
theorem dX1_lostDrawing_16 : decode cX1_lostDrawing 16 = .ok (.iload_n 1, 1) := by decide +kernel
theorem dX1_lostDrawing_17 : decode cX1_lostDrawing 17 = .ok (.iload_n 2, 1) := by decide +kernel
theorem dX1_lostDrawing_18 : decode cX1_lostDrawing 18 = .ok (.iload 4, 2) := by decide +kernel
theorem dX1_lostDrawing_20 : decode cX1_lostDrawing 20 = .ok (.iconst 0, 1) := by decide +kernel
theorem dX1_lostDrawing_21 : decode cX1_lostDrawing 21 = .ok (.invokevirtual 61, 3) := by decide +kernel
theorem dX1_lostDrawing_24 : decode cX1_lostDrawing 24 = .ok (.istore 6, 2) := by decide +kernel
theorem dX1_lostDrawing_26 : decode cX1_lostDrawing 26 = .ok (.iconst 1, 1) := by decide +kernel
theorem dX1_lostDrawing_27 : decode cX1_lostDrawing 27 = .ok (.istore 7, 2) := by decide +kernel
theorem dX1_lostDrawing_29 : decode cX1_lostDrawing 29 = .ok (.iload 7, 2) := by decide +kernel
theorem dX1_lostDrawing_31 : decode cX1_lostDrawing 31 = .ok (.iconst 4, 1) := by decide +kernel
theorem dX1_lostDrawing_32 : decode cX1_lostDrawing 32 = .ok (.if_icmp .ge 36, 3) := by decide +kernel
theorem dX1_lostDrawing_35 : decode cX1_lostDrawing 35 = .ok (.aload_n 0, 1) := by decide +kernel
theorem dX1_lostDrawing_36 : decode cX1_lostDrawing 36 = .ok (.iload_n 1, 1) := by decide +kernel
theorem dX1_lostDrawing_37 : decode cX1_lostDrawing 37 = .ok (.iload_n 2, 1) := by decide +kernel
theorem dX1_lostDrawing_38 : decode cX1_lostDrawing 38 = .ok (.iload 4, 2) := by decide +kernel
theorem dX1_lostDrawing_40 : decode cX1_lostDrawing 40 = .ok (.iload 7, 2) := by decide +kernel
theorem dX1_lostDrawing_42 : decode cX1_lostDrawing 42 = .ok (.invokevirtual 61, 3) := by decide +kernel
theorem dX1_lostDrawing_45 : decode cX1_lostDrawing 45 = .ok (.istore 8, 2) := by decide +kernel
theorem dX1_lostDrawing_47 : decode cX1_lostDrawing 47 = .ok (.iload 8, 2) := by decide +kernel
theorem dX1_lostDrawing_49 : decode cX1_lostDrawing 49 = .ok (.iload 6, 2) := by decide +kernel
theorem dX1_lostDrawing_51 : decode cX1_lostDrawing 51 = .ok (.if_icmp .ge 11, 3) := by decide +kernel
theorem dX1_lostDrawing_54 : decode cX1_lostDrawing 54 = .ok (.iload 7, 2) := by decide +kernel
theorem dX1_lostDrawing_56 : decode cX1_lostDrawing 56 = .ok (.istore 5, 2) := by decide +kernel
theorem dX1_lostDrawing_58 : decode cX1_lostDrawing 58 = .ok (.iload 8, 2) := by decide +kernel
theorem dX1_lostDrawing_60 : decode cX1_lostDrawing 60 = .ok (.istore 6, 2) := by decide +kernel
theorem dX1_lostDrawing_62 : decode cX1_lostDrawing 62 = .ok (.iinc 7 1, 3) := by decide +kernel
theorem dX1_lostDrawing_65 : decode cX1_lostDrawing 65 = .ok (.goto (-36), 3) := by decide +kernel
theorem dX1_lostDrawing_68 : decode cX1_lostDrawing 68 = .ok (.iload_n 3, 1) := by decide +kernel
theorem dX1_lostDrawing_69 : decode cX1_lostDrawing 69 = .ok (.iconst 4, 1) := by decide +kernel
theorem dX1_lostDrawing_70 : decode cX1_lostDrawing 70 = .ok (.imul, 1) := by decide +kernel
theorem dX1_lostDrawing_71 : decode cX1_lostDrawing 71 = .ok (.iload 5, 2) := by decide +kernel
theorem dX1_lostDrawing_73 : decode cX1_lostDrawing 73 = .ok (.iadd, 1) := by decide +kernel
theorem dX1_lostDrawing_74 : decode cX1_lostDrawing 74 = .ok (.istore_n 3, 1) := by decide +kernel
theorem dX1_lostDrawing_75 : decode cX1_lostDrawing 75 = .ok (.iinc 4 1, 3) := by decide +kernel
theorem dX1_lostDrawing_78 : decode cX1_lostDrawing 78 = .ok (.goto (-73), 3) := by decide +kernel
theorem dX1_lostDrawing_81 : decode cX1_lostDrawing 81 = .ok (.iload_n 3, 1) := by decide +kernel
theorem dX1_lostDrawing_82 : decode cX1_lostDrawing 82 = .ok (.ireturn, 1) := by decide +kernel
theorem dX1_lostStrokeCost_0 : decode cX1_lostStrokeCost 0 = .ok (.iload_n 1, 1) := by decide +kernel
theorem dX1_lostStrokeCost_1 : decode cX1_lostStrokeCost 1 = .ok (.ifCond .ge 7, 3) := by decide +kernel
theorem dX1_lostStrokeCost_4 : decode cX1_lostStrokeCost 4 = .ok (.iconst 0, 1) := by decide +kernel
theorem dX1_lostStrokeCost_5 : decode cX1_lostStrokeCost 5 = .ok (.goto 21, 3) := by decide +kernel
theorem dX1_lostStrokeCost_8 : decode cX1_lostStrokeCost 8 = .ok (.aload_n 0, 1) := by decide +kernel
theorem dX1_lostStrokeCost_9 : decode cX1_lostStrokeCost 9 = .ok (.getfield 26, 3) := by decide +kernel
theorem dX1_lostStrokeCost_12 : decode cX1_lostStrokeCost 12 = .ok (.aload_n 0, 1) := by decide +kernel
theorem dX1_lostStrokeCost_13 : decode cX1_lostStrokeCost 13 = .ok (.getfield 9, 3) := by decide +kernel
theorem dX1_lostStrokeCost_16 : decode cX1_lostStrokeCost 16 = .ok (.iload_n 1, 1) := by decide +kernel
theorem dX1_lostStrokeCost_17 : decode cX1_lostStrokeCost 17 = .ok (.iaload, 1) := by decide +kernel
theorem dX1_lostStrokeCost_18 : decode cX1_lostStrokeCost 18 = .ok (.iload_n 3, 1) := by decide +kernel
theorem dX1_lostStrokeCost_19 : decode cX1_lostStrokeCost 19 = .ok (.invokestatic 57, 3) := by decide +kernel
theorem dX1_lostStrokeCost_22 : decode cX1_lostStrokeCost 22 = .ok (.aaload, 1) := by decide +kernel
theorem dX1_lostStrokeCost_23 : decode cX1_lostStrokeCost 23 = .ok (.iload 4, 2) := by decide +kernel
theorem dX1_lostStrokeCost_25 : decode cX1_lostStrokeCost 25 = .ok (.iaload, 1) := by decide +kernel
theorem dX1_lostStrokeCost_26 : decode cX1_lostStrokeCost 26 = .ok (.istore 5, 2) := by decide +kernel
theorem dX1_lostStrokeCost_28 : decode cX1_lostStrokeCost 28 = .ok (.iconst 0, 1) := by decide +kernel
theorem dX1_lostStrokeCost_29 : decode cX1_lostStrokeCost 29 = .ok (.istore 6, 2) := by decide +kernel
theorem dX1_lostStrokeCost_31 : decode cX1_lostStrokeCost 31 = .ok (.iload 6, 2) := by decide +kernel
theorem dX1_lostStrokeCost_33 : decode cX1_lostStrokeCost 33 = .ok (.aload_n 0, 1) := by decide +kernel
theorem dX1_lostStrokeCost_34 : decode cX1_lostStrokeCost 34 = .ok (.getfield 44, 3) := by decide +kernel
theorem dX1_lostStrokeCost_37 : decode cX1_lostStrokeCost 37 = .ok (.if_icmp .ge 42, 3) := by decide +kernel
theorem dX1_lostStrokeCost_40 : decode cX1_lostStrokeCost 40 = .ok (.iload_n 2, 1) := by decide +kernel
theorem dX1_lostStrokeCost_41 : decode cX1_lostStrokeCost 41 = .ok (.iload 6, 2) := by decide +kernel
theorem dX1_lostStrokeCost_43 : decode cX1_lostStrokeCost 43 = .ok (.invokestatic 65, 3) := by decide +kernel
theorem dX1_lostStrokeCost_46 : decode cX1_lostStrokeCost 46 = .ok (.ifCond .eq 27, 3) := by decide +kernel
theorem dX1_lostStrokeCost_49 : decode cX1_lostStrokeCost 49 = .ok (.iload 5, 2) := by decide +kernel
theorem dX1_lostStrokeCost_51 : decode cX1_lostStrokeCost 51 = .ok (.aload_n 0, 1) := by decide +kernel
theorem dX1_lostStrokeCost_52 : decode cX1_lostStrokeCost 52 = .ok (.getfield 26, 3) := by decide +kernel
theorem dX1_lostStrokeCost_55 : decode cX1_lostStrokeCost 55 = .ok (.iload 4, 2) := by decide +kernel
theorem dX1_lostStrokeCost_57 : decode cX1_lostStrokeCost 57 = .ok (.aaload, 1) := by decide +kernel
theorem dX1_lostStrokeCost_58 : decode cX1_lostStrokeCost 58 = .ok (.aload_n 0, 1) := by decide +kernel
theorem dX1_lostStrokeCost_59 : decode cX1_lostStrokeCost 59 = .ok (.getfield 9, 3) := by decide +kernel
theorem dX1_lostStrokeCost_62 : decode cX1_lostStrokeCost 62 = .ok (.iload 6, 2) := by decide +kernel
theorem dX1_lostStrokeCost_64 : decode cX1_lostStrokeCost 64 = .ok (.iaload, 1) := by decide +kernel
theorem dX1_lostStrokeCost_65 : decode cX1_lostStrokeCost 65 = .ok (.iload_n 3, 1) := by decide +kernel
theorem dX1_lostStrokeCost_66 : decode cX1_lostStrokeCost 66 = .ok (.invokestatic 57, 3) := by decide +kernel
theorem dX1_lostStrokeCost_69 : decode cX1_lostStrokeCost 69 = .ok (.iaload, 1) := by decide +kernel
theorem dX1_lostStrokeCost_70 : decode cX1_lostStrokeCost 70 = .ok (.iadd, 1) := by decide +kernel
theorem dX1_lostStrokeCost_71 : decode cX1_lostStrokeCost 71 = .ok (.istore 5, 2) := by decide +kernel
theorem dX1_lostStrokeCost_73 : decode cX1_lostStrokeCost 73 = .ok (.iinc 6 1, 3) := by decide +kernel
theorem dX1_lostStrokeCost_76 : decode cX1_lostStrokeCost 76 = .ok (.goto (-45), 3) := by decide +kernel
theorem dX1_lostStrokeCost_79 : decode cX1_lostStrokeCost 79 = .ok (.iload 5, 2) := by decide +kernel
theorem dX1_lostStrokeCost_81 : decode cX1_lostStrokeCost 81 = .ok (.ireturn, 1) := by decide +kernel
theorem dX1_throughCost_0 : decode cX1_throughCost 0 = .ok (.iload_n 1, 1) := by decide +kernel
theorem dX1_throughCost_1 : decode cX1_throughCost 1 = .ok (.ifCond .ge 12, 3) := by decide +kernel
theorem dX1_throughCost_4 : decode cX1_throughCost 4 = .ok (.aload_n 0, 1) := by decide +kernel
theorem dX1_throughCost_5 : decode cX1_throughCost 5 = .ok (.getfield 29, 3) := by decide +kernel
theorem dX1_throughCost_8 : decode cX1_throughCost 8 = .ok (.iconst 0, 1) := by decide +kernel
theorem dX1_throughCost_9 : decode cX1_throughCost 9 = .ok (.iaload, 1) := by decide +kernel
theorem dX1_throughCost_10 : decode cX1_throughCost 10 = .ok (.goto 14, 3) := by decide +kernel
theorem dX1_throughCost_13 : decode cX1_throughCost 13 = .ok (.aload_n 0, 1) := by decide +kernel
theorem dX1_throughCost_14 : decode cX1_throughCost 14 = .ok (.aload_n 0, 1) := by decide +kernel
theorem dX1_throughCost_15 : decode cX1_throughCost 15 = .ok (.getfield 9, 3) := by decide +kernel
theorem dX1_throughCost_18 : decode cX1_throughCost 18 = .ok (.iload_n 1, 1) := by decide +kernel
theorem dX1_throughCost_19 : decode cX1_throughCost 19 = .ok (.iaload, 1) := by decide +kernel
theorem dX1_throughCost_20 : decode cX1_throughCost 20 = .ok (.iload_n 2, 1) := by decide +kernel
theorem dX1_throughCost_21 : decode cX1_throughCost 21 = .ok (.invokevirtual 69, 3) := by decide +kernel
theorem dX1_throughCost_24 : decode cX1_throughCost 24 = .ok (.istore 4, 2) := by decide +kernel
theorem dX1_throughCost_26 : decode cX1_throughCost 26 = .ok (.iconst 0, 1) := by decide +kernel
theorem dX1_throughCost_27 : decode cX1_throughCost 27 = .ok (.istore 5, 2) := by decide +kernel
theorem dX1_throughCost_29 : decode cX1_throughCost 29 = .ok (.iload 5, 2) := by decide +kernel
theorem dX1_throughCost_31 : decode cX1_throughCost 31 = .ok (.aload_n 0, 1) := by decide +kernel
theorem dX1_throughCost_32 : decode cX1_throughCost 32 = .ok (.getfield 44, 3) := by decide +kernel
theorem dX1_throughCost_35 : decode cX1_throughCost 35 = .ok (.if_icmp .ge 35, 3) := by decide +kernel
theorem dX1_throughCost_38 : decode cX1_throughCost 38 = .ok (.iload_n 3, 1) := by decide +kernel
theorem dX1_throughCost_39 : decode cX1_throughCost 39 = .ok (.iload 5, 2) := by decide +kernel
theorem dX1_throughCost_41 : decode cX1_throughCost 41 = .ok (.invokestatic 65, 3) := by decide +kernel
theorem dX1_throughCost_44 : decode cX1_throughCost 44 = .ok (.ifCond .eq 20, 3) := by decide +kernel
theorem dX1_throughCost_47 : decode cX1_throughCost 47 = .ok (.iload 4, 2) := by decide +kernel
theorem dX1_throughCost_49 : decode cX1_throughCost 49 = .ok (.aload_n 0, 1) := by decide +kernel
theorem dX1_throughCost_50 : decode cX1_throughCost 50 = .ok (.iload_n 2, 1) := by decide +kernel
theorem dX1_throughCost_51 : decode cX1_throughCost 51 = .ok (.aload_n 0, 1) := by decide +kernel
theorem dX1_throughCost_52 : decode cX1_throughCost 52 = .ok (.getfield 9, 3) := by decide +kernel
theorem dX1_throughCost_55 : decode cX1_throughCost 55 = .ok (.iload 5, 2) := by decide +kernel
theorem dX1_throughCost_57 : decode cX1_throughCost 57 = .ok (.iaload, 1) := by decide +kernel
theorem dX1_throughCost_58 : decode cX1_throughCost 58 = .ok (.invokevirtual 69, 3) := by decide +kernel
theorem dX1_throughCost_61 : decode cX1_throughCost 61 = .ok (.iadd, 1) := by decide +kernel
theorem dX1_throughCost_62 : decode cX1_throughCost 62 = .ok (.istore 4, 2) := by decide +kernel
theorem dX1_throughCost_64 : decode cX1_throughCost 64 = .ok (.iinc 5 1, 3) := by decide +kernel
theorem dX1_throughCost_67 : decode cX1_throughCost 67 = .ok (.goto (-38), 3) := by decide +kernel
theorem dX1_throughCost_70 : decode cX1_throughCost 70 = .ok (.iload 4, 2) := by decide +kernel
theorem dX1_throughCost_72 : decode cX1_throughCost 72 = .ok (.ireturn, 1) := by decide +kernel
theorem dX1_straightCost_0 : decode cX1_straightCost 0 = .ok (.iconst 0, 1) := by decide +kernel
theorem dX1_straightCost_1 : decode cX1_straightCost 1 = .ok (.istore_n 3, 1) := by decide +kernel
theorem dX1_straightCost_2 : decode cX1_straightCost 2 = .ok (.iconst 0, 1) := by decide +kernel
theorem dX1_straightCost_3 : decode cX1_straightCost 3 = .ok (.istore 4, 2) := by decide +kernel
theorem dX1_straightCost_5 : decode cX1_straightCost 5 = .ok (.iload 4, 2) := by decide +kernel
theorem dX1_straightCost_7 : decode cX1_straightCost 7 = .ok (.aload_n 0, 1) := by decide +kernel
theorem dX1_straightCost_8 : decode cX1_straightCost 8 = .ok (.getfield 44, 3) := by decide +kernel
theorem dX1_straightCost_11 : decode cX1_straightCost 11 = .ok (.if_icmp .ge 51, 3) := by decide +kernel
theorem dX1_straightCost_14 : decode cX1_straightCost 14 = .ok (.iload_n 2, 1) := by decide +kernel
theorem dX1_straightCost_15 : decode cX1_straightCost 15 = .ok (.iload 4, 2) := by decide +kernel
theorem dX1_straightCost_17 : decode cX1_straightCost 17 = .ok (.invokestatic 65, 3) := by decide +kernel
theorem dX1_straightCost_20 : decode cX1_straightCost 20 = .ok (.ifCond .eq 36, 3) := by decide +kernel
theorem dX1_straightCost_23 : decode cX1_straightCost 23 = .ok (.iload_n 3, 1) := by decide +kernel
theorem dX1_straightCost_24 : decode cX1_straightCost 24 = .ok (.iload_n 1, 1) := by decide +kernel
theorem dX1_straightCost_25 : decode cX1_straightCost 25 = .ok (.ifCond .ge 12, 3) := by decide +kernel
theorem dX1_straightCost_28 : decode cX1_straightCost 28 = .ok (.aload_n 0, 1) := by decide +kernel
theorem dX1_straightCost_29 : decode cX1_straightCost 29 = .ok (.getfield 29, 3) := by decide +kernel
theorem dX1_straightCost_32 : decode cX1_straightCost 32 = .ok (.iconst 0, 1) := by decide +kernel
theorem dX1_straightCost_33 : decode cX1_straightCost 33 = .ok (.iaload, 1) := by decide +kernel
theorem dX1_straightCost_34 : decode cX1_straightCost 34 = .ok (.goto 20, 3) := by decide +kernel
theorem dX1_straightCost_37 : decode cX1_straightCost 37 = .ok (.aload_n 0, 1) := by decide +kernel
theorem dX1_straightCost_38 : decode cX1_straightCost 38 = .ok (.aload_n 0, 1) := by decide +kernel
theorem dX1_straightCost_39 : decode cX1_straightCost 39 = .ok (.getfield 9, 3) := by decide +kernel
theorem dX1_straightCost_42 : decode cX1_straightCost 42 = .ok (.iload_n 1, 1) := by decide +kernel
theorem dX1_straightCost_43 : decode cX1_straightCost 43 = .ok (.iaload, 1) := by decide +kernel
theorem dX1_straightCost_44 : decode cX1_straightCost 44 = .ok (.aload_n 0, 1) := by decide +kernel
theorem dX1_straightCost_45 : decode cX1_straightCost 45 = .ok (.getfield 9, 3) := by decide +kernel
theorem dX1_straightCost_48 : decode cX1_straightCost 48 = .ok (.iload 4, 2) := by decide +kernel
theorem dX1_straightCost_50 : decode cX1_straightCost 50 = .ok (.iaload, 1) := by decide +kernel
theorem dX1_straightCost_51 : decode cX1_straightCost 51 = .ok (.invokevirtual 69, 3) := by decide +kernel
theorem dX1_straightCost_54 : decode cX1_straightCost 54 = .ok (.iadd, 1) := by decide +kernel
theorem dX1_straightCost_55 : decode cX1_straightCost 55 = .ok (.istore_n 3, 1) := by decide +kernel
theorem dX1_straightCost_56 : decode cX1_straightCost 56 = .ok (.iinc 4 1, 3) := by decide +kernel
theorem dX1_straightCost_59 : decode cX1_straightCost 59 = .ok (.goto (-54), 3) := by decide +kernel
theorem dX1_straightCost_62 : decode cX1_straightCost 62 = .ok (.iload_n 3, 1) := by decide +kernel
theorem dX1_straightCost_63 : decode cX1_straightCost 63 = .ok (.ireturn, 1) := by decide +kernel
theorem dX1_hiddenBy_0 : decode cX1_hiddenBy 0 = .ok (.iconst 0, 1) := by decide +kernel
theorem dX1_hiddenBy_1 : decode cX1_hiddenBy 1 = .ok (.istore_n 2, 1) := by decide +kernel
theorem dX1_hiddenBy_2 : decode cX1_hiddenBy 2 = .ok (.iconst 0, 1) := by decide +kernel
theorem dX1_hiddenBy_3 : decode cX1_hiddenBy 3 = .ok (.istore_n 3, 1) := by decide +kernel
theorem dX1_hiddenBy_4 : decode cX1_hiddenBy 4 = .ok (.iload_n 3, 1) := by decide +kernel
theorem dX1_hiddenBy_5 : decode cX1_hiddenBy 5 = .ok (.bipush 8, 2) := by decide +kernel
theorem dX1_hiddenBy_7 : decode cX1_hiddenBy 7 = .ok (.if_icmp .ge 48, 3) := by decide +kernel
theorem dX1_hiddenBy_10 : decode cX1_hiddenBy 10 = .ok (.iload_n 1, 1) := by decide +kernel
theorem dX1_hiddenBy_11 : decode cX1_hiddenBy 11 = .ok (.iload_n 3, 1) := by decide +kernel
theorem dX1_hiddenBy_12 : decode cX1_hiddenBy 12 = .ok (.invokestatic 57, 3) := by decide +kernel
theorem dX1_hiddenBy_15 : decode cX1_hiddenBy 15 = .ok (.istore 4, 2) := by decide +kernel
theorem dX1_hiddenBy_17 : decode cX1_hiddenBy 17 = .ok (.iload 4, 2) := by decide +kernel
theorem dX1_hiddenBy_19 : decode cX1_hiddenBy 19 = .ok (.iconst 3, 1) := by decide +kernel
theorem dX1_hiddenBy_20 : decode cX1_hiddenBy 20 = .ok (.if_icmp .ne 15, 3) := by decide +kernel
theorem dX1_hiddenBy_23 : decode cX1_hiddenBy 23 = .ok (.iload_n 2, 1) := by decide +kernel
theorem dX1_hiddenBy_24 : decode cX1_hiddenBy 24 = .ok (.aload_n 0, 1) := by decide +kernel
theorem dX1_hiddenBy_25 : decode cX1_hiddenBy 25 = .ok (.getfield 41, 3) := by decide +kernel
theorem dX1_hiddenBy_28 : decode cX1_hiddenBy 28 = .ok (.iload_n 3, 1) := by decide +kernel
theorem dX1_hiddenBy_29 : decode cX1_hiddenBy 29 = .ok (.iaload, 1) := by decide +kernel
theorem dX1_hiddenBy_30 : decode cX1_hiddenBy 30 = .ok (.ior, 1) := by decide +kernel
theorem dX1_hiddenBy_31 : decode cX1_hiddenBy 31 = .ok (.istore_n 2, 1) := by decide +kernel
theorem dX1_hiddenBy_32 : decode cX1_hiddenBy 32 = .ok (.goto 17, 3) := by decide +kernel
theorem dX1_hiddenBy_35 : decode cX1_hiddenBy 35 = .ok (.iload 4, 2) := by decide +kernel
theorem dX1_hiddenBy_37 : decode cX1_hiddenBy 37 = .ok (.ifCond .eq 12, 3) := by decide +kernel
theorem dX1_hiddenBy_40 : decode cX1_hiddenBy 40 = .ok (.iload_n 2, 1) := by decide +kernel
theorem dX1_hiddenBy_41 : decode cX1_hiddenBy 41 = .ok (.aload_n 0, 1) := by decide +kernel
theorem dX1_hiddenBy_42 : decode cX1_hiddenBy 42 = .ok (.getfield 38, 3) := by decide +kernel
theorem dX1_hiddenBy_45 : decode cX1_hiddenBy 45 = .ok (.iload_n 3, 1) := by decide +kernel
theorem dX1_hiddenBy_46 : decode cX1_hiddenBy 46 = .ok (.iaload, 1) := by decide +kernel
theorem dX1_hiddenBy_47 : decode cX1_hiddenBy 47 = .ok (.ior, 1) := by decide +kernel
theorem dX1_hiddenBy_48 : decode cX1_hiddenBy 48 = .ok (.istore_n 2, 1) := by decide +kernel
theorem dX1_hiddenBy_49 : decode cX1_hiddenBy 49 = .ok (.iinc 3 1, 3) := by decide +kernel
theorem dX1_hiddenBy_52 : decode cX1_hiddenBy 52 = .ok (.goto (-48), 3) := by decide +kernel
theorem dX1_hiddenBy_55 : decode cX1_hiddenBy 55 = .ok (.iload_n 2, 1) := by decide +kernel
theorem dX1_hiddenBy_56 : decode cX1_hiddenBy 56 = .ok (.ireturn, 1) := by decide +kernel
theorem dX2_init_0 : decode cX2_init 0 = .ok (.aload_n 0, 1) := by decide +kernel
theorem dX2_init_1 : decode cX2_init 1 = .ok (.invokespecial 3, 3) := by decide +kernel
theorem dX2_init_4 : decode cX2_init 4 = .ok (.aload_n 0, 1) := by decide +kernel
theorem dX2_init_5 : decode cX2_init 5 = .ok (.aload_n 1, 1) := by decide +kernel
theorem dX2_init_6 : decode cX2_init 6 = .ok (.putfield 9, 3) := by decide +kernel
theorem dX2_init_9 : decode cX2_init 9 = .ok (.return_, 1) := by decide +kernel
theorem dX2_leastOver_0 : decode cX2_leastOver 0 = .ok (.aload_n 0, 1) := by decide +kernel
theorem dX2_leastOver_1 : decode cX2_leastOver 1 = .ok (.bipush 17, 2) := by decide +kernel
theorem dX2_leastOver_3 : decode cX2_leastOver 3 = .ok (.putfield 15, 3) := by decide +kernel
theorem dX2_leastOver_6 : decode cX2_leastOver 6 = .ok (.aload_n 0, 1) := by decide +kernel
theorem dX2_leastOver_7 : decode cX2_leastOver 7 = .ok (.bipush (-6), 2) := by decide +kernel
theorem dX2_leastOver_9 : decode cX2_leastOver 9 = .ok (.putfield 19, 3) := by decide +kernel
theorem dX2_leastOver_12 : decode cX2_leastOver 12 = .ok (.aload_n 0, 1) := by decide +kernel
theorem dX2_leastOver_13 : decode cX2_leastOver 13 = .ok (.iconst 0, 1) := by decide +kernel
theorem dX2_leastOver_14 : decode cX2_leastOver 14 = .ok (.iload_n 1, 1) := by decide +kernel
theorem dX2_leastOver_15 : decode cX2_leastOver 15 = .ok (.iconst 0, 1) := by decide +kernel
theorem dX2_leastOver_16 : decode cX2_leastOver 16 = .ok (.iconst 0, 1) := by decide +kernel
theorem dX2_leastOver_17 : decode cX2_leastOver 17 = .ok (.invokestatic 22, 3) := by decide +kernel
theorem dX2_leastOver_20 : decode cX2_leastOver 20 = .ok (.aload_n 0, 1) := by decide +kernel
theorem dX2_leastOver_21 : decode cX2_leastOver 21 = .ok (.getfield 19, 3) := by decide +kernel
theorem dX2_leastOver_24 : decode cX2_leastOver 24 = .ok (.ireturn, 1) := by decide +kernel
theorem dX2_search_0 : decode cX2_search 0 = .ok (.iload_n 3, 1) := by decide +kernel
theorem dX2_search_1 : decode cX2_search 1 = .ok (.aload_n 0, 1) := by decide +kernel
theorem dX2_search_2 : decode cX2_search 2 = .ok (.getfield 15, 3) := by decide +kernel
theorem dX2_search_5 : decode cX2_search 5 = .ok (.if_icmp .lt 4, 3) := by decide +kernel
theorem dX2_search_8 : decode cX2_search 8 = .ok (.return_, 1) := by decide +kernel
theorem dX2_search_9 : decode cX2_search 9 = .ok (.iload_n 2, 1) := by decide +kernel
theorem dX2_search_10 : decode cX2_search 10 = .ok (.ifCond .ne 15, 3) := by decide +kernel
theorem dX2_search_13 : decode cX2_search 13 = .ok (.aload_n 0, 1) := by decide +kernel
theorem dX2_search_14 : decode cX2_search 14 = .ok (.iload_n 3, 1) := by decide +kernel
theorem dX2_search_15 : decode cX2_search 15 = .ok (.putfield 15, 3) := by decide +kernel
theorem dX2_search_18 : decode cX2_search 18 = .ok (.aload_n 0, 1) := by decide +kernel
theorem dX2_search_19 : decode cX2_search 19 = .ok (.iload 4, 2) := by decide +kernel
theorem dX2_search_21 : decode cX2_search 21 = .ok (.putfield 19, 3) := by decide +kernel
theorem dX2_search_24 : decode cX2_search 24 = .ok (.return_, 1) := by decide +kernel
theorem dX2_search_25 : decode cX2_search 25 = .ok (.iload_n 1, 1) := by decide +kernel
theorem dX2_search_26 : decode cX2_search 26 = .ok (.bipush 8, 2) := by decide +kernel
theorem dX2_search_28 : decode cX2_search 28 = .ok (.if_icmp .lt 4, 3) := by decide +kernel
theorem dX2_search_31 : decode cX2_search 31 = .ok (.return_, 1) := by decide +kernel
theorem dX2_search_32 : decode cX2_search 32 = .ok (.iconst 1, 1) := by decide +kernel
theorem dX2_search_33 : decode cX2_search 33 = .ok (.iconst 2, 1) := by decide +kernel
theorem dX2_search_34 : decode cX2_search 34 = .ok (.bipush 7, 2) := by decide +kernel
theorem dX2_search_36 : decode cX2_search 36 = .ok (.iload_n 1, 1) := by decide +kernel
theorem dX2_search_37 : decode cX2_search 37 = .ok (.isub, 1) := by decide +kernel
theorem dX2_search_38 : decode cX2_search 38 = .ok (.imul, 1) := by decide +kernel
theorem dX2_search_39 : decode cX2_search 39 = .ok (.ishl, 1) := by decide +kernel
theorem dX2_search_40 : decode cX2_search 40 = .ok (.istore 5, 2) := by decide +kernel
theorem dX2_search_42 : decode cX2_search 42 = .ok (.aload_n 0, 1) := by decide +kernel
theorem dX2_search_43 : decode cX2_search 43 = .ok (.iload_n 1, 1) := by decide +kernel
theorem dX2_search_44 : decode cX2_search 44 = .ok (.iconst 1, 1) := by decide +kernel
theorem dX2_search_45 : decode cX2_search 45 = .ok (.iadd, 1) := by decide +kernel
theorem dX2_search_46 : decode cX2_search 46 = .ok (.iload_n 2, 1) := by decide +kernel
theorem dX2_search_47 : decode cX2_search 47 = .ok (.iload_n 3, 1) := by decide +kernel
theorem dX2_search_48 : decode cX2_search 48 = .ok (.iload 4, 2) := by decide +kernel
theorem dX2_search_50 : decode cX2_search 50 = .ok (.invokestatic 22, 3) := by decide +kernel
theorem dX2_search_53 : decode cX2_search 53 = .ok (.aload_n 0, 1) := by decide +kernel
theorem dX2_search_54 : decode cX2_search 54 = .ok (.iload_n 1, 1) := by decide +kernel
theorem dX2_search_55 : decode cX2_search 55 = .ok (.iconst 1, 1) := by decide +kernel
theorem dX2_search_56 : decode cX2_search 56 = .ok (.iadd, 1) := by decide +kernel
theorem dX2_search_57 : decode cX2_search 57 = .ok (.iload_n 2, 1) := by decide +kernel
theorem dX2_search_58 : decode cX2_search 58 = .ok (.aload_n 0, 1) := by decide +kernel
theorem dX2_search_59 : decode cX2_search 59 = .ok (.getfield 9, 3) := by decide +kernel
theorem dX2_search_62 : decode cX2_search 62 = .ok (.getfield 26, 3) := by decide +kernel
theorem dX2_search_65 : decode cX2_search 65 = .ok (.iload_n 1, 1) := by decide +kernel
theorem dX2_search_66 : decode cX2_search 66 = .ok (.iaload, 1) := by decide +kernel
theorem dX2_search_67 : decode cX2_search 67 = .ok (.iconst (-1), 1) := by decide +kernel
theorem dX2_search_68 : decode cX2_search 68 = .ok (.ixor, 1) := by decide +kernel
theorem dX2_search_69 : decode cX2_search 69 = .ok (.iand, 1) := by decide +kernel
theorem dX2_search_70 : decode cX2_search 70 = .ok (.iload_n 3, 1) := by decide +kernel
theorem dX2_search_71 : decode cX2_search 71 = .ok (.iconst 1, 1) := by decide +kernel
theorem dX2_search_72 : decode cX2_search 72 = .ok (.iadd, 1) := by decide +kernel
theorem dX2_search_73 : decode cX2_search 73 = .ok (.iload 4, 2) := by decide +kernel
theorem dX2_search_75 : decode cX2_search 75 = .ok (.iconst 1, 1) := by decide +kernel
theorem dX2_search_76 : decode cX2_search 76 = .ok (.iload 5, 2) := by decide +kernel
theorem dX2_search_78 : decode cX2_search 78 = .ok (.imul, 1) := by decide +kernel
theorem dX2_search_79 : decode cX2_search 79 = .ok (.iadd, 1) := by decide +kernel
theorem dX2_search_80 : decode cX2_search 80 = .ok (.invokestatic 22, 3) := by decide +kernel
theorem dX2_search_83 : decode cX2_search 83 = .ok (.aload_n 0, 1) := by decide +kernel
theorem dX2_search_84 : decode cX2_search 84 = .ok (.iload_n 1, 1) := by decide +kernel
theorem dX2_search_85 : decode cX2_search 85 = .ok (.iconst 1, 1) := by decide +kernel
theorem dX2_search_86 : decode cX2_search 86 = .ok (.iadd, 1) := by decide +kernel
theorem dX2_search_87 : decode cX2_search 87 = .ok (.iload_n 2, 1) := by decide +kernel
theorem dX2_search_88 : decode cX2_search 88 = .ok (.aload_n 0, 1) := by decide +kernel
theorem dX2_search_89 : decode cX2_search 89 = .ok (.getfield 9, 3) := by decide +kernel
theorem dX2_search_92 : decode cX2_search 92 = .ok (.getfield 32, 3) := by decide +kernel
theorem dX2_search_95 : decode cX2_search 95 = .ok (.iload_n 1, 1) := by decide +kernel
theorem dX2_search_96 : decode cX2_search 96 = .ok (.iaload, 1) := by decide +kernel
theorem dX2_search_97 : decode cX2_search 97 = .ok (.iconst (-1), 1) := by decide +kernel
theorem dX2_search_98 : decode cX2_search 98 = .ok (.ixor, 1) := by decide +kernel
theorem dX2_search_99 : decode cX2_search 99 = .ok (.iand, 1) := by decide +kernel
theorem dX2_search_100 : decode cX2_search 100 = .ok (.iload_n 3, 1) := by decide +kernel
theorem dX2_search_101 : decode cX2_search 101 = .ok (.iconst 2, 1) := by decide +kernel
theorem dX2_search_102 : decode cX2_search 102 = .ok (.iadd, 1) := by decide +kernel
theorem dX2_search_103 : decode cX2_search 103 = .ok (.iload 4, 2) := by decide +kernel
theorem dX2_search_105 : decode cX2_search 105 = .ok (.iconst 3, 1) := by decide +kernel
theorem dX2_search_106 : decode cX2_search 106 = .ok (.iload 5, 2) := by decide +kernel
theorem dX2_search_108 : decode cX2_search 108 = .ok (.imul, 1) := by decide +kernel
theorem dX2_search_109 : decode cX2_search 109 = .ok (.iadd, 1) := by decide +kernel
theorem dX2_search_110 : decode cX2_search 110 = .ok (.invokestatic 22, 3) := by decide +kernel
theorem dX2_search_113 : decode cX2_search 113 = .ok (.return_, 1) := by decide +kernel
theorem dX3_init_0 : decode cX3_init 0 = .ok (.aload_n 0, 1) := by decide +kernel
theorem dX3_init_1 : decode cX3_init 1 = .ok (.invokespecial 3, 3) := by decide +kernel
theorem dX3_init_4 : decode cX3_init 4 = .ok (.aload_n 0, 1) := by decide +kernel
theorem dX3_init_5 : decode cX3_init 5 = .ok (.bipush 50, 2) := by decide +kernel
theorem dX3_init_7 : decode cX3_init 7 = .ok (.newarray .int, 2) := by decide +kernel
theorem dX3_init_9 : decode cX3_init 9 = .ok (.putfield 9, 3) := by decide +kernel
theorem dX3_init_12 : decode cX3_init 12 = .ok (.return_, 1) := by decide +kernel
theorem dX3_append_0 : decode cX3_append 0 = .ok (.aload_n 0, 1) := by decide +kernel
theorem dX3_append_1 : decode cX3_append 1 = .ok (.getfield 15, 3) := by decide +kernel
theorem dX3_append_4 : decode cX3_append 4 = .ok (.bipush 50, 2) := by decide +kernel
theorem dX3_append_6 : decode cX3_append 6 = .ok (.if_icmp .ge 23, 3) := by decide +kernel
theorem dX3_append_9 : decode cX3_append 9 = .ok (.aload_n 0, 1) := by decide +kernel
theorem dX3_append_10 : decode cX3_append 10 = .ok (.getfield 9, 3) := by decide +kernel
theorem dX3_append_13 : decode cX3_append 13 = .ok (.aload_n 0, 1) := by decide +kernel
theorem dX3_append_14 : decode cX3_append 14 = .ok (.getfield 15, 3) := by decide +kernel
theorem dX3_append_17 : decode cX3_append 17 = .ok (.iload_n 1, 1) := by decide +kernel
theorem dX3_append_18 : decode cX3_append 18 = .ok (.iastore, 1) := by decide +kernel
theorem dX3_append_19 : decode cX3_append 19 = .ok (.aload_n 0, 1) := by decide +kernel
theorem dX3_append_20 : decode cX3_append 20 = .ok (.dup, 1) := by decide +kernel
theorem dX3_append_21 : decode cX3_append 21 = .ok (.getfield 15, 3) := by decide +kernel
theorem dX3_append_24 : decode cX3_append 24 = .ok (.iconst 1, 1) := by decide +kernel
theorem dX3_append_25 : decode cX3_append 25 = .ok (.iadd, 1) := by decide +kernel
theorem dX3_append_26 : decode cX3_append 26 = .ok (.putfield 15, 3) := by decide +kernel
theorem dX3_append_29 : decode cX3_append 29 = .ok (.return_, 1) := by decide +kernel
theorem dX3_faultPlace_0 : decode cX3_faultPlace 0 = .ok (.iconst 0, 1) := by decide +kernel
theorem dX3_faultPlace_1 : decode cX3_faultPlace 1 = .ok (.istore_n 1, 1) := by decide +kernel
theorem dX3_faultPlace_2 : decode cX3_faultPlace 2 = .ok (.iconst 0, 1) := by decide +kernel
theorem dX3_faultPlace_3 : decode cX3_faultPlace 3 = .ok (.istore_n 2, 1) := by decide +kernel
theorem dX3_faultPlace_4 : decode cX3_faultPlace 4 = .ok (.iload_n 2, 1) := by decide +kernel
theorem dX3_faultPlace_5 : decode cX3_faultPlace 5 = .ok (.aload_n 0, 1) := by decide +kernel
theorem dX3_faultPlace_6 : decode cX3_faultPlace 6 = .ok (.getfield 15, 3) := by decide +kernel
theorem dX3_faultPlace_9 : decode cX3_faultPlace 9 = .ok (.if_icmp .ge 27, 3) := by decide +kernel
theorem dX3_faultPlace_12 : decode cX3_faultPlace 12 = .ok (.iload_n 1, 1) := by decide +kernel
theorem dX3_faultPlace_13 : decode cX3_faultPlace 13 = .ok (.aload_n 0, 1) := by decide +kernel
theorem dX3_faultPlace_14 : decode cX3_faultPlace 14 = .ok (.getfield 9, 3) := by decide +kernel
theorem dX3_faultPlace_17 : decode cX3_faultPlace 17 = .ok (.iload_n 2, 1) := by decide +kernel
theorem dX3_faultPlace_18 : decode cX3_faultPlace 18 = .ok (.iaload, 1) := by decide +kernel
theorem dX3_faultPlace_19 : decode cX3_faultPlace 19 = .ok (.invokestatic 19, 3) := by decide +kernel
theorem dX3_faultPlace_22 : decode cX3_faultPlace 22 = .ok (.istore_n 1, 1) := by decide +kernel
theorem dX3_faultPlace_23 : decode cX3_faultPlace 23 = .ok (.iload_n 1, 1) := by decide +kernel
theorem dX3_faultPlace_24 : decode cX3_faultPlace 24 = .ok (.iconst (-1), 1) := by decide +kernel
theorem dX3_faultPlace_25 : decode cX3_faultPlace 25 = .ok (.if_icmp .ne 5, 3) := by decide +kernel
theorem dX3_faultPlace_28 : decode cX3_faultPlace 28 = .ok (.iload_n 2, 1) := by decide +kernel
theorem dX3_faultPlace_29 : decode cX3_faultPlace 29 = .ok (.ireturn, 1) := by decide +kernel
theorem dX3_faultPlace_30 : decode cX3_faultPlace 30 = .ok (.iinc 2 1, 3) := by decide +kernel
theorem dX3_faultPlace_33 : decode cX3_faultPlace 33 = .ok (.goto (-29), 3) := by decide +kernel
theorem dX3_faultPlace_36 : decode cX3_faultPlace 36 = .ok (.iload_n 1, 1) := by decide +kernel
theorem dX3_faultPlace_37 : decode cX3_faultPlace 37 = .ok (.iconst 4, 1) := by decide +kernel
theorem dX3_faultPlace_38 : decode cX3_faultPlace 38 = .ok (.if_icmp .lt 8, 3) := by decide +kernel
theorem dX3_faultPlace_41 : decode cX3_faultPlace 41 = .ok (.bipush (-6), 2) := by decide +kernel
theorem dX3_faultPlace_43 : decode cX3_faultPlace 43 = .ok (.goto 7, 3) := by decide +kernel
theorem dX3_faultPlace_46 : decode cX3_faultPlace 46 = .ok (.aload_n 0, 1) := by decide +kernel
theorem dX3_faultPlace_47 : decode cX3_faultPlace 47 = .ok (.getfield 15, 3) := by decide +kernel
theorem dX3_faultPlace_50 : decode cX3_faultPlace 50 = .ok (.ireturn, 1) := by decide +kernel
theorem dX3_placeAfter_0 : decode cX3_placeAfter 0 = .ok (.iload_n 0, 1) := by decide +kernel
theorem dX3_placeAfter_1 : decode cX3_placeAfter 1 = .ok (.tableswitch 101 0 4 #[35, 35, 60, 72, 85], 35) := by decide +kernel
theorem dX3_placeAfter_36 : decode cX3_placeAfter 36 = .ok (.iload_n 1, 1) := by decide +kernel
theorem dX3_placeAfter_37 : decode cX3_placeAfter 37 = .ok (.bipush 42, 2) := by decide +kernel
theorem dX3_placeAfter_39 : decode cX3_placeAfter 39 = .ok (.if_icmp .eq 14, 3) := by decide +kernel
theorem dX3_placeAfter_42 : decode cX3_placeAfter 42 = .ok (.iload_n 1, 1) := by decide +kernel
theorem dX3_placeAfter_43 : decode cX3_placeAfter 43 = .ok (.bipush 48, 2) := by decide +kernel
theorem dX3_placeAfter_45 : decode cX3_placeAfter 45 = .ok (.bipush 51, 2) := by decide +kernel
theorem dX3_placeAfter_47 : decode cX3_placeAfter 47 = .ok (.invokestatic 23, 3) := by decide +kernel
theorem dX3_placeAfter_50 : decode cX3_placeAfter 50 = .ok (.ifCond .eq 9, 3) := by decide +kernel
theorem dX3_placeAfter_53 : decode cX3_placeAfter 53 = .ok (.iload_n 0, 1) := by decide +kernel
theorem dX3_placeAfter_54 : decode cX3_placeAfter 54 = .ok (.iconst 1, 1) := by decide +kernel
theorem dX3_placeAfter_55 : decode cX3_placeAfter 55 = .ok (.iadd, 1) := by decide +kernel
theorem dX3_placeAfter_56 : decode cX3_placeAfter 56 = .ok (.goto 4, 3) := by decide +kernel
theorem dX3_placeAfter_59 : decode cX3_placeAfter 59 = .ok (.iconst (-1), 1) := by decide +kernel
theorem dX3_placeAfter_60 : decode cX3_placeAfter 60 = .ok (.ireturn, 1) := by decide +kernel
theorem dX3_placeAfter_61 : decode cX3_placeAfter 61 = .ok (.iload_n 1, 1) := by decide +kernel
theorem dX3_placeAfter_62 : decode cX3_placeAfter 62 = .ok (.bipush 61, 2) := by decide +kernel
theorem dX3_placeAfter_64 : decode cX3_placeAfter 64 = .ok (.if_icmp .ne 7, 3) := by decide +kernel
theorem dX3_placeAfter_67 : decode cX3_placeAfter 67 = .ok (.iconst 3, 1) := by decide +kernel
theorem dX3_placeAfter_68 : decode cX3_placeAfter 68 = .ok (.goto 4, 3) := by decide +kernel
theorem dX3_placeAfter_71 : decode cX3_placeAfter 71 = .ok (.iconst (-1), 1) := by decide +kernel
theorem dX3_placeAfter_72 : decode cX3_placeAfter 72 = .ok (.ireturn, 1) := by decide +kernel
theorem dX3_placeAfter_73 : decode cX3_placeAfter 73 = .ok (.iload_n 1, 1) := by decide +kernel
theorem dX3_placeAfter_74 : decode cX3_placeAfter 74 = .ok (.invokestatic 27, 3) := by decide +kernel
theorem dX3_placeAfter_77 : decode cX3_placeAfter 77 = .ok (.ifCond .eq 7, 3) := by decide +kernel
theorem dX3_placeAfter_80 : decode cX3_placeAfter 80 = .ok (.iconst 4, 1) := by decide +kernel
theorem dX3_placeAfter_81 : decode cX3_placeAfter 81 = .ok (.goto 4, 3) := by decide +kernel
theorem dX3_placeAfter_84 : decode cX3_placeAfter 84 = .ok (.iconst (-1), 1) := by decide +kernel
theorem dX3_placeAfter_85 : decode cX3_placeAfter 85 = .ok (.ireturn, 1) := by decide +kernel
theorem dX3_placeAfter_86 : decode cX3_placeAfter 86 = .ok (.iload_n 1, 1) := by decide +kernel
theorem dX3_placeAfter_87 : decode cX3_placeAfter 87 = .ok (.invokestatic 27, 3) := by decide +kernel
theorem dX3_placeAfter_90 : decode cX3_placeAfter 90 = .ok (.ifCond .eq 7, 3) := by decide +kernel
theorem dX3_placeAfter_93 : decode cX3_placeAfter 93 = .ok (.iconst 5, 1) := by decide +kernel
theorem dX3_placeAfter_94 : decode cX3_placeAfter 94 = .ok (.goto 7, 3) := by decide +kernel
theorem dX3_placeAfter_97 : decode cX3_placeAfter 97 = .ok (.iload_n 1, 1) := by decide +kernel
theorem dX3_placeAfter_98 : decode cX3_placeAfter 98 = .ok (.invokestatic 31, 3) := by decide +kernel
theorem dX3_placeAfter_101 : decode cX3_placeAfter 101 = .ok (.ireturn, 1) := by decide +kernel
theorem dX3_placeAfter_102 : decode cX3_placeAfter 102 = .ok (.iload_n 1, 1) := by decide +kernel
theorem dX3_placeAfter_103 : decode cX3_placeAfter 103 = .ok (.invokestatic 31, 3) := by decide +kernel
theorem dX3_placeAfter_106 : decode cX3_placeAfter 106 = .ok (.ireturn, 1) := by decide +kernel
theorem dX3_afterLine_0 : decode cX3_afterLine 0 = .ok (.iload_n 0, 1) := by decide +kernel
theorem dX3_afterLine_1 : decode cX3_afterLine 1 = .ok (.bipush 59, 2) := by decide +kernel
theorem dX3_afterLine_3 : decode cX3_afterLine 3 = .ok (.if_icmp .ne 7, 3) := by decide +kernel
theorem dX3_afterLine_6 : decode cX3_afterLine 6 = .ok (.iconst 0, 1) := by decide +kernel
theorem dX3_afterLine_7 : decode cX3_afterLine 7 = .ok (.goto 4, 3) := by decide +kernel
theorem dX3_afterLine_10 : decode cX3_afterLine 10 = .ok (.iconst (-1), 1) := by decide +kernel
theorem dX3_afterLine_11 : decode cX3_afterLine 11 = .ok (.ireturn, 1) := by decide +kernel
theorem dX3_isDigit_0 : decode cX3_isDigit 0 = .ok (.iload_n 0, 1) := by decide +kernel
theorem dX3_isDigit_1 : decode cX3_isDigit 1 = .ok (.bipush 48, 2) := by decide +kernel
theorem dX3_isDigit_3 : decode cX3_isDigit 3 = .ok (.bipush 57, 2) := by decide +kernel
theorem dX3_isDigit_5 : decode cX3_isDigit 5 = .ok (.invokestatic 23, 3) := by decide +kernel
theorem dX3_isDigit_8 : decode cX3_isDigit 8 = .ok (.ireturn, 1) := by decide +kernel
theorem dX3_readInto_0 : decode cX3_readInto 0 = .ok (.iconst 0, 1) := by decide +kernel
theorem dX3_readInto_1 : decode cX3_readInto 1 = .ok (.istore_n 2, 1) := by decide +kernel
theorem dX3_readInto_2 : decode cX3_readInto 2 = .ok (.iload_n 2, 1) := by decide +kernel
theorem dX3_readInto_3 : decode cX3_readInto 3 = .ok (.iconst 4, 1) := by decide +kernel
theorem dX3_readInto_4 : decode cX3_readInto 4 = .ok (.if_icmp .ge 37, 3) := by decide +kernel
theorem dX3_readInto_7 : decode cX3_readInto 7 = .ok (.iconst 0, 1) := by decide +kernel
theorem dX3_readInto_8 : decode cX3_readInto 8 = .ok (.istore_n 3, 1) := by decide +kernel
theorem dX3_readInto_9 : decode cX3_readInto 9 = .ok (.iload_n 3, 1) := by decide +kernel
theorem dX3_readInto_10 : decode cX3_readInto 10 = .ok (.iconst 4, 1) := by decide +kernel
theorem dX3_readInto_11 : decode cX3_readInto 11 = .ok (.if_icmp .ge 24, 3) := by decide +kernel
theorem dX3_readInto_14 : decode cX3_readInto 14 = .ok (.aload_n 1, 1) := by decide +kernel
theorem dX3_readInto_15 : decode cX3_readInto 15 = .ok (.iload_n 2, 1) := by decide +kernel
theorem dX3_readInto_16 : decode cX3_readInto 16 = .ok (.aaload, 1) := by decide +kernel
theorem dX3_readInto_17 : decode cX3_readInto 17 = .ok (.iload_n 3, 1) := by decide +kernel
theorem dX3_readInto_18 : decode cX3_readInto 18 = .ok (.iload_n 2, 1) := by decide +kernel
theorem dX3_readInto_19 : decode cX3_readInto 19 = .ok (.iload_n 3, 1) := by decide +kernel
theorem dX3_readInto_20 : decode cX3_readInto 20 = .ok (.if_icmp .ne 7, 3) := by decide +kernel
theorem dX3_readInto_23 : decode cX3_readInto 23 = .ok (.iconst 0, 1) := by decide +kernel
theorem dX3_readInto_24 : decode cX3_readInto 24 = .ok (.goto 4, 3) := by decide +kernel
theorem dX3_readInto_27 : decode cX3_readInto 27 = .ok (.iconst (-1), 1) := by decide +kernel
theorem dX3_readInto_28 : decode cX3_readInto 28 = .ok (.iastore, 1) := by decide +kernel
theorem dX3_readInto_29 : decode cX3_readInto 29 = .ok (.iinc 3 1, 3) := by decide +kernel
theorem dX3_readInto_32 : decode cX3_readInto 32 = .ok (.goto (-23), 3) := by decide +kernel
theorem dX3_readInto_35 : decode cX3_readInto 35 = .ok (.iinc 2 1, 3) := by decide +kernel
theorem dX3_readInto_38 : decode cX3_readInto 38 = .ok (.goto (-36), 3) := by decide +kernel
theorem dX3_readInto_41 : decode cX3_readInto 41 = .ok (.iconst 0, 1) := by decide +kernel
theorem dX3_readInto_42 : decode cX3_readInto 42 = .ok (.istore_n 2, 1) := by decide +kernel
theorem dX3_readInto_43 : decode cX3_readInto 43 = .ok (.iconst 0, 1) := by decide +kernel
theorem dX3_readInto_44 : decode cX3_readInto 44 = .ok (.istore_n 3, 1) := by decide +kernel
theorem dX3_readInto_45 : decode cX3_readInto 45 = .ok (.iconst 0, 1) := by decide +kernel
theorem dX3_readInto_46 : decode cX3_readInto 46 = .ok (.istore 4, 2) := by decide +kernel
theorem dX3_readInto_48 : decode cX3_readInto 48 = .ok (.iconst 0, 1) := by decide +kernel
theorem dX3_readInto_49 : decode cX3_readInto 49 = .ok (.istore 5, 2) := by decide +kernel
theorem dX3_readInto_51 : decode cX3_readInto 51 = .ok (.iconst 0, 1) := by decide +kernel
theorem dX3_readInto_52 : decode cX3_readInto 52 = .ok (.istore 6, 2) := by decide +kernel
theorem dX3_readInto_54 : decode cX3_readInto 54 = .ok (.iconst 0, 1) := by decide +kernel
theorem dX3_readInto_55 : decode cX3_readInto 55 = .ok (.istore 7, 2) := by decide +kernel
theorem dX3_readInto_57 : decode cX3_readInto 57 = .ok (.iload 7, 2) := by decide +kernel
theorem dX3_readInto_59 : decode cX3_readInto 59 = .ok (.aload_n 0, 1) := by decide +kernel
theorem dX3_readInto_60 : decode cX3_readInto 60 = .ok (.getfield 15, 3) := by decide +kernel
theorem dX3_readInto_63 : decode cX3_readInto 63 = .ok (.if_icmp .ge 132, 3) := by decide +kernel
theorem dX3_readInto_66 : decode cX3_readInto 66 = .ok (.aload_n 0, 1) := by decide +kernel
theorem dX3_readInto_67 : decode cX3_readInto 67 = .ok (.getfield 9, 3) := by decide +kernel
theorem dX3_readInto_70 : decode cX3_readInto 70 = .ok (.iload 7, 2) := by decide +kernel
theorem dX3_readInto_72 : decode cX3_readInto 72 = .ok (.iaload, 1) := by decide +kernel
theorem dX3_readInto_73 : decode cX3_readInto 73 = .ok (.istore 8, 2) := by decide +kernel
theorem dX3_readInto_75 : decode cX3_readInto 75 = .ok (.iload_n 3, 1) := by decide +kernel
theorem dX3_readInto_76 : decode cX3_readInto 76 = .ok (.ifCond .ne 10, 3) := by decide +kernel
theorem dX3_readInto_79 : decode cX3_readInto 79 = .ok (.iload 8, 2) := by decide +kernel
theorem dX3_readInto_81 : decode cX3_readInto 81 = .ok (.istore 4, 2) := by decide +kernel
theorem dX3_readInto_83 : decode cX3_readInto 83 = .ok (.goto 56, 3) := by decide +kernel
theorem dX3_readInto_86 : decode cX3_readInto 86 = .ok (.iload_n 3, 1) := by decide +kernel
theorem dX3_readInto_87 : decode cX3_readInto 87 = .ok (.iconst 1, 1) := by decide +kernel
theorem dX3_readInto_88 : decode cX3_readInto 88 = .ok (.if_icmp .ne 10, 3) := by decide +kernel
theorem dX3_readInto_91 : decode cX3_readInto 91 = .ok (.iload 8, 2) := by decide +kernel
theorem dX3_readInto_93 : decode cX3_readInto 93 = .ok (.istore 5, 2) := by decide +kernel
theorem dX3_readInto_95 : decode cX3_readInto 95 = .ok (.goto 44, 3) := by decide +kernel
theorem dX3_readInto_98 : decode cX3_readInto 98 = .ok (.iload_n 3, 1) := by decide +kernel
theorem dX3_readInto_99 : decode cX3_readInto 99 = .ok (.iconst 3, 1) := by decide +kernel
theorem dX3_readInto_100 : decode cX3_readInto 100 = .ok (.if_icmp .ne 13, 3) := by decide +kernel
theorem dX3_readInto_103 : decode cX3_readInto 103 = .ok (.iload 8, 2) := by decide +kernel
theorem dX3_readInto_105 : decode cX3_readInto 105 = .ok (.bipush 48, 2) := by decide +kernel
theorem dX3_readInto_107 : decode cX3_readInto 107 = .ok (.isub, 1) := by decide +kernel
theorem dX3_readInto_108 : decode cX3_readInto 108 = .ok (.istore 6, 2) := by decide +kernel
theorem dX3_readInto_110 : decode cX3_readInto 110 = .ok (.goto 29, 3) := by decide +kernel
theorem dX3_readInto_113 : decode cX3_readInto 113 = .ok (.iload_n 3, 1) := by decide +kernel
theorem dX3_readInto_114 : decode cX3_readInto 114 = .ok (.iconst 4, 1) := by decide +kernel
theorem dX3_readInto_115 : decode cX3_readInto 115 = .ok (.if_icmp .ne 24, 3) := by decide +kernel
theorem dX3_readInto_118 : decode cX3_readInto 118 = .ok (.iload 8, 2) := by decide +kernel
theorem dX3_readInto_120 : decode cX3_readInto 120 = .ok (.invokestatic 27, 3) := by decide +kernel
theorem dX3_readInto_123 : decode cX3_readInto 123 = .ok (.ifCond .eq 16, 3) := by decide +kernel
theorem dX3_readInto_126 : decode cX3_readInto 126 = .ok (.iload 6, 2) := by decide +kernel
theorem dX3_readInto_128 : decode cX3_readInto 128 = .ok (.bipush 10, 2) := by decide +kernel
theorem dX3_readInto_130 : decode cX3_readInto 130 = .ok (.imul, 1) := by decide +kernel
theorem dX3_readInto_131 : decode cX3_readInto 131 = .ok (.iload 8, 2) := by decide +kernel
theorem dX3_readInto_133 : decode cX3_readInto 133 = .ok (.iadd, 1) := by decide +kernel
theorem dX3_readInto_134 : decode cX3_readInto 134 = .ok (.bipush 48, 2) := by decide +kernel
theorem dX3_readInto_136 : decode cX3_readInto 136 = .ok (.isub, 1) := by decide +kernel
theorem dX3_readInto_137 : decode cX3_readInto 137 = .ok (.istore 6, 2) := by decide +kernel
theorem dX3_readInto_139 : decode cX3_readInto 139 = .ok (.iload_n 3, 1) := by decide +kernel
theorem dX3_readInto_140 : decode cX3_readInto 140 = .ok (.iload 8, 2) := by decide +kernel
theorem dX3_readInto_142 : decode cX3_readInto 142 = .ok (.invokestatic 19, 3) := by decide +kernel
theorem dX3_readInto_145 : decode cX3_readInto 145 = .ok (.istore_n 3, 1) := by decide +kernel
theorem dX3_readInto_146 : decode cX3_readInto 146 = .ok (.iload 7, 2) := by decide +kernel
theorem dX3_readInto_148 : decode cX3_readInto 148 = .ok (.aload_n 0, 1) := by decide +kernel
theorem dX3_readInto_149 : decode cX3_readInto 149 = .ok (.getfield 15, 3) := by decide +kernel
theorem dX3_readInto_152 : decode cX3_readInto 152 = .ok (.iconst 1, 1) := by decide +kernel
theorem dX3_readInto_153 : decode cX3_readInto 153 = .ok (.isub, 1) := by decide +kernel
theorem dX3_readInto_154 : decode cX3_readInto 154 = .ok (.if_icmp .eq 10, 3) := by decide +kernel
theorem dX3_readInto_157 : decode cX3_readInto 157 = .ok (.iload 8, 2) := by decide +kernel
theorem dX3_readInto_159 : decode cX3_readInto 159 = .ok (.bipush 59, 2) := by decide +kernel
theorem dX3_readInto_161 : decode cX3_readInto 161 = .ok (.if_icmp .ne 7, 3) := by decide +kernel
theorem dX3_readInto_164 : decode cX3_readInto 164 = .ok (.iconst 1, 1) := by decide +kernel
theorem dX3_readInto_165 : decode cX3_readInto 165 = .ok (.goto 4, 3) := by decide +kernel
theorem dX3_readInto_168 : decode cX3_readInto 168 = .ok (.iconst 0, 1) := by decide +kernel
theorem dX3_readInto_169 : decode cX3_readInto 169 = .ok (.istore 9, 2) := by decide +kernel
theorem dX3_readInto_171 : decode cX3_readInto 171 = .ok (.iload 9, 2) := by decide +kernel
theorem dX3_readInto_173 : decode cX3_readInto 173 = .ok (.ifCond .eq 16, 3) := by decide +kernel
theorem dX3_readInto_176 : decode cX3_readInto 176 = .ok (.aload_n 1, 1) := by decide +kernel
theorem dX3_readInto_177 : decode cX3_readInto 177 = .ok (.iload 4, 2) := by decide +kernel
theorem dX3_readInto_179 : decode cX3_readInto 179 = .ok (.iload 5, 2) := by decide +kernel
theorem dX3_readInto_181 : decode cX3_readInto 181 = .ok (.iload 6, 2) := by decide +kernel
theorem dX3_readInto_183 : decode cX3_readInto 183 = .ok (.invokestatic 35, 3) := by decide +kernel
theorem dX3_readInto_186 : decode cX3_readInto 186 = .ok (.iinc 2 1, 3) := by decide +kernel
theorem dX3_readInto_189 : decode cX3_readInto 189 = .ok (.iinc 7 1, 3) := by decide +kernel
theorem dX3_readInto_192 : decode cX3_readInto 192 = .ok (.goto (-135), 3) := by decide +kernel
theorem dX3_readInto_195 : decode cX3_readInto 195 = .ok (.aload_n 1, 1) := by decide +kernel
theorem dX3_readInto_196 : decode cX3_readInto 196 = .ok (.bipush 42, 2) := by decide +kernel
theorem dX3_readInto_198 : decode cX3_readInto 198 = .ok (.bipush 42, 2) := by decide +kernel
theorem dX3_readInto_200 : decode cX3_readInto 200 = .ok (.bipush 10, 2) := by decide +kernel
theorem dX3_readInto_202 : decode cX3_readInto 202 = .ok (.invokestatic 35, 3) := by decide +kernel
theorem dX3_readInto_205 : decode cX3_readInto 205 = .ok (.iload_n 2, 1) := by decide +kernel
theorem dX3_readInto_206 : decode cX3_readInto 206 = .ok (.ireturn, 1) := by decide +kernel
theorem dX3_fill_0 : decode cX3_fill 0 = .ok (.iconst 0, 1) := by decide +kernel
theorem dX3_fill_1 : decode cX3_fill 1 = .ok (.istore 4, 2) := by decide +kernel
theorem dX3_fill_3 : decode cX3_fill 3 = .ok (.iload 4, 2) := by decide +kernel
theorem dX3_fill_5 : decode cX3_fill 5 = .ok (.iconst 4, 1) := by decide +kernel
theorem dX3_fill_6 : decode cX3_fill 6 = .ok (.if_icmp .ge 61, 3) := by decide +kernel
theorem dX3_fill_9 : decode cX3_fill 9 = .ok (.iconst 0, 1) := by decide +kernel
theorem dX3_fill_10 : decode cX3_fill 10 = .ok (.istore 5, 2) := by decide +kernel
theorem dX3_fill_12 : decode cX3_fill 12 = .ok (.iload 5, 2) := by decide +kernel
theorem dX3_fill_14 : decode cX3_fill 14 = .ok (.iconst 4, 1) := by decide +kernel
theorem dX3_fill_15 : decode cX3_fill 15 = .ok (.if_icmp .ge 46, 3) := by decide +kernel
theorem dX3_fill_18 : decode cX3_fill 18 = .ok (.iload_n 1, 1) := by decide +kernel
theorem dX3_fill_19 : decode cX3_fill 19 = .ok (.iload 4, 2) := by decide +kernel
theorem dX3_fill_21 : decode cX3_fill 21 = .ok (.invokestatic 39, 3) := by decide +kernel
theorem dX3_fill_24 : decode cX3_fill 24 = .ok (.ifCond .eq 31, 3) := by decide +kernel
theorem dX3_fill_27 : decode cX3_fill 27 = .ok (.iload_n 2, 1) := by decide +kernel
theorem dX3_fill_28 : decode cX3_fill 28 = .ok (.iload 5, 2) := by decide +kernel
theorem dX3_fill_30 : decode cX3_fill 30 = .ok (.invokestatic 39, 3) := by decide +kernel
theorem dX3_fill_33 : decode cX3_fill 33 = .ok (.ifCond .eq 22, 3) := by decide +kernel
theorem dX3_fill_36 : decode cX3_fill 36 = .ok (.aload_n 0, 1) := by decide +kernel
theorem dX3_fill_37 : decode cX3_fill 37 = .ok (.iload 4, 2) := by decide +kernel
theorem dX3_fill_39 : decode cX3_fill 39 = .ok (.aaload, 1) := by decide +kernel
theorem dX3_fill_40 : decode cX3_fill 40 = .ok (.iload 5, 2) := by decide +kernel
theorem dX3_fill_42 : decode cX3_fill 42 = .ok (.iaload, 1) := by decide +kernel
theorem dX3_fill_43 : decode cX3_fill 43 = .ok (.iconst (-1), 1) := by decide +kernel
theorem dX3_fill_44 : decode cX3_fill 44 = .ok (.if_icmp .ne 11, 3) := by decide +kernel
theorem dX3_fill_47 : decode cX3_fill 47 = .ok (.aload_n 0, 1) := by decide +kernel
theorem dX3_fill_48 : decode cX3_fill 48 = .ok (.iload 4, 2) := by decide +kernel
theorem dX3_fill_50 : decode cX3_fill 50 = .ok (.aaload, 1) := by decide +kernel
theorem dX3_fill_51 : decode cX3_fill 51 = .ok (.iload 5, 2) := by decide +kernel
theorem dX3_fill_53 : decode cX3_fill 53 = .ok (.iload_n 3, 1) := by decide +kernel
theorem dX3_fill_54 : decode cX3_fill 54 = .ok (.iastore, 1) := by decide +kernel
theorem dX3_fill_55 : decode cX3_fill 55 = .ok (.iinc 5 1, 3) := by decide +kernel
theorem dX3_fill_58 : decode cX3_fill 58 = .ok (.goto (-46), 3) := by decide +kernel
theorem dX3_fill_61 : decode cX3_fill 61 = .ok (.iinc 4 1, 3) := by decide +kernel
theorem dX3_fill_64 : decode cX3_fill 64 = .ok (.goto (-61), 3) := by decide +kernel
theorem dX3_fill_67 : decode cX3_fill 67 = .ok (.return_, 1) := by decide +kernel
theorem dX3_fits_0 : decode cX3_fits 0 = .ok (.iload_n 0, 1) := by decide +kernel
theorem dX3_fits_1 : decode cX3_fits 1 = .ok (.bipush 42, 2) := by decide +kernel
theorem dX3_fits_3 : decode cX3_fits 3 = .ok (.if_icmp .eq 11, 3) := by decide +kernel
theorem dX3_fits_6 : decode cX3_fits 6 = .ok (.iload_n 0, 1) := by decide +kernel
theorem dX3_fits_7 : decode cX3_fits 7 = .ok (.bipush 48, 2) := by decide +kernel
theorem dX3_fits_9 : decode cX3_fits 9 = .ok (.isub, 1) := by decide +kernel
theorem dX3_fits_10 : decode cX3_fits 10 = .ok (.iload_n 1, 1) := by decide +kernel
theorem dX3_fits_11 : decode cX3_fits 11 = .ok (.if_icmp .ne 7, 3) := by decide +kernel
theorem dX3_fits_14 : decode cX3_fits 14 = .ok (.iconst 1, 1) := by decide +kernel
theorem dX3_fits_15 : decode cX3_fits 15 = .ok (.goto 4, 3) := by decide +kernel
theorem dX3_fits_18 : decode cX3_fits 18 = .ok (.iconst 0, 1) := by decide +kernel
theorem dX3_fits_19 : decode cX3_fits 19 = .ok (.ireturn, 1) := by decide +kernel
theorem dX4_init_0 : decode cX4_init 0 = .ok (.aload_n 0, 1) := by decide +kernel
theorem dX4_init_1 : decode cX4_init 1 = .ok (.invokespecial 3, 3) := by decide +kernel
theorem dX4_init_4 : decode cX4_init 4 = .ok (.aload_n 0, 1) := by decide +kernel
theorem dX4_init_5 : decode cX4_init 5 = .ok (.bipush 8, 2) := by decide +kernel
theorem dX4_init_7 : decode cX4_init 7 = .ok (.newarray .int, 2) := by decide +kernel
theorem dX4_init_9 : decode cX4_init 9 = .ok (.putfield 9, 3) := by decide +kernel
theorem dX4_init_12 : decode cX4_init 12 = .ok (.aload_n 0, 1) := by decide +kernel
theorem dX4_init_13 : decode cX4_init 13 = .ok (.bipush 16, 2) := by decide +kernel
theorem dX4_init_15 : decode cX4_init 15 = .ok (.newarray .int, 2) := by decide +kernel
theorem dX4_init_17 : decode cX4_init 17 = .ok (.putfield 15, 3) := by decide +kernel
theorem dX4_init_20 : decode cX4_init 20 = .ok (.aload_n 0, 1) := by decide +kernel
theorem dX4_init_21 : decode cX4_init 21 = .ok (.bipush 16, 2) := by decide +kernel
theorem dX4_init_23 : decode cX4_init 23 = .ok (.newarray .int, 2) := by decide +kernel
theorem dX4_init_25 : decode cX4_init 25 = .ok (.putfield 18, 3) := by decide +kernel
theorem dX4_init_28 : decode cX4_init 28 = .ok (.aload_n 0, 1) := by decide +kernel
theorem dX4_init_29 : decode cX4_init 29 = .ok (.bipush 8, 2) := by decide +kernel
theorem dX4_init_31 : decode cX4_init 31 = .ok (.newarray .int, 2) := by decide +kernel
theorem dX4_init_33 : decode cX4_init 33 = .ok (.putfield 21, 3) := by decide +kernel
theorem dX4_init_36 : decode cX4_init 36 = .ok (.iconst 0, 1) := by decide +kernel
theorem dX4_init_37 : decode cX4_init 37 = .ok (.istore_n 1, 1) := by decide +kernel
theorem dX4_init_38 : decode cX4_init 38 = .ok (.iload_n 1, 1) := by decide +kernel
theorem dX4_init_39 : decode cX4_init 39 = .ok (.bipush 8, 2) := by decide +kernel
theorem dX4_init_41 : decode cX4_init 41 = .ok (.if_icmp .ge 16, 3) := by decide +kernel
theorem dX4_init_44 : decode cX4_init 44 = .ok (.aload_n 0, 1) := by decide +kernel
theorem dX4_init_45 : decode cX4_init 45 = .ok (.getfield 9, 3) := by decide +kernel
theorem dX4_init_48 : decode cX4_init 48 = .ok (.iload_n 1, 1) := by decide +kernel
theorem dX4_init_49 : decode cX4_init 49 = .ok (.iconst (-1), 1) := by decide +kernel
theorem dX4_init_50 : decode cX4_init 50 = .ok (.iastore, 1) := by decide +kernel
theorem dX4_init_51 : decode cX4_init 51 = .ok (.iinc 1 1, 3) := by decide +kernel
theorem dX4_init_54 : decode cX4_init 54 = .ok (.goto (-16), 3) := by decide +kernel
theorem dX4_init_57 : decode cX4_init 57 = .ok (.return_, 1) := by decide +kernel
theorem dX4_hasMan_0 : decode cX4_hasMan 0 = .ok (.iload_n 1, 1) := by decide +kernel
theorem dX4_hasMan_1 : decode cX4_hasMan 1 = .ok (.ifCond .lt 15, 3) := by decide +kernel
theorem dX4_hasMan_4 : decode cX4_hasMan 4 = .ok (.iload_n 1, 1) := by decide +kernel
theorem dX4_hasMan_5 : decode cX4_hasMan 5 = .ok (.aload_n 0, 1) := by decide +kernel
theorem dX4_hasMan_6 : decode cX4_hasMan 6 = .ok (.getfield 24, 3) := by decide +kernel
theorem dX4_hasMan_9 : decode cX4_hasMan 9 = .ok (.if_icmp .ge 7, 3) := by decide +kernel
theorem dX4_hasMan_12 : decode cX4_hasMan 12 = .ok (.iconst 1, 1) := by decide +kernel
theorem dX4_hasMan_13 : decode cX4_hasMan 13 = .ok (.goto 4, 3) := by decide +kernel
theorem dX4_hasMan_16 : decode cX4_hasMan 16 = .ok (.iconst 0, 1) := by decide +kernel
theorem dX4_hasMan_17 : decode cX4_hasMan 17 = .ok (.ireturn, 1) := by decide +kernel
theorem dX4_lastDay_0 : decode cX4_lastDay 0 = .ok (.aload_n 0, 1) := by decide +kernel
theorem dX4_lastDay_1 : decode cX4_lastDay 1 = .ok (.getfield 28, 3) := by decide +kernel
theorem dX4_lastDay_4 : decode cX4_lastDay 4 = .ok (.ifCond .ne 7, 3) := by decide +kernel
theorem dX4_lastDay_7 : decode cX4_lastDay 7 = .ok (.iconst 0, 1) := by decide +kernel
theorem dX4_lastDay_8 : decode cX4_lastDay 8 = .ok (.goto 14, 3) := by decide +kernel
theorem dX4_lastDay_11 : decode cX4_lastDay 11 = .ok (.aload_n 0, 1) := by decide +kernel
theorem dX4_lastDay_12 : decode cX4_lastDay 12 = .ok (.getfield 18, 3) := by decide +kernel
theorem dX4_lastDay_15 : decode cX4_lastDay 15 = .ok (.aload_n 0, 1) := by decide +kernel
theorem dX4_lastDay_16 : decode cX4_lastDay 16 = .ok (.getfield 28, 3) := by decide +kernel
theorem dX4_lastDay_19 : decode cX4_lastDay 19 = .ok (.iconst 1, 1) := by decide +kernel
theorem dX4_lastDay_20 : decode cX4_lastDay 20 = .ok (.isub, 1) := by decide +kernel
theorem dX4_lastDay_21 : decode cX4_lastDay 21 = .ok (.iaload, 1) := by decide +kernel
theorem dX4_lastDay_22 : decode cX4_lastDay 22 = .ok (.ireturn, 1) := by decide +kernel
theorem dX4_addMeeting_0 : decode cX4_addMeeting 0 = .ok (.aload_n 0, 1) := by decide +kernel
theorem dX4_addMeeting_1 : decode cX4_addMeeting 1 = .ok (.getfield 28, 3) := by decide +kernel
theorem dX4_addMeeting_4 : decode cX4_addMeeting 4 = .ok (.istore_n 3, 1) := by decide +kernel
theorem dX4_addMeeting_5 : decode cX4_addMeeting 5 = .ok (.aload_n 0, 1) := by decide +kernel
theorem dX4_addMeeting_6 : decode cX4_addMeeting 6 = .ok (.getfield 15, 3) := by decide +kernel
theorem dX4_addMeeting_9 : decode cX4_addMeeting 9 = .ok (.iload_n 3, 1) := by decide +kernel
theorem dX4_addMeeting_10 : decode cX4_addMeeting 10 = .ok (.iload_n 1, 1) := by decide +kernel
theorem dX4_addMeeting_11 : decode cX4_addMeeting 11 = .ok (.iastore, 1) := by decide +kernel
theorem dX4_addMeeting_12 : decode cX4_addMeeting 12 = .ok (.aload_n 0, 1) := by decide +kernel
theorem dX4_addMeeting_13 : decode cX4_addMeeting 13 = .ok (.getfield 18, 3) := by decide +kernel
theorem dX4_addMeeting_16 : decode cX4_addMeeting 16 = .ok (.iload_n 3, 1) := by decide +kernel
theorem dX4_addMeeting_17 : decode cX4_addMeeting 17 = .ok (.iload_n 2, 1) := by decide +kernel
theorem dX4_addMeeting_18 : decode cX4_addMeeting 18 = .ok (.iastore, 1) := by decide +kernel
theorem dX4_addMeeting_19 : decode cX4_addMeeting 19 = .ok (.aload_n 0, 1) := by decide +kernel
theorem dX4_addMeeting_20 : decode cX4_addMeeting 20 = .ok (.dup, 1) := by decide +kernel
theorem dX4_addMeeting_21 : decode cX4_addMeeting 21 = .ok (.getfield 28, 3) := by decide +kernel
theorem dX4_addMeeting_24 : decode cX4_addMeeting 24 = .ok (.iconst 1, 1) := by decide +kernel
theorem dX4_addMeeting_25 : decode cX4_addMeeting 25 = .ok (.iadd, 1) := by decide +kernel
theorem dX4_addMeeting_26 : decode cX4_addMeeting 26 = .ok (.putfield 28, 3) := by decide +kernel
theorem dX4_addMeeting_29 : decode cX4_addMeeting 29 = .ok (.iload_n 3, 1) := by decide +kernel
theorem dX4_addMeeting_30 : decode cX4_addMeeting 30 = .ok (.ireturn, 1) := by decide +kernel
theorem dX4_sickMen_0 : decode cX4_sickMen 0 = .ok (.iconst 0, 1) := by decide +kernel
theorem dX4_sickMen_1 : decode cX4_sickMen 1 = .ok (.istore_n 1, 1) := by decide +kernel
theorem dX4_sickMen_2 : decode cX4_sickMen 2 = .ok (.iconst 0, 1) := by decide +kernel
theorem dX4_sickMen_3 : decode cX4_sickMen 3 = .ok (.istore_n 2, 1) := by decide +kernel
theorem dX4_sickMen_4 : decode cX4_sickMen 4 = .ok (.iload_n 2, 1) := by decide +kernel
theorem dX4_sickMen_5 : decode cX4_sickMen 5 = .ok (.aload_n 0, 1) := by decide +kernel
theorem dX4_sickMen_6 : decode cX4_sickMen 6 = .ok (.getfield 24, 3) := by decide +kernel
theorem dX4_sickMen_9 : decode cX4_sickMen 9 = .ok (.if_icmp .ge 25, 3) := by decide +kernel
theorem dX4_sickMen_12 : decode cX4_sickMen 12 = .ok (.aload_n 0, 1) := by decide +kernel
theorem dX4_sickMen_13 : decode cX4_sickMen 13 = .ok (.getfield 9, 3) := by decide +kernel
theorem dX4_sickMen_16 : decode cX4_sickMen 16 = .ok (.iload_n 2, 1) := by decide +kernel
theorem dX4_sickMen_17 : decode cX4_sickMen 17 = .ok (.iaload, 1) := by decide +kernel
theorem dX4_sickMen_18 : decode cX4_sickMen 18 = .ok (.iconst (-1), 1) := by decide +kernel
theorem dX4_sickMen_19 : decode cX4_sickMen 19 = .ok (.if_icmp .eq 9, 3) := by decide +kernel
theorem dX4_sickMen_22 : decode cX4_sickMen 22 = .ok (.iload_n 1, 1) := by decide +kernel
theorem dX4_sickMen_23 : decode cX4_sickMen 23 = .ok (.iconst 1, 1) := by decide +kernel
theorem dX4_sickMen_24 : decode cX4_sickMen 24 = .ok (.iload_n 2, 1) := by decide +kernel
theorem dX4_sickMen_25 : decode cX4_sickMen 25 = .ok (.ishl, 1) := by decide +kernel
theorem dX4_sickMen_26 : decode cX4_sickMen 26 = .ok (.ior, 1) := by decide +kernel
theorem dX4_sickMen_27 : decode cX4_sickMen 27 = .ok (.istore_n 1, 1) := by decide +kernel
theorem dX4_sickMen_28 : decode cX4_sickMen 28 = .ok (.iinc 2 1, 3) := by decide +kernel
theorem dX4_sickMen_31 : decode cX4_sickMen 31 = .ok (.goto (-27), 3) := by decide +kernel
theorem dX4_sickMen_34 : decode cX4_sickMen 34 = .ok (.iload_n 1, 1) := by decide +kernel
theorem dX4_sickMen_35 : decode cX4_sickMen 35 = .ok (.ireturn, 1) := by decide +kernel
theorem dX4_giversOf_0 : decode cX4_giversOf 0 = .ok (.iconst 0, 1) := by decide +kernel
theorem dX4_giversOf_1 : decode cX4_giversOf 1 = .ok (.istore 4, 2) := by decide +kernel
theorem dX4_giversOf_3 : decode cX4_giversOf 3 = .ok (.aload_n 0, 1) := by decide +kernel
theorem dX4_giversOf_4 : decode cX4_giversOf 4 = .ok (.getfield 9, 3) := by decide +kernel
theorem dX4_giversOf_7 : decode cX4_giversOf 7 = .ok (.iload_n 1, 1) := by decide +kernel
theorem dX4_giversOf_8 : decode cX4_giversOf 8 = .ok (.iaload, 1) := by decide +kernel
theorem dX4_giversOf_9 : decode cX4_giversOf 9 = .ok (.iconst (-1), 1) := by decide +kernel
theorem dX4_giversOf_10 : decode cX4_giversOf 10 = .ok (.if_icmp .ne 6, 3) := by decide +kernel
theorem dX4_giversOf_13 : decode cX4_giversOf 13 = .ok (.iload 4, 2) := by decide +kernel
theorem dX4_giversOf_15 : decode cX4_giversOf 15 = .ok (.ireturn, 1) := by decide +kernel
theorem dX4_giversOf_16 : decode cX4_giversOf 16 = .ok (.iconst 1, 1) := by decide +kernel
theorem dX4_giversOf_17 : decode cX4_giversOf 17 = .ok (.istore 5, 2) := by decide +kernel
theorem dX4_giversOf_19 : decode cX4_giversOf 19 = .ok (.iload 5, 2) := by decide +kernel
theorem dX4_giversOf_21 : decode cX4_giversOf 21 = .ok (.aload_n 0, 1) := by decide +kernel
theorem dX4_giversOf_22 : decode cX4_giversOf 22 = .ok (.getfield 28, 3) := by decide +kernel
theorem dX4_giversOf_25 : decode cX4_giversOf 25 = .ok (.if_icmp .ge 97, 3) := by decide +kernel
theorem dX4_giversOf_28 : decode cX4_giversOf 28 = .ok (.aload_n 0, 1) := by decide +kernel
theorem dX4_giversOf_29 : decode cX4_giversOf 29 = .ok (.getfield 15, 3) := by decide +kernel
theorem dX4_giversOf_32 : decode cX4_giversOf 32 = .ok (.iload 5, 2) := by decide +kernel
theorem dX4_giversOf_34 : decode cX4_giversOf 34 = .ok (.iconst 1, 1) := by decide +kernel
theorem dX4_giversOf_35 : decode cX4_giversOf 35 = .ok (.isub, 1) := by decide +kernel
theorem dX4_giversOf_36 : decode cX4_giversOf 36 = .ok (.iaload, 1) := by decide +kernel
theorem dX4_giversOf_37 : decode cX4_giversOf 37 = .ok (.istore 6, 2) := by decide +kernel
theorem dX4_giversOf_39 : decode cX4_giversOf 39 = .ok (.aload_n 0, 1) := by decide +kernel
theorem dX4_giversOf_40 : decode cX4_giversOf 40 = .ok (.getfield 18, 3) := by decide +kernel
theorem dX4_giversOf_43 : decode cX4_giversOf 43 = .ok (.iload 5, 2) := by decide +kernel
theorem dX4_giversOf_45 : decode cX4_giversOf 45 = .ok (.iaload, 1) := by decide +kernel
theorem dX4_giversOf_46 : decode cX4_giversOf 46 = .ok (.istore 7, 2) := by decide +kernel
theorem dX4_giversOf_48 : decode cX4_giversOf 48 = .ok (.aload_n 0, 1) := by decide +kernel
theorem dX4_giversOf_49 : decode cX4_giversOf 49 = .ok (.getfield 15, 3) := by decide +kernel
theorem dX4_giversOf_52 : decode cX4_giversOf 52 = .ok (.iload 5, 2) := by decide +kernel
theorem dX4_giversOf_54 : decode cX4_giversOf 54 = .ok (.iaload, 1) := by decide +kernel
theorem dX4_giversOf_55 : decode cX4_giversOf 55 = .ok (.iload_n 1, 1) := by decide +kernel
theorem dX4_giversOf_56 : decode cX4_giversOf 56 = .ok (.if_icmp .ne 13, 3) := by decide +kernel
theorem dX4_giversOf_59 : decode cX4_giversOf 59 = .ok (.iload 6, 2) := by decide +kernel
theorem dX4_giversOf_61 : decode cX4_giversOf 61 = .ok (.iload_n 1, 1) := by decide +kernel
theorem dX4_giversOf_62 : decode cX4_giversOf 62 = .ok (.if_icmp .eq 7, 3) := by decide +kernel
theorem dX4_giversOf_65 : decode cX4_giversOf 65 = .ok (.iconst 1, 1) := by decide +kernel
theorem dX4_giversOf_66 : decode cX4_giversOf 66 = .ok (.goto 4, 3) := by decide +kernel
theorem dX4_giversOf_69 : decode cX4_giversOf 69 = .ok (.iconst 0, 1) := by decide +kernel
theorem dX4_giversOf_70 : decode cX4_giversOf 70 = .ok (.istore 8, 2) := by decide +kernel
theorem dX4_giversOf_72 : decode cX4_giversOf 72 = .ok (.iload 8, 2) := by decide +kernel
theorem dX4_giversOf_74 : decode cX4_giversOf 74 = .ok (.ifCond .eq 42, 3) := by decide +kernel
theorem dX4_giversOf_77 : decode cX4_giversOf 77 = .ok (.aload_n 0, 1) := by decide +kernel
theorem dX4_giversOf_78 : decode cX4_giversOf 78 = .ok (.getfield 9, 3) := by decide +kernel
theorem dX4_giversOf_81 : decode cX4_giversOf 81 = .ok (.iload_n 1, 1) := by decide +kernel
theorem dX4_giversOf_82 : decode cX4_giversOf 82 = .ok (.iaload, 1) := by decide +kernel
theorem dX4_giversOf_83 : decode cX4_giversOf 83 = .ok (.iload 7, 2) := by decide +kernel
theorem dX4_giversOf_85 : decode cX4_giversOf 85 = .ok (.isub, 1) := by decide +kernel
theorem dX4_giversOf_86 : decode cX4_giversOf 86 = .ok (.iconst 1, 1) := by decide +kernel
theorem dX4_giversOf_87 : decode cX4_giversOf 87 = .ok (.iload_n 2, 1) := by decide +kernel
theorem dX4_giversOf_88 : decode cX4_giversOf 88 = .ok (.invokestatic 31, 3) := by decide +kernel
theorem dX4_giversOf_91 : decode cX4_giversOf 91 = .ok (.ifCond .eq 25, 3) := by decide +kernel
theorem dX4_giversOf_94 : decode cX4_giversOf 94 = .ok (.aload_n 0, 1) := by decide +kernel
theorem dX4_giversOf_95 : decode cX4_giversOf 95 = .ok (.iload 6, 2) := by decide +kernel
theorem dX4_giversOf_97 : decode cX4_giversOf 97 = .ok (.iload 7, 2) := by decide +kernel
theorem dX4_giversOf_99 : decode cX4_giversOf 99 = .ok (.iload_n 2, 1) := by decide +kernel
theorem dX4_giversOf_100 : decode cX4_giversOf 100 = .ok (.iload_n 3, 1) := by decide +kernel
theorem dX4_giversOf_101 : decode cX4_giversOf 101 = .ok (.invokevirtual 35, 3) := by decide +kernel
theorem dX4_giversOf_104 : decode cX4_giversOf 104 = .ok (.ifCond .eq 12, 3) := by decide +kernel
theorem dX4_giversOf_107 : decode cX4_giversOf 107 = .ok (.iload 4, 2) := by decide +kernel
theorem dX4_giversOf_109 : decode cX4_giversOf 109 = .ok (.iconst 1, 1) := by decide +kernel
theorem dX4_giversOf_110 : decode cX4_giversOf 110 = .ok (.iload 6, 2) := by decide +kernel
theorem dX4_giversOf_112 : decode cX4_giversOf 112 = .ok (.ishl, 1) := by decide +kernel
theorem dX4_giversOf_113 : decode cX4_giversOf 113 = .ok (.ior, 1) := by decide +kernel
theorem dX4_giversOf_114 : decode cX4_giversOf 114 = .ok (.istore 4, 2) := by decide +kernel
theorem dX4_giversOf_116 : decode cX4_giversOf 116 = .ok (.iinc 5 1, 3) := by decide +kernel
theorem dX4_giversOf_119 : decode cX4_giversOf 119 = .ok (.goto (-100), 3) := by decide +kernel
theorem dX4_giversOf_122 : decode cX4_giversOf 122 = .ok (.iload 4, 2) := by decide +kernel
theorem dX4_giversOf_124 : decode cX4_giversOf 124 = .ok (.ireturn, 1) := by decide +kernel
theorem dX4_couldGive_0 : decode cX4_couldGive 0 = .ok (.aload_n 0, 1) := by decide +kernel
theorem dX4_couldGive_1 : decode cX4_couldGive 1 = .ok (.getfield 9, 3) := by decide +kernel
theorem dX4_couldGive_4 : decode cX4_couldGive 4 = .ok (.iload_n 1, 1) := by decide +kernel
theorem dX4_couldGive_5 : decode cX4_couldGive 5 = .ok (.iaload, 1) := by decide +kernel
theorem dX4_couldGive_6 : decode cX4_couldGive 6 = .ok (.istore 5, 2) := by decide +kernel
theorem dX4_couldGive_8 : decode cX4_couldGive 8 = .ok (.iload 5, 2) := by decide +kernel
theorem dX4_couldGive_10 : decode cX4_couldGive 10 = .ok (.iconst (-1), 1) := by decide +kernel
theorem dX4_couldGive_11 : decode cX4_couldGive 11 = .ok (.if_icmp .eq 28, 3) := by decide +kernel
theorem dX4_couldGive_14 : decode cX4_couldGive 14 = .ok (.iload 5, 2) := by decide +kernel
theorem dX4_couldGive_16 : decode cX4_couldGive 16 = .ok (.iload_n 3, 1) := by decide +kernel
theorem dX4_couldGive_17 : decode cX4_couldGive 17 = .ok (.isub, 1) := by decide +kernel
theorem dX4_couldGive_18 : decode cX4_couldGive 18 = .ok (.iload_n 2, 1) := by decide +kernel
theorem dX4_couldGive_19 : decode cX4_couldGive 19 = .ok (.if_icmp .gt 20, 3) := by decide +kernel
theorem dX4_couldGive_22 : decode cX4_couldGive 22 = .ok (.iload_n 2, 1) := by decide +kernel
theorem dX4_couldGive_23 : decode cX4_couldGive 23 = .ok (.iload 4, 2) := by decide +kernel
theorem dX4_couldGive_25 : decode cX4_couldGive 25 = .ok (.iconst 1, 1) := by decide +kernel
theorem dX4_couldGive_26 : decode cX4_couldGive 26 = .ok (.isub, 1) := by decide +kernel
theorem dX4_couldGive_27 : decode cX4_couldGive 27 = .ok (.isub, 1) := by decide +kernel
theorem dX4_couldGive_28 : decode cX4_couldGive 28 = .ok (.iload 5, 2) := by decide +kernel
theorem dX4_couldGive_30 : decode cX4_couldGive 30 = .ok (.iconst 1, 1) := by decide +kernel
theorem dX4_couldGive_31 : decode cX4_couldGive 31 = .ok (.isub, 1) := by decide +kernel
theorem dX4_couldGive_32 : decode cX4_couldGive 32 = .ok (.if_icmp .gt 7, 3) := by decide +kernel
theorem dX4_couldGive_35 : decode cX4_couldGive 35 = .ok (.iconst 1, 1) := by decide +kernel
theorem dX4_couldGive_36 : decode cX4_couldGive 36 = .ok (.goto 4, 3) := by decide +kernel
theorem dX4_couldGive_39 : decode cX4_couldGive 39 = .ok (.iconst 0, 1) := by decide +kernel
theorem dX4_couldGive_40 : decode cX4_couldGive 40 = .ok (.ireturn, 1) := by decide +kernel
theorem dX4_trace_0 : decode cX4_trace 0 = .ok (.aload_n 0, 1) := by decide +kernel
theorem dX4_trace_1 : decode cX4_trace 1 = .ok (.iconst 0, 1) := by decide +kernel
theorem dX4_trace_2 : decode cX4_trace 2 = .ok (.putfield 39, 3) := by decide +kernel
theorem dX4_trace_5 : decode cX4_trace 5 = .ok (.aload_n 0, 1) := by decide +kernel
theorem dX4_trace_6 : decode cX4_trace 6 = .ok (.invokevirtual 42, 3) := by decide +kernel
theorem dX4_trace_9 : decode cX4_trace 9 = .ok (.istore_n 3, 1) := by decide +kernel
theorem dX4_trace_10 : decode cX4_trace 10 = .ok (.iconst 0, 1) := by decide +kernel
theorem dX4_trace_11 : decode cX4_trace 11 = .ok (.istore 4, 2) := by decide +kernel
theorem dX4_trace_13 : decode cX4_trace 13 = .ok (.iload 4, 2) := by decide +kernel
theorem dX4_trace_15 : decode cX4_trace 15 = .ok (.aload_n 0, 1) := by decide +kernel
theorem dX4_trace_16 : decode cX4_trace 16 = .ok (.getfield 24, 3) := by decide +kernel
theorem dX4_trace_19 : decode cX4_trace 19 = .ok (.if_icmp .ge 56, 3) := by decide +kernel
theorem dX4_trace_22 : decode cX4_trace 22 = .ok (.aload_n 0, 1) := by decide +kernel
theorem dX4_trace_23 : decode cX4_trace 23 = .ok (.getfield 21, 3) := by decide +kernel
theorem dX4_trace_26 : decode cX4_trace 26 = .ok (.iload 4, 2) := by decide +kernel
theorem dX4_trace_28 : decode cX4_trace 28 = .ok (.aload_n 0, 1) := by decide +kernel
theorem dX4_trace_29 : decode cX4_trace 29 = .ok (.iload 4, 2) := by decide +kernel
theorem dX4_trace_31 : decode cX4_trace 31 = .ok (.iload_n 1, 1) := by decide +kernel
theorem dX4_trace_32 : decode cX4_trace 32 = .ok (.iload_n 2, 1) := by decide +kernel
theorem dX4_trace_33 : decode cX4_trace 33 = .ok (.invokevirtual 46, 3) := by decide +kernel
theorem dX4_trace_36 : decode cX4_trace 36 = .ok (.iastore, 1) := by decide +kernel
theorem dX4_trace_37 : decode cX4_trace 37 = .ok (.iload_n 3, 1) := by decide +kernel
theorem dX4_trace_38 : decode cX4_trace 38 = .ok (.iload 4, 2) := by decide +kernel
theorem dX4_trace_40 : decode cX4_trace 40 = .ok (.invokestatic 50, 3) := by decide +kernel
theorem dX4_trace_43 : decode cX4_trace 43 = .ok (.ifCond .eq 26, 3) := by decide +kernel
theorem dX4_trace_46 : decode cX4_trace 46 = .ok (.aload_n 0, 1) := by decide +kernel
theorem dX4_trace_47 : decode cX4_trace 47 = .ok (.getfield 21, 3) := by decide +kernel
theorem dX4_trace_50 : decode cX4_trace 50 = .ok (.iload 4, 2) := by decide +kernel
theorem dX4_trace_52 : decode cX4_trace 52 = .ok (.iaload, 1) := by decide +kernel
theorem dX4_trace_53 : decode cX4_trace 53 = .ok (.ifCond .ne 16, 3) := by decide +kernel
theorem dX4_trace_56 : decode cX4_trace 56 = .ok (.aload_n 0, 1) := by decide +kernel
theorem dX4_trace_57 : decode cX4_trace 57 = .ok (.dup, 1) := by decide +kernel
theorem dX4_trace_58 : decode cX4_trace 58 = .ok (.getfield 39, 3) := by decide +kernel
theorem dX4_trace_61 : decode cX4_trace 61 = .ok (.iconst 1, 1) := by decide +kernel
theorem dX4_trace_62 : decode cX4_trace 62 = .ok (.iload 4, 2) := by decide +kernel
theorem dX4_trace_64 : decode cX4_trace 64 = .ok (.ishl, 1) := by decide +kernel
theorem dX4_trace_65 : decode cX4_trace 65 = .ok (.ior, 1) := by decide +kernel
theorem dX4_trace_66 : decode cX4_trace 66 = .ok (.putfield 39, 3) := by decide +kernel
theorem dX4_trace_69 : decode cX4_trace 69 = .ok (.iinc 4 1, 3) := by decide +kernel
theorem dX4_trace_72 : decode cX4_trace 72 = .ok (.goto (-59), 3) := by decide +kernel
theorem dX4_trace_75 : decode cX4_trace 75 = .ok (.return_, 1) := by decide +kernel
theorem dX4_shortestPathTo_0 : decode cX4_shortestPathTo 0 = .ok (.aload_n 0, 1) := by decide +kernel
theorem dX4_shortestPathTo_1 : decode cX4_shortestPathTo 1 = .ok (.getfield 39, 3) := by decide +kernel
theorem dX4_shortestPathTo_4 : decode cX4_shortestPathTo 4 = .ok (.iload_n 2, 1) := by decide +kernel
theorem dX4_shortestPathTo_5 : decode cX4_shortestPathTo 5 = .ok (.iand, 1) := by decide +kernel
theorem dX4_shortestPathTo_6 : decode cX4_shortestPathTo 6 = .ok (.istore_n 3, 1) := by decide +kernel
theorem dX4_shortestPathTo_7 : decode cX4_shortestPathTo 7 = .ok (.iconst 1, 1) := by decide +kernel
theorem dX4_shortestPathTo_8 : decode cX4_shortestPathTo 8 = .ok (.istore 4, 2) := by decide +kernel
theorem dX4_shortestPathTo_10 : decode cX4_shortestPathTo 10 = .ok (.iload 4, 2) := by decide +kernel
theorem dX4_shortestPathTo_12 : decode cX4_shortestPathTo 12 = .ok (.aload_n 0, 1) := by decide +kernel
theorem dX4_shortestPathTo_13 : decode cX4_shortestPathTo 13 = .ok (.getfield 24, 3) := by decide +kernel
theorem dX4_shortestPathTo_16 : decode cX4_shortestPathTo 16 = .ok (.if_icmp .gt 30, 3) := by decide +kernel
theorem dX4_shortestPathTo_19 : decode cX4_shortestPathTo 19 = .ok (.iload_n 3, 1) := by decide +kernel
theorem dX4_shortestPathTo_20 : decode cX4_shortestPathTo 20 = .ok (.iload_n 1, 1) := by decide +kernel
theorem dX4_shortestPathTo_21 : decode cX4_shortestPathTo 21 = .ok (.invokestatic 50, 3) := by decide +kernel
theorem dX4_shortestPathTo_24 : decode cX4_shortestPathTo 24 = .ok (.ifCond .eq 6, 3) := by decide +kernel
theorem dX4_shortestPathTo_27 : decode cX4_shortestPathTo 27 = .ok (.iload 4, 2) := by decide +kernel
theorem dX4_shortestPathTo_29 : decode cX4_shortestPathTo 29 = .ok (.ireturn, 1) := by decide +kernel
theorem dX4_shortestPathTo_30 : decode cX4_shortestPathTo 30 = .ok (.iload_n 3, 1) := by decide +kernel
theorem dX4_shortestPathTo_31 : decode cX4_shortestPathTo 31 = .ok (.aload_n 0, 1) := by decide +kernel
theorem dX4_shortestPathTo_32 : decode cX4_shortestPathTo 32 = .ok (.iload_n 3, 1) := by decide +kernel
theorem dX4_shortestPathTo_33 : decode cX4_shortestPathTo 33 = .ok (.invokevirtual 54, 3) := by decide +kernel
theorem dX4_shortestPathTo_36 : decode cX4_shortestPathTo 36 = .ok (.iload_n 2, 1) := by decide +kernel
theorem dX4_shortestPathTo_37 : decode cX4_shortestPathTo 37 = .ok (.iand, 1) := by decide +kernel
theorem dX4_shortestPathTo_38 : decode cX4_shortestPathTo 38 = .ok (.ior, 1) := by decide +kernel
theorem dX4_shortestPathTo_39 : decode cX4_shortestPathTo 39 = .ok (.istore_n 3, 1) := by decide +kernel
theorem dX4_shortestPathTo_40 : decode cX4_shortestPathTo 40 = .ok (.iinc 4 1, 3) := by decide +kernel
theorem dX4_shortestPathTo_43 : decode cX4_shortestPathTo 43 = .ok (.goto (-33), 3) := by decide +kernel
theorem dX4_shortestPathTo_46 : decode cX4_shortestPathTo 46 = .ok (.iconst 0, 1) := by decide +kernel
theorem dX4_shortestPathTo_47 : decode cX4_shortestPathTo 47 = .ok (.ireturn, 1) := by decide +kernel
theorem dX4_nextTo_0 : decode cX4_nextTo 0 = .ok (.iconst 0, 1) := by decide +kernel
theorem dX4_nextTo_1 : decode cX4_nextTo 1 = .ok (.istore_n 2, 1) := by decide +kernel
theorem dX4_nextTo_2 : decode cX4_nextTo 2 = .ok (.iconst 0, 1) := by decide +kernel
theorem dX4_nextTo_3 : decode cX4_nextTo 3 = .ok (.istore_n 3, 1) := by decide +kernel
theorem dX4_nextTo_4 : decode cX4_nextTo 4 = .ok (.iload_n 3, 1) := by decide +kernel
theorem dX4_nextTo_5 : decode cX4_nextTo 5 = .ok (.aload_n 0, 1) := by decide +kernel
theorem dX4_nextTo_6 : decode cX4_nextTo 6 = .ok (.getfield 24, 3) := by decide +kernel
theorem dX4_nextTo_9 : decode cX4_nextTo 9 = .ok (.if_icmp .ge 26, 3) := by decide +kernel
theorem dX4_nextTo_12 : decode cX4_nextTo 12 = .ok (.aload_n 0, 1) := by decide +kernel
theorem dX4_nextTo_13 : decode cX4_nextTo 13 = .ok (.getfield 21, 3) := by decide +kernel
theorem dX4_nextTo_16 : decode cX4_nextTo 16 = .ok (.iload_n 3, 1) := by decide +kernel
theorem dX4_nextTo_17 : decode cX4_nextTo 17 = .ok (.iaload, 1) := by decide +kernel
theorem dX4_nextTo_18 : decode cX4_nextTo 18 = .ok (.iload_n 1, 1) := by decide +kernel
theorem dX4_nextTo_19 : decode cX4_nextTo 19 = .ok (.iand, 1) := by decide +kernel
theorem dX4_nextTo_20 : decode cX4_nextTo 20 = .ok (.ifCond .eq 9, 3) := by decide +kernel
theorem dX4_nextTo_23 : decode cX4_nextTo 23 = .ok (.iload_n 2, 1) := by decide +kernel
theorem dX4_nextTo_24 : decode cX4_nextTo 24 = .ok (.iconst 1, 1) := by decide +kernel
theorem dX4_nextTo_25 : decode cX4_nextTo 25 = .ok (.iload_n 3, 1) := by decide +kernel
theorem dX4_nextTo_26 : decode cX4_nextTo 26 = .ok (.ishl, 1) := by decide +kernel
theorem dX4_nextTo_27 : decode cX4_nextTo 27 = .ok (.ior, 1) := by decide +kernel
theorem dX4_nextTo_28 : decode cX4_nextTo 28 = .ok (.istore_n 2, 1) := by decide +kernel
theorem dX4_nextTo_29 : decode cX4_nextTo 29 = .ok (.iinc 3 1, 3) := by decide +kernel
theorem dX4_nextTo_32 : decode cX4_nextTo 32 = .ok (.goto (-28), 3) := by decide +kernel
theorem dX4_nextTo_35 : decode cX4_nextTo 35 = .ok (.iload_n 2, 1) := by decide +kernel
theorem dX4_nextTo_36 : decode cX4_nextTo 36 = .ok (.ireturn, 1) := by decide +kernel
theorem dX4_onAllPathsTo_0 : decode cX4_onAllPathsTo 0 = .ok (.iconst 0, 1) := by decide +kernel
theorem dX4_onAllPathsTo_1 : decode cX4_onAllPathsTo 1 = .ok (.istore_n 2, 1) := by decide +kernel
theorem dX4_onAllPathsTo_2 : decode cX4_onAllPathsTo 2 = .ok (.aload_n 0, 1) := by decide +kernel
theorem dX4_onAllPathsTo_3 : decode cX4_onAllPathsTo 3 = .ok (.invokevirtual 42, 3) := by decide +kernel
theorem dX4_onAllPathsTo_6 : decode cX4_onAllPathsTo 6 = .ok (.istore_n 3, 1) := by decide +kernel
theorem dX4_onAllPathsTo_7 : decode cX4_onAllPathsTo 7 = .ok (.aload_n 0, 1) := by decide +kernel
theorem dX4_onAllPathsTo_8 : decode cX4_onAllPathsTo 8 = .ok (.iload_n 1, 1) := by decide +kernel
theorem dX4_onAllPathsTo_9 : decode cX4_onAllPathsTo 9 = .ok (.iload_n 3, 1) := by decide +kernel
theorem dX4_onAllPathsTo_10 : decode cX4_onAllPathsTo 10 = .ok (.invokevirtual 58, 3) := by decide +kernel
theorem dX4_onAllPathsTo_13 : decode cX4_onAllPathsTo 13 = .ok (.ifCond .ne 5, 3) := by decide +kernel
theorem dX4_onAllPathsTo_16 : decode cX4_onAllPathsTo 16 = .ok (.iload_n 2, 1) := by decide +kernel
theorem dX4_onAllPathsTo_17 : decode cX4_onAllPathsTo 17 = .ok (.ireturn, 1) := by decide +kernel
theorem dX4_onAllPathsTo_18 : decode cX4_onAllPathsTo 18 = .ok (.iconst 0, 1) := by decide +kernel
theorem dX4_onAllPathsTo_19 : decode cX4_onAllPathsTo 19 = .ok (.istore 4, 2) := by decide +kernel
theorem dX4_onAllPathsTo_21 : decode cX4_onAllPathsTo 21 = .ok (.iload 4, 2) := by decide +kernel
theorem dX4_onAllPathsTo_23 : decode cX4_onAllPathsTo 23 = .ok (.aload_n 0, 1) := by decide +kernel
theorem dX4_onAllPathsTo_24 : decode cX4_onAllPathsTo 24 = .ok (.getfield 24, 3) := by decide +kernel
theorem dX4_onAllPathsTo_27 : decode cX4_onAllPathsTo 27 = .ok (.if_icmp .ge 32, 3) := by decide +kernel
theorem dX4_onAllPathsTo_30 : decode cX4_onAllPathsTo 30 = .ok (.aload_n 0, 1) := by decide +kernel
theorem dX4_onAllPathsTo_31 : decode cX4_onAllPathsTo 31 = .ok (.iload_n 1, 1) := by decide +kernel
theorem dX4_onAllPathsTo_32 : decode cX4_onAllPathsTo 32 = .ok (.iload_n 3, 1) := by decide +kernel
theorem dX4_onAllPathsTo_33 : decode cX4_onAllPathsTo 33 = .ok (.iconst 1, 1) := by decide +kernel
theorem dX4_onAllPathsTo_34 : decode cX4_onAllPathsTo 34 = .ok (.iload 4, 2) := by decide +kernel
theorem dX4_onAllPathsTo_36 : decode cX4_onAllPathsTo 36 = .ok (.ishl, 1) := by decide +kernel
theorem dX4_onAllPathsTo_37 : decode cX4_onAllPathsTo 37 = .ok (.iconst (-1), 1) := by decide +kernel
theorem dX4_onAllPathsTo_38 : decode cX4_onAllPathsTo 38 = .ok (.ixor, 1) := by decide +kernel
theorem dX4_onAllPathsTo_39 : decode cX4_onAllPathsTo 39 = .ok (.iand, 1) := by decide +kernel
theorem dX4_onAllPathsTo_40 : decode cX4_onAllPathsTo 40 = .ok (.invokevirtual 58, 3) := by decide +kernel
theorem dX4_onAllPathsTo_43 : decode cX4_onAllPathsTo 43 = .ok (.ifCond .ne 10, 3) := by decide +kernel
theorem dX4_onAllPathsTo_46 : decode cX4_onAllPathsTo 46 = .ok (.iload_n 2, 1) := by decide +kernel
theorem dX4_onAllPathsTo_47 : decode cX4_onAllPathsTo 47 = .ok (.iconst 1, 1) := by decide +kernel
theorem dX4_onAllPathsTo_48 : decode cX4_onAllPathsTo 48 = .ok (.iload 4, 2) := by decide +kernel
theorem dX4_onAllPathsTo_50 : decode cX4_onAllPathsTo 50 = .ok (.ishl, 1) := by decide +kernel
theorem dX4_onAllPathsTo_51 : decode cX4_onAllPathsTo 51 = .ok (.ior, 1) := by decide +kernel
theorem dX4_onAllPathsTo_52 : decode cX4_onAllPathsTo 52 = .ok (.istore_n 2, 1) := by decide +kernel
theorem dX4_onAllPathsTo_53 : decode cX4_onAllPathsTo 53 = .ok (.iinc 4 1, 3) := by decide +kernel
theorem dX4_onAllPathsTo_56 : decode cX4_onAllPathsTo 56 = .ok (.goto (-35), 3) := by decide +kernel
theorem dX4_onAllPathsTo_59 : decode cX4_onAllPathsTo 59 = .ok (.iload_n 2, 1) := by decide +kernel
theorem dX4_onAllPathsTo_60 : decode cX4_onAllPathsTo 60 = .ok (.ireturn, 1) := by decide +kernel
