theorem dX5_init_0 : decode cX5_init 0 = .ok (.aload_n 0, 1) := by decide +kernel
theorem dX5_init_1 : decode cX5_init 1 = .ok (.invokespecial 3, 3) := by decide +kernel
theorem dX5_init_4 : decode cX5_init 4 = .ok (.aload_n 0, 1) := by decide +kernel
theorem dX5_init_5 : decode cX5_init 5 = .ok (.iconst 1, 1) := by decide +kernel
theorem dX5_init_6 : decode cX5_init 6 = .ok (.newarray .int, 2) := by decide +kernel
theorem dX5_init_8 : decode cX5_init 8 = .ok (.putfield 9, 3) := by decide +kernel
theorem dX5_init_11 : decode cX5_init 11 = .ok (.aload_n 0, 1) := by decide +kernel
theorem dX5_init_12 : decode cX5_init 12 = .ok (.iconst 1, 1) := by decide +kernel
theorem dX5_init_13 : decode cX5_init 13 = .ok (.newarray .int, 2) := by decide +kernel
theorem dX5_init_15 : decode cX5_init 15 = .ok (.putfield 15, 3) := by decide +kernel
theorem dX5_init_18 : decode cX5_init 18 = .ok (.aload_n 0, 1) := by decide +kernel
theorem dX5_init_19 : decode cX5_init 19 = .ok (.bipush 6, 2) := by decide +kernel
theorem dX5_init_21 : decode cX5_init 21 = .ok (.newarray .int, 2) := by decide +kernel
theorem dX5_init_23 : decode cX5_init 23 = .ok (.putfield 18, 3) := by decide +kernel
theorem dX5_init_26 : decode cX5_init 26 = .ok (.aload_n 0, 1) := by decide +kernel
theorem dX5_init_27 : decode cX5_init 27 = .ok (.bipush 6, 2) := by decide +kernel
theorem dX5_init_29 : decode cX5_init 29 = .ok (.bipush 6, 2) := by decide +kernel
theorem dX5_init_31 : decode cX5_init 31 = .ok (.multianewarray 21 2, 4) := by decide +kernel
theorem dX5_init_35 : decode cX5_init 35 = .ok (.putfield 23, 3) := by decide +kernel
theorem dX5_init_38 : decode cX5_init 38 = .ok (.aload_n 0, 1) := by decide +kernel
theorem dX5_init_39 : decode cX5_init 39 = .ok (.bipush 36, 2) := by decide +kernel
theorem dX5_init_41 : decode cX5_init 41 = .ok (.newarray .boolean, 2) := by decide +kernel
theorem dX5_init_43 : decode cX5_init 43 = .ok (.putfield 26, 3) := by decide +kernel
theorem dX5_init_46 : decode cX5_init 46 = .ok (.aload_n 0, 1) := by decide +kernel
theorem dX5_init_47 : decode cX5_init 47 = .ok (.aload_n 1, 1) := by decide +kernel
theorem dX5_init_48 : decode cX5_init 48 = .ok (.putfield 30, 3) := by decide +kernel
theorem dX5_init_51 : decode cX5_init 51 = .ok (.return_, 1) := by decide +kernel
theorem dX5_forget_0 : decode cX5_forget 0 = .ok (.aload_n 0, 1) := by decide +kernel
theorem dX5_forget_1 : decode cX5_forget 1 = .ok (.iconst 0, 1) := by decide +kernel
theorem dX5_forget_2 : decode cX5_forget 2 = .ok (.putfield 34, 3) := by decide +kernel
theorem dX5_forget_5 : decode cX5_forget 5 = .ok (.return_, 1) := by decide +kernel
theorem dX5_learn_0 : decode cX5_learn 0 = .ok (.aload_n 0, 1) := by decide +kernel
theorem dX5_learn_1 : decode cX5_learn 1 = .ok (.getfield 34, 3) := by decide +kernel
theorem dX5_learn_4 : decode cX5_learn 4 = .ok (.ifCond .eq 4, 3) := by decide +kernel
theorem dX5_learn_7 : decode cX5_learn 7 = .ok (.return_, 1) := by decide +kernel
theorem dX5_learn_8 : decode cX5_learn 8 = .ok (.aload_n 0, 1) := by decide +kernel
theorem dX5_learn_9 : decode cX5_learn 9 = .ok (.iconst 1, 1) := by decide +kernel
theorem dX5_learn_10 : decode cX5_learn 10 = .ok (.putfield 34, 3) := by decide +kernel
theorem dX5_learn_13 : decode cX5_learn 13 = .ok (.aload_n 0, 1) := by decide +kernel
theorem dX5_learn_14 : decode cX5_learn 14 = .ok (.iconst 0, 1) := by decide +kernel
theorem dX5_learn_15 : decode cX5_learn 15 = .ok (.putfield 38, 3) := by decide +kernel
theorem dX5_learn_18 : decode cX5_learn 18 = .ok (.aload_n 0, 1) := by decide +kernel
theorem dX5_learn_19 : decode cX5_learn 19 = .ok (.aload_n 0, 1) := by decide +kernel
theorem dX5_learn_20 : decode cX5_learn 20 = .ok (.getfield 30, 3) := by decide +kernel
theorem dX5_learn_23 : decode cX5_learn 23 = .ok (.getfield 42, 3) := by decide +kernel
theorem dX5_learn_26 : decode cX5_learn 26 = .ok (.putfield 47, 3) := by decide +kernel
theorem dX5_learn_29 : decode cX5_learn 29 = .ok (.aload_n 0, 1) := by decide +kernel
theorem dX5_learn_30 : decode cX5_learn 30 = .ok (.aload_n 0, 1) := by decide +kernel
theorem dX5_learn_31 : decode cX5_learn 31 = .ok (.getfield 30, 3) := by decide +kernel
theorem dX5_learn_34 : decode cX5_learn 34 = .ok (.getfield 48, 3) := by decide +kernel
theorem dX5_learn_37 : decode cX5_learn 37 = .ok (.iconst 0, 1) := by decide +kernel
theorem dX5_learn_38 : decode cX5_learn 38 = .ok (.iaload, 1) := by decide +kernel
theorem dX5_learn_39 : decode cX5_learn 39 = .ok (.putfield 51, 3) := by decide +kernel
theorem dX5_learn_42 : decode cX5_learn 42 = .ok (.aload_n 0, 1) := by decide +kernel
theorem dX5_learn_43 : decode cX5_learn 43 = .ok (.aload_n 0, 1) := by decide +kernel
theorem dX5_learn_44 : decode cX5_learn 44 = .ok (.getfield 47, 3) := by decide +kernel
theorem dX5_learn_47 : decode cX5_learn 47 = .ok (.invokevirtual 54, 3) := by decide +kernel
theorem dX5_learn_50 : decode cX5_learn 50 = .ok (.iconst 0, 1) := by decide +kernel
theorem dX5_learn_51 : decode cX5_learn 51 = .ok (.istore_n 1, 1) := by decide +kernel
theorem dX5_learn_52 : decode cX5_learn 52 = .ok (.iload_n 1, 1) := by decide +kernel
theorem dX5_learn_53 : decode cX5_learn 53 = .ok (.aload_n 0, 1) := by decide +kernel
theorem dX5_learn_54 : decode cX5_learn 54 = .ok (.getfield 47, 3) := by decide +kernel
theorem dX5_learn_57 : decode cX5_learn 57 = .ok (.if_icmp .ge 100, 3) := by decide +kernel
theorem dX5_learn_60 : decode cX5_learn 60 = .ok (.iconst 0, 1) := by decide +kernel
theorem dX5_learn_61 : decode cX5_learn 61 = .ok (.istore_n 2, 1) := by decide +kernel
theorem dX5_learn_62 : decode cX5_learn 62 = .ok (.iload_n 2, 1) := by decide +kernel
theorem dX5_learn_63 : decode cX5_learn 63 = .ok (.aload_n 0, 1) := by decide +kernel
theorem dX5_learn_64 : decode cX5_learn 64 = .ok (.getfield 47, 3) := by decide +kernel
theorem dX5_learn_67 : decode cX5_learn 67 = .ok (.if_icmp .ge 84, 3) := by decide +kernel
theorem dX5_learn_70 : decode cX5_learn 70 = .ok (.aload_n 0, 1) := by decide +kernel
theorem dX5_learn_71 : decode cX5_learn 71 = .ok (.getfield 23, 3) := by decide +kernel
theorem dX5_learn_74 : decode cX5_learn 74 = .ok (.iload_n 1, 1) := by decide +kernel
theorem dX5_learn_75 : decode cX5_learn 75 = .ok (.aaload, 1) := by decide +kernel
theorem dX5_learn_76 : decode cX5_learn 76 = .ok (.iload_n 2, 1) := by decide +kernel
theorem dX5_learn_77 : decode cX5_learn 77 = .ok (.aload_n 0, 1) := by decide +kernel
theorem dX5_learn_78 : decode cX5_learn 78 = .ok (.getfield 30, 3) := by decide +kernel
theorem dX5_learn_81 : decode cX5_learn 81 = .ok (.aload_n 0, 1) := by decide +kernel
theorem dX5_learn_82 : decode cX5_learn 82 = .ok (.getfield 30, 3) := by decide +kernel
theorem dX5_learn_85 : decode cX5_learn 85 = .ok (.getfield 58, 3) := by decide +kernel
theorem dX5_learn_88 : decode cX5_learn 88 = .ok (.iload_n 1, 1) := by decide +kernel
theorem dX5_learn_89 : decode cX5_learn 89 = .ok (.iaload, 1) := by decide +kernel
theorem dX5_learn_90 : decode cX5_learn 90 = .ok (.aload_n 0, 1) := by decide +kernel
theorem dX5_learn_91 : decode cX5_learn 91 = .ok (.getfield 30, 3) := by decide +kernel
theorem dX5_learn_94 : decode cX5_learn 94 = .ok (.getfield 58, 3) := by decide +kernel
theorem dX5_learn_97 : decode cX5_learn 97 = .ok (.iload_n 2, 1) := by decide +kernel
theorem dX5_learn_98 : decode cX5_learn 98 = .ok (.iaload, 1) := by decide +kernel
theorem dX5_learn_99 : decode cX5_learn 99 = .ok (.invokevirtual 61, 3) := by decide +kernel
theorem dX5_learn_102 : decode cX5_learn 102 = .ok (.iastore, 1) := by decide +kernel
theorem dX5_learn_103 : decode cX5_learn 103 = .ok (.aload_n 0, 1) := by decide +kernel
theorem dX5_learn_104 : decode cX5_learn 104 = .ok (.getfield 26, 3) := by decide +kernel
theorem dX5_learn_107 : decode cX5_learn 107 = .ok (.iload_n 1, 1) := by decide +kernel
theorem dX5_learn_108 : decode cX5_learn 108 = .ok (.bipush 6, 2) := by decide +kernel
theorem dX5_learn_110 : decode cX5_learn 110 = .ok (.imul, 1) := by decide +kernel
theorem dX5_learn_111 : decode cX5_learn 111 = .ok (.iload_n 2, 1) := by decide +kernel
theorem dX5_learn_112 : decode cX5_learn 112 = .ok (.iadd, 1) := by decide +kernel
theorem dX5_learn_113 : decode cX5_learn 113 = .ok (.iload_n 1, 1) := by decide +kernel
theorem dX5_learn_114 : decode cX5_learn 114 = .ok (.iload_n 2, 1) := by decide +kernel
theorem dX5_learn_115 : decode cX5_learn 115 = .ok (.if_icmp .eq 28, 3) := by decide +kernel
theorem dX5_learn_118 : decode cX5_learn 118 = .ok (.aload_n 0, 1) := by decide +kernel
theorem dX5_learn_119 : decode cX5_learn 119 = .ok (.getfield 30, 3) := by decide +kernel
theorem dX5_learn_122 : decode cX5_learn 122 = .ok (.getfield 65, 3) := by decide +kernel
theorem dX5_learn_125 : decode cX5_learn 125 = .ok (.iload_n 1, 1) := by decide +kernel
theorem dX5_learn_126 : decode cX5_learn 126 = .ok (.iaload, 1) := by decide +kernel
theorem dX5_learn_127 : decode cX5_learn 127 = .ok (.aload_n 0, 1) := by decide +kernel
theorem dX5_learn_128 : decode cX5_learn 128 = .ok (.getfield 30, 3) := by decide +kernel
theorem dX5_learn_131 : decode cX5_learn 131 = .ok (.getfield 68, 3) := by decide +kernel
theorem dX5_learn_134 : decode cX5_learn 134 = .ok (.iload_n 2, 1) := by decide +kernel
theorem dX5_learn_135 : decode cX5_learn 135 = .ok (.iaload, 1) := by decide +kernel
theorem dX5_learn_136 : decode cX5_learn 136 = .ok (.if_icmp .gt 7, 3) := by decide +kernel
theorem dX5_learn_139 : decode cX5_learn 139 = .ok (.iconst 1, 1) := by decide +kernel
theorem dX5_learn_140 : decode cX5_learn 140 = .ok (.goto 4, 3) := by decide +kernel
theorem dX5_learn_143 : decode cX5_learn 143 = .ok (.iconst 0, 1) := by decide +kernel
theorem dX5_learn_144 : decode cX5_learn 144 = .ok (.bastore, 1) := by decide +kernel
theorem dX5_learn_145 : decode cX5_learn 145 = .ok (.iinc 2 1, 3) := by decide +kernel
theorem dX5_learn_148 : decode cX5_learn 148 = .ok (.goto (-86), 3) := by decide +kernel
theorem dX5_learn_151 : decode cX5_learn 151 = .ok (.iinc 1 1, 3) := by decide +kernel
theorem dX5_learn_154 : decode cX5_learn 154 = .ok (.goto (-102), 3) := by decide +kernel
theorem dX5_learn_157 : decode cX5_learn 157 = .ok (.aload_n 0, 1) := by decide +kernel
theorem dX5_learn_158 : decode cX5_learn 158 = .ok (.iconst 0, 1) := by decide +kernel
theorem dX5_learn_159 : decode cX5_learn 159 = .ok (.iconst 0, 1) := by decide +kernel
theorem dX5_learn_160 : decode cX5_learn 160 = .ok (.iconst 0, 1) := by decide +kernel
theorem dX5_learn_161 : decode cX5_learn 161 = .ok (.invokestatic 71, 3) := by decide +kernel
theorem dX5_learn_164 : decode cX5_learn 164 = .ok (.aload_n 0, 1) := by decide +kernel
theorem dX5_learn_165 : decode cX5_learn 165 = .ok (.aload_n 0, 1) := by decide +kernel
theorem dX5_learn_166 : decode cX5_learn 166 = .ok (.getfield 15, 3) := by decide +kernel
theorem dX5_learn_169 : decode cX5_learn 169 = .ok (.iconst 0, 1) := by decide +kernel
theorem dX5_learn_170 : decode cX5_learn 170 = .ok (.iaload, 1) := by decide +kernel
theorem dX5_learn_171 : decode cX5_learn 171 = .ok (.putfield 75, 3) := by decide +kernel
theorem dX5_learn_174 : decode cX5_learn 174 = .ok (.iconst 1, 1) := by decide +kernel
theorem dX5_learn_175 : decode cX5_learn 175 = .ok (.istore_n 1, 1) := by decide +kernel
theorem dX5_learn_176 : decode cX5_learn 176 = .ok (.iload_n 1, 1) := by decide +kernel
theorem dX5_learn_177 : decode cX5_learn 177 = .ok (.aload_n 0, 1) := by decide +kernel
theorem dX5_learn_178 : decode cX5_learn 178 = .ok (.getfield 38, 3) := by decide +kernel
theorem dX5_learn_181 : decode cX5_learn 181 = .ok (.if_icmp .ge 26, 3) := by decide +kernel
theorem dX5_learn_184 : decode cX5_learn 184 = .ok (.aload_n 0, 1) := by decide +kernel
theorem dX5_learn_185 : decode cX5_learn 185 = .ok (.aload_n 0, 1) := by decide +kernel
theorem dX5_learn_186 : decode cX5_learn 186 = .ok (.getfield 75, 3) := by decide +kernel
theorem dX5_learn_189 : decode cX5_learn 189 = .ok (.aload_n 0, 1) := by decide +kernel
theorem dX5_learn_190 : decode cX5_learn 190 = .ok (.getfield 15, 3) := by decide +kernel
theorem dX5_learn_193 : decode cX5_learn 193 = .ok (.iload_n 1, 1) := by decide +kernel
theorem dX5_learn_194 : decode cX5_learn 194 = .ok (.iaload, 1) := by decide +kernel
theorem dX5_learn_195 : decode cX5_learn 195 = .ok (.invokestatic 78, 3) := by decide +kernel
theorem dX5_learn_198 : decode cX5_learn 198 = .ok (.putfield 75, 3) := by decide +kernel
theorem dX5_learn_201 : decode cX5_learn 201 = .ok (.iinc 1 1, 3) := by decide +kernel
theorem dX5_learn_204 : decode cX5_learn 204 = .ok (.goto (-28), 3) := by decide +kernel
theorem dX5_learn_207 : decode cX5_learn 207 = .ok (.return_, 1) := by decide +kernel
theorem dX5_makeRoom_0 : decode cX5_makeRoom 0 = .ok (.iconst 1, 1) := by decide +kernel
theorem dX5_makeRoom_1 : decode cX5_makeRoom 1 = .ok (.istore_n 2, 1) := by decide +kernel
theorem dX5_makeRoom_2 : decode cX5_makeRoom 2 = .ok (.iconst 1, 1) := by decide +kernel
theorem dX5_makeRoom_3 : decode cX5_makeRoom 3 = .ok (.istore_n 3, 1) := by decide +kernel
theorem dX5_makeRoom_4 : decode cX5_makeRoom 4 = .ok (.iload_n 3, 1) := by decide +kernel
theorem dX5_makeRoom_5 : decode cX5_makeRoom 5 = .ok (.iload_n 1, 1) := by decide +kernel
theorem dX5_makeRoom_6 : decode cX5_makeRoom 6 = .ok (.if_icmp .ge 15, 3) := by decide +kernel
theorem dX5_makeRoom_9 : decode cX5_makeRoom 9 = .ok (.iload_n 2, 1) := by decide +kernel
theorem dX5_makeRoom_10 : decode cX5_makeRoom 10 = .ok (.iload_n 1, 1) := by decide +kernel
theorem dX5_makeRoom_11 : decode cX5_makeRoom 11 = .ok (.iconst 1, 1) := by decide +kernel
theorem dX5_makeRoom_12 : decode cX5_makeRoom 12 = .ok (.iadd, 1) := by decide +kernel
theorem dX5_makeRoom_13 : decode cX5_makeRoom 13 = .ok (.imul, 1) := by decide +kernel
theorem dX5_makeRoom_14 : decode cX5_makeRoom 14 = .ok (.istore_n 2, 1) := by decide +kernel
theorem dX5_makeRoom_15 : decode cX5_makeRoom 15 = .ok (.iinc 3 1, 3) := by decide +kernel
theorem dX5_makeRoom_18 : decode cX5_makeRoom 18 = .ok (.goto (-14), 3) := by decide +kernel
theorem dX5_makeRoom_21 : decode cX5_makeRoom 21 = .ok (.aload_n 0, 1) := by decide +kernel
theorem dX5_makeRoom_22 : decode cX5_makeRoom 22 = .ok (.getfield 9, 3) := by decide +kernel
theorem dX5_makeRoom_25 : decode cX5_makeRoom 25 = .ok (.arraylength, 1) := by decide +kernel
theorem dX5_makeRoom_26 : decode cX5_makeRoom 26 = .ok (.iload_n 2, 1) := by decide +kernel
theorem dX5_makeRoom_27 : decode cX5_makeRoom 27 = .ok (.if_icmp .ge 17, 3) := by decide +kernel
theorem dX5_makeRoom_30 : decode cX5_makeRoom 30 = .ok (.aload_n 0, 1) := by decide +kernel
theorem dX5_makeRoom_31 : decode cX5_makeRoom 31 = .ok (.iload_n 2, 1) := by decide +kernel
theorem dX5_makeRoom_32 : decode cX5_makeRoom 32 = .ok (.newarray .int, 2) := by decide +kernel
theorem dX5_makeRoom_34 : decode cX5_makeRoom 34 = .ok (.putfield 9, 3) := by decide +kernel
theorem dX5_makeRoom_37 : decode cX5_makeRoom 37 = .ok (.aload_n 0, 1) := by decide +kernel
theorem dX5_makeRoom_38 : decode cX5_makeRoom 38 = .ok (.iload_n 2, 1) := by decide +kernel
theorem dX5_makeRoom_39 : decode cX5_makeRoom 39 = .ok (.newarray .int, 2) := by decide +kernel
theorem dX5_makeRoom_41 : decode cX5_makeRoom 41 = .ok (.putfield 15, 3) := by decide +kernel
theorem dX5_makeRoom_44 : decode cX5_makeRoom 44 = .ok (.return_, 1) := by decide +kernel
theorem dX5_grow_0 : decode cX5_grow 0 = .ok (.iload_n 1, 1) := by decide +kernel
theorem dX5_grow_1 : decode cX5_grow 1 = .ok (.aload_n 0, 1) := by decide +kernel
theorem dX5_grow_2 : decode cX5_grow 2 = .ok (.getfield 47, 3) := by decide +kernel
theorem dX5_grow_5 : decode cX5_grow 5 = .ok (.if_icmp .lt 10, 3) := by decide +kernel
theorem dX5_grow_8 : decode cX5_grow 8 = .ok (.aload_n 0, 1) := by decide +kernel
theorem dX5_grow_9 : decode cX5_grow 9 = .ok (.iload_n 2, 1) := by decide +kernel
theorem dX5_grow_10 : decode cX5_grow 10 = .ok (.iload_n 3, 1) := by decide +kernel
theorem dX5_grow_11 : decode cX5_grow 11 = .ok (.invokevirtual 83, 3) := by decide +kernel
theorem dX5_grow_14 : decode cX5_grow 14 = .ok (.return_, 1) := by decide +kernel
theorem dX5_grow_15 : decode cX5_grow 15 = .ok (.iconst 0, 1) := by decide +kernel
theorem dX5_grow_16 : decode cX5_grow 16 = .ok (.istore 4, 2) := by decide +kernel
theorem dX5_grow_18 : decode cX5_grow 18 = .ok (.iload 4, 2) := by decide +kernel
theorem dX5_grow_20 : decode cX5_grow 20 = .ok (.aload_n 0, 1) := by decide +kernel
theorem dX5_grow_21 : decode cX5_grow 21 = .ok (.getfield 47, 3) := by decide +kernel
theorem dX5_grow_24 : decode cX5_grow 24 = .ok (.if_icmp .ge 68, 3) := by decide +kernel
theorem dX5_grow_27 : decode cX5_grow 27 = .ok (.aload_n 0, 1) := by decide +kernel
theorem dX5_grow_28 : decode cX5_grow 28 = .ok (.getfield 26, 3) := by decide +kernel
theorem dX5_grow_31 : decode cX5_grow 31 = .ok (.iload 4, 2) := by decide +kernel
theorem dX5_grow_33 : decode cX5_grow 33 = .ok (.bipush 6, 2) := by decide +kernel
theorem dX5_grow_35 : decode cX5_grow 35 = .ok (.imul, 1) := by decide +kernel
theorem dX5_grow_36 : decode cX5_grow 36 = .ok (.iload_n 1, 1) := by decide +kernel
theorem dX5_grow_37 : decode cX5_grow 37 = .ok (.iadd, 1) := by decide +kernel
theorem dX5_grow_38 : decode cX5_grow 38 = .ok (.baload, 1) := by decide +kernel
theorem dX5_grow_39 : decode cX5_grow 39 = .ok (.ifCond .eq 47, 3) := by decide +kernel
theorem dX5_grow_42 : decode cX5_grow 42 = .ok (.aload_n 0, 1) := by decide +kernel
theorem dX5_grow_43 : decode cX5_grow 43 = .ok (.iload 4, 2) := by decide +kernel
theorem dX5_grow_45 : decode cX5_grow 45 = .ok (.iload_n 1, 1) := by decide +kernel
theorem dX5_grow_46 : decode cX5_grow 46 = .ok (.invokevirtual 87, 3) := by decide +kernel
theorem dX5_grow_49 : decode cX5_grow 49 = .ok (.ifCond .ne 37, 3) := by decide +kernel
theorem dX5_grow_52 : decode cX5_grow 52 = .ok (.aload_n 0, 1) := by decide +kernel
theorem dX5_grow_53 : decode cX5_grow 53 = .ok (.getfield 18, 3) := by decide +kernel
theorem dX5_grow_56 : decode cX5_grow 56 = .ok (.iload_n 1, 1) := by decide +kernel
theorem dX5_grow_57 : decode cX5_grow 57 = .ok (.iload 4, 2) := by decide +kernel
theorem dX5_grow_59 : decode cX5_grow 59 = .ok (.iastore, 1) := by decide +kernel
theorem dX5_grow_60 : decode cX5_grow 60 = .ok (.aload_n 0, 1) := by decide +kernel
theorem dX5_grow_61 : decode cX5_grow 61 = .ok (.iload_n 1, 1) := by decide +kernel
theorem dX5_grow_62 : decode cX5_grow 62 = .ok (.iconst 1, 1) := by decide +kernel
theorem dX5_grow_63 : decode cX5_grow 63 = .ok (.iadd, 1) := by decide +kernel
theorem dX5_grow_64 : decode cX5_grow 64 = .ok (.iload_n 2, 1) := by decide +kernel
theorem dX5_grow_65 : decode cX5_grow 65 = .ok (.iload 4, 2) := by decide +kernel
theorem dX5_grow_67 : decode cX5_grow 67 = .ok (.iconst 4, 1) := by decide +kernel
theorem dX5_grow_68 : decode cX5_grow 68 = .ok (.iload_n 1, 1) := by decide +kernel
theorem dX5_grow_69 : decode cX5_grow 69 = .ok (.imul, 1) := by decide +kernel
theorem dX5_grow_70 : decode cX5_grow 70 = .ok (.ishl, 1) := by decide +kernel
theorem dX5_grow_71 : decode cX5_grow 71 = .ok (.ior, 1) := by decide +kernel
theorem dX5_grow_72 : decode cX5_grow 72 = .ok (.iload_n 3, 1) := by decide +kernel
theorem dX5_grow_73 : decode cX5_grow 73 = .ok (.aload_n 0, 1) := by decide +kernel
theorem dX5_grow_74 : decode cX5_grow 74 = .ok (.getfield 23, 3) := by decide +kernel
theorem dX5_grow_77 : decode cX5_grow 77 = .ok (.iload 4, 2) := by decide +kernel
theorem dX5_grow_79 : decode cX5_grow 79 = .ok (.aaload, 1) := by decide +kernel
theorem dX5_grow_80 : decode cX5_grow 80 = .ok (.iload_n 1, 1) := by decide +kernel
theorem dX5_grow_81 : decode cX5_grow 81 = .ok (.iaload, 1) := by decide +kernel
theorem dX5_grow_82 : decode cX5_grow 82 = .ok (.iadd, 1) := by decide +kernel
theorem dX5_grow_83 : decode cX5_grow 83 = .ok (.invokestatic 71, 3) := by decide +kernel
theorem dX5_grow_86 : decode cX5_grow 86 = .ok (.iinc 4 1, 3) := by decide +kernel
theorem dX5_grow_89 : decode cX5_grow 89 = .ok (.goto (-71), 3) := by decide +kernel
theorem dX5_grow_92 : decode cX5_grow 92 = .ok (.aload_n 0, 1) := by decide +kernel
theorem dX5_grow_93 : decode cX5_grow 93 = .ok (.getfield 18, 3) := by decide +kernel
theorem dX5_grow_96 : decode cX5_grow 96 = .ok (.iload_n 1, 1) := by decide +kernel
theorem dX5_grow_97 : decode cX5_grow 97 = .ok (.bipush 9, 2) := by decide +kernel
theorem dX5_grow_99 : decode cX5_grow 99 = .ok (.iastore, 1) := by decide +kernel
theorem dX5_grow_100 : decode cX5_grow 100 = .ok (.aload_n 0, 1) := by decide +kernel
theorem dX5_grow_101 : decode cX5_grow 101 = .ok (.iload_n 1, 1) := by decide +kernel
theorem dX5_grow_102 : decode cX5_grow 102 = .ok (.iconst 1, 1) := by decide +kernel
theorem dX5_grow_103 : decode cX5_grow 103 = .ok (.iadd, 1) := by decide +kernel
theorem dX5_grow_104 : decode cX5_grow 104 = .ok (.iload_n 2, 1) := by decide +kernel
theorem dX5_grow_105 : decode cX5_grow 105 = .ok (.bipush 9, 2) := by decide +kernel
theorem dX5_grow_107 : decode cX5_grow 107 = .ok (.iconst 4, 1) := by decide +kernel
theorem dX5_grow_108 : decode cX5_grow 108 = .ok (.iload_n 1, 1) := by decide +kernel
theorem dX5_grow_109 : decode cX5_grow 109 = .ok (.imul, 1) := by decide +kernel
theorem dX5_grow_110 : decode cX5_grow 110 = .ok (.ishl, 1) := by decide +kernel
theorem dX5_grow_111 : decode cX5_grow 111 = .ok (.ior, 1) := by decide +kernel
theorem dX5_grow_112 : decode cX5_grow 112 = .ok (.iload_n 3, 1) := by decide +kernel
theorem dX5_grow_113 : decode cX5_grow 113 = .ok (.aload_n 0, 1) := by decide +kernel
theorem dX5_grow_114 : decode cX5_grow 114 = .ok (.getfield 51, 3) := by decide +kernel
theorem dX5_grow_117 : decode cX5_grow 117 = .ok (.iadd, 1) := by decide +kernel
theorem dX5_grow_118 : decode cX5_grow 118 = .ok (.invokestatic 71, 3) := by decide +kernel
theorem dX5_grow_121 : decode cX5_grow 121 = .ok (.return_, 1) := by decide +kernel
theorem dX5_put_0 : decode cX5_put 0 = .ok (.aload_n 0, 1) := by decide +kernel
theorem dX5_put_1 : decode cX5_put 1 = .ok (.getfield 38, 3) := by decide +kernel
theorem dX5_put_4 : decode cX5_put 4 = .ok (.aload_n 0, 1) := by decide +kernel
theorem dX5_put_5 : decode cX5_put 5 = .ok (.getfield 9, 3) := by decide +kernel
theorem dX5_put_8 : decode cX5_put 8 = .ok (.arraylength, 1) := by decide +kernel
theorem dX5_put_9 : decode cX5_put 9 = .ok (.if_icmp .ge 45, 3) := by decide +kernel
theorem dX5_put_12 : decode cX5_put 12 = .ok (.aload_n 0, 1) := by decide +kernel
theorem dX5_put_13 : decode cX5_put 13 = .ok (.getfield 38, 3) := by decide +kernel
theorem dX5_put_16 : decode cX5_put 16 = .ok (.aload_n 0, 1) := by decide +kernel
theorem dX5_put_17 : decode cX5_put 17 = .ok (.getfield 15, 3) := by decide +kernel
theorem dX5_put_20 : decode cX5_put 20 = .ok (.arraylength, 1) := by decide +kernel
theorem dX5_put_21 : decode cX5_put 21 = .ok (.if_icmp .ge 33, 3) := by decide +kernel
theorem dX5_put_24 : decode cX5_put 24 = .ok (.aload_n 0, 1) := by decide +kernel
theorem dX5_put_25 : decode cX5_put 25 = .ok (.getfield 9, 3) := by decide +kernel
theorem dX5_put_28 : decode cX5_put 28 = .ok (.aload_n 0, 1) := by decide +kernel
theorem dX5_put_29 : decode cX5_put 29 = .ok (.getfield 38, 3) := by decide +kernel
theorem dX5_put_32 : decode cX5_put 32 = .ok (.iload_n 1, 1) := by decide +kernel
theorem dX5_put_33 : decode cX5_put 33 = .ok (.iastore, 1) := by decide +kernel
theorem dX5_put_34 : decode cX5_put 34 = .ok (.aload_n 0, 1) := by decide +kernel
theorem dX5_put_35 : decode cX5_put 35 = .ok (.getfield 15, 3) := by decide +kernel
theorem dX5_put_38 : decode cX5_put 38 = .ok (.aload_n 0, 1) := by decide +kernel
theorem dX5_put_39 : decode cX5_put 39 = .ok (.getfield 38, 3) := by decide +kernel
theorem dX5_put_42 : decode cX5_put 42 = .ok (.iload_n 2, 1) := by decide +kernel
theorem dX5_put_43 : decode cX5_put 43 = .ok (.iastore, 1) := by decide +kernel
theorem dX5_put_44 : decode cX5_put 44 = .ok (.aload_n 0, 1) := by decide +kernel
theorem dX5_put_45 : decode cX5_put 45 = .ok (.dup, 1) := by decide +kernel
theorem dX5_put_46 : decode cX5_put 46 = .ok (.getfield 38, 3) := by decide +kernel
theorem dX5_put_49 : decode cX5_put 49 = .ok (.iconst 1, 1) := by decide +kernel
theorem dX5_put_50 : decode cX5_put 50 = .ok (.iadd, 1) := by decide +kernel
theorem dX5_put_51 : decode cX5_put 51 = .ok (.putfield 38, 3) := by decide +kernel
theorem dX5_put_54 : decode cX5_put 54 = .ok (.return_, 1) := by decide +kernel
theorem dX5_comesFrom_0 : decode cX5_comesFrom 0 = .ok (.iload_n 1, 1) := by decide +kernel
theorem dX5_comesFrom_1 : decode cX5_comesFrom 1 = .ok (.istore_n 3, 1) := by decide +kernel
theorem dX5_comesFrom_2 : decode cX5_comesFrom 2 = .ok (.iconst 0, 1) := by decide +kernel
theorem dX5_comesFrom_3 : decode cX5_comesFrom 3 = .ok (.istore 4, 2) := by decide +kernel
theorem dX5_comesFrom_5 : decode cX5_comesFrom 5 = .ok (.iload 4, 2) := by decide +kernel
theorem dX5_comesFrom_7 : decode cX5_comesFrom 7 = .ok (.aload_n 0, 1) := by decide +kernel
theorem dX5_comesFrom_8 : decode cX5_comesFrom 8 = .ok (.getfield 47, 3) := by decide +kernel
theorem dX5_comesFrom_11 : decode cX5_comesFrom 11 = .ok (.if_icmp .ge 21, 3) := by decide +kernel
theorem dX5_comesFrom_14 : decode cX5_comesFrom 14 = .ok (.iload_n 3, 1) := by decide +kernel
theorem dX5_comesFrom_15 : decode cX5_comesFrom 15 = .ok (.iload_n 2, 1) := by decide +kernel
theorem dX5_comesFrom_16 : decode cX5_comesFrom 16 = .ok (.if_icmp .ge 16, 3) := by decide +kernel
theorem dX5_comesFrom_19 : decode cX5_comesFrom 19 = .ok (.aload_n 0, 1) := by decide +kernel
theorem dX5_comesFrom_20 : decode cX5_comesFrom 20 = .ok (.getfield 18, 3) := by decide +kernel
theorem dX5_comesFrom_23 : decode cX5_comesFrom 23 = .ok (.iload_n 3, 1) := by decide +kernel
theorem dX5_comesFrom_24 : decode cX5_comesFrom 24 = .ok (.iaload, 1) := by decide +kernel
theorem dX5_comesFrom_25 : decode cX5_comesFrom 25 = .ok (.istore_n 3, 1) := by decide +kernel
theorem dX5_comesFrom_26 : decode cX5_comesFrom 26 = .ok (.iinc 4 1, 3) := by decide +kernel
theorem dX5_comesFrom_29 : decode cX5_comesFrom 29 = .ok (.goto (-24), 3) := by decide +kernel
theorem dX5_comesFrom_32 : decode cX5_comesFrom 32 = .ok (.iload_n 3, 1) := by decide +kernel
theorem dX5_comesFrom_33 : decode cX5_comesFrom 33 = .ok (.iload_n 2, 1) := by decide +kernel
theorem dX5_comesFrom_34 : decode cX5_comesFrom 34 = .ok (.if_icmp .ne 7, 3) := by decide +kernel
theorem dX5_comesFrom_37 : decode cX5_comesFrom 37 = .ok (.iconst 1, 1) := by decide +kernel
theorem dX5_comesFrom_38 : decode cX5_comesFrom 38 = .ok (.goto 4, 3) := by decide +kernel
theorem dX5_comesFrom_41 : decode cX5_comesFrom 41 = .ok (.iconst 0, 1) := by decide +kernel
theorem dX5_comesFrom_42 : decode cX5_comesFrom 42 = .ok (.ireturn, 1) := by decide +kernel
theorem dX5_sourceIn_0 : decode cX5_sourceIn 0 = .ok (.iload_n 0, 1) := by decide +kernel
theorem dX5_sourceIn_1 : decode cX5_sourceIn 1 = .ok (.iconst 4, 1) := by decide +kernel
theorem dX5_sourceIn_2 : decode cX5_sourceIn 2 = .ok (.iload_n 1, 1) := by decide +kernel
theorem dX5_sourceIn_3 : decode cX5_sourceIn 3 = .ok (.imul, 1) := by decide +kernel
theorem dX5_sourceIn_4 : decode cX5_sourceIn 4 = .ok (.ishr, 1) := by decide +kernel
theorem dX5_sourceIn_5 : decode cX5_sourceIn 5 = .ok (.bipush 15, 2) := by decide +kernel
theorem dX5_sourceIn_7 : decode cX5_sourceIn 7 = .ok (.iand, 1) := by decide +kernel
theorem dX5_sourceIn_8 : decode cX5_sourceIn 8 = .ok (.ireturn, 1) := by decide +kernel
theorem dX5_countWithin_0 : decode cX5_countWithin 0 = .ok (.iconst 0, 1) := by decide +kernel
theorem dX5_countWithin_1 : decode cX5_countWithin 1 = .ok (.istore_n 2, 1) := by decide +kernel
theorem dX5_countWithin_2 : decode cX5_countWithin 2 = .ok (.iconst 0, 1) := by decide +kernel
theorem dX5_countWithin_3 : decode cX5_countWithin 3 = .ok (.istore_n 3, 1) := by decide +kernel
theorem dX5_countWithin_4 : decode cX5_countWithin 4 = .ok (.iload_n 3, 1) := by decide +kernel
theorem dX5_countWithin_5 : decode cX5_countWithin 5 = .ok (.aload_n 0, 1) := by decide +kernel
theorem dX5_countWithin_6 : decode cX5_countWithin 6 = .ok (.getfield 38, 3) := by decide +kernel
theorem dX5_countWithin_9 : decode cX5_countWithin 9 = .ok (.if_icmp .ge 27, 3) := by decide +kernel
theorem dX5_countWithin_12 : decode cX5_countWithin 12 = .ok (.aload_n 0, 1) := by decide +kernel
theorem dX5_countWithin_13 : decode cX5_countWithin 13 = .ok (.getfield 15, 3) := by decide +kernel
theorem dX5_countWithin_16 : decode cX5_countWithin 16 = .ok (.iload_n 3, 1) := by decide +kernel
theorem dX5_countWithin_17 : decode cX5_countWithin 17 = .ok (.iaload, 1) := by decide +kernel
theorem dX5_countWithin_18 : decode cX5_countWithin 18 = .ok (.aload_n 0, 1) := by decide +kernel
theorem dX5_countWithin_19 : decode cX5_countWithin 19 = .ok (.getfield 75, 3) := by decide +kernel
theorem dX5_countWithin_22 : decode cX5_countWithin 22 = .ok (.iload_n 1, 1) := by decide +kernel
theorem dX5_countWithin_23 : decode cX5_countWithin 23 = .ok (.iadd, 1) := by decide +kernel
theorem dX5_countWithin_24 : decode cX5_countWithin 24 = .ok (.if_icmp .gt 6, 3) := by decide +kernel
theorem dX5_countWithin_27 : decode cX5_countWithin 27 = .ok (.iinc 2 1, 3) := by decide +kernel
theorem dX5_countWithin_30 : decode cX5_countWithin 30 = .ok (.iinc 3 1, 3) := by decide +kernel
theorem dX5_countWithin_33 : decode cX5_countWithin 33 = .ok (.goto (-29), 3) := by decide +kernel
theorem dX5_countWithin_36 : decode cX5_countWithin 36 = .ok (.iload_n 2, 1) := by decide +kernel
theorem dX5_countWithin_37 : decode cX5_countWithin 37 = .ok (.ireturn, 1) := by decide +kernel
theorem dX5_placeOfKept_0 : decode cX5_placeOfKept 0 = .ok (.iconst 0, 1) := by decide +kernel
theorem dX5_placeOfKept_1 : decode cX5_placeOfKept 1 = .ok (.istore_n 3, 1) := by decide +kernel
theorem dX5_placeOfKept_2 : decode cX5_placeOfKept 2 = .ok (.iconst 0, 1) := by decide +kernel
theorem dX5_placeOfKept_3 : decode cX5_placeOfKept 3 = .ok (.istore 4, 2) := by decide +kernel
theorem dX5_placeOfKept_5 : decode cX5_placeOfKept 5 = .ok (.iload 4, 2) := by decide +kernel
theorem dX5_placeOfKept_7 : decode cX5_placeOfKept 7 = .ok (.aload_n 0, 1) := by decide +kernel
theorem dX5_placeOfKept_8 : decode cX5_placeOfKept 8 = .ok (.getfield 38, 3) := by decide +kernel
theorem dX5_placeOfKept_11 : decode cX5_placeOfKept 11 = .ok (.if_icmp .ge 36, 3) := by decide +kernel
theorem dX5_placeOfKept_14 : decode cX5_placeOfKept 14 = .ok (.aload_n 0, 1) := by decide +kernel
theorem dX5_placeOfKept_15 : decode cX5_placeOfKept 15 = .ok (.getfield 15, 3) := by decide +kernel
theorem dX5_placeOfKept_18 : decode cX5_placeOfKept 18 = .ok (.iload 4, 2) := by decide +kernel
theorem dX5_placeOfKept_20 : decode cX5_placeOfKept 20 = .ok (.iaload, 1) := by decide +kernel
theorem dX5_placeOfKept_21 : decode cX5_placeOfKept 21 = .ok (.aload_n 0, 1) := by decide +kernel
theorem dX5_placeOfKept_22 : decode cX5_placeOfKept 22 = .ok (.getfield 75, 3) := by decide +kernel
theorem dX5_placeOfKept_25 : decode cX5_placeOfKept 25 = .ok (.iload_n 1, 1) := by decide +kernel
theorem dX5_placeOfKept_26 : decode cX5_placeOfKept 26 = .ok (.iadd, 1) := by decide +kernel
theorem dX5_placeOfKept_27 : decode cX5_placeOfKept 27 = .ok (.if_icmp .gt 14, 3) := by decide +kernel
theorem dX5_placeOfKept_30 : decode cX5_placeOfKept 30 = .ok (.iload_n 3, 1) := by decide +kernel
theorem dX5_placeOfKept_31 : decode cX5_placeOfKept 31 = .ok (.iload_n 2, 1) := by decide +kernel
theorem dX5_placeOfKept_32 : decode cX5_placeOfKept 32 = .ok (.if_icmp .ne 6, 3) := by decide +kernel
theorem dX5_placeOfKept_35 : decode cX5_placeOfKept 35 = .ok (.iload 4, 2) := by decide +kernel
theorem dX5_placeOfKept_37 : decode cX5_placeOfKept 37 = .ok (.ireturn, 1) := by decide +kernel
theorem dX5_placeOfKept_38 : decode cX5_placeOfKept 38 = .ok (.iinc 3 1, 3) := by decide +kernel
theorem dX5_placeOfKept_41 : decode cX5_placeOfKept 41 = .ok (.iinc 4 1, 3) := by decide +kernel
theorem dX5_placeOfKept_44 : decode cX5_placeOfKept 44 = .ok (.goto (-39), 3) := by decide +kernel
theorem dX5_placeOfKept_47 : decode cX5_placeOfKept 47 = .ok (.bipush (-6), 2) := by decide +kernel
theorem dX5_placeOfKept_49 : decode cX5_placeOfKept 49 = .ok (.ireturn, 1) := by decide +kernel
theorem dX5_alwaysFrom_0 : decode cX5_alwaysFrom 0 = .ok (.iconst 1, 1) := by decide +kernel
theorem dX5_alwaysFrom_1 : decode cX5_alwaysFrom 1 = .ok (.aload_n 0, 1) := by decide +kernel
theorem dX5_alwaysFrom_2 : decode cX5_alwaysFrom 2 = .ok (.getfield 47, 3) := by decide +kernel
theorem dX5_alwaysFrom_5 : decode cX5_alwaysFrom 5 = .ok (.ishl, 1) := by decide +kernel
theorem dX5_alwaysFrom_6 : decode cX5_alwaysFrom 6 = .ok (.iconst 1, 1) := by decide +kernel
theorem dX5_alwaysFrom_7 : decode cX5_alwaysFrom 7 = .ok (.isub, 1) := by decide +kernel
theorem dX5_alwaysFrom_8 : decode cX5_alwaysFrom 8 = .ok (.istore_n 3, 1) := by decide +kernel
theorem dX5_alwaysFrom_9 : decode cX5_alwaysFrom 9 = .ok (.iconst 0, 1) := by decide +kernel
theorem dX5_alwaysFrom_10 : decode cX5_alwaysFrom 10 = .ok (.istore 4, 2) := by decide +kernel
theorem dX5_alwaysFrom_12 : decode cX5_alwaysFrom 12 = .ok (.iload 4, 2) := by decide +kernel
theorem dX5_alwaysFrom_14 : decode cX5_alwaysFrom 14 = .ok (.aload_n 0, 1) := by decide +kernel
theorem dX5_alwaysFrom_15 : decode cX5_alwaysFrom 15 = .ok (.getfield 38, 3) := by decide +kernel
theorem dX5_alwaysFrom_18 : decode cX5_alwaysFrom 18 = .ok (.if_icmp .ge 44, 3) := by decide +kernel
theorem dX5_alwaysFrom_21 : decode cX5_alwaysFrom 21 = .ok (.iload_n 3, 1) := by decide +kernel
theorem dX5_alwaysFrom_22 : decode cX5_alwaysFrom 22 = .ok (.ifCond .eq 40, 3) := by decide +kernel
theorem dX5_alwaysFrom_25 : decode cX5_alwaysFrom 25 = .ok (.aload_n 0, 1) := by decide +kernel
theorem dX5_alwaysFrom_26 : decode cX5_alwaysFrom 26 = .ok (.getfield 15, 3) := by decide +kernel
theorem dX5_alwaysFrom_29 : decode cX5_alwaysFrom 29 = .ok (.iload 4, 2) := by decide +kernel
theorem dX5_alwaysFrom_31 : decode cX5_alwaysFrom 31 = .ok (.iaload, 1) := by decide +kernel
theorem dX5_alwaysFrom_32 : decode cX5_alwaysFrom 32 = .ok (.aload_n 0, 1) := by decide +kernel
theorem dX5_alwaysFrom_33 : decode cX5_alwaysFrom 33 = .ok (.getfield 75, 3) := by decide +kernel
theorem dX5_alwaysFrom_36 : decode cX5_alwaysFrom 36 = .ok (.iload_n 1, 1) := by decide +kernel
theorem dX5_alwaysFrom_37 : decode cX5_alwaysFrom 37 = .ok (.iadd, 1) := by decide +kernel
theorem dX5_alwaysFrom_38 : decode cX5_alwaysFrom 38 = .ok (.if_icmp .gt 18, 3) := by decide +kernel
theorem dX5_alwaysFrom_41 : decode cX5_alwaysFrom 41 = .ok (.iload_n 3, 1) := by decide +kernel
theorem dX5_alwaysFrom_42 : decode cX5_alwaysFrom 42 = .ok (.aload_n 0, 1) := by decide +kernel
theorem dX5_alwaysFrom_43 : decode cX5_alwaysFrom 43 = .ok (.aload_n 0, 1) := by decide +kernel
theorem dX5_alwaysFrom_44 : decode cX5_alwaysFrom 44 = .ok (.getfield 9, 3) := by decide +kernel
theorem dX5_alwaysFrom_47 : decode cX5_alwaysFrom 47 = .ok (.iload 4, 2) := by decide +kernel
theorem dX5_alwaysFrom_49 : decode cX5_alwaysFrom 49 = .ok (.iaload, 1) := by decide +kernel
theorem dX5_alwaysFrom_50 : decode cX5_alwaysFrom 50 = .ok (.iload_n 2, 1) := by decide +kernel
theorem dX5_alwaysFrom_51 : decode cX5_alwaysFrom 51 = .ok (.invokevirtual 91, 3) := by decide +kernel
theorem dX5_alwaysFrom_54 : decode cX5_alwaysFrom 54 = .ok (.iand, 1) := by decide +kernel
theorem dX5_alwaysFrom_55 : decode cX5_alwaysFrom 55 = .ok (.istore_n 3, 1) := by decide +kernel
theorem dX5_alwaysFrom_56 : decode cX5_alwaysFrom 56 = .ok (.iinc 4 1, 3) := by decide +kernel
theorem dX5_alwaysFrom_59 : decode cX5_alwaysFrom 59 = .ok (.goto (-47), 3) := by decide +kernel
theorem dX5_alwaysFrom_62 : decode cX5_alwaysFrom 62 = .ok (.iload_n 3, 1) := by decide +kernel
theorem dX5_alwaysFrom_63 : decode cX5_alwaysFrom 63 = .ok (.ireturn, 1) := by decide +kernel
theorem dX5_tracedFrom_0 : decode cX5_tracedFrom 0 = .ok (.iconst 0, 1) := by decide +kernel
theorem dX5_tracedFrom_1 : decode cX5_tracedFrom 1 = .ok (.istore_n 3, 1) := by decide +kernel
theorem dX5_tracedFrom_2 : decode cX5_tracedFrom 2 = .ok (.iconst 0, 1) := by decide +kernel
theorem dX5_tracedFrom_3 : decode cX5_tracedFrom 3 = .ok (.istore 4, 2) := by decide +kernel
theorem dX5_tracedFrom_5 : decode cX5_tracedFrom 5 = .ok (.iload 4, 2) := by decide +kernel
theorem dX5_tracedFrom_7 : decode cX5_tracedFrom 7 = .ok (.aload_n 0, 1) := by decide +kernel
theorem dX5_tracedFrom_8 : decode cX5_tracedFrom 8 = .ok (.getfield 47, 3) := by decide +kernel
theorem dX5_tracedFrom_11 : decode cX5_tracedFrom 11 = .ok (.if_icmp .ge 26, 3) := by decide +kernel
theorem dX5_tracedFrom_14 : decode cX5_tracedFrom 14 = .ok (.iload_n 1, 1) := by decide +kernel
theorem dX5_tracedFrom_15 : decode cX5_tracedFrom 15 = .ok (.iload 4, 2) := by decide +kernel
theorem dX5_tracedFrom_17 : decode cX5_tracedFrom 17 = .ok (.invokestatic 94, 3) := by decide +kernel
theorem dX5_tracedFrom_20 : decode cX5_tracedFrom 20 = .ok (.iload_n 2, 1) := by decide +kernel
theorem dX5_tracedFrom_21 : decode cX5_tracedFrom 21 = .ok (.if_icmp .ne 10, 3) := by decide +kernel
theorem dX5_tracedFrom_24 : decode cX5_tracedFrom 24 = .ok (.iload_n 3, 1) := by decide +kernel
theorem dX5_tracedFrom_25 : decode cX5_tracedFrom 25 = .ok (.iconst 1, 1) := by decide +kernel
theorem dX5_tracedFrom_26 : decode cX5_tracedFrom 26 = .ok (.iload 4, 2) := by decide +kernel
theorem dX5_tracedFrom_28 : decode cX5_tracedFrom 28 = .ok (.ishl, 1) := by decide +kernel
theorem dX5_tracedFrom_29 : decode cX5_tracedFrom 29 = .ok (.ior, 1) := by decide +kernel
theorem dX5_tracedFrom_30 : decode cX5_tracedFrom 30 = .ok (.istore_n 3, 1) := by decide +kernel
theorem dX5_tracedFrom_31 : decode cX5_tracedFrom 31 = .ok (.iinc 4 1, 3) := by decide +kernel
theorem dX5_tracedFrom_34 : decode cX5_tracedFrom 34 = .ok (.goto (-29), 3) := by decide +kernel
theorem dX5_tracedFrom_37 : decode cX5_tracedFrom 37 = .ok (.iload_n 3, 1) := by decide +kernel
theorem dX5_tracedFrom_38 : decode cX5_tracedFrom 38 = .ok (.ireturn, 1) := by decide +kernel
theorem dX6_init_0 : decode cX6_init 0 = .ok (.aload_n 0, 1) := by decide +kernel
theorem dX6_init_1 : decode cX6_init 1 = .ok (.invokespecial 1, 3) := by decide +kernel
theorem dX6_init_4 : decode cX6_init 4 = .ok (.aload_n 0, 1) := by decide +kernel
theorem dX6_init_5 : decode cX6_init 5 = .ok (.new 7, 3) := by decide +kernel
theorem dX6_init_8 : decode cX6_init 8 = .ok (.dup, 1) := by decide +kernel
theorem dX6_init_9 : decode cX6_init 9 = .ok (.invokespecial 9, 3) := by decide +kernel
theorem dX6_init_12 : decode cX6_init 12 = .ok (.putfield 10, 3) := by decide +kernel
theorem dX6_init_15 : decode cX6_init 15 = .ok (.aload_n 0, 1) := by decide +kernel
theorem dX6_init_16 : decode cX6_init 16 = .ok (.iconst 2, 1) := by decide +kernel
theorem dX6_init_17 : decode cX6_init 17 = .ok (.anewarray 7, 3) := by decide +kernel
theorem dX6_init_20 : decode cX6_init 20 = .ok (.putfield 16, 3) := by decide +kernel
theorem dX6_init_23 : decode cX6_init 23 = .ok (.aload_n 0, 1) := by decide +kernel
theorem dX6_init_24 : decode cX6_init 24 = .ok (.new 20, 3) := by decide +kernel
theorem dX6_init_27 : decode cX6_init 27 = .ok (.dup, 1) := by decide +kernel
theorem dX6_init_28 : decode cX6_init 28 = .ok (.invokespecial 22, 3) := by decide +kernel
theorem dX6_init_31 : decode cX6_init 31 = .ok (.putfield 23, 3) := by decide +kernel
theorem dX6_init_34 : decode cX6_init 34 = .ok (.aload_n 0, 1) := by decide +kernel
theorem dX6_init_35 : decode cX6_init 35 = .ok (.new 27, 3) := by decide +kernel
theorem dX6_init_38 : decode cX6_init 38 = .ok (.dup, 1) := by decide +kernel
theorem dX6_init_39 : decode cX6_init 39 = .ok (.aload_n 0, 1) := by decide +kernel
theorem dX6_init_40 : decode cX6_init 40 = .ok (.getfield 10, 3) := by decide +kernel
theorem dX6_init_43 : decode cX6_init 43 = .ok (.invokespecial 29, 3) := by decide +kernel
theorem dX6_init_46 : decode cX6_init 46 = .ok (.putfield 32, 3) := by decide +kernel
theorem dX6_init_49 : decode cX6_init 49 = .ok (.aload_n 0, 1) := by decide +kernel
theorem dX6_init_50 : decode cX6_init 50 = .ok (.new 36, 3) := by decide +kernel
theorem dX6_init_53 : decode cX6_init 53 = .ok (.dup, 1) := by decide +kernel
theorem dX6_init_54 : decode cX6_init 54 = .ok (.aload_n 0, 1) := by decide +kernel
theorem dX6_init_55 : decode cX6_init 55 = .ok (.getfield 10, 3) := by decide +kernel
theorem dX6_init_58 : decode cX6_init 58 = .ok (.invokespecial 38, 3) := by decide +kernel
theorem dX6_init_61 : decode cX6_init 61 = .ok (.putfield 39, 3) := by decide +kernel
theorem dX6_init_64 : decode cX6_init 64 = .ok (.aload_n 0, 1) := by decide +kernel
theorem dX6_init_65 : decode cX6_init 65 = .ok (.new 43, 3) := by decide +kernel
theorem dX6_init_68 : decode cX6_init 68 = .ok (.dup, 1) := by decide +kernel
theorem dX6_init_69 : decode cX6_init 69 = .ok (.aload_n 0, 1) := by decide +kernel
theorem dX6_init_70 : decode cX6_init 70 = .ok (.getfield 10, 3) := by decide +kernel
theorem dX6_init_73 : decode cX6_init 73 = .ok (.invokespecial 45, 3) := by decide +kernel
theorem dX6_init_76 : decode cX6_init 76 = .ok (.putfield 46, 3) := by decide +kernel
theorem dX6_init_79 : decode cX6_init 79 = .ok (.aload_n 0, 1) := by decide +kernel
theorem dX6_init_80 : decode cX6_init 80 = .ok (.new 50, 3) := by decide +kernel
theorem dX6_init_83 : decode cX6_init 83 = .ok (.dup, 1) := by decide +kernel
theorem dX6_init_84 : decode cX6_init 84 = .ok (.invokespecial 52, 3) := by decide +kernel
theorem dX6_init_87 : decode cX6_init 87 = .ok (.putfield 53, 3) := by decide +kernel
theorem dX6_init_90 : decode cX6_init 90 = .ok (.return_, 1) := by decide +kernel
theorem dX6_picture_0 : decode cX6_picture 0 = .ok (.iload_n 1, 1) := by decide +kernel
theorem dX6_picture_1 : decode cX6_picture 1 = .ok (.invokestatic 57, 3) := by decide +kernel
theorem dX6_picture_4 : decode cX6_picture 4 = .ok (.ifCond .eq 14, 3) := by decide +kernel
theorem dX6_picture_7 : decode cX6_picture 7 = .ok (.iload_n 2, 1) := by decide +kernel
theorem dX6_picture_8 : decode cX6_picture 8 = .ok (.iload_n 3, 1) := by decide +kernel
theorem dX6_picture_9 : decode cX6_picture 9 = .ok (.iconst 0, 1) := by decide +kernel
theorem dX6_picture_10 : decode cX6_picture 10 = .ok (.bipush 99, 2) := by decide +kernel
theorem dX6_picture_12 : decode cX6_picture 12 = .ok (.invokestatic 61, 3) := by decide +kernel
theorem dX6_picture_15 : decode cX6_picture 15 = .ok (.ifCond .ne 6, 3) := by decide +kernel
theorem dX6_picture_18 : decode cX6_picture 18 = .ok (.bipush (-2), 2) := by decide +kernel
theorem dX6_picture_20 : decode cX6_picture 20 = .ok (.ireturn, 1) := by decide +kernel
theorem dX6_picture_21 : decode cX6_picture 21 = .ok (.aload_n 0, 1) := by decide +kernel
theorem dX6_picture_22 : decode cX6_picture 22 = .ok (.getfield 10, 3) := by decide +kernel
theorem dX6_picture_25 : decode cX6_picture 25 = .ok (.getfield 65, 3) := by decide +kernel
theorem dX6_picture_28 : decode cX6_picture 28 = .ok (.bipush 6, 2) := by decide +kernel
theorem dX6_picture_30 : decode cX6_picture 30 = .ok (.if_icmp .lt 6, 3) := by decide +kernel
theorem dX6_picture_33 : decode cX6_picture 33 = .ok (.bipush (-4), 2) := by decide +kernel
theorem dX6_picture_35 : decode cX6_picture 35 = .ok (.ireturn, 1) := by decide +kernel
theorem dX6_picture_36 : decode cX6_picture 36 = .ok (.aload_n 0, 1) := by decide +kernel
theorem dX6_picture_37 : decode cX6_picture 37 = .ok (.getfield 32, 3) := by decide +kernel
theorem dX6_picture_40 : decode cX6_picture 40 = .ok (.invokevirtual 69, 3) := by decide +kernel
theorem dX6_picture_43 : decode cX6_picture 43 = .ok (.aload_n 0, 1) := by decide +kernel
theorem dX6_picture_44 : decode cX6_picture 44 = .ok (.getfield 10, 3) := by decide +kernel
theorem dX6_picture_47 : decode cX6_picture 47 = .ok (.iload_n 1, 1) := by decide +kernel
theorem dX6_picture_48 : decode cX6_picture 48 = .ok (.iload_n 2, 1) := by decide +kernel
theorem dX6_picture_49 : decode cX6_picture 49 = .ok (.iload_n 3, 1) := by decide +kernel
theorem dX6_picture_50 : decode cX6_picture 50 = .ok (.invokevirtual 72, 3) := by decide +kernel
theorem dX6_picture_53 : decode cX6_picture 53 = .ok (.ireturn, 1) := by decide +kernel
theorem dX6_about_0 : decode cX6_about 0 = .ok (.aload_n 0, 1) := by decide +kernel
theorem dX6_about_1 : decode cX6_about 1 = .ok (.getfield 10, 3) := by decide +kernel
theorem dX6_about_4 : decode cX6_about 4 = .ok (.iload_n 1, 1) := by decide +kernel
theorem dX6_about_5 : decode cX6_about 5 = .ok (.invokevirtual 76, 3) := by decide +kernel
theorem dX6_about_8 : decode cX6_about 8 = .ok (.ifCond .ne 5, 3) := by decide +kernel
theorem dX6_about_11 : decode cX6_about 11 = .ok (.iconst (-1), 1) := by decide +kernel
theorem dX6_about_12 : decode cX6_about 12 = .ok (.ireturn, 1) := by decide +kernel
theorem dX6_about_13 : decode cX6_about 13 = .ok (.iload_n 2, 1) := by decide +kernel
theorem dX6_about_14 : decode cX6_about 14 = .ok (.tableswitch 69 0 3 #[30, 40, 50, 60], 30) := by decide +kernel
theorem dX6_about_44 : decode cX6_about 44 = .ok (.aload_n 0, 1) := by decide +kernel
theorem dX6_about_45 : decode cX6_about 45 = .ok (.getfield 10, 3) := by decide +kernel
theorem dX6_about_48 : decode cX6_about 48 = .ok (.getfield 79, 3) := by decide +kernel
theorem dX6_about_51 : decode cX6_about 51 = .ok (.iload_n 1, 1) := by decide +kernel
theorem dX6_about_52 : decode cX6_about 52 = .ok (.iaload, 1) := by decide +kernel
theorem dX6_about_53 : decode cX6_about 53 = .ok (.ireturn, 1) := by decide +kernel
theorem dX6_about_54 : decode cX6_about 54 = .ok (.aload_n 0, 1) := by decide +kernel
theorem dX6_about_55 : decode cX6_about 55 = .ok (.getfield 10, 3) := by decide +kernel
theorem dX6_about_58 : decode cX6_about 58 = .ok (.getfield 83, 3) := by decide +kernel
theorem dX6_about_61 : decode cX6_about 61 = .ok (.iload_n 1, 1) := by decide +kernel
theorem dX6_about_62 : decode cX6_about 62 = .ok (.iaload, 1) := by decide +kernel
theorem dX6_about_63 : decode cX6_about 63 = .ok (.ireturn, 1) := by decide +kernel
theorem dX6_about_64 : decode cX6_about 64 = .ok (.aload_n 0, 1) := by decide +kernel
theorem dX6_about_65 : decode cX6_about 65 = .ok (.getfield 10, 3) := by decide +kernel
theorem dX6_about_68 : decode cX6_about 68 = .ok (.getfield 86, 3) := by decide +kernel
theorem dX6_about_71 : decode cX6_about 71 = .ok (.iload_n 1, 1) := by decide +kernel
theorem dX6_about_72 : decode cX6_about 72 = .ok (.iaload, 1) := by decide +kernel
theorem dX6_about_73 : decode cX6_about 73 = .ok (.ireturn, 1) := by decide +kernel
theorem dX6_about_74 : decode cX6_about 74 = .ok (.aload_n 0, 1) := by decide +kernel
theorem dX6_about_75 : decode cX6_about 75 = .ok (.getfield 10, 3) := by decide +kernel
theorem dX6_about_78 : decode cX6_about 78 = .ok (.iload_n 1, 1) := by decide +kernel
theorem dX6_about_79 : decode cX6_about 79 = .ok (.invokevirtual 89, 3) := by decide +kernel
theorem dX6_about_82 : decode cX6_about 82 = .ok (.ireturn, 1) := by decide +kernel
theorem dX6_about_83 : decode cX6_about 83 = .ok (.bipush (-2), 2) := by decide +kernel
theorem dX6_about_85 : decode cX6_about 85 = .ok (.ireturn, 1) := by decide +kernel
theorem dX6_set_0 : decode cX6_set 0 = .ok (.iload_n 1, 1) := by decide +kernel
theorem dX6_set_1 : decode cX6_set 1 = .ok (.iconst 0, 1) := by decide +kernel
theorem dX6_set_2 : decode cX6_set 2 = .ok (.iconst 3, 1) := by decide +kernel
theorem dX6_set_3 : decode cX6_set 3 = .ok (.invokestatic 93, 3) := by decide +kernel
theorem dX6_set_6 : decode cX6_set 6 = .ok (.ifCond .ne 6, 3) := by decide +kernel
theorem dX6_set_9 : decode cX6_set 9 = .ok (.bipush (-2), 2) := by decide +kernel
theorem dX6_set_11 : decode cX6_set 11 = .ok (.ireturn, 1) := by decide +kernel
theorem dX6_set_12 : decode cX6_set 12 = .ok (.iload_n 1, 1) := by decide +kernel
theorem dX6_set_13 : decode cX6_set 13 = .ok (.iconst 2, 1) := by decide +kernel
theorem dX6_set_14 : decode cX6_set 14 = .ok (.if_icmp .eq 8, 3) := by decide +kernel
theorem dX6_set_17 : decode cX6_set 17 = .ok (.iload_n 1, 1) := by decide +kernel
theorem dX6_set_18 : decode cX6_set 18 = .ok (.iconst 3, 1) := by decide +kernel
theorem dX6_set_19 : decode cX6_set 19 = .ok (.if_icmp .ne 7, 3) := by decide +kernel
theorem dX6_set_22 : decode cX6_set 22 = .ok (.iconst 1, 1) := by decide +kernel
theorem dX6_set_23 : decode cX6_set 23 = .ok (.goto 4, 3) := by decide +kernel
theorem dX6_set_26 : decode cX6_set 26 = .ok (.iconst 0, 1) := by decide +kernel
theorem dX6_set_27 : decode cX6_set 27 = .ok (.istore_n 3, 1) := by decide +kernel
theorem dX6_set_28 : decode cX6_set 28 = .ok (.iload_n 2, 1) := by decide +kernel
theorem dX6_set_29 : decode cX6_set 29 = .ok (.iload_n 3, 1) := by decide +kernel
theorem dX6_set_30 : decode cX6_set 30 = .ok (.ifCond .eq 7, 3) := by decide +kernel
theorem dX6_set_33 : decode cX6_set 33 = .ok (.iconst 1, 1) := by decide +kernel
theorem dX6_set_34 : decode cX6_set 34 = .ok (.goto 4, 3) := by decide +kernel
theorem dX6_set_37 : decode cX6_set 37 = .ok (.iconst 0, 1) := by decide +kernel
theorem dX6_set_38 : decode cX6_set 38 = .ok (.iload_n 3, 1) := by decide +kernel
theorem dX6_set_39 : decode cX6_set 39 = .ok (.ifCond .eq 8, 3) := by decide +kernel
theorem dX6_set_42 : decode cX6_set 42 = .ok (.bipush 30, 2) := by decide +kernel
theorem dX6_set_44 : decode cX6_set 44 = .ok (.goto 5, 3) := by decide +kernel
theorem dX6_set_47 : decode cX6_set 47 = .ok (.bipush 99, 2) := by decide +kernel
theorem dX6_set_49 : decode cX6_set 49 = .ok (.invokestatic 93, 3) := by decide +kernel
theorem dX6_set_52 : decode cX6_set 52 = .ok (.ifCond .ne 6, 3) := by decide +kernel
theorem dX6_set_55 : decode cX6_set 55 = .ok (.bipush (-2), 2) := by decide +kernel
theorem dX6_set_57 : decode cX6_set 57 = .ok (.ireturn, 1) := by decide +kernel
theorem dX6_set_58 : decode cX6_set 58 = .ok (.aload_n 0, 1) := by decide +kernel
theorem dX6_set_59 : decode cX6_set 59 = .ok (.getfield 10, 3) := by decide +kernel
theorem dX6_set_62 : decode cX6_set 62 = .ok (.getfield 97, 3) := by decide +kernel
theorem dX6_set_65 : decode cX6_set 65 = .ok (.iload_n 1, 1) := by decide +kernel
theorem dX6_set_66 : decode cX6_set 66 = .ok (.iaload, 1) := by decide +kernel
theorem dX6_set_67 : decode cX6_set 67 = .ok (.istore 4, 2) := by decide +kernel
theorem dX6_set_69 : decode cX6_set 69 = .ok (.aload_n 0, 1) := by decide +kernel
theorem dX6_set_70 : decode cX6_set 70 = .ok (.getfield 10, 3) := by decide +kernel
theorem dX6_set_73 : decode cX6_set 73 = .ok (.getfield 97, 3) := by decide +kernel
theorem dX6_set_76 : decode cX6_set 76 = .ok (.iload_n 1, 1) := by decide +kernel
theorem dX6_set_77 : decode cX6_set 77 = .ok (.iload_n 2, 1) := by decide +kernel
theorem dX6_set_78 : decode cX6_set 78 = .ok (.iastore, 1) := by decide +kernel
theorem dX6_set_79 : decode cX6_set 79 = .ok (.iload_n 1, 1) := by decide +kernel
theorem dX6_set_80 : decode cX6_set 80 = .ok (.ifCond .ne 10, 3) := by decide +kernel
theorem dX6_set_83 : decode cX6_set 83 = .ok (.aload_n 0, 1) := by decide +kernel
theorem dX6_set_84 : decode cX6_set 84 = .ok (.getfield 32, 3) := by decide +kernel
theorem dX6_set_87 : decode cX6_set 87 = .ok (.invokevirtual 69, 3) := by decide +kernel
theorem dX6_set_90 : decode cX6_set 90 = .ok (.iload 4, 2) := by decide +kernel
theorem dX6_set_92 : decode cX6_set 92 = .ok (.ireturn, 1) := by decide +kernel
theorem dX6_say_0 : decode cX6_say 0 = .ok (.iload_n 1, 1) := by decide +kernel
theorem dX6_say_1 : decode cX6_say 1 = .ok (.bipush 33, 2) := by decide +kernel
theorem dX6_say_3 : decode cX6_say 3 = .ok (.bipush 126, 2) := by decide +kernel
theorem dX6_say_5 : decode cX6_say 5 = .ok (.invokestatic 93, 3) := by decide +kernel
theorem dX6_say_8 : decode cX6_say 8 = .ok (.ifCond .ne 6, 3) := by decide +kernel
theorem dX6_say_11 : decode cX6_say 11 = .ok (.bipush (-2), 2) := by decide +kernel
theorem dX6_say_13 : decode cX6_say 13 = .ok (.ireturn, 1) := by decide +kernel
theorem dX6_say_14 : decode cX6_say 14 = .ok (.aload_n 0, 1) := by decide +kernel
theorem dX6_say_15 : decode cX6_say 15 = .ok (.getfield 23, 3) := by decide +kernel
theorem dX6_say_18 : decode cX6_say 18 = .ok (.getfield 100, 3) := by decide +kernel
theorem dX6_say_21 : decode cX6_say 21 = .ok (.bipush 50, 2) := by decide +kernel
theorem dX6_say_23 : decode cX6_say 23 = .ok (.if_icmp .lt 6, 3) := by decide +kernel
theorem dX6_say_26 : decode cX6_say 26 = .ok (.bipush (-4), 2) := by decide +kernel
theorem dX6_say_28 : decode cX6_say 28 = .ok (.ireturn, 1) := by decide +kernel
theorem dX6_say_29 : decode cX6_say 29 = .ok (.aload_n 0, 1) := by decide +kernel
theorem dX6_say_30 : decode cX6_say 30 = .ok (.getfield 23, 3) := by decide +kernel
theorem dX6_say_33 : decode cX6_say 33 = .ok (.iload_n 1, 1) := by decide +kernel
theorem dX6_say_34 : decode cX6_say 34 = .ok (.invokevirtual 103, 3) := by decide +kernel
theorem dX6_say_37 : decode cX6_say 37 = .ok (.aload_n 0, 1) := by decide +kernel
theorem dX6_say_38 : decode cX6_say 38 = .ok (.getfield 23, 3) := by decide +kernel
theorem dX6_say_41 : decode cX6_say 41 = .ok (.getfield 100, 3) := by decide +kernel
theorem dX6_say_44 : decode cX6_say 44 = .ok (.ireturn, 1) := by decide +kernel
theorem dX6_wipe_0 : decode cX6_wipe 0 = .ok (.aload_n 0, 1) := by decide +kernel
theorem dX6_wipe_1 : decode cX6_wipe 1 = .ok (.getfield 23, 3) := by decide +kernel
theorem dX6_wipe_4 : decode cX6_wipe 4 = .ok (.getfield 100, 3) := by decide +kernel
theorem dX6_wipe_7 : decode cX6_wipe 7 = .ok (.istore_n 1, 1) := by decide +kernel
theorem dX6_wipe_8 : decode cX6_wipe 8 = .ok (.aload_n 0, 1) := by decide +kernel
theorem dX6_wipe_9 : decode cX6_wipe 9 = .ok (.getfield 23, 3) := by decide +kernel
theorem dX6_wipe_12 : decode cX6_wipe 12 = .ok (.iconst 0, 1) := by decide +kernel
theorem dX6_wipe_13 : decode cX6_wipe 13 = .ok (.putfield 100, 3) := by decide +kernel
theorem dX6_wipe_16 : decode cX6_wipe 16 = .ok (.iload_n 1, 1) := by decide +kernel
theorem dX6_wipe_17 : decode cX6_wipe 17 = .ok (.ireturn, 1) := by decide +kernel
theorem dX6_fault_0 : decode cX6_fault 0 = .ok (.aload_n 0, 1) := by decide +kernel
theorem dX6_fault_1 : decode cX6_fault 1 = .ok (.getfield 23, 3) := by decide +kernel
theorem dX6_fault_4 : decode cX6_fault 4 = .ok (.invokevirtual 107, 3) := by decide +kernel
theorem dX6_fault_7 : decode cX6_fault 7 = .ok (.ireturn, 1) := by decide +kernel
theorem dX6_law_0 : decode cX6_law 0 = .ok (.aload_n 0, 1) := by decide +kernel
theorem dX6_law_1 : decode cX6_law 1 = .ok (.getfield 23, 3) := by decide +kernel
theorem dX6_law_4 : decode cX6_law 4 = .ok (.invokevirtual 107, 3) := by decide +kernel
theorem dX6_law_7 : decode cX6_law 7 = .ok (.bipush (-6), 2) := by decide +kernel
theorem dX6_law_9 : decode cX6_law 9 = .ok (.if_icmp .eq 6, 3) := by decide +kernel
theorem dX6_law_12 : decode cX6_law 12 = .ok (.bipush (-5), 2) := by decide +kernel
theorem dX6_law_14 : decode cX6_law 14 = .ok (.ireturn, 1) := by decide +kernel
theorem dX6_law_15 : decode cX6_law 15 = .ok (.aload_n 0, 1) := by decide +kernel
theorem dX6_law_16 : decode cX6_law 16 = .ok (.getfield 10, 3) := by decide +kernel
theorem dX6_law_19 : decode cX6_law 19 = .ok (.aload_n 0, 1) := by decide +kernel
theorem dX6_law_20 : decode cX6_law 20 = .ok (.getfield 23, 3) := by decide +kernel
theorem dX6_law_23 : decode cX6_law 23 = .ok (.aload_n 0, 1) := by decide +kernel
theorem dX6_law_24 : decode cX6_law 24 = .ok (.getfield 10, 3) := by decide +kernel
theorem dX6_law_27 : decode cX6_law 27 = .ok (.getfield 111, 3) := by decide +kernel
theorem dX6_law_30 : decode cX6_law 30 = .ok (.invokevirtual 115, 3) := by decide +kernel
theorem dX6_law_33 : decode cX6_law 33 = .ok (.putfield 119, 3) := by decide +kernel
theorem dX6_law_36 : decode cX6_law 36 = .ok (.aload_n 0, 1) := by decide +kernel
theorem dX6_law_37 : decode cX6_law 37 = .ok (.getfield 23, 3) := by decide +kernel
theorem dX6_law_40 : decode cX6_law 40 = .ok (.iconst 0, 1) := by decide +kernel
theorem dX6_law_41 : decode cX6_law 41 = .ok (.putfield 100, 3) := by decide +kernel
theorem dX6_law_44 : decode cX6_law 44 = .ok (.aload_n 0, 1) := by decide +kernel
theorem dX6_law_45 : decode cX6_law 45 = .ok (.getfield 32, 3) := by decide +kernel
theorem dX6_law_48 : decode cX6_law 48 = .ok (.invokevirtual 69, 3) := by decide +kernel
theorem dX6_law_51 : decode cX6_law 51 = .ok (.aload_n 0, 1) := by decide +kernel
theorem dX6_law_52 : decode cX6_law 52 = .ok (.getfield 10, 3) := by decide +kernel
theorem dX6_law_55 : decode cX6_law 55 = .ok (.getfield 119, 3) := by decide +kernel
theorem dX6_law_58 : decode cX6_law 58 = .ok (.ireturn, 1) := by decide +kernel
theorem dX6_slip_0 : decode cX6_slip 0 = .ok (.iload_n 1, 1) := by decide +kernel
theorem dX6_slip_1 : decode cX6_slip 1 = .ok (.iconst 0, 1) := by decide +kernel
theorem dX6_slip_2 : decode cX6_slip 2 = .ok (.iconst 3, 1) := by decide +kernel
theorem dX6_slip_3 : decode cX6_slip 3 = .ok (.invokestatic 93, 3) := by decide +kernel
theorem dX6_slip_6 : decode cX6_slip 6 = .ok (.ifCond .eq 12, 3) := by decide +kernel
theorem dX6_slip_9 : decode cX6_slip 9 = .ok (.iload_n 2, 1) := by decide +kernel
theorem dX6_slip_10 : decode cX6_slip 10 = .ok (.iconst 0, 1) := by decide +kernel
theorem dX6_slip_11 : decode cX6_slip 11 = .ok (.iconst 3, 1) := by decide +kernel
theorem dX6_slip_12 : decode cX6_slip 12 = .ok (.invokestatic 93, 3) := by decide +kernel
theorem dX6_slip_15 : decode cX6_slip 15 = .ok (.ifCond .ne 6, 3) := by decide +kernel
theorem dX6_slip_18 : decode cX6_slip 18 = .ok (.bipush (-2), 2) := by decide +kernel
theorem dX6_slip_20 : decode cX6_slip 20 = .ok (.ireturn, 1) := by decide +kernel
theorem dX6_slip_21 : decode cX6_slip 21 = .ok (.aload_n 0, 1) := by decide +kernel
theorem dX6_slip_22 : decode cX6_slip 22 = .ok (.getfield 10, 3) := by decide +kernel
theorem dX6_slip_25 : decode cX6_slip 25 = .ok (.getfield 111, 3) := by decide +kernel
theorem dX6_slip_28 : decode cX6_slip 28 = .ok (.iload_n 1, 1) := by decide +kernel
theorem dX6_slip_29 : decode cX6_slip 29 = .ok (.aaload, 1) := by decide +kernel
theorem dX6_slip_30 : decode cX6_slip 30 = .ok (.iload_n 2, 1) := by decide +kernel
theorem dX6_slip_31 : decode cX6_slip 31 = .ok (.iaload, 1) := by decide +kernel
theorem dX6_slip_32 : decode cX6_slip 32 = .ok (.ireturn, 1) := by decide +kernel
theorem dX6_cost_0 : decode cX6_cost 0 = .ok (.iload_n 1, 1) := by decide +kernel
theorem dX6_cost_1 : decode cX6_cost 1 = .ok (.invokestatic 57, 3) := by decide +kernel
theorem dX6_cost_4 : decode cX6_cost 4 = .ok (.ifCond .eq 10, 3) := by decide +kernel
theorem dX6_cost_7 : decode cX6_cost 7 = .ok (.iload_n 2, 1) := by decide +kernel
theorem dX6_cost_8 : decode cX6_cost 8 = .ok (.invokestatic 57, 3) := by decide +kernel
theorem dX6_cost_11 : decode cX6_cost 11 = .ok (.ifCond .ne 6, 3) := by decide +kernel
theorem dX6_cost_14 : decode cX6_cost 14 = .ok (.bipush (-2), 2) := by decide +kernel
theorem dX6_cost_16 : decode cX6_cost 16 = .ok (.ireturn, 1) := by decide +kernel
theorem dX6_cost_17 : decode cX6_cost 17 = .ok (.aload_n 0, 1) := by decide +kernel
theorem dX6_cost_18 : decode cX6_cost 18 = .ok (.getfield 10, 3) := by decide +kernel
theorem dX6_cost_21 : decode cX6_cost 21 = .ok (.iload_n 1, 1) := by decide +kernel
theorem dX6_cost_22 : decode cX6_cost 22 = .ok (.iload_n 2, 1) := by decide +kernel
theorem dX6_cost_23 : decode cX6_cost 23 = .ok (.invokevirtual 122, 3) := by decide +kernel
theorem dX6_cost_26 : decode cX6_cost 26 = .ok (.ireturn, 1) := by decide +kernel
theorem dX6_least_0 : decode cX6_least 0 = .ok (.iload_n 1, 1) := by decide +kernel
theorem dX6_least_1 : decode cX6_least 1 = .ok (.iconst 0, 1) := by decide +kernel
theorem dX6_least_2 : decode cX6_least 2 = .ok (.iconst 2, 1) := by decide +kernel
theorem dX6_least_3 : decode cX6_least 3 = .ok (.invokestatic 93, 3) := by decide +kernel
theorem dX6_least_6 : decode cX6_least 6 = .ok (.ifCond .ne 6, 3) := by decide +kernel
theorem dX6_least_9 : decode cX6_least 9 = .ok (.bipush (-2), 2) := by decide +kernel
theorem dX6_least_11 : decode cX6_least 11 = .ok (.ireturn, 1) := by decide +kernel
theorem dX6_least_12 : decode cX6_least 12 = .ok (.aload_n 0, 1) := by decide +kernel
theorem dX6_least_13 : decode cX6_least 13 = .ok (.getfield 10, 3) := by decide +kernel
theorem dX6_least_16 : decode cX6_least 16 = .ok (.getfield 65, 3) := by decide +kernel
theorem dX6_least_19 : decode cX6_least 19 = .ok (.ifCond .ne 6, 3) := by decide +kernel
theorem dX6_least_22 : decode cX6_least 22 = .ok (.bipush (-3), 2) := by decide +kernel
theorem dX6_least_24 : decode cX6_least 24 = .ok (.ireturn, 1) := by decide +kernel
theorem dX6_least_25 : decode cX6_least 25 = .ok (.aload_n 0, 1) := by decide +kernel
theorem dX6_least_26 : decode cX6_least 26 = .ok (.getfield 32, 3) := by decide +kernel
theorem dX6_least_29 : decode cX6_least 29 = .ok (.invokevirtual 126, 3) := by decide +kernel
theorem dX6_least_32 : decode cX6_least 32 = .ok (.iload_n 1, 1) := by decide +kernel
theorem dX6_least_33 : decode cX6_least 33 = .ok (.lookupswitch 44 #[(0, 27), (1, 35)], 27) := by decide +kernel
theorem dX6_least_60 : decode cX6_least 60 = .ok (.aload_n 0, 1) := by decide +kernel
theorem dX6_least_61 : decode cX6_least 61 = .ok (.getfield 32, 3) := by decide +kernel
theorem dX6_least_64 : decode cX6_least 64 = .ok (.getfield 129, 3) := by decide +kernel
theorem dX6_least_67 : decode cX6_least 67 = .ok (.ireturn, 1) := by decide +kernel
theorem dX6_least_68 : decode cX6_least 68 = .ok (.aload_n 0, 1) := by decide +kernel
theorem dX6_least_69 : decode cX6_least 69 = .ok (.getfield 32, 3) := by decide +kernel
theorem dX6_least_72 : decode cX6_least 72 = .ok (.iconst 0, 1) := by decide +kernel
theorem dX6_least_73 : decode cX6_least 73 = .ok (.invokevirtual 132, 3) := by decide +kernel
theorem dX6_least_76 : decode cX6_least 76 = .ok (.ireturn, 1) := by decide +kernel
theorem dX6_least_77 : decode cX6_least 77 = .ok (.aload_n 0, 1) := by decide +kernel
theorem dX6_least_78 : decode cX6_least 78 = .ok (.getfield 32, 3) := by decide +kernel
theorem dX6_least_81 : decode cX6_least 81 = .ok (.getfield 135, 3) := by decide +kernel
theorem dX6_least_84 : decode cX6_least 84 = .ok (.ireturn, 1) := by decide +kernel
theorem dX6_kept_0 : decode cX6_kept 0 = .ok (.iload_n 2, 1) := by decide +kernel
theorem dX6_kept_1 : decode cX6_kept 1 = .ok (.iconst (-1), 1) := by decide +kernel
theorem dX6_kept_2 : decode cX6_kept 2 = .ok (.if_icmp .eq 22, 3) := by decide +kernel
theorem dX6_kept_5 : decode cX6_kept 5 = .ok (.iload_n 3, 1) := by decide +kernel
theorem dX6_kept_6 : decode cX6_kept 6 = .ok (.bipush 9, 2) := by decide +kernel
theorem dX6_kept_8 : decode cX6_kept 8 = .ok (.if_icmp .eq 16, 3) := by decide +kernel
theorem dX6_kept_11 : decode cX6_kept 11 = .ok (.aload_n 0, 1) := by decide +kernel
theorem dX6_kept_12 : decode cX6_kept 12 = .ok (.getfield 10, 3) := by decide +kernel
theorem dX6_kept_15 : decode cX6_kept 15 = .ok (.iload_n 3, 1) := by decide +kernel
theorem dX6_kept_16 : decode cX6_kept 16 = .ok (.invokevirtual 76, 3) := by decide +kernel
theorem dX6_kept_19 : decode cX6_kept 19 = .ok (.ifCond .ne 5, 3) := by decide +kernel
theorem dX6_kept_22 : decode cX6_kept 22 = .ok (.iconst (-1), 1) := by decide +kernel
theorem dX6_kept_23 : decode cX6_kept 23 = .ok (.ireturn, 1) := by decide +kernel
theorem dX6_kept_24 : decode cX6_kept 24 = .ok (.iload_n 1, 1) := by decide +kernel
theorem dX6_kept_25 : decode cX6_kept 25 = .ok (.iconst 0, 1) := by decide +kernel
theorem dX6_kept_26 : decode cX6_kept 26 = .ok (.bipush 99, 2) := by decide +kernel
theorem dX6_kept_28 : decode cX6_kept 28 = .ok (.invokestatic 93, 3) := by decide +kernel
theorem dX6_kept_31 : decode cX6_kept 31 = .ok (.ifCond .ne 6, 3) := by decide +kernel
theorem dX6_kept_34 : decode cX6_kept 34 = .ok (.bipush (-2), 2) := by decide +kernel
theorem dX6_kept_36 : decode cX6_kept 36 = .ok (.ireturn, 1) := by decide +kernel
theorem dX6_kept_37 : decode cX6_kept 37 = .ok (.aload_n 0, 1) := by decide +kernel
theorem dX6_kept_38 : decode cX6_kept 38 = .ok (.getfield 10, 3) := by decide +kernel
theorem dX6_kept_41 : decode cX6_kept 41 = .ok (.getfield 65, 3) := by decide +kernel
theorem dX6_kept_44 : decode cX6_kept 44 = .ok (.ifCond .ne 6, 3) := by decide +kernel
theorem dX6_kept_47 : decode cX6_kept 47 = .ok (.bipush (-3), 2) := by decide +kernel
theorem dX6_kept_49 : decode cX6_kept 49 = .ok (.ireturn, 1) := by decide +kernel
theorem dX6_kept_50 : decode cX6_kept 50 = .ok (.aload_n 0, 1) := by decide +kernel
theorem dX6_kept_51 : decode cX6_kept 51 = .ok (.getfield 32, 3) := by decide +kernel
theorem dX6_kept_54 : decode cX6_kept 54 = .ok (.invokevirtual 126, 3) := by decide +kernel
theorem dX6_kept_57 : decode cX6_kept 57 = .ok (.iload_n 2, 1) := by decide +kernel
theorem dX6_kept_58 : decode cX6_kept 58 = .ok (.iconst (-1), 1) := by decide +kernel
theorem dX6_kept_59 : decode cX6_kept 59 = .ok (.if_icmp .ne 12, 3) := by decide +kernel
theorem dX6_kept_62 : decode cX6_kept 62 = .ok (.aload_n 0, 1) := by decide +kernel
theorem dX6_kept_63 : decode cX6_kept 63 = .ok (.getfield 32, 3) := by decide +kernel
theorem dX6_kept_66 : decode cX6_kept 66 = .ok (.iload_n 1, 1) := by decide +kernel
theorem dX6_kept_67 : decode cX6_kept 67 = .ok (.invokevirtual 132, 3) := by decide +kernel
theorem dX6_kept_70 : decode cX6_kept 70 = .ok (.ireturn, 1) := by decide +kernel
theorem dX6_kept_71 : decode cX6_kept 71 = .ok (.aload_n 0, 1) := by decide +kernel
theorem dX6_kept_72 : decode cX6_kept 72 = .ok (.getfield 32, 3) := by decide +kernel
theorem dX6_kept_75 : decode cX6_kept 75 = .ok (.iload_n 1, 1) := by decide +kernel
theorem dX6_kept_76 : decode cX6_kept 76 = .ok (.iload_n 2, 1) := by decide +kernel
theorem dX6_kept_77 : decode cX6_kept 77 = .ok (.invokevirtual 136, 3) := by decide +kernel
theorem dX6_kept_80 : decode cX6_kept 80 = .ok (.istore 4, 2) := by decide +kernel
theorem dX6_kept_82 : decode cX6_kept 82 = .ok (.iload 4, 2) := by decide +kernel
theorem dX6_kept_84 : decode cX6_kept 84 = .ok (.bipush (-6), 2) := by decide +kernel
theorem dX6_kept_86 : decode cX6_kept 86 = .ok (.if_icmp .ne 6, 3) := by decide +kernel
theorem dX6_kept_89 : decode cX6_kept 89 = .ok (.bipush (-6), 2) := by decide +kernel
theorem dX6_kept_91 : decode cX6_kept 91 = .ok (.ireturn, 1) := by decide +kernel
theorem dX6_kept_92 : decode cX6_kept 92 = .ok (.iload_n 3, 1) := by decide +kernel
theorem dX6_kept_93 : decode cX6_kept 93 = .ok (.bipush 9, 2) := by decide +kernel
theorem dX6_kept_95 : decode cX6_kept 95 = .ok (.if_icmp .ne 16, 3) := by decide +kernel
theorem dX6_kept_98 : decode cX6_kept 98 = .ok (.aload_n 0, 1) := by decide +kernel
theorem dX6_kept_99 : decode cX6_kept 99 = .ok (.getfield 32, 3) := by decide +kernel
theorem dX6_kept_102 : decode cX6_kept 102 = .ok (.getfield 139, 3) := by decide +kernel
theorem dX6_kept_105 : decode cX6_kept 105 = .ok (.iload 4, 2) := by decide +kernel
theorem dX6_kept_107 : decode cX6_kept 107 = .ok (.iaload, 1) := by decide +kernel
theorem dX6_kept_108 : decode cX6_kept 108 = .ok (.goto 17, 3) := by decide +kernel
theorem dX6_kept_111 : decode cX6_kept 111 = .ok (.aload_n 0, 1) := by decide +kernel
theorem dX6_kept_112 : decode cX6_kept 112 = .ok (.getfield 32, 3) := by decide +kernel
theorem dX6_kept_115 : decode cX6_kept 115 = .ok (.getfield 142, 3) := by decide +kernel
theorem dX6_kept_118 : decode cX6_kept 118 = .ok (.iload 4, 2) := by decide +kernel
theorem dX6_kept_120 : decode cX6_kept 120 = .ok (.iaload, 1) := by decide +kernel
theorem dX6_kept_121 : decode cX6_kept 121 = .ok (.iload_n 3, 1) := by decide +kernel
theorem dX6_kept_122 : decode cX6_kept 122 = .ok (.invokestatic 145, 3) := by decide +kernel
theorem dX6_kept_125 : decode cX6_kept 125 = .ok (.ireturn, 1) := by decide +kernel
theorem dX6_sure_0 : decode cX6_sure 0 = .ok (.iload_n 2, 1) := by decide +kernel
theorem dX6_sure_1 : decode cX6_sure 1 = .ok (.bipush 9, 2) := by decide +kernel
theorem dX6_sure_3 : decode cX6_sure 3 = .ok (.if_icmp .eq 16, 3) := by decide +kernel
theorem dX6_sure_6 : decode cX6_sure 6 = .ok (.aload_n 0, 1) := by decide +kernel
theorem dX6_sure_7 : decode cX6_sure 7 = .ok (.getfield 10, 3) := by decide +kernel
theorem dX6_sure_10 : decode cX6_sure 10 = .ok (.iload_n 2, 1) := by decide +kernel
theorem dX6_sure_11 : decode cX6_sure 11 = .ok (.invokevirtual 76, 3) := by decide +kernel
theorem dX6_sure_14 : decode cX6_sure 14 = .ok (.ifCond .ne 5, 3) := by decide +kernel
theorem dX6_sure_17 : decode cX6_sure 17 = .ok (.iconst (-1), 1) := by decide +kernel
theorem dX6_sure_18 : decode cX6_sure 18 = .ok (.ireturn, 1) := by decide +kernel
theorem dX6_sure_19 : decode cX6_sure 19 = .ok (.iload_n 1, 1) := by decide +kernel
theorem dX6_sure_20 : decode cX6_sure 20 = .ok (.iconst 0, 1) := by decide +kernel
theorem dX6_sure_21 : decode cX6_sure 21 = .ok (.bipush 99, 2) := by decide +kernel
theorem dX6_sure_23 : decode cX6_sure 23 = .ok (.invokestatic 93, 3) := by decide +kernel
theorem dX6_sure_26 : decode cX6_sure 26 = .ok (.ifCond .ne 6, 3) := by decide +kernel
theorem dX6_sure_29 : decode cX6_sure 29 = .ok (.bipush (-2), 2) := by decide +kernel
theorem dX6_sure_31 : decode cX6_sure 31 = .ok (.ireturn, 1) := by decide +kernel
theorem dX6_sure_32 : decode cX6_sure 32 = .ok (.aload_n 0, 1) := by decide +kernel
theorem dX6_sure_33 : decode cX6_sure 33 = .ok (.getfield 10, 3) := by decide +kernel
theorem dX6_sure_36 : decode cX6_sure 36 = .ok (.getfield 65, 3) := by decide +kernel
theorem dX6_sure_39 : decode cX6_sure 39 = .ok (.ifCond .ne 6, 3) := by decide +kernel
theorem dX6_sure_42 : decode cX6_sure 42 = .ok (.bipush (-3), 2) := by decide +kernel
theorem dX6_sure_44 : decode cX6_sure 44 = .ok (.ireturn, 1) := by decide +kernel
theorem dX6_sure_45 : decode cX6_sure 45 = .ok (.aload_n 0, 1) := by decide +kernel
theorem dX6_sure_46 : decode cX6_sure 46 = .ok (.getfield 32, 3) := by decide +kernel
theorem dX6_sure_49 : decode cX6_sure 49 = .ok (.invokevirtual 126, 3) := by decide +kernel
theorem dX6_sure_52 : decode cX6_sure 52 = .ok (.aload_n 0, 1) := by decide +kernel
theorem dX6_sure_53 : decode cX6_sure 53 = .ok (.getfield 32, 3) := by decide +kernel
theorem dX6_sure_56 : decode cX6_sure 56 = .ok (.iload_n 1, 1) := by decide +kernel
theorem dX6_sure_57 : decode cX6_sure 57 = .ok (.iload_n 2, 1) := by decide +kernel
theorem dX6_sure_58 : decode cX6_sure 58 = .ok (.invokevirtual 148, 3) := by decide +kernel
theorem dX6_sure_61 : decode cX6_sure 61 = .ok (.ireturn, 1) := by decide +kernel
theorem dX6_lost_0 : decode cX6_lost 0 = .ok (.iload_n 1, 1) := by decide +kernel
theorem dX6_lost_1 : decode cX6_lost 1 = .ok (.iconst (-1), 1) := by decide +kernel
theorem dX6_lost_2 : decode cX6_lost 2 = .ok (.if_icmp .eq 16, 3) := by decide +kernel
theorem dX6_lost_5 : decode cX6_lost 5 = .ok (.aload_n 0, 1) := by decide +kernel
theorem dX6_lost_6 : decode cX6_lost 6 = .ok (.getfield 10, 3) := by decide +kernel
theorem dX6_lost_9 : decode cX6_lost 9 = .ok (.iload_n 1, 1) := by decide +kernel
theorem dX6_lost_10 : decode cX6_lost 10 = .ok (.invokevirtual 76, 3) := by decide +kernel
theorem dX6_lost_13 : decode cX6_lost 13 = .ok (.ifCond .ne 5, 3) := by decide +kernel
theorem dX6_lost_16 : decode cX6_lost 16 = .ok (.iconst (-1), 1) := by decide +kernel
theorem dX6_lost_17 : decode cX6_lost 17 = .ok (.ireturn, 1) := by decide +kernel
theorem dX6_lost_18 : decode cX6_lost 18 = .ok (.iload_n 2, 1) := by decide +kernel
theorem dX6_lost_19 : decode cX6_lost 19 = .ok (.aload_n 0, 1) := by decide +kernel
theorem dX6_lost_20 : decode cX6_lost 20 = .ok (.getfield 10, 3) := by decide +kernel
theorem dX6_lost_23 : decode cX6_lost 23 = .ok (.getfield 65, 3) := by decide +kernel
theorem dX6_lost_26 : decode cX6_lost 26 = .ok (.iushr, 1) := by decide +kernel
theorem dX6_lost_27 : decode cX6_lost 27 = .ok (.ifCond .eq 5, 3) := by decide +kernel
theorem dX6_lost_30 : decode cX6_lost 30 = .ok (.iconst (-1), 1) := by decide +kernel
theorem dX6_lost_31 : decode cX6_lost 31 = .ok (.ireturn, 1) := by decide +kernel
theorem dX6_lost_32 : decode cX6_lost 32 = .ok (.iload_n 1, 1) := by decide +kernel
theorem dX6_lost_33 : decode cX6_lost 33 = .ok (.ifCond .lt 15, 3) := by decide +kernel
theorem dX6_lost_36 : decode cX6_lost 36 = .ok (.iload_n 2, 1) := by decide +kernel
theorem dX6_lost_37 : decode cX6_lost 37 = .ok (.iload_n 1, 1) := by decide +kernel
theorem dX6_lost_38 : decode cX6_lost 38 = .ok (.invokestatic 151, 3) := by decide +kernel
theorem dX6_lost_41 : decode cX6_lost 41 = .ok (.ifCond .eq 7, 3) := by decide +kernel
theorem dX6_lost_44 : decode cX6_lost 44 = .ok (.iconst 1, 1) := by decide +kernel
theorem dX6_lost_45 : decode cX6_lost 45 = .ok (.goto 4, 3) := by decide +kernel
theorem dX6_lost_48 : decode cX6_lost 48 = .ok (.iconst 0, 1) := by decide +kernel
theorem dX6_lost_49 : decode cX6_lost 49 = .ok (.istore 4, 2) := by decide +kernel
theorem dX6_lost_51 : decode cX6_lost 51 = .ok (.iload_n 2, 1) := by decide +kernel
theorem dX6_lost_52 : decode cX6_lost 52 = .ok (.ifCond .eq 17, 3) := by decide +kernel
theorem dX6_lost_55 : decode cX6_lost 55 = .ok (.iload 4, 2) := by decide +kernel
theorem dX6_lost_57 : decode cX6_lost 57 = .ok (.ifCond .ne 12, 3) := by decide +kernel
theorem dX6_lost_60 : decode cX6_lost 60 = .ok (.iload_n 3, 1) := by decide +kernel
theorem dX6_lost_61 : decode cX6_lost 61 = .ok (.iconst 0, 1) := by decide +kernel
theorem dX6_lost_62 : decode cX6_lost 62 = .ok (.iconst 2, 1) := by decide +kernel
theorem dX6_lost_63 : decode cX6_lost 63 = .ok (.invokestatic 93, 3) := by decide +kernel
theorem dX6_lost_66 : decode cX6_lost 66 = .ok (.ifCond .ne 6, 3) := by decide +kernel
theorem dX6_lost_69 : decode cX6_lost 69 = .ok (.bipush (-2), 2) := by decide +kernel
theorem dX6_lost_71 : decode cX6_lost 71 = .ok (.ireturn, 1) := by decide +kernel
theorem dX6_lost_72 : decode cX6_lost 72 = .ok (.aload_n 0, 1) := by decide +kernel
theorem dX6_lost_73 : decode cX6_lost 73 = .ok (.getfield 10, 3) := by decide +kernel
theorem dX6_lost_76 : decode cX6_lost 76 = .ok (.iload_n 1, 1) := by decide +kernel
theorem dX6_lost_77 : decode cX6_lost 77 = .ok (.iload_n 2, 1) := by decide +kernel
theorem dX6_lost_78 : decode cX6_lost 78 = .ok (.invokevirtual 155, 3) := by decide +kernel
theorem dX6_lost_81 : decode cX6_lost 81 = .ok (.istore 5, 2) := by decide +kernel
theorem dX6_lost_83 : decode cX6_lost 83 = .ok (.iload_n 3, 1) := by decide +kernel
theorem dX6_lost_84 : decode cX6_lost 84 = .ok (.ifCond .ne 6, 3) := by decide +kernel
theorem dX6_lost_87 : decode cX6_lost 87 = .ok (.iload 5, 2) := by decide +kernel
theorem dX6_lost_89 : decode cX6_lost 89 = .ok (.ireturn, 1) := by decide +kernel
theorem dX6_lost_90 : decode cX6_lost 90 = .ok (.aload_n 0, 1) := by decide +kernel
theorem dX6_lost_91 : decode cX6_lost 91 = .ok (.getfield 10, 3) := by decide +kernel
theorem dX6_lost_94 : decode cX6_lost 94 = .ok (.iload_n 1, 1) := by decide +kernel
theorem dX6_lost_95 : decode cX6_lost 95 = .ok (.iload 5, 2) := by decide +kernel
theorem dX6_lost_97 : decode cX6_lost 97 = .ok (.iload_n 2, 1) := by decide +kernel
theorem dX6_lost_98 : decode cX6_lost 98 = .ok (.invokevirtual 158, 3) := by decide +kernel
theorem dX6_lost_101 : decode cX6_lost 101 = .ok (.istore 6, 2) := by decide +kernel
theorem dX6_lost_103 : decode cX6_lost 103 = .ok (.iload_n 3, 1) := by decide +kernel
theorem dX6_lost_104 : decode cX6_lost 104 = .ok (.iconst 1, 1) := by decide +kernel
theorem dX6_lost_105 : decode cX6_lost 105 = .ok (.if_icmp .ne 8, 3) := by decide +kernel
theorem dX6_lost_108 : decode cX6_lost 108 = .ok (.iload 6, 2) := by decide +kernel
theorem dX6_lost_110 : decode cX6_lost 110 = .ok (.goto 19, 3) := by decide +kernel
theorem dX6_lost_113 : decode cX6_lost 113 = .ok (.sipush 10000, 3) := by decide +kernel
theorem dX6_lost_116 : decode cX6_lost 116 = .ok (.aload_n 0, 1) := by decide +kernel
theorem dX6_lost_117 : decode cX6_lost 117 = .ok (.getfield 10, 3) := by decide +kernel
theorem dX6_lost_120 : decode cX6_lost 120 = .ok (.iload_n 1, 1) := by decide +kernel
theorem dX6_lost_121 : decode cX6_lost 121 = .ok (.iload_n 2, 1) := by decide +kernel
theorem dX6_lost_122 : decode cX6_lost 122 = .ok (.invokevirtual 161, 3) := by decide +kernel
theorem dX6_lost_125 : decode cX6_lost 125 = .ok (.iadd, 1) := by decide +kernel
theorem dX6_lost_126 : decode cX6_lost 126 = .ok (.iload 6, 2) := by decide +kernel
theorem dX6_lost_128 : decode cX6_lost 128 = .ok (.isub, 1) := by decide +kernel
theorem dX6_lost_129 : decode cX6_lost 129 = .ok (.ireturn, 1) := by decide +kernel
theorem dX6_width_0 : decode cX6_width 0 = .ok (.aload_n 0, 1) := by decide +kernel
theorem dX6_width_1 : decode cX6_width 1 = .ok (.getfield 10, 3) := by decide +kernel
theorem dX6_width_4 : decode cX6_width 4 = .ok (.iload_n 1, 1) := by decide +kernel
theorem dX6_width_5 : decode cX6_width 5 = .ok (.invokevirtual 76, 3) := by decide +kernel
theorem dX6_width_8 : decode cX6_width 8 = .ok (.ifCond .ne 5, 3) := by decide +kernel
theorem dX6_width_11 : decode cX6_width 11 = .ok (.iconst (-1), 1) := by decide +kernel
theorem dX6_width_12 : decode cX6_width 12 = .ok (.ireturn, 1) := by decide +kernel
theorem dX6_width_13 : decode cX6_width 13 = .ok (.iload_n 2, 1) := by decide +kernel
theorem dX6_width_14 : decode cX6_width 14 = .ok (.iconst 0, 1) := by decide +kernel
theorem dX6_width_15 : decode cX6_width 15 = .ok (.sipush 999, 3) := by decide +kernel
theorem dX6_width_18 : decode cX6_width 18 = .ok (.invokestatic 93, 3) := by decide +kernel
theorem dX6_width_21 : decode cX6_width 21 = .ok (.ifCond .ne 6, 3) := by decide +kernel
theorem dX6_width_24 : decode cX6_width 24 = .ok (.bipush (-2), 2) := by decide +kernel
theorem dX6_width_26 : decode cX6_width 26 = .ok (.ireturn, 1) := by decide +kernel
theorem dX6_width_27 : decode cX6_width 27 = .ok (.aload_n 0, 1) := by decide +kernel
theorem dX6_width_28 : decode cX6_width 28 = .ok (.getfield 10, 3) := by decide +kernel
theorem dX6_width_31 : decode cX6_width 31 = .ok (.iload_n 1, 1) := by decide +kernel
theorem dX6_width_32 : decode cX6_width 32 = .ok (.invokevirtual 89, 3) := by decide +kernel
theorem dX6_width_35 : decode cX6_width 35 = .ok (.istore_n 3, 1) := by decide +kernel
theorem dX6_width_36 : decode cX6_width 36 = .ok (.aload_n 0, 1) := by decide +kernel
theorem dX6_width_37 : decode cX6_width 37 = .ok (.getfield 10, 3) := by decide +kernel
theorem dX6_width_40 : decode cX6_width 40 = .ok (.getfield 164, 3) := by decide +kernel
theorem dX6_width_43 : decode cX6_width 43 = .ok (.iload_n 1, 1) := by decide +kernel
theorem dX6_width_44 : decode cX6_width 44 = .ok (.iload_n 2, 1) := by decide +kernel
theorem dX6_width_45 : decode cX6_width 45 = .ok (.iastore, 1) := by decide +kernel
theorem dX6_width_46 : decode cX6_width 46 = .ok (.iload_n 3, 1) := by decide +kernel
theorem dX6_width_47 : decode cX6_width 47 = .ok (.ireturn, 1) := by decide +kernel
theorem dX6_spread_0 : decode cX6_spread 0 = .ok (.iload_n 1, 1) := by decide +kernel
theorem dX6_spread_1 : decode cX6_spread 1 = .ok (.iconst 0, 1) := by decide +kernel
theorem dX6_spread_2 : decode cX6_spread 2 = .ok (.iconst 1, 1) := by decide +kernel
theorem dX6_spread_3 : decode cX6_spread 3 = .ok (.invokestatic 93, 3) := by decide +kernel
theorem dX6_spread_6 : decode cX6_spread 6 = .ok (.ifCond .eq 14, 3) := by decide +kernel
theorem dX6_spread_9 : decode cX6_spread 9 = .ok (.iload_n 2, 1) := by decide +kernel
theorem dX6_spread_10 : decode cX6_spread 10 = .ok (.iload_n 3, 1) := by decide +kernel
theorem dX6_spread_11 : decode cX6_spread 11 = .ok (.iconst 1, 1) := by decide +kernel
theorem dX6_spread_12 : decode cX6_spread 12 = .ok (.bipush 99, 2) := by decide +kernel
theorem dX6_spread_14 : decode cX6_spread 14 = .ok (.invokestatic 61, 3) := by decide +kernel
theorem dX6_spread_17 : decode cX6_spread 17 = .ok (.ifCond .ne 6, 3) := by decide +kernel
theorem dX6_spread_20 : decode cX6_spread 20 = .ok (.bipush (-2), 2) := by decide +kernel
theorem dX6_spread_22 : decode cX6_spread 22 = .ok (.ireturn, 1) := by decide +kernel
theorem dX6_spread_23 : decode cX6_spread 23 = .ok (.bipush 100, 2) := by decide +kernel
theorem dX6_spread_25 : decode cX6_spread 25 = .ok (.aload_n 0, 1) := by decide +kernel
theorem dX6_spread_26 : decode cX6_spread 26 = .ok (.getfield 10, 3) := by decide +kernel
theorem dX6_spread_29 : decode cX6_spread 29 = .ok (.getfield 167, 3) := by decide +kernel
theorem dX6_spread_32 : decode cX6_spread 32 = .ok (.iload_n 1, 1) := by decide +kernel
theorem dX6_spread_33 : decode cX6_spread 33 = .ok (.iaload, 1) := by decide +kernel
theorem dX6_spread_34 : decode cX6_spread 34 = .ok (.imul, 1) := by decide +kernel
theorem dX6_spread_35 : decode cX6_spread 35 = .ok (.aload_n 0, 1) := by decide +kernel
theorem dX6_spread_36 : decode cX6_spread 36 = .ok (.getfield 10, 3) := by decide +kernel
theorem dX6_spread_39 : decode cX6_spread 39 = .ok (.getfield 170, 3) := by decide +kernel
theorem dX6_spread_42 : decode cX6_spread 42 = .ok (.iload_n 1, 1) := by decide +kernel
theorem dX6_spread_43 : decode cX6_spread 43 = .ok (.iaload, 1) := by decide +kernel
theorem dX6_spread_44 : decode cX6_spread 44 = .ok (.iadd, 1) := by decide +kernel
theorem dX6_spread_45 : decode cX6_spread 45 = .ok (.istore 4, 2) := by decide +kernel
theorem dX6_spread_47 : decode cX6_spread 47 = .ok (.aload_n 0, 1) := by decide +kernel
theorem dX6_spread_48 : decode cX6_spread 48 = .ok (.getfield 10, 3) := by decide +kernel
theorem dX6_spread_51 : decode cX6_spread 51 = .ok (.getfield 167, 3) := by decide +kernel
theorem dX6_spread_54 : decode cX6_spread 54 = .ok (.iload_n 1, 1) := by decide +kernel
theorem dX6_spread_55 : decode cX6_spread 55 = .ok (.iload_n 2, 1) := by decide +kernel
theorem dX6_spread_56 : decode cX6_spread 56 = .ok (.iastore, 1) := by decide +kernel
theorem dX6_spread_57 : decode cX6_spread 57 = .ok (.aload_n 0, 1) := by decide +kernel
theorem dX6_spread_58 : decode cX6_spread 58 = .ok (.getfield 10, 3) := by decide +kernel
theorem dX6_spread_61 : decode cX6_spread 61 = .ok (.getfield 170, 3) := by decide +kernel
theorem dX6_spread_64 : decode cX6_spread 64 = .ok (.iload_n 1, 1) := by decide +kernel
theorem dX6_spread_65 : decode cX6_spread 65 = .ok (.iload_n 3, 1) := by decide +kernel
theorem dX6_spread_66 : decode cX6_spread 66 = .ok (.iastore, 1) := by decide +kernel
theorem dX6_spread_67 : decode cX6_spread 67 = .ok (.iload 4, 2) := by decide +kernel
theorem dX6_spread_69 : decode cX6_spread 69 = .ok (.ireturn, 1) := by decide +kernel
theorem dX6_aged_0 : decode cX6_aged 0 = .ok (.aload_n 0, 1) := by decide +kernel
theorem dX6_aged_1 : decode cX6_aged 1 = .ok (.getfield 10, 3) := by decide +kernel
theorem dX6_aged_4 : decode cX6_aged 4 = .ok (.iload_n 1, 1) := by decide +kernel
theorem dX6_aged_5 : decode cX6_aged 5 = .ok (.invokevirtual 76, 3) := by decide +kernel
theorem dX6_aged_8 : decode cX6_aged 8 = .ok (.ifCond .ne 5, 3) := by decide +kernel
theorem dX6_aged_11 : decode cX6_aged 11 = .ok (.iconst (-1), 1) := by decide +kernel
theorem dX6_aged_12 : decode cX6_aged 12 = .ok (.ireturn, 1) := by decide +kernel
theorem dX6_aged_13 : decode cX6_aged 13 = .ok (.iload_n 2, 1) := by decide +kernel
theorem dX6_aged_14 : decode cX6_aged 14 = .ok (.iconst 0, 1) := by decide +kernel
theorem dX6_aged_15 : decode cX6_aged 15 = .ok (.iconst 2, 1) := by decide +kernel
theorem dX6_aged_16 : decode cX6_aged 16 = .ok (.invokestatic 93, 3) := by decide +kernel
theorem dX6_aged_19 : decode cX6_aged 19 = .ok (.ifCond .ne 6, 3) := by decide +kernel
theorem dX6_aged_22 : decode cX6_aged 22 = .ok (.bipush (-2), 2) := by decide +kernel
theorem dX6_aged_24 : decode cX6_aged 24 = .ok (.ireturn, 1) := by decide +kernel
theorem dX6_aged_25 : decode cX6_aged 25 = .ok (.aload_n 0, 1) := by decide +kernel
theorem dX6_aged_26 : decode cX6_aged 26 = .ok (.getfield 10, 3) := by decide +kernel
theorem dX6_aged_29 : decode cX6_aged 29 = .ok (.getfield 164, 3) := by decide +kernel
theorem dX6_aged_32 : decode cX6_aged 32 = .ok (.iload_n 1, 1) := by decide +kernel
theorem dX6_aged_33 : decode cX6_aged 33 = .ok (.iaload, 1) := by decide +kernel
theorem dX6_aged_34 : decode cX6_aged 34 = .ok (.ifCond .ne 6, 3) := by decide +kernel
theorem dX6_aged_37 : decode cX6_aged 37 = .ok (.bipush (-3), 2) := by decide +kernel
theorem dX6_aged_39 : decode cX6_aged 39 = .ok (.ireturn, 1) := by decide +kernel
theorem dX6_aged_40 : decode cX6_aged 40 = .ok (.aload_n 0, 1) := by decide +kernel
theorem dX6_aged_41 : decode cX6_aged 41 = .ok (.getfield 39, 3) := by decide +kernel
theorem dX6_aged_44 : decode cX6_aged 44 = .ok (.aload_n 0, 1) := by decide +kernel
theorem dX6_aged_45 : decode cX6_aged 45 = .ok (.getfield 10, 3) := by decide +kernel
theorem dX6_aged_48 : decode cX6_aged 48 = .ok (.getfield 164, 3) := by decide +kernel
theorem dX6_aged_51 : decode cX6_aged 51 = .ok (.iload_n 1, 1) := by decide +kernel
theorem dX6_aged_52 : decode cX6_aged 52 = .ok (.iaload, 1) := by decide +kernel
theorem dX6_aged_53 : decode cX6_aged 53 = .ok (.invokevirtual 173, 3) := by decide +kernel
theorem dX6_aged_56 : decode cX6_aged 56 = .ok (.aload_n 0, 1) := by decide +kernel
theorem dX6_aged_57 : decode cX6_aged 57 = .ok (.getfield 39, 3) := by decide +kernel
theorem dX6_aged_60 : decode cX6_aged 60 = .ok (.getfield 176, 3) := by decide +kernel
theorem dX6_aged_63 : decode cX6_aged 63 = .ok (.ifCond .ne 6, 3) := by decide +kernel
theorem dX6_aged_66 : decode cX6_aged 66 = .ok (.bipush (-5), 2) := by decide +kernel
theorem dX6_aged_68 : decode cX6_aged 68 = .ok (.ireturn, 1) := by decide +kernel
theorem dX6_aged_69 : decode cX6_aged 69 = .ok (.iload_n 2, 1) := by decide +kernel
theorem dX6_aged_70 : decode cX6_aged 70 = .ok (.lookupswitch 42 #[(0, 26), (1, 34)], 26) := by decide +kernel
theorem dX6_aged_96 : decode cX6_aged 96 = .ok (.aload_n 0, 1) := by decide +kernel
theorem dX6_aged_97 : decode cX6_aged 97 = .ok (.getfield 39, 3) := by decide +kernel
theorem dX6_aged_100 : decode cX6_aged 100 = .ok (.getfield 177, 3) := by decide +kernel
theorem dX6_aged_103 : decode cX6_aged 103 = .ok (.ireturn, 1) := by decide +kernel
theorem dX6_aged_104 : decode cX6_aged 104 = .ok (.aload_n 0, 1) := by decide +kernel
theorem dX6_aged_105 : decode cX6_aged 105 = .ok (.getfield 39, 3) := by decide +kernel
theorem dX6_aged_108 : decode cX6_aged 108 = .ok (.getfield 180, 3) := by decide +kernel
theorem dX6_aged_111 : decode cX6_aged 111 = .ok (.ireturn, 1) := by decide +kernel
theorem dX6_aged_112 : decode cX6_aged 112 = .ok (.aload_n 0, 1) := by decide +kernel
theorem dX6_aged_113 : decode cX6_aged 113 = .ok (.getfield 39, 3) := by decide +kernel
theorem dX6_aged_116 : decode cX6_aged 116 = .ok (.getfield 176, 3) := by decide +kernel
theorem dX6_aged_119 : decode cX6_aged 119 = .ok (.ireturn, 1) := by decide +kernel
theorem dX6_take_0 : decode cX6_take 0 = .ok (.aload_n 0, 1) := by decide +kernel
theorem dX6_take_1 : decode cX6_take 1 = .ok (.getfield 10, 3) := by decide +kernel
theorem dX6_take_4 : decode cX6_take 4 = .ok (.iload_n 1, 1) := by decide +kernel
theorem dX6_take_5 : decode cX6_take 5 = .ok (.invokevirtual 76, 3) := by decide +kernel
theorem dX6_take_8 : decode cX6_take 8 = .ok (.ifCond .ne 5, 3) := by decide +kernel
theorem dX6_take_11 : decode cX6_take 11 = .ok (.iconst (-1), 1) := by decide +kernel
theorem dX6_take_12 : decode cX6_take 12 = .ok (.ireturn, 1) := by decide +kernel
theorem dX6_take_13 : decode cX6_take 13 = .ok (.aload_n 0, 1) := by decide +kernel
theorem dX6_take_14 : decode cX6_take 14 = .ok (.getfield 10, 3) := by decide +kernel
theorem dX6_take_17 : decode cX6_take 17 = .ok (.getfield 164, 3) := by decide +kernel
theorem dX6_take_20 : decode cX6_take 20 = .ok (.iload_n 1, 1) := by decide +kernel
theorem dX6_take_21 : decode cX6_take 21 = .ok (.iaload, 1) := by decide +kernel
theorem dX6_take_22 : decode cX6_take 22 = .ok (.ifCond .ne 6, 3) := by decide +kernel
theorem dX6_take_25 : decode cX6_take 25 = .ok (.bipush (-3), 2) := by decide +kernel
theorem dX6_take_27 : decode cX6_take 27 = .ok (.ireturn, 1) := by decide +kernel
theorem dX6_take_28 : decode cX6_take 28 = .ok (.aload_n 0, 1) := by decide +kernel
theorem dX6_take_29 : decode cX6_take 29 = .ok (.getfield 39, 3) := by decide +kernel
theorem dX6_take_32 : decode cX6_take 32 = .ok (.aload_n 0, 1) := by decide +kernel
theorem dX6_take_33 : decode cX6_take 33 = .ok (.getfield 10, 3) := by decide +kernel
theorem dX6_take_36 : decode cX6_take 36 = .ok (.getfield 164, 3) := by decide +kernel
theorem dX6_take_39 : decode cX6_take 39 = .ok (.iload_n 1, 1) := by decide +kernel
theorem dX6_take_40 : decode cX6_take 40 = .ok (.iaload, 1) := by decide +kernel
theorem dX6_take_41 : decode cX6_take 41 = .ok (.invokevirtual 173, 3) := by decide +kernel
theorem dX6_take_44 : decode cX6_take 44 = .ok (.aload_n 0, 1) := by decide +kernel
theorem dX6_take_45 : decode cX6_take 45 = .ok (.getfield 10, 3) := by decide +kernel
theorem dX6_take_48 : decode cX6_take 48 = .ok (.getfield 83, 3) := by decide +kernel
theorem dX6_take_51 : decode cX6_take 51 = .ok (.iload_n 1, 1) := by decide +kernel
theorem dX6_take_52 : decode cX6_take 52 = .ok (.iaload, 1) := by decide +kernel
theorem dX6_take_53 : decode cX6_take 53 = .ok (.aload_n 0, 1) := by decide +kernel
theorem dX6_take_54 : decode cX6_take 54 = .ok (.getfield 39, 3) := by decide +kernel
theorem dX6_take_57 : decode cX6_take 57 = .ok (.getfield 177, 3) := by decide +kernel
theorem dX6_take_60 : decode cX6_take 60 = .ok (.invokestatic 183, 3) := by decide +kernel
theorem dX6_take_63 : decode cX6_take 63 = .ok (.istore_n 2, 1) := by decide +kernel
theorem dX6_take_64 : decode cX6_take 64 = .ok (.aload_n 0, 1) := by decide +kernel
theorem dX6_take_65 : decode cX6_take 65 = .ok (.getfield 10, 3) := by decide +kernel
theorem dX6_take_68 : decode cX6_take 68 = .ok (.getfield 86, 3) := by decide +kernel
theorem dX6_take_71 : decode cX6_take 71 = .ok (.iload_n 1, 1) := by decide +kernel
theorem dX6_take_72 : decode cX6_take 72 = .ok (.iaload, 1) := by decide +kernel
theorem dX6_take_73 : decode cX6_take 73 = .ok (.aload_n 0, 1) := by decide +kernel
theorem dX6_take_74 : decode cX6_take 74 = .ok (.getfield 39, 3) := by decide +kernel
theorem dX6_take_77 : decode cX6_take 77 = .ok (.getfield 180, 3) := by decide +kernel
theorem dX6_take_80 : decode cX6_take 80 = .ok (.invokestatic 188, 3) := by decide +kernel
theorem dX6_take_83 : decode cX6_take 83 = .ok (.istore_n 3, 1) := by decide +kernel
theorem dX6_take_84 : decode cX6_take 84 = .ok (.aload_n 0, 1) := by decide +kernel
theorem dX6_take_85 : decode cX6_take 85 = .ok (.getfield 39, 3) := by decide +kernel
theorem dX6_take_88 : decode cX6_take 88 = .ok (.getfield 176, 3) := by decide +kernel
theorem dX6_take_91 : decode cX6_take 91 = .ok (.ifCond .eq 8, 3) := by decide +kernel
theorem dX6_take_94 : decode cX6_take 94 = .ok (.iload_n 2, 1) := by decide +kernel
theorem dX6_take_95 : decode cX6_take 95 = .ok (.iload_n 3, 1) := by decide +kernel
theorem dX6_take_96 : decode cX6_take 96 = .ok (.if_icmp .le 6, 3) := by decide +kernel
theorem dX6_take_99 : decode cX6_take 99 = .ok (.bipush (-5), 2) := by decide +kernel
theorem dX6_take_101 : decode cX6_take 101 = .ok (.ireturn, 1) := by decide +kernel
theorem dX6_take_102 : decode cX6_take 102 = .ok (.aload_n 0, 1) := by decide +kernel
theorem dX6_take_103 : decode cX6_take 103 = .ok (.getfield 10, 3) := by decide +kernel
theorem dX6_take_106 : decode cX6_take 106 = .ok (.getfield 83, 3) := by decide +kernel
theorem dX6_take_109 : decode cX6_take 109 = .ok (.iload_n 1, 1) := by decide +kernel
theorem dX6_take_110 : decode cX6_take 110 = .ok (.iload_n 2, 1) := by decide +kernel
theorem dX6_take_111 : decode cX6_take 111 = .ok (.iastore, 1) := by decide +kernel
theorem dX6_take_112 : decode cX6_take 112 = .ok (.aload_n 0, 1) := by decide +kernel
theorem dX6_take_113 : decode cX6_take 113 = .ok (.getfield 10, 3) := by decide +kernel
theorem dX6_take_116 : decode cX6_take 116 = .ok (.getfield 86, 3) := by decide +kernel
theorem dX6_take_119 : decode cX6_take 119 = .ok (.iload_n 1, 1) := by decide +kernel
theorem dX6_take_120 : decode cX6_take 120 = .ok (.iload_n 3, 1) := by decide +kernel
theorem dX6_take_121 : decode cX6_take 121 = .ok (.iastore, 1) := by decide +kernel
theorem dX6_take_122 : decode cX6_take 122 = .ok (.aload_n 0, 1) := by decide +kernel
theorem dX6_take_123 : decode cX6_take 123 = .ok (.getfield 32, 3) := by decide +kernel
theorem dX6_take_126 : decode cX6_take 126 = .ok (.invokevirtual 69, 3) := by decide +kernel
theorem dX6_take_129 : decode cX6_take 129 = .ok (.iload_n 3, 1) := by decide +kernel
theorem dX6_take_130 : decode cX6_take 130 = .ok (.iload_n 2, 1) := by decide +kernel
theorem dX6_take_131 : decode cX6_take 131 = .ok (.isub, 1) := by decide +kernel
theorem dX6_take_132 : decode cX6_take 132 = .ok (.iconst 1, 1) := by decide +kernel
theorem dX6_take_133 : decode cX6_take 133 = .ok (.iadd, 1) := by decide +kernel
theorem dX6_take_134 : decode cX6_take 134 = .ok (.ireturn, 1) := by decide +kernel
theorem dX6_hide_0 : decode cX6_hide 0 = .ok (.iload_n 1, 1) := by decide +kernel
theorem dX6_hide_1 : decode cX6_hide 1 = .ok (.iconst 0, 1) := by decide +kernel
theorem dX6_hide_2 : decode cX6_hide 2 = .ok (.bipush 7, 2) := by decide +kernel
theorem dX6_hide_4 : decode cX6_hide 4 = .ok (.invokestatic 93, 3) := by decide +kernel
theorem dX6_hide_7 : decode cX6_hide 7 = .ok (.ifCond .ne 5, 3) := by decide +kernel
theorem dX6_hide_10 : decode cX6_hide 10 = .ok (.iconst (-1), 1) := by decide +kernel
theorem dX6_hide_11 : decode cX6_hide 11 = .ok (.ireturn, 1) := by decide +kernel
theorem dX6_hide_12 : decode cX6_hide 12 = .ok (.iload_n 3, 1) := by decide +kernel
theorem dX6_hide_13 : decode cX6_hide 13 = .ok (.iconst 0, 1) := by decide +kernel
theorem dX6_hide_14 : decode cX6_hide 14 = .ok (.sipush 255, 3) := by decide +kernel
theorem dX6_hide_17 : decode cX6_hide 17 = .ok (.invokestatic 93, 3) := by decide +kernel
theorem dX6_hide_20 : decode cX6_hide 20 = .ok (.ifCond .ne 6, 3) := by decide +kernel
theorem dX6_hide_23 : decode cX6_hide 23 = .ok (.bipush (-2), 2) := by decide +kernel
theorem dX6_hide_25 : decode cX6_hide 25 = .ok (.ireturn, 1) := by decide +kernel
theorem dX6_hide_26 : decode cX6_hide 26 = .ok (.iload_n 2, 1) := by decide +kernel
theorem dX6_hide_27 : decode cX6_hide 27 = .ok (.ifCond .eq 13, 3) := by decide +kernel
theorem dX6_hide_30 : decode cX6_hide 30 = .ok (.aload_n 0, 1) := by decide +kernel
theorem dX6_hide_31 : decode cX6_hide 31 = .ok (.getfield 10, 3) := by decide +kernel
theorem dX6_hide_34 : decode cX6_hide 34 = .ok (.getfield 191, 3) := by decide +kernel
theorem dX6_hide_37 : decode cX6_hide 37 = .ok (.goto 10, 3) := by decide +kernel
theorem dX6_hide_40 : decode cX6_hide 40 = .ok (.aload_n 0, 1) := by decide +kernel
theorem dX6_hide_41 : decode cX6_hide 41 = .ok (.getfield 10, 3) := by decide +kernel
theorem dX6_hide_44 : decode cX6_hide 44 = .ok (.getfield 194, 3) := by decide +kernel
theorem dX6_hide_47 : decode cX6_hide 47 = .ok (.astore 4, 2) := by decide +kernel
theorem dX6_hide_49 : decode cX6_hide 49 = .ok (.aload 4, 2) := by decide +kernel
theorem dX6_hide_51 : decode cX6_hide 51 = .ok (.iload_n 1, 1) := by decide +kernel
theorem dX6_hide_52 : decode cX6_hide 52 = .ok (.iaload, 1) := by decide +kernel
theorem dX6_hide_53 : decode cX6_hide 53 = .ok (.istore 5, 2) := by decide +kernel
theorem dX6_hide_55 : decode cX6_hide 55 = .ok (.aload 4, 2) := by decide +kernel
theorem dX6_hide_57 : decode cX6_hide 57 = .ok (.iload_n 1, 1) := by decide +kernel
theorem dX6_hide_58 : decode cX6_hide 58 = .ok (.iload_n 3, 1) := by decide +kernel
theorem dX6_hide_59 : decode cX6_hide 59 = .ok (.iastore, 1) := by decide +kernel
theorem dX6_hide_60 : decode cX6_hide 60 = .ok (.iload 5, 2) := by decide +kernel
theorem dX6_hide_62 : decode cX6_hide 62 = .ok (.ireturn, 1) := by decide +kernel
theorem dX6_hides_0 : decode cX6_hides 0 = .ok (.iload_n 1, 1) := by decide +kernel
theorem dX6_hides_1 : decode cX6_hides 1 = .ok (.invokestatic 57, 3) := by decide +kernel
theorem dX6_hides_4 : decode cX6_hides 4 = .ok (.ifCond .eq 12, 3) := by decide +kernel
theorem dX6_hides_7 : decode cX6_hides 7 = .ok (.iload_n 2, 1) := by decide +kernel
theorem dX6_hides_8 : decode cX6_hides 8 = .ok (.iconst 0, 1) := by decide +kernel
theorem dX6_hides_9 : decode cX6_hides 9 = .ok (.iconst 1, 1) := by decide +kernel
theorem dX6_hides_10 : decode cX6_hides 10 = .ok (.invokestatic 93, 3) := by decide +kernel
theorem dX6_hides_13 : decode cX6_hides 13 = .ok (.ifCond .ne 6, 3) := by decide +kernel
theorem dX6_hides_16 : decode cX6_hides 16 = .ok (.bipush (-2), 2) := by decide +kernel
theorem dX6_hides_18 : decode cX6_hides 18 = .ok (.ireturn, 1) := by decide +kernel
theorem dX6_hides_19 : decode cX6_hides 19 = .ok (.iload_n 2, 1) := by decide +kernel
theorem dX6_hides_20 : decode cX6_hides 20 = .ok (.ifCond .ne 14, 3) := by decide +kernel
theorem dX6_hides_23 : decode cX6_hides 23 = .ok (.aload_n 0, 1) := by decide +kernel
theorem dX6_hides_24 : decode cX6_hides 24 = .ok (.getfield 10, 3) := by decide +kernel
theorem dX6_hides_27 : decode cX6_hides 27 = .ok (.iload_n 1, 1) := by decide +kernel
theorem dX6_hides_28 : decode cX6_hides 28 = .ok (.invokevirtual 197, 3) := by decide +kernel
theorem dX6_hides_31 : decode cX6_hides 31 = .ok (.goto 7, 3) := by decide +kernel
theorem dX6_hides_34 : decode cX6_hides 34 = .ok (.iload_n 1, 1) := by decide +kernel
theorem dX6_hides_35 : decode cX6_hides 35 = .ok (.invokestatic 200, 3) := by decide +kernel
theorem dX6_hides_38 : decode cX6_hides 38 = .ok (.ireturn, 1) := by decide +kernel
theorem dX6_cover_0 : decode cX6_cover 0 = .ok (.iload_n 1, 1) := by decide +kernel
theorem dX6_cover_1 : decode cX6_cover 1 = .ok (.invokestatic 57, 3) := by decide +kernel
theorem dX6_cover_4 : decode cX6_cover 4 = .ok (.ifCond .ne 6, 3) := by decide +kernel
theorem dX6_cover_7 : decode cX6_cover 7 = .ok (.bipush (-2), 2) := by decide +kernel
theorem dX6_cover_9 : decode cX6_cover 9 = .ok (.ireturn, 1) := by decide +kernel
theorem dX6_cover_10 : decode cX6_cover 10 = .ok (.aload_n 0, 1) := by decide +kernel
theorem dX6_cover_11 : decode cX6_cover 11 = .ok (.getfield 46, 3) := by decide +kernel
theorem dX6_cover_14 : decode cX6_cover 14 = .ok (.iload_n 1, 1) := by decide +kernel
theorem dX6_cover_15 : decode cX6_cover 15 = .ok (.invokestatic 203, 3) := by decide +kernel
theorem dX6_cover_18 : decode cX6_cover 18 = .ok (.invokevirtual 206, 3) := by decide +kernel
theorem dX6_cover_21 : decode cX6_cover 21 = .ok (.ireturn, 1) := by decide +kernel
theorem dX6_under_0 : decode cX6_under 0 = .ok (.iload_n 1, 1) := by decide +kernel
theorem dX6_under_1 : decode cX6_under 1 = .ok (.invokestatic 57, 3) := by decide +kernel
theorem dX6_under_4 : decode cX6_under 4 = .ok (.ifCond .ne 6, 3) := by decide +kernel
theorem dX6_under_7 : decode cX6_under 7 = .ok (.bipush (-2), 2) := by decide +kernel
theorem dX6_under_9 : decode cX6_under 9 = .ok (.ireturn, 1) := by decide +kernel
theorem dX6_under_10 : decode cX6_under 10 = .ok (.aload_n 0, 1) := by decide +kernel
theorem dX6_under_11 : decode cX6_under 11 = .ok (.getfield 10, 3) := by decide +kernel
theorem dX6_under_14 : decode cX6_under 14 = .ok (.iload_n 1, 1) := by decide +kernel
theorem dX6_under_15 : decode cX6_under 15 = .ok (.invokevirtual 197, 3) := by decide +kernel
theorem dX6_under_18 : decode cX6_under 18 = .ok (.istore_n 2, 1) := by decide +kernel
theorem dX6_under_19 : decode cX6_under 19 = .ok (.iconst 0, 1) := by decide +kernel
theorem dX6_under_20 : decode cX6_under 20 = .ok (.istore_n 3, 1) := by decide +kernel
theorem dX6_under_21 : decode cX6_under 21 = .ok (.iconst 0, 1) := by decide +kernel
theorem dX6_under_22 : decode cX6_under 22 = .ok (.istore 4, 2) := by decide +kernel
theorem dX6_under_24 : decode cX6_under 24 = .ok (.iload 4, 2) := by decide +kernel
theorem dX6_under_26 : decode cX6_under 26 = .ok (.aload_n 0, 1) := by decide +kernel
theorem dX6_under_27 : decode cX6_under 27 = .ok (.getfield 10, 3) := by decide +kernel
theorem dX6_under_30 : decode cX6_under 30 = .ok (.getfield 65, 3) := by decide +kernel
theorem dX6_under_33 : decode cX6_under 33 = .ok (.if_icmp .ge 34, 3) := by decide +kernel
theorem dX6_under_36 : decode cX6_under 36 = .ok (.aload_n 0, 1) := by decide +kernel
theorem dX6_under_37 : decode cX6_under 37 = .ok (.getfield 10, 3) := by decide +kernel
theorem dX6_under_40 : decode cX6_under 40 = .ok (.getfield 79, 3) := by decide +kernel
theorem dX6_under_43 : decode cX6_under 43 = .ok (.iload 4, 2) := by decide +kernel
theorem dX6_under_45 : decode cX6_under 45 = .ok (.iaload, 1) := by decide +kernel
theorem dX6_under_46 : decode cX6_under 46 = .ok (.iload_n 1, 1) := by decide +kernel
theorem dX6_under_47 : decode cX6_under 47 = .ok (.iload_n 2, 1) := by decide +kernel
theorem dX6_under_48 : decode cX6_under 48 = .ok (.invokestatic 209, 3) := by decide +kernel
theorem dX6_under_51 : decode cX6_under 51 = .ok (.ifCond .eq 10, 3) := by decide +kernel
theorem dX6_under_54 : decode cX6_under 54 = .ok (.iload_n 3, 1) := by decide +kernel
theorem dX6_under_55 : decode cX6_under 55 = .ok (.iconst 1, 1) := by decide +kernel
theorem dX6_under_56 : decode cX6_under 56 = .ok (.iload 4, 2) := by decide +kernel
theorem dX6_under_58 : decode cX6_under 58 = .ok (.ishl, 1) := by decide +kernel
theorem dX6_under_59 : decode cX6_under 59 = .ok (.ior, 1) := by decide +kernel
theorem dX6_under_60 : decode cX6_under 60 = .ok (.istore_n 3, 1) := by decide +kernel
theorem dX6_under_61 : decode cX6_under 61 = .ok (.iinc 4 1, 3) := by decide +kernel
theorem dX6_under_64 : decode cX6_under 64 = .ok (.goto (-40), 3) := by decide +kernel
theorem dX6_under_67 : decode cX6_under 67 = .ok (.iload_n 3, 1) := by decide +kernel
theorem dX6_under_68 : decode cX6_under 68 = .ok (.ireturn, 1) := by decide +kernel
theorem dX6_man_0 : decode cX6_man 0 = .ok (.aload_n 0, 1) := by decide +kernel
theorem dX6_man_1 : decode cX6_man 1 = .ok (.getfield 53, 3) := by decide +kernel
theorem dX6_man_4 : decode cX6_man 4 = .ok (.getfield 212, 3) := by decide +kernel
theorem dX6_man_7 : decode cX6_man 7 = .ok (.bipush 8, 2) := by decide +kernel
theorem dX6_man_9 : decode cX6_man 9 = .ok (.if_icmp .lt 6, 3) := by decide +kernel
theorem dX6_man_12 : decode cX6_man 12 = .ok (.bipush (-4), 2) := by decide +kernel
theorem dX6_man_14 : decode cX6_man 14 = .ok (.ireturn, 1) := by decide +kernel
theorem dX6_man_15 : decode cX6_man 15 = .ok (.aload_n 0, 1) := by decide +kernel
theorem dX6_man_16 : decode cX6_man 16 = .ok (.getfield 53, 3) := by decide +kernel
theorem dX6_man_19 : decode cX6_man 19 = .ok (.dup, 1) := by decide +kernel
theorem dX6_man_20 : decode cX6_man 20 = .ok (.getfield 212, 3) := by decide +kernel
theorem dX6_man_23 : decode cX6_man 23 = .ok (.iconst 1, 1) := by decide +kernel
theorem dX6_man_24 : decode cX6_man 24 = .ok (.iadd, 1) := by decide +kernel
theorem dX6_man_25 : decode cX6_man 25 = .ok (.putfield 212, 3) := by decide +kernel
theorem dX6_man_28 : decode cX6_man 28 = .ok (.aload_n 0, 1) := by decide +kernel
theorem dX6_man_29 : decode cX6_man 29 = .ok (.getfield 53, 3) := by decide +kernel
theorem dX6_man_32 : decode cX6_man 32 = .ok (.getfield 212, 3) := by decide +kernel
theorem dX6_man_35 : decode cX6_man 35 = .ok (.iconst 1, 1) := by decide +kernel
theorem dX6_man_36 : decode cX6_man 36 = .ok (.isub, 1) := by decide +kernel
theorem dX6_man_37 : decode cX6_man 37 = .ok (.ireturn, 1) := by decide +kernel
theorem dX6_meet_0 : decode cX6_meet 0 = .ok (.aload_n 0, 1) := by decide +kernel
theorem dX6_meet_1 : decode cX6_meet 1 = .ok (.getfield 53, 3) := by decide +kernel
theorem dX6_meet_4 : decode cX6_meet 4 = .ok (.iload_n 1, 1) := by decide +kernel
theorem dX6_meet_5 : decode cX6_meet 5 = .ok (.invokevirtual 215, 3) := by decide +kernel
theorem dX6_meet_8 : decode cX6_meet 8 = .ok (.ifCond .ne 5, 3) := by decide +kernel
theorem dX6_meet_11 : decode cX6_meet 11 = .ok (.iconst (-1), 1) := by decide +kernel
theorem dX6_meet_12 : decode cX6_meet 12 = .ok (.ireturn, 1) := by decide +kernel
theorem dX6_meet_13 : decode cX6_meet 13 = .ok (.iload_n 2, 1) := by decide +kernel
theorem dX6_meet_14 : decode cX6_meet 14 = .ok (.aload_n 0, 1) := by decide +kernel
theorem dX6_meet_15 : decode cX6_meet 15 = .ok (.getfield 53, 3) := by decide +kernel
theorem dX6_meet_18 : decode cX6_meet 18 = .ok (.invokevirtual 218, 3) := by decide +kernel
theorem dX6_meet_21 : decode cX6_meet 21 = .ok (.bipush 99, 2) := by decide +kernel
theorem dX6_meet_23 : decode cX6_meet 23 = .ok (.invokestatic 93, 3) := by decide +kernel
theorem dX6_meet_26 : decode cX6_meet 26 = .ok (.ifCond .ne 6, 3) := by decide +kernel
theorem dX6_meet_29 : decode cX6_meet 29 = .ok (.bipush (-2), 2) := by decide +kernel
theorem dX6_meet_31 : decode cX6_meet 31 = .ok (.ireturn, 1) := by decide +kernel
theorem dX6_meet_32 : decode cX6_meet 32 = .ok (.aload_n 0, 1) := by decide +kernel
theorem dX6_meet_33 : decode cX6_meet 33 = .ok (.getfield 53, 3) := by decide +kernel
theorem dX6_meet_36 : decode cX6_meet 36 = .ok (.getfield 221, 3) := by decide +kernel
theorem dX6_meet_39 : decode cX6_meet 39 = .ok (.bipush 16, 2) := by decide +kernel
theorem dX6_meet_41 : decode cX6_meet 41 = .ok (.if_icmp .lt 6, 3) := by decide +kernel
theorem dX6_meet_44 : decode cX6_meet 44 = .ok (.bipush (-4), 2) := by decide +kernel
theorem dX6_meet_46 : decode cX6_meet 46 = .ok (.ireturn, 1) := by decide +kernel
theorem dX6_meet_47 : decode cX6_meet 47 = .ok (.aload_n 0, 1) := by decide +kernel
theorem dX6_meet_48 : decode cX6_meet 48 = .ok (.getfield 53, 3) := by decide +kernel
theorem dX6_meet_51 : decode cX6_meet 51 = .ok (.iload_n 1, 1) := by decide +kernel
theorem dX6_meet_52 : decode cX6_meet 52 = .ok (.iload_n 2, 1) := by decide +kernel
theorem dX6_meet_53 : decode cX6_meet 53 = .ok (.invokevirtual 224, 3) := by decide +kernel
theorem dX6_meet_56 : decode cX6_meet 56 = .ok (.ireturn, 1) := by decide +kernel
theorem dX6_sick_0 : decode cX6_sick 0 = .ok (.aload_n 0, 1) := by decide +kernel
theorem dX6_sick_1 : decode cX6_sick 1 = .ok (.getfield 53, 3) := by decide +kernel
theorem dX6_sick_4 : decode cX6_sick 4 = .ok (.iload_n 1, 1) := by decide +kernel
theorem dX6_sick_5 : decode cX6_sick 5 = .ok (.invokevirtual 215, 3) := by decide +kernel
theorem dX6_sick_8 : decode cX6_sick 8 = .ok (.ifCond .ne 5, 3) := by decide +kernel
theorem dX6_sick_11 : decode cX6_sick 11 = .ok (.iconst (-1), 1) := by decide +kernel
theorem dX6_sick_12 : decode cX6_sick 12 = .ok (.ireturn, 1) := by decide +kernel
theorem dX6_sick_13 : decode cX6_sick 13 = .ok (.iload_n 2, 1) := by decide +kernel
theorem dX6_sick_14 : decode cX6_sick 14 = .ok (.iconst (-1), 1) := by decide +kernel
theorem dX6_sick_15 : decode cX6_sick 15 = .ok (.bipush 99, 2) := by decide +kernel
theorem dX6_sick_17 : decode cX6_sick 17 = .ok (.invokestatic 93, 3) := by decide +kernel
theorem dX6_sick_20 : decode cX6_sick 20 = .ok (.ifCond .ne 6, 3) := by decide +kernel
theorem dX6_sick_23 : decode cX6_sick 23 = .ok (.bipush (-2), 2) := by decide +kernel
theorem dX6_sick_25 : decode cX6_sick 25 = .ok (.ireturn, 1) := by decide +kernel
theorem dX6_sick_26 : decode cX6_sick 26 = .ok (.aload_n 0, 1) := by decide +kernel
theorem dX6_sick_27 : decode cX6_sick 27 = .ok (.getfield 53, 3) := by decide +kernel
theorem dX6_sick_30 : decode cX6_sick 30 = .ok (.getfield 227, 3) := by decide +kernel
theorem dX6_sick_33 : decode cX6_sick 33 = .ok (.iload_n 1, 1) := by decide +kernel
theorem dX6_sick_34 : decode cX6_sick 34 = .ok (.iaload, 1) := by decide +kernel
theorem dX6_sick_35 : decode cX6_sick 35 = .ok (.istore_n 3, 1) := by decide +kernel
theorem dX6_sick_36 : decode cX6_sick 36 = .ok (.aload_n 0, 1) := by decide +kernel
theorem dX6_sick_37 : decode cX6_sick 37 = .ok (.getfield 53, 3) := by decide +kernel
theorem dX6_sick_40 : decode cX6_sick 40 = .ok (.getfield 227, 3) := by decide +kernel
theorem dX6_sick_43 : decode cX6_sick 43 = .ok (.iload_n 1, 1) := by decide +kernel
theorem dX6_sick_44 : decode cX6_sick 44 = .ok (.iload_n 2, 1) := by decide +kernel
theorem dX6_sick_45 : decode cX6_sick 45 = .ok (.iastore, 1) := by decide +kernel
theorem dX6_sick_46 : decode cX6_sick 46 = .ok (.iload_n 3, 1) := by decide +kernel
theorem dX6_sick_47 : decode cX6_sick 47 = .ok (.iconst (-1), 1) := by decide +kernel
theorem dX6_sick_48 : decode cX6_sick 48 = .ok (.if_icmp .ne 8, 3) := by decide +kernel
theorem dX6_sick_51 : decode cX6_sick 51 = .ok (.bipush (-6), 2) := by decide +kernel
theorem dX6_sick_53 : decode cX6_sick 53 = .ok (.goto 4, 3) := by decide +kernel
theorem dX6_sick_56 : decode cX6_sick 56 = .ok (.iload_n 3, 1) := by decide +kernel
theorem dX6_sick_57 : decode cX6_sick 57 = .ok (.ireturn, 1) := by decide +kernel
theorem dX6_from_0 : decode cX6_from 0 = .ok (.aload_n 0, 1) := by decide +kernel
theorem dX6_from_1 : decode cX6_from 1 = .ok (.getfield 53, 3) := by decide +kernel
theorem dX6_from_4 : decode cX6_from 4 = .ok (.iload_n 1, 1) := by decide +kernel
theorem dX6_from_5 : decode cX6_from 5 = .ok (.invokevirtual 215, 3) := by decide +kernel
theorem dX6_from_8 : decode cX6_from 8 = .ok (.ifCond .ne 5, 3) := by decide +kernel
theorem dX6_from_11 : decode cX6_from 11 = .ok (.iconst (-1), 1) := by decide +kernel
theorem dX6_from_12 : decode cX6_from 12 = .ok (.ireturn, 1) := by decide +kernel
theorem dX6_from_13 : decode cX6_from 13 = .ok (.aload_n 0, 1) := by decide +kernel
theorem dX6_from_14 : decode cX6_from 14 = .ok (.getfield 53, 3) := by decide +kernel
theorem dX6_from_17 : decode cX6_from 17 = .ok (.iload_n 1, 1) := by decide +kernel
theorem dX6_from_18 : decode cX6_from 18 = .ok (.aload_n 0, 1) := by decide +kernel
theorem dX6_from_19 : decode cX6_from 19 = .ok (.getfield 10, 3) := by decide +kernel
theorem dX6_from_22 : decode cX6_from 22 = .ok (.getfield 97, 3) := by decide +kernel
theorem dX6_from_25 : decode cX6_from 25 = .ok (.iconst 2, 1) := by decide +kernel
theorem dX6_from_26 : decode cX6_from 26 = .ok (.iaload, 1) := by decide +kernel
theorem dX6_from_27 : decode cX6_from 27 = .ok (.aload_n 0, 1) := by decide +kernel
theorem dX6_from_28 : decode cX6_from 28 = .ok (.getfield 10, 3) := by decide +kernel
theorem dX6_from_31 : decode cX6_from 31 = .ok (.getfield 97, 3) := by decide +kernel
theorem dX6_from_34 : decode cX6_from 34 = .ok (.iconst 3, 1) := by decide +kernel
theorem dX6_from_35 : decode cX6_from 35 = .ok (.iaload, 1) := by decide +kernel
theorem dX6_from_36 : decode cX6_from 36 = .ok (.invokevirtual 230, 3) := by decide +kernel
theorem dX6_from_39 : decode cX6_from 39 = .ok (.ireturn, 1) := by decide +kernel
theorem dX6_firsts_0 : decode cX6_firsts 0 = .ok (.iload_n 1, 1) := by decide +kernel
theorem dX6_firsts_1 : decode cX6_firsts 1 = .ok (.iconst 0, 1) := by decide +kernel
theorem dX6_firsts_2 : decode cX6_firsts 2 = .ok (.iconst 1, 1) := by decide +kernel
theorem dX6_firsts_3 : decode cX6_firsts 3 = .ok (.invokestatic 93, 3) := by decide +kernel
theorem dX6_firsts_6 : decode cX6_firsts 6 = .ok (.ifCond .ne 6, 3) := by decide +kernel
theorem dX6_firsts_9 : decode cX6_firsts 9 = .ok (.bipush (-2), 2) := by decide +kernel
theorem dX6_firsts_11 : decode cX6_firsts 11 = .ok (.ireturn, 1) := by decide +kernel
theorem dX6_firsts_12 : decode cX6_firsts 12 = .ok (.iload_n 1, 1) := by decide +kernel
theorem dX6_firsts_13 : decode cX6_firsts 13 = .ok (.iconst 1, 1) := by decide +kernel
theorem dX6_firsts_14 : decode cX6_firsts 14 = .ok (.if_icmp .ne 11, 3) := by decide +kernel
theorem dX6_firsts_17 : decode cX6_firsts 17 = .ok (.aload_n 0, 1) := by decide +kernel
theorem dX6_firsts_18 : decode cX6_firsts 18 = .ok (.getfield 53, 3) := by decide +kernel
theorem dX6_firsts_21 : decode cX6_firsts 21 = .ok (.invokevirtual 233, 3) := by decide +kernel
theorem dX6_firsts_24 : decode cX6_firsts 24 = .ok (.ireturn, 1) := by decide +kernel
theorem dX6_firsts_25 : decode cX6_firsts 25 = .ok (.aload_n 0, 1) := by decide +kernel
theorem dX6_firsts_26 : decode cX6_firsts 26 = .ok (.getfield 53, 3) := by decide +kernel
theorem dX6_firsts_29 : decode cX6_firsts 29 = .ok (.aload_n 0, 1) := by decide +kernel
theorem dX6_firsts_30 : decode cX6_firsts 30 = .ok (.getfield 10, 3) := by decide +kernel
theorem dX6_firsts_33 : decode cX6_firsts 33 = .ok (.getfield 97, 3) := by decide +kernel
theorem dX6_firsts_36 : decode cX6_firsts 36 = .ok (.iconst 2, 1) := by decide +kernel
theorem dX6_firsts_37 : decode cX6_firsts 37 = .ok (.iaload, 1) := by decide +kernel
theorem dX6_firsts_38 : decode cX6_firsts 38 = .ok (.aload_n 0, 1) := by decide +kernel
theorem dX6_firsts_39 : decode cX6_firsts 39 = .ok (.getfield 10, 3) := by decide +kernel
theorem dX6_firsts_42 : decode cX6_firsts 42 = .ok (.getfield 97, 3) := by decide +kernel
theorem dX6_firsts_45 : decode cX6_firsts 45 = .ok (.iconst 3, 1) := by decide +kernel
theorem dX6_firsts_46 : decode cX6_firsts 46 = .ok (.iaload, 1) := by decide +kernel
theorem dX6_firsts_47 : decode cX6_firsts 47 = .ok (.invokevirtual 236, 3) := by decide +kernel
theorem dX6_firsts_50 : decode cX6_firsts 50 = .ok (.aload_n 0, 1) := by decide +kernel
theorem dX6_firsts_51 : decode cX6_firsts 51 = .ok (.getfield 53, 3) := by decide +kernel
theorem dX6_firsts_54 : decode cX6_firsts 54 = .ok (.getfield 240, 3) := by decide +kernel
theorem dX6_firsts_57 : decode cX6_firsts 57 = .ok (.ireturn, 1) := by decide +kernel
theorem dX6_must_0 : decode cX6_must 0 = .ok (.aload_n 0, 1) := by decide +kernel
theorem dX6_must_1 : decode cX6_must 1 = .ok (.getfield 53, 3) := by decide +kernel
theorem dX6_must_4 : decode cX6_must 4 = .ok (.iload_n 1, 1) := by decide +kernel
theorem dX6_must_5 : decode cX6_must 5 = .ok (.invokevirtual 215, 3) := by decide +kernel
theorem dX6_must_8 : decode cX6_must 8 = .ok (.ifCond .ne 5, 3) := by decide +kernel
theorem dX6_must_11 : decode cX6_must 11 = .ok (.iconst (-1), 1) := by decide +kernel
theorem dX6_must_12 : decode cX6_must 12 = .ok (.ireturn, 1) := by decide +kernel
theorem dX6_must_13 : decode cX6_must 13 = .ok (.iload_n 2, 1) := by decide +kernel
theorem dX6_must_14 : decode cX6_must 14 = .ok (.iconst 0, 1) := by decide +kernel
theorem dX6_must_15 : decode cX6_must 15 = .ok (.iconst 1, 1) := by decide +kernel
theorem dX6_must_16 : decode cX6_must 16 = .ok (.invokestatic 93, 3) := by decide +kernel
theorem dX6_must_19 : decode cX6_must 19 = .ok (.ifCond .ne 6, 3) := by decide +kernel
theorem dX6_must_22 : decode cX6_must 22 = .ok (.bipush (-2), 2) := by decide +kernel
theorem dX6_must_24 : decode cX6_must 24 = .ok (.ireturn, 1) := by decide +kernel
theorem dX6_must_25 : decode cX6_must 25 = .ok (.aload_n 0, 1) := by decide +kernel
theorem dX6_must_26 : decode cX6_must 26 = .ok (.getfield 53, 3) := by decide +kernel
theorem dX6_must_29 : decode cX6_must 29 = .ok (.aload_n 0, 1) := by decide +kernel
theorem dX6_must_30 : decode cX6_must 30 = .ok (.getfield 10, 3) := by decide +kernel
theorem dX6_must_33 : decode cX6_must 33 = .ok (.getfield 97, 3) := by decide +kernel
theorem dX6_must_36 : decode cX6_must 36 = .ok (.iconst 2, 1) := by decide +kernel
theorem dX6_must_37 : decode cX6_must 37 = .ok (.iaload, 1) := by decide +kernel
theorem dX6_must_38 : decode cX6_must 38 = .ok (.aload_n 0, 1) := by decide +kernel
theorem dX6_must_39 : decode cX6_must 39 = .ok (.getfield 10, 3) := by decide +kernel
theorem dX6_must_42 : decode cX6_must 42 = .ok (.getfield 97, 3) := by decide +kernel
theorem dX6_must_45 : decode cX6_must 45 = .ok (.iconst 3, 1) := by decide +kernel
theorem dX6_must_46 : decode cX6_must 46 = .ok (.iaload, 1) := by decide +kernel
theorem dX6_must_47 : decode cX6_must 47 = .ok (.invokevirtual 236, 3) := by decide +kernel
theorem dX6_must_50 : decode cX6_must 50 = .ok (.iload_n 2, 1) := by decide +kernel
theorem dX6_must_51 : decode cX6_must 51 = .ok (.ifCond .ne 14, 3) := by decide +kernel
theorem dX6_must_54 : decode cX6_must 54 = .ok (.aload_n 0, 1) := by decide +kernel
theorem dX6_must_55 : decode cX6_must 55 = .ok (.getfield 53, 3) := by decide +kernel
theorem dX6_must_58 : decode cX6_must 58 = .ok (.iload_n 1, 1) := by decide +kernel
theorem dX6_must_59 : decode cX6_must 59 = .ok (.invokevirtual 243, 3) := by decide +kernel
theorem dX6_must_62 : decode cX6_must 62 = .ok (.goto 18, 3) := by decide +kernel
theorem dX6_must_65 : decode cX6_must 65 = .ok (.aload_n 0, 1) := by decide +kernel
theorem dX6_must_66 : decode cX6_must 66 = .ok (.getfield 53, 3) := by decide +kernel
theorem dX6_must_69 : decode cX6_must 69 = .ok (.iload_n 1, 1) := by decide +kernel
theorem dX6_must_70 : decode cX6_must 70 = .ok (.aload_n 0, 1) := by decide +kernel
theorem dX6_must_71 : decode cX6_must 71 = .ok (.getfield 53, 3) := by decide +kernel
theorem dX6_must_74 : decode cX6_must 74 = .ok (.invokevirtual 233, 3) := by decide +kernel
theorem dX6_must_77 : decode cX6_must 77 = .ok (.invokevirtual 246, 3) := by decide +kernel
theorem dX6_must_80 : decode cX6_must 80 = .ok (.ireturn, 1) := by decide +kernel
theorem dX6_image_0 : decode cX6_image 0 = .ok (.iload_n 1, 1) := by decide +kernel
theorem dX6_image_1 : decode cX6_image 1 = .ok (.iconst 0, 1) := by decide +kernel
theorem dX6_image_2 : decode cX6_image 2 = .ok (.iconst 1, 1) := by decide +kernel
theorem dX6_image_3 : decode cX6_image 3 = .ok (.invokestatic 93, 3) := by decide +kernel
theorem dX6_image_6 : decode cX6_image 6 = .ok (.ifCond .ne 6, 3) := by decide +kernel
theorem dX6_image_9 : decode cX6_image 9 = .ok (.bipush (-2), 2) := by decide +kernel
theorem dX6_image_11 : decode cX6_image 11 = .ok (.ireturn, 1) := by decide +kernel
theorem dX6_image_12 : decode cX6_image 12 = .ok (.aload_n 0, 1) := by decide +kernel
theorem dX6_image_13 : decode cX6_image 13 = .ok (.getfield 16, 3) := by decide +kernel
theorem dX6_image_16 : decode cX6_image 16 = .ok (.iload_n 1, 1) := by decide +kernel
theorem dX6_image_17 : decode cX6_image 17 = .ok (.aaload, 1) := by decide +kernel
theorem dX6_image_18 : decode cX6_image 18 = .ok (.astore_n 2, 1) := by decide +kernel
theorem dX6_image_19 : decode cX6_image 19 = .ok (.aload_n 2, 1) := by decide +kernel
theorem dX6_image_20 : decode cX6_image 20 = .ok (.ifnonnull 18, 3) := by decide +kernel
theorem dX6_image_23 : decode cX6_image 23 = .ok (.new 7, 3) := by decide +kernel
theorem dX6_image_26 : decode cX6_image 26 = .ok (.dup, 1) := by decide +kernel
theorem dX6_image_27 : decode cX6_image 27 = .ok (.invokespecial 9, 3) := by decide +kernel
theorem dX6_image_30 : decode cX6_image 30 = .ok (.astore_n 2, 1) := by decide +kernel
theorem dX6_image_31 : decode cX6_image 31 = .ok (.aload_n 0, 1) := by decide +kernel
theorem dX6_image_32 : decode cX6_image 32 = .ok (.getfield 16, 3) := by decide +kernel
theorem dX6_image_35 : decode cX6_image 35 = .ok (.iload_n 1, 1) := by decide +kernel
theorem dX6_image_36 : decode cX6_image 36 = .ok (.aload_n 2, 1) := by decide +kernel
theorem dX6_image_37 : decode cX6_image 37 = .ok (.aastore, 1) := by decide +kernel
theorem dX6_image_38 : decode cX6_image 38 = .ok (.aload_n 2, 1) := by decide +kernel
theorem dX6_image_39 : decode cX6_image 39 = .ok (.aload_n 0, 1) := by decide +kernel
theorem dX6_image_40 : decode cX6_image 40 = .ok (.getfield 10, 3) := by decide +kernel
theorem dX6_image_43 : decode cX6_image 43 = .ok (.invokevirtual 249, 3) := by decide +kernel
theorem dX6_image_46 : decode cX6_image 46 = .ok (.iconst 1, 1) := by decide +kernel
theorem dX6_image_47 : decode cX6_image 47 = .ok (.ireturn, 1) := by decide +kernel
theorem dX6_restore_0 : decode cX6_restore 0 = .ok (.iload_n 1, 1) := by decide +kernel
theorem dX6_restore_1 : decode cX6_restore 1 = .ok (.iconst 0, 1) := by decide +kernel
theorem dX6_restore_2 : decode cX6_restore 2 = .ok (.iconst 1, 1) := by decide +kernel
theorem dX6_restore_3 : decode cX6_restore 3 = .ok (.invokestatic 93, 3) := by decide +kernel
theorem dX6_restore_6 : decode cX6_restore 6 = .ok (.ifCond .ne 6, 3) := by decide +kernel
theorem dX6_restore_9 : decode cX6_restore 9 = .ok (.bipush (-2), 2) := by decide +kernel
theorem dX6_restore_11 : decode cX6_restore 11 = .ok (.ireturn, 1) := by decide +kernel
theorem dX6_restore_12 : decode cX6_restore 12 = .ok (.aload_n 0, 1) := by decide +kernel
theorem dX6_restore_13 : decode cX6_restore 13 = .ok (.getfield 16, 3) := by decide +kernel
theorem dX6_restore_16 : decode cX6_restore 16 = .ok (.iload_n 1, 1) := by decide +kernel
theorem dX6_restore_17 : decode cX6_restore 17 = .ok (.aaload, 1) := by decide +kernel
theorem dX6_restore_18 : decode cX6_restore 18 = .ok (.astore_n 2, 1) := by decide +kernel
theorem dX6_restore_19 : decode cX6_restore 19 = .ok (.aload_n 2, 1) := by decide +kernel
theorem dX6_restore_20 : decode cX6_restore 20 = .ok (.ifnonnull 6, 3) := by decide +kernel
theorem dX6_restore_23 : decode cX6_restore 23 = .ok (.bipush (-3), 2) := by decide +kernel
theorem dX6_restore_25 : decode cX6_restore 25 = .ok (.ireturn, 1) := by decide +kernel
theorem dX6_restore_26 : decode cX6_restore 26 = .ok (.aload_n 0, 1) := by decide +kernel
theorem dX6_restore_27 : decode cX6_restore 27 = .ok (.getfield 10, 3) := by decide +kernel
theorem dX6_restore_30 : decode cX6_restore 30 = .ok (.aload_n 2, 1) := by decide +kernel
theorem dX6_restore_31 : decode cX6_restore 31 = .ok (.invokevirtual 249, 3) := by decide +kernel
theorem dX6_restore_34 : decode cX6_restore 34 = .ok (.aload_n 0, 1) := by decide +kernel
theorem dX6_restore_35 : decode cX6_restore 35 = .ok (.getfield 32, 3) := by decide +kernel
theorem dX6_restore_38 : decode cX6_restore 38 = .ok (.invokevirtual 69, 3) := by decide +kernel
theorem dX6_restore_41 : decode cX6_restore 41 = .ok (.iconst 1, 1) := by decide +kernel
theorem dX6_restore_42 : decode cX6_restore 42 = .ok (.ireturn, 1) := by decide +kernel
theorem dX6_told_0 : decode cX6_told 0 = .ok (.iload_n 1, 1) := by decide +kernel
theorem dX6_told_1 : decode cX6_told 1 = .ok (.tableswitch 131 0 8 #[51, 59, 67, 75, 83, 91, 101, 111, 121], 51) := by decide +kernel
theorem dX6_told_52 : decode cX6_told 52 = .ok (.aload_n 0, 1) := by decide +kernel
theorem dX6_told_53 : decode cX6_told 53 = .ok (.getfield 10, 3) := by decide +kernel
theorem dX6_told_56 : decode cX6_told 56 = .ok (.getfield 65, 3) := by decide +kernel
theorem dX6_told_59 : decode cX6_told 59 = .ok (.ireturn, 1) := by decide +kernel
theorem dX6_told_60 : decode cX6_told 60 = .ok (.aload_n 0, 1) := by decide +kernel
theorem dX6_told_61 : decode cX6_told 61 = .ok (.getfield 23, 3) := by decide +kernel
theorem dX6_told_64 : decode cX6_told 64 = .ok (.getfield 100, 3) := by decide +kernel
theorem dX6_told_67 : decode cX6_told 67 = .ok (.ireturn, 1) := by decide +kernel
theorem dX6_told_68 : decode cX6_told 68 = .ok (.aload_n 0, 1) := by decide +kernel
theorem dX6_told_69 : decode cX6_told 69 = .ok (.getfield 10, 3) := by decide +kernel
theorem dX6_told_72 : decode cX6_told 72 = .ok (.getfield 119, 3) := by decide +kernel
theorem dX6_told_75 : decode cX6_told 75 = .ok (.ireturn, 1) := by decide +kernel
theorem dX6_told_76 : decode cX6_told 76 = .ok (.aload_n 0, 1) := by decide +kernel
theorem dX6_told_77 : decode cX6_told 77 = .ok (.getfield 53, 3) := by decide +kernel
theorem dX6_told_80 : decode cX6_told 80 = .ok (.getfield 212, 3) := by decide +kernel
theorem dX6_told_83 : decode cX6_told 83 = .ok (.ireturn, 1) := by decide +kernel
theorem dX6_told_84 : decode cX6_told 84 = .ok (.aload_n 0, 1) := by decide +kernel
theorem dX6_told_85 : decode cX6_told 85 = .ok (.getfield 53, 3) := by decide +kernel
theorem dX6_told_88 : decode cX6_told 88 = .ok (.getfield 221, 3) := by decide +kernel
theorem dX6_told_91 : decode cX6_told 91 = .ok (.ireturn, 1) := by decide +kernel
theorem dX6_told_92 : decode cX6_told 92 = .ok (.aload_n 0, 1) := by decide +kernel
theorem dX6_told_93 : decode cX6_told 93 = .ok (.getfield 10, 3) := by decide +kernel
theorem dX6_told_96 : decode cX6_told 96 = .ok (.getfield 97, 3) := by decide +kernel
theorem dX6_told_99 : decode cX6_told 99 = .ok (.iconst 0, 1) := by decide +kernel
theorem dX6_told_100 : decode cX6_told 100 = .ok (.iaload, 1) := by decide +kernel
theorem dX6_told_101 : decode cX6_told 101 = .ok (.ireturn, 1) := by decide +kernel
theorem dX6_told_102 : decode cX6_told 102 = .ok (.aload_n 0, 1) := by decide +kernel
theorem dX6_told_103 : decode cX6_told 103 = .ok (.getfield 10, 3) := by decide +kernel
theorem dX6_told_106 : decode cX6_told 106 = .ok (.getfield 97, 3) := by decide +kernel
theorem dX6_told_109 : decode cX6_told 109 = .ok (.iconst 1, 1) := by decide +kernel
theorem dX6_told_110 : decode cX6_told 110 = .ok (.iaload, 1) := by decide +kernel
theorem dX6_told_111 : decode cX6_told 111 = .ok (.ireturn, 1) := by decide +kernel
theorem dX6_told_112 : decode cX6_told 112 = .ok (.aload_n 0, 1) := by decide +kernel
theorem dX6_told_113 : decode cX6_told 113 = .ok (.getfield 10, 3) := by decide +kernel
theorem dX6_told_116 : decode cX6_told 116 = .ok (.getfield 97, 3) := by decide +kernel
theorem dX6_told_119 : decode cX6_told 119 = .ok (.iconst 2, 1) := by decide +kernel
theorem dX6_told_120 : decode cX6_told 120 = .ok (.iaload, 1) := by decide +kernel
theorem dX6_told_121 : decode cX6_told 121 = .ok (.ireturn, 1) := by decide +kernel
theorem dX6_told_122 : decode cX6_told 122 = .ok (.aload_n 0, 1) := by decide +kernel
theorem dX6_told_123 : decode cX6_told 123 = .ok (.getfield 10, 3) := by decide +kernel
theorem dX6_told_126 : decode cX6_told 126 = .ok (.getfield 97, 3) := by decide +kernel
theorem dX6_told_129 : decode cX6_told 129 = .ok (.iconst 3, 1) := by decide +kernel
theorem dX6_told_130 : decode cX6_told 130 = .ok (.iaload, 1) := by decide +kernel
theorem dX6_told_131 : decode cX6_told 131 = .ok (.ireturn, 1) := by decide +kernel
theorem dX6_told_132 : decode cX6_told 132 = .ok (.bipush (-2), 2) := by decide +kernel
theorem dX6_told_134 : decode cX6_told 134 = .ok (.ireturn, 1) := by decide +kernel
theorem dX6_within_0 : decode cX6_within 0 = .ok (.iload_n 0, 1) := by decide +kernel
theorem dX6_within_1 : decode cX6_within 1 = .ok (.iload_n 1, 1) := by decide +kernel
theorem dX6_within_2 : decode cX6_within 2 = .ok (.if_icmp .lt 12, 3) := by decide +kernel
theorem dX6_within_5 : decode cX6_within 5 = .ok (.iload_n 0, 1) := by decide +kernel
theorem dX6_within_6 : decode cX6_within 6 = .ok (.iload_n 2, 1) := by decide +kernel
theorem dX6_within_7 : decode cX6_within 7 = .ok (.if_icmp .gt 7, 3) := by decide +kernel
theorem dX6_within_10 : decode cX6_within 10 = .ok (.iconst 1, 1) := by decide +kernel
theorem dX6_within_11 : decode cX6_within 11 = .ok (.goto 4, 3) := by decide +kernel
theorem dX6_within_14 : decode cX6_within 14 = .ok (.iconst 0, 1) := by decide +kernel
theorem dX6_within_15 : decode cX6_within 15 = .ok (.ireturn, 1) := by decide +kernel
theorem dX6_isSpan_0 : decode cX6_isSpan 0 = .ok (.iload_n 0, 1) := by decide +kernel
theorem dX6_isSpan_1 : decode cX6_isSpan 1 = .ok (.iload_n 2, 1) := by decide +kernel
theorem dX6_isSpan_2 : decode cX6_isSpan 2 = .ok (.if_icmp .lt 17, 3) := by decide +kernel
theorem dX6_isSpan_5 : decode cX6_isSpan 5 = .ok (.iload_n 0, 1) := by decide +kernel
theorem dX6_isSpan_6 : decode cX6_isSpan 6 = .ok (.iload_n 1, 1) := by decide +kernel
theorem dX6_isSpan_7 : decode cX6_isSpan 7 = .ok (.if_icmp .gt 12, 3) := by decide +kernel
theorem dX6_isSpan_10 : decode cX6_isSpan 10 = .ok (.iload_n 1, 1) := by decide +kernel
theorem dX6_isSpan_11 : decode cX6_isSpan 11 = .ok (.iload_n 3, 1) := by decide +kernel
theorem dX6_isSpan_12 : decode cX6_isSpan 12 = .ok (.if_icmp .gt 7, 3) := by decide +kernel
theorem dX6_isSpan_15 : decode cX6_isSpan 15 = .ok (.iconst 1, 1) := by decide +kernel
theorem dX6_isSpan_16 : decode cX6_isSpan 16 = .ok (.goto 4, 3) := by decide +kernel
theorem dX6_isSpan_19 : decode cX6_isSpan 19 = .ok (.iconst 0, 1) := by decide +kernel
theorem dX6_isSpan_20 : decode cX6_isSpan 20 = .ok (.ireturn, 1) := by decide +kernel
theorem dX6_isDrawing_0 : decode cX6_isDrawing 0 = .ok (.iload_n 0, 1) := by decide +kernel
theorem dX6_isDrawing_1 : decode cX6_isDrawing 1 = .ok (.iconst 0, 1) := by decide +kernel
theorem dX6_isDrawing_2 : decode cX6_isDrawing 2 = .ok (.ldc 252, 2) := by decide +kernel
theorem dX6_isDrawing_4 : decode cX6_isDrawing 4 = .ok (.invokestatic 93, 3) := by decide +kernel
theorem dX6_isDrawing_7 : decode cX6_isDrawing 7 = .ok (.ireturn, 1) := by decide +kernel
theorem dX6_hasBit_0 : decode cX6_hasBit 0 = .ok (.iload_n 0, 1) := by decide +kernel
theorem dX6_hasBit_1 : decode cX6_hasBit 1 = .ok (.iload_n 1, 1) := by decide +kernel
theorem dX6_hasBit_2 : decode cX6_hasBit 2 = .ok (.ishr, 1) := by decide +kernel
theorem dX6_hasBit_3 : decode cX6_hasBit 3 = .ok (.iconst 1, 1) := by decide +kernel
theorem dX6_hasBit_4 : decode cX6_hasBit 4 = .ok (.iand, 1) := by decide +kernel
theorem dX6_hasBit_5 : decode cX6_hasBit 5 = .ok (.ifCond .eq 7, 3) := by decide +kernel
theorem dX6_hasBit_8 : decode cX6_hasBit 8 = .ok (.iconst 1, 1) := by decide +kernel
theorem dX6_hasBit_9 : decode cX6_hasBit 9 = .ok (.goto 4, 3) := by decide +kernel
theorem dX6_hasBit_12 : decode cX6_hasBit 12 = .ok (.iconst 0, 1) := by decide +kernel
theorem dX6_hasBit_13 : decode cX6_hasBit 13 = .ok (.ireturn, 1) := by decide +kernel
theorem dX6_strokeOf_0 : decode cX6_strokeOf 0 = .ok (.iload_n 0, 1) := by decide +kernel
theorem dX6_strokeOf_1 : decode cX6_strokeOf 1 = .ok (.iconst 2, 1) := by decide +kernel
theorem dX6_strokeOf_2 : decode cX6_strokeOf 2 = .ok (.bipush 7, 2) := by decide +kernel
theorem dX6_strokeOf_4 : decode cX6_strokeOf 4 = .ok (.iload_n 1, 1) := by decide +kernel
theorem dX6_strokeOf_5 : decode cX6_strokeOf 5 = .ok (.isub, 1) := by decide +kernel
theorem dX6_strokeOf_6 : decode cX6_strokeOf 6 = .ok (.imul, 1) := by decide +kernel
theorem dX6_strokeOf_7 : decode cX6_strokeOf 7 = .ok (.ishr, 1) := by decide +kernel
theorem dX6_strokeOf_8 : decode cX6_strokeOf 8 = .ok (.iconst 3, 1) := by decide +kernel
theorem dX6_strokeOf_9 : decode cX6_strokeOf 9 = .ok (.iand, 1) := by decide +kernel
theorem dX6_strokeOf_10 : decode cX6_strokeOf 10 = .ok (.ireturn, 1) := by decide +kernel
theorem dX6_strokesIn_0 : decode cX6_strokesIn 0 = .ok (.iconst 0, 1) := by decide +kernel
theorem dX6_strokesIn_1 : decode cX6_strokesIn 1 = .ok (.istore_n 1, 1) := by decide +kernel
theorem dX6_strokesIn_2 : decode cX6_strokesIn 2 = .ok (.iconst 0, 1) := by decide +kernel
theorem dX6_strokesIn_3 : decode cX6_strokesIn 3 = .ok (.istore_n 2, 1) := by decide +kernel
theorem dX6_strokesIn_4 : decode cX6_strokesIn 4 = .ok (.iload_n 2, 1) := by decide +kernel
theorem dX6_strokesIn_5 : decode cX6_strokesIn 5 = .ok (.bipush 8, 2) := by decide +kernel
theorem dX6_strokesIn_7 : decode cX6_strokesIn 7 = .ok (.if_icmp .ge 23, 3) := by decide +kernel
theorem dX6_strokesIn_10 : decode cX6_strokesIn 10 = .ok (.iload_n 0, 1) := by decide +kernel
theorem dX6_strokesIn_11 : decode cX6_strokesIn 11 = .ok (.iload_n 2, 1) := by decide +kernel
theorem dX6_strokesIn_12 : decode cX6_strokesIn 12 = .ok (.invokestatic 253, 3) := by decide +kernel
theorem dX6_strokesIn_15 : decode cX6_strokesIn 15 = .ok (.ifCond .eq 9, 3) := by decide +kernel
theorem dX6_strokesIn_18 : decode cX6_strokesIn 18 = .ok (.iload_n 1, 1) := by decide +kernel
theorem dX6_strokesIn_19 : decode cX6_strokesIn 19 = .ok (.iconst 1, 1) := by decide +kernel
theorem dX6_strokesIn_20 : decode cX6_strokesIn 20 = .ok (.iload_n 2, 1) := by decide +kernel
theorem dX6_strokesIn_21 : decode cX6_strokesIn 21 = .ok (.ishl, 1) := by decide +kernel
theorem dX6_strokesIn_22 : decode cX6_strokesIn 22 = .ok (.ior, 1) := by decide +kernel
theorem dX6_strokesIn_23 : decode cX6_strokesIn 23 = .ok (.istore_n 1, 1) := by decide +kernel
theorem dX6_strokesIn_24 : decode cX6_strokesIn 24 = .ok (.iinc 2 1, 3) := by decide +kernel
theorem dX6_strokesIn_27 : decode cX6_strokesIn 27 = .ok (.goto (-23), 3) := by decide +kernel
theorem dX6_strokesIn_30 : decode cX6_strokesIn 30 = .ok (.iload_n 1, 1) := by decide +kernel
theorem dX6_strokesIn_31 : decode cX6_strokesIn 31 = .ok (.ireturn, 1) := by decide +kernel
theorem dX6_inkOf_0 : decode cX6_inkOf 0 = .ok (.iconst 0, 1) := by decide +kernel
theorem dX6_inkOf_1 : decode cX6_inkOf 1 = .ok (.istore_n 1, 1) := by decide +kernel
theorem dX6_inkOf_2 : decode cX6_inkOf 2 = .ok (.iconst 0, 1) := by decide +kernel
theorem dX6_inkOf_3 : decode cX6_inkOf 3 = .ok (.istore_n 2, 1) := by decide +kernel
theorem dX6_inkOf_4 : decode cX6_inkOf 4 = .ok (.iload_n 2, 1) := by decide +kernel
theorem dX6_inkOf_5 : decode cX6_inkOf 5 = .ok (.bipush 8, 2) := by decide +kernel
theorem dX6_inkOf_7 : decode cX6_inkOf 7 = .ok (.if_icmp .ge 33, 3) := by decide +kernel
theorem dX6_inkOf_10 : decode cX6_inkOf 10 = .ok (.iload_n 0, 1) := by decide +kernel
theorem dX6_inkOf_11 : decode cX6_inkOf 11 = .ok (.iload_n 2, 1) := by decide +kernel
theorem dX6_inkOf_12 : decode cX6_inkOf 12 = .ok (.invokestatic 253, 3) := by decide +kernel
theorem dX6_inkOf_15 : decode cX6_inkOf 15 = .ok (.istore_n 3, 1) := by decide +kernel
theorem dX6_inkOf_16 : decode cX6_inkOf 16 = .ok (.iload_n 3, 1) := by decide +kernel
theorem dX6_inkOf_17 : decode cX6_inkOf 17 = .ok (.iconst 3, 1) := by decide +kernel
theorem dX6_inkOf_18 : decode cX6_inkOf 18 = .ok (.if_icmp .ne 9, 3) := by decide +kernel
theorem dX6_inkOf_21 : decode cX6_inkOf 21 = .ok (.iinc 1 2, 3) := by decide +kernel
theorem dX6_inkOf_24 : decode cX6_inkOf 24 = .ok (.goto 10, 3) := by decide +kernel
theorem dX6_inkOf_27 : decode cX6_inkOf 27 = .ok (.iload_n 3, 1) := by decide +kernel
theorem dX6_inkOf_28 : decode cX6_inkOf 28 = .ok (.ifCond .eq 6, 3) := by decide +kernel
theorem dX6_inkOf_31 : decode cX6_inkOf 31 = .ok (.iinc 1 1, 3) := by decide +kernel
theorem dX6_inkOf_34 : decode cX6_inkOf 34 = .ok (.iinc 2 1, 3) := by decide +kernel
theorem dX6_inkOf_37 : decode cX6_inkOf 37 = .ok (.goto (-33), 3) := by decide +kernel
theorem dX6_inkOf_40 : decode cX6_inkOf 40 = .ok (.iload_n 1, 1) := by decide +kernel
theorem dX6_inkOf_41 : decode cX6_inkOf 41 = .ok (.ireturn, 1) := by decide +kernel
theorem dX6_mayLieUnder_0 : decode cX6_mayLieUnder 0 = .ok (.iconst 0, 1) := by decide +kernel
theorem dX6_mayLieUnder_1 : decode cX6_mayLieUnder 1 = .ok (.istore_n 3, 1) := by decide +kernel
theorem dX6_mayLieUnder_2 : decode cX6_mayLieUnder 2 = .ok (.iload_n 3, 1) := by decide +kernel
theorem dX6_mayLieUnder_3 : decode cX6_mayLieUnder 3 = .ok (.bipush 8, 2) := by decide +kernel
theorem dX6_mayLieUnder_5 : decode cX6_mayLieUnder 5 = .ok (.if_icmp .ge 41, 3) := by decide +kernel
theorem dX6_mayLieUnder_8 : decode cX6_mayLieUnder 8 = .ok (.iload_n 0, 1) := by decide +kernel
theorem dX6_mayLieUnder_9 : decode cX6_mayLieUnder 9 = .ok (.iload_n 3, 1) := by decide +kernel
theorem dX6_mayLieUnder_10 : decode cX6_mayLieUnder 10 = .ok (.invokestatic 253, 3) := by decide +kernel
theorem dX6_mayLieUnder_13 : decode cX6_mayLieUnder 13 = .ok (.istore 4, 2) := by decide +kernel
theorem dX6_mayLieUnder_15 : decode cX6_mayLieUnder 15 = .ok (.iload 4, 2) := by decide +kernel
theorem dX6_mayLieUnder_17 : decode cX6_mayLieUnder 17 = .ok (.ifCond .eq 23, 3) := by decide +kernel
theorem dX6_mayLieUnder_20 : decode cX6_mayLieUnder 20 = .ok (.iload_n 2, 1) := by decide +kernel
theorem dX6_mayLieUnder_21 : decode cX6_mayLieUnder 21 = .ok (.iload_n 3, 1) := by decide +kernel
theorem dX6_mayLieUnder_22 : decode cX6_mayLieUnder 22 = .ok (.invokestatic 151, 3) := by decide +kernel
theorem dX6_mayLieUnder_25 : decode cX6_mayLieUnder 25 = .ok (.ifCond .ne 15, 3) := by decide +kernel
theorem dX6_mayLieUnder_28 : decode cX6_mayLieUnder 28 = .ok (.iload 4, 2) := by decide +kernel
theorem dX6_mayLieUnder_30 : decode cX6_mayLieUnder 30 = .ok (.iload_n 1, 1) := by decide +kernel
theorem dX6_mayLieUnder_31 : decode cX6_mayLieUnder 31 = .ok (.iload_n 3, 1) := by decide +kernel
theorem dX6_mayLieUnder_32 : decode cX6_mayLieUnder 32 = .ok (.invokestatic 253, 3) := by decide +kernel
theorem dX6_mayLieUnder_35 : decode cX6_mayLieUnder 35 = .ok (.if_icmp .eq 5, 3) := by decide +kernel
theorem dX6_mayLieUnder_38 : decode cX6_mayLieUnder 38 = .ok (.iconst 0, 1) := by decide +kernel
theorem dX6_mayLieUnder_39 : decode cX6_mayLieUnder 39 = .ok (.ireturn, 1) := by decide +kernel
theorem dX6_mayLieUnder_40 : decode cX6_mayLieUnder 40 = .ok (.iinc 3 1, 3) := by decide +kernel
theorem dX6_mayLieUnder_43 : decode cX6_mayLieUnder 43 = .ok (.goto (-41), 3) := by decide +kernel
theorem dX6_mayLieUnder_46 : decode cX6_mayLieUnder 46 = .ok (.iconst 1, 1) := by decide +kernel
theorem dX6_mayLieUnder_47 : decode cX6_mayLieUnder 47 = .ok (.ireturn, 1) := by decide +kernel
theorem dJ9_max_7cf53_0 : decode cJ9_max_7cf53 0 = .ok (.iload_n 0, 1) := by decide +kernel
theorem dJ9_max_7cf53_1 : decode cJ9_max_7cf53 1 = .ok (.iload_n 1, 1) := by decide +kernel
theorem dJ9_max_7cf53_2 : decode cJ9_max_7cf53 2 = .ok (.if_icmp .lt 7, 3) := by decide +kernel
theorem dJ9_max_7cf53_5 : decode cJ9_max_7cf53 5 = .ok (.iload_n 0, 1) := by decide +kernel
theorem dJ9_max_7cf53_6 : decode cJ9_max_7cf53 6 = .ok (.goto 4, 3) := by decide +kernel
theorem dJ9_max_7cf53_9 : decode cJ9_max_7cf53 9 = .ok (.iload_n 1, 1) := by decide +kernel
theorem dJ9_max_7cf53_10 : decode cJ9_max_7cf53 10 = .ok (.ireturn, 1) := by decide +kernel
theorem dJ9_min_7cf53_0 : decode cJ9_min_7cf53 0 = .ok (.iload_n 0, 1) := by decide +kernel
theorem dJ9_min_7cf53_1 : decode cJ9_min_7cf53 1 = .ok (.iload_n 1, 1) := by decide +kernel
theorem dJ9_min_7cf53_2 : decode cJ9_min_7cf53 2 = .ok (.if_icmp .gt 7, 3) := by decide +kernel
theorem dJ9_min_7cf53_5 : decode cJ9_min_7cf53 5 = .ok (.iload_n 0, 1) := by decide +kernel
theorem dJ9_min_7cf53_6 : decode cJ9_min_7cf53 6 = .ok (.goto 4, 3) := by decide +kernel
theorem dJ9_min_7cf53_9 : decode cJ9_min_7cf53 9 = .ok (.iload_n 1, 1) := by decide +kernel
theorem dJ9_min_7cf53_10 : decode cJ9_min_7cf53 10 = .ok (.ireturn, 1) := by decide +kernel
