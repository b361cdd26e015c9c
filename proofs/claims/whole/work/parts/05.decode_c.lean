theorem dX7_init_0 : decode cX7_init 0 = .ok (.aload_n 0, 1) := by decide +kernel
theorem dX7_init_1 : decode cX7_init 1 = .ok (.invokespecial 1, 3) := by decide +kernel
theorem dX7_init_4 : decode cX7_init 4 = .ok (.aload_n 0, 1) := by decide +kernel
theorem dX7_init_5 : decode cX7_init 5 = .ok (.bipush 6, 2) := by decide +kernel
theorem dX7_init_7 : decode cX7_init 7 = .ok (.newarray .int, 2) := by decide +kernel
theorem dX7_init_9 : decode cX7_init 9 = .ok (.putfield 7, 3) := by decide +kernel
theorem dX7_init_12 : decode cX7_init 12 = .ok (.aload_n 0, 1) := by decide +kernel
theorem dX7_init_13 : decode cX7_init 13 = .ok (.bipush 6, 2) := by decide +kernel
theorem dX7_init_15 : decode cX7_init 15 = .ok (.newarray .int, 2) := by decide +kernel
theorem dX7_init_17 : decode cX7_init 17 = .ok (.putfield 13, 3) := by decide +kernel
theorem dX7_init_20 : decode cX7_init 20 = .ok (.aload_n 0, 1) := by decide +kernel
theorem dX7_init_21 : decode cX7_init 21 = .ok (.bipush 6, 2) := by decide +kernel
theorem dX7_init_23 : decode cX7_init 23 = .ok (.newarray .int, 2) := by decide +kernel
theorem dX7_init_25 : decode cX7_init 25 = .ok (.putfield 16, 3) := by decide +kernel
theorem dX7_init_28 : decode cX7_init 28 = .ok (.aload_n 0, 1) := by decide +kernel
theorem dX7_init_29 : decode cX7_init 29 = .ok (.bipush 6, 2) := by decide +kernel
theorem dX7_init_31 : decode cX7_init 31 = .ok (.newarray .int, 2) := by decide +kernel
theorem dX7_init_33 : decode cX7_init 33 = .ok (.putfield 19, 3) := by decide +kernel
theorem dX7_init_36 : decode cX7_init 36 = .ok (.aload_n 0, 1) := by decide +kernel
theorem dX7_init_37 : decode cX7_init 37 = .ok (.iconst 4, 1) := by decide +kernel
theorem dX7_init_38 : decode cX7_init 38 = .ok (.newarray .int, 2) := by decide +kernel
theorem dX7_init_40 : decode cX7_init 40 = .ok (.putfield 22, 3) := by decide +kernel
theorem dX7_init_43 : decode cX7_init 43 = .ok (.aload_n 0, 1) := by decide +kernel
theorem dX7_init_44 : decode cX7_init 44 = .ok (.bipush 50, 2) := by decide +kernel
theorem dX7_init_46 : decode cX7_init 46 = .ok (.newarray .int, 2) := by decide +kernel
theorem dX7_init_48 : decode cX7_init 48 = .ok (.putfield 25, 3) := by decide +kernel
theorem dX7_init_51 : decode cX7_init 51 = .ok (.aload_n 0, 1) := by decide +kernel
theorem dX7_init_52 : decode cX7_init 52 = .ok (.bipush 50, 2) := by decide +kernel
theorem dX7_init_54 : decode cX7_init 54 = .ok (.newarray .int, 2) := by decide +kernel
theorem dX7_init_56 : decode cX7_init 56 = .ok (.putfield 28, 3) := by decide +kernel
theorem dX7_init_59 : decode cX7_init 59 = .ok (.aload_n 0, 1) := by decide +kernel
theorem dX7_init_60 : decode cX7_init 60 = .ok (.iconst 4, 1) := by decide +kernel
theorem dX7_init_61 : decode cX7_init 61 = .ok (.newarray .int, 2) := by decide +kernel
theorem dX7_init_63 : decode cX7_init 63 = .ok (.putfield 31, 3) := by decide +kernel
theorem dX7_init_66 : decode cX7_init 66 = .ok (.aload_n 0, 1) := by decide +kernel
theorem dX7_init_67 : decode cX7_init 67 = .ok (.bipush 8, 2) := by decide +kernel
theorem dX7_init_69 : decode cX7_init 69 = .ok (.newarray .int, 2) := by decide +kernel
theorem dX7_init_71 : decode cX7_init 71 = .ok (.putfield 34, 3) := by decide +kernel
theorem dX7_init_74 : decode cX7_init 74 = .ok (.aload_n 0, 1) := by decide +kernel
theorem dX7_init_75 : decode cX7_init 75 = .ok (.bipush 8, 2) := by decide +kernel
theorem dX7_init_77 : decode cX7_init 77 = .ok (.newarray .int, 2) := by decide +kernel
theorem dX7_init_79 : decode cX7_init 79 = .ok (.putfield 37, 3) := by decide +kernel
theorem dX7_init_82 : decode cX7_init 82 = .ok (.aload_n 0, 1) := by decide +kernel
theorem dX7_init_83 : decode cX7_init 83 = .ok (.bipush 8, 2) := by decide +kernel
theorem dX7_init_85 : decode cX7_init 85 = .ok (.newarray .int, 2) := by decide +kernel
theorem dX7_init_87 : decode cX7_init 87 = .ok (.putfield 40, 3) := by decide +kernel
theorem dX7_init_90 : decode cX7_init 90 = .ok (.aload_n 0, 1) := by decide +kernel
theorem dX7_init_91 : decode cX7_init 91 = .ok (.bipush 16, 2) := by decide +kernel
theorem dX7_init_93 : decode cX7_init 93 = .ok (.newarray .int, 2) := by decide +kernel
theorem dX7_init_95 : decode cX7_init 95 = .ok (.putfield 43, 3) := by decide +kernel
theorem dX7_init_98 : decode cX7_init 98 = .ok (.aload_n 0, 1) := by decide +kernel
theorem dX7_init_99 : decode cX7_init 99 = .ok (.bipush 16, 2) := by decide +kernel
theorem dX7_init_101 : decode cX7_init 101 = .ok (.newarray .int, 2) := by decide +kernel
theorem dX7_init_103 : decode cX7_init 103 = .ok (.putfield 46, 3) := by decide +kernel
theorem dX7_init_106 : decode cX7_init 106 = .ok (.aload_n 0, 1) := by decide +kernel
theorem dX7_init_107 : decode cX7_init 107 = .ok (.bipush 16, 2) := by decide +kernel
theorem dX7_init_109 : decode cX7_init 109 = .ok (.newarray .int, 2) := by decide +kernel
theorem dX7_init_111 : decode cX7_init 111 = .ok (.putfield 49, 3) := by decide +kernel
theorem dX7_init_114 : decode cX7_init 114 = .ok (.aload_n 0, 1) := by decide +kernel
theorem dX7_init_115 : decode cX7_init 115 = .ok (.bipush 42, 2) := by decide +kernel
theorem dX7_init_117 : decode cX7_init 117 = .ok (.newarray .int, 2) := by decide +kernel
theorem dX7_init_119 : decode cX7_init 119 = .ok (.putfield 52, 3) := by decide +kernel
theorem dX7_init_122 : decode cX7_init 122 = .ok (.aload_n 0, 1) := by decide +kernel
theorem dX7_init_123 : decode cX7_init 123 = .ok (.bipush 6, 2) := by decide +kernel
theorem dX7_init_125 : decode cX7_init 125 = .ok (.newarray .int, 2) := by decide +kernel
theorem dX7_init_127 : decode cX7_init 127 = .ok (.putfield 55, 3) := by decide +kernel
theorem dX7_init_130 : decode cX7_init 130 = .ok (.aload_n 0, 1) := by decide +kernel
theorem dX7_init_131 : decode cX7_init 131 = .ok (.sipush 220, 3) := by decide +kernel
theorem dX7_init_134 : decode cX7_init 134 = .ok (.newarray .int, 2) := by decide +kernel
theorem dX7_init_136 : decode cX7_init 136 = .ok (.putfield 58, 3) := by decide +kernel
theorem dX7_init_139 : decode cX7_init 139 = .ok (.aload_n 0, 1) := by decide +kernel
theorem dX7_init_140 : decode cX7_init 140 = .ok (.iconst 2, 1) := by decide +kernel
theorem dX7_init_141 : decode cX7_init 141 = .ok (.newarray .boolean, 2) := by decide +kernel
theorem dX7_init_143 : decode cX7_init 143 = .ok (.putfield 61, 3) := by decide +kernel
theorem dX7_init_146 : decode cX7_init 146 = .ok (.aload_n 0, 1) := by decide +kernel
theorem dX7_init_147 : decode cX7_init 147 = .ok (.getfield 22, 3) := by decide +kernel
theorem dX7_init_150 : decode cX7_init 150 = .ok (.iconst 0, 1) := by decide +kernel
theorem dX7_init_151 : decode cX7_init 151 = .ok (.bipush 20, 2) := by decide +kernel
theorem dX7_init_153 : decode cX7_init 153 = .ok (.iastore, 1) := by decide +kernel
theorem dX7_init_154 : decode cX7_init 154 = .ok (.aload_n 0, 1) := by decide +kernel
theorem dX7_init_155 : decode cX7_init 155 = .ok (.getfield 22, 3) := by decide +kernel
theorem dX7_init_158 : decode cX7_init 158 = .ok (.iconst 1, 1) := by decide +kernel
theorem dX7_init_159 : decode cX7_init 159 = .ok (.bipush 99, 2) := by decide +kernel
theorem dX7_init_161 : decode cX7_init 161 = .ok (.iastore, 1) := by decide +kernel
theorem dX7_init_162 : decode cX7_init 162 = .ok (.aload_n 0, 1) := by decide +kernel
theorem dX7_init_163 : decode cX7_init 163 = .ok (.getfield 22, 3) := by decide +kernel
theorem dX7_init_166 : decode cX7_init 166 = .ok (.iconst 2, 1) := by decide +kernel
theorem dX7_init_167 : decode cX7_init 167 = .ok (.bipush 10, 2) := by decide +kernel
theorem dX7_init_169 : decode cX7_init 169 = .ok (.iastore, 1) := by decide +kernel
theorem dX7_init_170 : decode cX7_init 170 = .ok (.aload_n 0, 1) := by decide +kernel
theorem dX7_init_171 : decode cX7_init 171 = .ok (.getfield 22, 3) := by decide +kernel
theorem dX7_init_174 : decode cX7_init 174 = .ok (.iconst 3, 1) := by decide +kernel
theorem dX7_init_175 : decode cX7_init 175 = .ok (.bipush 10, 2) := by decide +kernel
theorem dX7_init_177 : decode cX7_init 177 = .ok (.iastore, 1) := by decide +kernel
theorem dX7_init_178 : decode cX7_init 178 = .ok (.aload_n 0, 1) := by decide +kernel
theorem dX7_init_179 : decode cX7_init 179 = .ok (.getfield 31, 3) := by decide +kernel
theorem dX7_init_182 : decode cX7_init 182 = .ok (.iconst 0, 1) := by decide +kernel
theorem dX7_init_183 : decode cX7_init 183 = .ok (.bipush 10, 2) := by decide +kernel
theorem dX7_init_185 : decode cX7_init 185 = .ok (.iastore, 1) := by decide +kernel
theorem dX7_init_186 : decode cX7_init 186 = .ok (.aload_n 0, 1) := by decide +kernel
theorem dX7_init_187 : decode cX7_init 187 = .ok (.getfield 31, 3) := by decide +kernel
theorem dX7_init_190 : decode cX7_init 190 = .ok (.iconst 1, 1) := by decide +kernel
theorem dX7_init_191 : decode cX7_init 191 = .ok (.bipush 10, 2) := by decide +kernel
theorem dX7_init_193 : decode cX7_init 193 = .ok (.iastore, 1) := by decide +kernel
theorem dX7_init_194 : decode cX7_init 194 = .ok (.aload_n 0, 1) := by decide +kernel
theorem dX7_init_195 : decode cX7_init 195 = .ok (.getfield 31, 3) := by decide +kernel
theorem dX7_init_198 : decode cX7_init 198 = .ok (.iconst 2, 1) := by decide +kernel
theorem dX7_init_199 : decode cX7_init 199 = .ok (.iconst 1, 1) := by decide +kernel
theorem dX7_init_200 : decode cX7_init 200 = .ok (.iastore, 1) := by decide +kernel
theorem dX7_init_201 : decode cX7_init 201 = .ok (.aload_n 0, 1) := by decide +kernel
theorem dX7_init_202 : decode cX7_init 202 = .ok (.getfield 31, 3) := by decide +kernel
theorem dX7_init_205 : decode cX7_init 205 = .ok (.iconst 3, 1) := by decide +kernel
theorem dX7_init_206 : decode cX7_init 206 = .ok (.iconst 1, 1) := by decide +kernel
theorem dX7_init_207 : decode cX7_init 207 = .ok (.iastore, 1) := by decide +kernel
theorem dX7_init_208 : decode cX7_init 208 = .ok (.iconst 0, 1) := by decide +kernel
theorem dX7_init_209 : decode cX7_init 209 = .ok (.istore_n 1, 1) := by decide +kernel
theorem dX7_init_210 : decode cX7_init 210 = .ok (.iload_n 1, 1) := by decide +kernel
theorem dX7_init_211 : decode cX7_init 211 = .ok (.bipush 8, 2) := by decide +kernel
theorem dX7_init_213 : decode cX7_init 213 = .ok (.if_icmp .ge 27, 3) := by decide +kernel
theorem dX7_init_216 : decode cX7_init 216 = .ok (.aload_n 0, 1) := by decide +kernel
theorem dX7_init_217 : decode cX7_init 217 = .ok (.getfield 34, 3) := by decide +kernel
theorem dX7_init_220 : decode cX7_init 220 = .ok (.iload_n 1, 1) := by decide +kernel
theorem dX7_init_221 : decode cX7_init 221 = .ok (.iconst 1, 1) := by decide +kernel
theorem dX7_init_222 : decode cX7_init 222 = .ok (.iload_n 1, 1) := by decide +kernel
theorem dX7_init_223 : decode cX7_init 223 = .ok (.ishl, 1) := by decide +kernel
theorem dX7_init_224 : decode cX7_init 224 = .ok (.iastore, 1) := by decide +kernel
theorem dX7_init_225 : decode cX7_init 225 = .ok (.aload_n 0, 1) := by decide +kernel
theorem dX7_init_226 : decode cX7_init 226 = .ok (.getfield 37, 3) := by decide +kernel
theorem dX7_init_229 : decode cX7_init 229 = .ok (.iload_n 1, 1) := by decide +kernel
theorem dX7_init_230 : decode cX7_init 230 = .ok (.iconst 1, 1) := by decide +kernel
theorem dX7_init_231 : decode cX7_init 231 = .ok (.iload_n 1, 1) := by decide +kernel
theorem dX7_init_232 : decode cX7_init 232 = .ok (.ishl, 1) := by decide +kernel
theorem dX7_init_233 : decode cX7_init 233 = .ok (.iastore, 1) := by decide +kernel
theorem dX7_init_234 : decode cX7_init 234 = .ok (.iinc 1 1, 3) := by decide +kernel
theorem dX7_init_237 : decode cX7_init 237 = .ok (.goto (-27), 3) := by decide +kernel
theorem dX7_init_240 : decode cX7_init 240 = .ok (.return_, 1) := by decide +kernel
theorem dX7_in_0 : decode cX7_in 0 = .ok (.iload_n 0, 1) := by decide +kernel
theorem dX7_in_1 : decode cX7_in 1 = .ok (.iload_n 1, 1) := by decide +kernel
theorem dX7_in_2 : decode cX7_in 2 = .ok (.if_icmp .lt 12, 3) := by decide +kernel
theorem dX7_in_5 : decode cX7_in 5 = .ok (.iload_n 0, 1) := by decide +kernel
theorem dX7_in_6 : decode cX7_in 6 = .ok (.iload_n 2, 1) := by decide +kernel
theorem dX7_in_7 : decode cX7_in 7 = .ok (.if_icmp .gt 7, 3) := by decide +kernel
theorem dX7_in_10 : decode cX7_in 10 = .ok (.iconst 1, 1) := by decide +kernel
theorem dX7_in_11 : decode cX7_in 11 = .ok (.goto 4, 3) := by decide +kernel
theorem dX7_in_14 : decode cX7_in 14 = .ok (.iconst 0, 1) := by decide +kernel
theorem dX7_in_15 : decode cX7_in 15 = .ok (.ireturn, 1) := by decide +kernel
theorem dX7_isPicture_0 : decode cX7_isPicture 0 = .ok (.iload_n 1, 1) := by decide +kernel
theorem dX7_isPicture_1 : decode cX7_isPicture 1 = .ok (.iconst 0, 1) := by decide +kernel
theorem dX7_isPicture_2 : decode cX7_isPicture 2 = .ok (.aload_n 0, 1) := by decide +kernel
theorem dX7_isPicture_3 : decode cX7_isPicture 3 = .ok (.getfield 65, 3) := by decide +kernel
theorem dX7_isPicture_6 : decode cX7_isPicture 6 = .ok (.iconst 1, 1) := by decide +kernel
theorem dX7_isPicture_7 : decode cX7_isPicture 7 = .ok (.isub, 1) := by decide +kernel
theorem dX7_isPicture_8 : decode cX7_isPicture 8 = .ok (.invokestatic 69, 3) := by decide +kernel
theorem dX7_isPicture_11 : decode cX7_isPicture 11 = .ok (.ireturn, 1) := by decide +kernel
theorem dX7_isDrawing_0 : decode cX7_isDrawing 0 = .ok (.iload_n 0, 1) := by decide +kernel
theorem dX7_isDrawing_1 : decode cX7_isDrawing 1 = .ok (.iconst 0, 1) := by decide +kernel
theorem dX7_isDrawing_2 : decode cX7_isDrawing 2 = .ok (.ldc 73, 2) := by decide +kernel
theorem dX7_isDrawing_4 : decode cX7_isDrawing 4 = .ok (.invokestatic 69, 3) := by decide +kernel
theorem dX7_isDrawing_7 : decode cX7_isDrawing 7 = .ok (.ireturn, 1) := by decide +kernel
theorem dX7_isYear_0 : decode cX7_isYear 0 = .ok (.iload_n 0, 1) := by decide +kernel
theorem dX7_isYear_1 : decode cX7_isYear 1 = .ok (.iconst 0, 1) := by decide +kernel
theorem dX7_isYear_2 : decode cX7_isYear 2 = .ok (.bipush 99, 2) := by decide +kernel
theorem dX7_isYear_4 : decode cX7_isYear 4 = .ok (.invokestatic 69, 3) := by decide +kernel
theorem dX7_isYear_7 : decode cX7_isYear 7 = .ok (.ireturn, 1) := by decide +kernel
theorem dX7_strokeOf_0 : decode cX7_strokeOf 0 = .ok (.iload_n 0, 1) := by decide +kernel
theorem dX7_strokeOf_1 : decode cX7_strokeOf 1 = .ok (.bipush 14, 2) := by decide +kernel
theorem dX7_strokeOf_3 : decode cX7_strokeOf 3 = .ok (.iconst 2, 1) := by decide +kernel
theorem dX7_strokeOf_4 : decode cX7_strokeOf 4 = .ok (.iload_n 1, 1) := by decide +kernel
theorem dX7_strokeOf_5 : decode cX7_strokeOf 5 = .ok (.imul, 1) := by decide +kernel
theorem dX7_strokeOf_6 : decode cX7_strokeOf 6 = .ok (.isub, 1) := by decide +kernel
theorem dX7_strokeOf_7 : decode cX7_strokeOf 7 = .ok (.ishr, 1) := by decide +kernel
theorem dX7_strokeOf_8 : decode cX7_strokeOf 8 = .ok (.iconst 3, 1) := by decide +kernel
theorem dX7_strokeOf_9 : decode cX7_strokeOf 9 = .ok (.iand, 1) := by decide +kernel
theorem dX7_strokeOf_10 : decode cX7_strokeOf 10 = .ok (.ireturn, 1) := by decide +kernel
theorem dX7_picture_0 : decode cX7_picture 0 = .ok (.iload_n 1, 1) := by decide +kernel
theorem dX7_picture_1 : decode cX7_picture 1 = .ok (.invokestatic 74, 3) := by decide +kernel
theorem dX7_picture_4 : decode cX7_picture 4 = .ok (.ifCond .eq 22, 3) := by decide +kernel
theorem dX7_picture_7 : decode cX7_picture 7 = .ok (.iload_n 2, 1) := by decide +kernel
theorem dX7_picture_8 : decode cX7_picture 8 = .ok (.invokestatic 78, 3) := by decide +kernel
theorem dX7_picture_11 : decode cX7_picture 11 = .ok (.ifCond .eq 15, 3) := by decide +kernel
theorem dX7_picture_14 : decode cX7_picture 14 = .ok (.iload_n 3, 1) := by decide +kernel
theorem dX7_picture_15 : decode cX7_picture 15 = .ok (.invokestatic 78, 3) := by decide +kernel
theorem dX7_picture_18 : decode cX7_picture 18 = .ok (.ifCond .eq 8, 3) := by decide +kernel
theorem dX7_picture_21 : decode cX7_picture 21 = .ok (.iload_n 2, 1) := by decide +kernel
theorem dX7_picture_22 : decode cX7_picture 22 = .ok (.iload_n 3, 1) := by decide +kernel
theorem dX7_picture_23 : decode cX7_picture 23 = .ok (.if_icmp .le 6, 3) := by decide +kernel
theorem dX7_picture_26 : decode cX7_picture 26 = .ok (.bipush (-2), 2) := by decide +kernel
theorem dX7_picture_28 : decode cX7_picture 28 = .ok (.ireturn, 1) := by decide +kernel
theorem dX7_picture_29 : decode cX7_picture 29 = .ok (.aload_n 0, 1) := by decide +kernel
theorem dX7_picture_30 : decode cX7_picture 30 = .ok (.getfield 65, 3) := by decide +kernel
theorem dX7_picture_33 : decode cX7_picture 33 = .ok (.bipush 6, 2) := by decide +kernel
theorem dX7_picture_35 : decode cX7_picture 35 = .ok (.if_icmp .ne 6, 3) := by decide +kernel
theorem dX7_picture_38 : decode cX7_picture 38 = .ok (.bipush (-4), 2) := by decide +kernel
theorem dX7_picture_40 : decode cX7_picture 40 = .ok (.ireturn, 1) := by decide +kernel
theorem dX7_picture_41 : decode cX7_picture 41 = .ok (.aload_n 0, 1) := by decide +kernel
theorem dX7_picture_42 : decode cX7_picture 42 = .ok (.getfield 7, 3) := by decide +kernel
theorem dX7_picture_45 : decode cX7_picture 45 = .ok (.aload_n 0, 1) := by decide +kernel
theorem dX7_picture_46 : decode cX7_picture 46 = .ok (.getfield 65, 3) := by decide +kernel
theorem dX7_picture_49 : decode cX7_picture 49 = .ok (.iload_n 1, 1) := by decide +kernel
theorem dX7_picture_50 : decode cX7_picture 50 = .ok (.iastore, 1) := by decide +kernel
theorem dX7_picture_51 : decode cX7_picture 51 = .ok (.aload_n 0, 1) := by decide +kernel
theorem dX7_picture_52 : decode cX7_picture 52 = .ok (.getfield 13, 3) := by decide +kernel
theorem dX7_picture_55 : decode cX7_picture 55 = .ok (.aload_n 0, 1) := by decide +kernel
theorem dX7_picture_56 : decode cX7_picture 56 = .ok (.getfield 65, 3) := by decide +kernel
theorem dX7_picture_59 : decode cX7_picture 59 = .ok (.iload_n 2, 1) := by decide +kernel
theorem dX7_picture_60 : decode cX7_picture 60 = .ok (.iastore, 1) := by decide +kernel
theorem dX7_picture_61 : decode cX7_picture 61 = .ok (.aload_n 0, 1) := by decide +kernel
theorem dX7_picture_62 : decode cX7_picture 62 = .ok (.getfield 16, 3) := by decide +kernel
theorem dX7_picture_65 : decode cX7_picture 65 = .ok (.aload_n 0, 1) := by decide +kernel
theorem dX7_picture_66 : decode cX7_picture 66 = .ok (.getfield 65, 3) := by decide +kernel
theorem dX7_picture_69 : decode cX7_picture 69 = .ok (.iload_n 3, 1) := by decide +kernel
theorem dX7_picture_70 : decode cX7_picture 70 = .ok (.iastore, 1) := by decide +kernel
theorem dX7_picture_71 : decode cX7_picture 71 = .ok (.aload_n 0, 1) := by decide +kernel
theorem dX7_picture_72 : decode cX7_picture 72 = .ok (.getfield 19, 3) := by decide +kernel
theorem dX7_picture_75 : decode cX7_picture 75 = .ok (.aload_n 0, 1) := by decide +kernel
theorem dX7_picture_76 : decode cX7_picture 76 = .ok (.getfield 65, 3) := by decide +kernel
theorem dX7_picture_79 : decode cX7_picture 79 = .ok (.bipush (-6), 2) := by decide +kernel
theorem dX7_picture_81 : decode cX7_picture 81 = .ok (.iastore, 1) := by decide +kernel
theorem dX7_picture_82 : decode cX7_picture 82 = .ok (.aload_n 0, 1) := by decide +kernel
theorem dX7_picture_83 : decode cX7_picture 83 = .ok (.dup, 1) := by decide +kernel
theorem dX7_picture_84 : decode cX7_picture 84 = .ok (.getfield 65, 3) := by decide +kernel
theorem dX7_picture_87 : decode cX7_picture 87 = .ok (.iconst 1, 1) := by decide +kernel
theorem dX7_picture_88 : decode cX7_picture 88 = .ok (.iadd, 1) := by decide +kernel
theorem dX7_picture_89 : decode cX7_picture 89 = .ok (.putfield 65, 3) := by decide +kernel
theorem dX7_picture_92 : decode cX7_picture 92 = .ok (.aload_n 0, 1) := by decide +kernel
theorem dX7_picture_93 : decode cX7_picture 93 = .ok (.iconst 0, 1) := by decide +kernel
theorem dX7_picture_94 : decode cX7_picture 94 = .ok (.putfield 81, 3) := by decide +kernel
theorem dX7_picture_97 : decode cX7_picture 97 = .ok (.aload_n 0, 1) := by decide +kernel
theorem dX7_picture_98 : decode cX7_picture 98 = .ok (.getfield 65, 3) := by decide +kernel
theorem dX7_picture_101 : decode cX7_picture 101 = .ok (.iconst 1, 1) := by decide +kernel
theorem dX7_picture_102 : decode cX7_picture 102 = .ok (.isub, 1) := by decide +kernel
theorem dX7_picture_103 : decode cX7_picture 103 = .ok (.ireturn, 1) := by decide +kernel
theorem dX7_about_0 : decode cX7_about 0 = .ok (.aload_n 0, 1) := by decide +kernel
theorem dX7_about_1 : decode cX7_about 1 = .ok (.iload_n 1, 1) := by decide +kernel
theorem dX7_about_2 : decode cX7_about 2 = .ok (.invokevirtual 85, 3) := by decide +kernel
theorem dX7_about_5 : decode cX7_about 5 = .ok (.ifCond .ne 5, 3) := by decide +kernel
theorem dX7_about_8 : decode cX7_about 8 = .ok (.iconst (-1), 1) := by decide +kernel
theorem dX7_about_9 : decode cX7_about 9 = .ok (.ireturn, 1) := by decide +kernel
theorem dX7_about_10 : decode cX7_about 10 = .ok (.iload_n 2, 1) := by decide +kernel
theorem dX7_about_11 : decode cX7_about 11 = .ok (.ifCond .ne 12, 3) := by decide +kernel
theorem dX7_about_14 : decode cX7_about 14 = .ok (.aload_n 0, 1) := by decide +kernel
theorem dX7_about_15 : decode cX7_about 15 = .ok (.getfield 7, 3) := by decide +kernel
theorem dX7_about_18 : decode cX7_about 18 = .ok (.iload_n 1, 1) := by decide +kernel
theorem dX7_about_19 : decode cX7_about 19 = .ok (.iaload, 1) := by decide +kernel
theorem dX7_about_20 : decode cX7_about 20 = .ok (.goto 47, 3) := by decide +kernel
theorem dX7_about_23 : decode cX7_about 23 = .ok (.iload_n 2, 1) := by decide +kernel
theorem dX7_about_24 : decode cX7_about 24 = .ok (.iconst 1, 1) := by decide +kernel
theorem dX7_about_25 : decode cX7_about 25 = .ok (.if_icmp .ne 12, 3) := by decide +kernel
theorem dX7_about_28 : decode cX7_about 28 = .ok (.aload_n 0, 1) := by decide +kernel
theorem dX7_about_29 : decode cX7_about 29 = .ok (.getfield 13, 3) := by decide +kernel
theorem dX7_about_32 : decode cX7_about 32 = .ok (.iload_n 1, 1) := by decide +kernel
theorem dX7_about_33 : decode cX7_about 33 = .ok (.iaload, 1) := by decide +kernel
theorem dX7_about_34 : decode cX7_about 34 = .ok (.goto 33, 3) := by decide +kernel
theorem dX7_about_37 : decode cX7_about 37 = .ok (.iload_n 2, 1) := by decide +kernel
theorem dX7_about_38 : decode cX7_about 38 = .ok (.iconst 2, 1) := by decide +kernel
theorem dX7_about_39 : decode cX7_about 39 = .ok (.if_icmp .ne 12, 3) := by decide +kernel
theorem dX7_about_42 : decode cX7_about 42 = .ok (.aload_n 0, 1) := by decide +kernel
theorem dX7_about_43 : decode cX7_about 43 = .ok (.getfield 16, 3) := by decide +kernel
theorem dX7_about_46 : decode cX7_about 46 = .ok (.iload_n 1, 1) := by decide +kernel
theorem dX7_about_47 : decode cX7_about 47 = .ok (.iaload, 1) := by decide +kernel
theorem dX7_about_48 : decode cX7_about 48 = .ok (.goto 19, 3) := by decide +kernel
theorem dX7_about_51 : decode cX7_about 51 = .ok (.iload_n 2, 1) := by decide +kernel
theorem dX7_about_52 : decode cX7_about 52 = .ok (.iconst 3, 1) := by decide +kernel
theorem dX7_about_53 : decode cX7_about 53 = .ok (.if_icmp .ne 12, 3) := by decide +kernel
theorem dX7_about_56 : decode cX7_about 56 = .ok (.aload_n 0, 1) := by decide +kernel
theorem dX7_about_57 : decode cX7_about 57 = .ok (.getfield 19, 3) := by decide +kernel
theorem dX7_about_60 : decode cX7_about 60 = .ok (.iload_n 1, 1) := by decide +kernel
theorem dX7_about_61 : decode cX7_about 61 = .ok (.iaload, 1) := by decide +kernel
theorem dX7_about_62 : decode cX7_about 62 = .ok (.goto 5, 3) := by decide +kernel
theorem dX7_about_65 : decode cX7_about 65 = .ok (.bipush (-2), 2) := by decide +kernel
theorem dX7_about_67 : decode cX7_about 67 = .ok (.ireturn, 1) := by decide +kernel
theorem dX7_set_0 : decode cX7_set 0 = .ok (.iload_n 1, 1) := by decide +kernel
theorem dX7_set_1 : decode cX7_set 1 = .ok (.iconst 0, 1) := by decide +kernel
theorem dX7_set_2 : decode cX7_set 2 = .ok (.iconst 3, 1) := by decide +kernel
theorem dX7_set_3 : decode cX7_set 3 = .ok (.invokestatic 69, 3) := by decide +kernel
theorem dX7_set_6 : decode cX7_set 6 = .ok (.ifCond .eq 32, 3) := by decide +kernel
theorem dX7_set_9 : decode cX7_set 9 = .ok (.iload_n 2, 1) := by decide +kernel
theorem dX7_set_10 : decode cX7_set 10 = .ok (.iload_n 1, 1) := by decide +kernel
theorem dX7_set_11 : decode cX7_set 11 = .ok (.iconst 2, 1) := by decide +kernel
theorem dX7_set_12 : decode cX7_set 12 = .ok (.if_icmp .ge 7, 3) := by decide +kernel
theorem dX7_set_15 : decode cX7_set 15 = .ok (.iconst 0, 1) := by decide +kernel
theorem dX7_set_16 : decode cX7_set 16 = .ok (.goto 4, 3) := by decide +kernel
theorem dX7_set_19 : decode cX7_set 19 = .ok (.iconst 1, 1) := by decide +kernel
theorem dX7_set_20 : decode cX7_set 20 = .ok (.iload_n 1, 1) := by decide +kernel
theorem dX7_set_21 : decode cX7_set 21 = .ok (.iconst 2, 1) := by decide +kernel
theorem dX7_set_22 : decode cX7_set 22 = .ok (.if_icmp .ge 8, 3) := by decide +kernel
theorem dX7_set_25 : decode cX7_set 25 = .ok (.bipush 99, 2) := by decide +kernel
theorem dX7_set_27 : decode cX7_set 27 = .ok (.goto 5, 3) := by decide +kernel
theorem dX7_set_30 : decode cX7_set 30 = .ok (.bipush 30, 2) := by decide +kernel
theorem dX7_set_32 : decode cX7_set 32 = .ok (.invokestatic 69, 3) := by decide +kernel
theorem dX7_set_35 : decode cX7_set 35 = .ok (.ifCond .ne 6, 3) := by decide +kernel
theorem dX7_set_38 : decode cX7_set 38 = .ok (.bipush (-2), 2) := by decide +kernel
theorem dX7_set_40 : decode cX7_set 40 = .ok (.ireturn, 1) := by decide +kernel
theorem dX7_set_41 : decode cX7_set 41 = .ok (.aload_n 0, 1) := by decide +kernel
theorem dX7_set_42 : decode cX7_set 42 = .ok (.getfield 22, 3) := by decide +kernel
theorem dX7_set_45 : decode cX7_set 45 = .ok (.iload_n 1, 1) := by decide +kernel
theorem dX7_set_46 : decode cX7_set 46 = .ok (.iaload, 1) := by decide +kernel
theorem dX7_set_47 : decode cX7_set 47 = .ok (.istore_n 3, 1) := by decide +kernel
theorem dX7_set_48 : decode cX7_set 48 = .ok (.aload_n 0, 1) := by decide +kernel
theorem dX7_set_49 : decode cX7_set 49 = .ok (.getfield 22, 3) := by decide +kernel
theorem dX7_set_52 : decode cX7_set 52 = .ok (.iload_n 1, 1) := by decide +kernel
theorem dX7_set_53 : decode cX7_set 53 = .ok (.iload_n 2, 1) := by decide +kernel
theorem dX7_set_54 : decode cX7_set 54 = .ok (.iastore, 1) := by decide +kernel
theorem dX7_set_55 : decode cX7_set 55 = .ok (.aload_n 0, 1) := by decide +kernel
theorem dX7_set_56 : decode cX7_set 56 = .ok (.iconst 0, 1) := by decide +kernel
theorem dX7_set_57 : decode cX7_set 57 = .ok (.putfield 81, 3) := by decide +kernel
theorem dX7_set_60 : decode cX7_set 60 = .ok (.iload_n 3, 1) := by decide +kernel
theorem dX7_set_61 : decode cX7_set 61 = .ok (.ireturn, 1) := by decide +kernel
theorem dX7_say_0 : decode cX7_say 0 = .ok (.iload_n 1, 1) := by decide +kernel
theorem dX7_say_1 : decode cX7_say 1 = .ok (.bipush 33, 2) := by decide +kernel
theorem dX7_say_3 : decode cX7_say 3 = .ok (.bipush 126, 2) := by decide +kernel
theorem dX7_say_5 : decode cX7_say 5 = .ok (.invokestatic 69, 3) := by decide +kernel
theorem dX7_say_8 : decode cX7_say 8 = .ok (.ifCond .ne 6, 3) := by decide +kernel
theorem dX7_say_11 : decode cX7_say 11 = .ok (.bipush (-2), 2) := by decide +kernel
theorem dX7_say_13 : decode cX7_say 13 = .ok (.ireturn, 1) := by decide +kernel
theorem dX7_say_14 : decode cX7_say 14 = .ok (.aload_n 0, 1) := by decide +kernel
theorem dX7_say_15 : decode cX7_say 15 = .ok (.getfield 88, 3) := by decide +kernel
theorem dX7_say_18 : decode cX7_say 18 = .ok (.bipush 50, 2) := by decide +kernel
theorem dX7_say_20 : decode cX7_say 20 = .ok (.if_icmp .ne 6, 3) := by decide +kernel
theorem dX7_say_23 : decode cX7_say 23 = .ok (.bipush (-4), 2) := by decide +kernel
theorem dX7_say_25 : decode cX7_say 25 = .ok (.ireturn, 1) := by decide +kernel
theorem dX7_say_26 : decode cX7_say 26 = .ok (.aload_n 0, 1) := by decide +kernel
theorem dX7_say_27 : decode cX7_say 27 = .ok (.getfield 25, 3) := by decide +kernel
theorem dX7_say_30 : decode cX7_say 30 = .ok (.aload_n 0, 1) := by decide +kernel
theorem dX7_say_31 : decode cX7_say 31 = .ok (.getfield 88, 3) := by decide +kernel
theorem dX7_say_34 : decode cX7_say 34 = .ok (.iload_n 1, 1) := by decide +kernel
theorem dX7_say_35 : decode cX7_say 35 = .ok (.iastore, 1) := by decide +kernel
theorem dX7_say_36 : decode cX7_say 36 = .ok (.aload_n 0, 1) := by decide +kernel
theorem dX7_say_37 : decode cX7_say 37 = .ok (.dup, 1) := by decide +kernel
theorem dX7_say_38 : decode cX7_say 38 = .ok (.getfield 88, 3) := by decide +kernel
theorem dX7_say_41 : decode cX7_say 41 = .ok (.iconst 1, 1) := by decide +kernel
theorem dX7_say_42 : decode cX7_say 42 = .ok (.iadd, 1) := by decide +kernel
theorem dX7_say_43 : decode cX7_say 43 = .ok (.putfield 88, 3) := by decide +kernel
theorem dX7_say_46 : decode cX7_say 46 = .ok (.aload_n 0, 1) := by decide +kernel
theorem dX7_say_47 : decode cX7_say 47 = .ok (.getfield 88, 3) := by decide +kernel
theorem dX7_say_50 : decode cX7_say 50 = .ok (.ireturn, 1) := by decide +kernel
theorem dX7_wipe_0 : decode cX7_wipe 0 = .ok (.aload_n 0, 1) := by decide +kernel
theorem dX7_wipe_1 : decode cX7_wipe 1 = .ok (.getfield 88, 3) := by decide +kernel
theorem dX7_wipe_4 : decode cX7_wipe 4 = .ok (.istore_n 1, 1) := by decide +kernel
theorem dX7_wipe_5 : decode cX7_wipe 5 = .ok (.aload_n 0, 1) := by decide +kernel
theorem dX7_wipe_6 : decode cX7_wipe 6 = .ok (.iconst 0, 1) := by decide +kernel
theorem dX7_wipe_7 : decode cX7_wipe 7 = .ok (.putfield 88, 3) := by decide +kernel
theorem dX7_wipe_10 : decode cX7_wipe 10 = .ok (.iload_n 1, 1) := by decide +kernel
theorem dX7_wipe_11 : decode cX7_wipe 11 = .ok (.ireturn, 1) := by decide +kernel
theorem dX7_faultOf_0 : decode cX7_faultOf 0 = .ok (.iconst 0, 1) := by decide +kernel
theorem dX7_faultOf_1 : decode cX7_faultOf 1 = .ok (.istore_n 1, 1) := by decide +kernel
theorem dX7_faultOf_2 : decode cX7_faultOf 2 = .ok (.iconst 0, 1) := by decide +kernel
theorem dX7_faultOf_3 : decode cX7_faultOf 3 = .ok (.istore_n 2, 1) := by decide +kernel
theorem dX7_faultOf_4 : decode cX7_faultOf 4 = .ok (.iload_n 2, 1) := by decide +kernel
theorem dX7_faultOf_5 : decode cX7_faultOf 5 = .ok (.aload_n 0, 1) := by decide +kernel
theorem dX7_faultOf_6 : decode cX7_faultOf 6 = .ok (.getfield 88, 3) := by decide +kernel
theorem dX7_faultOf_9 : decode cX7_faultOf 9 = .ok (.if_icmp .ge 125, 3) := by decide +kernel
theorem dX7_faultOf_12 : decode cX7_faultOf 12 = .ok (.aload_n 0, 1) := by decide +kernel
theorem dX7_faultOf_13 : decode cX7_faultOf 13 = .ok (.getfield 25, 3) := by decide +kernel
theorem dX7_faultOf_16 : decode cX7_faultOf 16 = .ok (.iload_n 2, 1) := by decide +kernel
theorem dX7_faultOf_17 : decode cX7_faultOf 17 = .ok (.iaload, 1) := by decide +kernel
theorem dX7_faultOf_18 : decode cX7_faultOf 18 = .ok (.istore_n 3, 1) := by decide +kernel
theorem dX7_faultOf_19 : decode cX7_faultOf 19 = .ok (.bipush (-6), 2) := by decide +kernel
theorem dX7_faultOf_21 : decode cX7_faultOf 21 = .ok (.istore 4, 2) := by decide +kernel
theorem dX7_faultOf_23 : decode cX7_faultOf 23 = .ok (.iload_n 1, 1) := by decide +kernel
theorem dX7_faultOf_24 : decode cX7_faultOf 24 = .ok (.iconst 2, 1) := by decide +kernel
theorem dX7_faultOf_25 : decode cX7_faultOf 25 = .ok (.if_icmp .ge 33, 3) := by decide +kernel
theorem dX7_faultOf_28 : decode cX7_faultOf 28 = .ok (.iload_n 3, 1) := by decide +kernel
theorem dX7_faultOf_29 : decode cX7_faultOf 29 = .ok (.bipush 48, 2) := by decide +kernel
theorem dX7_faultOf_31 : decode cX7_faultOf 31 = .ok (.bipush 51, 2) := by decide +kernel
theorem dX7_faultOf_33 : decode cX7_faultOf 33 = .ok (.invokestatic 69, 3) := by decide +kernel
theorem dX7_faultOf_36 : decode cX7_faultOf 36 = .ok (.ifCond .ne 9, 3) := by decide +kernel
theorem dX7_faultOf_39 : decode cX7_faultOf 39 = .ok (.iload_n 3, 1) := by decide +kernel
theorem dX7_faultOf_40 : decode cX7_faultOf 40 = .ok (.bipush 42, 2) := by decide +kernel
theorem dX7_faultOf_42 : decode cX7_faultOf 42 = .ok (.if_icmp .ne 9, 3) := by decide +kernel
theorem dX7_faultOf_45 : decode cX7_faultOf 45 = .ok (.iload_n 1, 1) := by decide +kernel
theorem dX7_faultOf_46 : decode cX7_faultOf 46 = .ok (.iconst 1, 1) := by decide +kernel
theorem dX7_faultOf_47 : decode cX7_faultOf 47 = .ok (.iadd, 1) := by decide +kernel
theorem dX7_faultOf_48 : decode cX7_faultOf 48 = .ok (.goto 5, 3) := by decide +kernel
theorem dX7_faultOf_51 : decode cX7_faultOf 51 = .ok (.bipush (-6), 2) := by decide +kernel
theorem dX7_faultOf_53 : decode cX7_faultOf 53 = .ok (.istore 4, 2) := by decide +kernel
theorem dX7_faultOf_55 : decode cX7_faultOf 55 = .ok (.goto 63, 3) := by decide +kernel
theorem dX7_faultOf_58 : decode cX7_faultOf 58 = .ok (.iload_n 1, 1) := by decide +kernel
theorem dX7_faultOf_59 : decode cX7_faultOf 59 = .ok (.iconst 2, 1) := by decide +kernel
theorem dX7_faultOf_60 : decode cX7_faultOf 60 = .ok (.if_icmp .ne 20, 3) := by decide +kernel
theorem dX7_faultOf_63 : decode cX7_faultOf 63 = .ok (.iload_n 3, 1) := by decide +kernel
theorem dX7_faultOf_64 : decode cX7_faultOf 64 = .ok (.bipush 61, 2) := by decide +kernel
theorem dX7_faultOf_66 : decode cX7_faultOf 66 = .ok (.if_icmp .ne 7, 3) := by decide +kernel
theorem dX7_faultOf_69 : decode cX7_faultOf 69 = .ok (.iconst 3, 1) := by decide +kernel
theorem dX7_faultOf_70 : decode cX7_faultOf 70 = .ok (.goto 5, 3) := by decide +kernel
theorem dX7_faultOf_73 : decode cX7_faultOf 73 = .ok (.bipush (-6), 2) := by decide +kernel
theorem dX7_faultOf_75 : decode cX7_faultOf 75 = .ok (.istore 4, 2) := by decide +kernel
theorem dX7_faultOf_77 : decode cX7_faultOf 77 = .ok (.goto 41, 3) := by decide +kernel
theorem dX7_faultOf_80 : decode cX7_faultOf 80 = .ok (.iload_n 1, 1) := by decide +kernel
theorem dX7_faultOf_81 : decode cX7_faultOf 81 = .ok (.iconst 5, 1) := by decide +kernel
theorem dX7_faultOf_82 : decode cX7_faultOf 82 = .ok (.if_icmp .ge 22, 3) := by decide +kernel
theorem dX7_faultOf_85 : decode cX7_faultOf 85 = .ok (.iload_n 3, 1) := by decide +kernel
theorem dX7_faultOf_86 : decode cX7_faultOf 86 = .ok (.bipush 48, 2) := by decide +kernel
theorem dX7_faultOf_88 : decode cX7_faultOf 88 = .ok (.bipush 57, 2) := by decide +kernel
theorem dX7_faultOf_90 : decode cX7_faultOf 90 = .ok (.invokestatic 69, 3) := by decide +kernel
theorem dX7_faultOf_93 : decode cX7_faultOf 93 = .ok (.ifCond .eq 11, 3) := by decide +kernel
theorem dX7_faultOf_96 : decode cX7_faultOf 96 = .ok (.iload_n 1, 1) := by decide +kernel
theorem dX7_faultOf_97 : decode cX7_faultOf 97 = .ok (.iconst 1, 1) := by decide +kernel
theorem dX7_faultOf_98 : decode cX7_faultOf 98 = .ok (.iadd, 1) := by decide +kernel
theorem dX7_faultOf_99 : decode cX7_faultOf 99 = .ok (.istore 4, 2) := by decide +kernel
theorem dX7_faultOf_101 : decode cX7_faultOf 101 = .ok (.goto 17, 3) := by decide +kernel
theorem dX7_faultOf_104 : decode cX7_faultOf 104 = .ok (.iload_n 1, 1) := by decide +kernel
theorem dX7_faultOf_105 : decode cX7_faultOf 105 = .ok (.iconst 3, 1) := by decide +kernel
theorem dX7_faultOf_106 : decode cX7_faultOf 106 = .ok (.if_icmp .le 12, 3) := by decide +kernel
theorem dX7_faultOf_109 : decode cX7_faultOf 109 = .ok (.iload_n 3, 1) := by decide +kernel
theorem dX7_faultOf_110 : decode cX7_faultOf 110 = .ok (.bipush 59, 2) := by decide +kernel
theorem dX7_faultOf_112 : decode cX7_faultOf 112 = .ok (.if_icmp .ne 6, 3) := by decide +kernel
theorem dX7_faultOf_115 : decode cX7_faultOf 115 = .ok (.iconst 0, 1) := by decide +kernel
theorem dX7_faultOf_116 : decode cX7_faultOf 116 = .ok (.istore 4, 2) := by decide +kernel
theorem dX7_faultOf_118 : decode cX7_faultOf 118 = .ok (.iload 4, 2) := by decide +kernel
theorem dX7_faultOf_120 : decode cX7_faultOf 120 = .ok (.ifCond .ge 5, 3) := by decide +kernel
theorem dX7_faultOf_123 : decode cX7_faultOf 123 = .ok (.iload_n 2, 1) := by decide +kernel
theorem dX7_faultOf_124 : decode cX7_faultOf 124 = .ok (.ireturn, 1) := by decide +kernel
theorem dX7_faultOf_125 : decode cX7_faultOf 125 = .ok (.iload 4, 2) := by decide +kernel
theorem dX7_faultOf_127 : decode cX7_faultOf 127 = .ok (.istore_n 1, 1) := by decide +kernel
theorem dX7_faultOf_128 : decode cX7_faultOf 128 = .ok (.iinc 2 1, 3) := by decide +kernel
theorem dX7_faultOf_131 : decode cX7_faultOf 131 = .ok (.goto (-127), 3) := by decide +kernel
theorem dX7_faultOf_134 : decode cX7_faultOf 134 = .ok (.iload_n 1, 1) := by decide +kernel
theorem dX7_faultOf_135 : decode cX7_faultOf 135 = .ok (.iconst 3, 1) := by decide +kernel
theorem dX7_faultOf_136 : decode cX7_faultOf 136 = .ok (.if_icmp .le 8, 3) := by decide +kernel
theorem dX7_faultOf_139 : decode cX7_faultOf 139 = .ok (.bipush (-6), 2) := by decide +kernel
theorem dX7_faultOf_141 : decode cX7_faultOf 141 = .ok (.goto 7, 3) := by decide +kernel
theorem dX7_faultOf_144 : decode cX7_faultOf 144 = .ok (.aload_n 0, 1) := by decide +kernel
theorem dX7_faultOf_145 : decode cX7_faultOf 145 = .ok (.getfield 88, 3) := by decide +kernel
theorem dX7_faultOf_148 : decode cX7_faultOf 148 = .ok (.ireturn, 1) := by decide +kernel
theorem dX7_fault_0 : decode cX7_fault 0 = .ok (.aload_n 0, 1) := by decide +kernel
theorem dX7_fault_1 : decode cX7_fault 1 = .ok (.invokevirtual 91, 3) := by decide +kernel
theorem dX7_fault_4 : decode cX7_fault 4 = .ok (.ireturn, 1) := by decide +kernel
theorem dX7_lines_0 : decode cX7_lines 0 = .ok (.aload_n 0, 1) := by decide +kernel
theorem dX7_lines_1 : decode cX7_lines 1 = .ok (.getfield 95, 3) := by decide +kernel
theorem dX7_lines_4 : decode cX7_lines 4 = .ok (.ifCond .le 7, 3) := by decide +kernel
theorem dX7_lines_7 : decode cX7_lines 7 = .ok (.iconst 1, 1) := by decide +kernel
theorem dX7_lines_8 : decode cX7_lines 8 = .ok (.goto 4, 3) := by decide +kernel
theorem dX7_lines_11 : decode cX7_lines 11 = .ok (.iconst 0, 1) := by decide +kernel
theorem dX7_lines_12 : decode cX7_lines 12 = .ok (.istore_n 1, 1) := by decide +kernel
theorem dX7_lines_13 : decode cX7_lines 13 = .ok (.iconst 0, 1) := by decide +kernel
theorem dX7_lines_14 : decode cX7_lines 14 = .ok (.istore_n 2, 1) := by decide +kernel
theorem dX7_lines_15 : decode cX7_lines 15 = .ok (.iload_n 2, 1) := by decide +kernel
theorem dX7_lines_16 : decode cX7_lines 16 = .ok (.aload_n 0, 1) := by decide +kernel
theorem dX7_lines_17 : decode cX7_lines 17 = .ok (.getfield 95, 3) := by decide +kernel
theorem dX7_lines_20 : decode cX7_lines 20 = .ok (.if_icmp .ge 28, 3) := by decide +kernel
theorem dX7_lines_23 : decode cX7_lines 23 = .ok (.iload_n 1, 1) := by decide +kernel
theorem dX7_lines_24 : decode cX7_lines 24 = .ok (.aload_n 0, 1) := by decide +kernel
theorem dX7_lines_25 : decode cX7_lines 25 = .ok (.getfield 28, 3) := by decide +kernel
theorem dX7_lines_28 : decode cX7_lines 28 = .ok (.iload_n 2, 1) := by decide +kernel
theorem dX7_lines_29 : decode cX7_lines 29 = .ok (.iaload, 1) := by decide +kernel
theorem dX7_lines_30 : decode cX7_lines 30 = .ok (.bipush 59, 2) := by decide +kernel
theorem dX7_lines_32 : decode cX7_lines 32 = .ok (.if_icmp .ne 7, 3) := by decide +kernel
theorem dX7_lines_35 : decode cX7_lines 35 = .ok (.iconst 1, 1) := by decide +kernel
theorem dX7_lines_36 : decode cX7_lines 36 = .ok (.goto 4, 3) := by decide +kernel
theorem dX7_lines_39 : decode cX7_lines 39 = .ok (.iconst 0, 1) := by decide +kernel
theorem dX7_lines_40 : decode cX7_lines 40 = .ok (.iadd, 1) := by decide +kernel
theorem dX7_lines_41 : decode cX7_lines 41 = .ok (.istore_n 1, 1) := by decide +kernel
theorem dX7_lines_42 : decode cX7_lines 42 = .ok (.iinc 2 1, 3) := by decide +kernel
theorem dX7_lines_45 : decode cX7_lines 45 = .ok (.goto (-30), 3) := by decide +kernel
theorem dX7_lines_48 : decode cX7_lines 48 = .ok (.iload_n 1, 1) := by decide +kernel
theorem dX7_lines_49 : decode cX7_lines 49 = .ok (.ireturn, 1) := by decide +kernel
theorem dX7_laySlips_0 : decode cX7_laySlips 0 = .ok (.iconst 0, 1) := by decide +kernel
theorem dX7_laySlips_1 : decode cX7_laySlips 1 = .ok (.istore_n 1, 1) := by decide +kernel
theorem dX7_laySlips_2 : decode cX7_laySlips 2 = .ok (.iload_n 1, 1) := by decide +kernel
theorem dX7_laySlips_3 : decode cX7_laySlips 3 = .ok (.bipush 16, 2) := by decide +kernel
theorem dX7_laySlips_5 : decode cX7_laySlips 5 = .ok (.if_icmp .ge 30, 3) := by decide +kernel
theorem dX7_laySlips_8 : decode cX7_laySlips 8 = .ok (.aload_n 0, 1) := by decide +kernel
theorem dX7_laySlips_9 : decode cX7_laySlips 9 = .ok (.getfield 49, 3) := by decide +kernel
theorem dX7_laySlips_12 : decode cX7_laySlips 12 = .ok (.iload_n 1, 1) := by decide +kernel
theorem dX7_laySlips_13 : decode cX7_laySlips 13 = .ok (.iload_n 1, 1) := by decide +kernel
theorem dX7_laySlips_14 : decode cX7_laySlips 14 = .ok (.iconst 4, 1) := by decide +kernel
theorem dX7_laySlips_15 : decode cX7_laySlips 15 = .ok (.idiv, 1) := by decide +kernel
theorem dX7_laySlips_16 : decode cX7_laySlips 16 = .ok (.iload_n 1, 1) := by decide +kernel
theorem dX7_laySlips_17 : decode cX7_laySlips 17 = .ok (.iconst 4, 1) := by decide +kernel
theorem dX7_laySlips_18 : decode cX7_laySlips 18 = .ok (.irem, 1) := by decide +kernel
theorem dX7_laySlips_19 : decode cX7_laySlips 19 = .ok (.if_icmp .ne 7, 3) := by decide +kernel
theorem dX7_laySlips_22 : decode cX7_laySlips 22 = .ok (.iconst 0, 1) := by decide +kernel
theorem dX7_laySlips_23 : decode cX7_laySlips 23 = .ok (.goto 5, 3) := by decide +kernel
theorem dX7_laySlips_26 : decode cX7_laySlips 26 = .ok (.bipush 10, 2) := by decide +kernel
theorem dX7_laySlips_28 : decode cX7_laySlips 28 = .ok (.iastore, 1) := by decide +kernel
theorem dX7_laySlips_29 : decode cX7_laySlips 29 = .ok (.iinc 1 1, 3) := by decide +kernel
theorem dX7_laySlips_32 : decode cX7_laySlips 32 = .ok (.goto (-30), 3) := by decide +kernel
theorem dX7_laySlips_35 : decode cX7_laySlips 35 = .ok (.iconst 0, 1) := by decide +kernel
theorem dX7_laySlips_36 : decode cX7_laySlips 36 = .ok (.istore_n 1, 1) := by decide +kernel
theorem dX7_laySlips_37 : decode cX7_laySlips 37 = .ok (.iconst 0, 1) := by decide +kernel
theorem dX7_laySlips_38 : decode cX7_laySlips 38 = .ok (.istore_n 2, 1) := by decide +kernel
theorem dX7_laySlips_39 : decode cX7_laySlips 39 = .ok (.iload_n 2, 1) := by decide +kernel
theorem dX7_laySlips_40 : decode cX7_laySlips 40 = .ok (.aload_n 0, 1) := by decide +kernel
theorem dX7_laySlips_41 : decode cX7_laySlips 41 = .ok (.getfield 95, 3) := by decide +kernel
theorem dX7_laySlips_44 : decode cX7_laySlips 44 = .ok (.if_icmp .ge 174, 3) := by decide +kernel
theorem dX7_laySlips_47 : decode cX7_laySlips 47 = .ok (.aload_n 0, 1) := by decide +kernel
theorem dX7_laySlips_48 : decode cX7_laySlips 48 = .ok (.getfield 28, 3) := by decide +kernel
theorem dX7_laySlips_51 : decode cX7_laySlips 51 = .ok (.iload_n 2, 1) := by decide +kernel
theorem dX7_laySlips_52 : decode cX7_laySlips 52 = .ok (.iaload, 1) := by decide +kernel
theorem dX7_laySlips_53 : decode cX7_laySlips 53 = .ok (.istore_n 3, 1) := by decide +kernel
theorem dX7_laySlips_54 : decode cX7_laySlips 54 = .ok (.aload_n 0, 1) := by decide +kernel
theorem dX7_laySlips_55 : decode cX7_laySlips 55 = .ok (.getfield 28, 3) := by decide +kernel
theorem dX7_laySlips_58 : decode cX7_laySlips 58 = .ok (.iload_n 2, 1) := by decide +kernel
theorem dX7_laySlips_59 : decode cX7_laySlips 59 = .ok (.iconst 1, 1) := by decide +kernel
theorem dX7_laySlips_60 : decode cX7_laySlips 60 = .ok (.iadd, 1) := by decide +kernel
theorem dX7_laySlips_61 : decode cX7_laySlips 61 = .ok (.iaload, 1) := by decide +kernel
theorem dX7_laySlips_62 : decode cX7_laySlips 62 = .ok (.istore 4, 2) := by decide +kernel
theorem dX7_laySlips_64 : decode cX7_laySlips 64 = .ok (.iinc 2 3, 3) := by decide +kernel
theorem dX7_laySlips_67 : decode cX7_laySlips 67 = .ok (.iconst 0, 1) := by decide +kernel
theorem dX7_laySlips_68 : decode cX7_laySlips 68 = .ok (.istore 5, 2) := by decide +kernel
theorem dX7_laySlips_70 : decode cX7_laySlips 70 = .ok (.iload_n 2, 1) := by decide +kernel
theorem dX7_laySlips_71 : decode cX7_laySlips 71 = .ok (.aload_n 0, 1) := by decide +kernel
theorem dX7_laySlips_72 : decode cX7_laySlips 72 = .ok (.getfield 95, 3) := by decide +kernel
theorem dX7_laySlips_75 : decode cX7_laySlips 75 = .ok (.if_icmp .ge 37, 3) := by decide +kernel
theorem dX7_laySlips_78 : decode cX7_laySlips 78 = .ok (.aload_n 0, 1) := by decide +kernel
theorem dX7_laySlips_79 : decode cX7_laySlips 79 = .ok (.getfield 28, 3) := by decide +kernel
theorem dX7_laySlips_82 : decode cX7_laySlips 82 = .ok (.iload_n 2, 1) := by decide +kernel
theorem dX7_laySlips_83 : decode cX7_laySlips 83 = .ok (.iaload, 1) := by decide +kernel
theorem dX7_laySlips_84 : decode cX7_laySlips 84 = .ok (.bipush 59, 2) := by decide +kernel
theorem dX7_laySlips_86 : decode cX7_laySlips 86 = .ok (.if_icmp .eq 26, 3) := by decide +kernel
theorem dX7_laySlips_89 : decode cX7_laySlips 89 = .ok (.bipush 10, 2) := by decide +kernel
theorem dX7_laySlips_91 : decode cX7_laySlips 91 = .ok (.iload 5, 2) := by decide +kernel
theorem dX7_laySlips_93 : decode cX7_laySlips 93 = .ok (.imul, 1) := by decide +kernel
theorem dX7_laySlips_94 : decode cX7_laySlips 94 = .ok (.aload_n 0, 1) := by decide +kernel
theorem dX7_laySlips_95 : decode cX7_laySlips 95 = .ok (.getfield 28, 3) := by decide +kernel
theorem dX7_laySlips_98 : decode cX7_laySlips 98 = .ok (.iload_n 2, 1) := by decide +kernel
theorem dX7_laySlips_99 : decode cX7_laySlips 99 = .ok (.iaload, 1) := by decide +kernel
theorem dX7_laySlips_100 : decode cX7_laySlips 100 = .ok (.iadd, 1) := by decide +kernel
theorem dX7_laySlips_101 : decode cX7_laySlips 101 = .ok (.bipush 48, 2) := by decide +kernel
theorem dX7_laySlips_103 : decode cX7_laySlips 103 = .ok (.isub, 1) := by decide +kernel
theorem dX7_laySlips_104 : decode cX7_laySlips 104 = .ok (.istore 5, 2) := by decide +kernel
theorem dX7_laySlips_106 : decode cX7_laySlips 106 = .ok (.iinc 2 1, 3) := by decide +kernel
theorem dX7_laySlips_109 : decode cX7_laySlips 109 = .ok (.goto (-39), 3) := by decide +kernel
theorem dX7_laySlips_112 : decode cX7_laySlips 112 = .ok (.iinc 2 1, 3) := by decide +kernel
theorem dX7_laySlips_115 : decode cX7_laySlips 115 = .ok (.iconst 0, 1) := by decide +kernel
theorem dX7_laySlips_116 : decode cX7_laySlips 116 = .ok (.istore 6, 2) := by decide +kernel
theorem dX7_laySlips_118 : decode cX7_laySlips 118 = .ok (.iload 6, 2) := by decide +kernel
theorem dX7_laySlips_120 : decode cX7_laySlips 120 = .ok (.bipush 16, 2) := by decide +kernel
theorem dX7_laySlips_122 : decode cX7_laySlips 122 = .ok (.if_icmp .ge 93, 3) := by decide +kernel
theorem dX7_laySlips_125 : decode cX7_laySlips 125 = .ok (.iload_n 3, 1) := by decide +kernel
theorem dX7_laySlips_126 : decode cX7_laySlips 126 = .ok (.bipush 42, 2) := by decide +kernel
theorem dX7_laySlips_128 : decode cX7_laySlips 128 = .ok (.if_icmp .eq 14, 3) := by decide +kernel
theorem dX7_laySlips_131 : decode cX7_laySlips 131 = .ok (.iload_n 3, 1) := by decide +kernel
theorem dX7_laySlips_132 : decode cX7_laySlips 132 = .ok (.bipush 48, 2) := by decide +kernel
theorem dX7_laySlips_134 : decode cX7_laySlips 134 = .ok (.isub, 1) := by decide +kernel
theorem dX7_laySlips_135 : decode cX7_laySlips 135 = .ok (.iload 6, 2) := by decide +kernel
theorem dX7_laySlips_137 : decode cX7_laySlips 137 = .ok (.iconst 4, 1) := by decide +kernel
theorem dX7_laySlips_138 : decode cX7_laySlips 138 = .ok (.idiv, 1) := by decide +kernel
theorem dX7_laySlips_139 : decode cX7_laySlips 139 = .ok (.if_icmp .ne 26, 3) := by decide +kernel
theorem dX7_laySlips_142 : decode cX7_laySlips 142 = .ok (.iload 4, 2) := by decide +kernel
theorem dX7_laySlips_144 : decode cX7_laySlips 144 = .ok (.bipush 42, 2) := by decide +kernel
theorem dX7_laySlips_146 : decode cX7_laySlips 146 = .ok (.if_icmp .eq 15, 3) := by decide +kernel
theorem dX7_laySlips_149 : decode cX7_laySlips 149 = .ok (.iload 4, 2) := by decide +kernel
theorem dX7_laySlips_151 : decode cX7_laySlips 151 = .ok (.bipush 48, 2) := by decide +kernel
theorem dX7_laySlips_153 : decode cX7_laySlips 153 = .ok (.isub, 1) := by decide +kernel
theorem dX7_laySlips_154 : decode cX7_laySlips 154 = .ok (.iload 6, 2) := by decide +kernel
theorem dX7_laySlips_156 : decode cX7_laySlips 156 = .ok (.iconst 4, 1) := by decide +kernel
theorem dX7_laySlips_157 : decode cX7_laySlips 157 = .ok (.irem, 1) := by decide +kernel
theorem dX7_laySlips_158 : decode cX7_laySlips 158 = .ok (.if_icmp .ne 7, 3) := by decide +kernel
theorem dX7_laySlips_161 : decode cX7_laySlips 161 = .ok (.iconst 1, 1) := by decide +kernel
theorem dX7_laySlips_162 : decode cX7_laySlips 162 = .ok (.goto 4, 3) := by decide +kernel
theorem dX7_laySlips_165 : decode cX7_laySlips 165 = .ok (.iconst 0, 1) := by decide +kernel
theorem dX7_laySlips_166 : decode cX7_laySlips 166 = .ok (.istore 7, 2) := by decide +kernel
theorem dX7_laySlips_168 : decode cX7_laySlips 168 = .ok (.iload 7, 2) := by decide +kernel
theorem dX7_laySlips_170 : decode cX7_laySlips 170 = .ok (.ifCond .eq 39, 3) := by decide +kernel
theorem dX7_laySlips_173 : decode cX7_laySlips 173 = .ok (.iload 6, 2) := by decide +kernel
theorem dX7_laySlips_175 : decode cX7_laySlips 175 = .ok (.iconst 4, 1) := by decide +kernel
theorem dX7_laySlips_176 : decode cX7_laySlips 176 = .ok (.idiv, 1) := by decide +kernel
theorem dX7_laySlips_177 : decode cX7_laySlips 177 = .ok (.iload 6, 2) := by decide +kernel
theorem dX7_laySlips_179 : decode cX7_laySlips 179 = .ok (.iconst 4, 1) := by decide +kernel
theorem dX7_laySlips_180 : decode cX7_laySlips 180 = .ok (.irem, 1) := by decide +kernel
theorem dX7_laySlips_181 : decode cX7_laySlips 181 = .ok (.if_icmp .eq 28, 3) := by decide +kernel
theorem dX7_laySlips_184 : decode cX7_laySlips 184 = .ok (.iload_n 1, 1) := by decide +kernel
theorem dX7_laySlips_185 : decode cX7_laySlips 185 = .ok (.iload 6, 2) := by decide +kernel
theorem dX7_laySlips_187 : decode cX7_laySlips 187 = .ok (.ishr, 1) := by decide +kernel
theorem dX7_laySlips_188 : decode cX7_laySlips 188 = .ok (.iconst 1, 1) := by decide +kernel
theorem dX7_laySlips_189 : decode cX7_laySlips 189 = .ok (.iand, 1) := by decide +kernel
theorem dX7_laySlips_190 : decode cX7_laySlips 190 = .ok (.ifCond .ne 19, 3) := by decide +kernel
theorem dX7_laySlips_193 : decode cX7_laySlips 193 = .ok (.aload_n 0, 1) := by decide +kernel
theorem dX7_laySlips_194 : decode cX7_laySlips 194 = .ok (.getfield 49, 3) := by decide +kernel
theorem dX7_laySlips_197 : decode cX7_laySlips 197 = .ok (.iload 6, 2) := by decide +kernel
theorem dX7_laySlips_199 : decode cX7_laySlips 199 = .ok (.iload 5, 2) := by decide +kernel
theorem dX7_laySlips_201 : decode cX7_laySlips 201 = .ok (.iastore, 1) := by decide +kernel
theorem dX7_laySlips_202 : decode cX7_laySlips 202 = .ok (.iload_n 1, 1) := by decide +kernel
theorem dX7_laySlips_203 : decode cX7_laySlips 203 = .ok (.iconst 1, 1) := by decide +kernel
theorem dX7_laySlips_204 : decode cX7_laySlips 204 = .ok (.iload 6, 2) := by decide +kernel
theorem dX7_laySlips_206 : decode cX7_laySlips 206 = .ok (.ishl, 1) := by decide +kernel
theorem dX7_laySlips_207 : decode cX7_laySlips 207 = .ok (.ior, 1) := by decide +kernel
theorem dX7_laySlips_208 : decode cX7_laySlips 208 = .ok (.istore_n 1, 1) := by decide +kernel
theorem dX7_laySlips_209 : decode cX7_laySlips 209 = .ok (.iinc 6 1, 3) := by decide +kernel
theorem dX7_laySlips_212 : decode cX7_laySlips 212 = .ok (.goto (-94), 3) := by decide +kernel
theorem dX7_laySlips_215 : decode cX7_laySlips 215 = .ok (.goto (-176), 3) := by decide +kernel
theorem dX7_laySlips_218 : decode cX7_laySlips 218 = .ok (.return_, 1) := by decide +kernel
theorem dX7_law_0 : decode cX7_law 0 = .ok (.aload_n 0, 1) := by decide +kernel
theorem dX7_law_1 : decode cX7_law 1 = .ok (.invokevirtual 91, 3) := by decide +kernel
theorem dX7_law_4 : decode cX7_law 4 = .ok (.ifCond .lt 6, 3) := by decide +kernel
theorem dX7_law_7 : decode cX7_law 7 = .ok (.bipush (-5), 2) := by decide +kernel
theorem dX7_law_9 : decode cX7_law 9 = .ok (.ireturn, 1) := by decide +kernel
theorem dX7_law_10 : decode cX7_law 10 = .ok (.aload_n 0, 1) := by decide +kernel
theorem dX7_law_11 : decode cX7_law 11 = .ok (.aload_n 0, 1) := by decide +kernel
theorem dX7_law_12 : decode cX7_law 12 = .ok (.getfield 88, 3) := by decide +kernel
theorem dX7_law_15 : decode cX7_law 15 = .ok (.putfield 95, 3) := by decide +kernel
theorem dX7_law_18 : decode cX7_law 18 = .ok (.iconst 0, 1) := by decide +kernel
theorem dX7_law_19 : decode cX7_law 19 = .ok (.istore_n 1, 1) := by decide +kernel
theorem dX7_law_20 : decode cX7_law 20 = .ok (.iload_n 1, 1) := by decide +kernel
theorem dX7_law_21 : decode cX7_law 21 = .ok (.aload_n 0, 1) := by decide +kernel
theorem dX7_law_22 : decode cX7_law 22 = .ok (.getfield 88, 3) := by decide +kernel
theorem dX7_law_25 : decode cX7_law 25 = .ok (.if_icmp .ge 21, 3) := by decide +kernel
theorem dX7_law_28 : decode cX7_law 28 = .ok (.aload_n 0, 1) := by decide +kernel
theorem dX7_law_29 : decode cX7_law 29 = .ok (.getfield 28, 3) := by decide +kernel
theorem dX7_law_32 : decode cX7_law 32 = .ok (.iload_n 1, 1) := by decide +kernel
theorem dX7_law_33 : decode cX7_law 33 = .ok (.aload_n 0, 1) := by decide +kernel
theorem dX7_law_34 : decode cX7_law 34 = .ok (.getfield 25, 3) := by decide +kernel
theorem dX7_law_37 : decode cX7_law 37 = .ok (.iload_n 1, 1) := by decide +kernel
theorem dX7_law_38 : decode cX7_law 38 = .ok (.iaload, 1) := by decide +kernel
theorem dX7_law_39 : decode cX7_law 39 = .ok (.iastore, 1) := by decide +kernel
theorem dX7_law_40 : decode cX7_law 40 = .ok (.iinc 1 1, 3) := by decide +kernel
theorem dX7_law_43 : decode cX7_law 43 = .ok (.goto (-23), 3) := by decide +kernel
theorem dX7_law_46 : decode cX7_law 46 = .ok (.aload_n 0, 1) := by decide +kernel
theorem dX7_law_47 : decode cX7_law 47 = .ok (.iconst 0, 1) := by decide +kernel
theorem dX7_law_48 : decode cX7_law 48 = .ok (.putfield 88, 3) := by decide +kernel
theorem dX7_law_51 : decode cX7_law 51 = .ok (.aload_n 0, 1) := by decide +kernel
theorem dX7_law_52 : decode cX7_law 52 = .ok (.iconst 0, 1) := by decide +kernel
theorem dX7_law_53 : decode cX7_law 53 = .ok (.putfield 81, 3) := by decide +kernel
theorem dX7_law_56 : decode cX7_law 56 = .ok (.aload_n 0, 1) := by decide +kernel
theorem dX7_law_57 : decode cX7_law 57 = .ok (.invokevirtual 98, 3) := by decide +kernel
theorem dX7_law_60 : decode cX7_law 60 = .ok (.ireturn, 1) := by decide +kernel
theorem dX7_slip_0 : decode cX7_slip 0 = .ok (.iload_n 1, 1) := by decide +kernel
theorem dX7_slip_1 : decode cX7_slip 1 = .ok (.iconst 0, 1) := by decide +kernel
theorem dX7_slip_2 : decode cX7_slip 2 = .ok (.iconst 3, 1) := by decide +kernel
theorem dX7_slip_3 : decode cX7_slip 3 = .ok (.invokestatic 69, 3) := by decide +kernel
theorem dX7_slip_6 : decode cX7_slip 6 = .ok (.ifCond .eq 12, 3) := by decide +kernel
theorem dX7_slip_9 : decode cX7_slip 9 = .ok (.iload_n 2, 1) := by decide +kernel
theorem dX7_slip_10 : decode cX7_slip 10 = .ok (.iconst 0, 1) := by decide +kernel
theorem dX7_slip_11 : decode cX7_slip 11 = .ok (.iconst 3, 1) := by decide +kernel
theorem dX7_slip_12 : decode cX7_slip 12 = .ok (.invokestatic 69, 3) := by decide +kernel
theorem dX7_slip_15 : decode cX7_slip 15 = .ok (.ifCond .ne 6, 3) := by decide +kernel
theorem dX7_slip_18 : decode cX7_slip 18 = .ok (.bipush (-2), 2) := by decide +kernel
theorem dX7_slip_20 : decode cX7_slip 20 = .ok (.ireturn, 1) := by decide +kernel
theorem dX7_slip_21 : decode cX7_slip 21 = .ok (.aload_n 0, 1) := by decide +kernel
theorem dX7_slip_22 : decode cX7_slip 22 = .ok (.invokevirtual 101, 3) := by decide +kernel
theorem dX7_slip_25 : decode cX7_slip 25 = .ok (.aload_n 0, 1) := by decide +kernel
theorem dX7_slip_26 : decode cX7_slip 26 = .ok (.getfield 49, 3) := by decide +kernel
theorem dX7_slip_29 : decode cX7_slip 29 = .ok (.iconst 4, 1) := by decide +kernel
theorem dX7_slip_30 : decode cX7_slip 30 = .ok (.iload_n 1, 1) := by decide +kernel
theorem dX7_slip_31 : decode cX7_slip 31 = .ok (.imul, 1) := by decide +kernel
theorem dX7_slip_32 : decode cX7_slip 32 = .ok (.iload_n 2, 1) := by decide +kernel
theorem dX7_slip_33 : decode cX7_slip 33 = .ok (.iadd, 1) := by decide +kernel
theorem dX7_slip_34 : decode cX7_slip 34 = .ok (.iaload, 1) := by decide +kernel
theorem dX7_slip_35 : decode cX7_slip 35 = .ok (.ireturn, 1) := by decide +kernel
theorem dX7_costOf_0 : decode cX7_costOf 0 = .ok (.iconst 0, 1) := by decide +kernel
theorem dX7_costOf_1 : decode cX7_costOf 1 = .ok (.istore_n 3, 1) := by decide +kernel
theorem dX7_costOf_2 : decode cX7_costOf 2 = .ok (.iconst 0, 1) := by decide +kernel
theorem dX7_costOf_3 : decode cX7_costOf 3 = .ok (.istore 4, 2) := by decide +kernel
theorem dX7_costOf_5 : decode cX7_costOf 5 = .ok (.iload 4, 2) := by decide +kernel
theorem dX7_costOf_7 : decode cX7_costOf 7 = .ok (.bipush 8, 2) := by decide +kernel
theorem dX7_costOf_9 : decode cX7_costOf 9 = .ok (.if_icmp .ge 32, 3) := by decide +kernel
theorem dX7_costOf_12 : decode cX7_costOf 12 = .ok (.iload_n 3, 1) := by decide +kernel
theorem dX7_costOf_13 : decode cX7_costOf 13 = .ok (.aload_n 0, 1) := by decide +kernel
theorem dX7_costOf_14 : decode cX7_costOf 14 = .ok (.getfield 49, 3) := by decide +kernel
theorem dX7_costOf_17 : decode cX7_costOf 17 = .ok (.iconst 4, 1) := by decide +kernel
theorem dX7_costOf_18 : decode cX7_costOf 18 = .ok (.iload_n 1, 1) := by decide +kernel
theorem dX7_costOf_19 : decode cX7_costOf 19 = .ok (.iload 4, 2) := by decide +kernel
theorem dX7_costOf_21 : decode cX7_costOf 21 = .ok (.invokestatic 104, 3) := by decide +kernel
theorem dX7_costOf_24 : decode cX7_costOf 24 = .ok (.imul, 1) := by decide +kernel
theorem dX7_costOf_25 : decode cX7_costOf 25 = .ok (.iload_n 2, 1) := by decide +kernel
theorem dX7_costOf_26 : decode cX7_costOf 26 = .ok (.iload 4, 2) := by decide +kernel
theorem dX7_costOf_28 : decode cX7_costOf 28 = .ok (.invokestatic 104, 3) := by decide +kernel
theorem dX7_costOf_31 : decode cX7_costOf 31 = .ok (.iadd, 1) := by decide +kernel
theorem dX7_costOf_32 : decode cX7_costOf 32 = .ok (.iaload, 1) := by decide +kernel
theorem dX7_costOf_33 : decode cX7_costOf 33 = .ok (.iadd, 1) := by decide +kernel
theorem dX7_costOf_34 : decode cX7_costOf 34 = .ok (.istore_n 3, 1) := by decide +kernel
theorem dX7_costOf_35 : decode cX7_costOf 35 = .ok (.iinc 4 1, 3) := by decide +kernel
theorem dX7_costOf_38 : decode cX7_costOf 38 = .ok (.goto (-33), 3) := by decide +kernel
theorem dX7_costOf_41 : decode cX7_costOf 41 = .ok (.iload_n 3, 1) := by decide +kernel
theorem dX7_costOf_42 : decode cX7_costOf 42 = .ok (.ireturn, 1) := by decide +kernel
theorem dX7_cost_0 : decode cX7_cost 0 = .ok (.iload_n 1, 1) := by decide +kernel
theorem dX7_cost_1 : decode cX7_cost 1 = .ok (.invokestatic 74, 3) := by decide +kernel
theorem dX7_cost_4 : decode cX7_cost 4 = .ok (.ifCond .eq 10, 3) := by decide +kernel
theorem dX7_cost_7 : decode cX7_cost 7 = .ok (.iload_n 2, 1) := by decide +kernel
theorem dX7_cost_8 : decode cX7_cost 8 = .ok (.invokestatic 74, 3) := by decide +kernel
theorem dX7_cost_11 : decode cX7_cost 11 = .ok (.ifCond .ne 6, 3) := by decide +kernel
theorem dX7_cost_14 : decode cX7_cost 14 = .ok (.bipush (-2), 2) := by decide +kernel
theorem dX7_cost_16 : decode cX7_cost 16 = .ok (.ireturn, 1) := by decide +kernel
theorem dX7_cost_17 : decode cX7_cost 17 = .ok (.aload_n 0, 1) := by decide +kernel
theorem dX7_cost_18 : decode cX7_cost 18 = .ok (.invokevirtual 101, 3) := by decide +kernel
theorem dX7_cost_21 : decode cX7_cost 21 = .ok (.aload_n 0, 1) := by decide +kernel
theorem dX7_cost_22 : decode cX7_cost 22 = .ok (.iload_n 1, 1) := by decide +kernel
theorem dX7_cost_23 : decode cX7_cost 23 = .ok (.iload_n 2, 1) := by decide +kernel
theorem dX7_cost_24 : decode cX7_cost 24 = .ok (.invokevirtual 108, 3) := by decide +kernel
theorem dX7_cost_27 : decode cX7_cost 27 = .ok (.ireturn, 1) := by decide +kernel
theorem dX7_rows_0 : decode cX7_rows 0 = .ok (.iconst 1, 1) := by decide +kernel
theorem dX7_rows_1 : decode cX7_rows 1 = .ok (.istore_n 1, 1) := by decide +kernel
theorem dX7_rows_2 : decode cX7_rows 2 = .ok (.iconst 0, 1) := by decide +kernel
theorem dX7_rows_3 : decode cX7_rows 3 = .ok (.istore_n 2, 1) := by decide +kernel
theorem dX7_rows_4 : decode cX7_rows 4 = .ok (.iload_n 2, 1) := by decide +kernel
theorem dX7_rows_5 : decode cX7_rows 5 = .ok (.aload_n 0, 1) := by decide +kernel
theorem dX7_rows_6 : decode cX7_rows 6 = .ok (.getfield 65, 3) := by decide +kernel
theorem dX7_rows_9 : decode cX7_rows 9 = .ok (.if_icmp .ge 14, 3) := by decide +kernel
theorem dX7_rows_12 : decode cX7_rows 12 = .ok (.iload_n 1, 1) := by decide +kernel
theorem dX7_rows_13 : decode cX7_rows 13 = .ok (.bipush 7, 2) := by decide +kernel
theorem dX7_rows_15 : decode cX7_rows 15 = .ok (.imul, 1) := by decide +kernel
theorem dX7_rows_16 : decode cX7_rows 16 = .ok (.istore_n 1, 1) := by decide +kernel
theorem dX7_rows_17 : decode cX7_rows 17 = .ok (.iinc 2 1, 3) := by decide +kernel
theorem dX7_rows_20 : decode cX7_rows 20 = .ok (.goto (-16), 3) := by decide +kernel
theorem dX7_rows_23 : decode cX7_rows 23 = .ok (.iload_n 1, 1) := by decide +kernel
theorem dX7_rows_24 : decode cX7_rows 24 = .ok (.ireturn, 1) := by decide +kernel
theorem dX7_layRow_0 : decode cX7_layRow 0 = .ok (.iload_n 1, 1) := by decide +kernel
theorem dX7_layRow_1 : decode cX7_layRow 1 = .ok (.istore_n 2, 1) := by decide +kernel
theorem dX7_layRow_2 : decode cX7_layRow 2 = .ok (.iconst 0, 1) := by decide +kernel
theorem dX7_layRow_3 : decode cX7_layRow 3 = .ok (.istore_n 3, 1) := by decide +kernel
theorem dX7_layRow_4 : decode cX7_layRow 4 = .ok (.aload_n 0, 1) := by decide +kernel
theorem dX7_layRow_5 : decode cX7_layRow 5 = .ok (.getfield 65, 3) := by decide +kernel
theorem dX7_layRow_8 : decode cX7_layRow 8 = .ok (.iconst 1, 1) := by decide +kernel
theorem dX7_layRow_9 : decode cX7_layRow 9 = .ok (.isub, 1) := by decide +kernel
theorem dX7_layRow_10 : decode cX7_layRow 10 = .ok (.istore 4, 2) := by decide +kernel
theorem dX7_layRow_12 : decode cX7_layRow 12 = .ok (.iload 4, 2) := by decide +kernel
theorem dX7_layRow_14 : decode cX7_layRow 14 = .ok (.ifCond .lt 46, 3) := by decide +kernel
theorem dX7_layRow_17 : decode cX7_layRow 17 = .ok (.aload_n 0, 1) := by decide +kernel
theorem dX7_layRow_18 : decode cX7_layRow 18 = .ok (.getfield 55, 3) := by decide +kernel
theorem dX7_layRow_21 : decode cX7_layRow 21 = .ok (.iload 4, 2) := by decide +kernel
theorem dX7_layRow_23 : decode cX7_layRow 23 = .ok (.iload_n 2, 1) := by decide +kernel
theorem dX7_layRow_24 : decode cX7_layRow 24 = .ok (.bipush 7, 2) := by decide +kernel
theorem dX7_layRow_26 : decode cX7_layRow 26 = .ok (.irem, 1) := by decide +kernel
theorem dX7_layRow_27 : decode cX7_layRow 27 = .ok (.iastore, 1) := by decide +kernel
theorem dX7_layRow_28 : decode cX7_layRow 28 = .ok (.iload_n 2, 1) := by decide +kernel
theorem dX7_layRow_29 : decode cX7_layRow 29 = .ok (.bipush 7, 2) := by decide +kernel
theorem dX7_layRow_31 : decode cX7_layRow 31 = .ok (.idiv, 1) := by decide +kernel
theorem dX7_layRow_32 : decode cX7_layRow 32 = .ok (.istore_n 2, 1) := by decide +kernel
theorem dX7_layRow_33 : decode cX7_layRow 33 = .ok (.iload_n 3, 1) := by decide +kernel
theorem dX7_layRow_34 : decode cX7_layRow 34 = .ok (.aload_n 0, 1) := by decide +kernel
theorem dX7_layRow_35 : decode cX7_layRow 35 = .ok (.getfield 52, 3) := by decide +kernel
theorem dX7_layRow_38 : decode cX7_layRow 38 = .ok (.bipush 7, 2) := by decide +kernel
theorem dX7_layRow_40 : decode cX7_layRow 40 = .ok (.iload 4, 2) := by decide +kernel
theorem dX7_layRow_42 : decode cX7_layRow 42 = .ok (.imul, 1) := by decide +kernel
theorem dX7_layRow_43 : decode cX7_layRow 43 = .ok (.aload_n 0, 1) := by decide +kernel
theorem dX7_layRow_44 : decode cX7_layRow 44 = .ok (.getfield 55, 3) := by decide +kernel
theorem dX7_layRow_47 : decode cX7_layRow 47 = .ok (.iload 4, 2) := by decide +kernel
theorem dX7_layRow_49 : decode cX7_layRow 49 = .ok (.iaload, 1) := by decide +kernel
theorem dX7_layRow_50 : decode cX7_layRow 50 = .ok (.iadd, 1) := by decide +kernel
theorem dX7_layRow_51 : decode cX7_layRow 51 = .ok (.iaload, 1) := by decide +kernel
theorem dX7_layRow_52 : decode cX7_layRow 52 = .ok (.iadd, 1) := by decide +kernel
theorem dX7_layRow_53 : decode cX7_layRow 53 = .ok (.istore_n 3, 1) := by decide +kernel
theorem dX7_layRow_54 : decode cX7_layRow 54 = .ok (.iinc 4 (-1), 3) := by decide +kernel
theorem dX7_layRow_57 : decode cX7_layRow 57 = .ok (.goto (-45), 3) := by decide +kernel
theorem dX7_layRow_60 : decode cX7_layRow 60 = .ok (.iload_n 3, 1) := by decide +kernel
theorem dX7_layRow_61 : decode cX7_layRow 61 = .ok (.ldc 111, 2) := by decide +kernel
theorem dX7_layRow_63 : decode cX7_layRow 63 = .ok (.if_icmp .lt 6, 3) := by decide +kernel
theorem dX7_layRow_66 : decode cX7_layRow 66 = .ok (.ldc 111, 2) := by decide +kernel
theorem dX7_layRow_68 : decode cX7_layRow 68 = .ok (.ireturn, 1) := by decide +kernel
theorem dX7_layRow_69 : decode cX7_layRow 69 = .ok (.iconst 0, 1) := by decide +kernel
theorem dX7_layRow_70 : decode cX7_layRow 70 = .ok (.istore 4, 2) := by decide +kernel
theorem dX7_layRow_72 : decode cX7_layRow 72 = .ok (.iload 4, 2) := by decide +kernel
theorem dX7_layRow_74 : decode cX7_layRow 74 = .ok (.aload_n 0, 1) := by decide +kernel
theorem dX7_layRow_75 : decode cX7_layRow 75 = .ok (.getfield 65, 3) := by decide +kernel
theorem dX7_layRow_78 : decode cX7_layRow 78 = .ok (.if_icmp .ge 57, 3) := by decide +kernel
theorem dX7_layRow_81 : decode cX7_layRow 81 = .ok (.iload 4, 2) := by decide +kernel
theorem dX7_layRow_83 : decode cX7_layRow 83 = .ok (.istore 5, 2) := by decide +kernel
theorem dX7_layRow_85 : decode cX7_layRow 85 = .ok (.iconst 0, 1) := by decide +kernel
theorem dX7_layRow_86 : decode cX7_layRow 86 = .ok (.istore 6, 2) := by decide +kernel
theorem dX7_layRow_88 : decode cX7_layRow 88 = .ok (.iload 6, 2) := by decide +kernel
theorem dX7_layRow_90 : decode cX7_layRow 90 = .ok (.aload_n 0, 1) := by decide +kernel
theorem dX7_layRow_91 : decode cX7_layRow 91 = .ok (.getfield 65, 3) := by decide +kernel
theorem dX7_layRow_94 : decode cX7_layRow 94 = .ok (.if_icmp .ge 25, 3) := by decide +kernel
theorem dX7_layRow_97 : decode cX7_layRow 97 = .ok (.iload 5, 2) := by decide +kernel
theorem dX7_layRow_99 : decode cX7_layRow 99 = .ok (.bipush 6, 2) := by decide +kernel
theorem dX7_layRow_101 : decode cX7_layRow 101 = .ok (.if_icmp .ge 18, 3) := by decide +kernel
theorem dX7_layRow_104 : decode cX7_layRow 104 = .ok (.aload_n 0, 1) := by decide +kernel
theorem dX7_layRow_105 : decode cX7_layRow 105 = .ok (.getfield 55, 3) := by decide +kernel
theorem dX7_layRow_108 : decode cX7_layRow 108 = .ok (.iload 5, 2) := by decide +kernel
theorem dX7_layRow_110 : decode cX7_layRow 110 = .ok (.iaload, 1) := by decide +kernel
theorem dX7_layRow_111 : decode cX7_layRow 111 = .ok (.istore 5, 2) := by decide +kernel
theorem dX7_layRow_113 : decode cX7_layRow 113 = .ok (.iinc 6 1, 3) := by decide +kernel
theorem dX7_layRow_116 : decode cX7_layRow 116 = .ok (.goto (-28), 3) := by decide +kernel
theorem dX7_layRow_119 : decode cX7_layRow 119 = .ok (.iload 5, 2) := by decide +kernel
theorem dX7_layRow_121 : decode cX7_layRow 121 = .ok (.bipush 6, 2) := by decide +kernel
theorem dX7_layRow_123 : decode cX7_layRow 123 = .ok (.if_icmp .ge 6, 3) := by decide +kernel
theorem dX7_layRow_126 : decode cX7_layRow 126 = .ok (.ldc 111, 2) := by decide +kernel
theorem dX7_layRow_128 : decode cX7_layRow 128 = .ok (.ireturn, 1) := by decide +kernel
theorem dX7_layRow_129 : decode cX7_layRow 129 = .ok (.iinc 4 1, 3) := by decide +kernel
theorem dX7_layRow_132 : decode cX7_layRow 132 = .ok (.goto (-60), 3) := by decide +kernel
theorem dX7_layRow_135 : decode cX7_layRow 135 = .ok (.iload_n 3, 1) := by decide +kernel
theorem dX7_layRow_136 : decode cX7_layRow 136 = .ok (.ireturn, 1) := by decide +kernel
theorem dX7_layTrees_0 : decode cX7_layTrees 0 = .ok (.aload_n 0, 1) := by decide +kernel
theorem dX7_layTrees_1 : decode cX7_layTrees 1 = .ok (.getfield 81, 3) := by decide +kernel
theorem dX7_layTrees_4 : decode cX7_layTrees 4 = .ok (.ifCond .eq 4, 3) := by decide +kernel
theorem dX7_layTrees_7 : decode cX7_layTrees 7 = .ok (.return_, 1) := by decide +kernel
theorem dX7_layTrees_8 : decode cX7_layTrees 8 = .ok (.aload_n 0, 1) := by decide +kernel
theorem dX7_layTrees_9 : decode cX7_layTrees 9 = .ok (.iconst 1, 1) := by decide +kernel
theorem dX7_layTrees_10 : decode cX7_layTrees 10 = .ok (.putfield 81, 3) := by decide +kernel
theorem dX7_layTrees_13 : decode cX7_layTrees 13 = .ok (.aload_n 0, 1) := by decide +kernel
theorem dX7_layTrees_14 : decode cX7_layTrees 14 = .ok (.invokevirtual 101, 3) := by decide +kernel
theorem dX7_layTrees_17 : decode cX7_layTrees 17 = .ok (.iconst 0, 1) := by decide +kernel
theorem dX7_layTrees_18 : decode cX7_layTrees 18 = .ok (.istore_n 1, 1) := by decide +kernel
theorem dX7_layTrees_19 : decode cX7_layTrees 19 = .ok (.iload_n 1, 1) := by decide +kernel
theorem dX7_layTrees_20 : decode cX7_layTrees 20 = .ok (.aload_n 0, 1) := by decide +kernel
theorem dX7_layTrees_21 : decode cX7_layTrees 21 = .ok (.getfield 65, 3) := by decide +kernel
theorem dX7_layTrees_24 : decode cX7_layTrees 24 = .ok (.if_icmp .ge 111, 3) := by decide +kernel
theorem dX7_layTrees_27 : decode cX7_layTrees 27 = .ok (.iconst 0, 1) := by decide +kernel
theorem dX7_layTrees_28 : decode cX7_layTrees 28 = .ok (.istore_n 2, 1) := by decide +kernel
theorem dX7_layTrees_29 : decode cX7_layTrees 29 = .ok (.iload_n 2, 1) := by decide +kernel
theorem dX7_layTrees_30 : decode cX7_layTrees 30 = .ok (.bipush 6, 2) := by decide +kernel
theorem dX7_layTrees_32 : decode cX7_layTrees 32 = .ok (.if_icmp .ge 79, 3) := by decide +kernel
theorem dX7_layTrees_35 : decode cX7_layTrees 35 = .ok (.iload_n 2, 1) := by decide +kernel
theorem dX7_layTrees_36 : decode cX7_layTrees 36 = .ok (.aload_n 0, 1) := by decide +kernel
theorem dX7_layTrees_37 : decode cX7_layTrees 37 = .ok (.getfield 65, 3) := by decide +kernel
theorem dX7_layTrees_40 : decode cX7_layTrees 40 = .ok (.if_icmp .ge 27, 3) := by decide +kernel
theorem dX7_layTrees_43 : decode cX7_layTrees 43 = .ok (.iload_n 2, 1) := by decide +kernel
theorem dX7_layTrees_44 : decode cX7_layTrees 44 = .ok (.iload_n 1, 1) := by decide +kernel
theorem dX7_layTrees_45 : decode cX7_layTrees 45 = .ok (.if_icmp .eq 22, 3) := by decide +kernel
theorem dX7_layTrees_48 : decode cX7_layTrees 48 = .ok (.aload_n 0, 1) := by decide +kernel
theorem dX7_layTrees_49 : decode cX7_layTrees 49 = .ok (.getfield 13, 3) := by decide +kernel
theorem dX7_layTrees_52 : decode cX7_layTrees 52 = .ok (.iload_n 2, 1) := by decide +kernel
theorem dX7_layTrees_53 : decode cX7_layTrees 53 = .ok (.iaload, 1) := by decide +kernel
theorem dX7_layTrees_54 : decode cX7_layTrees 54 = .ok (.aload_n 0, 1) := by decide +kernel
theorem dX7_layTrees_55 : decode cX7_layTrees 55 = .ok (.getfield 16, 3) := by decide +kernel
theorem dX7_layTrees_58 : decode cX7_layTrees 58 = .ok (.iload_n 1, 1) := by decide +kernel
theorem dX7_layTrees_59 : decode cX7_layTrees 59 = .ok (.iaload, 1) := by decide +kernel
theorem dX7_layTrees_60 : decode cX7_layTrees 60 = .ok (.if_icmp .gt 7, 3) := by decide +kernel
theorem dX7_layTrees_63 : decode cX7_layTrees 63 = .ok (.iconst 1, 1) := by decide +kernel
theorem dX7_layTrees_64 : decode cX7_layTrees 64 = .ok (.goto 4, 3) := by decide +kernel
theorem dX7_layTrees_67 : decode cX7_layTrees 67 = .ok (.iconst 0, 1) := by decide +kernel
theorem dX7_layTrees_68 : decode cX7_layTrees 68 = .ok (.istore_n 3, 1) := by decide +kernel
theorem dX7_layTrees_69 : decode cX7_layTrees 69 = .ok (.aload_n 0, 1) := by decide +kernel
theorem dX7_layTrees_70 : decode cX7_layTrees 70 = .ok (.getfield 52, 3) := by decide +kernel
theorem dX7_layTrees_73 : decode cX7_layTrees 73 = .ok (.bipush 7, 2) := by decide +kernel
theorem dX7_layTrees_75 : decode cX7_layTrees 75 = .ok (.iload_n 1, 1) := by decide +kernel
theorem dX7_layTrees_76 : decode cX7_layTrees 76 = .ok (.imul, 1) := by decide +kernel
theorem dX7_layTrees_77 : decode cX7_layTrees 77 = .ok (.iload_n 2, 1) := by decide +kernel
theorem dX7_layTrees_78 : decode cX7_layTrees 78 = .ok (.iadd, 1) := by decide +kernel
theorem dX7_layTrees_79 : decode cX7_layTrees 79 = .ok (.iload_n 3, 1) := by decide +kernel
theorem dX7_layTrees_80 : decode cX7_layTrees 80 = .ok (.ifCond .eq 22, 3) := by decide +kernel
theorem dX7_layTrees_83 : decode cX7_layTrees 83 = .ok (.aload_n 0, 1) := by decide +kernel
theorem dX7_layTrees_84 : decode cX7_layTrees 84 = .ok (.aload_n 0, 1) := by decide +kernel
theorem dX7_layTrees_85 : decode cX7_layTrees 85 = .ok (.getfield 7, 3) := by decide +kernel
theorem dX7_layTrees_88 : decode cX7_layTrees 88 = .ok (.iload_n 2, 1) := by decide +kernel
theorem dX7_layTrees_89 : decode cX7_layTrees 89 = .ok (.iaload, 1) := by decide +kernel
theorem dX7_layTrees_90 : decode cX7_layTrees 90 = .ok (.aload_n 0, 1) := by decide +kernel
theorem dX7_layTrees_91 : decode cX7_layTrees 91 = .ok (.getfield 7, 3) := by decide +kernel
theorem dX7_layTrees_94 : decode cX7_layTrees 94 = .ok (.iload_n 1, 1) := by decide +kernel
theorem dX7_layTrees_95 : decode cX7_layTrees 95 = .ok (.iaload, 1) := by decide +kernel
theorem dX7_layTrees_96 : decode cX7_layTrees 96 = .ok (.invokevirtual 108, 3) := by decide +kernel
theorem dX7_layTrees_99 : decode cX7_layTrees 99 = .ok (.goto 5, 3) := by decide +kernel
theorem dX7_layTrees_102 : decode cX7_layTrees 102 = .ok (.ldc 111, 2) := by decide +kernel
theorem dX7_layTrees_104 : decode cX7_layTrees 104 = .ok (.iastore, 1) := by decide +kernel
theorem dX7_layTrees_105 : decode cX7_layTrees 105 = .ok (.iinc 2 1, 3) := by decide +kernel
theorem dX7_layTrees_108 : decode cX7_layTrees 108 = .ok (.goto (-79), 3) := by decide +kernel
theorem dX7_layTrees_111 : decode cX7_layTrees 111 = .ok (.aload_n 0, 1) := by decide +kernel
theorem dX7_layTrees_112 : decode cX7_layTrees 112 = .ok (.getfield 52, 3) := by decide +kernel
theorem dX7_layTrees_115 : decode cX7_layTrees 115 = .ok (.bipush 7, 2) := by decide +kernel
theorem dX7_layTrees_117 : decode cX7_layTrees 117 = .ok (.iload_n 1, 1) := by decide +kernel
theorem dX7_layTrees_118 : decode cX7_layTrees 118 = .ok (.imul, 1) := by decide +kernel
theorem dX7_layTrees_119 : decode cX7_layTrees 119 = .ok (.bipush 6, 2) := by decide +kernel
theorem dX7_layTrees_121 : decode cX7_layTrees 121 = .ok (.iadd, 1) := by decide +kernel
theorem dX7_layTrees_122 : decode cX7_layTrees 122 = .ok (.aload_n 0, 1) := by decide +kernel
theorem dX7_layTrees_123 : decode cX7_layTrees 123 = .ok (.getfield 22, 3) := by decide +kernel
theorem dX7_layTrees_126 : decode cX7_layTrees 126 = .ok (.iconst 0, 1) := by decide +kernel
theorem dX7_layTrees_127 : decode cX7_layTrees 127 = .ok (.iaload, 1) := by decide +kernel
theorem dX7_layTrees_128 : decode cX7_layTrees 128 = .ok (.iastore, 1) := by decide +kernel
theorem dX7_layTrees_129 : decode cX7_layTrees 129 = .ok (.iinc 1 1, 3) := by decide +kernel
theorem dX7_layTrees_132 : decode cX7_layTrees 132 = .ok (.goto (-113), 3) := by decide +kernel
theorem dX7_layTrees_135 : decode cX7_layTrees 135 = .ok (.aload_n 0, 1) := by decide +kernel
theorem dX7_layTrees_136 : decode cX7_layTrees 136 = .ok (.ldc 111, 2) := by decide +kernel
theorem dX7_layTrees_138 : decode cX7_layTrees 138 = .ok (.putfield 112, 3) := by decide +kernel
theorem dX7_layTrees_141 : decode cX7_layTrees 141 = .ok (.aload_n 0, 1) := by decide +kernel
theorem dX7_layTrees_142 : decode cX7_layTrees 142 = .ok (.iconst 0, 1) := by decide +kernel
theorem dX7_layTrees_143 : decode cX7_layTrees 143 = .ok (.putfield 115, 3) := by decide +kernel
theorem dX7_layTrees_146 : decode cX7_layTrees 146 = .ok (.aload_n 0, 1) := by decide +kernel
theorem dX7_layTrees_147 : decode cX7_layTrees 147 = .ok (.iconst 0, 1) := by decide +kernel
theorem dX7_layTrees_148 : decode cX7_layTrees 148 = .ok (.putfield 118, 3) := by decide +kernel
theorem dX7_layTrees_151 : decode cX7_layTrees 151 = .ok (.aload_n 0, 1) := by decide +kernel
theorem dX7_layTrees_152 : decode cX7_layTrees 152 = .ok (.invokevirtual 121, 3) := by decide +kernel
theorem dX7_layTrees_155 : decode cX7_layTrees 155 = .ok (.istore_n 1, 1) := by decide +kernel
theorem dX7_layTrees_156 : decode cX7_layTrees 156 = .ok (.iconst 0, 1) := by decide +kernel
theorem dX7_layTrees_157 : decode cX7_layTrees 157 = .ok (.istore_n 2, 1) := by decide +kernel
theorem dX7_layTrees_158 : decode cX7_layTrees 158 = .ok (.iload_n 2, 1) := by decide +kernel
theorem dX7_layTrees_159 : decode cX7_layTrees 159 = .ok (.iload_n 1, 1) := by decide +kernel
theorem dX7_layTrees_160 : decode cX7_layTrees 160 = .ok (.if_icmp .ge 88, 3) := by decide +kernel
theorem dX7_layTrees_163 : decode cX7_layTrees 163 = .ok (.aload_n 0, 1) := by decide +kernel
theorem dX7_layTrees_164 : decode cX7_layTrees 164 = .ok (.iload_n 2, 1) := by decide +kernel
theorem dX7_layTrees_165 : decode cX7_layTrees 165 = .ok (.invokevirtual 124, 3) := by decide +kernel
theorem dX7_layTrees_168 : decode cX7_layTrees 168 = .ok (.istore_n 3, 1) := by decide +kernel
theorem dX7_layTrees_169 : decode cX7_layTrees 169 = .ok (.iload_n 3, 1) := by decide +kernel
theorem dX7_layTrees_170 : decode cX7_layTrees 170 = .ok (.ldc 111, 2) := by decide +kernel
theorem dX7_layTrees_172 : decode cX7_layTrees 172 = .ok (.if_icmp .ge 70, 3) := by decide +kernel
theorem dX7_layTrees_175 : decode cX7_layTrees 175 = .ok (.aload_n 0, 1) := by decide +kernel
theorem dX7_layTrees_176 : decode cX7_layTrees 176 = .ok (.dup, 1) := by decide +kernel
theorem dX7_layTrees_177 : decode cX7_layTrees 177 = .ok (.getfield 118, 3) := by decide +kernel
theorem dX7_layTrees_180 : decode cX7_layTrees 180 = .ok (.iconst 1, 1) := by decide +kernel
theorem dX7_layTrees_181 : decode cX7_layTrees 181 = .ok (.iadd, 1) := by decide +kernel
theorem dX7_layTrees_182 : decode cX7_layTrees 182 = .ok (.putfield 118, 3) := by decide +kernel
theorem dX7_layTrees_185 : decode cX7_layTrees 185 = .ok (.aload_n 0, 1) := by decide +kernel
theorem dX7_layTrees_186 : decode cX7_layTrees 186 = .ok (.iload_n 3, 1) := by decide +kernel
theorem dX7_layTrees_187 : decode cX7_layTrees 187 = .ok (.aload_n 0, 1) := by decide +kernel
theorem dX7_layTrees_188 : decode cX7_layTrees 188 = .ok (.getfield 112, 3) := by decide +kernel
theorem dX7_layTrees_191 : decode cX7_layTrees 191 = .ok (.if_icmp .ge 7, 3) := by decide +kernel
theorem dX7_layTrees_194 : decode cX7_layTrees 194 = .ok (.iconst 1, 1) := by decide +kernel
theorem dX7_layTrees_195 : decode cX7_layTrees 195 = .ok (.goto 24, 3) := by decide +kernel
theorem dX7_layTrees_198 : decode cX7_layTrees 198 = .ok (.iload_n 3, 1) := by decide +kernel
theorem dX7_layTrees_199 : decode cX7_layTrees 199 = .ok (.aload_n 0, 1) := by decide +kernel
theorem dX7_layTrees_200 : decode cX7_layTrees 200 = .ok (.getfield 112, 3) := by decide +kernel
theorem dX7_layTrees_203 : decode cX7_layTrees 203 = .ok (.if_icmp .ne 12, 3) := by decide +kernel
theorem dX7_layTrees_206 : decode cX7_layTrees 206 = .ok (.aload_n 0, 1) := by decide +kernel
theorem dX7_layTrees_207 : decode cX7_layTrees 207 = .ok (.getfield 115, 3) := by decide +kernel
theorem dX7_layTrees_210 : decode cX7_layTrees 210 = .ok (.iconst 1, 1) := by decide +kernel
theorem dX7_layTrees_211 : decode cX7_layTrees 211 = .ok (.iadd, 1) := by decide +kernel
theorem dX7_layTrees_212 : decode cX7_layTrees 212 = .ok (.goto 7, 3) := by decide +kernel
theorem dX7_layTrees_215 : decode cX7_layTrees 215 = .ok (.aload_n 0, 1) := by decide +kernel
theorem dX7_layTrees_216 : decode cX7_layTrees 216 = .ok (.getfield 115, 3) := by decide +kernel
theorem dX7_layTrees_219 : decode cX7_layTrees 219 = .ok (.putfield 115, 3) := by decide +kernel
theorem dX7_layTrees_222 : decode cX7_layTrees 222 = .ok (.aload_n 0, 1) := by decide +kernel
theorem dX7_layTrees_223 : decode cX7_layTrees 223 = .ok (.iload_n 3, 1) := by decide +kernel
theorem dX7_layTrees_224 : decode cX7_layTrees 224 = .ok (.aload_n 0, 1) := by decide +kernel
theorem dX7_layTrees_225 : decode cX7_layTrees 225 = .ok (.getfield 112, 3) := by decide +kernel
theorem dX7_layTrees_228 : decode cX7_layTrees 228 = .ok (.if_icmp .ge 7, 3) := by decide +kernel
theorem dX7_layTrees_231 : decode cX7_layTrees 231 = .ok (.iload_n 3, 1) := by decide +kernel
theorem dX7_layTrees_232 : decode cX7_layTrees 232 = .ok (.goto 7, 3) := by decide +kernel
theorem dX7_layTrees_235 : decode cX7_layTrees 235 = .ok (.aload_n 0, 1) := by decide +kernel
theorem dX7_layTrees_236 : decode cX7_layTrees 236 = .ok (.getfield 112, 3) := by decide +kernel
theorem dX7_layTrees_239 : decode cX7_layTrees 239 = .ok (.putfield 112, 3) := by decide +kernel
theorem dX7_layTrees_242 : decode cX7_layTrees 242 = .ok (.iinc 2 1, 3) := by decide +kernel
theorem dX7_layTrees_245 : decode cX7_layTrees 245 = .ok (.goto (-87), 3) := by decide +kernel
theorem dX7_layTrees_248 : decode cX7_layTrees 248 = .ok (.return_, 1) := by decide +kernel
theorem dX7_least_0 : decode cX7_least 0 = .ok (.iload_n 1, 1) := by decide +kernel
theorem dX7_least_1 : decode cX7_least 1 = .ok (.iconst 0, 1) := by decide +kernel
theorem dX7_least_2 : decode cX7_least 2 = .ok (.iconst 2, 1) := by decide +kernel
theorem dX7_least_3 : decode cX7_least 3 = .ok (.invokestatic 69, 3) := by decide +kernel
theorem dX7_least_6 : decode cX7_least 6 = .ok (.ifCond .ne 6, 3) := by decide +kernel
theorem dX7_least_9 : decode cX7_least 9 = .ok (.bipush (-2), 2) := by decide +kernel
theorem dX7_least_11 : decode cX7_least 11 = .ok (.ireturn, 1) := by decide +kernel
theorem dX7_least_12 : decode cX7_least 12 = .ok (.aload_n 0, 1) := by decide +kernel
theorem dX7_least_13 : decode cX7_least 13 = .ok (.getfield 65, 3) := by decide +kernel
theorem dX7_least_16 : decode cX7_least 16 = .ok (.ifCond .ne 6, 3) := by decide +kernel
theorem dX7_least_19 : decode cX7_least 19 = .ok (.bipush (-3), 2) := by decide +kernel
theorem dX7_least_21 : decode cX7_least 21 = .ok (.ireturn, 1) := by decide +kernel
theorem dX7_least_22 : decode cX7_least 22 = .ok (.aload_n 0, 1) := by decide +kernel
theorem dX7_least_23 : decode cX7_least 23 = .ok (.invokevirtual 128, 3) := by decide +kernel
theorem dX7_least_26 : decode cX7_least 26 = .ok (.iload_n 1, 1) := by decide +kernel
theorem dX7_least_27 : decode cX7_least 27 = .ok (.ifCond .ne 10, 3) := by decide +kernel
theorem dX7_least_30 : decode cX7_least 30 = .ok (.aload_n 0, 1) := by decide +kernel
theorem dX7_least_31 : decode cX7_least 31 = .ok (.getfield 112, 3) := by decide +kernel
theorem dX7_least_34 : decode cX7_least 34 = .ok (.goto 19, 3) := by decide +kernel
theorem dX7_least_37 : decode cX7_least 37 = .ok (.iload_n 1, 1) := by decide +kernel
theorem dX7_least_38 : decode cX7_least 38 = .ok (.iconst 1, 1) := by decide +kernel
theorem dX7_least_39 : decode cX7_least 39 = .ok (.if_icmp .ne 10, 3) := by decide +kernel
theorem dX7_least_42 : decode cX7_least 42 = .ok (.aload_n 0, 1) := by decide +kernel
theorem dX7_least_43 : decode cX7_least 43 = .ok (.getfield 115, 3) := by decide +kernel
theorem dX7_least_46 : decode cX7_least 46 = .ok (.goto 7, 3) := by decide +kernel
theorem dX7_least_49 : decode cX7_least 49 = .ok (.aload_n 0, 1) := by decide +kernel
theorem dX7_least_50 : decode cX7_least 50 = .ok (.getfield 118, 3) := by decide +kernel
theorem dX7_least_53 : decode cX7_least 53 = .ok (.ireturn, 1) := by decide +kernel
theorem dX7_kept_0 : decode cX7_kept 0 = .ok (.iload_n 2, 1) := by decide +kernel
theorem dX7_kept_1 : decode cX7_kept 1 = .ok (.iconst (-1), 1) := by decide +kernel
theorem dX7_kept_2 : decode cX7_kept 2 = .ok (.if_icmp .eq 19, 3) := by decide +kernel
theorem dX7_kept_5 : decode cX7_kept 5 = .ok (.iload_n 3, 1) := by decide +kernel
theorem dX7_kept_6 : decode cX7_kept 6 = .ok (.bipush 9, 2) := by decide +kernel
theorem dX7_kept_8 : decode cX7_kept 8 = .ok (.if_icmp .eq 13, 3) := by decide +kernel
theorem dX7_kept_11 : decode cX7_kept 11 = .ok (.aload_n 0, 1) := by decide +kernel
theorem dX7_kept_12 : decode cX7_kept 12 = .ok (.iload_n 3, 1) := by decide +kernel
theorem dX7_kept_13 : decode cX7_kept 13 = .ok (.invokevirtual 85, 3) := by decide +kernel
theorem dX7_kept_16 : decode cX7_kept 16 = .ok (.ifCond .ne 5, 3) := by decide +kernel
theorem dX7_kept_19 : decode cX7_kept 19 = .ok (.iconst (-1), 1) := by decide +kernel
theorem dX7_kept_20 : decode cX7_kept 20 = .ok (.ireturn, 1) := by decide +kernel
theorem dX7_kept_21 : decode cX7_kept 21 = .ok (.iload_n 1, 1) := by decide +kernel
theorem dX7_kept_22 : decode cX7_kept 22 = .ok (.iconst 0, 1) := by decide +kernel
theorem dX7_kept_23 : decode cX7_kept 23 = .ok (.bipush 99, 2) := by decide +kernel
theorem dX7_kept_25 : decode cX7_kept 25 = .ok (.invokestatic 69, 3) := by decide +kernel
theorem dX7_kept_28 : decode cX7_kept 28 = .ok (.ifCond .ne 6, 3) := by decide +kernel
theorem dX7_kept_31 : decode cX7_kept 31 = .ok (.bipush (-2), 2) := by decide +kernel
theorem dX7_kept_33 : decode cX7_kept 33 = .ok (.ireturn, 1) := by decide +kernel
theorem dX7_kept_34 : decode cX7_kept 34 = .ok (.aload_n 0, 1) := by decide +kernel
theorem dX7_kept_35 : decode cX7_kept 35 = .ok (.getfield 65, 3) := by decide +kernel
theorem dX7_kept_38 : decode cX7_kept 38 = .ok (.ifCond .ne 6, 3) := by decide +kernel
theorem dX7_kept_41 : decode cX7_kept 41 = .ok (.bipush (-3), 2) := by decide +kernel
theorem dX7_kept_43 : decode cX7_kept 43 = .ok (.ireturn, 1) := by decide +kernel
theorem dX7_kept_44 : decode cX7_kept 44 = .ok (.aload_n 0, 1) := by decide +kernel
theorem dX7_kept_45 : decode cX7_kept 45 = .ok (.invokevirtual 128, 3) := by decide +kernel
theorem dX7_kept_48 : decode cX7_kept 48 = .ok (.iconst 0, 1) := by decide +kernel
theorem dX7_kept_49 : decode cX7_kept 49 = .ok (.istore 4, 2) := by decide +kernel
theorem dX7_kept_51 : decode cX7_kept 51 = .ok (.aload_n 0, 1) := by decide +kernel
theorem dX7_kept_52 : decode cX7_kept 52 = .ok (.invokevirtual 121, 3) := by decide +kernel
theorem dX7_kept_55 : decode cX7_kept 55 = .ok (.istore 5, 2) := by decide +kernel
theorem dX7_kept_57 : decode cX7_kept 57 = .ok (.iconst 0, 1) := by decide +kernel
theorem dX7_kept_58 : decode cX7_kept 58 = .ok (.istore 6, 2) := by decide +kernel
theorem dX7_kept_60 : decode cX7_kept 60 = .ok (.iload 6, 2) := by decide +kernel
theorem dX7_kept_62 : decode cX7_kept 62 = .ok (.iload 5, 2) := by decide +kernel
theorem dX7_kept_64 : decode cX7_kept 64 = .ok (.if_icmp .ge 71, 3) := by decide +kernel
theorem dX7_kept_67 : decode cX7_kept 67 = .ok (.aload_n 0, 1) := by decide +kernel
theorem dX7_kept_68 : decode cX7_kept 68 = .ok (.iload 6, 2) := by decide +kernel
theorem dX7_kept_70 : decode cX7_kept 70 = .ok (.invokevirtual 124, 3) := by decide +kernel
theorem dX7_kept_73 : decode cX7_kept 73 = .ok (.istore 7, 2) := by decide +kernel
theorem dX7_kept_75 : decode cX7_kept 75 = .ok (.iload 7, 2) := by decide +kernel
theorem dX7_kept_77 : decode cX7_kept 77 = .ok (.aload_n 0, 1) := by decide +kernel
theorem dX7_kept_78 : decode cX7_kept 78 = .ok (.getfield 112, 3) := by decide +kernel
theorem dX7_kept_81 : decode cX7_kept 81 = .ok (.iload_n 1, 1) := by decide +kernel
theorem dX7_kept_82 : decode cX7_kept 82 = .ok (.iadd, 1) := by decide +kernel
theorem dX7_kept_83 : decode cX7_kept 83 = .ok (.if_icmp .gt 46, 3) := by decide +kernel
theorem dX7_kept_86 : decode cX7_kept 86 = .ok (.iload 4, 2) := by decide +kernel
theorem dX7_kept_88 : decode cX7_kept 88 = .ok (.iload_n 2, 1) := by decide +kernel
theorem dX7_kept_89 : decode cX7_kept 89 = .ok (.if_icmp .ne 37, 3) := by decide +kernel
theorem dX7_kept_92 : decode cX7_kept 92 = .ok (.iload_n 3, 1) := by decide +kernel
theorem dX7_kept_93 : decode cX7_kept 93 = .ok (.bipush 9, 2) := by decide +kernel
theorem dX7_kept_95 : decode cX7_kept 95 = .ok (.if_icmp .ne 8, 3) := by decide +kernel
theorem dX7_kept_98 : decode cX7_kept 98 = .ok (.iload 7, 2) := by decide +kernel
theorem dX7_kept_100 : decode cX7_kept 100 = .ok (.goto 25, 3) := by decide +kernel
theorem dX7_kept_103 : decode cX7_kept 103 = .ok (.aload_n 0, 1) := by decide +kernel
theorem dX7_kept_104 : decode cX7_kept 104 = .ok (.getfield 55, 3) := by decide +kernel
theorem dX7_kept_107 : decode cX7_kept 107 = .ok (.iload_n 3, 1) := by decide +kernel
theorem dX7_kept_108 : decode cX7_kept 108 = .ok (.iaload, 1) := by decide +kernel
theorem dX7_kept_109 : decode cX7_kept 109 = .ok (.bipush 6, 2) := by decide +kernel
theorem dX7_kept_111 : decode cX7_kept 111 = .ok (.if_icmp .ne 8, 3) := by decide +kernel
theorem dX7_kept_114 : decode cX7_kept 114 = .ok (.bipush 9, 2) := by decide +kernel
theorem dX7_kept_116 : decode cX7_kept 116 = .ok (.goto 9, 3) := by decide +kernel
theorem dX7_kept_119 : decode cX7_kept 119 = .ok (.aload_n 0, 1) := by decide +kernel
theorem dX7_kept_120 : decode cX7_kept 120 = .ok (.getfield 55, 3) := by decide +kernel
theorem dX7_kept_123 : decode cX7_kept 123 = .ok (.iload_n 3, 1) := by decide +kernel
theorem dX7_kept_124 : decode cX7_kept 124 = .ok (.iaload, 1) := by decide +kernel
theorem dX7_kept_125 : decode cX7_kept 125 = .ok (.ireturn, 1) := by decide +kernel
theorem dX7_kept_126 : decode cX7_kept 126 = .ok (.iinc 4 1, 3) := by decide +kernel
theorem dX7_kept_129 : decode cX7_kept 129 = .ok (.iinc 6 1, 3) := by decide +kernel
theorem dX7_kept_132 : decode cX7_kept 132 = .ok (.goto (-72), 3) := by decide +kernel
theorem dX7_kept_135 : decode cX7_kept 135 = .ok (.iload_n 2, 1) := by decide +kernel
theorem dX7_kept_136 : decode cX7_kept 136 = .ok (.iconst (-1), 1) := by decide +kernel
theorem dX7_kept_137 : decode cX7_kept 137 = .ok (.if_icmp .ne 8, 3) := by decide +kernel
theorem dX7_kept_140 : decode cX7_kept 140 = .ok (.iload 4, 2) := by decide +kernel
theorem dX7_kept_142 : decode cX7_kept 142 = .ok (.goto 5, 3) := by decide +kernel
theorem dX7_kept_145 : decode cX7_kept 145 = .ok (.bipush (-6), 2) := by decide +kernel
theorem dX7_kept_147 : decode cX7_kept 147 = .ok (.ireturn, 1) := by decide +kernel
theorem dX7_sure_0 : decode cX7_sure 0 = .ok (.iload_n 2, 1) := by decide +kernel
theorem dX7_sure_1 : decode cX7_sure 1 = .ok (.bipush 9, 2) := by decide +kernel
theorem dX7_sure_3 : decode cX7_sure 3 = .ok (.if_icmp .eq 13, 3) := by decide +kernel
theorem dX7_sure_6 : decode cX7_sure 6 = .ok (.aload_n 0, 1) := by decide +kernel
theorem dX7_sure_7 : decode cX7_sure 7 = .ok (.iload_n 2, 1) := by decide +kernel
theorem dX7_sure_8 : decode cX7_sure 8 = .ok (.invokevirtual 85, 3) := by decide +kernel
theorem dX7_sure_11 : decode cX7_sure 11 = .ok (.ifCond .ne 5, 3) := by decide +kernel
theorem dX7_sure_14 : decode cX7_sure 14 = .ok (.iconst (-1), 1) := by decide +kernel
theorem dX7_sure_15 : decode cX7_sure 15 = .ok (.ireturn, 1) := by decide +kernel
theorem dX7_sure_16 : decode cX7_sure 16 = .ok (.iload_n 1, 1) := by decide +kernel
theorem dX7_sure_17 : decode cX7_sure 17 = .ok (.iconst 0, 1) := by decide +kernel
theorem dX7_sure_18 : decode cX7_sure 18 = .ok (.bipush 99, 2) := by decide +kernel
theorem dX7_sure_20 : decode cX7_sure 20 = .ok (.invokestatic 69, 3) := by decide +kernel
theorem dX7_sure_23 : decode cX7_sure 23 = .ok (.ifCond .ne 6, 3) := by decide +kernel
theorem dX7_sure_26 : decode cX7_sure 26 = .ok (.bipush (-2), 2) := by decide +kernel
theorem dX7_sure_28 : decode cX7_sure 28 = .ok (.ireturn, 1) := by decide +kernel
theorem dX7_sure_29 : decode cX7_sure 29 = .ok (.aload_n 0, 1) := by decide +kernel
theorem dX7_sure_30 : decode cX7_sure 30 = .ok (.getfield 65, 3) := by decide +kernel
theorem dX7_sure_33 : decode cX7_sure 33 = .ok (.ifCond .ne 6, 3) := by decide +kernel
theorem dX7_sure_36 : decode cX7_sure 36 = .ok (.bipush (-3), 2) := by decide +kernel
theorem dX7_sure_38 : decode cX7_sure 38 = .ok (.ireturn, 1) := by decide +kernel
theorem dX7_sure_39 : decode cX7_sure 39 = .ok (.aload_n 0, 1) := by decide +kernel
theorem dX7_sure_40 : decode cX7_sure 40 = .ok (.invokevirtual 128, 3) := by decide +kernel
theorem dX7_sure_43 : decode cX7_sure 43 = .ok (.iconst 1, 1) := by decide +kernel
theorem dX7_sure_44 : decode cX7_sure 44 = .ok (.aload_n 0, 1) := by decide +kernel
theorem dX7_sure_45 : decode cX7_sure 45 = .ok (.getfield 65, 3) := by decide +kernel
theorem dX7_sure_48 : decode cX7_sure 48 = .ok (.ishl, 1) := by decide +kernel
theorem dX7_sure_49 : decode cX7_sure 49 = .ok (.iconst 1, 1) := by decide +kernel
theorem dX7_sure_50 : decode cX7_sure 50 = .ok (.isub, 1) := by decide +kernel
theorem dX7_sure_51 : decode cX7_sure 51 = .ok (.istore_n 3, 1) := by decide +kernel
theorem dX7_sure_52 : decode cX7_sure 52 = .ok (.aload_n 0, 1) := by decide +kernel
theorem dX7_sure_53 : decode cX7_sure 53 = .ok (.invokevirtual 121, 3) := by decide +kernel
theorem dX7_sure_56 : decode cX7_sure 56 = .ok (.istore 4, 2) := by decide +kernel
theorem dX7_sure_58 : decode cX7_sure 58 = .ok (.iconst 0, 1) := by decide +kernel
theorem dX7_sure_59 : decode cX7_sure 59 = .ok (.istore 5, 2) := by decide +kernel
theorem dX7_sure_61 : decode cX7_sure 61 = .ok (.iload 5, 2) := by decide +kernel
theorem dX7_sure_63 : decode cX7_sure 63 = .ok (.iload 4, 2) := by decide +kernel
theorem dX7_sure_65 : decode cX7_sure 65 = .ok (.if_icmp .ge 78, 3) := by decide +kernel
theorem dX7_sure_68 : decode cX7_sure 68 = .ok (.aload_n 0, 1) := by decide +kernel
theorem dX7_sure_69 : decode cX7_sure 69 = .ok (.iload 5, 2) := by decide +kernel
theorem dX7_sure_71 : decode cX7_sure 71 = .ok (.invokevirtual 124, 3) := by decide +kernel
theorem dX7_sure_74 : decode cX7_sure 74 = .ok (.aload_n 0, 1) := by decide +kernel
theorem dX7_sure_75 : decode cX7_sure 75 = .ok (.getfield 112, 3) := by decide +kernel
theorem dX7_sure_78 : decode cX7_sure 78 = .ok (.iload_n 1, 1) := by decide +kernel
theorem dX7_sure_79 : decode cX7_sure 79 = .ok (.iadd, 1) := by decide +kernel
theorem dX7_sure_80 : decode cX7_sure 80 = .ok (.if_icmp .gt 57, 3) := by decide +kernel
theorem dX7_sure_83 : decode cX7_sure 83 = .ok (.iconst 0, 1) := by decide +kernel
theorem dX7_sure_84 : decode cX7_sure 84 = .ok (.istore 6, 2) := by decide +kernel
theorem dX7_sure_86 : decode cX7_sure 86 = .ok (.iload 6, 2) := by decide +kernel
theorem dX7_sure_88 : decode cX7_sure 88 = .ok (.aload_n 0, 1) := by decide +kernel
theorem dX7_sure_89 : decode cX7_sure 89 = .ok (.getfield 65, 3) := by decide +kernel
theorem dX7_sure_92 : decode cX7_sure 92 = .ok (.if_icmp .ge 45, 3) := by decide +kernel
theorem dX7_sure_95 : decode cX7_sure 95 = .ok (.iload_n 3, 1) := by decide +kernel
theorem dX7_sure_96 : decode cX7_sure 96 = .ok (.aload_n 0, 1) := by decide +kernel
theorem dX7_sure_97 : decode cX7_sure 97 = .ok (.getfield 55, 3) := by decide +kernel
theorem dX7_sure_100 : decode cX7_sure 100 = .ok (.iload 6, 2) := by decide +kernel
theorem dX7_sure_102 : decode cX7_sure 102 = .ok (.iaload, 1) := by decide +kernel
theorem dX7_sure_103 : decode cX7_sure 103 = .ok (.iload_n 2, 1) := by decide +kernel
theorem dX7_sure_104 : decode cX7_sure 104 = .ok (.bipush 9, 2) := by decide +kernel
theorem dX7_sure_106 : decode cX7_sure 106 = .ok (.if_icmp .ne 8, 3) := by decide +kernel
theorem dX7_sure_109 : decode cX7_sure 109 = .ok (.bipush 6, 2) := by decide +kernel
theorem dX7_sure_111 : decode cX7_sure 111 = .ok (.goto 4, 3) := by decide +kernel
theorem dX7_sure_114 : decode cX7_sure 114 = .ok (.iload_n 2, 1) := by decide +kernel
theorem dX7_sure_115 : decode cX7_sure 115 = .ok (.if_icmp .ne 8, 3) := by decide +kernel
theorem dX7_sure_118 : decode cX7_sure 118 = .ok (.bipush 63, 2) := by decide +kernel
theorem dX7_sure_120 : decode cX7_sure 120 = .ok (.goto 9, 3) := by decide +kernel
theorem dX7_sure_123 : decode cX7_sure 123 = .ok (.iconst 1, 1) := by decide +kernel
theorem dX7_sure_124 : decode cX7_sure 124 = .ok (.iload 6, 2) := by decide +kernel
theorem dX7_sure_126 : decode cX7_sure 126 = .ok (.ishl, 1) := by decide +kernel
theorem dX7_sure_127 : decode cX7_sure 127 = .ok (.iconst (-1), 1) := by decide +kernel
theorem dX7_sure_128 : decode cX7_sure 128 = .ok (.ixor, 1) := by decide +kernel
theorem dX7_sure_129 : decode cX7_sure 129 = .ok (.iand, 1) := by decide +kernel
theorem dX7_sure_130 : decode cX7_sure 130 = .ok (.istore_n 3, 1) := by decide +kernel
theorem dX7_sure_131 : decode cX7_sure 131 = .ok (.iinc 6 1, 3) := by decide +kernel
theorem dX7_sure_134 : decode cX7_sure 134 = .ok (.goto (-48), 3) := by decide +kernel
theorem dX7_sure_137 : decode cX7_sure 137 = .ok (.iinc 5 1, 3) := by decide +kernel
theorem dX7_sure_140 : decode cX7_sure 140 = .ok (.goto (-79), 3) := by decide +kernel
theorem dX7_sure_143 : decode cX7_sure 143 = .ok (.iload_n 3, 1) := by decide +kernel
theorem dX7_sure_144 : decode cX7_sure 144 = .ok (.ireturn, 1) := by decide +kernel
theorem dX7_lost_0 : decode cX7_lost 0 = .ok (.iload_n 1, 1) := by decide +kernel
theorem dX7_lost_1 : decode cX7_lost 1 = .ok (.iconst (-1), 1) := by decide +kernel
theorem dX7_lost_2 : decode cX7_lost 2 = .ok (.if_icmp .eq 11, 3) := by decide +kernel
theorem dX7_lost_5 : decode cX7_lost 5 = .ok (.aload_n 0, 1) := by decide +kernel
theorem dX7_lost_6 : decode cX7_lost 6 = .ok (.iload_n 1, 1) := by decide +kernel
theorem dX7_lost_7 : decode cX7_lost 7 = .ok (.invokevirtual 85, 3) := by decide +kernel
theorem dX7_lost_10 : decode cX7_lost 10 = .ok (.ifCond .eq 17, 3) := by decide +kernel
theorem dX7_lost_13 : decode cX7_lost 13 = .ok (.iload_n 2, 1) := by decide +kernel
theorem dX7_lost_14 : decode cX7_lost 14 = .ok (.ifCond .lt 13, 3) := by decide +kernel
theorem dX7_lost_17 : decode cX7_lost 17 = .ok (.iload_n 2, 1) := by decide +kernel
theorem dX7_lost_18 : decode cX7_lost 18 = .ok (.iconst 1, 1) := by decide +kernel
theorem dX7_lost_19 : decode cX7_lost 19 = .ok (.aload_n 0, 1) := by decide +kernel
theorem dX7_lost_20 : decode cX7_lost 20 = .ok (.getfield 65, 3) := by decide +kernel
theorem dX7_lost_23 : decode cX7_lost 23 = .ok (.ishl, 1) := by decide +kernel
theorem dX7_lost_24 : decode cX7_lost 24 = .ok (.if_icmp .lt 5, 3) := by decide +kernel
theorem dX7_lost_27 : decode cX7_lost 27 = .ok (.iconst (-1), 1) := by decide +kernel
theorem dX7_lost_28 : decode cX7_lost 28 = .ok (.ireturn, 1) := by decide +kernel
theorem dX7_lost_29 : decode cX7_lost 29 = .ok (.iload_n 2, 1) := by decide +kernel
theorem dX7_lost_30 : decode cX7_lost 30 = .ok (.ifCond .eq 25, 3) := by decide +kernel
theorem dX7_lost_33 : decode cX7_lost 33 = .ok (.iload_n 1, 1) := by decide +kernel
theorem dX7_lost_34 : decode cX7_lost 34 = .ok (.ifCond .lt 12, 3) := by decide +kernel
theorem dX7_lost_37 : decode cX7_lost 37 = .ok (.iload_n 2, 1) := by decide +kernel
theorem dX7_lost_38 : decode cX7_lost 38 = .ok (.iload_n 1, 1) := by decide +kernel
theorem dX7_lost_39 : decode cX7_lost 39 = .ok (.ishr, 1) := by decide +kernel
theorem dX7_lost_40 : decode cX7_lost 40 = .ok (.iconst 1, 1) := by decide +kernel
theorem dX7_lost_41 : decode cX7_lost 41 = .ok (.iand, 1) := by decide +kernel
theorem dX7_lost_42 : decode cX7_lost 42 = .ok (.iconst 1, 1) := by decide +kernel
theorem dX7_lost_43 : decode cX7_lost 43 = .ok (.if_icmp .eq 12, 3) := by decide +kernel
theorem dX7_lost_46 : decode cX7_lost 46 = .ok (.iload_n 3, 1) := by decide +kernel
theorem dX7_lost_47 : decode cX7_lost 47 = .ok (.iconst 0, 1) := by decide +kernel
theorem dX7_lost_48 : decode cX7_lost 48 = .ok (.iconst 2, 1) := by decide +kernel
theorem dX7_lost_49 : decode cX7_lost 49 = .ok (.invokestatic 69, 3) := by decide +kernel
theorem dX7_lost_52 : decode cX7_lost 52 = .ok (.ifCond .ne 6, 3) := by decide +kernel
theorem dX7_lost_55 : decode cX7_lost 55 = .ok (.bipush (-2), 2) := by decide +kernel
theorem dX7_lost_57 : decode cX7_lost 57 = .ok (.ireturn, 1) := by decide +kernel
theorem dX7_lost_58 : decode cX7_lost 58 = .ok (.aload_n 0, 1) := by decide +kernel
theorem dX7_lost_59 : decode cX7_lost 59 = .ok (.invokevirtual 101, 3) := by decide +kernel
theorem dX7_lost_62 : decode cX7_lost 62 = .ok (.iconst 0, 1) := by decide +kernel
theorem dX7_lost_63 : decode cX7_lost 63 = .ok (.istore 4, 2) := by decide +kernel
theorem dX7_lost_65 : decode cX7_lost 65 = .ok (.iload_n 1, 1) := by decide +kernel
theorem dX7_lost_66 : decode cX7_lost 66 = .ok (.ifCond .ge 12, 3) := by decide +kernel
theorem dX7_lost_69 : decode cX7_lost 69 = .ok (.aload_n 0, 1) := by decide +kernel
theorem dX7_lost_70 : decode cX7_lost 70 = .ok (.getfield 22, 3) := by decide +kernel
theorem dX7_lost_73 : decode cX7_lost 73 = .ok (.iconst 0, 1) := by decide +kernel
theorem dX7_lost_74 : decode cX7_lost 74 = .ok (.iaload, 1) := by decide +kernel
theorem dX7_lost_75 : decode cX7_lost 75 = .ok (.goto 4, 3) := by decide +kernel
theorem dX7_lost_78 : decode cX7_lost 78 = .ok (.iconst 0, 1) := by decide +kernel
theorem dX7_lost_79 : decode cX7_lost 79 = .ok (.istore 5, 2) := by decide +kernel
theorem dX7_lost_81 : decode cX7_lost 81 = .ok (.iconst 0, 1) := by decide +kernel
theorem dX7_lost_82 : decode cX7_lost 82 = .ok (.istore 6, 2) := by decide +kernel
theorem dX7_lost_84 : decode cX7_lost 84 = .ok (.iload 6, 2) := by decide +kernel
theorem dX7_lost_86 : decode cX7_lost 86 = .ok (.bipush 8, 2) := by decide +kernel
theorem dX7_lost_88 : decode cX7_lost 88 = .ok (.if_icmp .ge 169, 3) := by decide +kernel
theorem dX7_lost_91 : decode cX7_lost 91 = .ok (.iconst 0, 1) := by decide +kernel
theorem dX7_lost_92 : decode cX7_lost 92 = .ok (.istore 7, 2) := by decide +kernel
theorem dX7_lost_94 : decode cX7_lost 94 = .ok (.ldc 111, 2) := by decide +kernel
theorem dX7_lost_96 : decode cX7_lost 96 = .ok (.istore 8, 2) := by decide +kernel
theorem dX7_lost_98 : decode cX7_lost 98 = .ok (.iconst 0, 1) := by decide +kernel
theorem dX7_lost_99 : decode cX7_lost 99 = .ok (.istore 9, 2) := by decide +kernel
theorem dX7_lost_101 : decode cX7_lost 101 = .ok (.iload 9, 2) := by decide +kernel
theorem dX7_lost_103 : decode cX7_lost 103 = .ok (.iconst 4, 1) := by decide +kernel
theorem dX7_lost_104 : decode cX7_lost 104 = .ok (.if_icmp .ge 131, 3) := by decide +kernel
theorem dX7_lost_107 : decode cX7_lost 107 = .ok (.iload_n 1, 1) := by decide +kernel
theorem dX7_lost_108 : decode cX7_lost 108 = .ok (.ifCond .ge 7, 3) := by decide +kernel
theorem dX7_lost_111 : decode cX7_lost 111 = .ok (.iconst 0, 1) := by decide +kernel
theorem dX7_lost_112 : decode cX7_lost 112 = .ok (.goto 24, 3) := by decide +kernel
theorem dX7_lost_115 : decode cX7_lost 115 = .ok (.aload_n 0, 1) := by decide +kernel
theorem dX7_lost_116 : decode cX7_lost 116 = .ok (.getfield 49, 3) := by decide +kernel
theorem dX7_lost_119 : decode cX7_lost 119 = .ok (.iconst 4, 1) := by decide +kernel
theorem dX7_lost_120 : decode cX7_lost 120 = .ok (.aload_n 0, 1) := by decide +kernel
theorem dX7_lost_121 : decode cX7_lost 121 = .ok (.getfield 7, 3) := by decide +kernel
theorem dX7_lost_124 : decode cX7_lost 124 = .ok (.iload_n 1, 1) := by decide +kernel
theorem dX7_lost_125 : decode cX7_lost 125 = .ok (.iaload, 1) := by decide +kernel
theorem dX7_lost_126 : decode cX7_lost 126 = .ok (.iload 6, 2) := by decide +kernel
theorem dX7_lost_128 : decode cX7_lost 128 = .ok (.invokestatic 104, 3) := by decide +kernel
theorem dX7_lost_131 : decode cX7_lost 131 = .ok (.imul, 1) := by decide +kernel
theorem dX7_lost_132 : decode cX7_lost 132 = .ok (.iload 9, 2) := by decide +kernel
theorem dX7_lost_134 : decode cX7_lost 134 = .ok (.iadd, 1) := by decide +kernel
theorem dX7_lost_135 : decode cX7_lost 135 = .ok (.iaload, 1) := by decide +kernel
theorem dX7_lost_136 : decode cX7_lost 136 = .ok (.istore 10, 2) := by decide +kernel
theorem dX7_lost_138 : decode cX7_lost 138 = .ok (.iconst 0, 1) := by decide +kernel
theorem dX7_lost_139 : decode cX7_lost 139 = .ok (.istore 11, 2) := by decide +kernel
theorem dX7_lost_141 : decode cX7_lost 141 = .ok (.iload 11, 2) := by decide +kernel
theorem dX7_lost_143 : decode cX7_lost 143 = .ok (.aload_n 0, 1) := by decide +kernel
theorem dX7_lost_144 : decode cX7_lost 144 = .ok (.getfield 65, 3) := by decide +kernel
theorem dX7_lost_147 : decode cX7_lost 147 = .ok (.if_icmp .ge 50, 3) := by decide +kernel
theorem dX7_lost_150 : decode cX7_lost 150 = .ok (.iload 10, 2) := by decide +kernel
theorem dX7_lost_152 : decode cX7_lost 152 = .ok (.iload_n 2, 1) := by decide +kernel
theorem dX7_lost_153 : decode cX7_lost 153 = .ok (.iload 11, 2) := by decide +kernel
theorem dX7_lost_155 : decode cX7_lost 155 = .ok (.ishr, 1) := by decide +kernel
theorem dX7_lost_156 : decode cX7_lost 156 = .ok (.iconst 1, 1) := by decide +kernel
theorem dX7_lost_157 : decode cX7_lost 157 = .ok (.iand, 1) := by decide +kernel
theorem dX7_lost_158 : decode cX7_lost 158 = .ok (.iconst 1, 1) := by decide +kernel
theorem dX7_lost_159 : decode cX7_lost 159 = .ok (.if_icmp .ne 28, 3) := by decide +kernel
theorem dX7_lost_162 : decode cX7_lost 162 = .ok (.aload_n 0, 1) := by decide +kernel
theorem dX7_lost_163 : decode cX7_lost 163 = .ok (.getfield 49, 3) := by decide +kernel
theorem dX7_lost_166 : decode cX7_lost 166 = .ok (.iconst 4, 1) := by decide +kernel
theorem dX7_lost_167 : decode cX7_lost 167 = .ok (.iload 9, 2) := by decide +kernel
theorem dX7_lost_169 : decode cX7_lost 169 = .ok (.imul, 1) := by decide +kernel
theorem dX7_lost_170 : decode cX7_lost 170 = .ok (.aload_n 0, 1) := by decide +kernel
theorem dX7_lost_171 : decode cX7_lost 171 = .ok (.getfield 7, 3) := by decide +kernel
theorem dX7_lost_174 : decode cX7_lost 174 = .ok (.iload 11, 2) := by decide +kernel
theorem dX7_lost_176 : decode cX7_lost 176 = .ok (.iaload, 1) := by decide +kernel
theorem dX7_lost_177 : decode cX7_lost 177 = .ok (.iload 6, 2) := by decide +kernel
theorem dX7_lost_179 : decode cX7_lost 179 = .ok (.invokestatic 104, 3) := by decide +kernel
theorem dX7_lost_182 : decode cX7_lost 182 = .ok (.iadd, 1) := by decide +kernel
theorem dX7_lost_183 : decode cX7_lost 183 = .ok (.iaload, 1) := by decide +kernel
theorem dX7_lost_184 : decode cX7_lost 184 = .ok (.goto 4, 3) := by decide +kernel
theorem dX7_lost_187 : decode cX7_lost 187 = .ok (.iconst 0, 1) := by decide +kernel
theorem dX7_lost_188 : decode cX7_lost 188 = .ok (.iadd, 1) := by decide +kernel
theorem dX7_lost_189 : decode cX7_lost 189 = .ok (.istore 10, 2) := by decide +kernel
theorem dX7_lost_191 : decode cX7_lost 191 = .ok (.iinc 11 1, 3) := by decide +kernel
theorem dX7_lost_194 : decode cX7_lost 194 = .ok (.goto (-53), 3) := by decide +kernel
theorem dX7_lost_197 : decode cX7_lost 197 = .ok (.iload 10, 2) := by decide +kernel
theorem dX7_lost_199 : decode cX7_lost 199 = .ok (.iload 8, 2) := by decide +kernel
theorem dX7_lost_201 : decode cX7_lost 201 = .ok (.if_icmp .ge 8, 3) := by decide +kernel
theorem dX7_lost_204 : decode cX7_lost 204 = .ok (.iload 9, 2) := by decide +kernel
theorem dX7_lost_206 : decode cX7_lost 206 = .ok (.goto 5, 3) := by decide +kernel
theorem dX7_lost_209 : decode cX7_lost 209 = .ok (.iload 7, 2) := by decide +kernel
theorem dX7_lost_211 : decode cX7_lost 211 = .ok (.istore 7, 2) := by decide +kernel
theorem dX7_lost_213 : decode cX7_lost 213 = .ok (.iload 10, 2) := by decide +kernel
theorem dX7_lost_215 : decode cX7_lost 215 = .ok (.iload 8, 2) := by decide +kernel
theorem dX7_lost_217 : decode cX7_lost 217 = .ok (.if_icmp .ge 8, 3) := by decide +kernel
theorem dX7_lost_220 : decode cX7_lost 220 = .ok (.iload 10, 2) := by decide +kernel
theorem dX7_lost_222 : decode cX7_lost 222 = .ok (.goto 5, 3) := by decide +kernel
theorem dX7_lost_225 : decode cX7_lost 225 = .ok (.iload 8, 2) := by decide +kernel
theorem dX7_lost_227 : decode cX7_lost 227 = .ok (.istore 8, 2) := by decide +kernel
theorem dX7_lost_229 : decode cX7_lost 229 = .ok (.iinc 9 1, 3) := by decide +kernel
theorem dX7_lost_232 : decode cX7_lost 232 = .ok (.goto (-131), 3) := by decide +kernel
theorem dX7_lost_235 : decode cX7_lost 235 = .ok (.iconst 4, 1) := by decide +kernel
theorem dX7_lost_236 : decode cX7_lost 236 = .ok (.iload 4, 2) := by decide +kernel
theorem dX7_lost_238 : decode cX7_lost 238 = .ok (.imul, 1) := by decide +kernel
theorem dX7_lost_239 : decode cX7_lost 239 = .ok (.iload 7, 2) := by decide +kernel
theorem dX7_lost_241 : decode cX7_lost 241 = .ok (.iadd, 1) := by decide +kernel
theorem dX7_lost_242 : decode cX7_lost 242 = .ok (.istore 4, 2) := by decide +kernel
theorem dX7_lost_244 : decode cX7_lost 244 = .ok (.iload 5, 2) := by decide +kernel
theorem dX7_lost_246 : decode cX7_lost 246 = .ok (.iload 8, 2) := by decide +kernel
theorem dX7_lost_248 : decode cX7_lost 248 = .ok (.iadd, 1) := by decide +kernel
theorem dX7_lost_249 : decode cX7_lost 249 = .ok (.istore 5, 2) := by decide +kernel
theorem dX7_lost_251 : decode cX7_lost 251 = .ok (.iinc 6 1, 3) := by decide +kernel
theorem dX7_lost_254 : decode cX7_lost 254 = .ok (.goto (-170), 3) := by decide +kernel
theorem dX7_lost_257 : decode cX7_lost 257 = .ok (.iconst 0, 1) := by decide +kernel
theorem dX7_lost_258 : decode cX7_lost 258 = .ok (.istore 6, 2) := by decide +kernel
theorem dX7_lost_260 : decode cX7_lost 260 = .ok (.iconst 0, 1) := by decide +kernel
theorem dX7_lost_261 : decode cX7_lost 261 = .ok (.istore 7, 2) := by decide +kernel
theorem dX7_lost_263 : decode cX7_lost 263 = .ok (.iload 7, 2) := by decide +kernel
theorem dX7_lost_265 : decode cX7_lost 265 = .ok (.aload_n 0, 1) := by decide +kernel
theorem dX7_lost_266 : decode cX7_lost 266 = .ok (.getfield 65, 3) := by decide +kernel
theorem dX7_lost_269 : decode cX7_lost 269 = .ok (.if_icmp .ge 57, 3) := by decide +kernel
theorem dX7_lost_272 : decode cX7_lost 272 = .ok (.iload 6, 2) := by decide +kernel
theorem dX7_lost_274 : decode cX7_lost 274 = .ok (.iload_n 2, 1) := by decide +kernel
theorem dX7_lost_275 : decode cX7_lost 275 = .ok (.iload 7, 2) := by decide +kernel
theorem dX7_lost_277 : decode cX7_lost 277 = .ok (.ishr, 1) := by decide +kernel
theorem dX7_lost_278 : decode cX7_lost 278 = .ok (.iconst 1, 1) := by decide +kernel
theorem dX7_lost_279 : decode cX7_lost 279 = .ok (.iand, 1) := by decide +kernel
theorem dX7_lost_280 : decode cX7_lost 280 = .ok (.ifCond .ne 7, 3) := by decide +kernel
theorem dX7_lost_283 : decode cX7_lost 283 = .ok (.iconst 0, 1) := by decide +kernel
theorem dX7_lost_284 : decode cX7_lost 284 = .ok (.goto 33, 3) := by decide +kernel
theorem dX7_lost_287 : decode cX7_lost 287 = .ok (.iload_n 1, 1) := by decide +kernel
theorem dX7_lost_288 : decode cX7_lost 288 = .ok (.ifCond .ge 12, 3) := by decide +kernel
theorem dX7_lost_291 : decode cX7_lost 291 = .ok (.aload_n 0, 1) := by decide +kernel
theorem dX7_lost_292 : decode cX7_lost 292 = .ok (.getfield 22, 3) := by decide +kernel
theorem dX7_lost_295 : decode cX7_lost 295 = .ok (.iconst 0, 1) := by decide +kernel
theorem dX7_lost_296 : decode cX7_lost 296 = .ok (.iaload, 1) := by decide +kernel
theorem dX7_lost_297 : decode cX7_lost 297 = .ok (.goto 20, 3) := by decide +kernel
theorem dX7_lost_300 : decode cX7_lost 300 = .ok (.aload_n 0, 1) := by decide +kernel
theorem dX7_lost_301 : decode cX7_lost 301 = .ok (.aload_n 0, 1) := by decide +kernel
theorem dX7_lost_302 : decode cX7_lost 302 = .ok (.getfield 7, 3) := by decide +kernel
theorem dX7_lost_305 : decode cX7_lost 305 = .ok (.iload_n 1, 1) := by decide +kernel
theorem dX7_lost_306 : decode cX7_lost 306 = .ok (.iaload, 1) := by decide +kernel
theorem dX7_lost_307 : decode cX7_lost 307 = .ok (.aload_n 0, 1) := by decide +kernel
theorem dX7_lost_308 : decode cX7_lost 308 = .ok (.getfield 7, 3) := by decide +kernel
theorem dX7_lost_311 : decode cX7_lost 311 = .ok (.iload 7, 2) := by decide +kernel
theorem dX7_lost_313 : decode cX7_lost 313 = .ok (.iaload, 1) := by decide +kernel
theorem dX7_lost_314 : decode cX7_lost 314 = .ok (.invokevirtual 108, 3) := by decide +kernel
theorem dX7_lost_317 : decode cX7_lost 317 = .ok (.iadd, 1) := by decide +kernel
theorem dX7_lost_318 : decode cX7_lost 318 = .ok (.istore 6, 2) := by decide +kernel
theorem dX7_lost_320 : decode cX7_lost 320 = .ok (.iinc 7 1, 3) := by decide +kernel
theorem dX7_lost_323 : decode cX7_lost 323 = .ok (.goto (-60), 3) := by decide +kernel
theorem dX7_lost_326 : decode cX7_lost 326 = .ok (.iload_n 3, 1) := by decide +kernel
theorem dX7_lost_327 : decode cX7_lost 327 = .ok (.ifCond .ne 8, 3) := by decide +kernel
theorem dX7_lost_330 : decode cX7_lost 330 = .ok (.iload 4, 2) := by decide +kernel
theorem dX7_lost_332 : decode cX7_lost 332 = .ok (.goto 22, 3) := by decide +kernel
theorem dX7_lost_335 : decode cX7_lost 335 = .ok (.iload_n 3, 1) := by decide +kernel
theorem dX7_lost_336 : decode cX7_lost 336 = .ok (.iconst 1, 1) := by decide +kernel
theorem dX7_lost_337 : decode cX7_lost 337 = .ok (.if_icmp .ne 8, 3) := by decide +kernel
theorem dX7_lost_340 : decode cX7_lost 340 = .ok (.iload 5, 2) := by decide +kernel
theorem dX7_lost_342 : decode cX7_lost 342 = .ok (.goto 12, 3) := by decide +kernel
theorem dX7_lost_345 : decode cX7_lost 345 = .ok (.iload 6, 2) := by decide +kernel
theorem dX7_lost_347 : decode cX7_lost 347 = .ok (.iload 5, 2) := by decide +kernel
theorem dX7_lost_349 : decode cX7_lost 349 = .ok (.isub, 1) := by decide +kernel
theorem dX7_lost_350 : decode cX7_lost 350 = .ok (.sipush 10000, 3) := by decide +kernel
theorem dX7_lost_353 : decode cX7_lost 353 = .ok (.iadd, 1) := by decide +kernel
theorem dX7_lost_354 : decode cX7_lost 354 = .ok (.ireturn, 1) := by decide +kernel
theorem dX7_width_0 : decode cX7_width 0 = .ok (.aload_n 0, 1) := by decide +kernel
theorem dX7_width_1 : decode cX7_width 1 = .ok (.iload_n 1, 1) := by decide +kernel
theorem dX7_width_2 : decode cX7_width 2 = .ok (.invokevirtual 85, 3) := by decide +kernel
theorem dX7_width_5 : decode cX7_width 5 = .ok (.ifCond .ne 5, 3) := by decide +kernel
theorem dX7_width_8 : decode cX7_width 8 = .ok (.iconst (-1), 1) := by decide +kernel
theorem dX7_width_9 : decode cX7_width 9 = .ok (.ireturn, 1) := by decide +kernel
theorem dX7_width_10 : decode cX7_width 10 = .ok (.iload_n 2, 1) := by decide +kernel
theorem dX7_width_11 : decode cX7_width 11 = .ok (.iconst 0, 1) := by decide +kernel
