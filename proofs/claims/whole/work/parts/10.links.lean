theorem inX0 : ∀ w ∈ u_ws RX0 TX0 4, w ∈ gT := fun w hw => gT_of ((by decide +kernel : ∀ w ∈ u_ws RX0 TX0 4, w ∈ lw_tbl) w hw) ((by decide +kernel : ∀ w ∈ u_ws RX0 TX0 4, goodWord w = true) w hw)
theorem inX1 : ∀ w ∈ u_ws RX1 TX1 12, w ∈ gT := fun w hw => gT_of ((by decide +kernel : ∀ w ∈ u_ws RX1 TX1 12, w ∈ lw_tbl) w hw) ((by decide +kernel : ∀ w ∈ u_ws RX1 TX1 12, goodWord w = true) w hw)
theorem inX2 : ∀ w ∈ u_ws RX2 TX2 3, w ∈ gT := fun w hw => gT_of ((by decide +kernel : ∀ w ∈ u_ws RX2 TX2 3, w ∈ lw_tbl) w hw) ((by decide +kernel : ∀ w ∈ u_ws RX2 TX2 3, goodWord w = true) w hw)
theorem inX3 : ∀ w ∈ u_ws RX3 TX3 2, w ∈ gT := fun w hw => gT_of ((by decide +kernel : ∀ w ∈ u_ws RX3 TX3 2, w ∈ lw_tbl) w hw) ((by decide +kernel : ∀ w ∈ u_ws RX3 TX3 2, goodWord w = true) w hw)
theorem inX4 : ∀ w ∈ u_ws RX4 TX4 7, w ∈ gT := fun w hw => gT_of ((by decide +kernel : ∀ w ∈ u_ws RX4 TX4 7, w ∈ lw_tbl) w hw) ((by decide +kernel : ∀ w ∈ u_ws RX4 TX4 7, goodWord w = true) w hw)
theorem inX5 : ∀ w ∈ u_ws RX5 TX5 11, w ∈ gT := fun w hw => gT_of ((by decide +kernel : ∀ w ∈ u_ws RX5 TX5 11, w ∈ lw_tbl) w hw) ((by decide +kernel : ∀ w ∈ u_ws RX5 TX5 11, goodWord w = true) w hw)
theorem inX6 : ∀ w ∈ u_ws RX6 TX6 7, w ∈ gT := fun w hw => gT_of ((by decide +kernel : ∀ w ∈ u_ws RX6 TX6 7, w ∈ lw_tbl) w hw) ((by decide +kernel : ∀ w ∈ u_ws RX6 TX6 7, goodWord w = true) w hw)
theorem inX7 : ∀ w ∈ u_ws RX7 TX7 30, w ∈ gT := fun w hw => gT_of ((by decide +kernel : ∀ w ∈ u_ws RX7 TX7 30, w ∈ lw_tbl) w hw) ((by decide +kernel : ∀ w ∈ u_ws RX7 TX7 30, goodWord w = true) w hw)
theorem fo_X1_44 : FO RX1 44 1 0 .int false := ⟨RX1, TX1, 12, tyX1, rfl, by decide, gT_tb 50 rfl rfl, inX1, tyX1_ok, nmX1, by decide +kernel, rfl, rfl⟩
theorem fo_X6_65 : FO RX6 65 1 0 .int false := ⟨RX1, TX1, 12, tyX1, rfl, by decide, gT_tb 51 rfl rfl, inX1, tyX1_ok, nmX1, by decide +kernel, rfl, rfl⟩
theorem fo_X5_42 : FO RX5 42 1 0 .int false := ⟨RX1, TX1, 12, tyX1, rfl, by decide, gT_tb 52 rfl rfl, inX1, tyX1_ok, nmX1, by decide +kernel, rfl, rfl⟩
theorem fo_X1_48 : FO RX1 48 1 1 .int false := ⟨RX1, TX1, 12, tyX1, rfl, by decide, gT_tb 53 rfl rfl, inX1, tyX1_ok, nmX1, by decide +kernel, rfl, rfl⟩
theorem fo_X6_119 : FO RX6 119 1 1 .int false := ⟨RX1, TX1, 12, tyX1, rfl, by decide, gT_tb 54 rfl rfl, inX1, tyX1_ok, nmX1, by decide +kernel, rfl, rfl⟩
theorem fo_X1_9 : FO RX1 9 1 2 (.array .int) true := ⟨RX1, TX1, 12, tyX1, rfl, by decide, gT_tb 55 rfl rfl, inX1, tyX1_ok, nmX1, by decide +kernel, rfl, rfl⟩
theorem fo_X6_79 : FO RX6 79 1 2 (.array .int) true := ⟨RX1, TX1, 12, tyX1, rfl, by decide, gT_tb 56 rfl rfl, inX1, tyX1_ok, nmX1, by decide +kernel, rfl, rfl⟩
theorem fo_X5_58 : FO RX5 58 1 2 (.array .int) true := ⟨RX1, TX1, 12, tyX1, rfl, by decide, gT_tb 57 rfl rfl, inX1, tyX1_ok, nmX1, by decide +kernel, rfl, rfl⟩
theorem fo_X1_15 : FO RX1 15 1 3 (.array .int) true := ⟨RX1, TX1, 12, tyX1, rfl, by decide, gT_tb 58 rfl rfl, inX1, tyX1_ok, nmX1, by decide +kernel, rfl, rfl⟩
theorem fo_X6_83 : FO RX6 83 1 3 (.array .int) true := ⟨RX1, TX1, 12, tyX1, rfl, by decide, gT_tb 59 rfl rfl, inX1, tyX1_ok, nmX1, by decide +kernel, rfl, rfl⟩
theorem fo_X5_65 : FO RX5 65 1 3 (.array .int) true := ⟨RX1, TX1, 12, tyX1, rfl, by decide, gT_tb 60 rfl rfl, inX1, tyX1_ok, nmX1, by decide +kernel, rfl, rfl⟩
theorem fo_X1_18 : FO RX1 18 1 4 (.array .int) true := ⟨RX1, TX1, 12, tyX1, rfl, by decide, gT_tb 61 rfl rfl, inX1, tyX1_ok, nmX1, by decide +kernel, rfl, rfl⟩
theorem fo_X6_86 : FO RX6 86 1 4 (.array .int) true := ⟨RX1, TX1, 12, tyX1, rfl, by decide, gT_tb 62 rfl rfl, inX1, tyX1_ok, nmX1, by decide +kernel, rfl, rfl⟩
theorem fo_X5_68 : FO RX5 68 1 4 (.array .int) true := ⟨RX1, TX1, 12, tyX1, rfl, by decide, gT_tb 63 rfl rfl, inX1, tyX1_ok, nmX1, by decide +kernel, rfl, rfl⟩
theorem fo_X1_21 : FO RX1 21 1 5 (.array .int) true := ⟨RX1, TX1, 12, tyX1, rfl, by decide, gT_tb 64 rfl rfl, inX1, tyX1_ok, nmX1, by decide +kernel, rfl, rfl⟩
theorem fo_X6_164 : FO RX6 164 1 5 (.array .int) true := ⟨RX1, TX1, 12, tyX1, rfl, by decide, gT_tb 65 rfl rfl, inX1, tyX1_ok, nmX1, by decide +kernel, rfl, rfl⟩
theorem fo_X1_26 : FO RX1 26 1 6 (.array (.array .int)) true := ⟨RX1, TX1, 12, tyX1, rfl, by decide, gT_tb 66 rfl rfl, inX1, tyX1_ok, nmX1, by decide +kernel, rfl, rfl⟩
theorem fo_X6_111 : FO RX6 111 1 6 (.array (.array .int)) true := ⟨RX1, TX1, 12, tyX1, rfl, by decide, gT_tb 67 rfl rfl, inX1, tyX1_ok, nmX1, by decide +kernel, rfl, rfl⟩
theorem fo_X1_29 : FO RX1 29 1 7 (.array .int) true := ⟨RX1, TX1, 12, tyX1, rfl, by decide, gT_tb 68 rfl rfl, inX1, tyX1_ok, nmX1, by decide +kernel, rfl, rfl⟩
theorem fo_X0_25 : FO RX0 25 1 7 (.array .int) true := ⟨RX1, TX1, 12, tyX1, rfl, by decide, gT_tb 69 rfl rfl, inX1, tyX1_ok, nmX1, by decide +kernel, rfl, rfl⟩
theorem fo_X5_48 : FO RX5 48 1 7 (.array .int) true := ⟨RX1, TX1, 12, tyX1, rfl, by decide, gT_tb 70 rfl rfl, inX1, tyX1_ok, nmX1, by decide +kernel, rfl, rfl⟩
theorem fo_X6_97 : FO RX6 97 1 7 (.array .int) true := ⟨RX1, TX1, 12, tyX1, rfl, by decide, gT_tb 71 rfl rfl, inX1, tyX1_ok, nmX1, by decide +kernel, rfl, rfl⟩
theorem fo_X1_32 : FO RX1 32 1 8 (.array .int) true := ⟨RX1, TX1, 12, tyX1, rfl, by decide, gT_tb 72 rfl rfl, inX1, tyX1_ok, nmX1, by decide +kernel, rfl, rfl⟩
theorem fo_X0_35 : FO RX0 35 1 8 (.array .int) true := ⟨RX1, TX1, 12, tyX1, rfl, by decide, gT_tb 73 rfl rfl, inX1, tyX1_ok, nmX1, by decide +kernel, rfl, rfl⟩
theorem fo_X6_167 : FO RX6 167 1 8 (.array .int) true := ⟨RX1, TX1, 12, tyX1, rfl, by decide, gT_tb 74 rfl rfl, inX1, tyX1_ok, nmX1, by decide +kernel, rfl, rfl⟩
theorem fo_X1_35 : FO RX1 35 1 9 (.array .int) true := ⟨RX1, TX1, 12, tyX1, rfl, by decide, gT_tb 75 rfl rfl, inX1, tyX1_ok, nmX1, by decide +kernel, rfl, rfl⟩
theorem fo_X0_38 : FO RX0 38 1 9 (.array .int) true := ⟨RX1, TX1, 12, tyX1, rfl, by decide, gT_tb 76 rfl rfl, inX1, tyX1_ok, nmX1, by decide +kernel, rfl, rfl⟩
theorem fo_X6_170 : FO RX6 170 1 9 (.array .int) true := ⟨RX1, TX1, 12, tyX1, rfl, by decide, gT_tb 77 rfl rfl, inX1, tyX1_ok, nmX1, by decide +kernel, rfl, rfl⟩
theorem fo_X1_38 : FO RX1 38 1 10 (.array .int) true := ⟨RX1, TX1, 12, tyX1, rfl, by decide, gT_tb 78 rfl rfl, inX1, tyX1_ok, nmX1, by decide +kernel, rfl, rfl⟩
theorem fo_X2_26 : FO RX2 26 1 10 (.array .int) true := ⟨RX1, TX1, 12, tyX1, rfl, by decide, gT_tb 79 rfl rfl, inX1, tyX1_ok, nmX1, by decide +kernel, rfl, rfl⟩
theorem fo_X6_194 : FO RX6 194 1 10 (.array .int) true := ⟨RX1, TX1, 12, tyX1, rfl, by decide, gT_tb 80 rfl rfl, inX1, tyX1_ok, nmX1, by decide +kernel, rfl, rfl⟩
theorem fo_X1_41 : FO RX1 41 1 11 (.array .int) true := ⟨RX1, TX1, 12, tyX1, rfl, by decide, gT_tb 81 rfl rfl, inX1, tyX1_ok, nmX1, by decide +kernel, rfl, rfl⟩
theorem fo_X2_32 : FO RX2 32 1 11 (.array .int) true := ⟨RX1, TX1, 12, tyX1, rfl, by decide, gT_tb 82 rfl rfl, inX1, tyX1_ok, nmX1, by decide +kernel, rfl, rfl⟩
theorem fo_X6_191 : FO RX6 191 1 11 (.array .int) true := ⟨RX1, TX1, 12, tyX1, rfl, by decide, gT_tb 83 rfl rfl, inX1, tyX1_ok, nmX1, by decide +kernel, rfl, rfl⟩
theorem fo_X3_15 : FO RX3 15 3 0 .int false := ⟨RX3, TX3, 2, tyX3, rfl, by decide, gT_tb 117 rfl rfl, inX3, tyX3_ok, nmX3, by decide +kernel, rfl, rfl⟩
theorem fo_X6_100 : FO RX6 100 3 0 .int false := ⟨RX3, TX3, 2, tyX3, rfl, by decide, gT_tb 118 rfl rfl, inX3, tyX3_ok, nmX3, by decide +kernel, rfl, rfl⟩
theorem fo_X3_9 : FO RX3 9 3 1 (.array .int) true := ⟨RX3, TX3, 2, tyX3, rfl, by decide, gT_tb 119 rfl rfl, inX3, tyX3_ok, nmX3, by decide +kernel, rfl, rfl⟩
theorem fo_X5_38 : FO RX5 38 5 0 .int false := ⟨RX5, TX5, 11, tyX5, rfl, by decide, gT_tb 132 rfl rfl, inX5, tyX5_ok, nmX5, by decide +kernel, rfl, rfl⟩
theorem fo_X6_135 : FO RX6 135 5 0 .int false := ⟨RX5, TX5, 11, tyX5, rfl, by decide, gT_tb 133 rfl rfl, inX5, tyX5_ok, nmX5, by decide +kernel, rfl, rfl⟩
theorem fo_X5_75 : FO RX5 75 5 1 .int false := ⟨RX5, TX5, 11, tyX5, rfl, by decide, gT_tb 134 rfl rfl, inX5, tyX5_ok, nmX5, by decide +kernel, rfl, rfl⟩
theorem fo_X6_129 : FO RX6 129 5 1 .int false := ⟨RX5, TX5, 11, tyX5, rfl, by decide, gT_tb 135 rfl rfl, inX5, tyX5_ok, nmX5, by decide +kernel, rfl, rfl⟩
theorem fo_X5_9 : FO RX5 9 5 2 (.array .int) false := ⟨RX5, TX5, 11, tyX5, rfl, by decide, gT_tb 136 rfl rfl, inX5, tyX5_ok, nmX5, by decide +kernel, rfl, rfl⟩
theorem fo_X6_142 : FO RX6 142 5 2 (.array .int) false := ⟨RX5, TX5, 11, tyX5, rfl, by decide, gT_tb 137 rfl rfl, inX5, tyX5_ok, nmX5, by decide +kernel, rfl, rfl⟩
theorem fo_X5_15 : FO RX5 15 5 3 (.array .int) false := ⟨RX5, TX5, 11, tyX5, rfl, by decide, gT_tb 138 rfl rfl, inX5, tyX5_ok, nmX5, by decide +kernel, rfl, rfl⟩
theorem fo_X6_139 : FO RX6 139 5 3 (.array .int) false := ⟨RX5, TX5, 11, tyX5, rfl, by decide, gT_tb 139 rfl rfl, inX5, tyX5_ok, nmX5, by decide +kernel, rfl, rfl⟩
theorem fo_X5_30 : FO RX5 30 5 4 (.object "CopiedSkins$Album") true := ⟨RX5, TX5, 11, tyX5, rfl, by decide, gT_tb 140 rfl rfl, inX5, tyX5_ok, nmX5, by decide +kernel, rfl, rfl⟩
theorem fo_X5_34 : FO RX5 34 5 5 .boolean false := ⟨RX5, TX5, 11, tyX5, rfl, by decide, gT_tb 141 rfl rfl, inX5, tyX5_ok, nmX5, by decide +kernel, rfl, rfl⟩
theorem fo_X5_47 : FO RX5 47 5 6 .int false := ⟨RX5, TX5, 11, tyX5, rfl, by decide, gT_tb 142 rfl rfl, inX5, tyX5_ok, nmX5, by decide +kernel, rfl, rfl⟩
theorem fo_X5_51 : FO RX5 51 5 7 .int false := ⟨RX5, TX5, 11, tyX5, rfl, by decide, gT_tb 143 rfl rfl, inX5, tyX5_ok, nmX5, by decide +kernel, rfl, rfl⟩
theorem fo_X5_18 : FO RX5 18 5 8 (.array .int) true := ⟨RX5, TX5, 11, tyX5, rfl, by decide, gT_tb 144 rfl rfl, inX5, tyX5_ok, nmX5, by decide +kernel, rfl, rfl⟩
theorem fo_X5_23 : FO RX5 23 5 9 (.array (.array .int)) true := ⟨RX5, TX5, 11, tyX5, rfl, by decide, gT_tb 145 rfl rfl, inX5, tyX5_ok, nmX5, by decide +kernel, rfl, rfl⟩
theorem fo_X5_26 : FO RX5 26 5 10 (.array .boolean) true := ⟨RX5, TX5, 11, tyX5, rfl, by decide, gT_tb 146 rfl rfl, inX5, tyX5_ok, nmX5, by decide +kernel, rfl, rfl⟩
theorem fo_X0_15 : FO RX0 15 0 0 .int false := ⟨RX0, TX0, 4, tyX0, rfl, by decide, gT_tb 177 rfl rfl, inX0, tyX0_ok, nmX0, by decide +kernel, rfl, rfl⟩
theorem fo_X6_177 : FO RX6 177 0 0 .int false := ⟨RX0, TX0, 4, tyX0, rfl, by decide, gT_tb 178 rfl rfl, inX0, tyX0_ok, nmX0, by decide +kernel, rfl, rfl⟩
theorem fo_X0_19 : FO RX0 19 0 1 .int false := ⟨RX0, TX0, 4, tyX0, rfl, by decide, gT_tb 179 rfl rfl, inX0, tyX0_ok, nmX0, by decide +kernel, rfl, rfl⟩
theorem fo_X6_180 : FO RX6 180 0 1 .int false := ⟨RX0, TX0, 4, tyX0, rfl, by decide, gT_tb 180 rfl rfl, inX0, tyX0_ok, nmX0, by decide +kernel, rfl, rfl⟩
theorem fo_X0_22 : FO RX0 22 0 2 .int false := ⟨RX0, TX0, 4, tyX0, rfl, by decide, gT_tb 181 rfl rfl, inX0, tyX0_ok, nmX0, by decide +kernel, rfl, rfl⟩
theorem fo_X6_176 : FO RX6 176 0 2 .int false := ⟨RX0, TX0, 4, tyX0, rfl, by decide, gT_tb 182 rfl rfl, inX0, tyX0_ok, nmX0, by decide +kernel, rfl, rfl⟩
theorem fo_X0_9 : FO RX0 9 0 3 (.object "CopiedSkins$Album") true := ⟨RX0, TX0, 4, tyX0, rfl, by decide, gT_tb 183 rfl rfl, inX0, tyX0_ok, nmX0, by decide +kernel, rfl, rfl⟩
theorem fo_X2_9 : FO RX2 9 2 0 (.object "CopiedSkins$Album") true := ⟨RX2, TX2, 3, tyX2, rfl, by decide, gT_tb 199 rfl rfl, inX2, tyX2_ok, nmX2, by decide +kernel, rfl, rfl⟩
theorem fo_X2_15 : FO RX2 15 2 1 .int false := ⟨RX2, TX2, 3, tyX2, rfl, by decide, gT_tb 200 rfl rfl, inX2, tyX2_ok, nmX2, by decide +kernel, rfl, rfl⟩
theorem fo_X2_19 : FO RX2 19 2 2 .int false := ⟨RX2, TX2, 3, tyX2, rfl, by decide, gT_tb 201 rfl rfl, inX2, tyX2_ok, nmX2, by decide +kernel, rfl, rfl⟩
theorem fo_X4_24 : FO RX4 24 4 0 .int false := ⟨RX4, TX4, 7, tyX4, rfl, by decide, gT_tb 215 rfl rfl, inX4, tyX4_ok, nmX4, by decide +kernel, rfl, rfl⟩
theorem fo_X6_212 : FO RX6 212 4 0 .int false := ⟨RX4, TX4, 7, tyX4, rfl, by decide, gT_tb 216 rfl rfl, inX4, tyX4_ok, nmX4, by decide +kernel, rfl, rfl⟩
theorem fo_X4_28 : FO RX4 28 4 1 .int false := ⟨RX4, TX4, 7, tyX4, rfl, by decide, gT_tb 217 rfl rfl, inX4, tyX4_ok, nmX4, by decide +kernel, rfl, rfl⟩
theorem fo_X6_221 : FO RX6 221 4 1 .int false := ⟨RX4, TX4, 7, tyX4, rfl, by decide, gT_tb 218 rfl rfl, inX4, tyX4_ok, nmX4, by decide +kernel, rfl, rfl⟩
theorem fo_X4_39 : FO RX4 39 4 2 .int false := ⟨RX4, TX4, 7, tyX4, rfl, by decide, gT_tb 219 rfl rfl, inX4, tyX4_ok, nmX4, by decide +kernel, rfl, rfl⟩
theorem fo_X6_240 : FO RX6 240 4 2 .int false := ⟨RX4, TX4, 7, tyX4, rfl, by decide, gT_tb 220 rfl rfl, inX4, tyX4_ok, nmX4, by decide +kernel, rfl, rfl⟩
theorem fo_X4_9 : FO RX4 9 4 3 (.array .int) true := ⟨RX4, TX4, 7, tyX4, rfl, by decide, gT_tb 221 rfl rfl, inX4, tyX4_ok, nmX4, by decide +kernel, rfl, rfl⟩
theorem fo_X6_227 : FO RX6 227 4 3 (.array .int) true := ⟨RX4, TX4, 7, tyX4, rfl, by decide, gT_tb 222 rfl rfl, inX4, tyX4_ok, nmX4, by decide +kernel, rfl, rfl⟩
theorem fo_X4_15 : FO RX4 15 4 4 (.array .int) true := ⟨RX4, TX4, 7, tyX4, rfl, by decide, gT_tb 223 rfl rfl, inX4, tyX4_ok, nmX4, by decide +kernel, rfl, rfl⟩
theorem fo_X4_18 : FO RX4 18 4 5 (.array .int) true := ⟨RX4, TX4, 7, tyX4, rfl, by decide, gT_tb 224 rfl rfl, inX4, tyX4_ok, nmX4, by decide +kernel, rfl, rfl⟩
theorem fo_X4_21 : FO RX4 21 4 6 (.array .int) true := ⟨RX4, TX4, 7, tyX4, rfl, by decide, gT_tb 225 rfl rfl, inX4, tyX4_ok, nmX4, by decide +kernel, rfl, rfl⟩
theorem fo_X6_10 : FO RX6 10 6 0 (.object "CopiedSkins$Album") true := ⟨RX6, TX6, 7, tyX6, rfl, by decide, gT_tb 241 rfl rfl, inX6, tyX6_ok, nmX6, by decide +kernel, rfl, rfl⟩
theorem fo_X6_16 : FO RX6 16 6 1 (.array (.object "CopiedSkins$Album")) true := ⟨RX6, TX6, 7, tyX6, rfl, by decide, gT_tb 242 rfl rfl, inX6, tyX6_ok, nmX6, by decide +kernel, rfl, rfl⟩
theorem fo_X6_23 : FO RX6 23 6 2 (.object "CopiedSkins$LawText") true := ⟨RX6, TX6, 7, tyX6, rfl, by decide, gT_tb 243 rfl rfl, inX6, tyX6_ok, nmX6, by decide +kernel, rfl, rfl⟩
theorem fo_X6_32 : FO RX6 32 6 3 (.object "CopiedSkins$Trees") true := ⟨RX6, TX6, 7, tyX6, rfl, by decide, gT_tb 244 rfl rfl, inX6, tyX6_ok, nmX6, by decide +kernel, rfl, rfl⟩
theorem fo_X6_39 : FO RX6 39 6 4 (.object "CopiedSkins$Ages") true := ⟨RX6, TX6, 7, tyX6, rfl, by decide, gT_tb 245 rfl rfl, inX6, tyX6_ok, nmX6, by decide +kernel, rfl, rfl⟩
theorem fo_X6_46 : FO RX6 46 6 5 (.object "CopiedSkins$Covers") true := ⟨RX6, TX6, 7, tyX6, rfl, by decide, gT_tb 246 rfl rfl, inX6, tyX6_ok, nmX6, by decide +kernel, rfl, rfl⟩
theorem fo_X6_53 : FO RX6 53 6 6 (.object "CopiedSkins$Needle") true := ⟨RX6, TX6, 7, tyX6, rfl, by decide, gT_tb 247 rfl rfl, inX6, tyX6_ok, nmX6, by decide +kernel, rfl, rfl⟩
set_option maxRecDepth 20000 in
theorem fo_X7_65 : FO RX7 65 7 0 .int false := ⟨RX7, TX7, 30, tyX7, rfl, by decide, gT_tb 600 rfl rfl, inX7, tyX7_ok, nmX7, by decide +kernel, rfl, rfl⟩
set_option maxRecDepth 20000 in
theorem fo_X7_7 : FO RX7 7 7 1 (.array .int) true := ⟨RX7, TX7, 30, tyX7, rfl, by decide, gT_tb 601 rfl rfl, inX7, tyX7_ok, nmX7, by decide +kernel, rfl, rfl⟩
set_option maxRecDepth 20000 in
theorem fo_X7_13 : FO RX7 13 7 2 (.array .int) true := ⟨RX7, TX7, 30, tyX7, rfl, by decide, gT_tb 602 rfl rfl, inX7, tyX7_ok, nmX7, by decide +kernel, rfl, rfl⟩
set_option maxRecDepth 20000 in
theorem fo_X7_16 : FO RX7 16 7 3 (.array .int) true := ⟨RX7, TX7, 30, tyX7, rfl, by decide, gT_tb 603 rfl rfl, inX7, tyX7_ok, nmX7, by decide +kernel, rfl, rfl⟩
set_option maxRecDepth 20000 in
theorem fo_X7_19 : FO RX7 19 7 4 (.array .int) true := ⟨RX7, TX7, 30, tyX7, rfl, by decide, gT_tb 604 rfl rfl, inX7, tyX7_ok, nmX7, by decide +kernel, rfl, rfl⟩
set_option maxRecDepth 20000 in
theorem fo_X7_22 : FO RX7 22 7 5 (.array .int) true := ⟨RX7, TX7, 30, tyX7, rfl, by decide, gT_tb 605 rfl rfl, inX7, tyX7_ok, nmX7, by decide +kernel, rfl, rfl⟩
set_option maxRecDepth 20000 in
theorem fo_X7_88 : FO RX7 88 7 6 .int false := ⟨RX7, TX7, 30, tyX7, rfl, by decide, gT_tb 606 rfl rfl, inX7, tyX7_ok, nmX7, by decide +kernel, rfl, rfl⟩
set_option maxRecDepth 20000 in
theorem fo_X7_25 : FO RX7 25 7 7 (.array .int) true := ⟨RX7, TX7, 30, tyX7, rfl, by decide, gT_tb 607 rfl rfl, inX7, tyX7_ok, nmX7, by decide +kernel, rfl, rfl⟩
set_option maxRecDepth 20000 in
theorem fo_X7_95 : FO RX7 95 7 8 .int false := ⟨RX7, TX7, 30, tyX7, rfl, by decide, gT_tb 608 rfl rfl, inX7, tyX7_ok, nmX7, by decide +kernel, rfl, rfl⟩
set_option maxRecDepth 20000 in
theorem fo_X7_28 : FO RX7 28 7 9 (.array .int) true := ⟨RX7, TX7, 30, tyX7, rfl, by decide, gT_tb 609 rfl rfl, inX7, tyX7_ok, nmX7, by decide +kernel, rfl, rfl⟩
set_option maxRecDepth 20000 in
theorem fo_X7_31 : FO RX7 31 7 10 (.array .int) true := ⟨RX7, TX7, 30, tyX7, rfl, by decide, gT_tb 610 rfl rfl, inX7, tyX7_ok, nmX7, by decide +kernel, rfl, rfl⟩
set_option maxRecDepth 20000 in
theorem fo_X7_34 : FO RX7 34 7 11 (.array .int) true := ⟨RX7, TX7, 30, tyX7, rfl, by decide, gT_tb 611 rfl rfl, inX7, tyX7_ok, nmX7, by decide +kernel, rfl, rfl⟩
set_option maxRecDepth 20000 in
theorem fo_X7_37 : FO RX7 37 7 12 (.array .int) true := ⟨RX7, TX7, 30, tyX7, rfl, by decide, gT_tb 612 rfl rfl, inX7, tyX7_ok, nmX7, by decide +kernel, rfl, rfl⟩
set_option maxRecDepth 20000 in
theorem fo_X7_150 : FO RX7 150 7 13 .int false := ⟨RX7, TX7, 30, tyX7, rfl, by decide, gT_tb 613 rfl rfl, inX7, tyX7_ok, nmX7, by decide +kernel, rfl, rfl⟩
set_option maxRecDepth 20000 in
theorem fo_X7_40 : FO RX7 40 7 14 (.array .int) true := ⟨RX7, TX7, 30, tyX7, rfl, by decide, gT_tb 614 rfl rfl, inX7, tyX7_ok, nmX7, by decide +kernel, rfl, rfl⟩
set_option maxRecDepth 20000 in
theorem fo_X7_156 : FO RX7 156 7 15 .int false := ⟨RX7, TX7, 30, tyX7, rfl, by decide, gT_tb 615 rfl rfl, inX7, tyX7_ok, nmX7, by decide +kernel, rfl, rfl⟩
set_option maxRecDepth 20000 in
theorem fo_X7_43 : FO RX7 43 7 16 (.array .int) true := ⟨RX7, TX7, 30, tyX7, rfl, by decide, gT_tb 616 rfl rfl, inX7, tyX7_ok, nmX7, by decide +kernel, rfl, rfl⟩
set_option maxRecDepth 20000 in
theorem fo_X7_46 : FO RX7 46 7 17 (.array .int) true := ⟨RX7, TX7, 30, tyX7, rfl, by decide, gT_tb 617 rfl rfl, inX7, tyX7_ok, nmX7, by decide +kernel, rfl, rfl⟩
set_option maxRecDepth 20000 in
theorem fo_X7_81 : FO RX7 81 7 18 .boolean false := ⟨RX7, TX7, 30, tyX7, rfl, by decide, gT_tb 618 rfl rfl, inX7, tyX7_ok, nmX7, by decide +kernel, rfl, rfl⟩
set_option maxRecDepth 20000 in
theorem fo_X7_49 : FO RX7 49 7 19 (.array .int) true := ⟨RX7, TX7, 30, tyX7, rfl, by decide, gT_tb 619 rfl rfl, inX7, tyX7_ok, nmX7, by decide +kernel, rfl, rfl⟩
set_option maxRecDepth 20000 in
theorem fo_X7_52 : FO RX7 52 7 20 (.array .int) true := ⟨RX7, TX7, 30, tyX7, rfl, by decide, gT_tb 620 rfl rfl, inX7, tyX7_ok, nmX7, by decide +kernel, rfl, rfl⟩
set_option maxRecDepth 20000 in
theorem fo_X7_55 : FO RX7 55 7 21 (.array .int) true := ⟨RX7, TX7, 30, tyX7, rfl, by decide, gT_tb 621 rfl rfl, inX7, tyX7_ok, nmX7, by decide +kernel, rfl, rfl⟩
set_option maxRecDepth 20000 in
theorem fo_X7_112 : FO RX7 112 7 22 .int false := ⟨RX7, TX7, 30, tyX7, rfl, by decide, gT_tb 622 rfl rfl, inX7, tyX7_ok, nmX7, by decide +kernel, rfl, rfl⟩
set_option maxRecDepth 20000 in
theorem fo_X7_115 : FO RX7 115 7 23 .int false := ⟨RX7, TX7, 30, tyX7, rfl, by decide, gT_tb 623 rfl rfl, inX7, tyX7_ok, nmX7, by decide +kernel, rfl, rfl⟩
set_option maxRecDepth 20000 in
theorem fo_X7_118 : FO RX7 118 7 24 .int false := ⟨RX7, TX7, 30, tyX7, rfl, by decide, gT_tb 624 rfl rfl, inX7, tyX7_ok, nmX7, by decide +kernel, rfl, rfl⟩
set_option maxRecDepth 20000 in
theorem fo_X7_131 : FO RX7 131 7 25 .int false := ⟨RX7, TX7, 30, tyX7, rfl, by decide, gT_tb 625 rfl rfl, inX7, tyX7_ok, nmX7, by decide +kernel, rfl, rfl⟩
set_option maxRecDepth 20000 in
theorem fo_X7_134 : FO RX7 134 7 26 .int false := ⟨RX7, TX7, 30, tyX7, rfl, by decide, gT_tb 626 rfl rfl, inX7, tyX7_ok, nmX7, by decide +kernel, rfl, rfl⟩
set_option maxRecDepth 20000 in
theorem fo_X7_137 : FO RX7 137 7 27 .int false := ⟨RX7, TX7, 30, tyX7, rfl, by decide, gT_tb 627 rfl rfl, inX7, tyX7_ok, nmX7, by decide +kernel, rfl, rfl⟩
set_option maxRecDepth 20000 in
theorem fo_X7_58 : FO RX7 58 7 28 (.array .int) true := ⟨RX7, TX7, 30, tyX7, rfl, by decide, gT_tb 628 rfl rfl, inX7, tyX7_ok, nmX7, by decide +kernel, rfl, rfl⟩
set_option maxRecDepth 20000 in
theorem fo_X7_61 : FO RX7 61 7 29 (.array .boolean) true := ⟨RX7, TX7, 30, tyX7, rfl, by decide, gT_tb 629 rfl rfl, inX7, tyX7_ok, nmX7, by decide +kernel, rfl, rfl⟩
theorem mc_X6_init : MC yX6_init cX6_init 1 none 0 := ⟨gT_tb 38 rfl rfl, gT_tb 24 rfl rfl, by decide +kernel, by decide⟩
theorem mc_X1_init : MC yX1_init cX1_init 3 none 0 := ⟨gT_tb 46 rfl rfl, gT_tb 25 rfl rfl, by decide +kernel, by decide⟩
theorem mc_X3_init : MC yX3_init cX3_init 1 none 0 := ⟨gT_tb 115 rfl rfl, gT_tb 26 rfl rfl, by decide +kernel, by decide⟩
theorem mc_X5_init : MC yX5_init cX5_init 2 none 1 := ⟨gT_tb 129 rfl rfl, gT_tb 27 rfl rfl, by decide +kernel, by decide⟩
theorem mc_X0_init : MC yX0_init cX0_init 2 none 1 := ⟨gT_tb 175 rfl rfl, gT_tb 28 rfl rfl, by decide +kernel, by decide⟩
theorem mc_X2_init : MC yX2_init cX2_init 2 none 1 := ⟨gT_tb 197 rfl rfl, gT_tb 29 rfl rfl, by decide +kernel, by decide⟩
theorem mc_X4_init : MC yX4_init cX4_init 2 none 0 := ⟨gT_tb 213 rfl rfl, gT_tb 30 rfl rfl, by decide +kernel, by decide⟩
theorem mc_X6_picture : MC yX6_picture cX6_picture 4 (some .int) 3 := ⟨gT_tb 266 rfl rfl, gT_tb 24 rfl rfl, by decide +kernel, by decide⟩
theorem mc_X6_isDrawing : MC yX6_isDrawing cX6_isDrawing 1 (some .boolean) 1 := ⟨gT_tb 269 rfl rfl, gT_tb 24 rfl rfl, by decide +kernel, by decide⟩
theorem mc_X6_within : MC yX6_within cX6_within 3 (some .boolean) 3 := ⟨gT_tb 273 rfl rfl, gT_tb 24 rfl rfl, by decide +kernel, by decide⟩
theorem mc_X6_isSpan : MC yX6_isSpan cX6_isSpan 4 (some .boolean) 4 := ⟨gT_tb 276 rfl rfl, gT_tb 24 rfl rfl, by decide +kernel, by decide⟩
theorem mc_X5_forget : MC yX5_forget cX5_forget 1 none 0 := ⟨gT_tb 280 rfl rfl, gT_tb 27 rfl rfl, by decide +kernel, by decide⟩
theorem mc_X1_addPicture : MC yX1_addPicture cX1_addPicture 5 (some .int) 3 := ⟨gT_tb 284 rfl rfl, gT_tb 25 rfl rfl, by decide +kernel, by decide⟩
theorem mc_X6_about : MC yX6_about cX6_about 3 (some .int) 2 := ⟨gT_tb 288 rfl rfl, gT_tb 24 rfl rfl, by decide +kernel, by decide⟩
theorem mc_X1_hasPicture : MC yX1_hasPicture cX1_hasPicture 2 (some .boolean) 1 := ⟨gT_tb 292 rfl rfl, gT_tb 25 rfl rfl, by decide +kernel, by decide⟩
theorem mc_X1_widthOrNone : MC yX1_widthOrNone cX1_widthOrNone 2 (some .int) 1 := ⟨gT_tb 296 rfl rfl, gT_tb 25 rfl rfl, by decide +kernel, by decide⟩
set_option maxRecDepth 20000 in
theorem mc_X6_set : MC yX6_set cX6_set 5 (some .int) 2 := ⟨gT_tb 300 rfl rfl, gT_tb 24 rfl rfl, by decide +kernel, by decide⟩
set_option maxRecDepth 20000 in
theorem mc_X6_say : MC yX6_say cX6_say 2 (some .int) 1 := ⟨gT_tb 304 rfl rfl, gT_tb 24 rfl rfl, by decide +kernel, by decide⟩
set_option maxRecDepth 20000 in
theorem mc_X3_append : MC yX3_append cX3_append 2 none 1 := ⟨gT_tb 308 rfl rfl, gT_tb 26 rfl rfl, by decide +kernel, by decide⟩
set_option maxRecDepth 20000 in
theorem mc_X6_wipe : MC yX6_wipe cX6_wipe 2 (some .int) 0 := ⟨gT_tb 312 rfl rfl, gT_tb 24 rfl rfl, by decide +kernel, by decide⟩
set_option maxRecDepth 20000 in
theorem mc_X6_fault : MC yX6_fault cX6_fault 1 (some .int) 0 := ⟨gT_tb 316 rfl rfl, gT_tb 24 rfl rfl, by decide +kernel, by decide⟩
set_option maxRecDepth 20000 in
theorem mc_X3_faultPlace : MC yX3_faultPlace cX3_faultPlace 3 (some .int) 0 := ⟨gT_tb 320 rfl rfl, gT_tb 26 rfl rfl, by decide +kernel, by decide⟩
set_option maxRecDepth 20000 in
theorem mc_X3_placeAfter : MC yX3_placeAfter cX3_placeAfter 2 (some .int) 2 := ⟨gT_tb 323 rfl rfl, gT_tb 26 rfl rfl, by decide +kernel, by decide⟩
set_option maxRecDepth 20000 in
theorem mc_X3_isDigit : MC yX3_isDigit cX3_isDigit 1 (some .boolean) 1 := ⟨gT_tb 327 rfl rfl, gT_tb 26 rfl rfl, by decide +kernel, by decide⟩
set_option maxRecDepth 20000 in
theorem mc_X3_afterLine : MC yX3_afterLine cX3_afterLine 1 (some .int) 1 := ⟨gT_tb 330 rfl rfl, gT_tb 26 rfl rfl, by decide +kernel, by decide⟩
set_option maxRecDepth 20000 in
theorem mc_X6_law : MC yX6_law cX6_law 1 (some .int) 0 := ⟨gT_tb 334 rfl rfl, gT_tb 24 rfl rfl, by decide +kernel, by decide⟩
set_option maxRecDepth 20000 in
theorem mc_X3_readInto : MC yX3_readInto cX3_readInto 10 (some .int) 1 := ⟨gT_tb 338 rfl rfl, gT_tb 26 rfl rfl, by decide +kernel, by decide⟩
set_option maxRecDepth 20000 in
theorem mc_X3_fill : MC yX3_fill cX3_fill 6 none 4 := ⟨gT_tb 341 rfl rfl, gT_tb 26 rfl rfl, by decide +kernel, by decide⟩
set_option maxRecDepth 20000 in
theorem mc_X3_fits : MC yX3_fits cX3_fits 2 (some .boolean) 2 := ⟨gT_tb 344 rfl rfl, gT_tb 26 rfl rfl, by decide +kernel, by decide⟩
set_option maxRecDepth 20000 in
theorem mc_X6_slip : MC yX6_slip cX6_slip 3 (some .int) 2 := ⟨gT_tb 348 rfl rfl, gT_tb 24 rfl rfl, by decide +kernel, by decide⟩
set_option maxRecDepth 20000 in
theorem mc_X6_cost : MC yX6_cost cX6_cost 3 (some .int) 2 := ⟨gT_tb 352 rfl rfl, gT_tb 24 rfl rfl, by decide +kernel, by decide⟩
set_option maxRecDepth 20000 in
theorem mc_X1_tracingCost : MC yX1_tracingCost cX1_tracingCost 5 (some .int) 2 := ⟨gT_tb 356 rfl rfl, gT_tb 25 rfl rfl, by decide +kernel, by decide⟩
set_option maxRecDepth 20000 in
theorem mc_X6_strokeOf : MC yX6_strokeOf cX6_strokeOf 2 (some .int) 2 := ⟨gT_tb 359 rfl rfl, gT_tb 24 rfl rfl, by decide +kernel, by decide⟩
set_option maxRecDepth 20000 in
theorem mc_X6_least : MC yX6_least cX6_least 2 (some .int) 1 := ⟨gT_tb 363 rfl rfl, gT_tb 24 rfl rfl, by decide +kernel, by decide⟩
set_option maxRecDepth 20000 in
theorem mc_X5_learn : MC yX5_learn cX5_learn 3 none 0 := ⟨gT_tb 367 rfl rfl, gT_tb 27 rfl rfl, by decide +kernel, by decide⟩
set_option maxRecDepth 20000 in
theorem mc_X5_makeRoom : MC yX5_makeRoom cX5_makeRoom 4 none 1 := ⟨gT_tb 371 rfl rfl, gT_tb 27 rfl rfl, by decide +kernel, by decide⟩
set_option maxRecDepth 20000 in
theorem mc_X5_grow : MC yX5_grow cX5_grow 5 none 4 := ⟨gT_tb 375 rfl rfl, gT_tb 27 rfl rfl, by decide +kernel, by decide⟩
set_option maxRecDepth 20000 in
theorem mc_X5_put : MC yX5_put cX5_put 3 none 2 := ⟨gT_tb 379 rfl rfl, gT_tb 27 rfl rfl, by decide +kernel, by decide⟩
set_option maxRecDepth 20000 in
theorem mc_X5_comesFrom : MC yX5_comesFrom cX5_comesFrom 5 (some .boolean) 2 := ⟨gT_tb 383 rfl rfl, gT_tb 27 rfl rfl, by decide +kernel, by decide⟩
set_option maxRecDepth 20000 in
theorem mc_X5_countWithin : MC yX5_countWithin cX5_countWithin 4 (some .int) 1 := ⟨gT_tb 390 rfl rfl, gT_tb 27 rfl rfl, by decide +kernel, by decide⟩
set_option maxRecDepth 20000 in
theorem mc_X6_kept : MC yX6_kept cX6_kept 5 (some .int) 3 := ⟨gT_tb 394 rfl rfl, gT_tb 24 rfl rfl, by decide +kernel, by decide⟩
set_option maxRecDepth 20000 in
theorem mc_X5_placeOfKept : MC yX5_placeOfKept cX5_placeOfKept 5 (some .int) 2 := ⟨gT_tb 398 rfl rfl, gT_tb 27 rfl rfl, by decide +kernel, by decide⟩
set_option maxRecDepth 20000 in
theorem mc_X5_sourceIn : MC yX5_sourceIn cX5_sourceIn 2 (some .int) 2 := ⟨gT_tb 401 rfl rfl, gT_tb 27 rfl rfl, by decide +kernel, by decide⟩
set_option maxRecDepth 20000 in
theorem mc_X6_sure : MC yX6_sure cX6_sure 3 (some .int) 2 := ⟨gT_tb 405 rfl rfl, gT_tb 24 rfl rfl, by decide +kernel, by decide⟩
set_option maxRecDepth 20000 in
theorem mc_X5_alwaysFrom : MC yX5_alwaysFrom cX5_alwaysFrom 5 (some .int) 2 := ⟨gT_tb 409 rfl rfl, gT_tb 27 rfl rfl, by decide +kernel, by decide⟩
set_option maxRecDepth 20000 in
theorem mc_X5_tracedFrom : MC yX5_tracedFrom cX5_tracedFrom 5 (some .int) 2 := ⟨gT_tb 413 rfl rfl, gT_tb 27 rfl rfl, by decide +kernel, by decide⟩
set_option maxRecDepth 20000 in
theorem mc_X6_lost : MC yX6_lost cX6_lost 7 (some .int) 3 := ⟨gT_tb 418 rfl rfl, gT_tb 24 rfl rfl, by decide +kernel, by decide⟩
set_option maxRecDepth 20000 in
theorem mc_X6_hasBit : MC yX6_hasBit cX6_hasBit 2 (some .boolean) 2 := ⟨gT_tb 421 rfl rfl, gT_tb 24 rfl rfl, by decide +kernel, by decide⟩
set_option maxRecDepth 20000 in
theorem mc_X1_lostDrawing : MC yX1_lostDrawing cX1_lostDrawing 9 (some .int) 2 := ⟨gT_tb 425 rfl rfl, gT_tb 25 rfl rfl, by decide +kernel, by decide⟩
set_option maxRecDepth 20000 in
theorem mc_X1_lostStrokeCost : MC yX1_lostStrokeCost cX1_lostStrokeCost 7 (some .int) 4 := ⟨gT_tb 429 rfl rfl, gT_tb 25 rfl rfl, by decide +kernel, by decide⟩
set_option maxRecDepth 20000 in
theorem mc_X1_throughCost : MC yX1_throughCost cX1_throughCost 6 (some .int) 3 := ⟨gT_tb 434 rfl rfl, gT_tb 25 rfl rfl, by decide +kernel, by decide⟩
set_option maxRecDepth 20000 in
theorem mc_X1_straightCost : MC yX1_straightCost cX1_straightCost 5 (some .int) 2 := ⟨gT_tb 439 rfl rfl, gT_tb 25 rfl rfl, by decide +kernel, by decide⟩
set_option maxRecDepth 20000 in
theorem mc_X6_width : MC yX6_width cX6_width 4 (some .int) 2 := ⟨gT_tb 443 rfl rfl, gT_tb 24 rfl rfl, by decide +kernel, by decide⟩
set_option maxRecDepth 20000 in
theorem mc_X6_spread : MC yX6_spread cX6_spread 5 (some .int) 3 := ⟨gT_tb 447 rfl rfl, gT_tb 24 rfl rfl, by decide +kernel, by decide⟩
set_option maxRecDepth 20000 in
theorem mc_X6_aged : MC yX6_aged cX6_aged 3 (some .int) 2 := ⟨gT_tb 451 rfl rfl, gT_tb 24 rfl rfl, by decide +kernel, by decide⟩
set_option maxRecDepth 20000 in
theorem mc_X0_measure : MC yX0_measure cX0_measure 4 none 1 := ⟨gT_tb 455 rfl rfl, gT_tb 28 rfl rfl, by decide +kernel, by decide⟩
set_option maxRecDepth 20000 in
theorem mc_X0_canReach : MC yX0_canReach cX0_canReach 5 (some .boolean) 2 := ⟨gT_tb 459 rfl rfl, gT_tb 28 rfl rfl, by decide +kernel, by decide⟩
set_option maxRecDepth 20000 in
theorem mc_X6_take : MC yX6_take cX6_take 4 (some .int) 1 := ⟨gT_tb 464 rfl rfl, gT_tb 24 rfl rfl, by decide +kernel, by decide⟩
set_option maxRecDepth 20000 in
theorem mc_X6_hide : MC yX6_hide cX6_hide 6 (some .int) 3 := ⟨gT_tb 472 rfl rfl, gT_tb 24 rfl rfl, by decide +kernel, by decide⟩
set_option maxRecDepth 20000 in
theorem mc_X6_hides : MC yX6_hides cX6_hides 3 (some .int) 2 := ⟨gT_tb 476 rfl rfl, gT_tb 24 rfl rfl, by decide +kernel, by decide⟩
set_option maxRecDepth 20000 in
theorem mc_X1_hiddenBy : MC yX1_hiddenBy cX1_hiddenBy 5 (some .int) 1 := ⟨gT_tb 480 rfl rfl, gT_tb 25 rfl rfl, by decide +kernel, by decide⟩
set_option maxRecDepth 20000 in
theorem mc_X6_inkOf : MC yX6_inkOf cX6_inkOf 4 (some .int) 1 := ⟨gT_tb 483 rfl rfl, gT_tb 24 rfl rfl, by decide +kernel, by decide⟩
set_option maxRecDepth 20000 in
theorem mc_X6_cover : MC yX6_cover cX6_cover 2 (some .int) 1 := ⟨gT_tb 488 rfl rfl, gT_tb 24 rfl rfl, by decide +kernel, by decide⟩
set_option maxRecDepth 20000 in
theorem mc_X6_strokesIn : MC yX6_strokesIn cX6_strokesIn 3 (some .int) 1 := ⟨gT_tb 491 rfl rfl, gT_tb 24 rfl rfl, by decide +kernel, by decide⟩
set_option maxRecDepth 20000 in
theorem mc_X2_leastOver : MC yX2_leastOver cX2_leastOver 2 (some .int) 1 := ⟨gT_tb 495 rfl rfl, gT_tb 29 rfl rfl, by decide +kernel, by decide⟩
set_option maxRecDepth 20000 in
theorem mc_X2_search : MC yX2_search cX2_search 6 none 5 := ⟨gT_tb 498 rfl rfl, gT_tb 29 rfl rfl, by decide +kernel, by decide⟩
set_option maxRecDepth 20000 in
theorem mc_X6_under : MC yX6_under cX6_under 5 (some .int) 1 := ⟨gT_tb 502 rfl rfl, gT_tb 24 rfl rfl, by decide +kernel, by decide⟩
set_option maxRecDepth 20000 in
theorem mc_X6_mayLieUnder : MC yX6_mayLieUnder cX6_mayLieUnder 5 (some .boolean) 3 := ⟨gT_tb 505 rfl rfl, gT_tb 24 rfl rfl, by decide +kernel, by decide⟩
set_option maxRecDepth 20000 in
theorem mc_X6_man : MC yX6_man cX6_man 1 (some .int) 0 := ⟨gT_tb 509 rfl rfl, gT_tb 24 rfl rfl, by decide +kernel, by decide⟩
set_option maxRecDepth 20000 in
theorem mc_X6_meet : MC yX6_meet cX6_meet 3 (some .int) 2 := ⟨gT_tb 513 rfl rfl, gT_tb 24 rfl rfl, by decide +kernel, by decide⟩
set_option maxRecDepth 20000 in
theorem mc_X4_hasMan : MC yX4_hasMan cX4_hasMan 2 (some .boolean) 1 := ⟨gT_tb 517 rfl rfl, gT_tb 30 rfl rfl, by decide +kernel, by decide⟩
set_option maxRecDepth 20000 in
theorem mc_X4_lastDay : MC yX4_lastDay cX4_lastDay 1 (some .int) 0 := ⟨gT_tb 521 rfl rfl, gT_tb 30 rfl rfl, by decide +kernel, by decide⟩
set_option maxRecDepth 20000 in
theorem mc_X4_addMeeting : MC yX4_addMeeting cX4_addMeeting 4 (some .int) 2 := ⟨gT_tb 525 rfl rfl, gT_tb 30 rfl rfl, by decide +kernel, by decide⟩
set_option maxRecDepth 20000 in
theorem mc_X6_sick : MC yX6_sick cX6_sick 4 (some .int) 2 := ⟨gT_tb 529 rfl rfl, gT_tb 24 rfl rfl, by decide +kernel, by decide⟩
set_option maxRecDepth 20000 in
theorem mc_X6_from : MC yX6_from cX6_from 2 (some .int) 1 := ⟨gT_tb 533 rfl rfl, gT_tb 24 rfl rfl, by decide +kernel, by decide⟩
set_option maxRecDepth 20000 in
theorem mc_X4_giversOf : MC yX4_giversOf cX4_giversOf 9 (some .int) 3 := ⟨gT_tb 537 rfl rfl, gT_tb 30 rfl rfl, by decide +kernel, by decide⟩
set_option maxRecDepth 20000 in
theorem mc_X4_couldGive : MC yX4_couldGive cX4_couldGive 6 (some .boolean) 4 := ⟨gT_tb 542 rfl rfl, gT_tb 30 rfl rfl, by decide +kernel, by decide⟩
set_option maxRecDepth 20000 in
theorem mc_X6_firsts : MC yX6_firsts cX6_firsts 2 (some .int) 1 := ⟨gT_tb 546 rfl rfl, gT_tb 24 rfl rfl, by decide +kernel, by decide⟩
set_option maxRecDepth 20000 in
theorem mc_X4_sickMen : MC yX4_sickMen cX4_sickMen 3 (some .int) 0 := ⟨gT_tb 550 rfl rfl, gT_tb 30 rfl rfl, by decide +kernel, by decide⟩
set_option maxRecDepth 20000 in
theorem mc_X4_trace : MC yX4_trace cX4_trace 5 none 2 := ⟨gT_tb 554 rfl rfl, gT_tb 30 rfl rfl, by decide +kernel, by decide⟩
set_option maxRecDepth 20000 in
theorem mc_X6_must : MC yX6_must cX6_must 3 (some .int) 2 := ⟨gT_tb 561 rfl rfl, gT_tb 24 rfl rfl, by decide +kernel, by decide⟩
set_option maxRecDepth 20000 in
theorem mc_X4_onAllPathsTo : MC yX4_onAllPathsTo cX4_onAllPathsTo 5 (some .int) 1 := ⟨gT_tb 565 rfl rfl, gT_tb 30 rfl rfl, by decide +kernel, by decide⟩
set_option maxRecDepth 20000 in
theorem mc_X4_shortestPathTo : MC yX4_shortestPathTo cX4_shortestPathTo 5 (some .int) 2 := ⟨gT_tb 569 rfl rfl, gT_tb 30 rfl rfl, by decide +kernel, by decide⟩
set_option maxRecDepth 20000 in
theorem mc_X4_nextTo : MC yX4_nextTo cX4_nextTo 4 (some .int) 1 := ⟨gT_tb 573 rfl rfl, gT_tb 30 rfl rfl, by decide +kernel, by decide⟩
set_option maxRecDepth 20000 in
theorem mc_X6_image : MC yX6_image cX6_image 3 (some .int) 1 := ⟨gT_tb 578 rfl rfl, gT_tb 24 rfl rfl, by decide +kernel, by decide⟩
set_option maxRecDepth 20000 in
theorem mc_X1_copyOf : MC yX1_copyOf cX1_copyOf 3 none 1 := ⟨gT_tb 582 rfl rfl, gT_tb 25 rfl rfl, by decide +kernel, by decide⟩
set_option maxRecDepth 20000 in
theorem mc_X6_restore : MC yX6_restore cX6_restore 3 (some .int) 1 := ⟨gT_tb 589 rfl rfl, gT_tb 24 rfl rfl, by decide +kernel, by decide⟩
set_option maxRecDepth 20000 in
theorem mc_X6_told : MC yX6_told cX6_told 2 (some .int) 1 := ⟨gT_tb 593 rfl rfl, gT_tb 24 rfl rfl, by decide +kernel, by decide⟩
set_option maxRecDepth 20000 in
theorem mc_X7_init : MC yX7_init cX7_init 2 none 0 := ⟨gT_tb 598 rfl rfl, gT_tb 31 rfl rfl, by decide +kernel, by decide⟩
set_option maxRecDepth 20000 in
theorem mc_X7_picture : MC yX7_picture cX7_picture 4 (some .int) 3 := ⟨gT_tb 694 rfl rfl, gT_tb 31 rfl rfl, by decide +kernel, by decide⟩
set_option maxRecDepth 20000 in
theorem mc_X7_isDrawing : MC yX7_isDrawing cX7_isDrawing 1 (some .boolean) 1 := ⟨gT_tb 697 rfl rfl, gT_tb 31 rfl rfl, by decide +kernel, by decide⟩
set_option maxRecDepth 20000 in
theorem mc_X7_in : MC yX7_in cX7_in 3 (some .boolean) 3 := ⟨gT_tb 701 rfl rfl, gT_tb 31 rfl rfl, by decide +kernel, by decide⟩
set_option maxRecDepth 20000 in
theorem mc_X7_isYear : MC yX7_isYear cX7_isYear 1 (some .boolean) 1 := ⟨gT_tb 704 rfl rfl, gT_tb 31 rfl rfl, by decide +kernel, by decide⟩
set_option maxRecDepth 20000 in
theorem mc_X7_about : MC yX7_about cX7_about 3 (some .int) 2 := ⟨gT_tb 708 rfl rfl, gT_tb 31 rfl rfl, by decide +kernel, by decide⟩
set_option maxRecDepth 20000 in
theorem mc_X7_isPicture : MC yX7_isPicture cX7_isPicture 2 (some .boolean) 1 := ⟨gT_tb 712 rfl rfl, gT_tb 31 rfl rfl, by decide +kernel, by decide⟩
set_option maxRecDepth 20000 in
theorem mc_X7_set : MC yX7_set cX7_set 4 (some .int) 2 := ⟨gT_tb 716 rfl rfl, gT_tb 31 rfl rfl, by decide +kernel, by decide⟩
set_option maxRecDepth 20000 in
theorem mc_X7_say : MC yX7_say cX7_say 2 (some .int) 1 := ⟨gT_tb 720 rfl rfl, gT_tb 31 rfl rfl, by decide +kernel, by decide⟩
set_option maxRecDepth 20000 in
theorem mc_X7_wipe : MC yX7_wipe cX7_wipe 2 (some .int) 0 := ⟨gT_tb 724 rfl rfl, gT_tb 31 rfl rfl, by decide +kernel, by decide⟩
set_option maxRecDepth 20000 in
theorem mc_X7_fault : MC yX7_fault cX7_fault 1 (some .int) 0 := ⟨gT_tb 728 rfl rfl, gT_tb 31 rfl rfl, by decide +kernel, by decide⟩
set_option maxRecDepth 20000 in
theorem mc_X7_faultOf : MC yX7_faultOf cX7_faultOf 5 (some .int) 0 := ⟨gT_tb 732 rfl rfl, gT_tb 31 rfl rfl, by decide +kernel, by decide⟩
set_option maxRecDepth 20000 in
theorem mc_X7_law : MC yX7_law cX7_law 2 (some .int) 0 := ⟨gT_tb 736 rfl rfl, gT_tb 31 rfl rfl, by decide +kernel, by decide⟩
set_option maxRecDepth 20000 in
theorem mc_X7_lines : MC yX7_lines cX7_lines 3 (some .int) 0 := ⟨gT_tb 740 rfl rfl, gT_tb 31 rfl rfl, by decide +kernel, by decide⟩
set_option maxRecDepth 20000 in
theorem mc_X7_slip : MC yX7_slip cX7_slip 3 (some .int) 2 := ⟨gT_tb 744 rfl rfl, gT_tb 31 rfl rfl, by decide +kernel, by decide⟩
set_option maxRecDepth 20000 in
theorem mc_X7_laySlips : MC yX7_laySlips cX7_laySlips 8 none 0 := ⟨gT_tb 748 rfl rfl, gT_tb 31 rfl rfl, by decide +kernel, by decide⟩
set_option maxRecDepth 20000 in
theorem mc_X7_cost : MC yX7_cost cX7_cost 3 (some .int) 2 := ⟨gT_tb 752 rfl rfl, gT_tb 31 rfl rfl, by decide +kernel, by decide⟩
set_option maxRecDepth 20000 in
theorem mc_X7_costOf : MC yX7_costOf cX7_costOf 5 (some .int) 2 := ⟨gT_tb 756 rfl rfl, gT_tb 31 rfl rfl, by decide +kernel, by decide⟩
set_option maxRecDepth 20000 in
theorem mc_X7_strokeOf : MC yX7_strokeOf cX7_strokeOf 2 (some .int) 2 := ⟨gT_tb 759 rfl rfl, gT_tb 31 rfl rfl, by decide +kernel, by decide⟩
set_option maxRecDepth 20000 in
theorem mc_X7_least : MC yX7_least cX7_least 2 (some .int) 1 := ⟨gT_tb 763 rfl rfl, gT_tb 31 rfl rfl, by decide +kernel, by decide⟩
set_option maxRecDepth 20000 in
theorem mc_X7_layTrees : MC yX7_layTrees cX7_layTrees 4 none 0 := ⟨gT_tb 767 rfl rfl, gT_tb 31 rfl rfl, by decide +kernel, by decide⟩
set_option maxRecDepth 20000 in
theorem mc_X7_rows : MC yX7_rows cX7_rows 3 (some .int) 0 := ⟨gT_tb 772 rfl rfl, gT_tb 31 rfl rfl, by decide +kernel, by decide⟩
set_option maxRecDepth 20000 in
theorem mc_X7_layRow : MC yX7_layRow cX7_layRow 7 (some .int) 1 := ⟨gT_tb 776 rfl rfl, gT_tb 31 rfl rfl, by decide +kernel, by decide⟩
set_option maxRecDepth 20000 in
theorem mc_X7_kept : MC yX7_kept cX7_kept 8 (some .int) 3 := ⟨gT_tb 780 rfl rfl, gT_tb 31 rfl rfl, by decide +kernel, by decide⟩
set_option maxRecDepth 20000 in
theorem mc_X7_sure : MC yX7_sure cX7_sure 7 (some .int) 2 := ⟨gT_tb 784 rfl rfl, gT_tb 31 rfl rfl, by decide +kernel, by decide⟩
set_option maxRecDepth 20000 in
theorem mc_X7_lost : MC yX7_lost cX7_lost 12 (some .int) 3 := ⟨gT_tb 788 rfl rfl, gT_tb 31 rfl rfl, by decide +kernel, by decide⟩
set_option maxRecDepth 20000 in
theorem mc_X7_width : MC yX7_width cX7_width 4 (some .int) 2 := ⟨gT_tb 792 rfl rfl, gT_tb 31 rfl rfl, by decide +kernel, by decide⟩
set_option maxRecDepth 20000 in
theorem mc_X7_spread : MC yX7_spread cX7_spread 5 (some .int) 3 := ⟨gT_tb 796 rfl rfl, gT_tb 31 rfl rfl, by decide +kernel, by decide⟩
set_option maxRecDepth 20000 in
theorem mc_X7_aged : MC yX7_aged cX7_aged 3 (some .int) 2 := ⟨gT_tb 800 rfl rfl, gT_tb 31 rfl rfl, by decide +kernel, by decide⟩
set_option maxRecDepth 20000 in
theorem mc_X7_layAged : MC yX7_layAged cX7_layAged 6 none 1 := ⟨gT_tb 804 rfl rfl, gT_tb 31 rfl rfl, by decide +kernel, by decide⟩
set_option maxRecDepth 20000 in
theorem mc_X7_take : MC yX7_take cX7_take 4 (some .int) 1 := ⟨gT_tb 808 rfl rfl, gT_tb 31 rfl rfl, by decide +kernel, by decide⟩
set_option maxRecDepth 20000 in
theorem mc_X7_hide : MC yX7_hide cX7_hide 5 (some .int) 3 := ⟨gT_tb 812 rfl rfl, gT_tb 31 rfl rfl, by decide +kernel, by decide⟩
set_option maxRecDepth 20000 in
theorem mc_X7_hides : MC yX7_hides cX7_hides 3 (some .int) 2 := ⟨gT_tb 816 rfl rfl, gT_tb 31 rfl rfl, by decide +kernel, by decide⟩
set_option maxRecDepth 20000 in
theorem mc_X7_hidden : MC yX7_hidden cX7_hidden 5 (some .int) 1 := ⟨gT_tb 820 rfl rfl, gT_tb 31 rfl rfl, by decide +kernel, by decide⟩
set_option maxRecDepth 20000 in
theorem mc_X7_ink : MC yX7_ink cX7_ink 4 (some .int) 1 := ⟨gT_tb 823 rfl rfl, gT_tb 31 rfl rfl, by decide +kernel, by decide⟩
set_option maxRecDepth 20000 in
theorem mc_X7_cover : MC yX7_cover cX7_cover 9 (some .int) 1 := ⟨gT_tb 827 rfl rfl, gT_tb 31 rfl rfl, by decide +kernel, by decide⟩
set_option maxRecDepth 20000 in
theorem mc_X7_under : MC yX7_under cX7_under 8 (some .int) 1 := ⟨gT_tb 831 rfl rfl, gT_tb 31 rfl rfl, by decide +kernel, by decide⟩
set_option maxRecDepth 20000 in
theorem mc_X7_man : MC yX7_man cX7_man 1 (some .int) 0 := ⟨gT_tb 835 rfl rfl, gT_tb 31 rfl rfl, by decide +kernel, by decide⟩
set_option maxRecDepth 20000 in
theorem mc_X7_meet : MC yX7_meet cX7_meet 3 (some .int) 2 := ⟨gT_tb 839 rfl rfl, gT_tb 31 rfl rfl, by decide +kernel, by decide⟩
set_option maxRecDepth 20000 in
theorem mc_X7_isMan : MC yX7_isMan cX7_isMan 2 (some .boolean) 1 := ⟨gT_tb 843 rfl rfl, gT_tb 31 rfl rfl, by decide +kernel, by decide⟩
set_option maxRecDepth 20000 in
theorem mc_X7_sick : MC yX7_sick cX7_sick 4 (some .int) 2 := ⟨gT_tb 847 rfl rfl, gT_tb 31 rfl rfl, by decide +kernel, by decide⟩
set_option maxRecDepth 20000 in
theorem mc_X7_from : MC yX7_from cX7_from 2 (some .int) 1 := ⟨gT_tb 851 rfl rfl, gT_tb 31 rfl rfl, by decide +kernel, by decide⟩
set_option maxRecDepth 20000 in
theorem mc_X7_fromOf : MC yX7_fromOf cX7_fromOf 8 (some .int) 1 := ⟨gT_tb 855 rfl rfl, gT_tb 31 rfl rfl, by decide +kernel, by decide⟩
set_option maxRecDepth 20000 in
theorem mc_X7_firsts : MC yX7_firsts cX7_firsts 2 (some .int) 1 := ⟨gT_tb 859 rfl rfl, gT_tb 31 rfl rfl, by decide +kernel, by decide⟩
set_option maxRecDepth 20000 in
theorem mc_X7_firstSet : MC yX7_firstSet cX7_firstSet 3 (some .int) 0 := ⟨gT_tb 863 rfl rfl, gT_tb 31 rfl rfl, by decide +kernel, by decide⟩
set_option maxRecDepth 20000 in
theorem mc_X7_sickSet : MC yX7_sickSet cX7_sickSet 3 (some .int) 0 := ⟨gT_tb 867 rfl rfl, gT_tb 31 rfl rfl, by decide +kernel, by decide⟩
set_option maxRecDepth 20000 in
theorem mc_X7_must : MC yX7_must cX7_must 6 (some .int) 2 := ⟨gT_tb 871 rfl rfl, gT_tb 31 rfl rfl, by decide +kernel, by decide⟩
set_option maxRecDepth 20000 in
theorem mc_X7_pathTo : MC yX7_pathTo cX7_pathTo 7 (some .int) 2 := ⟨gT_tb 875 rfl rfl, gT_tb 31 rfl rfl, by decide +kernel, by decide⟩
set_option maxRecDepth 20000 in
theorem mc_X7_image : MC yX7_image cX7_image 4 (some .int) 1 := ⟨gT_tb 879 rfl rfl, gT_tb 31 rfl rfl, by decide +kernel, by decide⟩
set_option maxRecDepth 20000 in
theorem mc_X7_restore : MC yX7_restore cX7_restore 4 (some .int) 1 := ⟨gT_tb 883 rfl rfl, gT_tb 31 rfl rfl, by decide +kernel, by decide⟩
set_option maxRecDepth 20000 in
theorem mc_X7_told : MC yX7_told cX7_told 2 (some .int) 1 := ⟨gT_tb 887 rfl rfl, gT_tb 31 rfl rfl, by decide +kernel, by decide⟩
theorem mo_L_9 : MI RL 9 yX6_init cX6_init 1 0 := ⟨mc_X6_init, gT_tb 37 rfl rfl, rfl, Or.inl (gT_tb 36 rfl rfl)⟩
theorem mo_X6_9 : MI RX6 9 yX1_init cX1_init 3 0 := ⟨mc_X1_init, gT_tb 45 rfl rfl, rfl, Or.inl (gT_tb 44 rfl rfl)⟩
theorem mo_X6_22 : MI RX6 22 yX3_init cX3_init 1 0 := ⟨mc_X3_init, gT_tb 114 rfl rfl, rfl, Or.inr (by decide +kernel)⟩
theorem mo_X6_29 : MI RX6 29 yX5_init cX5_init 2 1 := ⟨mc_X5_init, gT_tb 128 rfl rfl, rfl, Or.inl (gT_tb 127 rfl rfl)⟩
theorem mo_X6_38 : MI RX6 38 yX0_init cX0_init 2 1 := ⟨mc_X0_init, gT_tb 174 rfl rfl, rfl, Or.inl (gT_tb 173 rfl rfl)⟩
theorem mo_X6_45 : MI RX6 45 yX2_init cX2_init 2 1 := ⟨mc_X2_init, gT_tb 196 rfl rfl, rfl, Or.inl (gT_tb 195 rfl rfl)⟩
theorem mo_X6_52 : MI RX6 52 yX4_init cX4_init 2 0 := ⟨mc_X4_init, gT_tb 212 rfl rfl, rfl, Or.inl (gT_tb 211 rfl rfl)⟩
theorem mo_L_13 : MV RL 13 6 yX6_picture cX6_picture 4 (some .int) 3 := ⟨mc_X6_picture, gT_tb 264 rfl rfl, gT_tb 263 rfl rfl, RX6, TX6, 7, rfl, gT_tb 265 rfl rfl⟩
theorem mo_X6_57 : MS RX6 57 yX6_isDrawing cX6_isDrawing 1 (some .boolean) 1 := ⟨mc_X6_isDrawing, gT_tb 268 rfl rfl, Or.inl (gT_tb 267 rfl rfl)⟩
theorem mo_X6_93 : MS RX6 93 yX6_within cX6_within 3 (some .boolean) 3 := ⟨mc_X6_within, gT_tb 272 rfl rfl, Or.inl (gT_tb 271 rfl rfl)⟩
theorem mo_X6_61 : MS RX6 61 yX6_isSpan cX6_isSpan 4 (some .boolean) 4 := ⟨mc_X6_isSpan, gT_tb 275 rfl rfl, Or.inl (gT_tb 274 rfl rfl)⟩
theorem mo_X6_69 : MV RX6 69 5 yX5_forget cX5_forget 1 none 0 := ⟨mc_X5_forget, gT_tb 278 rfl rfl, gT_tb 277 rfl rfl, RX5, TX5, 11, rfl, gT_tb 279 rfl rfl⟩
theorem mo_X6_72 : MV RX6 72 1 yX1_addPicture cX1_addPicture 5 (some .int) 3 := ⟨mc_X1_addPicture, gT_tb 282 rfl rfl, gT_tb 281 rfl rfl, RX1, TX1, 12, rfl, gT_tb 283 rfl rfl⟩
theorem mo_L_18 : MV RL 18 6 yX6_about cX6_about 3 (some .int) 2 := ⟨mc_X6_about, gT_tb 286 rfl rfl, gT_tb 285 rfl rfl, RX6, TX6, 7, rfl, gT_tb 287 rfl rfl⟩
theorem mo_X6_76 : MV RX6 76 1 yX1_hasPicture cX1_hasPicture 2 (some .boolean) 1 := ⟨mc_X1_hasPicture, gT_tb 290 rfl rfl, gT_tb 289 rfl rfl, RX1, TX1, 12, rfl, gT_tb 291 rfl rfl⟩
theorem mo_X6_89 : MV RX6 89 1 yX1_widthOrNone cX1_widthOrNone 2 (some .int) 1 := ⟨mc_X1_widthOrNone, gT_tb 294 rfl rfl, gT_tb 293 rfl rfl, RX1, TX1, 12, rfl, gT_tb 295 rfl rfl⟩
theorem mo_L_23 : MV RL 23 6 yX6_set cX6_set 5 (some .int) 2 := ⟨mc_X6_set, gT_tb 298 rfl rfl, gT_tb 297 rfl rfl, RX6, TX6, 7, rfl, gT_tb 299 rfl rfl⟩
set_option maxRecDepth 20000 in
theorem mo_L_27 : MV RL 27 6 yX6_say cX6_say 2 (some .int) 1 := ⟨mc_X6_say, gT_tb 302 rfl rfl, gT_tb 301 rfl rfl, RX6, TX6, 7, rfl, gT_tb 303 rfl rfl⟩
set_option maxRecDepth 20000 in
theorem mo_X6_103 : MV RX6 103 3 yX3_append cX3_append 2 none 1 := ⟨mc_X3_append, gT_tb 306 rfl rfl, gT_tb 305 rfl rfl, RX3, TX3, 2, rfl, gT_tb 307 rfl rfl⟩
set_option maxRecDepth 20000 in
theorem mo_L_32 : MV RL 32 6 yX6_wipe cX6_wipe 2 (some .int) 0 := ⟨mc_X6_wipe, gT_tb 310 rfl rfl, gT_tb 309 rfl rfl, RX6, TX6, 7, rfl, gT_tb 311 rfl rfl⟩
set_option maxRecDepth 20000 in
theorem mo_L_37 : MV RL 37 6 yX6_fault cX6_fault 1 (some .int) 0 := ⟨mc_X6_fault, gT_tb 314 rfl rfl, gT_tb 313 rfl rfl, RX6, TX6, 7, rfl, gT_tb 315 rfl rfl⟩
set_option maxRecDepth 20000 in
theorem mo_X6_107 : MV RX6 107 3 yX3_faultPlace cX3_faultPlace 3 (some .int) 0 := ⟨mc_X3_faultPlace, gT_tb 318 rfl rfl, gT_tb 317 rfl rfl, RX3, TX3, 2, rfl, gT_tb 319 rfl rfl⟩
set_option maxRecDepth 20000 in
theorem mo_X3_19 : MS RX3 19 yX3_placeAfter cX3_placeAfter 2 (some .int) 2 := ⟨mc_X3_placeAfter, gT_tb 322 rfl rfl, Or.inl (gT_tb 321 rfl rfl)⟩
theorem mo_X3_23 : MS RX3 23 yX6_within cX6_within 3 (some .boolean) 3 := ⟨mc_X6_within, gT_tb 272 rfl rfl, Or.inr (by decide +kernel)⟩
set_option maxRecDepth 20000 in
theorem mo_X3_27 : MS RX3 27 yX3_isDigit cX3_isDigit 1 (some .boolean) 1 := ⟨mc_X3_isDigit, gT_tb 326 rfl rfl, Or.inl (gT_tb 325 rfl rfl)⟩
set_option maxRecDepth 20000 in
theorem mo_X3_31 : MS RX3 31 yX3_afterLine cX3_afterLine 1 (some .int) 1 := ⟨mc_X3_afterLine, gT_tb 329 rfl rfl, Or.inl (gT_tb 328 rfl rfl)⟩
set_option maxRecDepth 20000 in
theorem mo_L_41 : MV RL 41 6 yX6_law cX6_law 1 (some .int) 0 := ⟨mc_X6_law, gT_tb 332 rfl rfl, gT_tb 331 rfl rfl, RX6, TX6, 7, rfl, gT_tb 333 rfl rfl⟩
set_option maxRecDepth 20000 in
theorem mo_X6_115 : MV RX6 115 3 yX3_readInto cX3_readInto 10 (some .int) 1 := ⟨mc_X3_readInto, gT_tb 336 rfl rfl, gT_tb 335 rfl rfl, RX3, TX3, 2, rfl, gT_tb 337 rfl rfl⟩
set_option maxRecDepth 20000 in
theorem mo_X3_35 : MS RX3 35 yX3_fill cX3_fill 6 none 4 := ⟨mc_X3_fill, gT_tb 340 rfl rfl, Or.inl (gT_tb 339 rfl rfl)⟩
set_option maxRecDepth 20000 in
theorem mo_X3_39 : MS RX3 39 yX3_fits cX3_fits 2 (some .boolean) 2 := ⟨mc_X3_fits, gT_tb 343 rfl rfl, Or.inl (gT_tb 342 rfl rfl)⟩
set_option maxRecDepth 20000 in
theorem mo_L_45 : MV RL 45 6 yX6_slip cX6_slip 3 (some .int) 2 := ⟨mc_X6_slip, gT_tb 346 rfl rfl, gT_tb 345 rfl rfl, RX6, TX6, 7, rfl, gT_tb 347 rfl rfl⟩
set_option maxRecDepth 20000 in
theorem mo_L_49 : MV RL 49 6 yX6_cost cX6_cost 3 (some .int) 2 := ⟨mc_X6_cost, gT_tb 350 rfl rfl, gT_tb 349 rfl rfl, RX6, TX6, 7, rfl, gT_tb 351 rfl rfl⟩
set_option maxRecDepth 20000 in
theorem mo_X6_122 : MV RX6 122 1 yX1_tracingCost cX1_tracingCost 5 (some .int) 2 := ⟨mc_X1_tracingCost, gT_tb 354 rfl rfl, gT_tb 353 rfl rfl, RX1, TX1, 12, rfl, gT_tb 355 rfl rfl⟩
set_option maxRecDepth 20000 in
theorem mo_X1_57 : MS RX1 57 yX6_strokeOf cX6_strokeOf 2 (some .int) 2 := ⟨mc_X6_strokeOf, gT_tb 358 rfl rfl, Or.inr (by decide +kernel)⟩
set_option maxRecDepth 20000 in
theorem mo_L_53 : MV RL 53 6 yX6_least cX6_least 2 (some .int) 1 := ⟨mc_X6_least, gT_tb 361 rfl rfl, gT_tb 360 rfl rfl, RX6, TX6, 7, rfl, gT_tb 362 rfl rfl⟩
set_option maxRecDepth 20000 in
theorem mo_X6_126 : MV RX6 126 5 yX5_learn cX5_learn 3 none 0 := ⟨mc_X5_learn, gT_tb 365 rfl rfl, gT_tb 364 rfl rfl, RX5, TX5, 11, rfl, gT_tb 366 rfl rfl⟩
set_option maxRecDepth 20000 in
theorem mo_X5_54 : MV RX5 54 5 yX5_makeRoom cX5_makeRoom 4 none 1 := ⟨mc_X5_makeRoom, gT_tb 370 rfl rfl, gT_tb 368 rfl rfl, RX5, TX5, 11, rfl, gT_tb 0 rfl rfl⟩
set_option maxRecDepth 20000 in
theorem mo_X5_61 : MV RX5 61 1 yX1_tracingCost cX1_tracingCost 5 (some .int) 2 := ⟨mc_X1_tracingCost, gT_tb 354 rfl rfl, gT_tb 372 rfl rfl, RX1, TX1, 12, rfl, gT_tb 355 rfl rfl⟩
set_option maxRecDepth 20000 in
theorem mo_X5_71 : MS RX5 71 yX5_grow cX5_grow 5 none 4 := ⟨mc_X5_grow, gT_tb 374 rfl rfl, Or.inl (gT_tb 373 rfl rfl)⟩
set_option maxRecDepth 20000 in
theorem mo_X5_83 : MV RX5 83 5 yX5_put cX5_put 3 none 2 := ⟨mc_X5_put, gT_tb 378 rfl rfl, gT_tb 376 rfl rfl, RX5, TX5, 11, rfl, gT_tb 1 rfl rfl⟩
set_option maxRecDepth 20000 in
theorem mo_X5_87 : MV RX5 87 5 yX5_comesFrom cX5_comesFrom 5 (some .boolean) 2 := ⟨mc_X5_comesFrom, gT_tb 382 rfl rfl, gT_tb 380 rfl rfl, RX5, TX5, 11, rfl, gT_tb 2 rfl rfl⟩
set_option maxRecDepth 20000 in
theorem mo_X6_132 : MV RX6 132 5 yX5_countWithin cX5_countWithin 4 (some .int) 1 := ⟨mc_X5_countWithin, gT_tb 388 rfl rfl, gT_tb 387 rfl rfl, RX5, TX5, 11, rfl, gT_tb 389 rfl rfl⟩
set_option maxRecDepth 20000 in
theorem mo_L_57 : MV RL 57 6 yX6_kept cX6_kept 5 (some .int) 3 := ⟨mc_X6_kept, gT_tb 392 rfl rfl, gT_tb 391 rfl rfl, RX6, TX6, 7, rfl, gT_tb 393 rfl rfl⟩
set_option maxRecDepth 20000 in
theorem mo_X6_136 : MV RX6 136 5 yX5_placeOfKept cX5_placeOfKept 5 (some .int) 2 := ⟨mc_X5_placeOfKept, gT_tb 396 rfl rfl, gT_tb 395 rfl rfl, RX5, TX5, 11, rfl, gT_tb 397 rfl rfl⟩
set_option maxRecDepth 20000 in
theorem mo_X6_145 : MS RX6 145 yX5_sourceIn cX5_sourceIn 2 (some .int) 2 := ⟨mc_X5_sourceIn, gT_tb 400 rfl rfl, Or.inl (gT_tb 399 rfl rfl)⟩
set_option maxRecDepth 20000 in
theorem mo_L_61 : MV RL 61 6 yX6_sure cX6_sure 3 (some .int) 2 := ⟨mc_X6_sure, gT_tb 403 rfl rfl, gT_tb 402 rfl rfl, RX6, TX6, 7, rfl, gT_tb 404 rfl rfl⟩
set_option maxRecDepth 20000 in
theorem mo_X6_148 : MV RX6 148 5 yX5_alwaysFrom cX5_alwaysFrom 5 (some .int) 2 := ⟨mc_X5_alwaysFrom, gT_tb 407 rfl rfl, gT_tb 406 rfl rfl, RX5, TX5, 11, rfl, gT_tb 408 rfl rfl⟩
set_option maxRecDepth 20000 in
theorem mo_X5_91 : MV RX5 91 5 yX5_tracedFrom cX5_tracedFrom 5 (some .int) 2 := ⟨mc_X5_tracedFrom, gT_tb 412 rfl rfl, gT_tb 410 rfl rfl, RX5, TX5, 11, rfl, gT_tb 3 rfl rfl⟩
set_option maxRecDepth 20000 in
theorem mo_X5_94 : MS RX5 94 yX5_sourceIn cX5_sourceIn 2 (some .int) 2 := ⟨mc_X5_sourceIn, gT_tb 400 rfl rfl, Or.inl (gT_tb 414 rfl rfl)⟩
set_option maxRecDepth 20000 in
theorem mo_L_65 : MV RL 65 6 yX6_lost cX6_lost 7 (some .int) 3 := ⟨mc_X6_lost, gT_tb 416 rfl rfl, gT_tb 415 rfl rfl, RX6, TX6, 7, rfl, gT_tb 417 rfl rfl⟩
set_option maxRecDepth 20000 in
theorem mo_X6_151 : MS RX6 151 yX6_hasBit cX6_hasBit 2 (some .boolean) 2 := ⟨mc_X6_hasBit, gT_tb 420 rfl rfl, Or.inl (gT_tb 419 rfl rfl)⟩
set_option maxRecDepth 20000 in
theorem mo_X6_155 : MV RX6 155 1 yX1_lostDrawing cX1_lostDrawing 9 (some .int) 2 := ⟨mc_X1_lostDrawing, gT_tb 423 rfl rfl, gT_tb 422 rfl rfl, RX1, TX1, 12, rfl, gT_tb 424 rfl rfl⟩
set_option maxRecDepth 20000 in
theorem mo_X1_61 : MV RX1 61 1 yX1_lostStrokeCost cX1_lostStrokeCost 7 (some .int) 4 := ⟨mc_X1_lostStrokeCost, gT_tb 428 rfl rfl, gT_tb 426 rfl rfl, RX1, TX1, 12, rfl, gT_tb 4 rfl rfl⟩
set_option maxRecDepth 20000 in
theorem mo_X1_65 : MS RX1 65 yX6_hasBit cX6_hasBit 2 (some .boolean) 2 := ⟨mc_X6_hasBit, gT_tb 420 rfl rfl, Or.inr (by decide +kernel)⟩
set_option maxRecDepth 20000 in
theorem mo_X6_158 : MV RX6 158 1 yX1_throughCost cX1_throughCost 6 (some .int) 3 := ⟨mc_X1_throughCost, gT_tb 432 rfl rfl, gT_tb 431 rfl rfl, RX1, TX1, 12, rfl, gT_tb 433 rfl rfl⟩
set_option maxRecDepth 20000 in
theorem mo_X1_69 : MV RX1 69 1 yX1_tracingCost cX1_tracingCost 5 (some .int) 2 := ⟨mc_X1_tracingCost, gT_tb 354 rfl rfl, gT_tb 435 rfl rfl, RX1, TX1, 12, rfl, gT_tb 355 rfl rfl⟩
set_option maxRecDepth 20000 in
theorem mo_X6_161 : MV RX6 161 1 yX1_straightCost cX1_straightCost 5 (some .int) 2 := ⟨mc_X1_straightCost, gT_tb 437 rfl rfl, gT_tb 436 rfl rfl, RX1, TX1, 12, rfl, gT_tb 438 rfl rfl⟩
set_option maxRecDepth 20000 in
theorem mo_L_69 : MV RL 69 6 yX6_width cX6_width 4 (some .int) 2 := ⟨mc_X6_width, gT_tb 441 rfl rfl, gT_tb 440 rfl rfl, RX6, TX6, 7, rfl, gT_tb 442 rfl rfl⟩
set_option maxRecDepth 20000 in
theorem mo_L_73 : MV RL 73 6 yX6_spread cX6_spread 5 (some .int) 3 := ⟨mc_X6_spread, gT_tb 445 rfl rfl, gT_tb 444 rfl rfl, RX6, TX6, 7, rfl, gT_tb 446 rfl rfl⟩
set_option maxRecDepth 20000 in
theorem mo_L_77 : MV RL 77 6 yX6_aged cX6_aged 3 (some .int) 2 := ⟨mc_X6_aged, gT_tb 449 rfl rfl, gT_tb 448 rfl rfl, RX6, TX6, 7, rfl, gT_tb 450 rfl rfl⟩
set_option maxRecDepth 20000 in
theorem mo_X6_173 : MV RX6 173 0 yX0_measure cX0_measure 4 none 1 := ⟨mc_X0_measure, gT_tb 453 rfl rfl, gT_tb 452 rfl rfl, RX0, TX0, 4, rfl, gT_tb 454 rfl rfl⟩
set_option maxRecDepth 20000 in
theorem mo_X0_31 : MV RX0 31 0 yX0_canReach cX0_canReach 5 (some .boolean) 2 := ⟨mc_X0_canReach, gT_tb 458 rfl rfl, gT_tb 456 rfl rfl, RX0, TX0, 4, rfl, gT_tb 5 rfl rfl⟩
theorem mo_X0_41 : MS RX0 41 yX6_within cX6_within 3 (some .boolean) 3 := ⟨mc_X6_within, gT_tb 272 rfl rfl, Or.inr (by decide +kernel)⟩
set_option maxRecDepth 20000 in
theorem mo_L_81 : MV RL 81 6 yX6_take cX6_take 4 (some .int) 1 := ⟨mc_X6_take, gT_tb 462 rfl rfl, gT_tb 461 rfl rfl, RX6, TX6, 7, rfl, gT_tb 463 rfl rfl⟩
set_option maxRecDepth 20000 in
theorem mo_L_85 : MV RL 85 6 yX6_hide cX6_hide 6 (some .int) 3 := ⟨mc_X6_hide, gT_tb 470 rfl rfl, gT_tb 469 rfl rfl, RX6, TX6, 7, rfl, gT_tb 471 rfl rfl⟩
set_option maxRecDepth 20000 in
theorem mo_L_90 : MV RL 90 6 yX6_hides cX6_hides 3 (some .int) 2 := ⟨mc_X6_hides, gT_tb 474 rfl rfl, gT_tb 473 rfl rfl, RX6, TX6, 7, rfl, gT_tb 475 rfl rfl⟩
set_option maxRecDepth 20000 in
theorem mo_X6_197 : MV RX6 197 1 yX1_hiddenBy cX1_hiddenBy 5 (some .int) 1 := ⟨mc_X1_hiddenBy, gT_tb 478 rfl rfl, gT_tb 477 rfl rfl, RX1, TX1, 12, rfl, gT_tb 479 rfl rfl⟩
set_option maxRecDepth 20000 in
theorem mo_X6_200 : MS RX6 200 yX6_inkOf cX6_inkOf 4 (some .int) 1 := ⟨mc_X6_inkOf, gT_tb 482 rfl rfl, Or.inl (gT_tb 481 rfl rfl)⟩
set_option maxRecDepth 20000 in
theorem mo_X6_253 : MS RX6 253 yX6_strokeOf cX6_strokeOf 2 (some .int) 2 := ⟨mc_X6_strokeOf, gT_tb 358 rfl rfl, Or.inl (gT_tb 484 rfl rfl)⟩
set_option maxRecDepth 20000 in
theorem mo_L_94 : MV RL 94 6 yX6_cover cX6_cover 2 (some .int) 1 := ⟨mc_X6_cover, gT_tb 486 rfl rfl, gT_tb 485 rfl rfl, RX6, TX6, 7, rfl, gT_tb 487 rfl rfl⟩
set_option maxRecDepth 20000 in
theorem mo_X6_203 : MS RX6 203 yX6_strokesIn cX6_strokesIn 3 (some .int) 1 := ⟨mc_X6_strokesIn, gT_tb 490 rfl rfl, Or.inl (gT_tb 489 rfl rfl)⟩
set_option maxRecDepth 20000 in
theorem mo_X6_206 : MV RX6 206 2 yX2_leastOver cX2_leastOver 2 (some .int) 1 := ⟨mc_X2_leastOver, gT_tb 493 rfl rfl, gT_tb 492 rfl rfl, RX2, TX2, 3, rfl, gT_tb 494 rfl rfl⟩
set_option maxRecDepth 20000 in
theorem mo_X2_22 : MS RX2 22 yX2_search cX2_search 6 none 5 := ⟨mc_X2_search, gT_tb 497 rfl rfl, Or.inl (gT_tb 496 rfl rfl)⟩
set_option maxRecDepth 20000 in
theorem mo_L_98 : MV RL 98 6 yX6_under cX6_under 5 (some .int) 1 := ⟨mc_X6_under, gT_tb 500 rfl rfl, gT_tb 499 rfl rfl, RX6, TX6, 7, rfl, gT_tb 501 rfl rfl⟩
set_option maxRecDepth 20000 in
theorem mo_X6_209 : MS RX6 209 yX6_mayLieUnder cX6_mayLieUnder 5 (some .boolean) 3 := ⟨mc_X6_mayLieUnder, gT_tb 504 rfl rfl, Or.inl (gT_tb 503 rfl rfl)⟩
set_option maxRecDepth 20000 in
theorem mo_L_102 : MV RL 102 6 yX6_man cX6_man 1 (some .int) 0 := ⟨mc_X6_man, gT_tb 507 rfl rfl, gT_tb 506 rfl rfl, RX6, TX6, 7, rfl, gT_tb 508 rfl rfl⟩
set_option maxRecDepth 20000 in
theorem mo_L_106 : MV RL 106 6 yX6_meet cX6_meet 3 (some .int) 2 := ⟨mc_X6_meet, gT_tb 511 rfl rfl, gT_tb 510 rfl rfl, RX6, TX6, 7, rfl, gT_tb 512 rfl rfl⟩
set_option maxRecDepth 20000 in
theorem mo_X6_215 : MV RX6 215 4 yX4_hasMan cX4_hasMan 2 (some .boolean) 1 := ⟨mc_X4_hasMan, gT_tb 515 rfl rfl, gT_tb 514 rfl rfl, RX4, TX4, 7, rfl, gT_tb 516 rfl rfl⟩
set_option maxRecDepth 20000 in
theorem mo_X6_218 : MV RX6 218 4 yX4_lastDay cX4_lastDay 1 (some .int) 0 := ⟨mc_X4_lastDay, gT_tb 519 rfl rfl, gT_tb 518 rfl rfl, RX4, TX4, 7, rfl, gT_tb 520 rfl rfl⟩
set_option maxRecDepth 20000 in
theorem mo_X6_224 : MV RX6 224 4 yX4_addMeeting cX4_addMeeting 4 (some .int) 2 := ⟨mc_X4_addMeeting, gT_tb 523 rfl rfl, gT_tb 522 rfl rfl, RX4, TX4, 7, rfl, gT_tb 524 rfl rfl⟩
set_option maxRecDepth 20000 in
theorem mo_L_110 : MV RL 110 6 yX6_sick cX6_sick 4 (some .int) 2 := ⟨mc_X6_sick, gT_tb 527 rfl rfl, gT_tb 526 rfl rfl, RX6, TX6, 7, rfl, gT_tb 528 rfl rfl⟩
set_option maxRecDepth 20000 in
theorem mo_L_114 : MV RL 114 6 yX6_from cX6_from 2 (some .int) 1 := ⟨mc_X6_from, gT_tb 531 rfl rfl, gT_tb 530 rfl rfl, RX6, TX6, 7, rfl, gT_tb 532 rfl rfl⟩
set_option maxRecDepth 20000 in
theorem mo_X6_230 : MV RX6 230 4 yX4_giversOf cX4_giversOf 9 (some .int) 3 := ⟨mc_X4_giversOf, gT_tb 535 rfl rfl, gT_tb 534 rfl rfl, RX4, TX4, 7, rfl, gT_tb 536 rfl rfl⟩
theorem mo_X4_31 : MS RX4 31 yX6_within cX6_within 3 (some .boolean) 3 := ⟨mc_X6_within, gT_tb 272 rfl rfl, Or.inr (by decide +kernel)⟩
set_option maxRecDepth 20000 in
theorem mo_X4_35 : MV RX4 35 4 yX4_couldGive cX4_couldGive 6 (some .boolean) 4 := ⟨mc_X4_couldGive, gT_tb 541 rfl rfl, gT_tb 539 rfl rfl, RX4, TX4, 7, rfl, gT_tb 6 rfl rfl⟩
set_option maxRecDepth 20000 in
theorem mo_L_118 : MV RL 118 6 yX6_firsts cX6_firsts 2 (some .int) 1 := ⟨mc_X6_firsts, gT_tb 544 rfl rfl, gT_tb 543 rfl rfl, RX6, TX6, 7, rfl, gT_tb 545 rfl rfl⟩
set_option maxRecDepth 20000 in
theorem mo_X6_233 : MV RX6 233 4 yX4_sickMen cX4_sickMen 3 (some .int) 0 := ⟨mc_X4_sickMen, gT_tb 548 rfl rfl, gT_tb 547 rfl rfl, RX4, TX4, 7, rfl, gT_tb 549 rfl rfl⟩
set_option maxRecDepth 20000 in
theorem mo_X6_236 : MV RX6 236 4 yX4_trace cX4_trace 5 none 2 := ⟨mc_X4_trace, gT_tb 552 rfl rfl, gT_tb 551 rfl rfl, RX4, TX4, 7, rfl, gT_tb 553 rfl rfl⟩
set_option maxRecDepth 20000 in
theorem mo_X4_42 : MV RX4 42 4 yX4_sickMen cX4_sickMen 3 (some .int) 0 := ⟨mc_X4_sickMen, gT_tb 548 rfl rfl, gT_tb 555 rfl rfl, RX4, TX4, 7, rfl, gT_tb 549 rfl rfl⟩
set_option maxRecDepth 20000 in
theorem mo_X4_46 : MV RX4 46 4 yX4_giversOf cX4_giversOf 9 (some .int) 3 := ⟨mc_X4_giversOf, gT_tb 535 rfl rfl, gT_tb 556 rfl rfl, RX4, TX4, 7, rfl, gT_tb 536 rfl rfl⟩
set_option maxRecDepth 20000 in
theorem mo_X4_50 : MS RX4 50 yX6_hasBit cX6_hasBit 2 (some .boolean) 2 := ⟨mc_X6_hasBit, gT_tb 420 rfl rfl, Or.inr (by decide +kernel)⟩
set_option maxRecDepth 20000 in
theorem mo_L_122 : MV RL 122 6 yX6_must cX6_must 3 (some .int) 2 := ⟨mc_X6_must, gT_tb 559 rfl rfl, gT_tb 558 rfl rfl, RX6, TX6, 7, rfl, gT_tb 560 rfl rfl⟩
set_option maxRecDepth 20000 in
theorem mo_X6_243 : MV RX6 243 4 yX4_onAllPathsTo cX4_onAllPathsTo 5 (some .int) 1 := ⟨mc_X4_onAllPathsTo, gT_tb 563 rfl rfl, gT_tb 562 rfl rfl, RX4, TX4, 7, rfl, gT_tb 564 rfl rfl⟩
set_option maxRecDepth 20000 in
theorem mo_X4_58 : MV RX4 58 4 yX4_shortestPathTo cX4_shortestPathTo 5 (some .int) 2 := ⟨mc_X4_shortestPathTo, gT_tb 567 rfl rfl, gT_tb 566 rfl rfl, RX4, TX4, 7, rfl, gT_tb 568 rfl rfl⟩
set_option maxRecDepth 20000 in
theorem mo_X4_54 : MV RX4 54 4 yX4_nextTo cX4_nextTo 4 (some .int) 1 := ⟨mc_X4_nextTo, gT_tb 572 rfl rfl, gT_tb 570 rfl rfl, RX4, TX4, 7, rfl, gT_tb 7 rfl rfl⟩
set_option maxRecDepth 20000 in
theorem mo_X6_246 : MV RX6 246 4 yX4_shortestPathTo cX4_shortestPathTo 5 (some .int) 2 := ⟨mc_X4_shortestPathTo, gT_tb 567 rfl rfl, gT_tb 574 rfl rfl, RX4, TX4, 7, rfl, gT_tb 568 rfl rfl⟩
set_option maxRecDepth 20000 in
theorem mo_L_126 : MV RL 126 6 yX6_image cX6_image 3 (some .int) 1 := ⟨mc_X6_image, gT_tb 576 rfl rfl, gT_tb 575 rfl rfl, RX6, TX6, 7, rfl, gT_tb 577 rfl rfl⟩
set_option maxRecDepth 20000 in
theorem mo_X6_249 : MV RX6 249 1 yX1_copyOf cX1_copyOf 3 none 1 := ⟨mc_X1_copyOf, gT_tb 580 rfl rfl, gT_tb 579 rfl rfl, RX1, TX1, 12, rfl, gT_tb 581 rfl rfl⟩
set_option maxRecDepth 20000 in
theorem mo_L_130 : MV RL 130 6 yX6_restore cX6_restore 3 (some .int) 1 := ⟨mc_X6_restore, gT_tb 587 rfl rfl, gT_tb 586 rfl rfl, RX6, TX6, 7, rfl, gT_tb 588 rfl rfl⟩
set_option maxRecDepth 20000 in
theorem mo_L_134 : MV RL 134 6 yX6_told cX6_told 2 (some .int) 1 := ⟨mc_X6_told, gT_tb 591 rfl rfl, gT_tb 590 rfl rfl, RX6, TX6, 7, rfl, gT_tb 592 rfl rfl⟩
set_option maxRecDepth 20000 in
theorem mo_L_12 : MI RL 12 yX7_init cX7_init 2 0 := ⟨mc_X7_init, gT_tb 597 rfl rfl, rfl, Or.inl (gT_tb 596 rfl rfl)⟩
set_option maxRecDepth 20000 in
theorem mo_L_17 : MV RL 17 7 yX7_picture cX7_picture 4 (some .int) 3 := ⟨mc_X7_picture, gT_tb 692 rfl rfl, gT_tb 691 rfl rfl, RX7, TX7, 30, rfl, gT_tb 693 rfl rfl⟩
set_option maxRecDepth 20000 in
theorem mo_X7_74 : MS RX7 74 yX7_isDrawing cX7_isDrawing 1 (some .boolean) 1 := ⟨mc_X7_isDrawing, gT_tb 696 rfl rfl, Or.inl (gT_tb 695 rfl rfl)⟩
set_option maxRecDepth 20000 in
theorem mo_X7_69 : MS RX7 69 yX7_in cX7_in 3 (some .boolean) 3 := ⟨mc_X7_in, gT_tb 700 rfl rfl, Or.inl (gT_tb 699 rfl rfl)⟩
set_option maxRecDepth 20000 in
theorem mo_X7_78 : MS RX7 78 yX7_isYear cX7_isYear 1 (some .boolean) 1 := ⟨mc_X7_isYear, gT_tb 703 rfl rfl, Or.inl (gT_tb 702 rfl rfl)⟩
set_option maxRecDepth 20000 in
theorem mo_L_22 : MV RL 22 7 yX7_about cX7_about 3 (some .int) 2 := ⟨mc_X7_about, gT_tb 706 rfl rfl, gT_tb 705 rfl rfl, RX7, TX7, 30, rfl, gT_tb 707 rfl rfl⟩
set_option maxRecDepth 20000 in
theorem mo_X7_85 : MV RX7 85 7 yX7_isPicture cX7_isPicture 2 (some .boolean) 1 := ⟨mc_X7_isPicture, gT_tb 711 rfl rfl, gT_tb 709 rfl rfl, RX7, TX7, 30, rfl, gT_tb 8 rfl rfl⟩
set_option maxRecDepth 20000 in
theorem mo_L_26 : MV RL 26 7 yX7_set cX7_set 4 (some .int) 2 := ⟨mc_X7_set, gT_tb 714 rfl rfl, gT_tb 713 rfl rfl, RX7, TX7, 30, rfl, gT_tb 715 rfl rfl⟩
set_option maxRecDepth 20000 in
theorem mo_L_31 : MV RL 31 7 yX7_say cX7_say 2 (some .int) 1 := ⟨mc_X7_say, gT_tb 718 rfl rfl, gT_tb 717 rfl rfl, RX7, TX7, 30, rfl, gT_tb 719 rfl rfl⟩
set_option maxRecDepth 20000 in
theorem mo_L_36 : MV RL 36 7 yX7_wipe cX7_wipe 2 (some .int) 0 := ⟨mc_X7_wipe, gT_tb 722 rfl rfl, gT_tb 721 rfl rfl, RX7, TX7, 30, rfl, gT_tb 723 rfl rfl⟩
set_option maxRecDepth 20000 in
theorem mo_L_40 : MV RL 40 7 yX7_fault cX7_fault 1 (some .int) 0 := ⟨mc_X7_fault, gT_tb 726 rfl rfl, gT_tb 725 rfl rfl, RX7, TX7, 30, rfl, gT_tb 727 rfl rfl⟩
set_option maxRecDepth 20000 in
theorem mo_X7_91 : MV RX7 91 7 yX7_faultOf cX7_faultOf 5 (some .int) 0 := ⟨mc_X7_faultOf, gT_tb 731 rfl rfl, gT_tb 729 rfl rfl, RX7, TX7, 30, rfl, gT_tb 9 rfl rfl⟩
set_option maxRecDepth 20000 in
theorem mo_L_44 : MV RL 44 7 yX7_law cX7_law 2 (some .int) 0 := ⟨mc_X7_law, gT_tb 734 rfl rfl, gT_tb 733 rfl rfl, RX7, TX7, 30, rfl, gT_tb 735 rfl rfl⟩
set_option maxRecDepth 20000 in
theorem mo_X7_98 : MV RX7 98 7 yX7_lines cX7_lines 3 (some .int) 0 := ⟨mc_X7_lines, gT_tb 739 rfl rfl, gT_tb 737 rfl rfl, RX7, TX7, 30, rfl, gT_tb 10 rfl rfl⟩
set_option maxRecDepth 20000 in
theorem mo_L_48 : MV RL 48 7 yX7_slip cX7_slip 3 (some .int) 2 := ⟨mc_X7_slip, gT_tb 742 rfl rfl, gT_tb 741 rfl rfl, RX7, TX7, 30, rfl, gT_tb 743 rfl rfl⟩
set_option maxRecDepth 20000 in
theorem mo_X7_101 : MV RX7 101 7 yX7_laySlips cX7_laySlips 8 none 0 := ⟨mc_X7_laySlips, gT_tb 747 rfl rfl, gT_tb 745 rfl rfl, RX7, TX7, 30, rfl, gT_tb 11 rfl rfl⟩
set_option maxRecDepth 20000 in
theorem mo_L_52 : MV RL 52 7 yX7_cost cX7_cost 3 (some .int) 2 := ⟨mc_X7_cost, gT_tb 750 rfl rfl, gT_tb 749 rfl rfl, RX7, TX7, 30, rfl, gT_tb 751 rfl rfl⟩
set_option maxRecDepth 20000 in
theorem mo_X7_108 : MV RX7 108 7 yX7_costOf cX7_costOf 5 (some .int) 2 := ⟨mc_X7_costOf, gT_tb 755 rfl rfl, gT_tb 753 rfl rfl, RX7, TX7, 30, rfl, gT_tb 12 rfl rfl⟩
set_option maxRecDepth 20000 in
theorem mo_X7_104 : MS RX7 104 yX7_strokeOf cX7_strokeOf 2 (some .int) 2 := ⟨mc_X7_strokeOf, gT_tb 758 rfl rfl, Or.inl (gT_tb 757 rfl rfl)⟩
set_option maxRecDepth 20000 in
theorem mo_L_56 : MV RL 56 7 yX7_least cX7_least 2 (some .int) 1 := ⟨mc_X7_least, gT_tb 761 rfl rfl, gT_tb 760 rfl rfl, RX7, TX7, 30, rfl, gT_tb 762 rfl rfl⟩
set_option maxRecDepth 20000 in
theorem mo_X7_128 : MV RX7 128 7 yX7_layTrees cX7_layTrees 4 none 0 := ⟨mc_X7_layTrees, gT_tb 766 rfl rfl, gT_tb 764 rfl rfl, RX7, TX7, 30, rfl, gT_tb 13 rfl rfl⟩
set_option maxRecDepth 20000 in
theorem mo_X7_121 : MV RX7 121 7 yX7_rows cX7_rows 3 (some .int) 0 := ⟨mc_X7_rows, gT_tb 771 rfl rfl, gT_tb 769 rfl rfl, RX7, TX7, 30, rfl, gT_tb 14 rfl rfl⟩
set_option maxRecDepth 20000 in
theorem mo_X7_124 : MV RX7 124 7 yX7_layRow cX7_layRow 7 (some .int) 1 := ⟨mc_X7_layRow, gT_tb 775 rfl rfl, gT_tb 773 rfl rfl, RX7, TX7, 30, rfl, gT_tb 15 rfl rfl⟩
set_option maxRecDepth 20000 in
theorem mo_L_60 : MV RL 60 7 yX7_kept cX7_kept 8 (some .int) 3 := ⟨mc_X7_kept, gT_tb 778 rfl rfl, gT_tb 777 rfl rfl, RX7, TX7, 30, rfl, gT_tb 779 rfl rfl⟩
set_option maxRecDepth 20000 in
theorem mo_L_64 : MV RL 64 7 yX7_sure cX7_sure 7 (some .int) 2 := ⟨mc_X7_sure, gT_tb 782 rfl rfl, gT_tb 781 rfl rfl, RX7, TX7, 30, rfl, gT_tb 783 rfl rfl⟩
set_option maxRecDepth 20000 in
theorem mo_L_68 : MV RL 68 7 yX7_lost cX7_lost 12 (some .int) 3 := ⟨mc_X7_lost, gT_tb 786 rfl rfl, gT_tb 785 rfl rfl, RX7, TX7, 30, rfl, gT_tb 787 rfl rfl⟩
set_option maxRecDepth 20000 in
theorem mo_L_72 : MV RL 72 7 yX7_width cX7_width 4 (some .int) 2 := ⟨mc_X7_width, gT_tb 790 rfl rfl, gT_tb 789 rfl rfl, RX7, TX7, 30, rfl, gT_tb 791 rfl rfl⟩
set_option maxRecDepth 20000 in
theorem mo_L_76 : MV RL 76 7 yX7_spread cX7_spread 5 (some .int) 3 := ⟨mc_X7_spread, gT_tb 794 rfl rfl, gT_tb 793 rfl rfl, RX7, TX7, 30, rfl, gT_tb 795 rfl rfl⟩
set_option maxRecDepth 20000 in
theorem mo_L_80 : MV RL 80 7 yX7_aged cX7_aged 3 (some .int) 2 := ⟨mc_X7_aged, gT_tb 798 rfl rfl, gT_tb 797 rfl rfl, RX7, TX7, 30, rfl, gT_tb 799 rfl rfl⟩
set_option maxRecDepth 20000 in
theorem mo_X7_140 : MV RX7 140 7 yX7_layAged cX7_layAged 6 none 1 := ⟨mc_X7_layAged, gT_tb 803 rfl rfl, gT_tb 801 rfl rfl, RX7, TX7, 30, rfl, gT_tb 16 rfl rfl⟩
set_option maxRecDepth 20000 in
theorem mo_L_84 : MV RL 84 7 yX7_take cX7_take 4 (some .int) 1 := ⟨mc_X7_take, gT_tb 806 rfl rfl, gT_tb 805 rfl rfl, RX7, TX7, 30, rfl, gT_tb 807 rfl rfl⟩
set_option maxRecDepth 20000 in
theorem mo_L_89 : MV RL 89 7 yX7_hide cX7_hide 5 (some .int) 3 := ⟨mc_X7_hide, gT_tb 810 rfl rfl, gT_tb 809 rfl rfl, RX7, TX7, 30, rfl, gT_tb 811 rfl rfl⟩
set_option maxRecDepth 20000 in
theorem mo_L_93 : MV RL 93 7 yX7_hides cX7_hides 3 (some .int) 2 := ⟨mc_X7_hides, gT_tb 814 rfl rfl, gT_tb 813 rfl rfl, RX7, TX7, 30, rfl, gT_tb 815 rfl rfl⟩
set_option maxRecDepth 20000 in
theorem mo_X7_144 : MV RX7 144 7 yX7_hidden cX7_hidden 5 (some .int) 1 := ⟨mc_X7_hidden, gT_tb 819 rfl rfl, gT_tb 817 rfl rfl, RX7, TX7, 30, rfl, gT_tb 17 rfl rfl⟩
set_option maxRecDepth 20000 in
theorem mo_X7_147 : MS RX7 147 yX7_ink cX7_ink 4 (some .int) 1 := ⟨mc_X7_ink, gT_tb 822 rfl rfl, Or.inl (gT_tb 821 rfl rfl)⟩
set_option maxRecDepth 20000 in
theorem mo_L_97 : MV RL 97 7 yX7_cover cX7_cover 9 (some .int) 1 := ⟨mc_X7_cover, gT_tb 825 rfl rfl, gT_tb 824 rfl rfl, RX7, TX7, 30, rfl, gT_tb 826 rfl rfl⟩
set_option maxRecDepth 20000 in
theorem mo_L_101 : MV RL 101 7 yX7_under cX7_under 8 (some .int) 1 := ⟨mc_X7_under, gT_tb 829 rfl rfl, gT_tb 828 rfl rfl, RX7, TX7, 30, rfl, gT_tb 830 rfl rfl⟩
set_option maxRecDepth 20000 in
theorem mo_L_105 : MV RL 105 7 yX7_man cX7_man 1 (some .int) 0 := ⟨mc_X7_man, gT_tb 833 rfl rfl, gT_tb 832 rfl rfl, RX7, TX7, 30, rfl, gT_tb 834 rfl rfl⟩
set_option maxRecDepth 20000 in
theorem mo_L_109 : MV RL 109 7 yX7_meet cX7_meet 3 (some .int) 2 := ⟨mc_X7_meet, gT_tb 837 rfl rfl, gT_tb 836 rfl rfl, RX7, TX7, 30, rfl, gT_tb 838 rfl rfl⟩
set_option maxRecDepth 20000 in
theorem mo_X7_153 : MV RX7 153 7 yX7_isMan cX7_isMan 2 (some .boolean) 1 := ⟨mc_X7_isMan, gT_tb 842 rfl rfl, gT_tb 840 rfl rfl, RX7, TX7, 30, rfl, gT_tb 18 rfl rfl⟩
set_option maxRecDepth 20000 in
theorem mo_L_113 : MV RL 113 7 yX7_sick cX7_sick 4 (some .int) 2 := ⟨mc_X7_sick, gT_tb 845 rfl rfl, gT_tb 844 rfl rfl, RX7, TX7, 30, rfl, gT_tb 846 rfl rfl⟩
set_option maxRecDepth 20000 in
theorem mo_L_117 : MV RL 117 7 yX7_from cX7_from 2 (some .int) 1 := ⟨mc_X7_from, gT_tb 849 rfl rfl, gT_tb 848 rfl rfl, RX7, TX7, 30, rfl, gT_tb 850 rfl rfl⟩
set_option maxRecDepth 20000 in
theorem mo_X7_159 : MV RX7 159 7 yX7_fromOf cX7_fromOf 8 (some .int) 1 := ⟨mc_X7_fromOf, gT_tb 854 rfl rfl, gT_tb 852 rfl rfl, RX7, TX7, 30, rfl, gT_tb 19 rfl rfl⟩
set_option maxRecDepth 20000 in
theorem mo_L_121 : MV RL 121 7 yX7_firsts cX7_firsts 2 (some .int) 1 := ⟨mc_X7_firsts, gT_tb 857 rfl rfl, gT_tb 856 rfl rfl, RX7, TX7, 30, rfl, gT_tb 858 rfl rfl⟩
set_option maxRecDepth 20000 in
theorem mo_X7_165 : MV RX7 165 7 yX7_firstSet cX7_firstSet 3 (some .int) 0 := ⟨mc_X7_firstSet, gT_tb 862 rfl rfl, gT_tb 860 rfl rfl, RX7, TX7, 30, rfl, gT_tb 20 rfl rfl⟩
set_option maxRecDepth 20000 in
theorem mo_X7_162 : MV RX7 162 7 yX7_sickSet cX7_sickSet 3 (some .int) 0 := ⟨mc_X7_sickSet, gT_tb 866 rfl rfl, gT_tb 864 rfl rfl, RX7, TX7, 30, rfl, gT_tb 21 rfl rfl⟩
set_option maxRecDepth 20000 in
theorem mo_L_125 : MV RL 125 7 yX7_must cX7_must 6 (some .int) 2 := ⟨mc_X7_must, gT_tb 869 rfl rfl, gT_tb 868 rfl rfl, RX7, TX7, 30, rfl, gT_tb 870 rfl rfl⟩
set_option maxRecDepth 20000 in
theorem mo_X7_168 : MV RX7 168 7 yX7_pathTo cX7_pathTo 7 (some .int) 2 := ⟨mc_X7_pathTo, gT_tb 874 rfl rfl, gT_tb 872 rfl rfl, RX7, TX7, 30, rfl, gT_tb 22 rfl rfl⟩
set_option maxRecDepth 20000 in
theorem mo_L_129 : MV RL 129 7 yX7_image cX7_image 4 (some .int) 1 := ⟨mc_X7_image, gT_tb 877 rfl rfl, gT_tb 876 rfl rfl, RX7, TX7, 30, rfl, gT_tb 878 rfl rfl⟩
set_option maxRecDepth 20000 in
theorem mo_L_133 : MV RL 133 7 yX7_restore cX7_restore 4 (some .int) 1 := ⟨mc_X7_restore, gT_tb 881 rfl rfl, gT_tb 880 rfl rfl, RX7, TX7, 30, rfl, gT_tb 882 rfl rfl⟩
set_option maxRecDepth 20000 in
theorem mo_L_137 : MV RL 137 7 yX7_told cX7_told 2 (some .int) 1 := ⟨mc_X7_told, gT_tb 885 rfl rfl, gT_tb 884 rfl rfl, RX7, TX7, 30, rfl, gT_tb 886 rfl rfl⟩
