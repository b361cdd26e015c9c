theorem w_acI : Cond.arrayClass .int ∈ gT := gT_tb 109 (by decide +kernel) rfl
theorem w_acZ : Cond.arrayClass .boolean ∈ gT := gT_tb 170 (by decide +kernel) rfl
set_option maxRecDepth 20000 in
theorem w_oi : Cond.instanceMethod objectInit ∈ gT := gT_tb 40 (by decide +kernel) rfl
set_option maxRecDepth 20000 in
theorem w_oc : Cond.code objectInit ⟨#[0xb1]⟩ 1 none ∈ gT := gT_tb 41 (by decide +kernel) rfl
theorem ini_L : Cond.initialized RL ∈ gT := gT_tb 23 (by decide +kernel) rfl
theorem ini_X6 : Cond.initialized RX6 ∈ gT := gT_tb 24 (by decide +kernel) rfl
theorem ini_X1 : Cond.initialized RX1 ∈ gT := gT_tb 25 (by decide +kernel) rfl
theorem ini_X3 : Cond.initialized RX3 ∈ gT := gT_tb 26 (by decide +kernel) rfl
theorem ini_X5 : Cond.initialized RX5 ∈ gT := gT_tb 27 (by decide +kernel) rfl
theorem ini_X0 : Cond.initialized RX0 ∈ gT := gT_tb 28 (by decide +kernel) rfl
theorem ini_X2 : Cond.initialized RX2 ∈ gT := gT_tb 29 (by decide +kernel) rfl
theorem ini_X4 : Cond.initialized RX4 ∈ gT := gT_tb 30 (by decide +kernel) rfl
theorem ini_X7 : Cond.initialized RX7 ∈ gT := gT_tb 31 (by decide +kernel) rfl
set_option maxRecDepth 20000 in
theorem cl_L_7 : Cond.classLink RL 7 RX6 ∈ gT := gT_tb 34 (by decide +kernel) rfl
set_option maxRecDepth 20000 in
theorem ins_X6 : Cond.instantiable RX6 7 ∈ gT := gT_tb 35 (by decide +kernel) rfl
set_option maxRecDepth 20000 in
theorem ol_X6_1 : Cond.methodLink RX6 1 objectInit ∈ gT := gT_tb 39 (by decide +kernel) rfl
set_option maxRecDepth 20000 in
theorem cl_X6_7 : Cond.classLink RX6 7 RX1 ∈ gT := gT_tb 42 (by decide +kernel) rfl
set_option maxRecDepth 20000 in
theorem ins_X1 : Cond.instantiable RX1 12 ∈ gT := gT_tb 43 (by decide +kernel) rfl
set_option maxRecDepth 20000 in
theorem ol_X1_3 : Cond.methodLink RX1 3 objectInit ∈ gT := gT_tb 47 (by decide +kernel) rfl
set_option maxRecDepth 20000 in
theorem cl_X1_24 : Cond.classLink RX1 24 "[[I" ∈ gT := gT_tb 48 (by decide +kernel) rfl
set_option maxRecDepth 20000 in
theorem cl_X6_20 : Cond.classLink RX6 20 RX3 ∈ gT := gT_tb 111 (by decide +kernel) rfl
set_option maxRecDepth 20000 in
theorem ins_X3 : Cond.instantiable RX3 2 ∈ gT := gT_tb 112 (by decide +kernel) rfl
set_option maxRecDepth 20000 in
theorem ol_X3_3 : Cond.methodLink RX3 3 objectInit ∈ gT := gT_tb 116 (by decide +kernel) rfl
set_option maxRecDepth 20000 in
theorem cl_X6_27 : Cond.classLink RX6 27 RX5 ∈ gT := gT_tb 125 (by decide +kernel) rfl
set_option maxRecDepth 20000 in
theorem ins_X5 : Cond.instantiable RX5 11 ∈ gT := gT_tb 126 (by decide +kernel) rfl
set_option maxRecDepth 20000 in
theorem ol_X5_3 : Cond.methodLink RX5 3 objectInit ∈ gT := gT_tb 130 (by decide +kernel) rfl
set_option maxRecDepth 20000 in
theorem cl_X5_21 : Cond.classLink RX5 21 "[[I" ∈ gT := gT_tb 131 (by decide +kernel) rfl
set_option maxRecDepth 20000 in
theorem cl_X6_36 : Cond.classLink RX6 36 RX0 ∈ gT := gT_tb 171 (by decide +kernel) rfl
set_option maxRecDepth 20000 in
theorem ins_X0 : Cond.instantiable RX0 4 ∈ gT := gT_tb 172 (by decide +kernel) rfl
set_option maxRecDepth 20000 in
theorem ol_X0_3 : Cond.methodLink RX0 3 objectInit ∈ gT := gT_tb 176 (by decide +kernel) rfl
set_option maxRecDepth 20000 in
theorem cl_X6_43 : Cond.classLink RX6 43 RX2 ∈ gT := gT_tb 193 (by decide +kernel) rfl
set_option maxRecDepth 20000 in
theorem ins_X2 : Cond.instantiable RX2 3 ∈ gT := gT_tb 194 (by decide +kernel) rfl
set_option maxRecDepth 20000 in
theorem ol_X2_3 : Cond.methodLink RX2 3 objectInit ∈ gT := gT_tb 198 (by decide +kernel) rfl
set_option maxRecDepth 20000 in
theorem cl_X6_50 : Cond.classLink RX6 50 RX4 ∈ gT := gT_tb 209 (by decide +kernel) rfl
set_option maxRecDepth 20000 in
theorem ins_X4 : Cond.instantiable RX4 7 ∈ gT := gT_tb 210 (by decide +kernel) rfl
set_option maxRecDepth 20000 in
theorem ol_X4_3 : Cond.methodLink RX4 3 objectInit ∈ gT := gT_tb 214 (by decide +kernel) rfl
set_option maxRecDepth 20000 in
theorem mk_X5_78 : Cond.methodLink RX5 78 Lib.Math.min.name ∈ gT ∧ Cond.static Lib.Math.min.name ∈ gT ∧ Cond.initialized "java/lang/Math" ∈ gT ∧ Cond.code Lib.Math.min.name Lib.Math.min.code 2 (some .int) ∈ gT := ⟨gT_tb 384 (by decide +kernel) rfl, gT_tb 385 (by decide +kernel) rfl, gT_tb 32 (by decide +kernel) rfl, gT_tb 386 (by decide +kernel) rfl⟩
set_option maxRecDepth 20000 in
theorem mk_X6_183 : Cond.methodLink RX6 183 Lib.Math.max.name ∈ gT ∧ Cond.static Lib.Math.max.name ∈ gT ∧ Cond.initialized "java/lang/Math" ∈ gT ∧ Cond.code Lib.Math.max.name Lib.Math.max.code 2 (some .int) ∈ gT := ⟨gT_tb 465 (by decide +kernel) rfl, gT_tb 466 (by decide +kernel) rfl, gT_tb 32 (by decide +kernel) rfl, gT_tb 467 (by decide +kernel) rfl⟩
set_option maxRecDepth 20000 in
theorem mk_X6_188 : Cond.methodLink RX6 188 Lib.Math.min.name ∈ gT ∧ Cond.static Lib.Math.min.name ∈ gT ∧ Cond.initialized "java/lang/Math" ∈ gT ∧ Cond.code Lib.Math.min.name Lib.Math.min.code 2 (some .int) ∈ gT := ⟨gT_tb 468 (by decide +kernel) rfl, gT_tb 385 (by decide +kernel) rfl, gT_tb 32 (by decide +kernel) rfl, gT_tb 386 (by decide +kernel) rfl⟩
set_option maxRecDepth 20000 in
theorem ay_X1_51 : Cond.methodLink RX1 51 arraycopyName ∈ gT := gT_tb 583 (by decide +kernel) rfl
set_option maxRecDepth 20000 in
theorem w_ayn : Cond.native arraycopyName ∈ gT := gT_tb 585 (by decide +kernel) rfl
set_option maxRecDepth 20000 in
theorem w_ays : Cond.static arraycopyName ∈ gT := gT_tb 584 (by decide +kernel) rfl
set_option maxRecDepth 20000 in
theorem w_ayi : Cond.initialized "java/lang/System" ∈ gT := gT_tb 33 (by decide +kernel) rfl
set_option maxRecDepth 20000 in
theorem cl_L_10 : Cond.classLink RL 10 RX7 ∈ gT := gT_tb 594 (by decide +kernel) rfl
set_option maxRecDepth 20000 in
theorem ins_X7 : Cond.instantiable RX7 30 ∈ gT := gT_tb 595 (by decide +kernel) rfl
set_option maxRecDepth 20000 in
theorem ol_X7_1 : Cond.methodLink RX7 1 objectInit ∈ gT := gT_tb 599 (by decide +kernel) rfl
