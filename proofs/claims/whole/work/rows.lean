section
/-- a private method of a class that the tables say can be made, by its rows of tables_1 -/
def lw_okq (q : MethodName × Nat) : Prop := (q.1.cls ≠ "java/lang/invoke/MethodHandle" ∧ q.1.cls ≠ "java/lang/invoke/VarHandle") ∧ Cond.instantiable q.1.cls q.2 ∈ tables_1 ∧ Cond.privateMethod q.1 ∈ tables_1 ∧ Cond.instanceMethod q.1 ∈ tables_1
theorem lw_p0 : lw_okq (⟨"CopiedSkins$Trees", "makeRoom", "(I)V"⟩, 11) := ⟨⟨by decide +kernel, by decide +kernel⟩, List.mem_of_getElem? (i := 103) (by decide +kernel), List.mem_of_getElem? (i := 346) (by decide +kernel), List.mem_of_getElem? (i := 347) (by decide +kernel)⟩
theorem lw_p1 : lw_okq (⟨"CopiedSkins$Trees", "put", "(II)V"⟩, 11) := ⟨⟨by decide +kernel, by decide +kernel⟩, List.mem_of_getElem? (i := 103) (by decide +kernel), List.mem_of_getElem? (i := 354) (by decide +kernel), List.mem_of_getElem? (i := 355) (by decide +kernel)⟩
theorem lw_p2 : lw_okq (⟨"CopiedSkins$Trees", "comesFrom", "(II)Z"⟩, 11) := ⟨⟨by decide +kernel, by decide +kernel⟩, List.mem_of_getElem? (i := 103) (by decide +kernel), List.mem_of_getElem? (i := 358) (by decide +kernel), List.mem_of_getElem? (i := 359) (by decide +kernel)⟩
theorem lw_p3 : lw_okq (⟨"CopiedSkins$Trees", "tracedFrom", "(II)I"⟩, 11) := ⟨⟨by decide +kernel, by decide +kernel⟩, List.mem_of_getElem? (i := 103) (by decide +kernel), List.mem_of_getElem? (i := 388) (by decide +kernel), List.mem_of_getElem? (i := 389) (by decide +kernel)⟩
theorem lw_p4 : lw_okq (⟨"CopiedSkins$Album", "lostStrokeCost", "(IIII)I"⟩, 12) := ⟨⟨by decide +kernel, by decide +kernel⟩, List.mem_of_getElem? (i := 20) (by decide +kernel), List.mem_of_getElem? (i := 404) (by decide +kernel), List.mem_of_getElem? (i := 405) (by decide +kernel)⟩
theorem lw_p5 : lw_okq (⟨"CopiedSkins$Ages", "canReach", "(II)Z"⟩, 4) := ⟨⟨by decide +kernel, by decide +kernel⟩, List.mem_of_getElem? (i := 149) (by decide +kernel), List.mem_of_getElem? (i := 434) (by decide +kernel), List.mem_of_getElem? (i := 435) (by decide +kernel)⟩
theorem lw_p6 : lw_okq (⟨"CopiedSkins$Needle", "couldGive", "(IIII)Z"⟩, 7) := ⟨⟨by decide +kernel, by decide +kernel⟩, List.mem_of_getElem? (i := 187) (by decide +kernel), List.mem_of_getElem? (i := 517) (by decide +kernel), List.mem_of_getElem? (i := 518) (by decide +kernel)⟩
theorem lw_p7 : lw_okq (⟨"CopiedSkins$Needle", "nextTo", "(I)I"⟩, 7) := ⟨⟨by decide +kernel, by decide +kernel⟩, List.mem_of_getElem? (i := 187) (by decide +kernel), List.mem_of_getElem? (i := 548) (by decide +kernel), List.mem_of_getElem? (i := 549) (by decide +kernel)⟩
theorem lw_p8 : lw_okq (⟨"CopiedSkinsModel", "isPicture", "(I)Z"⟩, 30) := ⟨⟨by decide +kernel, by decide +kernel⟩, List.mem_of_getElem? (i := 572) (by decide +kernel), List.mem_of_getElem? (i := 687) (by decide +kernel), List.mem_of_getElem? (i := 688) (by decide +kernel)⟩
theorem lw_p9 : lw_okq (⟨"CopiedSkinsModel", "faultOf", "()I"⟩, 30) := ⟨⟨by decide +kernel, by decide +kernel⟩, List.mem_of_getElem? (i := 572) (by decide +kernel), List.mem_of_getElem? (i := 707) (by decide +kernel), List.mem_of_getElem? (i := 708) (by decide +kernel)⟩
theorem lw_p10 : lw_okq (⟨"CopiedSkinsModel", "lines", "()I"⟩, 30) := ⟨⟨by decide +kernel, by decide +kernel⟩, List.mem_of_getElem? (i := 572) (by decide +kernel), List.mem_of_getElem? (i := 715) (by decide +kernel), List.mem_of_getElem? (i := 716) (by decide +kernel)⟩
theorem lw_p11 : lw_okq (⟨"CopiedSkinsModel", "laySlips", "()V"⟩, 30) := ⟨⟨by decide +kernel, by decide +kernel⟩, List.mem_of_getElem? (i := 572) (by decide +kernel), List.mem_of_getElem? (i := 723) (by decide +kernel), List.mem_of_getElem? (i := 724) (by decide +kernel)⟩
theorem lw_p12 : lw_okq (⟨"CopiedSkinsModel", "costOf", "(II)I"⟩, 30) := ⟨⟨by decide +kernel, by decide +kernel⟩, List.mem_of_getElem? (i := 572) (by decide +kernel), List.mem_of_getElem? (i := 731) (by decide +kernel), List.mem_of_getElem? (i := 732) (by decide +kernel)⟩
theorem lw_p13 : lw_okq (⟨"CopiedSkinsModel", "layTrees", "()V"⟩, 30) := ⟨⟨by decide +kernel, by decide +kernel⟩, List.mem_of_getElem? (i := 572) (by decide +kernel), List.mem_of_getElem? (i := 742) (by decide +kernel), List.mem_of_getElem? (i := 743) (by decide +kernel)⟩
theorem lw_p14 : lw_okq (⟨"CopiedSkinsModel", "rows", "()I"⟩, 30) := ⟨⟨by decide +kernel, by decide +kernel⟩, List.mem_of_getElem? (i := 572) (by decide +kernel), List.mem_of_getElem? (i := 747) (by decide +kernel), List.mem_of_getElem? (i := 748) (by decide +kernel)⟩
theorem lw_p15 : lw_okq (⟨"CopiedSkinsModel", "layRow", "(I)I"⟩, 30) := ⟨⟨by decide +kernel, by decide +kernel⟩, List.mem_of_getElem? (i := 572) (by decide +kernel), List.mem_of_getElem? (i := 751) (by decide +kernel), List.mem_of_getElem? (i := 752) (by decide +kernel)⟩
def lw_privs_1 : List (MethodName × Nat) := [(⟨"CopiedSkins$Trees", "makeRoom", "(I)V"⟩, 11), (⟨"CopiedSkins$Trees", "put", "(II)V"⟩, 11), (⟨"CopiedSkins$Trees", "comesFrom", "(II)Z"⟩, 11), (⟨"CopiedSkins$Trees", "tracedFrom", "(II)I"⟩, 11), (⟨"CopiedSkins$Album", "lostStrokeCost", "(IIII)I"⟩, 12), (⟨"CopiedSkins$Ages", "canReach", "(II)Z"⟩, 4), (⟨"CopiedSkins$Needle", "couldGive", "(IIII)Z"⟩, 7), (⟨"CopiedSkins$Needle", "nextTo", "(I)I"⟩, 7), (⟨"CopiedSkinsModel", "isPicture", "(I)Z"⟩, 30), (⟨"CopiedSkinsModel", "faultOf", "()I"⟩, 30), (⟨"CopiedSkinsModel", "lines", "()I"⟩, 30), (⟨"CopiedSkinsModel", "laySlips", "()V"⟩, 30), (⟨"CopiedSkinsModel", "costOf", "(II)I"⟩, 30), (⟨"CopiedSkinsModel", "layTrees", "()V"⟩, 30), (⟨"CopiedSkinsModel", "rows", "()I"⟩, 30), (⟨"CopiedSkinsModel", "layRow", "(I)I"⟩, 30)]
theorem lw_r1 : ∀ q ∈ lw_privs_1, lw_okq q := List.forall_mem_cons.mpr ⟨lw_p0, List.forall_mem_cons.mpr ⟨lw_p1, List.forall_mem_cons.mpr ⟨lw_p2, List.forall_mem_cons.mpr ⟨lw_p3, List.forall_mem_cons.mpr ⟨lw_p4, List.forall_mem_cons.mpr ⟨lw_p5, List.forall_mem_cons.mpr ⟨lw_p6, List.forall_mem_cons.mpr ⟨lw_p7, List.forall_mem_cons.mpr ⟨lw_p8, List.forall_mem_cons.mpr ⟨lw_p9, List.forall_mem_cons.mpr ⟨lw_p10, List.forall_mem_cons.mpr ⟨lw_p11, List.forall_mem_cons.mpr ⟨lw_p12, List.forall_mem_cons.mpr ⟨lw_p13, List.forall_mem_cons.mpr ⟨lw_p14, List.forall_mem_cons.mpr ⟨lw_p15, fun _ h => absurd h List.not_mem_nil⟩⟩⟩⟩⟩⟩⟩⟩⟩⟩⟩⟩⟩⟩⟩⟩
theorem lw_p16 : lw_okq (⟨"CopiedSkinsModel", "layAged", "(I)V"⟩, 30) := ⟨⟨by decide +kernel, by decide +kernel⟩, List.mem_of_getElem? (i := 572) (by decide +kernel), List.mem_of_getElem? (i := 779) (by decide +kernel), List.mem_of_getElem? (i := 780) (by decide +kernel)⟩
theorem lw_p17 : lw_okq (⟨"CopiedSkinsModel", "hidden", "(I)I"⟩, 30) := ⟨⟨by decide +kernel, by decide +kernel⟩, List.mem_of_getElem? (i := 572) (by decide +kernel), List.mem_of_getElem? (i := 795) (by decide +kernel), List.mem_of_getElem? (i := 796) (by decide +kernel)⟩
theorem lw_p18 : lw_okq (⟨"CopiedSkinsModel", "isMan", "(I)Z"⟩, 30) := ⟨⟨by decide +kernel, by decide +kernel⟩, List.mem_of_getElem? (i := 572) (by decide +kernel), List.mem_of_getElem? (i := 818) (by decide +kernel), List.mem_of_getElem? (i := 819) (by decide +kernel)⟩
theorem lw_p19 : lw_okq (⟨"CopiedSkinsModel", "fromOf", "(I)I"⟩, 30) := ⟨⟨by decide +kernel, by decide +kernel⟩, List.mem_of_getElem? (i := 572) (by decide +kernel), List.mem_of_getElem? (i := 830) (by decide +kernel), List.mem_of_getElem? (i := 831) (by decide +kernel)⟩
theorem lw_p20 : lw_okq (⟨"CopiedSkinsModel", "firstSet", "()I"⟩, 30) := ⟨⟨by decide +kernel, by decide +kernel⟩, List.mem_of_getElem? (i := 572) (by decide +kernel), List.mem_of_getElem? (i := 838) (by decide +kernel), List.mem_of_getElem? (i := 839) (by decide +kernel)⟩
theorem lw_p21 : lw_okq (⟨"CopiedSkinsModel", "sickSet", "()I"⟩, 30) := ⟨⟨by decide +kernel, by decide +kernel⟩, List.mem_of_getElem? (i := 572) (by decide +kernel), List.mem_of_getElem? (i := 842) (by decide +kernel), List.mem_of_getElem? (i := 843) (by decide +kernel)⟩
theorem lw_p22 : lw_okq (⟨"CopiedSkinsModel", "pathTo", "(II)I"⟩, 30) := ⟨⟨by decide +kernel, by decide +kernel⟩, List.mem_of_getElem? (i := 572) (by decide +kernel), List.mem_of_getElem? (i := 850) (by decide +kernel), List.mem_of_getElem? (i := 851) (by decide +kernel)⟩
def lw_privs_2 : List (MethodName × Nat) := [(⟨"CopiedSkinsModel", "layAged", "(I)V"⟩, 30), (⟨"CopiedSkinsModel", "hidden", "(I)I"⟩, 30), (⟨"CopiedSkinsModel", "isMan", "(I)Z"⟩, 30), (⟨"CopiedSkinsModel", "fromOf", "(I)I"⟩, 30), (⟨"CopiedSkinsModel", "firstSet", "()I"⟩, 30), (⟨"CopiedSkinsModel", "sickSet", "()I"⟩, 30), (⟨"CopiedSkinsModel", "pathTo", "(II)I"⟩, 30)]
theorem lw_r2 : ∀ q ∈ lw_privs_2, lw_okq q := List.forall_mem_cons.mpr ⟨lw_p16, List.forall_mem_cons.mpr ⟨lw_p17, List.forall_mem_cons.mpr ⟨lw_p18, List.forall_mem_cons.mpr ⟨lw_p19, List.forall_mem_cons.mpr ⟨lw_p20, List.forall_mem_cons.mpr ⟨lw_p21, List.forall_mem_cons.mpr ⟨lw_p22, fun _ h => absurd h List.not_mem_nil⟩⟩⟩⟩⟩⟩⟩
def lw_privs : List (MethodName × Nat) := lw_privs_1 ++ (lw_privs_2)
def lw_tbl : List Cond := k2_sels lw_privs ++ tables_1
theorem lw_privs_ok : ∀ q ∈ lw_privs, lw_okq q := by
  show ∀ q ∈ lw_privs_1 ++ (lw_privs_2), lw_okq q
  exact List.forall_mem_append.mpr ⟨lw_r1, lw_r2⟩
end
section
def RX0 : String := "CopiedSkins$Ages"
def TX0 : u_T := fun k => match k with
  | 0 => ("CopiedSkins$Ages", "first", "I", false)
  | 1 => ("CopiedSkins$Ages", "last", "I", false)
  | 2 => ("CopiedSkins$Ages", "count", "I", false)
  | _ => ("CopiedSkins$Ages", "album", "LCopiedSkins$Album;", true)
def tyX0 : Nat → FieldType := fun k => match k with
  | 0 => .int
  | 1 => .int
  | 2 => .int
  | _ => .object "CopiedSkins$Album"
abbrev wsX00 : List Cond := u_ws RX0 TX0 4
theorem nmX0 : ∀ a, a < 4 → ∀ b, b < 4 → a ≠ b → (TX0 a).2.1 ≠ (TX0 b).2.1 := by decide +kernel
theorem tyX0_ok : ∀ k, k < 4 → parseFieldDescriptor (TX0 k).2.2.1 = some (tyX0 k) := by decide +kernel
abbrev cX0_init : ByteArray := prog_2_method_1_code
def yX0_init : MethodName := ⟨RX0, "<init>", "(LCopiedSkins$Album;)V"⟩
abbrev cX0_measure : ByteArray := prog_2_method_2_code
def yX0_measure : MethodName := ⟨RX0, "measure", "(I)V"⟩
abbrev cX0_canReach : ByteArray := prog_2_method_3_code
def yX0_canReach : MethodName := ⟨RX0, "canReach", "(II)Z"⟩
def RX1 : String := "CopiedSkins$Album"
def TX1 : u_T := fun k => match k with
  | 0 => ("CopiedSkins$Album", "pictures", "I", false)
  | 1 => ("CopiedSkins$Album", "lines", "I", false)
  | 2 => ("CopiedSkins$Album", "drawings", "[I", true)
  | 3 => ("CopiedSkins$Album", "earliest", "[I", true)
  | 4 => ("CopiedSkins$Album", "latest", "[I", true)
  | 5 => ("CopiedSkins$Album", "widths", "[I", true)
  | 6 => ("CopiedSkins$Album", "slips", "[[I", true)
  | 7 => ("CopiedSkins$Album", "settings", "[I", true)
  | 8 => ("CopiedSkins$Album", "spanLeast", "[I", true)
  | 9 => ("CopiedSkins$Album", "spanGreatest", "[I", true)
  | 10 => ("CopiedSkins$Album", "plainHides", "[I", true)
  | _ => ("CopiedSkins$Album", "thickHides", "[I", true)
def tyX1 : Nat → FieldType := fun k => match k with
  | 0 => .int
  | 1 => .int
  | 2 => .array .int
  | 3 => .array .int
  | 4 => .array .int
  | 5 => .array .int
  | 6 => .array (.array .int)
  | 7 => .array .int
  | 8 => .array .int
  | 9 => .array .int
  | 10 => .array .int
  | _ => .array .int
abbrev wsX10 : List Cond := u_ws RX1 TX1 12
theorem nmX1 : ∀ a, a < 12 → ∀ b, b < 12 → a ≠ b → (TX1 a).2.1 ≠ (TX1 b).2.1 := by decide +kernel
theorem tyX1_ok : ∀ k, k < 12 → parseFieldDescriptor (TX1 k).2.2.1 = some (tyX1 k) := by decide +kernel
abbrev cX1_init : ByteArray := prog_3_method_1_code
def yX1_init : MethodName := ⟨RX1, "<init>", "()V"⟩
abbrev cX1_copyOf : ByteArray := prog_3_method_2_code
def yX1_copyOf : MethodName := ⟨RX1, "copyOf", "(LCopiedSkins$Album;)V"⟩
abbrev cX1_hasPicture : ByteArray := prog_3_method_3_code
def yX1_hasPicture : MethodName := ⟨RX1, "hasPicture", "(I)Z"⟩
abbrev cX1_addPicture : ByteArray := prog_3_method_4_code
def yX1_addPicture : MethodName := ⟨RX1, "addPicture", "(III)I"⟩
abbrev cX1_widthOrNone : ByteArray := prog_3_method_5_code
def yX1_widthOrNone : MethodName := ⟨RX1, "widthOrNone", "(I)I"⟩
abbrev cX1_tracingCost : ByteArray := prog_3_method_6_code
def yX1_tracingCost : MethodName := ⟨RX1, "tracingCost", "(II)I"⟩
abbrev cX1_lostDrawing : ByteArray := prog_3_method_7_code
def yX1_lostDrawing : MethodName := ⟨RX1, "lostDrawing", "(II)I"⟩
abbrev cX1_lostStrokeCost : ByteArray := prog_3_method_8_code
def yX1_lostStrokeCost : MethodName := ⟨RX1, "lostStrokeCost", "(IIII)I"⟩
abbrev cX1_throughCost : ByteArray := prog_3_method_9_code
def yX1_throughCost : MethodName := ⟨RX1, "throughCost", "(III)I"⟩
abbrev cX1_straightCost : ByteArray := prog_3_method_10_code
def yX1_straightCost : MethodName := ⟨RX1, "straightCost", "(II)I"⟩
abbrev cX1_hiddenBy : ByteArray := prog_3_method_11_code
def yX1_hiddenBy : MethodName := ⟨RX1, "hiddenBy", "(I)I"⟩
def RX2 : String := "CopiedSkins$Covers"
def TX2 : u_T := fun k => match k with
  | 0 => ("CopiedSkins$Covers", "album", "LCopiedSkins$Album;", true)
  | 1 => ("CopiedSkins$Covers", "bestInk", "I", false)
  | _ => ("CopiedSkins$Covers", "best", "I", false)
def tyX2 : Nat → FieldType := fun k => match k with
  | 0 => .object "CopiedSkins$Album"
  | 1 => .int
  | _ => .int
abbrev wsX20 : List Cond := u_ws RX2 TX2 3
theorem nmX2 : ∀ a, a < 3 → ∀ b, b < 3 → a ≠ b → (TX2 a).2.1 ≠ (TX2 b).2.1 := by decide +kernel
theorem tyX2_ok : ∀ k, k < 3 → parseFieldDescriptor (TX2 k).2.2.1 = some (tyX2 k) := by decide +kernel
abbrev cX2_init : ByteArray := prog_4_method_1_code
def yX2_init : MethodName := ⟨RX2, "<init>", "(LCopiedSkins$Album;)V"⟩
abbrev cX2_leastOver : ByteArray := prog_4_method_2_code
def yX2_leastOver : MethodName := ⟨RX2, "leastOver", "(I)I"⟩
abbrev cX2_search : ByteArray := prog_4_method_3_code
def yX2_search : MethodName := ⟨RX2, "search", "(LCopiedSkins$Covers;IIII)V"⟩
def RX3 : String := "CopiedSkins$LawText"
def TX3 : u_T := fun k => match k with
  | 0 => ("CopiedSkins$LawText", "count", "I", false)
  | _ => ("CopiedSkins$LawText", "signs", "[I", true)
def tyX3 : Nat → FieldType := fun k => match k with
  | 0 => .int
  | _ => .array .int
abbrev wsX30 : List Cond := u_ws RX3 TX3 2
theorem nmX3 : ∀ a, a < 2 → ∀ b, b < 2 → a ≠ b → (TX3 a).2.1 ≠ (TX3 b).2.1 := by decide +kernel
theorem tyX3_ok : ∀ k, k < 2 → parseFieldDescriptor (TX3 k).2.2.1 = some (tyX3 k) := by decide +kernel
abbrev cX3_init : ByteArray := prog_5_method_1_code
def yX3_init : MethodName := ⟨RX3, "<init>", "()V"⟩
abbrev cX3_append : ByteArray := prog_5_method_2_code
def yX3_append : MethodName := ⟨RX3, "append", "(I)V"⟩
abbrev cX3_faultPlace : ByteArray := prog_5_method_3_code
def yX3_faultPlace : MethodName := ⟨RX3, "faultPlace", "()I"⟩
abbrev cX3_placeAfter : ByteArray := prog_5_method_4_code
def yX3_placeAfter : MethodName := ⟨RX3, "placeAfter", "(II)I"⟩
abbrev cX3_afterLine : ByteArray := prog_5_method_5_code
def yX3_afterLine : MethodName := ⟨RX3, "afterLine", "(I)I"⟩
abbrev cX3_isDigit : ByteArray := prog_5_method_6_code
def yX3_isDigit : MethodName := ⟨RX3, "isDigit", "(I)Z"⟩
abbrev cX3_readInto : ByteArray := prog_5_method_7_code
def yX3_readInto : MethodName := ⟨RX3, "readInto", "([[I)I"⟩
abbrev cX3_fill : ByteArray := prog_5_method_8_code
def yX3_fill : MethodName := ⟨RX3, "fill", "([[IIII)V"⟩
abbrev cX3_fits : ByteArray := prog_5_method_9_code
def yX3_fits : MethodName := ⟨RX3, "fits", "(II)Z"⟩
def RX4 : String := "CopiedSkins$Needle"
def TX4 : u_T := fun k => match k with
  | 0 => ("CopiedSkins$Needle", "men", "I", false)
  | 1 => ("CopiedSkins$Needle", "meetings", "I", false)
  | 2 => ("CopiedSkins$Needle", "firstMen", "I", false)
  | 3 => ("CopiedSkins$Needle", "sickDays", "[I", true)
  | 4 => ("CopiedSkins$Needle", "meetingMen", "[I", true)
  | 5 => ("CopiedSkins$Needle", "meetingDays", "[I", true)
  | _ => ("CopiedSkins$Needle", "givers", "[I", true)
def tyX4 : Nat → FieldType := fun k => match k with
  | 0 => .int
  | 1 => .int
  | 2 => .int
  | 3 => .array .int
  | 4 => .array .int
  | 5 => .array .int
  | _ => .array .int
abbrev wsX40 : List Cond := u_ws RX4 TX4 7
theorem nmX4 : ∀ a, a < 7 → ∀ b, b < 7 → a ≠ b → (TX4 a).2.1 ≠ (TX4 b).2.1 := by decide +kernel
theorem tyX4_ok : ∀ k, k < 7 → parseFieldDescriptor (TX4 k).2.2.1 = some (tyX4 k) := by decide +kernel
abbrev cX4_init : ByteArray := prog_6_method_1_code
def yX4_init : MethodName := ⟨RX4, "<init>", "()V"⟩
abbrev cX4_hasMan : ByteArray := prog_6_method_2_code
def yX4_hasMan : MethodName := ⟨RX4, "hasMan", "(I)Z"⟩
abbrev cX4_lastDay : ByteArray := prog_6_method_3_code
def yX4_lastDay : MethodName := ⟨RX4, "lastDay", "()I"⟩
abbrev cX4_addMeeting : ByteArray := prog_6_method_4_code
def yX4_addMeeting : MethodName := ⟨RX4, "addMeeting", "(II)I"⟩
abbrev cX4_sickMen : ByteArray := prog_6_method_5_code
def yX4_sickMen : MethodName := ⟨RX4, "sickMen", "()I"⟩
abbrev cX4_giversOf : ByteArray := prog_6_method_6_code
def yX4_giversOf : MethodName := ⟨RX4, "giversOf", "(III)I"⟩
abbrev cX4_couldGive : ByteArray := prog_6_method_7_code
def yX4_couldGive : MethodName := ⟨RX4, "couldGive", "(IIII)Z"⟩
abbrev cX4_trace : ByteArray := prog_6_method_8_code
def yX4_trace : MethodName := ⟨RX4, "trace", "(II)V"⟩
abbrev cX4_shortestPathTo : ByteArray := prog_6_method_9_code
def yX4_shortestPathTo : MethodName := ⟨RX4, "shortestPathTo", "(II)I"⟩
abbrev cX4_nextTo : ByteArray := prog_6_method_10_code
def yX4_nextTo : MethodName := ⟨RX4, "nextTo", "(I)I"⟩
abbrev cX4_onAllPathsTo : ByteArray := prog_6_method_11_code
def yX4_onAllPathsTo : MethodName := ⟨RX4, "onAllPathsTo", "(I)I"⟩
def RX5 : String := "CopiedSkins$Trees"
def TX5 : u_T := fun k => match k with
  | 0 => ("CopiedSkins$Trees", "count", "I", false)
  | 1 => ("CopiedSkins$Trees", "leastCost", "I", false)
  | 2 => ("CopiedSkins$Trees", "rows", "[I", false)
  | 3 => ("CopiedSkins$Trees", "costs", "[I", false)
  | 4 => ("CopiedSkins$Trees", "album", "LCopiedSkins$Album;", true)
  | 5 => ("CopiedSkins$Trees", "known", "Z", false)
  | 6 => ("CopiedSkins$Trees", "pictures", "I", false)
  | 7 => ("CopiedSkins$Trees", "newCost", "I", false)
  | 8 => ("CopiedSkins$Trees", "sources", "[I", true)
  | 9 => ("CopiedSkins$Trees", "tracing", "[[I", true)
  | _ => ("CopiedSkins$Trees", "mayTrace", "[Z", true)
def tyX5 : Nat → FieldType := fun k => match k with
  | 0 => .int
  | 1 => .int
  | 2 => .array .int
  | 3 => .array .int
  | 4 => .object "CopiedSkins$Album"
  | 5 => .boolean
  | 6 => .int
  | 7 => .int
  | 8 => .array .int
  | 9 => .array (.array .int)
  | _ => .array .boolean
abbrev wsX50 : List Cond := u_ws RX5 TX5 11
theorem nmX5 : ∀ a, a < 11 → ∀ b, b < 11 → a ≠ b → (TX5 a).2.1 ≠ (TX5 b).2.1 := by decide +kernel
theorem tyX5_ok : ∀ k, k < 11 → parseFieldDescriptor (TX5 k).2.2.1 = some (tyX5 k) := by decide +kernel
abbrev cX5_init : ByteArray := prog_7_method_1_code
def yX5_init : MethodName := ⟨RX5, "<init>", "(LCopiedSkins$Album;)V"⟩
abbrev cX5_forget : ByteArray := prog_7_method_2_code
def yX5_forget : MethodName := ⟨RX5, "forget", "()V"⟩
abbrev cX5_learn : ByteArray := prog_7_method_3_code
def yX5_learn : MethodName := ⟨RX5, "learn", "()V"⟩
abbrev cX5_makeRoom : ByteArray := prog_7_method_4_code
def yX5_makeRoom : MethodName := ⟨RX5, "makeRoom", "(I)V"⟩
abbrev cX5_grow : ByteArray := prog_7_method_5_code
def yX5_grow : MethodName := ⟨RX5, "grow", "(LCopiedSkins$Trees;III)V"⟩
abbrev cX5_put : ByteArray := prog_7_method_6_code
def yX5_put : MethodName := ⟨RX5, "put", "(II)V"⟩
abbrev cX5_comesFrom : ByteArray := prog_7_method_7_code
def yX5_comesFrom : MethodName := ⟨RX5, "comesFrom", "(II)Z"⟩
abbrev cX5_sourceIn : ByteArray := prog_7_method_8_code
def yX5_sourceIn : MethodName := ⟨RX5, "sourceIn", "(II)I"⟩
abbrev cX5_countWithin : ByteArray := prog_7_method_9_code
def yX5_countWithin : MethodName := ⟨RX5, "countWithin", "(I)I"⟩
abbrev cX5_placeOfKept : ByteArray := prog_7_method_10_code
def yX5_placeOfKept : MethodName := ⟨RX5, "placeOfKept", "(II)I"⟩
abbrev cX5_alwaysFrom : ByteArray := prog_7_method_11_code
def yX5_alwaysFrom : MethodName := ⟨RX5, "alwaysFrom", "(II)I"⟩
abbrev cX5_tracedFrom : ByteArray := prog_7_method_12_code
def yX5_tracedFrom : MethodName := ⟨RX5, "tracedFrom", "(II)I"⟩
def RX6 : String := "CopiedSkins"
def TX6 : u_T := fun k => match k with
  | 0 => ("CopiedSkins", "album", "LCopiedSkins$Album;", true)
  | 1 => ("CopiedSkins", "images", "[LCopiedSkins$Album;", true)
  | 2 => ("CopiedSkins", "text", "LCopiedSkins$LawText;", true)
  | 3 => ("CopiedSkins", "trees", "LCopiedSkins$Trees;", true)
  | 4 => ("CopiedSkins", "ages", "LCopiedSkins$Ages;", true)
  | 5 => ("CopiedSkins", "covers", "LCopiedSkins$Covers;", true)
  | _ => ("CopiedSkins", "needle", "LCopiedSkins$Needle;", true)
def tyX6 : Nat → FieldType := fun k => match k with
  | 0 => .object "CopiedSkins$Album"
  | 1 => .array (.object "CopiedSkins$Album")
  | 2 => .object "CopiedSkins$LawText"
  | 3 => .object "CopiedSkins$Trees"
  | 4 => .object "CopiedSkins$Ages"
  | 5 => .object "CopiedSkins$Covers"
  | _ => .object "CopiedSkins$Needle"
abbrev wsX60 : List Cond := u_ws RX6 TX6 7
theorem nmX6 : ∀ a, a < 7 → ∀ b, b < 7 → a ≠ b → (TX6 a).2.1 ≠ (TX6 b).2.1 := by decide +kernel
theorem tyX6_ok : ∀ k, k < 7 → parseFieldDescriptor (TX6 k).2.2.1 = some (tyX6 k) := by decide +kernel
abbrev cX6_init : ByteArray := prog_1_method_1_code
def yX6_init : MethodName := ⟨RX6, "<init>", "()V"⟩
abbrev cX6_picture : ByteArray := prog_1_method_2_code
def yX6_picture : MethodName := ⟨RX6, "picture", "(III)I"⟩
abbrev cX6_about : ByteArray := prog_1_method_3_code
def yX6_about : MethodName := ⟨RX6, "about", "(II)I"⟩
abbrev cX6_set : ByteArray := prog_1_method_4_code
def yX6_set : MethodName := ⟨RX6, "set", "(II)I"⟩
abbrev cX6_say : ByteArray := prog_1_method_5_code
def yX6_say : MethodName := ⟨RX6, "say", "(I)I"⟩
abbrev cX6_wipe : ByteArray := prog_1_method_6_code
def yX6_wipe : MethodName := ⟨RX6, "wipe", "()I"⟩
abbrev cX6_fault : ByteArray := prog_1_method_7_code
def yX6_fault : MethodName := ⟨RX6, "fault", "()I"⟩
abbrev cX6_law : ByteArray := prog_1_method_8_code
def yX6_law : MethodName := ⟨RX6, "law", "()I"⟩
abbrev cX6_slip : ByteArray := prog_1_method_9_code
def yX6_slip : MethodName := ⟨RX6, "slip", "(II)I"⟩
abbrev cX6_cost : ByteArray := prog_1_method_10_code
def yX6_cost : MethodName := ⟨RX6, "cost", "(II)I"⟩
abbrev cX6_least : ByteArray := prog_1_method_11_code
def yX6_least : MethodName := ⟨RX6, "least", "(I)I"⟩
abbrev cX6_kept : ByteArray := prog_1_method_12_code
def yX6_kept : MethodName := ⟨RX6, "kept", "(III)I"⟩
abbrev cX6_sure : ByteArray := prog_1_method_13_code
def yX6_sure : MethodName := ⟨RX6, "sure", "(II)I"⟩
abbrev cX6_lost : ByteArray := prog_1_method_14_code
def yX6_lost : MethodName := ⟨RX6, "lost", "(III)I"⟩
abbrev cX6_width : ByteArray := prog_1_method_15_code
def yX6_width : MethodName := ⟨RX6, "width", "(II)I"⟩
abbrev cX6_spread : ByteArray := prog_1_method_16_code
def yX6_spread : MethodName := ⟨RX6, "spread", "(III)I"⟩
abbrev cX6_aged : ByteArray := prog_1_method_17_code
def yX6_aged : MethodName := ⟨RX6, "aged", "(II)I"⟩
abbrev cX6_take : ByteArray := prog_1_method_18_code
def yX6_take : MethodName := ⟨RX6, "take", "(I)I"⟩
abbrev cX6_hide : ByteArray := prog_1_method_19_code
def yX6_hide : MethodName := ⟨RX6, "hide", "(IZI)I"⟩
abbrev cX6_hides : ByteArray := prog_1_method_20_code
def yX6_hides : MethodName := ⟨RX6, "hides", "(II)I"⟩
abbrev cX6_cover : ByteArray := prog_1_method_21_code
def yX6_cover : MethodName := ⟨RX6, "cover", "(I)I"⟩
abbrev cX6_under : ByteArray := prog_1_method_22_code
def yX6_under : MethodName := ⟨RX6, "under", "(I)I"⟩
abbrev cX6_man : ByteArray := prog_1_method_23_code
def yX6_man : MethodName := ⟨RX6, "man", "()I"⟩
abbrev cX6_meet : ByteArray := prog_1_method_24_code
def yX6_meet : MethodName := ⟨RX6, "meet", "(II)I"⟩
abbrev cX6_sick : ByteArray := prog_1_method_25_code
def yX6_sick : MethodName := ⟨RX6, "sick", "(II)I"⟩
abbrev cX6_from : ByteArray := prog_1_method_26_code
def yX6_from : MethodName := ⟨RX6, "from", "(I)I"⟩
abbrev cX6_firsts : ByteArray := prog_1_method_27_code
def yX6_firsts : MethodName := ⟨RX6, "firsts", "(I)I"⟩
abbrev cX6_must : ByteArray := prog_1_method_28_code
def yX6_must : MethodName := ⟨RX6, "must", "(II)I"⟩
abbrev cX6_image : ByteArray := prog_1_method_29_code
def yX6_image : MethodName := ⟨RX6, "image", "(I)I"⟩
abbrev cX6_restore : ByteArray := prog_1_method_30_code
def yX6_restore : MethodName := ⟨RX6, "restore", "(I)I"⟩
abbrev cX6_told : ByteArray := prog_1_method_31_code
def yX6_told : MethodName := ⟨RX6, "told", "(I)I"⟩
abbrev cX6_within : ByteArray := prog_1_method_32_code
def yX6_within : MethodName := ⟨RX6, "within", "(III)Z"⟩
abbrev cX6_isSpan : ByteArray := prog_1_method_33_code
def yX6_isSpan : MethodName := ⟨RX6, "isSpan", "(IIII)Z"⟩
abbrev cX6_isDrawing : ByteArray := prog_1_method_34_code
def yX6_isDrawing : MethodName := ⟨RX6, "isDrawing", "(I)Z"⟩
abbrev cX6_hasBit : ByteArray := prog_1_method_35_code
def yX6_hasBit : MethodName := ⟨RX6, "hasBit", "(II)Z"⟩
abbrev cX6_strokeOf : ByteArray := prog_1_method_36_code
def yX6_strokeOf : MethodName := ⟨RX6, "strokeOf", "(II)I"⟩
abbrev cX6_strokesIn : ByteArray := prog_1_method_37_code
def yX6_strokesIn : MethodName := ⟨RX6, "strokesIn", "(I)I"⟩
abbrev cX6_inkOf : ByteArray := prog_1_method_38_code
def yX6_inkOf : MethodName := ⟨RX6, "inkOf", "(I)I"⟩
abbrev cX6_mayLieUnder : ByteArray := prog_1_method_39_code
def yX6_mayLieUnder : MethodName := ⟨RX6, "mayLieUnder", "(III)Z"⟩
def RX7 : String := "CopiedSkinsModel"
def TX7 : u_T := fun k => match k with
  | 0 => ("CopiedSkinsModel", "pictures", "I", false)
  | 1 => ("CopiedSkinsModel", "drawing", "[I", true)
  | 2 => ("CopiedSkinsModel", "least", "[I", true)
  | 3 => ("CopiedSkinsModel", "greatest", "[I", true)
  | 4 => ("CopiedSkinsModel", "width", "[I", true)
  | 5 => ("CopiedSkinsModel", "told", "[I", true)
  | 6 => ("CopiedSkinsModel", "signs", "I", false)
  | 7 => ("CopiedSkinsModel", "sign", "[I", true)
  | 8 => ("CopiedSkinsModel", "ruled", "I", false)
  | 9 => ("CopiedSkinsModel", "ruleSign", "[I", true)
  | 10 => ("CopiedSkinsModel", "spreads", "[I", true)
  | 11 => ("CopiedSkinsModel", "plain", "[I", true)
  | 12 => ("CopiedSkinsModel", "thick", "[I", true)
  | 13 => ("CopiedSkinsModel", "men", "I", false)
  | 14 => ("CopiedSkinsModel", "sickOn", "[I", true)
  | 15 => ("CopiedSkinsModel", "meetings", "I", false)
  | 16 => ("CopiedSkinsModel", "meetMan", "[I", true)
  | 17 => ("CopiedSkinsModel", "meetDay", "[I", true)
  | 18 => ("CopiedSkinsModel", "isLaid", "Z", false)
  | 19 => ("CopiedSkinsModel", "slips", "[I", true)
  | 20 => ("CopiedSkinsModel", "trace", "[I", true)
  | 21 => ("CopiedSkinsModel", "row", "[I", true)
  | 22 => ("CopiedSkinsModel", "leastCost", "I", false)
  | 23 => ("CopiedSkinsModel", "leastMany", "I", false)
  | 24 => ("CopiedSkinsModel", "trees", "I", false)
  | 25 => ("CopiedSkinsModel", "agedFirst", "I", false)
  | 26 => ("CopiedSkinsModel", "agedLast", "I", false)
  | 27 => ("CopiedSkinsModel", "agedMany", "I", false)
  | 28 => ("CopiedSkinsModel", "image", "[I", true)
  | _ => ("CopiedSkinsModel", "isKept", "[Z", true)
def tyX7 : Nat → FieldType := fun k => match k with
  | 0 => .int
  | 1 => .array .int
  | 2 => .array .int
  | 3 => .array .int
  | 4 => .array .int
  | 5 => .array .int
  | 6 => .int
  | 7 => .array .int
  | 8 => .int
  | 9 => .array .int
  | 10 => .array .int
  | 11 => .array .int
  | 12 => .array .int
  | 13 => .int
  | 14 => .array .int
  | 15 => .int
  | 16 => .array .int
  | 17 => .array .int
  | 18 => .boolean
  | 19 => .array .int
  | 20 => .array .int
  | 21 => .array .int
  | 22 => .int
  | 23 => .int
  | 24 => .int
  | 25 => .int
  | 26 => .int
  | 27 => .int
  | 28 => .array .int
  | _ => .array .boolean
abbrev wsX70 : List Cond := u_ws RX7 TX7 30
theorem nmX7 : ∀ a, a < 30 → ∀ b, b < 30 → a ≠ b → (TX7 a).2.1 ≠ (TX7 b).2.1 := by decide +kernel
theorem tyX7_ok : ∀ k, k < 30 → parseFieldDescriptor (TX7 k).2.2.1 = some (tyX7 k) := by decide +kernel
abbrev cX7_init : ByteArray := prog_9_method_1_code
def yX7_init : MethodName := ⟨RX7, "<init>", "()V"⟩
abbrev cX7_in : ByteArray := prog_9_method_2_code
def yX7_in : MethodName := ⟨RX7, "in", "(III)Z"⟩
abbrev cX7_isPicture : ByteArray := prog_9_method_3_code
def yX7_isPicture : MethodName := ⟨RX7, "isPicture", "(I)Z"⟩
abbrev cX7_isDrawing : ByteArray := prog_9_method_4_code
def yX7_isDrawing : MethodName := ⟨RX7, "isDrawing", "(I)Z"⟩
abbrev cX7_isYear : ByteArray := prog_9_method_5_code
def yX7_isYear : MethodName := ⟨RX7, "isYear", "(I)Z"⟩
abbrev cX7_strokeOf : ByteArray := prog_9_method_6_code
def yX7_strokeOf : MethodName := ⟨RX7, "strokeOf", "(II)I"⟩
abbrev cX7_picture : ByteArray := prog_9_method_7_code
def yX7_picture : MethodName := ⟨RX7, "picture", "(III)I"⟩
abbrev cX7_about : ByteArray := prog_9_method_8_code
def yX7_about : MethodName := ⟨RX7, "about", "(II)I"⟩
abbrev cX7_set : ByteArray := prog_9_method_9_code
def yX7_set : MethodName := ⟨RX7, "set", "(II)I"⟩
abbrev cX7_say : ByteArray := prog_9_method_10_code
def yX7_say : MethodName := ⟨RX7, "say", "(I)I"⟩
abbrev cX7_wipe : ByteArray := prog_9_method_11_code
def yX7_wipe : MethodName := ⟨RX7, "wipe", "()I"⟩
abbrev cX7_faultOf : ByteArray := prog_9_method_12_code
def yX7_faultOf : MethodName := ⟨RX7, "faultOf", "()I"⟩
abbrev cX7_fault : ByteArray := prog_9_method_13_code
def yX7_fault : MethodName := ⟨RX7, "fault", "()I"⟩
abbrev cX7_lines : ByteArray := prog_9_method_14_code
def yX7_lines : MethodName := ⟨RX7, "lines", "()I"⟩
abbrev cX7_laySlips : ByteArray := prog_9_method_15_code
def yX7_laySlips : MethodName := ⟨RX7, "laySlips", "()V"⟩
abbrev cX7_law : ByteArray := prog_9_method_16_code
def yX7_law : MethodName := ⟨RX7, "law", "()I"⟩
abbrev cX7_slip : ByteArray := prog_9_method_17_code
def yX7_slip : MethodName := ⟨RX7, "slip", "(II)I"⟩
abbrev cX7_costOf : ByteArray := prog_9_method_18_code
def yX7_costOf : MethodName := ⟨RX7, "costOf", "(II)I"⟩
abbrev cX7_cost : ByteArray := prog_9_method_19_code
def yX7_cost : MethodName := ⟨RX7, "cost", "(II)I"⟩
abbrev cX7_rows : ByteArray := prog_9_method_20_code
def yX7_rows : MethodName := ⟨RX7, "rows", "()I"⟩
abbrev cX7_layRow : ByteArray := prog_9_method_21_code
def yX7_layRow : MethodName := ⟨RX7, "layRow", "(I)I"⟩
abbrev cX7_layTrees : ByteArray := prog_9_method_22_code
def yX7_layTrees : MethodName := ⟨RX7, "layTrees", "()V"⟩
abbrev cX7_least : ByteArray := prog_9_method_23_code
def yX7_least : MethodName := ⟨RX7, "least", "(I)I"⟩
abbrev cX7_kept : ByteArray := prog_9_method_24_code
def yX7_kept : MethodName := ⟨RX7, "kept", "(III)I"⟩
abbrev cX7_sure : ByteArray := prog_9_method_25_code
def yX7_sure : MethodName := ⟨RX7, "sure", "(II)I"⟩
abbrev cX7_lost : ByteArray := prog_9_method_26_code
def yX7_lost : MethodName := ⟨RX7, "lost", "(III)I"⟩
abbrev cX7_width : ByteArray := prog_9_method_27_code
def yX7_width : MethodName := ⟨RX7, "width", "(II)I"⟩
abbrev cX7_spread : ByteArray := prog_9_method_28_code
def yX7_spread : MethodName := ⟨RX7, "spread", "(III)I"⟩
abbrev cX7_layAged : ByteArray := prog_9_method_29_code
def yX7_layAged : MethodName := ⟨RX7, "layAged", "(I)V"⟩
abbrev cX7_aged : ByteArray := prog_9_method_30_code
def yX7_aged : MethodName := ⟨RX7, "aged", "(II)I"⟩
abbrev cX7_take : ByteArray := prog_9_method_31_code
def yX7_take : MethodName := ⟨RX7, "take", "(I)I"⟩
abbrev cX7_hide : ByteArray := prog_9_method_32_code
def yX7_hide : MethodName := ⟨RX7, "hide", "(IZI)I"⟩
abbrev cX7_hidden : ByteArray := prog_9_method_33_code
def yX7_hidden : MethodName := ⟨RX7, "hidden", "(I)I"⟩
abbrev cX7_ink : ByteArray := prog_9_method_34_code
def yX7_ink : MethodName := ⟨RX7, "ink", "(I)I"⟩
abbrev cX7_hides : ByteArray := prog_9_method_35_code
def yX7_hides : MethodName := ⟨RX7, "hides", "(II)I"⟩
abbrev cX7_cover : ByteArray := prog_9_method_36_code
def yX7_cover : MethodName := ⟨RX7, "cover", "(I)I"⟩
abbrev cX7_under : ByteArray := prog_9_method_37_code
def yX7_under : MethodName := ⟨RX7, "under", "(I)I"⟩
abbrev cX7_isMan : ByteArray := prog_9_method_38_code
def yX7_isMan : MethodName := ⟨RX7, "isMan", "(I)Z"⟩
abbrev cX7_man : ByteArray := prog_9_method_39_code
def yX7_man : MethodName := ⟨RX7, "man", "()I"⟩
abbrev cX7_meet : ByteArray := prog_9_method_40_code
def yX7_meet : MethodName := ⟨RX7, "meet", "(II)I"⟩
abbrev cX7_sick : ByteArray := prog_9_method_41_code
def yX7_sick : MethodName := ⟨RX7, "sick", "(II)I"⟩
abbrev cX7_fromOf : ByteArray := prog_9_method_42_code
def yX7_fromOf : MethodName := ⟨RX7, "fromOf", "(I)I"⟩
abbrev cX7_from : ByteArray := prog_9_method_43_code
def yX7_from : MethodName := ⟨RX7, "from", "(I)I"⟩
abbrev cX7_sickSet : ByteArray := prog_9_method_44_code
def yX7_sickSet : MethodName := ⟨RX7, "sickSet", "()I"⟩
abbrev cX7_firstSet : ByteArray := prog_9_method_45_code
def yX7_firstSet : MethodName := ⟨RX7, "firstSet", "()I"⟩
abbrev cX7_firsts : ByteArray := prog_9_method_46_code
def yX7_firsts : MethodName := ⟨RX7, "firsts", "(I)I"⟩
abbrev cX7_pathTo : ByteArray := prog_9_method_47_code
def yX7_pathTo : MethodName := ⟨RX7, "pathTo", "(II)I"⟩
abbrev cX7_must : ByteArray := prog_9_method_48_code
def yX7_must : MethodName := ⟨RX7, "must", "(II)I"⟩
abbrev cX7_image : ByteArray := prog_9_method_49_code
def yX7_image : MethodName := ⟨RX7, "image", "(I)I"⟩
abbrev cX7_restore : ByteArray := prog_9_method_50_code
def yX7_restore : MethodName := ⟨RX7, "restore", "(I)I"⟩
abbrev cX7_told : ByteArray := prog_9_method_51_code
def yX7_told : MethodName := ⟨RX7, "told", "(I)I"⟩
def RJ9 : String := "java/lang/Math"
abbrev cJ9_max_7cf53 : ByteArray := prog_10_method_65_code
def yJ9_max_7cf53 : MethodName := ⟨RJ9, "max", "(II)I"⟩
abbrev cJ9_min_7cf53 : ByteArray := prog_10_method_69_code
def yJ9_min_7cf53 : MethodName := ⟨RJ9, "min", "(II)I"⟩
def RJ10 : String := "java/lang/System"
def RL : String := "CopiedSkinsLaw"
abbrev cL_law : ByteArray := code
def yL_law : MethodName := ⟨RL, "law", "([I)Z"⟩
end
section
theorem dX0_init_0 : decode cX0_init 0 = .ok (.aload_n 0, 1) := by decide +kernel
theorem dX0_init_1 : decode cX0_init 1 = .ok (.invokespecial 3, 3) := by decide +kernel
theorem dX0_init_4 : decode cX0_init 4 = .ok (.aload_n 0, 1) := by decide +kernel
theorem dX0_init_5 : decode cX0_init 5 = .ok (.aload_n 1, 1) := by decide +kernel
theorem dX0_init_6 : decode cX0_init 6 = .ok (.putfield 9, 3) := by decide +kernel
theorem dX0_init_9 : decode cX0_init 9 = .ok (.return_, 1) := by decide +kernel
theorem dX0_measure_0 : decode cX0_measure 0 = .ok (.aload_n 0, 1) := by decide +kernel
theorem dX0_measure_1 : decode cX0_measure 1 = .ok (.iconst 0, 1) := by decide +kernel
theorem dX0_measure_2 : decode cX0_measure 2 = .ok (.putfield 15, 3) := by decide +kernel
theorem dX0_measure_5 : decode cX0_measure 5 = .ok (.aload_n 0, 1) := by decide +kernel
theorem dX0_measure_6 : decode cX0_measure 6 = .ok (.iconst 0, 1) := by decide +kernel
theorem dX0_measure_7 : decode cX0_measure 7 = .ok (.putfield 19, 3) := by decide +kernel
theorem dX0_measure_10 : decode cX0_measure 10 = .ok (.aload_n 0, 1) := by decide +kernel
theorem dX0_measure_11 : decode cX0_measure 11 = .ok (.iconst 0, 1) := by decide +kernel
theorem dX0_measure_12 : decode cX0_measure 12 = .ok (.putfield 22, 3) := by decide +kernel
theorem dX0_measure_15 : decode cX0_measure 15 = .ok (.aload_n 0, 1) := by decide +kernel
theorem dX0_measure_16 : decode cX0_measure 16 = .ok (.getfield 9, 3) := by decide +kernel
theorem dX0_measure_19 : decode cX0_measure 19 = .ok (.getfield 25, 3) := by decide +kernel
theorem dX0_measure_22 : decode cX0_measure 22 = .ok (.iconst 1, 1) := by decide +kernel
theorem dX0_measure_23 : decode cX0_measure 23 = .ok (.iaload, 1) := by decide +kernel
theorem dX0_measure_24 : decode cX0_measure 24 = .ok (.istore_n 2, 1) := by decide +kernel
theorem dX0_measure_25 : decode cX0_measure 25 = .ok (.iconst 0, 1) := by decide +kernel
theorem dX0_measure_26 : decode cX0_measure 26 = .ok (.istore_n 3, 1) := by decide +kernel
theorem dX0_measure_27 : decode cX0_measure 27 = .ok (.iload_n 3, 1) := by decide +kernel
theorem dX0_measure_28 : decode cX0_measure 28 = .ok (.iload_n 2, 1) := by decide +kernel
theorem dX0_measure_29 : decode cX0_measure 29 = .ok (.if_icmp .gt 47, 3) := by decide +kernel
theorem dX0_measure_32 : decode cX0_measure 32 = .ok (.aload_n 0, 1) := by decide +kernel
theorem dX0_measure_33 : decode cX0_measure 33 = .ok (.iload_n 1, 1) := by decide +kernel
theorem dX0_measure_34 : decode cX0_measure 34 = .ok (.iload_n 2, 1) := by decide +kernel
theorem dX0_measure_35 : decode cX0_measure 35 = .ok (.iload_n 3, 1) := by decide +kernel
theorem dX0_measure_36 : decode cX0_measure 36 = .ok (.isub, 1) := by decide +kernel
theorem dX0_measure_37 : decode cX0_measure 37 = .ok (.invokevirtual 31, 3) := by decide +kernel
theorem dX0_measure_40 : decode cX0_measure 40 = .ok (.ifCond .eq 30, 3) := by decide +kernel
theorem dX0_measure_43 : decode cX0_measure 43 = .ok (.aload_n 0, 1) := by decide +kernel
theorem dX0_measure_44 : decode cX0_measure 44 = .ok (.getfield 22, 3) := by decide +kernel
theorem dX0_measure_47 : decode cX0_measure 47 = .ok (.ifCond .ne 8, 3) := by decide +kernel
theorem dX0_measure_50 : decode cX0_measure 50 = .ok (.aload_n 0, 1) := by decide +kernel
theorem dX0_measure_51 : decode cX0_measure 51 = .ok (.iload_n 3, 1) := by decide +kernel
theorem dX0_measure_52 : decode cX0_measure 52 = .ok (.putfield 15, 3) := by decide +kernel
theorem dX0_measure_55 : decode cX0_measure 55 = .ok (.aload_n 0, 1) := by decide +kernel
theorem dX0_measure_56 : decode cX0_measure 56 = .ok (.iload_n 3, 1) := by decide +kernel
theorem dX0_measure_57 : decode cX0_measure 57 = .ok (.putfield 19, 3) := by decide +kernel
theorem dX0_measure_60 : decode cX0_measure 60 = .ok (.aload_n 0, 1) := by decide +kernel
theorem dX0_measure_61 : decode cX0_measure 61 = .ok (.dup, 1) := by decide +kernel
theorem dX0_measure_62 : decode cX0_measure 62 = .ok (.getfield 22, 3) := by decide +kernel
theorem dX0_measure_65 : decode cX0_measure 65 = .ok (.iconst 1, 1) := by decide +kernel
theorem dX0_measure_66 : decode cX0_measure 66 = .ok (.iadd, 1) := by decide +kernel
theorem dX0_measure_67 : decode cX0_measure 67 = .ok (.putfield 22, 3) := by decide +kernel
theorem dX0_measure_70 : decode cX0_measure 70 = .ok (.iinc 3 1, 3) := by decide +kernel
theorem dX0_measure_73 : decode cX0_measure 73 = .ok (.goto (-46), 3) := by decide +kernel
theorem dX0_measure_76 : decode cX0_measure 76 = .ok (.return_, 1) := by decide +kernel
theorem dX0_canReach_0 : decode cX0_canReach 0 = .ok (.aload_n 0, 1) := by decide +kernel
theorem dX0_canReach_1 : decode cX0_canReach 1 = .ok (.getfield 9, 3) := by decide +kernel
theorem dX0_canReach_4 : decode cX0_canReach 4 = .ok (.getfield 35, 3) := by decide +kernel
theorem dX0_canReach_7 : decode cX0_canReach 7 = .ok (.iconst 1, 1) := by decide +kernel
theorem dX0_canReach_8 : decode cX0_canReach 8 = .ok (.iaload, 1) := by decide +kernel
theorem dX0_canReach_9 : decode cX0_canReach 9 = .ok (.istore_n 3, 1) := by decide +kernel
theorem dX0_canReach_10 : decode cX0_canReach 10 = .ok (.iload_n 3, 1) := by decide +kernel
theorem dX0_canReach_11 : decode cX0_canReach 11 = .ok (.aload_n 0, 1) := by decide +kernel
theorem dX0_canReach_12 : decode cX0_canReach 12 = .ok (.getfield 9, 3) := by decide +kernel
theorem dX0_canReach_15 : decode cX0_canReach 15 = .ok (.getfield 38, 3) := by decide +kernel
theorem dX0_canReach_18 : decode cX0_canReach 18 = .ok (.iconst 1, 1) := by decide +kernel
theorem dX0_canReach_19 : decode cX0_canReach 19 = .ok (.iaload, 1) := by decide +kernel
theorem dX0_canReach_20 : decode cX0_canReach 20 = .ok (.if_icmp .gt 44, 3) := by decide +kernel
theorem dX0_canReach_23 : decode cX0_canReach 23 = .ok (.iload_n 1, 1) := by decide +kernel
theorem dX0_canReach_24 : decode cX0_canReach 24 = .ok (.iload_n 3, 1) := by decide +kernel
theorem dX0_canReach_25 : decode cX0_canReach 25 = .ok (.iload_n 2, 1) := by decide +kernel
theorem dX0_canReach_26 : decode cX0_canReach 26 = .ok (.imul, 1) := by decide +kernel
theorem dX0_canReach_27 : decode cX0_canReach 27 = .ok (.isub, 1) := by decide +kernel
theorem dX0_canReach_28 : decode cX0_canReach 28 = .ok (.istore 4, 2) := by decide +kernel
theorem dX0_canReach_30 : decode cX0_canReach 30 = .ok (.iload 4, 2) := by decide +kernel
theorem dX0_canReach_32 : decode cX0_canReach 32 = .ok (.aload_n 0, 1) := by decide +kernel
theorem dX0_canReach_33 : decode cX0_canReach 33 = .ok (.getfield 9, 3) := by decide +kernel
theorem dX0_canReach_36 : decode cX0_canReach 36 = .ok (.getfield 35, 3) := by decide +kernel
theorem dX0_canReach_39 : decode cX0_canReach 39 = .ok (.iconst 0, 1) := by decide +kernel
theorem dX0_canReach_40 : decode cX0_canReach 40 = .ok (.iaload, 1) := by decide +kernel
theorem dX0_canReach_41 : decode cX0_canReach 41 = .ok (.aload_n 0, 1) := by decide +kernel
theorem dX0_canReach_42 : decode cX0_canReach 42 = .ok (.getfield 9, 3) := by decide +kernel
theorem dX0_canReach_45 : decode cX0_canReach 45 = .ok (.getfield 38, 3) := by decide +kernel
theorem dX0_canReach_48 : decode cX0_canReach 48 = .ok (.iconst 0, 1) := by decide +kernel
theorem dX0_canReach_49 : decode cX0_canReach 49 = .ok (.iaload, 1) := by decide +kernel
theorem dX0_canReach_50 : decode cX0_canReach 50 = .ok (.invokestatic 41, 3) := by decide +kernel
theorem dX0_canReach_53 : decode cX0_canReach 53 = .ok (.ifCond .eq 5, 3) := by decide +kernel
theorem dX0_canReach_56 : decode cX0_canReach 56 = .ok (.iconst 1, 1) := by decide +kernel
theorem dX0_canReach_57 : decode cX0_canReach 57 = .ok (.ireturn, 1) := by decide +kernel
theorem dX0_canReach_58 : decode cX0_canReach 58 = .ok (.iinc 3 1, 3) := by decide +kernel
theorem dX0_canReach_61 : decode cX0_canReach 61 = .ok (.goto (-51), 3) := by decide +kernel
theorem dX0_canReach_64 : decode cX0_canReach 64 = .ok (.iconst 0, 1) := by decide +kernel
theorem dX0_canReach_65 : decode cX0_canReach 65 = .ok (.ireturn, 1) := by decide +kernel
theorem dX1_init_0 : decode cX1_init 0 = .ok (.aload_n 0, 1) := by decide +kernel
theorem dX1_init_1 : decode cX1_init 1 = .ok (.invokespecial 3, 3) := by decide +kernel
theorem dX1_init_4 : decode cX1_init 4 = .ok (.aload_n 0, 1) := by decide +kernel
theorem dX1_init_5 : decode cX1_init 5 = .ok (.bipush 6, 2) := by decide +kernel
theorem dX1_init_7 : decode cX1_init 7 = .ok (.newarray .int, 2) := by decide +kernel
theorem dX1_init_9 : decode cX1_init 9 = .ok (.putfield 9, 3) := by decide +kernel
theorem dX1_init_12 : decode cX1_init 12 = .ok (.aload_n 0, 1) := by decide +kernel
theorem dX1_init_13 : decode cX1_init 13 = .ok (.bipush 6, 2) := by decide +kernel
theorem dX1_init_15 : decode cX1_init 15 = .ok (.newarray .int, 2) := by decide +kernel
theorem dX1_init_17 : decode cX1_init 17 = .ok (.putfield 15, 3) := by decide +kernel
theorem dX1_init_20 : decode cX1_init 20 = .ok (.aload_n 0, 1) := by decide +kernel
theorem dX1_init_21 : decode cX1_init 21 = .ok (.bipush 6, 2) := by decide +kernel
theorem dX1_init_23 : decode cX1_init 23 = .ok (.newarray .int, 2) := by decide +kernel
theorem dX1_init_25 : decode cX1_init 25 = .ok (.putfield 18, 3) := by decide +kernel
theorem dX1_init_28 : decode cX1_init 28 = .ok (.aload_n 0, 1) := by decide +kernel
theorem dX1_init_29 : decode cX1_init 29 = .ok (.bipush 6, 2) := by decide +kernel
theorem dX1_init_31 : decode cX1_init 31 = .ok (.newarray .int, 2) := by decide +kernel
theorem dX1_init_33 : decode cX1_init 33 = .ok (.putfield 21, 3) := by decide +kernel
theorem dX1_init_36 : decode cX1_init 36 = .ok (.aload_n 0, 1) := by decide +kernel
theorem dX1_init_37 : decode cX1_init 37 = .ok (.iconst 4, 1) := by decide +kernel
theorem dX1_init_38 : decode cX1_init 38 = .ok (.iconst 4, 1) := by decide +kernel
theorem dX1_init_39 : decode cX1_init 39 = .ok (.multianewarray 24 2, 4) := by decide +kernel
theorem dX1_init_43 : decode cX1_init 43 = .ok (.putfield 26, 3) := by decide +kernel
theorem dX1_init_46 : decode cX1_init 46 = .ok (.aload_n 0, 1) := by decide +kernel
theorem dX1_init_47 : decode cX1_init 47 = .ok (.iconst 4, 1) := by decide +kernel
theorem dX1_init_48 : decode cX1_init 48 = .ok (.newarray .int, 2) := by decide +kernel
theorem dX1_init_50 : decode cX1_init 50 = .ok (.dup, 1) := by decide +kernel
theorem dX1_init_51 : decode cX1_init 51 = .ok (.iconst 0, 1) := by decide +kernel
theorem dX1_init_52 : decode cX1_init 52 = .ok (.bipush 20, 2) := by decide +kernel
theorem dX1_init_54 : decode cX1_init 54 = .ok (.iastore, 1) := by decide +kernel
theorem dX1_init_55 : decode cX1_init 55 = .ok (.dup, 1) := by decide +kernel
theorem dX1_init_56 : decode cX1_init 56 = .ok (.iconst 1, 1) := by decide +kernel
theorem dX1_init_57 : decode cX1_init 57 = .ok (.bipush 99, 2) := by decide +kernel
theorem dX1_init_59 : decode cX1_init 59 = .ok (.iastore, 1) := by decide +kernel
theorem dX1_init_60 : decode cX1_init 60 = .ok (.dup, 1) := by decide +kernel
theorem dX1_init_61 : decode cX1_init 61 = .ok (.iconst 2, 1) := by decide +kernel
theorem dX1_init_62 : decode cX1_init 62 = .ok (.bipush 10, 2) := by decide +kernel
theorem dX1_init_64 : decode cX1_init 64 = .ok (.iastore, 1) := by decide +kernel
theorem dX1_init_65 : decode cX1_init 65 = .ok (.dup, 1) := by decide +kernel
theorem dX1_init_66 : decode cX1_init 66 = .ok (.iconst 3, 1) := by decide +kernel
theorem dX1_init_67 : decode cX1_init 67 = .ok (.bipush 10, 2) := by decide +kernel
theorem dX1_init_69 : decode cX1_init 69 = .ok (.iastore, 1) := by decide +kernel
theorem dX1_init_70 : decode cX1_init 70 = .ok (.putfield 29, 3) := by decide +kernel
theorem dX1_init_73 : decode cX1_init 73 = .ok (.aload_n 0, 1) := by decide +kernel
theorem dX1_init_74 : decode cX1_init 74 = .ok (.iconst 2, 1) := by decide +kernel
theorem dX1_init_75 : decode cX1_init 75 = .ok (.newarray .int, 2) := by decide +kernel
theorem dX1_init_77 : decode cX1_init 77 = .ok (.dup, 1) := by decide +kernel
theorem dX1_init_78 : decode cX1_init 78 = .ok (.iconst 0, 1) := by decide +kernel
theorem dX1_init_79 : decode cX1_init 79 = .ok (.bipush 10, 2) := by decide +kernel
theorem dX1_init_81 : decode cX1_init 81 = .ok (.iastore, 1) := by decide +kernel
theorem dX1_init_82 : decode cX1_init 82 = .ok (.dup, 1) := by decide +kernel
theorem dX1_init_83 : decode cX1_init 83 = .ok (.iconst 1, 1) := by decide +kernel
theorem dX1_init_84 : decode cX1_init 84 = .ok (.iconst 1, 1) := by decide +kernel
theorem dX1_init_85 : decode cX1_init 85 = .ok (.iastore, 1) := by decide +kernel
theorem dX1_init_86 : decode cX1_init 86 = .ok (.putfield 32, 3) := by decide +kernel
theorem dX1_init_89 : decode cX1_init 89 = .ok (.aload_n 0, 1) := by decide +kernel
theorem dX1_init_90 : decode cX1_init 90 = .ok (.iconst 2, 1) := by decide +kernel
theorem dX1_init_91 : decode cX1_init 91 = .ok (.newarray .int, 2) := by decide +kernel
theorem dX1_init_93 : decode cX1_init 93 = .ok (.dup, 1) := by decide +kernel
theorem dX1_init_94 : decode cX1_init 94 = .ok (.iconst 0, 1) := by decide +kernel
theorem dX1_init_95 : decode cX1_init 95 = .ok (.bipush 10, 2) := by decide +kernel
theorem dX1_init_97 : decode cX1_init 97 = .ok (.iastore, 1) := by decide +kernel
theorem dX1_init_98 : decode cX1_init 98 = .ok (.dup, 1) := by decide +kernel
theorem dX1_init_99 : decode cX1_init 99 = .ok (.iconst 1, 1) := by decide +kernel
theorem dX1_init_100 : decode cX1_init 100 = .ok (.iconst 1, 1) := by decide +kernel
theorem dX1_init_101 : decode cX1_init 101 = .ok (.iastore, 1) := by decide +kernel
theorem dX1_init_102 : decode cX1_init 102 = .ok (.putfield 35, 3) := by decide +kernel
theorem dX1_init_105 : decode cX1_init 105 = .ok (.aload_n 0, 1) := by decide +kernel
theorem dX1_init_106 : decode cX1_init 106 = .ok (.bipush 8, 2) := by decide +kernel
theorem dX1_init_108 : decode cX1_init 108 = .ok (.newarray .int, 2) := by decide +kernel
theorem dX1_init_110 : decode cX1_init 110 = .ok (.putfield 38, 3) := by decide +kernel
theorem dX1_init_113 : decode cX1_init 113 = .ok (.aload_n 0, 1) := by decide +kernel
theorem dX1_init_114 : decode cX1_init 114 = .ok (.bipush 8, 2) := by decide +kernel
theorem dX1_init_116 : decode cX1_init 116 = .ok (.newarray .int, 2) := by decide +kernel
theorem dX1_init_118 : decode cX1_init 118 = .ok (.putfield 41, 3) := by decide +kernel
theorem dX1_init_121 : decode cX1_init 121 = .ok (.iconst 0, 1) := by decide +kernel
theorem dX1_init_122 : decode cX1_init 122 = .ok (.istore_n 1, 1) := by decide +kernel
theorem dX1_init_123 : decode cX1_init 123 = .ok (.iload_n 1, 1) := by decide +kernel
theorem dX1_init_124 : decode cX1_init 124 = .ok (.iconst 4, 1) := by decide +kernel
theorem dX1_init_125 : decode cX1_init 125 = .ok (.if_icmp .ge 41, 3) := by decide +kernel
theorem dX1_init_128 : decode cX1_init 128 = .ok (.iconst 0, 1) := by decide +kernel
theorem dX1_init_129 : decode cX1_init 129 = .ok (.istore_n 2, 1) := by decide +kernel
theorem dX1_init_130 : decode cX1_init 130 = .ok (.iload_n 2, 1) := by decide +kernel
theorem dX1_init_131 : decode cX1_init 131 = .ok (.iconst 4, 1) := by decide +kernel
theorem dX1_init_132 : decode cX1_init 132 = .ok (.if_icmp .ge 28, 3) := by decide +kernel
theorem dX1_init_135 : decode cX1_init 135 = .ok (.aload_n 0, 1) := by decide +kernel
theorem dX1_init_136 : decode cX1_init 136 = .ok (.getfield 26, 3) := by decide +kernel
theorem dX1_init_139 : decode cX1_init 139 = .ok (.iload_n 1, 1) := by decide +kernel
theorem dX1_init_140 : decode cX1_init 140 = .ok (.aaload, 1) := by decide +kernel
theorem dX1_init_141 : decode cX1_init 141 = .ok (.iload_n 2, 1) := by decide +kernel
theorem dX1_init_142 : decode cX1_init 142 = .ok (.iload_n 1, 1) := by decide +kernel
theorem dX1_init_143 : decode cX1_init 143 = .ok (.iload_n 2, 1) := by decide +kernel
theorem dX1_init_144 : decode cX1_init 144 = .ok (.if_icmp .ne 7, 3) := by decide +kernel
theorem dX1_init_147 : decode cX1_init 147 = .ok (.iconst 0, 1) := by decide +kernel
theorem dX1_init_148 : decode cX1_init 148 = .ok (.goto 5, 3) := by decide +kernel
theorem dX1_init_151 : decode cX1_init 151 = .ok (.bipush 10, 2) := by decide +kernel
theorem dX1_init_153 : decode cX1_init 153 = .ok (.iastore, 1) := by decide +kernel
theorem dX1_init_154 : decode cX1_init 154 = .ok (.iinc 2 1, 3) := by decide +kernel
theorem dX1_init_157 : decode cX1_init 157 = .ok (.goto (-27), 3) := by decide +kernel
theorem dX1_init_160 : decode cX1_init 160 = .ok (.iinc 1 1, 3) := by decide +kernel
theorem dX1_init_163 : decode cX1_init 163 = .ok (.goto (-40), 3) := by decide +kernel
theorem dX1_init_166 : decode cX1_init 166 = .ok (.iconst 0, 1) := by decide +kernel
theorem dX1_init_167 : decode cX1_init 167 = .ok (.istore_n 1, 1) := by decide +kernel
theorem dX1_init_168 : decode cX1_init 168 = .ok (.iload_n 1, 1) := by decide +kernel
theorem dX1_init_169 : decode cX1_init 169 = .ok (.bipush 8, 2) := by decide +kernel
theorem dX1_init_171 : decode cX1_init 171 = .ok (.if_icmp .ge 27, 3) := by decide +kernel
theorem dX1_init_174 : decode cX1_init 174 = .ok (.aload_n 0, 1) := by decide +kernel
theorem dX1_init_175 : decode cX1_init 175 = .ok (.getfield 38, 3) := by decide +kernel
theorem dX1_init_178 : decode cX1_init 178 = .ok (.iload_n 1, 1) := by decide +kernel
theorem dX1_init_179 : decode cX1_init 179 = .ok (.iconst 1, 1) := by decide +kernel
theorem dX1_init_180 : decode cX1_init 180 = .ok (.iload_n 1, 1) := by decide +kernel
theorem dX1_init_181 : decode cX1_init 181 = .ok (.ishl, 1) := by decide +kernel
theorem dX1_init_182 : decode cX1_init 182 = .ok (.iastore, 1) := by decide +kernel
theorem dX1_init_183 : decode cX1_init 183 = .ok (.aload_n 0, 1) := by decide +kernel
theorem dX1_init_184 : decode cX1_init 184 = .ok (.getfield 41, 3) := by decide +kernel
theorem dX1_init_187 : decode cX1_init 187 = .ok (.iload_n 1, 1) := by decide +kernel
theorem dX1_init_188 : decode cX1_init 188 = .ok (.iconst 1, 1) := by decide +kernel
theorem dX1_init_189 : decode cX1_init 189 = .ok (.iload_n 1, 1) := by decide +kernel
theorem dX1_init_190 : decode cX1_init 190 = .ok (.ishl, 1) := by decide +kernel
theorem dX1_init_191 : decode cX1_init 191 = .ok (.iastore, 1) := by decide +kernel
theorem dX1_init_192 : decode cX1_init 192 = .ok (.iinc 1 1, 3) := by decide +kernel
theorem dX1_init_195 : decode cX1_init 195 = .ok (.goto (-27), 3) := by decide +kernel
theorem dX1_init_198 : decode cX1_init 198 = .ok (.return_, 1) := by decide +kernel
theorem dX1_copyOf_0 : decode cX1_copyOf 0 = .ok (.aload_n 0, 1) := by decide +kernel
theorem dX1_copyOf_1 : decode cX1_copyOf 1 = .ok (.aload_n 1, 1) := by decide +kernel
theorem dX1_copyOf_2 : decode cX1_copyOf 2 = .ok (.getfield 44, 3) := by decide +kernel
theorem dX1_copyOf_5 : decode cX1_copyOf 5 = .ok (.putfield 44, 3) := by decide +kernel
theorem dX1_copyOf_8 : decode cX1_copyOf 8 = .ok (.aload_n 0, 1) := by decide +kernel
theorem dX1_copyOf_9 : decode cX1_copyOf 9 = .ok (.aload_n 1, 1) := by decide +kernel
theorem dX1_copyOf_10 : decode cX1_copyOf 10 = .ok (.getfield 48, 3) := by decide +kernel
theorem dX1_copyOf_13 : decode cX1_copyOf 13 = .ok (.putfield 48, 3) := by decide +kernel
theorem dX1_copyOf_16 : decode cX1_copyOf 16 = .ok (.aload_n 1, 1) := by decide +kernel
theorem dX1_copyOf_17 : decode cX1_copyOf 17 = .ok (.getfield 9, 3) := by decide +kernel
theorem dX1_copyOf_20 : decode cX1_copyOf 20 = .ok (.iconst 0, 1) := by decide +kernel
theorem dX1_copyOf_21 : decode cX1_copyOf 21 = .ok (.aload_n 0, 1) := by decide +kernel
theorem dX1_copyOf_22 : decode cX1_copyOf 22 = .ok (.getfield 9, 3) := by decide +kernel
theorem dX1_copyOf_25 : decode cX1_copyOf 25 = .ok (.iconst 0, 1) := by decide +kernel
theorem dX1_copyOf_26 : decode cX1_copyOf 26 = .ok (.bipush 6, 2) := by decide +kernel
theorem dX1_copyOf_28 : decode cX1_copyOf 28 = .ok (.invokestatic 51, 3) := by decide +kernel
theorem dX1_copyOf_31 : decode cX1_copyOf 31 = .ok (.aload_n 1, 1) := by decide +kernel
theorem dX1_copyOf_32 : decode cX1_copyOf 32 = .ok (.getfield 15, 3) := by decide +kernel
theorem dX1_copyOf_35 : decode cX1_copyOf 35 = .ok (.iconst 0, 1) := by decide +kernel
theorem dX1_copyOf_36 : decode cX1_copyOf 36 = .ok (.aload_n 0, 1) := by decide +kernel
theorem dX1_copyOf_37 : decode cX1_copyOf 37 = .ok (.getfield 15, 3) := by decide +kernel
theorem dX1_copyOf_40 : decode cX1_copyOf 40 = .ok (.iconst 0, 1) := by decide +kernel
theorem dX1_copyOf_41 : decode cX1_copyOf 41 = .ok (.bipush 6, 2) := by decide +kernel
theorem dX1_copyOf_43 : decode cX1_copyOf 43 = .ok (.invokestatic 51, 3) := by decide +kernel
theorem dX1_copyOf_46 : decode cX1_copyOf 46 = .ok (.aload_n 1, 1) := by decide +kernel
theorem dX1_copyOf_47 : decode cX1_copyOf 47 = .ok (.getfield 18, 3) := by decide +kernel
theorem dX1_copyOf_50 : decode cX1_copyOf 50 = .ok (.iconst 0, 1) := by decide +kernel
theorem dX1_copyOf_51 : decode cX1_copyOf 51 = .ok (.aload_n 0, 1) := by decide +kernel
theorem dX1_copyOf_52 : decode cX1_copyOf 52 = .ok (.getfield 18, 3) := by decide +kernel
theorem dX1_copyOf_55 : decode cX1_copyOf 55 = .ok (.iconst 0, 1) := by decide +kernel
theorem dX1_copyOf_56 : decode cX1_copyOf 56 = .ok (.bipush 6, 2) := by decide +kernel
theorem dX1_copyOf_58 : decode cX1_copyOf 58 = .ok (.invokestatic 51, 3) := by decide +kernel
theorem dX1_copyOf_61 : decode cX1_copyOf 61 = .ok (.aload_n 1, 1) := by decide +kernel
theorem dX1_copyOf_62 : decode cX1_copyOf 62 = .ok (.getfield 21, 3) := by decide +kernel
theorem dX1_copyOf_65 : decode cX1_copyOf 65 = .ok (.iconst 0, 1) := by decide +kernel
theorem dX1_copyOf_66 : decode cX1_copyOf 66 = .ok (.aload_n 0, 1) := by decide +kernel
theorem dX1_copyOf_67 : decode cX1_copyOf 67 = .ok (.getfield 21, 3) := by decide +kernel
theorem dX1_copyOf_70 : decode cX1_copyOf 70 = .ok (.iconst 0, 1) := by decide +kernel
theorem dX1_copyOf_71 : decode cX1_copyOf 71 = .ok (.bipush 6, 2) := by decide +kernel
theorem dX1_copyOf_73 : decode cX1_copyOf 73 = .ok (.invokestatic 51, 3) := by decide +kernel
theorem dX1_copyOf_76 : decode cX1_copyOf 76 = .ok (.iconst 0, 1) := by decide +kernel
theorem dX1_copyOf_77 : decode cX1_copyOf 77 = .ok (.istore_n 2, 1) := by decide +kernel
theorem dX1_copyOf_78 : decode cX1_copyOf 78 = .ok (.iload_n 2, 1) := by decide +kernel
theorem dX1_copyOf_79 : decode cX1_copyOf 79 = .ok (.iconst 4, 1) := by decide +kernel
theorem dX1_copyOf_80 : decode cX1_copyOf 80 = .ok (.if_icmp .ge 27, 3) := by decide +kernel
theorem dX1_copyOf_83 : decode cX1_copyOf 83 = .ok (.aload_n 1, 1) := by decide +kernel
theorem dX1_copyOf_84 : decode cX1_copyOf 84 = .ok (.getfield 26, 3) := by decide +kernel
theorem dX1_copyOf_87 : decode cX1_copyOf 87 = .ok (.iload_n 2, 1) := by decide +kernel
theorem dX1_copyOf_88 : decode cX1_copyOf 88 = .ok (.aaload, 1) := by decide +kernel
theorem dX1_copyOf_89 : decode cX1_copyOf 89 = .ok (.iconst 0, 1) := by decide +kernel
theorem dX1_copyOf_90 : decode cX1_copyOf 90 = .ok (.aload_n 0, 1) := by decide +kernel
theorem dX1_copyOf_91 : decode cX1_copyOf 91 = .ok (.getfield 26, 3) := by decide +kernel
theorem dX1_copyOf_94 : decode cX1_copyOf 94 = .ok (.iload_n 2, 1) := by decide +kernel
theorem dX1_copyOf_95 : decode cX1_copyOf 95 = .ok (.aaload, 1) := by decide +kernel
theorem dX1_copyOf_96 : decode cX1_copyOf 96 = .ok (.iconst 0, 1) := by decide +kernel
theorem dX1_copyOf_97 : decode cX1_copyOf 97 = .ok (.iconst 4, 1) := by decide +kernel
theorem dX1_copyOf_98 : decode cX1_copyOf 98 = .ok (.invokestatic 51, 3) := by decide +kernel
theorem dX1_copyOf_101 : decode cX1_copyOf 101 = .ok (.iinc 2 1, 3) := by decide +kernel
theorem dX1_copyOf_104 : decode cX1_copyOf 104 = .ok (.goto (-26), 3) := by decide +kernel
theorem dX1_copyOf_107 : decode cX1_copyOf 107 = .ok (.aload_n 1, 1) := by decide +kernel
theorem dX1_copyOf_108 : decode cX1_copyOf 108 = .ok (.getfield 29, 3) := by decide +kernel
theorem dX1_copyOf_111 : decode cX1_copyOf 111 = .ok (.iconst 0, 1) := by decide +kernel
theorem dX1_copyOf_112 : decode cX1_copyOf 112 = .ok (.aload_n 0, 1) := by decide +kernel
theorem dX1_copyOf_113 : decode cX1_copyOf 113 = .ok (.getfield 29, 3) := by decide +kernel
theorem dX1_copyOf_116 : decode cX1_copyOf 116 = .ok (.iconst 0, 1) := by decide +kernel
theorem dX1_copyOf_117 : decode cX1_copyOf 117 = .ok (.iconst 4, 1) := by decide +kernel
theorem dX1_copyOf_118 : decode cX1_copyOf 118 = .ok (.invokestatic 51, 3) := by decide +kernel
theorem dX1_copyOf_121 : decode cX1_copyOf 121 = .ok (.aload_n 1, 1) := by decide +kernel
theorem dX1_copyOf_122 : decode cX1_copyOf 122 = .ok (.getfield 32, 3) := by decide +kernel
theorem dX1_copyOf_125 : decode cX1_copyOf 125 = .ok (.iconst 0, 1) := by decide +kernel
theorem dX1_copyOf_126 : decode cX1_copyOf 126 = .ok (.aload_n 0, 1) := by decide +kernel
theorem dX1_copyOf_127 : decode cX1_copyOf 127 = .ok (.getfield 32, 3) := by decide +kernel
theorem dX1_copyOf_130 : decode cX1_copyOf 130 = .ok (.iconst 0, 1) := by decide +kernel
theorem dX1_copyOf_131 : decode cX1_copyOf 131 = .ok (.iconst 2, 1) := by decide +kernel
theorem dX1_copyOf_132 : decode cX1_copyOf 132 = .ok (.invokestatic 51, 3) := by decide +kernel
theorem dX1_copyOf_135 : decode cX1_copyOf 135 = .ok (.aload_n 1, 1) := by decide +kernel
theorem dX1_copyOf_136 : decode cX1_copyOf 136 = .ok (.getfield 35, 3) := by decide +kernel
theorem dX1_copyOf_139 : decode cX1_copyOf 139 = .ok (.iconst 0, 1) := by decide +kernel
theorem dX1_copyOf_140 : decode cX1_copyOf 140 = .ok (.aload_n 0, 1) := by decide +kernel
theorem dX1_copyOf_141 : decode cX1_copyOf 141 = .ok (.getfield 35, 3) := by decide +kernel
theorem dX1_copyOf_144 : decode cX1_copyOf 144 = .ok (.iconst 0, 1) := by decide +kernel
theorem dX1_copyOf_145 : decode cX1_copyOf 145 = .ok (.iconst 2, 1) := by decide +kernel
theorem dX1_copyOf_146 : decode cX1_copyOf 146 = .ok (.invokestatic 51, 3) := by decide +kernel
theorem dX1_copyOf_149 : decode cX1_copyOf 149 = .ok (.aload_n 1, 1) := by decide +kernel
theorem dX1_copyOf_150 : decode cX1_copyOf 150 = .ok (.getfield 38, 3) := by decide +kernel
theorem dX1_copyOf_153 : decode cX1_copyOf 153 = .ok (.iconst 0, 1) := by decide +kernel
theorem dX1_copyOf_154 : decode cX1_copyOf 154 = .ok (.aload_n 0, 1) := by decide +kernel
theorem dX1_copyOf_155 : decode cX1_copyOf 155 = .ok (.getfield 38, 3) := by decide +kernel
theorem dX1_copyOf_158 : decode cX1_copyOf 158 = .ok (.iconst 0, 1) := by decide +kernel
theorem dX1_copyOf_159 : decode cX1_copyOf 159 = .ok (.bipush 8, 2) := by decide +kernel
theorem dX1_copyOf_161 : decode cX1_copyOf 161 = .ok (.invokestatic 51, 3) := by decide +kernel
theorem dX1_copyOf_164 : decode cX1_copyOf 164 = .ok (.aload_n 1, 1) := by decide +kernel
theorem dX1_copyOf_165 : decode cX1_copyOf 165 = .ok (.getfield 41, 3) := by decide +kernel
theorem dX1_copyOf_168 : decode cX1_copyOf 168 = .ok (.iconst 0, 1) := by decide +kernel
theorem dX1_copyOf_169 : decode cX1_copyOf 169 = .ok (.aload_n 0, 1) := by decide +kernel
theorem dX1_copyOf_170 : decode cX1_copyOf 170 = .ok (.getfield 41, 3) := by decide +kernel
theorem dX1_copyOf_173 : decode cX1_copyOf 173 = .ok (.iconst 0, 1) := by decide +kernel
theorem dX1_copyOf_174 : decode cX1_copyOf 174 = .ok (.bipush 8, 2) := by decide +kernel
theorem dX1_copyOf_176 : decode cX1_copyOf 176 = .ok (.invokestatic 51, 3) := by decide +kernel
theorem dX1_copyOf_179 : decode cX1_copyOf 179 = .ok (.return_, 1) := by decide +kernel
theorem dX1_hasPicture_0 : decode cX1_hasPicture 0 = .ok (.iload_n 1, 1) := by decide +kernel
theorem dX1_hasPicture_1 : decode cX1_hasPicture 1 = .ok (.ifCond .lt 15, 3) := by decide +kernel
theorem dX1_hasPicture_4 : decode cX1_hasPicture 4 = .ok (.iload_n 1, 1) := by decide +kernel
theorem dX1_hasPicture_5 : decode cX1_hasPicture 5 = .ok (.aload_n 0, 1) := by decide +kernel
theorem dX1_hasPicture_6 : decode cX1_hasPicture 6 = .ok (.getfield 44, 3) := by decide +kernel
theorem dX1_hasPicture_9 : decode cX1_hasPicture 9 = .ok (.if_icmp .ge 7, 3) := by decide +kernel
theorem dX1_hasPicture_12 : decode cX1_hasPicture 12 = .ok (.iconst 1, 1) := by decide +kernel
theorem dX1_hasPicture_13 : decode cX1_hasPicture 13 = .ok (.goto 4, 3) := by decide +kernel
theorem dX1_hasPicture_16 : decode cX1_hasPicture 16 = .ok (.iconst 0, 1) := by decide +kernel
theorem dX1_hasPicture_17 : decode cX1_hasPicture 17 = .ok (.ireturn, 1) := by decide +kernel
theorem dX1_addPicture_0 : decode cX1_addPicture 0 = .ok (.aload_n 0, 1) := by decide +kernel
theorem dX1_addPicture_1 : decode cX1_addPicture 1 = .ok (.getfield 44, 3) := by decide +kernel
theorem dX1_addPicture_4 : decode cX1_addPicture 4 = .ok (.istore 4, 2) := by decide +kernel
theorem dX1_addPicture_6 : decode cX1_addPicture 6 = .ok (.aload_n 0, 1) := by decide +kernel
theorem dX1_addPicture_7 : decode cX1_addPicture 7 = .ok (.getfield 9, 3) := by decide +kernel
theorem dX1_addPicture_10 : decode cX1_addPicture 10 = .ok (.iload 4, 2) := by decide +kernel
theorem dX1_addPicture_12 : decode cX1_addPicture 12 = .ok (.iload_n 1, 1) := by decide +kernel
theorem dX1_addPicture_13 : decode cX1_addPicture 13 = .ok (.iastore, 1) := by decide +kernel
theorem dX1_addPicture_14 : decode cX1_addPicture 14 = .ok (.aload_n 0, 1) := by decide +kernel
theorem dX1_addPicture_15 : decode cX1_addPicture 15 = .ok (.getfield 15, 3) := by decide +kernel
theorem dX1_addPicture_18 : decode cX1_addPicture 18 = .ok (.iload 4, 2) := by decide +kernel
theorem dX1_addPicture_20 : decode cX1_addPicture 20 = .ok (.iload_n 2, 1) := by decide +kernel
theorem dX1_addPicture_21 : decode cX1_addPicture 21 = .ok (.iastore, 1) := by decide +kernel
theorem dX1_addPicture_22 : decode cX1_addPicture 22 = .ok (.aload_n 0, 1) := by decide +kernel
theorem dX1_addPicture_23 : decode cX1_addPicture 23 = .ok (.getfield 18, 3) := by decide +kernel
theorem dX1_addPicture_26 : decode cX1_addPicture 26 = .ok (.iload 4, 2) := by decide +kernel
theorem dX1_addPicture_28 : decode cX1_addPicture 28 = .ok (.iload_n 3, 1) := by decide +kernel
theorem dX1_addPicture_29 : decode cX1_addPicture 29 = .ok (.iastore, 1) := by decide +kernel
theorem dX1_addPicture_30 : decode cX1_addPicture 30 = .ok (.aload_n 0, 1) := by decide +kernel
theorem dX1_addPicture_31 : decode cX1_addPicture 31 = .ok (.getfield 21, 3) := by decide +kernel
theorem dX1_addPicture_34 : decode cX1_addPicture 34 = .ok (.iload 4, 2) := by decide +kernel
theorem dX1_addPicture_36 : decode cX1_addPicture 36 = .ok (.iconst 0, 1) := by decide +kernel
theorem dX1_addPicture_37 : decode cX1_addPicture 37 = .ok (.iastore, 1) := by decide +kernel
theorem dX1_addPicture_38 : decode cX1_addPicture 38 = .ok (.aload_n 0, 1) := by decide +kernel
theorem dX1_addPicture_39 : decode cX1_addPicture 39 = .ok (.dup, 1) := by decide +kernel
theorem dX1_addPicture_40 : decode cX1_addPicture 40 = .ok (.getfield 44, 3) := by decide +kernel
theorem dX1_addPicture_43 : decode cX1_addPicture 43 = .ok (.iconst 1, 1) := by decide +kernel
theorem dX1_addPicture_44 : decode cX1_addPicture 44 = .ok (.iadd, 1) := by decide +kernel
theorem dX1_addPicture_45 : decode cX1_addPicture 45 = .ok (.putfield 44, 3) := by decide +kernel
theorem dX1_addPicture_48 : decode cX1_addPicture 48 = .ok (.iload 4, 2) := by decide +kernel
theorem dX1_addPicture_50 : decode cX1_addPicture 50 = .ok (.ireturn, 1) := by decide +kernel
theorem dX1_widthOrNone_0 : decode cX1_widthOrNone 0 = .ok (.aload_n 0, 1) := by decide +kernel
theorem dX1_widthOrNone_1 : decode cX1_widthOrNone 1 = .ok (.getfield 21, 3) := by decide +kernel
theorem dX1_widthOrNone_4 : decode cX1_widthOrNone 4 = .ok (.iload_n 1, 1) := by decide +kernel
theorem dX1_widthOrNone_5 : decode cX1_widthOrNone 5 = .ok (.iaload, 1) := by decide +kernel
theorem dX1_widthOrNone_6 : decode cX1_widthOrNone 6 = .ok (.ifCond .ne 8, 3) := by decide +kernel
theorem dX1_widthOrNone_9 : decode cX1_widthOrNone 9 = .ok (.bipush (-6), 2) := by decide +kernel
theorem dX1_widthOrNone_11 : decode cX1_widthOrNone 11 = .ok (.goto 9, 3) := by decide +kernel
theorem dX1_widthOrNone_14 : decode cX1_widthOrNone 14 = .ok (.aload_n 0, 1) := by decide +kernel
theorem dX1_widthOrNone_15 : decode cX1_widthOrNone 15 = .ok (.getfield 21, 3) := by decide +kernel
theorem dX1_widthOrNone_18 : decode cX1_widthOrNone 18 = .ok (.iload_n 1, 1) := by decide +kernel
theorem dX1_widthOrNone_19 : decode cX1_widthOrNone 19 = .ok (.iaload, 1) := by decide +kernel
theorem dX1_widthOrNone_20 : decode cX1_widthOrNone 20 = .ok (.ireturn, 1) := by decide +kernel
theorem dX1_tracingCost_0 : decode cX1_tracingCost 0 = .ok (.iconst 0, 1) := by decide +kernel
theorem dX1_tracingCost_1 : decode cX1_tracingCost 1 = .ok (.istore_n 3, 1) := by decide +kernel
theorem dX1_tracingCost_2 : decode cX1_tracingCost 2 = .ok (.iconst 0, 1) := by decide +kernel
theorem dX1_tracingCost_3 : decode cX1_tracingCost 3 = .ok (.istore 4, 2) := by decide +kernel
theorem dX1_tracingCost_5 : decode cX1_tracingCost 5 = .ok (.iload 4, 2) := by decide +kernel
theorem dX1_tracingCost_7 : decode cX1_tracingCost 7 = .ok (.bipush 8, 2) := by decide +kernel
theorem dX1_tracingCost_9 : decode cX1_tracingCost 9 = .ok (.if_icmp .ge 30, 3) := by decide +kernel
theorem dX1_tracingCost_12 : decode cX1_tracingCost 12 = .ok (.iload_n 3, 1) := by decide +kernel
theorem dX1_tracingCost_13 : decode cX1_tracingCost 13 = .ok (.aload_n 0, 1) := by decide +kernel
theorem dX1_tracingCost_14 : decode cX1_tracingCost 14 = .ok (.getfield 26, 3) := by decide +kernel
theorem dX1_tracingCost_17 : decode cX1_tracingCost 17 = .ok (.iload_n 1, 1) := by decide +kernel
theorem dX1_tracingCost_18 : decode cX1_tracingCost 18 = .ok (.iload 4, 2) := by decide +kernel
theorem dX1_tracingCost_20 : decode cX1_tracingCost 20 = .ok (.invokestatic 57, 3) := by decide +kernel
theorem dX1_tracingCost_23 : decode cX1_tracingCost 23 = .ok (.aaload, 1) := by decide +kernel
theorem dX1_tracingCost_24 : decode cX1_tracingCost 24 = .ok (.iload_n 2, 1) := by decide +kernel
theorem dX1_tracingCost_25 : decode cX1_tracingCost 25 = .ok (.iload 4, 2) := by decide +kernel
theorem dX1_tracingCost_27 : decode cX1_tracingCost 27 = .ok (.invokestatic 57, 3) := by decide +kernel
theorem dX1_tracingCost_30 : decode cX1_tracingCost 30 = .ok (.iaload, 1) := by decide +kernel
theorem dX1_tracingCost_31 : decode cX1_tracingCost 31 = .ok (.iadd, 1) := by decide +kernel
theorem dX1_tracingCost_32 : decode cX1_tracingCost 32 = .ok (.istore_n 3, 1) := by decide +kernel
theorem dX1_tracingCost_33 : decode cX1_tracingCost 33 = .ok (.iinc 4 1, 3) := by decide +kernel
theorem dX1_tracingCost_36 : decode cX1_tracingCost 36 = .ok (.goto (-31), 3) := by decide +kernel
theorem dX1_tracingCost_39 : decode cX1_tracingCost 39 = .ok (.iload_n 3, 1) := by decide +kernel
theorem dX1_tracingCost_40 : decode cX1_tracingCost 40 = .ok (.ireturn, 1) := by decide +kernel
theorem dX1_lostDrawing_0 : decode cX1_lostDrawing 0 = .ok (.iconst 0, 1) := by decide +kernel
theorem dX1_lostDrawing_1 : decode cX1_lostDrawing 1 = .ok (.istore_n 3, 1) := by decide +kernel
theorem dX1_lostDrawing_2 : decode cX1_lostDrawing 2 = .ok (.iconst 0, 1) := by decide +kernel
theorem dX1_lostDrawing_3 : decode cX1_lostDrawing 3 = .ok (.istore 4, 2) := by decide +kernel
theorem dX1_lostDrawing_5 : decode cX1_lostDrawing 5 = .ok (.iload 4, 2) := by decide +kernel
theorem dX1_lostDrawing_7 : decode cX1_lostDrawing 7 = .ok (.bipush 8, 2) := by decide +kernel
theorem dX1_lostDrawing_9 : decode cX1_lostDrawing 9 = .ok (.if_icmp .ge 72, 3) := by decide +kernel
theorem dX1_lostDrawing_12 : decode cX1_lostDrawing 12 = .ok (.iconst 0, 1) := by decide +kernel
theorem dX1_lostDrawing_13 : decode cX1_lostDrawing 13 = .ok (.istore 5, 2) := by decide +kernel
theorem dX1_lostDrawing_15 : decode cX1_lostDrawing 15 = .ok (.aload_n 0, 1) := by decide +kernel
theorem dX1_lostDrawing_16 : decode cX1_lostDrawing 16 = .ok (.iload_n 1, 1) := by decide +kernel
theorem dX1_lostDrawing_17 : decode cX1_lostDrawing 17 = .ok (.iload_n 2, 1) := by decide +kernel
theorem dX1_lostDrawing_18 : decode cX1_lostDrawing 18 = .ok (.iload 4, 2) := by decide +kernel
theorem dX1_lostDrawing_20 : decode cX1_lostDrawing 20 = .ok (.iconst 0, 1) := by decide +kernel
theorem dX1_lostDrawing_21 : decode cX1_lostDrawing 21 = .ok (.invokevirtual 61, 3) := by decide +kernel
theorem dX1_lostDrawing_24 : decode cX1_lostDrawing 24 = .ok (.istore 6, 2) := by decide +kernel
theorem dX1_lostDrawing_26 : decode cX1_lostDrawing 26 = .ok (.iconst 1, 1) := by decide +kernel
theorem dX1_lostDrawing_27 : decode cX1_lostDrawing 27 = .ok (.istore 7, 2) := by decide +kernel
theorem dX1_lostDrawing_29 : decode cX1_lostDrawing 29 = .ok (.iload 7, 2) := by decide +kernel
theorem dX1_lostDrawing_31 : decode cX1_lostDrawing 31 = .ok (.iconst 4, 1) := by decide +kernel
theorem dX1_lostDrawing_32 : decode cX1_lostDrawing 32 = .ok (.if_icmp .ge 36, 3) := by decide +kernel
theorem dX1_lostDrawing_35 : decode cX1_lostDrawing 35 = .ok (.aload_n 0, 1) := by decide +kernel
theorem dX1_lostDrawing_36 : decode cX1_lostDrawing 36 = .ok (.iload_n 1, 1) := by decide +kernel
theorem dX1_lostDrawing_37 : decode cX1_lostDrawing 37 = .ok (.iload_n 2, 1) := by decide +kernel
theorem dX1_lostDrawing_38 : decode cX1_lostDrawing 38 = .ok (.iload 4, 2) := by decide +kernel
theorem dX1_lostDrawing_40 : decode cX1_lostDrawing 40 = .ok (.iload 7, 2) := by decide +kernel
theorem dX1_lostDrawing_42 : decode cX1_lostDrawing 42 = .ok (.invokevirtual 61, 3) := by decide +kernel
theorem dX1_lostDrawing_45 : decode cX1_lostDrawing 45 = .ok (.istore 8, 2) := by decide +kernel
theorem dX1_lostDrawing_47 : decode cX1_lostDrawing 47 = .ok (.iload 8, 2) := by decide +kernel
theorem dX1_lostDrawing_49 : decode cX1_lostDrawing 49 = .ok (.iload 6, 2) := by decide +kernel
theorem dX1_lostDrawing_51 : decode cX1_lostDrawing 51 = .ok (.if_icmp .ge 11, 3) := by decide +kernel
theorem dX1_lostDrawing_54 : decode cX1_lostDrawing 54 = .ok (.iload 7, 2) := by decide +kernel
theorem dX1_lostDrawing_56 : decode cX1_lostDrawing 56 = .ok (.istore 5, 2) := by decide +kernel
theorem dX1_lostDrawing_58 : decode cX1_lostDrawing 58 = .ok (.iload 8, 2) := by decide +kernel
theorem dX1_lostDrawing_60 : decode cX1_lostDrawing 60 = .ok (.istore 6, 2) := by decide +kernel
theorem dX1_lostDrawing_62 : decode cX1_lostDrawing 62 = .ok (.iinc 7 1, 3) := by decide +kernel
theorem dX1_lostDrawing_65 : decode cX1_lostDrawing 65 = .ok (.goto (-36), 3) := by decide +kernel
theorem dX1_lostDrawing_68 : decode cX1_lostDrawing 68 = .ok (.iload_n 3, 1) := by decide +kernel
theorem dX1_lostDrawing_69 : decode cX1_lostDrawing 69 = .ok (.iconst 4, 1) := by decide +kernel
theorem dX1_lostDrawing_70 : decode cX1_lostDrawing 70 = .ok (.imul, 1) := by decide +kernel
theorem dX1_lostDrawing_71 : decode cX1_lostDrawing 71 = .ok (.iload 5, 2) := by decide +kernel
theorem dX1_lostDrawing_73 : decode cX1_lostDrawing 73 = .ok (.iadd, 1) := by decide +kernel
theorem dX1_lostDrawing_74 : decode cX1_lostDrawing 74 = .ok (.istore_n 3, 1) := by decide +kernel
theorem dX1_lostDrawing_75 : decode cX1_lostDrawing 75 = .ok (.iinc 4 1, 3) := by decide +kernel
theorem dX1_lostDrawing_78 : decode cX1_lostDrawing 78 = .ok (.goto (-73), 3) := by decide +kernel
theorem dX1_lostDrawing_81 : decode cX1_lostDrawing 81 = .ok (.iload_n 3, 1) := by decide +kernel
theorem dX1_lostDrawing_82 : decode cX1_lostDrawing 82 = .ok (.ireturn, 1) := by decide +kernel
theorem dX1_lostStrokeCost_0 : decode cX1_lostStrokeCost 0 = .ok (.iload_n 1, 1) := by decide +kernel
theorem dX1_lostStrokeCost_1 : decode cX1_lostStrokeCost 1 = .ok (.ifCond .ge 7, 3) := by decide +kernel
theorem dX1_lostStrokeCost_4 : decode cX1_lostStrokeCost 4 = .ok (.iconst 0, 1) := by decide +kernel
theorem dX1_lostStrokeCost_5 : decode cX1_lostStrokeCost 5 = .ok (.goto 21, 3) := by decide +kernel
theorem dX1_lostStrokeCost_8 : decode cX1_lostStrokeCost 8 = .ok (.aload_n 0, 1) := by decide +kernel
theorem dX1_lostStrokeCost_9 : decode cX1_lostStrokeCost 9 = .ok (.getfield 26, 3) := by decide +kernel
theorem dX1_lostStrokeCost_12 : decode cX1_lostStrokeCost 12 = .ok (.aload_n 0, 1) := by decide +kernel
theorem dX1_lostStrokeCost_13 : decode cX1_lostStrokeCost 13 = .ok (.getfield 9, 3) := by decide +kernel
theorem dX1_lostStrokeCost_16 : decode cX1_lostStrokeCost 16 = .ok (.iload_n 1, 1) := by decide +kernel
theorem dX1_lostStrokeCost_17 : decode cX1_lostStrokeCost 17 = .ok (.iaload, 1) := by decide +kernel
theorem dX1_lostStrokeCost_18 : decode cX1_lostStrokeCost 18 = .ok (.iload_n 3, 1) := by decide +kernel
theorem dX1_lostStrokeCost_19 : decode cX1_lostStrokeCost 19 = .ok (.invokestatic 57, 3) := by decide +kernel
theorem dX1_lostStrokeCost_22 : decode cX1_lostStrokeCost 22 = .ok (.aaload, 1) := by decide +kernel
theorem dX1_lostStrokeCost_23 : decode cX1_lostStrokeCost 23 = .ok (.iload 4, 2) := by decide +kernel
theorem dX1_lostStrokeCost_25 : decode cX1_lostStrokeCost 25 = .ok (.iaload, 1) := by decide +kernel
theorem dX1_lostStrokeCost_26 : decode cX1_lostStrokeCost 26 = .ok (.istore 5, 2) := by decide +kernel
theorem dX1_lostStrokeCost_28 : decode cX1_lostStrokeCost 28 = .ok (.iconst 0, 1) := by decide +kernel
theorem dX1_lostStrokeCost_29 : decode cX1_lostStrokeCost 29 = .ok (.istore 6, 2) := by decide +kernel
theorem dX1_lostStrokeCost_31 : decode cX1_lostStrokeCost 31 = .ok (.iload 6, 2) := by decide +kernel
theorem dX1_lostStrokeCost_33 : decode cX1_lostStrokeCost 33 = .ok (.aload_n 0, 1) := by decide +kernel
theorem dX1_lostStrokeCost_34 : decode cX1_lostStrokeCost 34 = .ok (.getfield 44, 3) := by decide +kernel
theorem dX1_lostStrokeCost_37 : decode cX1_lostStrokeCost 37 = .ok (.if_icmp .ge 42, 3) := by decide +kernel
theorem dX1_lostStrokeCost_40 : decode cX1_lostStrokeCost 40 = .ok (.iload_n 2, 1) := by decide +kernel
theorem dX1_lostStrokeCost_41 : decode cX1_lostStrokeCost 41 = .ok (.iload 6, 2) := by decide +kernel
theorem dX1_lostStrokeCost_43 : decode cX1_lostStrokeCost 43 = .ok (.invokestatic 65, 3) := by decide +kernel
theorem dX1_lostStrokeCost_46 : decode cX1_lostStrokeCost 46 = .ok (.ifCond .eq 27, 3) := by decide +kernel
theorem dX1_lostStrokeCost_49 : decode cX1_lostStrokeCost 49 = .ok (.iload 5, 2) := by decide +kernel
theorem dX1_lostStrokeCost_51 : decode cX1_lostStrokeCost 51 = .ok (.aload_n 0, 1) := by decide +kernel
theorem dX1_lostStrokeCost_52 : decode cX1_lostStrokeCost 52 = .ok (.getfield 26, 3) := by decide +kernel
theorem dX1_lostStrokeCost_55 : decode cX1_lostStrokeCost 55 = .ok (.iload 4, 2) := by decide +kernel
theorem dX1_lostStrokeCost_57 : decode cX1_lostStrokeCost 57 = .ok (.aaload, 1) := by decide +kernel
theorem dX1_lostStrokeCost_58 : decode cX1_lostStrokeCost 58 = .ok (.aload_n 0, 1) := by decide +kernel
theorem dX1_lostStrokeCost_59 : decode cX1_lostStrokeCost 59 = .ok (.getfield 9, 3) := by decide +kernel
theorem dX1_lostStrokeCost_62 : decode cX1_lostStrokeCost 62 = .ok (.iload 6, 2) := by decide +kernel
theorem dX1_lostStrokeCost_64 : decode cX1_lostStrokeCost 64 = .ok (.iaload, 1) := by decide +kernel
theorem dX1_lostStrokeCost_65 : decode cX1_lostStrokeCost 65 = .ok (.iload_n 3, 1) := by decide +kernel
theorem dX1_lostStrokeCost_66 : decode cX1_lostStrokeCost 66 = .ok (.invokestatic 57, 3) := by decide +kernel
theorem dX1_lostStrokeCost_69 : decode cX1_lostStrokeCost 69 = .ok (.iaload, 1) := by decide +kernel
theorem dX1_lostStrokeCost_70 : decode cX1_lostStrokeCost 70 = .ok (.iadd, 1) := by decide +kernel
theorem dX1_lostStrokeCost_71 : decode cX1_lostStrokeCost 71 = .ok (.istore 5, 2) := by decide +kernel
theorem dX1_lostStrokeCost_73 : decode cX1_lostStrokeCost 73 = .ok (.iinc 6 1, 3) := by decide +kernel
theorem dX1_lostStrokeCost_76 : decode cX1_lostStrokeCost 76 = .ok (.goto (-45), 3) := by decide +kernel
theorem dX1_lostStrokeCost_79 : decode cX1_lostStrokeCost 79 = .ok (.iload 5, 2) := by decide +kernel
theorem dX1_lostStrokeCost_81 : decode cX1_lostStrokeCost 81 = .ok (.ireturn, 1) := by decide +kernel
theorem dX1_throughCost_0 : decode cX1_throughCost 0 = .ok (.iload_n 1, 1) := by decide +kernel
theorem dX1_throughCost_1 : decode cX1_throughCost 1 = .ok (.ifCond .ge 12, 3) := by decide +kernel
theorem dX1_throughCost_4 : decode cX1_throughCost 4 = .ok (.aload_n 0, 1) := by decide +kernel
theorem dX1_throughCost_5 : decode cX1_throughCost 5 = .ok (.getfield 29, 3) := by decide +kernel
theorem dX1_throughCost_8 : decode cX1_throughCost 8 = .ok (.iconst 0, 1) := by decide +kernel
theorem dX1_throughCost_9 : decode cX1_throughCost 9 = .ok (.iaload, 1) := by decide +kernel
theorem dX1_throughCost_10 : decode cX1_throughCost 10 = .ok (.goto 14, 3) := by decide +kernel
theorem dX1_throughCost_13 : decode cX1_throughCost 13 = .ok (.aload_n 0, 1) := by decide +kernel
theorem dX1_throughCost_14 : decode cX1_throughCost 14 = .ok (.aload_n 0, 1) := by decide +kernel
theorem dX1_throughCost_15 : decode cX1_throughCost 15 = .ok (.getfield 9, 3) := by decide +kernel
theorem dX1_throughCost_18 : decode cX1_throughCost 18 = .ok (.iload_n 1, 1) := by decide +kernel
theorem dX1_throughCost_19 : decode cX1_throughCost 19 = .ok (.iaload, 1) := by decide +kernel
theorem dX1_throughCost_20 : decode cX1_throughCost 20 = .ok (.iload_n 2, 1) := by decide +kernel
theorem dX1_throughCost_21 : decode cX1_throughCost 21 = .ok (.invokevirtual 69, 3) := by decide +kernel
theorem dX1_throughCost_24 : decode cX1_throughCost 24 = .ok (.istore 4, 2) := by decide +kernel
theorem dX1_throughCost_26 : decode cX1_throughCost 26 = .ok (.iconst 0, 1) := by decide +kernel
theorem dX1_throughCost_27 : decode cX1_throughCost 27 = .ok (.istore 5, 2) := by decide +kernel
theorem dX1_throughCost_29 : decode cX1_throughCost 29 = .ok (.iload 5, 2) := by decide +kernel
theorem dX1_throughCost_31 : decode cX1_throughCost 31 = .ok (.aload_n 0, 1) := by decide +kernel
theorem dX1_throughCost_32 : decode cX1_throughCost 32 = .ok (.getfield 44, 3) := by decide +kernel
theorem dX1_throughCost_35 : decode cX1_throughCost 35 = .ok (.if_icmp .ge 35, 3) := by decide +kernel
theorem dX1_throughCost_38 : decode cX1_throughCost 38 = .ok (.iload_n 3, 1) := by decide +kernel
theorem dX1_throughCost_39 : decode cX1_throughCost 39 = .ok (.iload 5, 2) := by decide +kernel
theorem dX1_throughCost_41 : decode cX1_throughCost 41 = .ok (.invokestatic 65, 3) := by decide +kernel
theorem dX1_throughCost_44 : decode cX1_throughCost 44 = .ok (.ifCond .eq 20, 3) := by decide +kernel
theorem dX1_throughCost_47 : decode cX1_throughCost 47 = .ok (.iload 4, 2) := by decide +kernel
theorem dX1_throughCost_49 : decode cX1_throughCost 49 = .ok (.aload_n 0, 1) := by decide +kernel
theorem dX1_throughCost_50 : decode cX1_throughCost 50 = .ok (.iload_n 2, 1) := by decide +kernel
theorem dX1_throughCost_51 : decode cX1_throughCost 51 = .ok (.aload_n 0, 1) := by decide +kernel
theorem dX1_throughCost_52 : decode cX1_throughCost 52 = .ok (.getfield 9, 3) := by decide +kernel
theorem dX1_throughCost_55 : decode cX1_throughCost 55 = .ok (.iload 5, 2) := by decide +kernel
theorem dX1_throughCost_57 : decode cX1_throughCost 57 = .ok (.iaload, 1) := by decide +kernel
theorem dX1_throughCost_58 : decode cX1_throughCost 58 = .ok (.invokevirtual 69, 3) := by decide +kernel
theorem dX1_throughCost_61 : decode cX1_throughCost 61 = .ok (.iadd, 1) := by decide +kernel
theorem dX1_throughCost_62 : decode cX1_throughCost 62 = .ok (.istore 4, 2) := by decide +kernel
theorem dX1_throughCost_64 : decode cX1_throughCost 64 = .ok (.iinc 5 1, 3) := by decide +kernel
theorem dX1_throughCost_67 : decode cX1_throughCost 67 = .ok (.goto (-38), 3) := by decide +kernel
theorem dX1_throughCost_70 : decode cX1_throughCost 70 = .ok (.iload 4, 2) := by decide +kernel
theorem dX1_throughCost_72 : decode cX1_throughCost 72 = .ok (.ireturn, 1) := by decide +kernel
theorem dX1_straightCost_0 : decode cX1_straightCost 0 = .ok (.iconst 0, 1) := by decide +kernel
theorem dX1_straightCost_1 : decode cX1_straightCost 1 = .ok (.istore_n 3, 1) := by decide +kernel
theorem dX1_straightCost_2 : decode cX1_straightCost 2 = .ok (.iconst 0, 1) := by decide +kernel
theorem dX1_straightCost_3 : decode cX1_straightCost 3 = .ok (.istore 4, 2) := by decide +kernel
theorem dX1_straightCost_5 : decode cX1_straightCost 5 = .ok (.iload 4, 2) := by decide +kernel
theorem dX1_straightCost_7 : decode cX1_straightCost 7 = .ok (.aload_n 0, 1) := by decide +kernel
theorem dX1_straightCost_8 : decode cX1_straightCost 8 = .ok (.getfield 44, 3) := by decide +kernel
theorem dX1_straightCost_11 : decode cX1_straightCost 11 = .ok (.if_icmp .ge 51, 3) := by decide +kernel
theorem dX1_straightCost_14 : decode cX1_straightCost 14 = .ok (.iload_n 2, 1) := by decide +kernel
theorem dX1_straightCost_15 : decode cX1_straightCost 15 = .ok (.iload 4, 2) := by decide +kernel
theorem dX1_straightCost_17 : decode cX1_straightCost 17 = .ok (.invokestatic 65, 3) := by decide +kernel
theorem dX1_straightCost_20 : decode cX1_straightCost 20 = .ok (.ifCond .eq 36, 3) := by decide +kernel
theorem dX1_straightCost_23 : decode cX1_straightCost 23 = .ok (.iload_n 3, 1) := by decide +kernel
theorem dX1_straightCost_24 : decode cX1_straightCost 24 = .ok (.iload_n 1, 1) := by decide +kernel
theorem dX1_straightCost_25 : decode cX1_straightCost 25 = .ok (.ifCond .ge 12, 3) := by decide +kernel
theorem dX1_straightCost_28 : decode cX1_straightCost 28 = .ok (.aload_n 0, 1) := by decide +kernel
theorem dX1_straightCost_29 : decode cX1_straightCost 29 = .ok (.getfield 29, 3) := by decide +kernel
theorem dX1_straightCost_32 : decode cX1_straightCost 32 = .ok (.iconst 0, 1) := by decide +kernel
theorem dX1_straightCost_33 : decode cX1_straightCost 33 = .ok (.iaload, 1) := by decide +kernel
theorem dX1_straightCost_34 : decode cX1_straightCost 34 = .ok (.goto 20, 3) := by decide +kernel
theorem dX1_straightCost_37 : decode cX1_straightCost 37 = .ok (.aload_n 0, 1) := by decide +kernel
theorem dX1_straightCost_38 : decode cX1_straightCost 38 = .ok (.aload_n 0, 1) := by decide +kernel
theorem dX1_straightCost_39 : decode cX1_straightCost 39 = .ok (.getfield 9, 3) := by decide +kernel
theorem dX1_straightCost_42 : decode cX1_straightCost 42 = .ok (.iload_n 1, 1) := by decide +kernel
theorem dX1_straightCost_43 : decode cX1_straightCost 43 = .ok (.iaload, 1) := by decide +kernel
theorem dX1_straightCost_44 : decode cX1_straightCost 44 = .ok (.aload_n 0, 1) := by decide +kernel
theorem dX1_straightCost_45 : decode cX1_straightCost 45 = .ok (.getfield 9, 3) := by decide +kernel
theorem dX1_straightCost_48 : decode cX1_straightCost 48 = .ok (.iload 4, 2) := by decide +kernel
theorem dX1_straightCost_50 : decode cX1_straightCost 50 = .ok (.iaload, 1) := by decide +kernel
theorem dX1_straightCost_51 : decode cX1_straightCost 51 = .ok (.invokevirtual 69, 3) := by decide +kernel
theorem dX1_straightCost_54 : decode cX1_straightCost 54 = .ok (.iadd, 1) := by decide +kernel
theorem dX1_straightCost_55 : decode cX1_straightCost 55 = .ok (.istore_n 3, 1) := by decide +kernel
theorem dX1_straightCost_56 : decode cX1_straightCost 56 = .ok (.iinc 4 1, 3) := by decide +kernel
theorem dX1_straightCost_59 : decode cX1_straightCost 59 = .ok (.goto (-54), 3) := by decide +kernel
theorem dX1_straightCost_62 : decode cX1_straightCost 62 = .ok (.iload_n 3, 1) := by decide +kernel
theorem dX1_straightCost_63 : decode cX1_straightCost 63 = .ok (.ireturn, 1) := by decide +kernel
theorem dX1_hiddenBy_0 : decode cX1_hiddenBy 0 = .ok (.iconst 0, 1) := by decide +kernel
theorem dX1_hiddenBy_1 : decode cX1_hiddenBy 1 = .ok (.istore_n 2, 1) := by decide +kernel
theorem dX1_hiddenBy_2 : decode cX1_hiddenBy 2 = .ok (.iconst 0, 1) := by decide +kernel
theorem dX1_hiddenBy_3 : decode cX1_hiddenBy 3 = .ok (.istore_n 3, 1) := by decide +kernel
theorem dX1_hiddenBy_4 : decode cX1_hiddenBy 4 = .ok (.iload_n 3, 1) := by decide +kernel
theorem dX1_hiddenBy_5 : decode cX1_hiddenBy 5 = .ok (.bipush 8, 2) := by decide +kernel
theorem dX1_hiddenBy_7 : decode cX1_hiddenBy 7 = .ok (.if_icmp .ge 48, 3) := by decide +kernel
theorem dX1_hiddenBy_10 : decode cX1_hiddenBy 10 = .ok (.iload_n 1, 1) := by decide +kernel
theorem dX1_hiddenBy_11 : decode cX1_hiddenBy 11 = .ok (.iload_n 3, 1) := by decide +kernel
theorem dX1_hiddenBy_12 : decode cX1_hiddenBy 12 = .ok (.invokestatic 57, 3) := by decide +kernel
theorem dX1_hiddenBy_15 : decode cX1_hiddenBy 15 = .ok (.istore 4, 2) := by decide +kernel
theorem dX1_hiddenBy_17 : decode cX1_hiddenBy 17 = .ok (.iload 4, 2) := by decide +kernel
theorem dX1_hiddenBy_19 : decode cX1_hiddenBy 19 = .ok (.iconst 3, 1) := by decide +kernel
theorem dX1_hiddenBy_20 : decode cX1_hiddenBy 20 = .ok (.if_icmp .ne 15, 3) := by decide +kernel
theorem dX1_hiddenBy_23 : decode cX1_hiddenBy 23 = .ok (.iload_n 2, 1) := by decide +kernel
theorem dX1_hiddenBy_24 : decode cX1_hiddenBy 24 = .ok (.aload_n 0, 1) := by decide +kernel
theorem dX1_hiddenBy_25 : decode cX1_hiddenBy 25 = .ok (.getfield 41, 3) := by decide +kernel
theorem dX1_hiddenBy_28 : decode cX1_hiddenBy 28 = .ok (.iload_n 3, 1) := by decide +kernel
theorem dX1_hiddenBy_29 : decode cX1_hiddenBy 29 = .ok (.iaload, 1) := by decide +kernel
theorem dX1_hiddenBy_30 : decode cX1_hiddenBy 30 = .ok (.ior, 1) := by decide +kernel
theorem dX1_hiddenBy_31 : decode cX1_hiddenBy 31 = .ok (.istore_n 2, 1) := by decide +kernel
theorem dX1_hiddenBy_32 : decode cX1_hiddenBy 32 = .ok (.goto 17, 3) := by decide +kernel
theorem dX1_hiddenBy_35 : decode cX1_hiddenBy 35 = .ok (.iload 4, 2) := by decide +kernel
theorem dX1_hiddenBy_37 : decode cX1_hiddenBy 37 = .ok (.ifCond .eq 12, 3) := by decide +kernel
theorem dX1_hiddenBy_40 : decode cX1_hiddenBy 40 = .ok (.iload_n 2, 1) := by decide +kernel
theorem dX1_hiddenBy_41 : decode cX1_hiddenBy 41 = .ok (.aload_n 0, 1) := by decide +kernel
theorem dX1_hiddenBy_42 : decode cX1_hiddenBy 42 = .ok (.getfield 38, 3) := by decide +kernel
theorem dX1_hiddenBy_45 : decode cX1_hiddenBy 45 = .ok (.iload_n 3, 1) := by decide +kernel
theorem dX1_hiddenBy_46 : decode cX1_hiddenBy 46 = .ok (.iaload, 1) := by decide +kernel
theorem dX1_hiddenBy_47 : decode cX1_hiddenBy 47 = .ok (.ior, 1) := by decide +kernel
theorem dX1_hiddenBy_48 : decode cX1_hiddenBy 48 = .ok (.istore_n 2, 1) := by decide +kernel
theorem dX1_hiddenBy_49 : decode cX1_hiddenBy 49 = .ok (.iinc 3 1, 3) := by decide +kernel
theorem dX1_hiddenBy_52 : decode cX1_hiddenBy 52 = .ok (.goto (-48), 3) := by decide +kernel
theorem dX1_hiddenBy_55 : decode cX1_hiddenBy 55 = .ok (.iload_n 2, 1) := by decide +kernel
theorem dX1_hiddenBy_56 : decode cX1_hiddenBy 56 = .ok (.ireturn, 1) := by decide +kernel
theorem dX2_init_0 : decode cX2_init 0 = .ok (.aload_n 0, 1) := by decide +kernel
theorem dX2_init_1 : decode cX2_init 1 = .ok (.invokespecial 3, 3) := by decide +kernel
theorem dX2_init_4 : decode cX2_init 4 = .ok (.aload_n 0, 1) := by decide +kernel
theorem dX2_init_5 : decode cX2_init 5 = .ok (.aload_n 1, 1) := by decide +kernel
theorem dX2_init_6 : decode cX2_init 6 = .ok (.putfield 9, 3) := by decide +kernel
theorem dX2_init_9 : decode cX2_init 9 = .ok (.return_, 1) := by decide +kernel
theorem dX2_leastOver_0 : decode cX2_leastOver 0 = .ok (.aload_n 0, 1) := by decide +kernel
theorem dX2_leastOver_1 : decode cX2_leastOver 1 = .ok (.bipush 17, 2) := by decide +kernel
theorem dX2_leastOver_3 : decode cX2_leastOver 3 = .ok (.putfield 15, 3) := by decide +kernel
theorem dX2_leastOver_6 : decode cX2_leastOver 6 = .ok (.aload_n 0, 1) := by decide +kernel
theorem dX2_leastOver_7 : decode cX2_leastOver 7 = .ok (.bipush (-6), 2) := by decide +kernel
theorem dX2_leastOver_9 : decode cX2_leastOver 9 = .ok (.putfield 19, 3) := by decide +kernel
theorem dX2_leastOver_12 : decode cX2_leastOver 12 = .ok (.aload_n 0, 1) := by decide +kernel
theorem dX2_leastOver_13 : decode cX2_leastOver 13 = .ok (.iconst 0, 1) := by decide +kernel
theorem dX2_leastOver_14 : decode cX2_leastOver 14 = .ok (.iload_n 1, 1) := by decide +kernel
theorem dX2_leastOver_15 : decode cX2_leastOver 15 = .ok (.iconst 0, 1) := by decide +kernel
theorem dX2_leastOver_16 : decode cX2_leastOver 16 = .ok (.iconst 0, 1) := by decide +kernel
theorem dX2_leastOver_17 : decode cX2_leastOver 17 = .ok (.invokestatic 22, 3) := by decide +kernel
theorem dX2_leastOver_20 : decode cX2_leastOver 20 = .ok (.aload_n 0, 1) := by decide +kernel
theorem dX2_leastOver_21 : decode cX2_leastOver 21 = .ok (.getfield 19, 3) := by decide +kernel
theorem dX2_leastOver_24 : decode cX2_leastOver 24 = .ok (.ireturn, 1) := by decide +kernel
theorem dX2_search_0 : decode cX2_search 0 = .ok (.iload_n 3, 1) := by decide +kernel
theorem dX2_search_1 : decode cX2_search 1 = .ok (.aload_n 0, 1) := by decide +kernel
theorem dX2_search_2 : decode cX2_search 2 = .ok (.getfield 15, 3) := by decide +kernel
theorem dX2_search_5 : decode cX2_search 5 = .ok (.if_icmp .lt 4, 3) := by decide +kernel
theorem dX2_search_8 : decode cX2_search 8 = .ok (.return_, 1) := by decide +kernel
theorem dX2_search_9 : decode cX2_search 9 = .ok (.iload_n 2, 1) := by decide +kernel
theorem dX2_search_10 : decode cX2_search 10 = .ok (.ifCond .ne 15, 3) := by decide +kernel
theorem dX2_search_13 : decode cX2_search 13 = .ok (.aload_n 0, 1) := by decide +kernel
theorem dX2_search_14 : decode cX2_search 14 = .ok (.iload_n 3, 1) := by decide +kernel
theorem dX2_search_15 : decode cX2_search 15 = .ok (.putfield 15, 3) := by decide +kernel
theorem dX2_search_18 : decode cX2_search 18 = .ok (.aload_n 0, 1) := by decide +kernel
theorem dX2_search_19 : decode cX2_search 19 = .ok (.iload 4, 2) := by decide +kernel
theorem dX2_search_21 : decode cX2_search 21 = .ok (.putfield 19, 3) := by decide +kernel
theorem dX2_search_24 : decode cX2_search 24 = .ok (.return_, 1) := by decide +kernel
theorem dX2_search_25 : decode cX2_search 25 = .ok (.iload_n 1, 1) := by decide +kernel
theorem dX2_search_26 : decode cX2_search 26 = .ok (.bipush 8, 2) := by decide +kernel
theorem dX2_search_28 : decode cX2_search 28 = .ok (.if_icmp .lt 4, 3) := by decide +kernel
theorem dX2_search_31 : decode cX2_search 31 = .ok (.return_, 1) := by decide +kernel
theorem dX2_search_32 : decode cX2_search 32 = .ok (.iconst 1, 1) := by decide +kernel
theorem dX2_search_33 : decode cX2_search 33 = .ok (.iconst 2, 1) := by decide +kernel
theorem dX2_search_34 : decode cX2_search 34 = .ok (.bipush 7, 2) := by decide +kernel
theorem dX2_search_36 : decode cX2_search 36 = .ok (.iload_n 1, 1) := by decide +kernel
theorem dX2_search_37 : decode cX2_search 37 = .ok (.isub, 1) := by decide +kernel
theorem dX2_search_38 : decode cX2_search 38 = .ok (.imul, 1) := by decide +kernel
theorem dX2_search_39 : decode cX2_search 39 = .ok (.ishl, 1) := by decide +kernel
theorem dX2_search_40 : decode cX2_search 40 = .ok (.istore 5, 2) := by decide +kernel
theorem dX2_search_42 : decode cX2_search 42 = .ok (.aload_n 0, 1) := by decide +kernel
theorem dX2_search_43 : decode cX2_search 43 = .ok (.iload_n 1, 1) := by decide +kernel
theorem dX2_search_44 : decode cX2_search 44 = .ok (.iconst 1, 1) := by decide +kernel
theorem dX2_search_45 : decode cX2_search 45 = .ok (.iadd, 1) := by decide +kernel
theorem dX2_search_46 : decode cX2_search 46 = .ok (.iload_n 2, 1) := by decide +kernel
theorem dX2_search_47 : decode cX2_search 47 = .ok (.iload_n 3, 1) := by decide +kernel
theorem dX2_search_48 : decode cX2_search 48 = .ok (.iload 4, 2) := by decide +kernel
theorem dX2_search_50 : decode cX2_search 50 = .ok (.invokestatic 22, 3) := by decide +kernel
theorem dX2_search_53 : decode cX2_search 53 = .ok (.aload_n 0, 1) := by decide +kernel
theorem dX2_search_54 : decode cX2_search 54 = .ok (.iload_n 1, 1) := by decide +kernel
theorem dX2_search_55 : decode cX2_search 55 = .ok (.iconst 1, 1) := by decide +kernel
theorem dX2_search_56 : decode cX2_search 56 = .ok (.iadd, 1) := by decide +kernel
theorem dX2_search_57 : decode cX2_search 57 = .ok (.iload_n 2, 1) := by decide +kernel
theorem dX2_search_58 : decode cX2_search 58 = .ok (.aload_n 0, 1) := by decide +kernel
theorem dX2_search_59 : decode cX2_search 59 = .ok (.getfield 9, 3) := by decide +kernel
theorem dX2_search_62 : decode cX2_search 62 = .ok (.getfield 26, 3) := by decide +kernel
theorem dX2_search_65 : decode cX2_search 65 = .ok (.iload_n 1, 1) := by decide +kernel
theorem dX2_search_66 : decode cX2_search 66 = .ok (.iaload, 1) := by decide +kernel
theorem dX2_search_67 : decode cX2_search 67 = .ok (.iconst (-1), 1) := by decide +kernel
theorem dX2_search_68 : decode cX2_search 68 = .ok (.ixor, 1) := by decide +kernel
theorem dX2_search_69 : decode cX2_search 69 = .ok (.iand, 1) := by decide +kernel
theorem dX2_search_70 : decode cX2_search 70 = .ok (.iload_n 3, 1) := by decide +kernel
theorem dX2_search_71 : decode cX2_search 71 = .ok (.iconst 1, 1) := by decide +kernel
theorem dX2_search_72 : decode cX2_search 72 = .ok (.iadd, 1) := by decide +kernel
theorem dX2_search_73 : decode cX2_search 73 = .ok (.iload 4, 2) := by decide +kernel
theorem dX2_search_75 : decode cX2_search 75 = .ok (.iconst 1, 1) := by decide +kernel
theorem dX2_search_76 : decode cX2_search 76 = .ok (.iload 5, 2) := by decide +kernel
theorem dX2_search_78 : decode cX2_search 78 = .ok (.imul, 1) := by decide +kernel
theorem dX2_search_79 : decode cX2_search 79 = .ok (.iadd, 1) := by decide +kernel
theorem dX2_search_80 : decode cX2_search 80 = .ok (.invokestatic 22, 3) := by decide +kernel
theorem dX2_search_83 : decode cX2_search 83 = .ok (.aload_n 0, 1) := by decide +kernel
theorem dX2_search_84 : decode cX2_search 84 = .ok (.iload_n 1, 1) := by decide +kernel
theorem dX2_search_85 : decode cX2_search 85 = .ok (.iconst 1, 1) := by decide +kernel
theorem dX2_search_86 : decode cX2_search 86 = .ok (.iadd, 1) := by decide +kernel
theorem dX2_search_87 : decode cX2_search 87 = .ok (.iload_n 2, 1) := by decide +kernel
theorem dX2_search_88 : decode cX2_search 88 = .ok (.aload_n 0, 1) := by decide +kernel
theorem dX2_search_89 : decode cX2_search 89 = .ok (.getfield 9, 3) := by decide +kernel
theorem dX2_search_92 : decode cX2_search 92 = .ok (.getfield 32, 3) := by decide +kernel
theorem dX2_search_95 : decode cX2_search 95 = .ok (.iload_n 1, 1) := by decide +kernel
theorem dX2_search_96 : decode cX2_search 96 = .ok (.iaload, 1) := by decide +kernel
theorem dX2_search_97 : decode cX2_search 97 = .ok (.iconst (-1), 1) := by decide +kernel
theorem dX2_search_98 : decode cX2_search 98 = .ok (.ixor, 1) := by decide +kernel
theorem dX2_search_99 : decode cX2_search 99 = .ok (.iand, 1) := by decide +kernel
theorem dX2_search_100 : decode cX2_search 100 = .ok (.iload_n 3, 1) := by decide +kernel
theorem dX2_search_101 : decode cX2_search 101 = .ok (.iconst 2, 1) := by decide +kernel
theorem dX2_search_102 : decode cX2_search 102 = .ok (.iadd, 1) := by decide +kernel
theorem dX2_search_103 : decode cX2_search 103 = .ok (.iload 4, 2) := by decide +kernel
theorem dX2_search_105 : decode cX2_search 105 = .ok (.iconst 3, 1) := by decide +kernel
theorem dX2_search_106 : decode cX2_search 106 = .ok (.iload 5, 2) := by decide +kernel
theorem dX2_search_108 : decode cX2_search 108 = .ok (.imul, 1) := by decide +kernel
theorem dX2_search_109 : decode cX2_search 109 = .ok (.iadd, 1) := by decide +kernel
theorem dX2_search_110 : decode cX2_search 110 = .ok (.invokestatic 22, 3) := by decide +kernel
theorem dX2_search_113 : decode cX2_search 113 = .ok (.return_, 1) := by decide +kernel
theorem dX3_init_0 : decode cX3_init 0 = .ok (.aload_n 0, 1) := by decide +kernel
theorem dX3_init_1 : decode cX3_init 1 = .ok (.invokespecial 3, 3) := by decide +kernel
theorem dX3_init_4 : decode cX3_init 4 = .ok (.aload_n 0, 1) := by decide +kernel
theorem dX3_init_5 : decode cX3_init 5 = .ok (.bipush 50, 2) := by decide +kernel
theorem dX3_init_7 : decode cX3_init 7 = .ok (.newarray .int, 2) := by decide +kernel
theorem dX3_init_9 : decode cX3_init 9 = .ok (.putfield 9, 3) := by decide +kernel
theorem dX3_init_12 : decode cX3_init 12 = .ok (.return_, 1) := by decide +kernel
theorem dX3_append_0 : decode cX3_append 0 = .ok (.aload_n 0, 1) := by decide +kernel
theorem dX3_append_1 : decode cX3_append 1 = .ok (.getfield 15, 3) := by decide +kernel
theorem dX3_append_4 : decode cX3_append 4 = .ok (.bipush 50, 2) := by decide +kernel
theorem dX3_append_6 : decode cX3_append 6 = .ok (.if_icmp .ge 23, 3) := by decide +kernel
theorem dX3_append_9 : decode cX3_append 9 = .ok (.aload_n 0, 1) := by decide +kernel
theorem dX3_append_10 : decode cX3_append 10 = .ok (.getfield 9, 3) := by decide +kernel
theorem dX3_append_13 : decode cX3_append 13 = .ok (.aload_n 0, 1) := by decide +kernel
theorem dX3_append_14 : decode cX3_append 14 = .ok (.getfield 15, 3) := by decide +kernel
theorem dX3_append_17 : decode cX3_append 17 = .ok (.iload_n 1, 1) := by decide +kernel
theorem dX3_append_18 : decode cX3_append 18 = .ok (.iastore, 1) := by decide +kernel
theorem dX3_append_19 : decode cX3_append 19 = .ok (.aload_n 0, 1) := by decide +kernel
theorem dX3_append_20 : decode cX3_append 20 = .ok (.dup, 1) := by decide +kernel
theorem dX3_append_21 : decode cX3_append 21 = .ok (.getfield 15, 3) := by decide +kernel
theorem dX3_append_24 : decode cX3_append 24 = .ok (.iconst 1, 1) := by decide +kernel
theorem dX3_append_25 : decode cX3_append 25 = .ok (.iadd, 1) := by decide +kernel
theorem dX3_append_26 : decode cX3_append 26 = .ok (.putfield 15, 3) := by decide +kernel
theorem dX3_append_29 : decode cX3_append 29 = .ok (.return_, 1) := by decide +kernel
theorem dX3_faultPlace_0 : decode cX3_faultPlace 0 = .ok (.iconst 0, 1) := by decide +kernel
theorem dX3_faultPlace_1 : decode cX3_faultPlace 1 = .ok (.istore_n 1, 1) := by decide +kernel
theorem dX3_faultPlace_2 : decode cX3_faultPlace 2 = .ok (.iconst 0, 1) := by decide +kernel
theorem dX3_faultPlace_3 : decode cX3_faultPlace 3 = .ok (.istore_n 2, 1) := by decide +kernel
theorem dX3_faultPlace_4 : decode cX3_faultPlace 4 = .ok (.iload_n 2, 1) := by decide +kernel
theorem dX3_faultPlace_5 : decode cX3_faultPlace 5 = .ok (.aload_n 0, 1) := by decide +kernel
theorem dX3_faultPlace_6 : decode cX3_faultPlace 6 = .ok (.getfield 15, 3) := by decide +kernel
theorem dX3_faultPlace_9 : decode cX3_faultPlace 9 = .ok (.if_icmp .ge 27, 3) := by decide +kernel
theorem dX3_faultPlace_12 : decode cX3_faultPlace 12 = .ok (.iload_n 1, 1) := by decide +kernel
theorem dX3_faultPlace_13 : decode cX3_faultPlace 13 = .ok (.aload_n 0, 1) := by decide +kernel
theorem dX3_faultPlace_14 : decode cX3_faultPlace 14 = .ok (.getfield 9, 3) := by decide +kernel
theorem dX3_faultPlace_17 : decode cX3_faultPlace 17 = .ok (.iload_n 2, 1) := by decide +kernel
theorem dX3_faultPlace_18 : decode cX3_faultPlace 18 = .ok (.iaload, 1) := by decide +kernel
theorem dX3_faultPlace_19 : decode cX3_faultPlace 19 = .ok (.invokestatic 19, 3) := by decide +kernel
theorem dX3_faultPlace_22 : decode cX3_faultPlace 22 = .ok (.istore_n 1, 1) := by decide +kernel
theorem dX3_faultPlace_23 : decode cX3_faultPlace 23 = .ok (.iload_n 1, 1) := by decide +kernel
theorem dX3_faultPlace_24 : decode cX3_faultPlace 24 = .ok (.iconst (-1), 1) := by decide +kernel
theorem dX3_faultPlace_25 : decode cX3_faultPlace 25 = .ok (.if_icmp .ne 5, 3) := by decide +kernel
theorem dX3_faultPlace_28 : decode cX3_faultPlace 28 = .ok (.iload_n 2, 1) := by decide +kernel
theorem dX3_faultPlace_29 : decode cX3_faultPlace 29 = .ok (.ireturn, 1) := by decide +kernel
theorem dX3_faultPlace_30 : decode cX3_faultPlace 30 = .ok (.iinc 2 1, 3) := by decide +kernel
theorem dX3_faultPlace_33 : decode cX3_faultPlace 33 = .ok (.goto (-29), 3) := by decide +kernel
theorem dX3_faultPlace_36 : decode cX3_faultPlace 36 = .ok (.iload_n 1, 1) := by decide +kernel
theorem dX3_faultPlace_37 : decode cX3_faultPlace 37 = .ok (.iconst 4, 1) := by decide +kernel
theorem dX3_faultPlace_38 : decode cX3_faultPlace 38 = .ok (.if_icmp .lt 8, 3) := by decide +kernel
theorem dX3_faultPlace_41 : decode cX3_faultPlace 41 = .ok (.bipush (-6), 2) := by decide +kernel
theorem dX3_faultPlace_43 : decode cX3_faultPlace 43 = .ok (.goto 7, 3) := by decide +kernel
theorem dX3_faultPlace_46 : decode cX3_faultPlace 46 = .ok (.aload_n 0, 1) := by decide +kernel
theorem dX3_faultPlace_47 : decode cX3_faultPlace 47 = .ok (.getfield 15, 3) := by decide +kernel
theorem dX3_faultPlace_50 : decode cX3_faultPlace 50 = .ok (.ireturn, 1) := by decide +kernel
theorem dX3_placeAfter_0 : decode cX3_placeAfter 0 = .ok (.iload_n 0, 1) := by decide +kernel
theorem dX3_placeAfter_1 : decode cX3_placeAfter 1 = .ok (.tableswitch 101 0 4 #[35, 35, 60, 72, 85], 35) := by decide +kernel
theorem dX3_placeAfter_36 : decode cX3_placeAfter 36 = .ok (.iload_n 1, 1) := by decide +kernel
theorem dX3_placeAfter_37 : decode cX3_placeAfter 37 = .ok (.bipush 42, 2) := by decide +kernel
theorem dX3_placeAfter_39 : decode cX3_placeAfter 39 = .ok (.if_icmp .eq 14, 3) := by decide +kernel
theorem dX3_placeAfter_42 : decode cX3_placeAfter 42 = .ok (.iload_n 1, 1) := by decide +kernel
theorem dX3_placeAfter_43 : decode cX3_placeAfter 43 = .ok (.bipush 48, 2) := by decide +kernel
theorem dX3_placeAfter_45 : decode cX3_placeAfter 45 = .ok (.bipush 51, 2) := by decide +kernel
theorem dX3_placeAfter_47 : decode cX3_placeAfter 47 = .ok (.invokestatic 23, 3) := by decide +kernel
theorem dX3_placeAfter_50 : decode cX3_placeAfter 50 = .ok (.ifCond .eq 9, 3) := by decide +kernel
theorem dX3_placeAfter_53 : decode cX3_placeAfter 53 = .ok (.iload_n 0, 1) := by decide +kernel
theorem dX3_placeAfter_54 : decode cX3_placeAfter 54 = .ok (.iconst 1, 1) := by decide +kernel
theorem dX3_placeAfter_55 : decode cX3_placeAfter 55 = .ok (.iadd, 1) := by decide +kernel
theorem dX3_placeAfter_56 : decode cX3_placeAfter 56 = .ok (.goto 4, 3) := by decide +kernel
theorem dX3_placeAfter_59 : decode cX3_placeAfter 59 = .ok (.iconst (-1), 1) := by decide +kernel
theorem dX3_placeAfter_60 : decode cX3_placeAfter 60 = .ok (.ireturn, 1) := by decide +kernel
theorem dX3_placeAfter_61 : decode cX3_placeAfter 61 = .ok (.iload_n 1, 1) := by decide +kernel
theorem dX3_placeAfter_62 : decode cX3_placeAfter 62 = .ok (.bipush 61, 2) := by decide +kernel
theorem dX3_placeAfter_64 : decode cX3_placeAfter 64 = .ok (.if_icmp .ne 7, 3) := by decide +kernel
theorem dX3_placeAfter_67 : decode cX3_placeAfter 67 = .ok (.iconst 3, 1) := by decide +kernel
theorem dX3_placeAfter_68 : decode cX3_placeAfter 68 = .ok (.goto 4, 3) := by decide +kernel
theorem dX3_placeAfter_71 : decode cX3_placeAfter 71 = .ok (.iconst (-1), 1) := by decide +kernel
theorem dX3_placeAfter_72 : decode cX3_placeAfter 72 = .ok (.ireturn, 1) := by decide +kernel
theorem dX3_placeAfter_73 : decode cX3_placeAfter 73 = .ok (.iload_n 1, 1) := by decide +kernel
theorem dX3_placeAfter_74 : decode cX3_placeAfter 74 = .ok (.invokestatic 27, 3) := by decide +kernel
theorem dX3_placeAfter_77 : decode cX3_placeAfter 77 = .ok (.ifCond .eq 7, 3) := by decide +kernel
theorem dX3_placeAfter_80 : decode cX3_placeAfter 80 = .ok (.iconst 4, 1) := by decide +kernel
theorem dX3_placeAfter_81 : decode cX3_placeAfter 81 = .ok (.goto 4, 3) := by decide +kernel
theorem dX3_placeAfter_84 : decode cX3_placeAfter 84 = .ok (.iconst (-1), 1) := by decide +kernel
theorem dX3_placeAfter_85 : decode cX3_placeAfter 85 = .ok (.ireturn, 1) := by decide +kernel
theorem dX3_placeAfter_86 : decode cX3_placeAfter 86 = .ok (.iload_n 1, 1) := by decide +kernel
theorem dX3_placeAfter_87 : decode cX3_placeAfter 87 = .ok (.invokestatic 27, 3) := by decide +kernel
theorem dX3_placeAfter_90 : decode cX3_placeAfter 90 = .ok (.ifCond .eq 7, 3) := by decide +kernel
theorem dX3_placeAfter_93 : decode cX3_placeAfter 93 = .ok (.iconst 5, 1) := by decide +kernel
theorem dX3_placeAfter_94 : decode cX3_placeAfter 94 = .ok (.goto 7, 3) := by decide +kernel
theorem dX3_placeAfter_97 : decode cX3_placeAfter 97 = .ok (.iload_n 1, 1) := by decide +kernel
theorem dX3_placeAfter_98 : decode cX3_placeAfter 98 = .ok (.invokestatic 31, 3) := by decide +kernel
theorem dX3_placeAfter_101 : decode cX3_placeAfter 101 = .ok (.ireturn, 1) := by decide +kernel
theorem dX3_placeAfter_102 : decode cX3_placeAfter 102 = .ok (.iload_n 1, 1) := by decide +kernel
theorem dX3_placeAfter_103 : decode cX3_placeAfter 103 = .ok (.invokestatic 31, 3) := by decide +kernel
theorem dX3_placeAfter_106 : decode cX3_placeAfter 106 = .ok (.ireturn, 1) := by decide +kernel
theorem dX3_afterLine_0 : decode cX3_afterLine 0 = .ok (.iload_n 0, 1) := by decide +kernel
theorem dX3_afterLine_1 : decode cX3_afterLine 1 = .ok (.bipush 59, 2) := by decide +kernel
theorem dX3_afterLine_3 : decode cX3_afterLine 3 = .ok (.if_icmp .ne 7, 3) := by decide +kernel
theorem dX3_afterLine_6 : decode cX3_afterLine 6 = .ok (.iconst 0, 1) := by decide +kernel
theorem dX3_afterLine_7 : decode cX3_afterLine 7 = .ok (.goto 4, 3) := by decide +kernel
theorem dX3_afterLine_10 : decode cX3_afterLine 10 = .ok (.iconst (-1), 1) := by decide +kernel
theorem dX3_afterLine_11 : decode cX3_afterLine 11 = .ok (.ireturn, 1) := by decide +kernel
theorem dX3_isDigit_0 : decode cX3_isDigit 0 = .ok (.iload_n 0, 1) := by decide +kernel
theorem dX3_isDigit_1 : decode cX3_isDigit 1 = .ok (.bipush 48, 2) := by decide +kernel
theorem dX3_isDigit_3 : decode cX3_isDigit 3 = .ok (.bipush 57, 2) := by decide +kernel
theorem dX3_isDigit_5 : decode cX3_isDigit 5 = .ok (.invokestatic 23, 3) := by decide +kernel
theorem dX3_isDigit_8 : decode cX3_isDigit 8 = .ok (.ireturn, 1) := by decide +kernel
theorem dX3_readInto_0 : decode cX3_readInto 0 = .ok (.iconst 0, 1) := by decide +kernel
theorem dX3_readInto_1 : decode cX3_readInto 1 = .ok (.istore_n 2, 1) := by decide +kernel
theorem dX3_readInto_2 : decode cX3_readInto 2 = .ok (.iload_n 2, 1) := by decide +kernel
theorem dX3_readInto_3 : decode cX3_readInto 3 = .ok (.iconst 4, 1) := by decide +kernel
theorem dX3_readInto_4 : decode cX3_readInto 4 = .ok (.if_icmp .ge 37, 3) := by decide +kernel
theorem dX3_readInto_7 : decode cX3_readInto 7 = .ok (.iconst 0, 1) := by decide +kernel
theorem dX3_readInto_8 : decode cX3_readInto 8 = .ok (.istore_n 3, 1) := by decide +kernel
theorem dX3_readInto_9 : decode cX3_readInto 9 = .ok (.iload_n 3, 1) := by decide +kernel
theorem dX3_readInto_10 : decode cX3_readInto 10 = .ok (.iconst 4, 1) := by decide +kernel
theorem dX3_readInto_11 : decode cX3_readInto 11 = .ok (.if_icmp .ge 24, 3) := by decide +kernel
theorem dX3_readInto_14 : decode cX3_readInto 14 = .ok (.aload_n 1, 1) := by decide +kernel
theorem dX3_readInto_15 : decode cX3_readInto 15 = .ok (.iload_n 2, 1) := by decide +kernel
theorem dX3_readInto_16 : decode cX3_readInto 16 = .ok (.aaload, 1) := by decide +kernel
theorem dX3_readInto_17 : decode cX3_readInto 17 = .ok (.iload_n 3, 1) := by decide +kernel
theorem dX3_readInto_18 : decode cX3_readInto 18 = .ok (.iload_n 2, 1) := by decide +kernel
theorem dX3_readInto_19 : decode cX3_readInto 19 = .ok (.iload_n 3, 1) := by decide +kernel
theorem dX3_readInto_20 : decode cX3_readInto 20 = .ok (.if_icmp .ne 7, 3) := by decide +kernel
theorem dX3_readInto_23 : decode cX3_readInto 23 = .ok (.iconst 0, 1) := by decide +kernel
theorem dX3_readInto_24 : decode cX3_readInto 24 = .ok (.goto 4, 3) := by decide +kernel
theorem dX3_readInto_27 : decode cX3_readInto 27 = .ok (.iconst (-1), 1) := by decide +kernel
theorem dX3_readInto_28 : decode cX3_readInto 28 = .ok (.iastore, 1) := by decide +kernel
theorem dX3_readInto_29 : decode cX3_readInto 29 = .ok (.iinc 3 1, 3) := by decide +kernel
theorem dX3_readInto_32 : decode cX3_readInto 32 = .ok (.goto (-23), 3) := by decide +kernel
theorem dX3_readInto_35 : decode cX3_readInto 35 = .ok (.iinc 2 1, 3) := by decide +kernel
theorem dX3_readInto_38 : decode cX3_readInto 38 = .ok (.goto (-36), 3) := by decide +kernel
theorem dX3_readInto_41 : decode cX3_readInto 41 = .ok (.iconst 0, 1) := by decide +kernel
theorem dX3_readInto_42 : decode cX3_readInto 42 = .ok (.istore_n 2, 1) := by decide +kernel
theorem dX3_readInto_43 : decode cX3_readInto 43 = .ok (.iconst 0, 1) := by decide +kernel
theorem dX3_readInto_44 : decode cX3_readInto 44 = .ok (.istore_n 3, 1) := by decide +kernel
theorem dX3_readInto_45 : decode cX3_readInto 45 = .ok (.iconst 0, 1) := by decide +kernel
theorem dX3_readInto_46 : decode cX3_readInto 46 = .ok (.istore 4, 2) := by decide +kernel
theorem dX3_readInto_48 : decode cX3_readInto 48 = .ok (.iconst 0, 1) := by decide +kernel
theorem dX3_readInto_49 : decode cX3_readInto 49 = .ok (.istore 5, 2) := by decide +kernel
theorem dX3_readInto_51 : decode cX3_readInto 51 = .ok (.iconst 0, 1) := by decide +kernel
theorem dX3_readInto_52 : decode cX3_readInto 52 = .ok (.istore 6, 2) := by decide +kernel
theorem dX3_readInto_54 : decode cX3_readInto 54 = .ok (.iconst 0, 1) := by decide +kernel
theorem dX3_readInto_55 : decode cX3_readInto 55 = .ok (.istore 7, 2) := by decide +kernel
theorem dX3_readInto_57 : decode cX3_readInto 57 = .ok (.iload 7, 2) := by decide +kernel
theorem dX3_readInto_59 : decode cX3_readInto 59 = .ok (.aload_n 0, 1) := by decide +kernel
theorem dX3_readInto_60 : decode cX3_readInto 60 = .ok (.getfield 15, 3) := by decide +kernel
theorem dX3_readInto_63 : decode cX3_readInto 63 = .ok (.if_icmp .ge 132, 3) := by decide +kernel
theorem dX3_readInto_66 : decode cX3_readInto 66 = .ok (.aload_n 0, 1) := by decide +kernel
theorem dX3_readInto_67 : decode cX3_readInto 67 = .ok (.getfield 9, 3) := by decide +kernel
theorem dX3_readInto_70 : decode cX3_readInto 70 = .ok (.iload 7, 2) := by decide +kernel
theorem dX3_readInto_72 : decode cX3_readInto 72 = .ok (.iaload, 1) := by decide +kernel
theorem dX3_readInto_73 : decode cX3_readInto 73 = .ok (.istore 8, 2) := by decide +kernel
theorem dX3_readInto_75 : decode cX3_readInto 75 = .ok (.iload_n 3, 1) := by decide +kernel
theorem dX3_readInto_76 : decode cX3_readInto 76 = .ok (.ifCond .ne 10, 3) := by decide +kernel
theorem dX3_readInto_79 : decode cX3_readInto 79 = .ok (.iload 8, 2) := by decide +kernel
theorem dX3_readInto_81 : decode cX3_readInto 81 = .ok (.istore 4, 2) := by decide +kernel
theorem dX3_readInto_83 : decode cX3_readInto 83 = .ok (.goto 56, 3) := by decide +kernel
theorem dX3_readInto_86 : decode cX3_readInto 86 = .ok (.iload_n 3, 1) := by decide +kernel
theorem dX3_readInto_87 : decode cX3_readInto 87 = .ok (.iconst 1, 1) := by decide +kernel
theorem dX3_readInto_88 : decode cX3_readInto 88 = .ok (.if_icmp .ne 10, 3) := by decide +kernel
theorem dX3_readInto_91 : decode cX3_readInto 91 = .ok (.iload 8, 2) := by decide +kernel
theorem dX3_readInto_93 : decode cX3_readInto 93 = .ok (.istore 5, 2) := by decide +kernel
theorem dX3_readInto_95 : decode cX3_readInto 95 = .ok (.goto 44, 3) := by decide +kernel
theorem dX3_readInto_98 : decode cX3_readInto 98 = .ok (.iload_n 3, 1) := by decide +kernel
theorem dX3_readInto_99 : decode cX3_readInto 99 = .ok (.iconst 3, 1) := by decide +kernel
theorem dX3_readInto_100 : decode cX3_readInto 100 = .ok (.if_icmp .ne 13, 3) := by decide +kernel
theorem dX3_readInto_103 : decode cX3_readInto 103 = .ok (.iload 8, 2) := by decide +kernel
theorem dX3_readInto_105 : decode cX3_readInto 105 = .ok (.bipush 48, 2) := by decide +kernel
theorem dX3_readInto_107 : decode cX3_readInto 107 = .ok (.isub, 1) := by decide +kernel
theorem dX3_readInto_108 : decode cX3_readInto 108 = .ok (.istore 6, 2) := by decide +kernel
theorem dX3_readInto_110 : decode cX3_readInto 110 = .ok (.goto 29, 3) := by decide +kernel
theorem dX3_readInto_113 : decode cX3_readInto 113 = .ok (.iload_n 3, 1) := by decide +kernel
theorem dX3_readInto_114 : decode cX3_readInto 114 = .ok (.iconst 4, 1) := by decide +kernel
theorem dX3_readInto_115 : decode cX3_readInto 115 = .ok (.if_icmp .ne 24, 3) := by decide +kernel
theorem dX3_readInto_118 : decode cX3_readInto 118 = .ok (.iload 8, 2) := by decide +kernel
theorem dX3_readInto_120 : decode cX3_readInto 120 = .ok (.invokestatic 27, 3) := by decide +kernel
theorem dX3_readInto_123 : decode cX3_readInto 123 = .ok (.ifCond .eq 16, 3) := by decide +kernel
theorem dX3_readInto_126 : decode cX3_readInto 126 = .ok (.iload 6, 2) := by decide +kernel
theorem dX3_readInto_128 : decode cX3_readInto 128 = .ok (.bipush 10, 2) := by decide +kernel
theorem dX3_readInto_130 : decode cX3_readInto 130 = .ok (.imul, 1) := by decide +kernel
theorem dX3_readInto_131 : decode cX3_readInto 131 = .ok (.iload 8, 2) := by decide +kernel
theorem dX3_readInto_133 : decode cX3_readInto 133 = .ok (.iadd, 1) := by decide +kernel
theorem dX3_readInto_134 : decode cX3_readInto 134 = .ok (.bipush 48, 2) := by decide +kernel
theorem dX3_readInto_136 : decode cX3_readInto 136 = .ok (.isub, 1) := by decide +kernel
theorem dX3_readInto_137 : decode cX3_readInto 137 = .ok (.istore 6, 2) := by decide +kernel
theorem dX3_readInto_139 : decode cX3_readInto 139 = .ok (.iload_n 3, 1) := by decide +kernel
theorem dX3_readInto_140 : decode cX3_readInto 140 = .ok (.iload 8, 2) := by decide +kernel
theorem dX3_readInto_142 : decode cX3_readInto 142 = .ok (.invokestatic 19, 3) := by decide +kernel
theorem dX3_readInto_145 : decode cX3_readInto 145 = .ok (.istore_n 3, 1) := by decide +kernel
theorem dX3_readInto_146 : decode cX3_readInto 146 = .ok (.iload 7, 2) := by decide +kernel
theorem dX3_readInto_148 : decode cX3_readInto 148 = .ok (.aload_n 0, 1) := by decide +kernel
theorem dX3_readInto_149 : decode cX3_readInto 149 = .ok (.getfield 15, 3) := by decide +kernel
theorem dX3_readInto_152 : decode cX3_readInto 152 = .ok (.iconst 1, 1) := by decide +kernel
theorem dX3_readInto_153 : decode cX3_readInto 153 = .ok (.isub, 1) := by decide +kernel
theorem dX3_readInto_154 : decode cX3_readInto 154 = .ok (.if_icmp .eq 10, 3) := by decide +kernel
theorem dX3_readInto_157 : decode cX3_readInto 157 = .ok (.iload 8, 2) := by decide +kernel
theorem dX3_readInto_159 : decode cX3_readInto 159 = .ok (.bipush 59, 2) := by decide +kernel
theorem dX3_readInto_161 : decode cX3_readInto 161 = .ok (.if_icmp .ne 7, 3) := by decide +kernel
theorem dX3_readInto_164 : decode cX3_readInto 164 = .ok (.iconst 1, 1) := by decide +kernel
theorem dX3_readInto_165 : decode cX3_readInto 165 = .ok (.goto 4, 3) := by decide +kernel
theorem dX3_readInto_168 : decode cX3_readInto 168 = .ok (.iconst 0, 1) := by decide +kernel
theorem dX3_readInto_169 : decode cX3_readInto 169 = .ok (.istore 9, 2) := by decide +kernel
theorem dX3_readInto_171 : decode cX3_readInto 171 = .ok (.iload 9, 2) := by decide +kernel
theorem dX3_readInto_173 : decode cX3_readInto 173 = .ok (.ifCond .eq 16, 3) := by decide +kernel
theorem dX3_readInto_176 : decode cX3_readInto 176 = .ok (.aload_n 1, 1) := by decide +kernel
theorem dX3_readInto_177 : decode cX3_readInto 177 = .ok (.iload 4, 2) := by decide +kernel
theorem dX3_readInto_179 : decode cX3_readInto 179 = .ok (.iload 5, 2) := by decide +kernel
theorem dX3_readInto_181 : decode cX3_readInto 181 = .ok (.iload 6, 2) := by decide +kernel
theorem dX3_readInto_183 : decode cX3_readInto 183 = .ok (.invokestatic 35, 3) := by decide +kernel
theorem dX3_readInto_186 : decode cX3_readInto 186 = .ok (.iinc 2 1, 3) := by decide +kernel
theorem dX3_readInto_189 : decode cX3_readInto 189 = .ok (.iinc 7 1, 3) := by decide +kernel
theorem dX3_readInto_192 : decode cX3_readInto 192 = .ok (.goto (-135), 3) := by decide +kernel
theorem dX3_readInto_195 : decode cX3_readInto 195 = .ok (.aload_n 1, 1) := by decide +kernel
theorem dX3_readInto_196 : decode cX3_readInto 196 = .ok (.bipush 42, 2) := by decide +kernel
theorem dX3_readInto_198 : decode cX3_readInto 198 = .ok (.bipush 42, 2) := by decide +kernel
theorem dX3_readInto_200 : decode cX3_readInto 200 = .ok (.bipush 10, 2) := by decide +kernel
theorem dX3_readInto_202 : decode cX3_readInto 202 = .ok (.invokestatic 35, 3) := by decide +kernel
theorem dX3_readInto_205 : decode cX3_readInto 205 = .ok (.iload_n 2, 1) := by decide +kernel
theorem dX3_readInto_206 : decode cX3_readInto 206 = .ok (.ireturn, 1) := by decide +kernel
theorem dX3_fill_0 : decode cX3_fill 0 = .ok (.iconst 0, 1) := by decide +kernel
theorem dX3_fill_1 : decode cX3_fill 1 = .ok (.istore 4, 2) := by decide +kernel
theorem dX3_fill_3 : decode cX3_fill 3 = .ok (.iload 4, 2) := by decide +kernel
theorem dX3_fill_5 : decode cX3_fill 5 = .ok (.iconst 4, 1) := by decide +kernel
theorem dX3_fill_6 : decode cX3_fill 6 = .ok (.if_icmp .ge 61, 3) := by decide +kernel
theorem dX3_fill_9 : decode cX3_fill 9 = .ok (.iconst 0, 1) := by decide +kernel
theorem dX3_fill_10 : decode cX3_fill 10 = .ok (.istore 5, 2) := by decide +kernel
theorem dX3_fill_12 : decode cX3_fill 12 = .ok (.iload 5, 2) := by decide +kernel
theorem dX3_fill_14 : decode cX3_fill 14 = .ok (.iconst 4, 1) := by decide +kernel
theorem dX3_fill_15 : decode cX3_fill 15 = .ok (.if_icmp .ge 46, 3) := by decide +kernel
theorem dX3_fill_18 : decode cX3_fill 18 = .ok (.iload_n 1, 1) := by decide +kernel
theorem dX3_fill_19 : decode cX3_fill 19 = .ok (.iload 4, 2) := by decide +kernel
theorem dX3_fill_21 : decode cX3_fill 21 = .ok (.invokestatic 39, 3) := by decide +kernel
theorem dX3_fill_24 : decode cX3_fill 24 = .ok (.ifCond .eq 31, 3) := by decide +kernel
theorem dX3_fill_27 : decode cX3_fill 27 = .ok (.iload_n 2, 1) := by decide +kernel
theorem dX3_fill_28 : decode cX3_fill 28 = .ok (.iload 5, 2) := by decide +kernel
theorem dX3_fill_30 : decode cX3_fill 30 = .ok (.invokestatic 39, 3) := by decide +kernel
theorem dX3_fill_33 : decode cX3_fill 33 = .ok (.ifCond .eq 22, 3) := by decide +kernel
theorem dX3_fill_36 : decode cX3_fill 36 = .ok (.aload_n 0, 1) := by decide +kernel
theorem dX3_fill_37 : decode cX3_fill 37 = .ok (.iload 4, 2) := by decide +kernel
theorem dX3_fill_39 : decode cX3_fill 39 = .ok (.aaload, 1) := by decide +kernel
theorem dX3_fill_40 : decode cX3_fill 40 = .ok (.iload 5, 2) := by decide +kernel
theorem dX3_fill_42 : decode cX3_fill 42 = .ok (.iaload, 1) := by decide +kernel
theorem dX3_fill_43 : decode cX3_fill 43 = .ok (.iconst (-1), 1) := by decide +kernel
theorem dX3_fill_44 : decode cX3_fill 44 = .ok (.if_icmp .ne 11, 3) := by decide +kernel
theorem dX3_fill_47 : decode cX3_fill 47 = .ok (.aload_n 0, 1) := by decide +kernel
theorem dX3_fill_48 : decode cX3_fill 48 = .ok (.iload 4, 2) := by decide +kernel
theorem dX3_fill_50 : decode cX3_fill 50 = .ok (.aaload, 1) := by decide +kernel
theorem dX3_fill_51 : decode cX3_fill 51 = .ok (.iload 5, 2) := by decide +kernel
theorem dX3_fill_53 : decode cX3_fill 53 = .ok (.iload_n 3, 1) := by decide +kernel
theorem dX3_fill_54 : decode cX3_fill 54 = .ok (.iastore, 1) := by decide +kernel
theorem dX3_fill_55 : decode cX3_fill 55 = .ok (.iinc 5 1, 3) := by decide +kernel
theorem dX3_fill_58 : decode cX3_fill 58 = .ok (.goto (-46), 3) := by decide +kernel
theorem dX3_fill_61 : decode cX3_fill 61 = .ok (.iinc 4 1, 3) := by decide +kernel
theorem dX3_fill_64 : decode cX3_fill 64 = .ok (.goto (-61), 3) := by decide +kernel
theorem dX3_fill_67 : decode cX3_fill 67 = .ok (.return_, 1) := by decide +kernel
theorem dX3_fits_0 : decode cX3_fits 0 = .ok (.iload_n 0, 1) := by decide +kernel
theorem dX3_fits_1 : decode cX3_fits 1 = .ok (.bipush 42, 2) := by decide +kernel
theorem dX3_fits_3 : decode cX3_fits 3 = .ok (.if_icmp .eq 11, 3) := by decide +kernel
theorem dX3_fits_6 : decode cX3_fits 6 = .ok (.iload_n 0, 1) := by decide +kernel
theorem dX3_fits_7 : decode cX3_fits 7 = .ok (.bipush 48, 2) := by decide +kernel
theorem dX3_fits_9 : decode cX3_fits 9 = .ok (.isub, 1) := by decide +kernel
theorem dX3_fits_10 : decode cX3_fits 10 = .ok (.iload_n 1, 1) := by decide +kernel
theorem dX3_fits_11 : decode cX3_fits 11 = .ok (.if_icmp .ne 7, 3) := by decide +kernel
theorem dX3_fits_14 : decode cX3_fits 14 = .ok (.iconst 1, 1) := by decide +kernel
theorem dX3_fits_15 : decode cX3_fits 15 = .ok (.goto 4, 3) := by decide +kernel
theorem dX3_fits_18 : decode cX3_fits 18 = .ok (.iconst 0, 1) := by decide +kernel
theorem dX3_fits_19 : decode cX3_fits 19 = .ok (.ireturn, 1) := by decide +kernel
theorem dX4_init_0 : decode cX4_init 0 = .ok (.aload_n 0, 1) := by decide +kernel
theorem dX4_init_1 : decode cX4_init 1 = .ok (.invokespecial 3, 3) := by decide +kernel
theorem dX4_init_4 : decode cX4_init 4 = .ok (.aload_n 0, 1) := by decide +kernel
theorem dX4_init_5 : decode cX4_init 5 = .ok (.bipush 8, 2) := by decide +kernel
theorem dX4_init_7 : decode cX4_init 7 = .ok (.newarray .int, 2) := by decide +kernel
theorem dX4_init_9 : decode cX4_init 9 = .ok (.putfield 9, 3) := by decide +kernel
theorem dX4_init_12 : decode cX4_init 12 = .ok (.aload_n 0, 1) := by decide +kernel
theorem dX4_init_13 : decode cX4_init 13 = .ok (.bipush 16, 2) := by decide +kernel
theorem dX4_init_15 : decode cX4_init 15 = .ok (.newarray .int, 2) := by decide +kernel
theorem dX4_init_17 : decode cX4_init 17 = .ok (.putfield 15, 3) := by decide +kernel
theorem dX4_init_20 : decode cX4_init 20 = .ok (.aload_n 0, 1) := by decide +kernel
theorem dX4_init_21 : decode cX4_init 21 = .ok (.bipush 16, 2) := by decide +kernel
theorem dX4_init_23 : decode cX4_init 23 = .ok (.newarray .int, 2) := by decide +kernel
theorem dX4_init_25 : decode cX4_init 25 = .ok (.putfield 18, 3) := by decide +kernel
theorem dX4_init_28 : decode cX4_init 28 = .ok (.aload_n 0, 1) := by decide +kernel
theorem dX4_init_29 : decode cX4_init 29 = .ok (.bipush 8, 2) := by decide +kernel
theorem dX4_init_31 : decode cX4_init 31 = .ok (.newarray .int, 2) := by decide +kernel
theorem dX4_init_33 : decode cX4_init 33 = .ok (.putfield 21, 3) := by decide +kernel
theorem dX4_init_36 : decode cX4_init 36 = .ok (.iconst 0, 1) := by decide +kernel
theorem dX4_init_37 : decode cX4_init 37 = .ok (.istore_n 1, 1) := by decide +kernel
theorem dX4_init_38 : decode cX4_init 38 = .ok (.iload_n 1, 1) := by decide +kernel
theorem dX4_init_39 : decode cX4_init 39 = .ok (.bipush 8, 2) := by decide +kernel
theorem dX4_init_41 : decode cX4_init 41 = .ok (.if_icmp .ge 16, 3) := by decide +kernel
theorem dX4_init_44 : decode cX4_init 44 = .ok (.aload_n 0, 1) := by decide +kernel
theorem dX4_init_45 : decode cX4_init 45 = .ok (.getfield 9, 3) := by decide +kernel
theorem dX4_init_48 : decode cX4_init 48 = .ok (.iload_n 1, 1) := by decide +kernel
theorem dX4_init_49 : decode cX4_init 49 = .ok (.iconst (-1), 1) := by decide +kernel
theorem dX4_init_50 : decode cX4_init 50 = .ok (.iastore, 1) := by decide +kernel
theorem dX4_init_51 : decode cX4_init 51 = .ok (.iinc 1 1, 3) := by decide +kernel
theorem dX4_init_54 : decode cX4_init 54 = .ok (.goto (-16), 3) := by decide +kernel
theorem dX4_init_57 : decode cX4_init 57 = .ok (.return_, 1) := by decide +kernel
theorem dX4_hasMan_0 : decode cX4_hasMan 0 = .ok (.iload_n 1, 1) := by decide +kernel
theorem dX4_hasMan_1 : decode cX4_hasMan 1 = .ok (.ifCond .lt 15, 3) := by decide +kernel
theorem dX4_hasMan_4 : decode cX4_hasMan 4 = .ok (.iload_n 1, 1) := by decide +kernel
theorem dX4_hasMan_5 : decode cX4_hasMan 5 = .ok (.aload_n 0, 1) := by decide +kernel
theorem dX4_hasMan_6 : decode cX4_hasMan 6 = .ok (.getfield 24, 3) := by decide +kernel
theorem dX4_hasMan_9 : decode cX4_hasMan 9 = .ok (.if_icmp .ge 7, 3) := by decide +kernel
theorem dX4_hasMan_12 : decode cX4_hasMan 12 = .ok (.iconst 1, 1) := by decide +kernel
theorem dX4_hasMan_13 : decode cX4_hasMan 13 = .ok (.goto 4, 3) := by decide +kernel
theorem dX4_hasMan_16 : decode cX4_hasMan 16 = .ok (.iconst 0, 1) := by decide +kernel
theorem dX4_hasMan_17 : decode cX4_hasMan 17 = .ok (.ireturn, 1) := by decide +kernel
theorem dX4_lastDay_0 : decode cX4_lastDay 0 = .ok (.aload_n 0, 1) := by decide +kernel
theorem dX4_lastDay_1 : decode cX4_lastDay 1 = .ok (.getfield 28, 3) := by decide +kernel
theorem dX4_lastDay_4 : decode cX4_lastDay 4 = .ok (.ifCond .ne 7, 3) := by decide +kernel
theorem dX4_lastDay_7 : decode cX4_lastDay 7 = .ok (.iconst 0, 1) := by decide +kernel
theorem dX4_lastDay_8 : decode cX4_lastDay 8 = .ok (.goto 14, 3) := by decide +kernel
theorem dX4_lastDay_11 : decode cX4_lastDay 11 = .ok (.aload_n 0, 1) := by decide +kernel
theorem dX4_lastDay_12 : decode cX4_lastDay 12 = .ok (.getfield 18, 3) := by decide +kernel
theorem dX4_lastDay_15 : decode cX4_lastDay 15 = .ok (.aload_n 0, 1) := by decide +kernel
theorem dX4_lastDay_16 : decode cX4_lastDay 16 = .ok (.getfield 28, 3) := by decide +kernel
theorem dX4_lastDay_19 : decode cX4_lastDay 19 = .ok (.iconst 1, 1) := by decide +kernel
theorem dX4_lastDay_20 : decode cX4_lastDay 20 = .ok (.isub, 1) := by decide +kernel
theorem dX4_lastDay_21 : decode cX4_lastDay 21 = .ok (.iaload, 1) := by decide +kernel
theorem dX4_lastDay_22 : decode cX4_lastDay 22 = .ok (.ireturn, 1) := by decide +kernel
theorem dX4_addMeeting_0 : decode cX4_addMeeting 0 = .ok (.aload_n 0, 1) := by decide +kernel
theorem dX4_addMeeting_1 : decode cX4_addMeeting 1 = .ok (.getfield 28, 3) := by decide +kernel
theorem dX4_addMeeting_4 : decode cX4_addMeeting 4 = .ok (.istore_n 3, 1) := by decide +kernel
theorem dX4_addMeeting_5 : decode cX4_addMeeting 5 = .ok (.aload_n 0, 1) := by decide +kernel
theorem dX4_addMeeting_6 : decode cX4_addMeeting 6 = .ok (.getfield 15, 3) := by decide +kernel
theorem dX4_addMeeting_9 : decode cX4_addMeeting 9 = .ok (.iload_n 3, 1) := by decide +kernel
theorem dX4_addMeeting_10 : decode cX4_addMeeting 10 = .ok (.iload_n 1, 1) := by decide +kernel
theorem dX4_addMeeting_11 : decode cX4_addMeeting 11 = .ok (.iastore, 1) := by decide +kernel
theorem dX4_addMeeting_12 : decode cX4_addMeeting 12 = .ok (.aload_n 0, 1) := by decide +kernel
theorem dX4_addMeeting_13 : decode cX4_addMeeting 13 = .ok (.getfield 18, 3) := by decide +kernel
theorem dX4_addMeeting_16 : decode cX4_addMeeting 16 = .ok (.iload_n 3, 1) := by decide +kernel
theorem dX4_addMeeting_17 : decode cX4_addMeeting 17 = .ok (.iload_n 2, 1) := by decide +kernel
theorem dX4_addMeeting_18 : decode cX4_addMeeting 18 = .ok (.iastore, 1) := by decide +kernel
theorem dX4_addMeeting_19 : decode cX4_addMeeting 19 = .ok (.aload_n 0, 1) := by decide +kernel
theorem dX4_addMeeting_20 : decode cX4_addMeeting 20 = .ok (.dup, 1) := by decide +kernel
theorem dX4_addMeeting_21 : decode cX4_addMeeting 21 = .ok (.getfield 28, 3) := by decide +kernel
theorem dX4_addMeeting_24 : decode cX4_addMeeting 24 = .ok (.iconst 1, 1) := by decide +kernel
theorem dX4_addMeeting_25 : decode cX4_addMeeting 25 = .ok (.iadd, 1) := by decide +kernel
theorem dX4_addMeeting_26 : decode cX4_addMeeting 26 = .ok (.putfield 28, 3) := by decide +kernel
theorem dX4_addMeeting_29 : decode cX4_addMeeting 29 = .ok (.iload_n 3, 1) := by decide +kernel
theorem dX4_addMeeting_30 : decode cX4_addMeeting 30 = .ok (.ireturn, 1) := by decide +kernel
theorem dX4_sickMen_0 : decode cX4_sickMen 0 = .ok (.iconst 0, 1) := by decide +kernel
theorem dX4_sickMen_1 : decode cX4_sickMen 1 = .ok (.istore_n 1, 1) := by decide +kernel
theorem dX4_sickMen_2 : decode cX4_sickMen 2 = .ok (.iconst 0, 1) := by decide +kernel
theorem dX4_sickMen_3 : decode cX4_sickMen 3 = .ok (.istore_n 2, 1) := by decide +kernel
theorem dX4_sickMen_4 : decode cX4_sickMen 4 = .ok (.iload_n 2, 1) := by decide +kernel
theorem dX4_sickMen_5 : decode cX4_sickMen 5 = .ok (.aload_n 0, 1) := by decide +kernel
theorem dX4_sickMen_6 : decode cX4_sickMen 6 = .ok (.getfield 24, 3) := by decide +kernel
theorem dX4_sickMen_9 : decode cX4_sickMen 9 = .ok (.if_icmp .ge 25, 3) := by decide +kernel
theorem dX4_sickMen_12 : decode cX4_sickMen 12 = .ok (.aload_n 0, 1) := by decide +kernel
theorem dX4_sickMen_13 : decode cX4_sickMen 13 = .ok (.getfield 9, 3) := by decide +kernel
theorem dX4_sickMen_16 : decode cX4_sickMen 16 = .ok (.iload_n 2, 1) := by decide +kernel
theorem dX4_sickMen_17 : decode cX4_sickMen 17 = .ok (.iaload, 1) := by decide +kernel
theorem dX4_sickMen_18 : decode cX4_sickMen 18 = .ok (.iconst (-1), 1) := by decide +kernel
theorem dX4_sickMen_19 : decode cX4_sickMen 19 = .ok (.if_icmp .eq 9, 3) := by decide +kernel
theorem dX4_sickMen_22 : decode cX4_sickMen 22 = .ok (.iload_n 1, 1) := by decide +kernel
theorem dX4_sickMen_23 : decode cX4_sickMen 23 = .ok (.iconst 1, 1) := by decide +kernel
theorem dX4_sickMen_24 : decode cX4_sickMen 24 = .ok (.iload_n 2, 1) := by decide +kernel
theorem dX4_sickMen_25 : decode cX4_sickMen 25 = .ok (.ishl, 1) := by decide +kernel
theorem dX4_sickMen_26 : decode cX4_sickMen 26 = .ok (.ior, 1) := by decide +kernel
theorem dX4_sickMen_27 : decode cX4_sickMen 27 = .ok (.istore_n 1, 1) := by decide +kernel
theorem dX4_sickMen_28 : decode cX4_sickMen 28 = .ok (.iinc 2 1, 3) := by decide +kernel
theorem dX4_sickMen_31 : decode cX4_sickMen 31 = .ok (.goto (-27), 3) := by decide +kernel
theorem dX4_sickMen_34 : decode cX4_sickMen 34 = .ok (.iload_n 1, 1) := by decide +kernel
theorem dX4_sickMen_35 : decode cX4_sickMen 35 = .ok (.ireturn, 1) := by decide +kernel
theorem dX4_giversOf_0 : decode cX4_giversOf 0 = .ok (.iconst 0, 1) := by decide +kernel
theorem dX4_giversOf_1 : decode cX4_giversOf 1 = .ok (.istore 4, 2) := by decide +kernel
theorem dX4_giversOf_3 : decode cX4_giversOf 3 = .ok (.aload_n 0, 1) := by decide +kernel
theorem dX4_giversOf_4 : decode cX4_giversOf 4 = .ok (.getfield 9, 3) := by decide +kernel
theorem dX4_giversOf_7 : decode cX4_giversOf 7 = .ok (.iload_n 1, 1) := by decide +kernel
theorem dX4_giversOf_8 : decode cX4_giversOf 8 = .ok (.iaload, 1) := by decide +kernel
theorem dX4_giversOf_9 : decode cX4_giversOf 9 = .ok (.iconst (-1), 1) := by decide +kernel
theorem dX4_giversOf_10 : decode cX4_giversOf 10 = .ok (.if_icmp .ne 6, 3) := by decide +kernel
theorem dX4_giversOf_13 : decode cX4_giversOf 13 = .ok (.iload 4, 2) := by decide +kernel
theorem dX4_giversOf_15 : decode cX4_giversOf 15 = .ok (.ireturn, 1) := by decide +kernel
theorem dX4_giversOf_16 : decode cX4_giversOf 16 = .ok (.iconst 1, 1) := by decide +kernel
theorem dX4_giversOf_17 : decode cX4_giversOf 17 = .ok (.istore 5, 2) := by decide +kernel
theorem dX4_giversOf_19 : decode cX4_giversOf 19 = .ok (.iload 5, 2) := by decide +kernel
theorem dX4_giversOf_21 : decode cX4_giversOf 21 = .ok (.aload_n 0, 1) := by decide +kernel
theorem dX4_giversOf_22 : decode cX4_giversOf 22 = .ok (.getfield 28, 3) := by decide +kernel
theorem dX4_giversOf_25 : decode cX4_giversOf 25 = .ok (.if_icmp .ge 97, 3) := by decide +kernel
theorem dX4_giversOf_28 : decode cX4_giversOf 28 = .ok (.aload_n 0, 1) := by decide +kernel
theorem dX4_giversOf_29 : decode cX4_giversOf 29 = .ok (.getfield 15, 3) := by decide +kernel
theorem dX4_giversOf_32 : decode cX4_giversOf 32 = .ok (.iload 5, 2) := by decide +kernel
theorem dX4_giversOf_34 : decode cX4_giversOf 34 = .ok (.iconst 1, 1) := by decide +kernel
theorem dX4_giversOf_35 : decode cX4_giversOf 35 = .ok (.isub, 1) := by decide +kernel
theorem dX4_giversOf_36 : decode cX4_giversOf 36 = .ok (.iaload, 1) := by decide +kernel
theorem dX4_giversOf_37 : decode cX4_giversOf 37 = .ok (.istore 6, 2) := by decide +kernel
theorem dX4_giversOf_39 : decode cX4_giversOf 39 = .ok (.aload_n 0, 1) := by decide +kernel
theorem dX4_giversOf_40 : decode cX4_giversOf 40 = .ok (.getfield 18, 3) := by decide +kernel
theorem dX4_giversOf_43 : decode cX4_giversOf 43 = .ok (.iload 5, 2) := by decide +kernel
theorem dX4_giversOf_45 : decode cX4_giversOf 45 = .ok (.iaload, 1) := by decide +kernel
theorem dX4_giversOf_46 : decode cX4_giversOf 46 = .ok (.istore 7, 2) := by decide +kernel
theorem dX4_giversOf_48 : decode cX4_giversOf 48 = .ok (.aload_n 0, 1) := by decide +kernel
theorem dX4_giversOf_49 : decode cX4_giversOf 49 = .ok (.getfield 15, 3) := by decide +kernel
theorem dX4_giversOf_52 : decode cX4_giversOf 52 = .ok (.iload 5, 2) := by decide +kernel
theorem dX4_giversOf_54 : decode cX4_giversOf 54 = .ok (.iaload, 1) := by decide +kernel
theorem dX4_giversOf_55 : decode cX4_giversOf 55 = .ok (.iload_n 1, 1) := by decide +kernel
theorem dX4_giversOf_56 : decode cX4_giversOf 56 = .ok (.if_icmp .ne 13, 3) := by decide +kernel
theorem dX4_giversOf_59 : decode cX4_giversOf 59 = .ok (.iload 6, 2) := by decide +kernel
theorem dX4_giversOf_61 : decode cX4_giversOf 61 = .ok (.iload_n 1, 1) := by decide +kernel
theorem dX4_giversOf_62 : decode cX4_giversOf 62 = .ok (.if_icmp .eq 7, 3) := by decide +kernel
theorem dX4_giversOf_65 : decode cX4_giversOf 65 = .ok (.iconst 1, 1) := by decide +kernel
theorem dX4_giversOf_66 : decode cX4_giversOf 66 = .ok (.goto 4, 3) := by decide +kernel
theorem dX4_giversOf_69 : decode cX4_giversOf 69 = .ok (.iconst 0, 1) := by decide +kernel
theorem dX4_giversOf_70 : decode cX4_giversOf 70 = .ok (.istore 8, 2) := by decide +kernel
theorem dX4_giversOf_72 : decode cX4_giversOf 72 = .ok (.iload 8, 2) := by decide +kernel
theorem dX4_giversOf_74 : decode cX4_giversOf 74 = .ok (.ifCond .eq 42, 3) := by decide +kernel
theorem dX4_giversOf_77 : decode cX4_giversOf 77 = .ok (.aload_n 0, 1) := by decide +kernel
theorem dX4_giversOf_78 : decode cX4_giversOf 78 = .ok (.getfield 9, 3) := by decide +kernel
theorem dX4_giversOf_81 : decode cX4_giversOf 81 = .ok (.iload_n 1, 1) := by decide +kernel
theorem dX4_giversOf_82 : decode cX4_giversOf 82 = .ok (.iaload, 1) := by decide +kernel
theorem dX4_giversOf_83 : decode cX4_giversOf 83 = .ok (.iload 7, 2) := by decide +kernel
theorem dX4_giversOf_85 : decode cX4_giversOf 85 = .ok (.isub, 1) := by decide +kernel
theorem dX4_giversOf_86 : decode cX4_giversOf 86 = .ok (.iconst 1, 1) := by decide +kernel
theorem dX4_giversOf_87 : decode cX4_giversOf 87 = .ok (.iload_n 2, 1) := by decide +kernel
theorem dX4_giversOf_88 : decode cX4_giversOf 88 = .ok (.invokestatic 31, 3) := by decide +kernel
theorem dX4_giversOf_91 : decode cX4_giversOf 91 = .ok (.ifCond .eq 25, 3) := by decide +kernel
theorem dX4_giversOf_94 : decode cX4_giversOf 94 = .ok (.aload_n 0, 1) := by decide +kernel
theorem dX4_giversOf_95 : decode cX4_giversOf 95 = .ok (.iload 6, 2) := by decide +kernel
theorem dX4_giversOf_97 : decode cX4_giversOf 97 = .ok (.iload 7, 2) := by decide +kernel
theorem dX4_giversOf_99 : decode cX4_giversOf 99 = .ok (.iload_n 2, 1) := by decide +kernel
theorem dX4_giversOf_100 : decode cX4_giversOf 100 = .ok (.iload_n 3, 1) := by decide +kernel
theorem dX4_giversOf_101 : decode cX4_giversOf 101 = .ok (.invokevirtual 35, 3) := by decide +kernel
theorem dX4_giversOf_104 : decode cX4_giversOf 104 = .ok (.ifCond .eq 12, 3) := by decide +kernel
theorem dX4_giversOf_107 : decode cX4_giversOf 107 = .ok (.iload 4, 2) := by decide +kernel
theorem dX4_giversOf_109 : decode cX4_giversOf 109 = .ok (.iconst 1, 1) := by decide +kernel
theorem dX4_giversOf_110 : decode cX4_giversOf 110 = .ok (.iload 6, 2) := by decide +kernel
theorem dX4_giversOf_112 : decode cX4_giversOf 112 = .ok (.ishl, 1) := by decide +kernel
theorem dX4_giversOf_113 : decode cX4_giversOf 113 = .ok (.ior, 1) := by decide +kernel
theorem dX4_giversOf_114 : decode cX4_giversOf 114 = .ok (.istore 4, 2) := by decide +kernel
theorem dX4_giversOf_116 : decode cX4_giversOf 116 = .ok (.iinc 5 1, 3) := by decide +kernel
theorem dX4_giversOf_119 : decode cX4_giversOf 119 = .ok (.goto (-100), 3) := by decide +kernel
theorem dX4_giversOf_122 : decode cX4_giversOf 122 = .ok (.iload 4, 2) := by decide +kernel
theorem dX4_giversOf_124 : decode cX4_giversOf 124 = .ok (.ireturn, 1) := by decide +kernel
theorem dX4_couldGive_0 : decode cX4_couldGive 0 = .ok (.aload_n 0, 1) := by decide +kernel
theorem dX4_couldGive_1 : decode cX4_couldGive 1 = .ok (.getfield 9, 3) := by decide +kernel
theorem dX4_couldGive_4 : decode cX4_couldGive 4 = .ok (.iload_n 1, 1) := by decide +kernel
theorem dX4_couldGive_5 : decode cX4_couldGive 5 = .ok (.iaload, 1) := by decide +kernel
theorem dX4_couldGive_6 : decode cX4_couldGive 6 = .ok (.istore 5, 2) := by decide +kernel
theorem dX4_couldGive_8 : decode cX4_couldGive 8 = .ok (.iload 5, 2) := by decide +kernel
theorem dX4_couldGive_10 : decode cX4_couldGive 10 = .ok (.iconst (-1), 1) := by decide +kernel
theorem dX4_couldGive_11 : decode cX4_couldGive 11 = .ok (.if_icmp .eq 28, 3) := by decide +kernel
theorem dX4_couldGive_14 : decode cX4_couldGive 14 = .ok (.iload 5, 2) := by decide +kernel
theorem dX4_couldGive_16 : decode cX4_couldGive 16 = .ok (.iload_n 3, 1) := by decide +kernel
theorem dX4_couldGive_17 : decode cX4_couldGive 17 = .ok (.isub, 1) := by decide +kernel
theorem dX4_couldGive_18 : decode cX4_couldGive 18 = .ok (.iload_n 2, 1) := by decide +kernel
theorem dX4_couldGive_19 : decode cX4_couldGive 19 = .ok (.if_icmp .gt 20, 3) := by decide +kernel
theorem dX4_couldGive_22 : decode cX4_couldGive 22 = .ok (.iload_n 2, 1) := by decide +kernel
theorem dX4_couldGive_23 : decode cX4_couldGive 23 = .ok (.iload 4, 2) := by decide +kernel
theorem dX4_couldGive_25 : decode cX4_couldGive 25 = .ok (.iconst 1, 1) := by decide +kernel
theorem dX4_couldGive_26 : decode cX4_couldGive 26 = .ok (.isub, 1) := by decide +kernel
theorem dX4_couldGive_27 : decode cX4_couldGive 27 = .ok (.isub, 1) := by decide +kernel
theorem dX4_couldGive_28 : decode cX4_couldGive 28 = .ok (.iload 5, 2) := by decide +kernel
theorem dX4_couldGive_30 : decode cX4_couldGive 30 = .ok (.iconst 1, 1) := by decide +kernel
theorem dX4_couldGive_31 : decode cX4_couldGive 31 = .ok (.isub, 1) := by decide +kernel
theorem dX4_couldGive_32 : decode cX4_couldGive 32 = .ok (.if_icmp .gt 7, 3) := by decide +kernel
theorem dX4_couldGive_35 : decode cX4_couldGive 35 = .ok (.iconst 1, 1) := by decide +kernel
theorem dX4_couldGive_36 : decode cX4_couldGive 36 = .ok (.goto 4, 3) := by decide +kernel
theorem dX4_couldGive_39 : decode cX4_couldGive 39 = .ok (.iconst 0, 1) := by decide +kernel
theorem dX4_couldGive_40 : decode cX4_couldGive 40 = .ok (.ireturn, 1) := by decide +kernel
theorem dX4_trace_0 : decode cX4_trace 0 = .ok (.aload_n 0, 1) := by decide +kernel
theorem dX4_trace_1 : decode cX4_trace 1 = .ok (.iconst 0, 1) := by decide +kernel
theorem dX4_trace_2 : decode cX4_trace 2 = .ok (.putfield 39, 3) := by decide +kernel
theorem dX4_trace_5 : decode cX4_trace 5 = .ok (.aload_n 0, 1) := by decide +kernel
theorem dX4_trace_6 : decode cX4_trace 6 = .ok (.invokevirtual 42, 3) := by decide +kernel
theorem dX4_trace_9 : decode cX4_trace 9 = .ok (.istore_n 3, 1) := by decide +kernel
theorem dX4_trace_10 : decode cX4_trace 10 = .ok (.iconst 0, 1) := by decide +kernel
theorem dX4_trace_11 : decode cX4_trace 11 = .ok (.istore 4, 2) := by decide +kernel
theorem dX4_trace_13 : decode cX4_trace 13 = .ok (.iload 4, 2) := by decide +kernel
theorem dX4_trace_15 : decode cX4_trace 15 = .ok (.aload_n 0, 1) := by decide +kernel
theorem dX4_trace_16 : decode cX4_trace 16 = .ok (.getfield 24, 3) := by decide +kernel
theorem dX4_trace_19 : decode cX4_trace 19 = .ok (.if_icmp .ge 56, 3) := by decide +kernel
theorem dX4_trace_22 : decode cX4_trace 22 = .ok (.aload_n 0, 1) := by decide +kernel
theorem dX4_trace_23 : decode cX4_trace 23 = .ok (.getfield 21, 3) := by decide +kernel
theorem dX4_trace_26 : decode cX4_trace 26 = .ok (.iload 4, 2) := by decide +kernel
theorem dX4_trace_28 : decode cX4_trace 28 = .ok (.aload_n 0, 1) := by decide +kernel
theorem dX4_trace_29 : decode cX4_trace 29 = .ok (.iload 4, 2) := by decide +kernel
theorem dX4_trace_31 : decode cX4_trace 31 = .ok (.iload_n 1, 1) := by decide +kernel
theorem dX4_trace_32 : decode cX4_trace 32 = .ok (.iload_n 2, 1) := by decide +kernel
theorem dX4_trace_33 : decode cX4_trace 33 = .ok (.invokevirtual 46, 3) := by decide +kernel
theorem dX4_trace_36 : decode cX4_trace 36 = .ok (.iastore, 1) := by decide +kernel
theorem dX4_trace_37 : decode cX4_trace 37 = .ok (.iload_n 3, 1) := by decide +kernel
theorem dX4_trace_38 : decode cX4_trace 38 = .ok (.iload 4, 2) := by decide +kernel
theorem dX4_trace_40 : decode cX4_trace 40 = .ok (.invokestatic 50, 3) := by decide +kernel
theorem dX4_trace_43 : decode cX4_trace 43 = .ok (.ifCond .eq 26, 3) := by decide +kernel
theorem dX4_trace_46 : decode cX4_trace 46 = .ok (.aload_n 0, 1) := by decide +kernel
theorem dX4_trace_47 : decode cX4_trace 47 = .ok (.getfield 21, 3) := by decide +kernel
theorem dX4_trace_50 : decode cX4_trace 50 = .ok (.iload 4, 2) := by decide +kernel
theorem dX4_trace_52 : decode cX4_trace 52 = .ok (.iaload, 1) := by decide +kernel
theorem dX4_trace_53 : decode cX4_trace 53 = .ok (.ifCond .ne 16, 3) := by decide +kernel
theorem dX4_trace_56 : decode cX4_trace 56 = .ok (.aload_n 0, 1) := by decide +kernel
theorem dX4_trace_57 : decode cX4_trace 57 = .ok (.dup, 1) := by decide +kernel
theorem dX4_trace_58 : decode cX4_trace 58 = .ok (.getfield 39, 3) := by decide +kernel
theorem dX4_trace_61 : decode cX4_trace 61 = .ok (.iconst 1, 1) := by decide +kernel
theorem dX4_trace_62 : decode cX4_trace 62 = .ok (.iload 4, 2) := by decide +kernel
theorem dX4_trace_64 : decode cX4_trace 64 = .ok (.ishl, 1) := by decide +kernel
theorem dX4_trace_65 : decode cX4_trace 65 = .ok (.ior, 1) := by decide +kernel
theorem dX4_trace_66 : decode cX4_trace 66 = .ok (.putfield 39, 3) := by decide +kernel
theorem dX4_trace_69 : decode cX4_trace 69 = .ok (.iinc 4 1, 3) := by decide +kernel
theorem dX4_trace_72 : decode cX4_trace 72 = .ok (.goto (-59), 3) := by decide +kernel
theorem dX4_trace_75 : decode cX4_trace 75 = .ok (.return_, 1) := by decide +kernel
theorem dX4_shortestPathTo_0 : decode cX4_shortestPathTo 0 = .ok (.aload_n 0, 1) := by decide +kernel
theorem dX4_shortestPathTo_1 : decode cX4_shortestPathTo 1 = .ok (.getfield 39, 3) := by decide +kernel
theorem dX4_shortestPathTo_4 : decode cX4_shortestPathTo 4 = .ok (.iload_n 2, 1) := by decide +kernel
theorem dX4_shortestPathTo_5 : decode cX4_shortestPathTo 5 = .ok (.iand, 1) := by decide +kernel
theorem dX4_shortestPathTo_6 : decode cX4_shortestPathTo 6 = .ok (.istore_n 3, 1) := by decide +kernel
theorem dX4_shortestPathTo_7 : decode cX4_shortestPathTo 7 = .ok (.iconst 1, 1) := by decide +kernel
theorem dX4_shortestPathTo_8 : decode cX4_shortestPathTo 8 = .ok (.istore 4, 2) := by decide +kernel
theorem dX4_shortestPathTo_10 : decode cX4_shortestPathTo 10 = .ok (.iload 4, 2) := by decide +kernel
theorem dX4_shortestPathTo_12 : decode cX4_shortestPathTo 12 = .ok (.aload_n 0, 1) := by decide +kernel
theorem dX4_shortestPathTo_13 : decode cX4_shortestPathTo 13 = .ok (.getfield 24, 3) := by decide +kernel
theorem dX4_shortestPathTo_16 : decode cX4_shortestPathTo 16 = .ok (.if_icmp .gt 30, 3) := by decide +kernel
theorem dX4_shortestPathTo_19 : decode cX4_shortestPathTo 19 = .ok (.iload_n 3, 1) := by decide +kernel
theorem dX4_shortestPathTo_20 : decode cX4_shortestPathTo 20 = .ok (.iload_n 1, 1) := by decide +kernel
theorem dX4_shortestPathTo_21 : decode cX4_shortestPathTo 21 = .ok (.invokestatic 50, 3) := by decide +kernel
theorem dX4_shortestPathTo_24 : decode cX4_shortestPathTo 24 = .ok (.ifCond .eq 6, 3) := by decide +kernel
theorem dX4_shortestPathTo_27 : decode cX4_shortestPathTo 27 = .ok (.iload 4, 2) := by decide +kernel
theorem dX4_shortestPathTo_29 : decode cX4_shortestPathTo 29 = .ok (.ireturn, 1) := by decide +kernel
theorem dX4_shortestPathTo_30 : decode cX4_shortestPathTo 30 = .ok (.iload_n 3, 1) := by decide +kernel
theorem dX4_shortestPathTo_31 : decode cX4_shortestPathTo 31 = .ok (.aload_n 0, 1) := by decide +kernel
theorem dX4_shortestPathTo_32 : decode cX4_shortestPathTo 32 = .ok (.iload_n 3, 1) := by decide +kernel
theorem dX4_shortestPathTo_33 : decode cX4_shortestPathTo 33 = .ok (.invokevirtual 54, 3) := by decide +kernel
theorem dX4_shortestPathTo_36 : decode cX4_shortestPathTo 36 = .ok (.iload_n 2, 1) := by decide +kernel
theorem dX4_shortestPathTo_37 : decode cX4_shortestPathTo 37 = .ok (.iand, 1) := by decide +kernel
theorem dX4_shortestPathTo_38 : decode cX4_shortestPathTo 38 = .ok (.ior, 1) := by decide +kernel
theorem dX4_shortestPathTo_39 : decode cX4_shortestPathTo 39 = .ok (.istore_n 3, 1) := by decide +kernel
theorem dX4_shortestPathTo_40 : decode cX4_shortestPathTo 40 = .ok (.iinc 4 1, 3) := by decide +kernel
theorem dX4_shortestPathTo_43 : decode cX4_shortestPathTo 43 = .ok (.goto (-33), 3) := by decide +kernel
theorem dX4_shortestPathTo_46 : decode cX4_shortestPathTo 46 = .ok (.iconst 0, 1) := by decide +kernel
theorem dX4_shortestPathTo_47 : decode cX4_shortestPathTo 47 = .ok (.ireturn, 1) := by decide +kernel
theorem dX4_nextTo_0 : decode cX4_nextTo 0 = .ok (.iconst 0, 1) := by decide +kernel
theorem dX4_nextTo_1 : decode cX4_nextTo 1 = .ok (.istore_n 2, 1) := by decide +kernel
theorem dX4_nextTo_2 : decode cX4_nextTo 2 = .ok (.iconst 0, 1) := by decide +kernel
theorem dX4_nextTo_3 : decode cX4_nextTo 3 = .ok (.istore_n 3, 1) := by decide +kernel
theorem dX4_nextTo_4 : decode cX4_nextTo 4 = .ok (.iload_n 3, 1) := by decide +kernel
theorem dX4_nextTo_5 : decode cX4_nextTo 5 = .ok (.aload_n 0, 1) := by decide +kernel
theorem dX4_nextTo_6 : decode cX4_nextTo 6 = .ok (.getfield 24, 3) := by decide +kernel
theorem dX4_nextTo_9 : decode cX4_nextTo 9 = .ok (.if_icmp .ge 26, 3) := by decide +kernel
theorem dX4_nextTo_12 : decode cX4_nextTo 12 = .ok (.aload_n 0, 1) := by decide +kernel
theorem dX4_nextTo_13 : decode cX4_nextTo 13 = .ok (.getfield 21, 3) := by decide +kernel
theorem dX4_nextTo_16 : decode cX4_nextTo 16 = .ok (.iload_n 3, 1) := by decide +kernel
theorem dX4_nextTo_17 : decode cX4_nextTo 17 = .ok (.iaload, 1) := by decide +kernel
theorem dX4_nextTo_18 : decode cX4_nextTo 18 = .ok (.iload_n 1, 1) := by decide +kernel
theorem dX4_nextTo_19 : decode cX4_nextTo 19 = .ok (.iand, 1) := by decide +kernel
theorem dX4_nextTo_20 : decode cX4_nextTo 20 = .ok (.ifCond .eq 9, 3) := by decide +kernel
theorem dX4_nextTo_23 : decode cX4_nextTo 23 = .ok (.iload_n 2, 1) := by decide +kernel
theorem dX4_nextTo_24 : decode cX4_nextTo 24 = .ok (.iconst 1, 1) := by decide +kernel
theorem dX4_nextTo_25 : decode cX4_nextTo 25 = .ok (.iload_n 3, 1) := by decide +kernel
theorem dX4_nextTo_26 : decode cX4_nextTo 26 = .ok (.ishl, 1) := by decide +kernel
theorem dX4_nextTo_27 : decode cX4_nextTo 27 = .ok (.ior, 1) := by decide +kernel
theorem dX4_nextTo_28 : decode cX4_nextTo 28 = .ok (.istore_n 2, 1) := by decide +kernel
theorem dX4_nextTo_29 : decode cX4_nextTo 29 = .ok (.iinc 3 1, 3) := by decide +kernel
theorem dX4_nextTo_32 : decode cX4_nextTo 32 = .ok (.goto (-28), 3) := by decide +kernel
theorem dX4_nextTo_35 : decode cX4_nextTo 35 = .ok (.iload_n 2, 1) := by decide +kernel
theorem dX4_nextTo_36 : decode cX4_nextTo 36 = .ok (.ireturn, 1) := by decide +kernel
theorem dX4_onAllPathsTo_0 : decode cX4_onAllPathsTo 0 = .ok (.iconst 0, 1) := by decide +kernel
theorem dX4_onAllPathsTo_1 : decode cX4_onAllPathsTo 1 = .ok (.istore_n 2, 1) := by decide +kernel
theorem dX4_onAllPathsTo_2 : decode cX4_onAllPathsTo 2 = .ok (.aload_n 0, 1) := by decide +kernel
theorem dX4_onAllPathsTo_3 : decode cX4_onAllPathsTo 3 = .ok (.invokevirtual 42, 3) := by decide +kernel
theorem dX4_onAllPathsTo_6 : decode cX4_onAllPathsTo 6 = .ok (.istore_n 3, 1) := by decide +kernel
theorem dX4_onAllPathsTo_7 : decode cX4_onAllPathsTo 7 = .ok (.aload_n 0, 1) := by decide +kernel
theorem dX4_onAllPathsTo_8 : decode cX4_onAllPathsTo 8 = .ok (.iload_n 1, 1) := by decide +kernel
theorem dX4_onAllPathsTo_9 : decode cX4_onAllPathsTo 9 = .ok (.iload_n 3, 1) := by decide +kernel
theorem dX4_onAllPathsTo_10 : decode cX4_onAllPathsTo 10 = .ok (.invokevirtual 58, 3) := by decide +kernel
theorem dX4_onAllPathsTo_13 : decode cX4_onAllPathsTo 13 = .ok (.ifCond .ne 5, 3) := by decide +kernel
theorem dX4_onAllPathsTo_16 : decode cX4_onAllPathsTo 16 = .ok (.iload_n 2, 1) := by decide +kernel
theorem dX4_onAllPathsTo_17 : decode cX4_onAllPathsTo 17 = .ok (.ireturn, 1) := by decide +kernel
theorem dX4_onAllPathsTo_18 : decode cX4_onAllPathsTo 18 = .ok (.iconst 0, 1) := by decide +kernel
theorem dX4_onAllPathsTo_19 : decode cX4_onAllPathsTo 19 = .ok (.istore 4, 2) := by decide +kernel
theorem dX4_onAllPathsTo_21 : decode cX4_onAllPathsTo 21 = .ok (.iload 4, 2) := by decide +kernel
theorem dX4_onAllPathsTo_23 : decode cX4_onAllPathsTo 23 = .ok (.aload_n 0, 1) := by decide +kernel
theorem dX4_onAllPathsTo_24 : decode cX4_onAllPathsTo 24 = .ok (.getfield 24, 3) := by decide +kernel
theorem dX4_onAllPathsTo_27 : decode cX4_onAllPathsTo 27 = .ok (.if_icmp .ge 32, 3) := by decide +kernel
theorem dX4_onAllPathsTo_30 : decode cX4_onAllPathsTo 30 = .ok (.aload_n 0, 1) := by decide +kernel
theorem dX4_onAllPathsTo_31 : decode cX4_onAllPathsTo 31 = .ok (.iload_n 1, 1) := by decide +kernel
theorem dX4_onAllPathsTo_32 : decode cX4_onAllPathsTo 32 = .ok (.iload_n 3, 1) := by decide +kernel
theorem dX4_onAllPathsTo_33 : decode cX4_onAllPathsTo 33 = .ok (.iconst 1, 1) := by decide +kernel
theorem dX4_onAllPathsTo_34 : decode cX4_onAllPathsTo 34 = .ok (.iload 4, 2) := by decide +kernel
theorem dX4_onAllPathsTo_36 : decode cX4_onAllPathsTo 36 = .ok (.ishl, 1) := by decide +kernel
theorem dX4_onAllPathsTo_37 : decode cX4_onAllPathsTo 37 = .ok (.iconst (-1), 1) := by decide +kernel
theorem dX4_onAllPathsTo_38 : decode cX4_onAllPathsTo 38 = .ok (.ixor, 1) := by decide +kernel
theorem dX4_onAllPathsTo_39 : decode cX4_onAllPathsTo 39 = .ok (.iand, 1) := by decide +kernel
theorem dX4_onAllPathsTo_40 : decode cX4_onAllPathsTo 40 = .ok (.invokevirtual 58, 3) := by decide +kernel
theorem dX4_onAllPathsTo_43 : decode cX4_onAllPathsTo 43 = .ok (.ifCond .ne 10, 3) := by decide +kernel
theorem dX4_onAllPathsTo_46 : decode cX4_onAllPathsTo 46 = .ok (.iload_n 2, 1) := by decide +kernel
theorem dX4_onAllPathsTo_47 : decode cX4_onAllPathsTo 47 = .ok (.iconst 1, 1) := by decide +kernel
theorem dX4_onAllPathsTo_48 : decode cX4_onAllPathsTo 48 = .ok (.iload 4, 2) := by decide +kernel
theorem dX4_onAllPathsTo_50 : decode cX4_onAllPathsTo 50 = .ok (.ishl, 1) := by decide +kernel
theorem dX4_onAllPathsTo_51 : decode cX4_onAllPathsTo 51 = .ok (.ior, 1) := by decide +kernel
theorem dX4_onAllPathsTo_52 : decode cX4_onAllPathsTo 52 = .ok (.istore_n 2, 1) := by decide +kernel
theorem dX4_onAllPathsTo_53 : decode cX4_onAllPathsTo 53 = .ok (.iinc 4 1, 3) := by decide +kernel
theorem dX4_onAllPathsTo_56 : decode cX4_onAllPathsTo 56 = .ok (.goto (-35), 3) := by decide +kernel
theorem dX4_onAllPathsTo_59 : decode cX4_onAllPathsTo 59 = .ok (.iload_n 2, 1) := by decide +kernel
theorem dX4_onAllPathsTo_60 : decode cX4_onAllPathsTo 60 = .ok (.ireturn, 1) := by decide +kernel
end
section
theorem dX5_init_0 : decode cX5_init 0 = .ok (.aload_n 0, 1) := by decide +kernel
theorem dX5_init_1 : decode cX5_init 1 = .ok (.invokespecial 3, 3) := by decide +kernel
theorem dX5_init_4 : decode cX5_init 4 = .ok (.aload_n 0, 1) := by decide +kernel
theorem dX5_init_5 : decode cX5_init 5 = .ok (.iconst 1, 1) := by decide +kernel
theorem dX5_init_6 : decode cX5_init 6 = .ok (.newarray .int, 2) := by decide +kernel
theorem dX5_init_8 : decode cX5_init 8 = .ok (.putfield 9, 3) := by decide +kernel
theorem dX5_init_11 : decode cX5_init 11 = .ok (.aload_n 0, 1) := by decide +kernel
theorem dX5_init_12 : decode cX5_init 12 = .ok (.iconst 1, 1) := by decide +kernel
theorem dX5_init_13 : decode cX5_init 13 = .ok (.newarray .int, 2) := by decide +kernel
theorem dX5_init_15 : decode cX5_init 15 = .ok (.putfield 15, 3) := by decide +kernel
theorem dX5_init_18 : decode cX5_init 18 = .ok (.aload_n 0, 1) := by decide +kernel
theorem dX5_init_19 : decode cX5_init 19 = .ok (.bipush 6, 2) := by decide +kernel
theorem dX5_init_21 : decode cX5_init 21 = .ok (.newarray .int, 2) := by decide +kernel
theorem dX5_init_23 : decode cX5_init 23 = .ok (.putfield 18, 3) := by decide +kernel
theorem dX5_init_26 : decode cX5_init 26 = .ok (.aload_n 0, 1) := by decide +kernel
theorem dX5_init_27 : decode cX5_init 27 = .ok (.bipush 6, 2) := by decide +kernel
theorem dX5_init_29 : decode cX5_init 29 = .ok (.bipush 6, 2) := by decide +kernel
theorem dX5_init_31 : decode cX5_init 31 = .ok (.multianewarray 21 2, 4) := by decide +kernel
theorem dX5_init_35 : decode cX5_init 35 = .ok (.putfield 23, 3) := by decide +kernel
theorem dX5_init_38 : decode cX5_init 38 = .ok (.aload_n 0, 1) := by decide +kernel
theorem dX5_init_39 : decode cX5_init 39 = .ok (.bipush 36, 2) := by decide +kernel
theorem dX5_init_41 : decode cX5_init 41 = .ok (.newarray .boolean, 2) := by decide +kernel
theorem dX5_init_43 : decode cX5_init 43 = .ok (.putfield 26, 3) := by decide +kernel
theorem dX5_init_46 : decode cX5_init 46 = .ok (.aload_n 0, 1) := by decide +kernel
theorem dX5_init_47 : decode cX5_init 47 = .ok (.aload_n 1, 1) := by decide +kernel
theorem dX5_init_48 : decode cX5_init 48 = .ok (.putfield 30, 3) := by decide +kernel
theorem dX5_init_51 : decode cX5_init 51 = .ok (.return_, 1) := by decide +kernel
theorem dX5_forget_0 : decode cX5_forget 0 = .ok (.aload_n 0, 1) := by decide +kernel
theorem dX5_forget_1 : decode cX5_forget 1 = .ok (.iconst 0, 1) := by decide +kernel
theorem dX5_forget_2 : decode cX5_forget 2 = .ok (.putfield 34, 3) := by decide +kernel
theorem dX5_forget_5 : decode cX5_forget 5 = .ok (.return_, 1) := by decide +kernel
theorem dX5_learn_0 : decode cX5_learn 0 = .ok (.aload_n 0, 1) := by decide +kernel
theorem dX5_learn_1 : decode cX5_learn 1 = .ok (.getfield 34, 3) := by decide +kernel
theorem dX5_learn_4 : decode cX5_learn 4 = .ok (.ifCond .eq 4, 3) := by decide +kernel
theorem dX5_learn_7 : decode cX5_learn 7 = .ok (.return_, 1) := by decide +kernel
theorem dX5_learn_8 : decode cX5_learn 8 = .ok (.aload_n 0, 1) := by decide +kernel
theorem dX5_learn_9 : decode cX5_learn 9 = .ok (.iconst 1, 1) := by decide +kernel
theorem dX5_learn_10 : decode cX5_learn 10 = .ok (.putfield 34, 3) := by decide +kernel
theorem dX5_learn_13 : decode cX5_learn 13 = .ok (.aload_n 0, 1) := by decide +kernel
theorem dX5_learn_14 : decode cX5_learn 14 = .ok (.iconst 0, 1) := by decide +kernel
theorem dX5_learn_15 : decode cX5_learn 15 = .ok (.putfield 38, 3) := by decide +kernel
theorem dX5_learn_18 : decode cX5_learn 18 = .ok (.aload_n 0, 1) := by decide +kernel
theorem dX5_learn_19 : decode cX5_learn 19 = .ok (.aload_n 0, 1) := by decide +kernel
theorem dX5_learn_20 : decode cX5_learn 20 = .ok (.getfield 30, 3) := by decide +kernel
theorem dX5_learn_23 : decode cX5_learn 23 = .ok (.getfield 42, 3) := by decide +kernel
theorem dX5_learn_26 : decode cX5_learn 26 = .ok (.putfield 47, 3) := by decide +kernel
theorem dX5_learn_29 : decode cX5_learn 29 = .ok (.aload_n 0, 1) := by decide +kernel
theorem dX5_learn_30 : decode cX5_learn 30 = .ok (.aload_n 0, 1) := by decide +kernel
theorem dX5_learn_31 : decode cX5_learn 31 = .ok (.getfield 30, 3) := by decide +kernel
theorem dX5_learn_34 : decode cX5_learn 34 = .ok (.getfield 48, 3) := by decide +kernel
theorem dX5_learn_37 : decode cX5_learn 37 = .ok (.iconst 0, 1) := by decide +kernel
theorem dX5_learn_38 : decode cX5_learn 38 = .ok (.iaload, 1) := by decide +kernel
theorem dX5_learn_39 : decode cX5_learn 39 = .ok (.putfield 51, 3) := by decide +kernel
theorem dX5_learn_42 : decode cX5_learn 42 = .ok (.aload_n 0, 1) := by decide +kernel
theorem dX5_learn_43 : decode cX5_learn 43 = .ok (.aload_n 0, 1) := by decide +kernel
theorem dX5_learn_44 : decode cX5_learn 44 = .ok (.getfield 47, 3) := by decide +kernel
theorem dX5_learn_47 : decode cX5_learn 47 = .ok (.invokevirtual 54, 3) := by decide +kernel
theorem dX5_learn_50 : decode cX5_learn 50 = .ok (.iconst 0, 1) := by decide +kernel
theorem dX5_learn_51 : decode cX5_learn 51 = .ok (.istore_n 1, 1) := by decide +kernel
theorem dX5_learn_52 : decode cX5_learn 52 = .ok (.iload_n 1, 1) := by decide +kernel
theorem dX5_learn_53 : decode cX5_learn 53 = .ok (.aload_n 0, 1) := by decide +kernel
theorem dX5_learn_54 : decode cX5_learn 54 = .ok (.getfield 47, 3) := by decide +kernel
theorem dX5_learn_57 : decode cX5_learn 57 = .ok (.if_icmp .ge 100, 3) := by decide +kernel
theorem dX5_learn_60 : decode cX5_learn 60 = .ok (.iconst 0, 1) := by decide +kernel
theorem dX5_learn_61 : decode cX5_learn 61 = .ok (.istore_n 2, 1) := by decide +kernel
theorem dX5_learn_62 : decode cX5_learn 62 = .ok (.iload_n 2, 1) := by decide +kernel
theorem dX5_learn_63 : decode cX5_learn 63 = .ok (.aload_n 0, 1) := by decide +kernel
theorem dX5_learn_64 : decode cX5_learn 64 = .ok (.getfield 47, 3) := by decide +kernel
theorem dX5_learn_67 : decode cX5_learn 67 = .ok (.if_icmp .ge 84, 3) := by decide +kernel
theorem dX5_learn_70 : decode cX5_learn 70 = .ok (.aload_n 0, 1) := by decide +kernel
theorem dX5_learn_71 : decode cX5_learn 71 = .ok (.getfield 23, 3) := by decide +kernel
theorem dX5_learn_74 : decode cX5_learn 74 = .ok (.iload_n 1, 1) := by decide +kernel
theorem dX5_learn_75 : decode cX5_learn 75 = .ok (.aaload, 1) := by decide +kernel
theorem dX5_learn_76 : decode cX5_learn 76 = .ok (.iload_n 2, 1) := by decide +kernel
theorem dX5_learn_77 : decode cX5_learn 77 = .ok (.aload_n 0, 1) := by decide +kernel
theorem dX5_learn_78 : decode cX5_learn 78 = .ok (.getfield 30, 3) := by decide +kernel
theorem dX5_learn_81 : decode cX5_learn 81 = .ok (.aload_n 0, 1) := by decide +kernel
theorem dX5_learn_82 : decode cX5_learn 82 = .ok (.getfield 30, 3) := by decide +kernel
theorem dX5_learn_85 : decode cX5_learn 85 = .ok (.getfield 58, 3) := by decide +kernel
theorem dX5_learn_88 : decode cX5_learn 88 = .ok (.iload_n 1, 1) := by decide +kernel
theorem dX5_learn_89 : decode cX5_learn 89 = .ok (.iaload, 1) := by decide +kernel
theorem dX5_learn_90 : decode cX5_learn 90 = .ok (.aload_n 0, 1) := by decide +kernel
theorem dX5_learn_91 : decode cX5_learn 91 = .ok (.getfield 30, 3) := by decide +kernel
theorem dX5_learn_94 : decode cX5_learn 94 = .ok (.getfield 58, 3) := by decide +kernel
theorem dX5_learn_97 : decode cX5_learn 97 = .ok (.iload_n 2, 1) := by decide +kernel
theorem dX5_learn_98 : decode cX5_learn 98 = .ok (.iaload, 1) := by decide +kernel
theorem dX5_learn_99 : decode cX5_learn 99 = .ok (.invokevirtual 61, 3) := by decide +kernel
theorem dX5_learn_102 : decode cX5_learn 102 = .ok (.iastore, 1) := by decide +kernel
theorem dX5_learn_103 : decode cX5_learn 103 = .ok (.aload_n 0, 1) := by decide +kernel
theorem dX5_learn_104 : decode cX5_learn 104 = .ok (.getfield 26, 3) := by decide +kernel
theorem dX5_learn_107 : decode cX5_learn 107 = .ok (.iload_n 1, 1) := by decide +kernel
theorem dX5_learn_108 : decode cX5_learn 108 = .ok (.bipush 6, 2) := by decide +kernel
theorem dX5_learn_110 : decode cX5_learn 110 = .ok (.imul, 1) := by decide +kernel
theorem dX5_learn_111 : decode cX5_learn 111 = .ok (.iload_n 2, 1) := by decide +kernel
theorem dX5_learn_112 : decode cX5_learn 112 = .ok (.iadd, 1) := by decide +kernel
theorem dX5_learn_113 : decode cX5_learn 113 = .ok (.iload_n 1, 1) := by decide +kernel
theorem dX5_learn_114 : decode cX5_learn 114 = .ok (.iload_n 2, 1) := by decide +kernel
theorem dX5_learn_115 : decode cX5_learn 115 = .ok (.if_icmp .eq 28, 3) := by decide +kernel
theorem dX5_learn_118 : decode cX5_learn 118 = .ok (.aload_n 0, 1) := by decide +kernel
theorem dX5_learn_119 : decode cX5_learn 119 = .ok (.getfield 30, 3) := by decide +kernel
theorem dX5_learn_122 : decode cX5_learn 122 = .ok (.getfield 65, 3) := by decide +kernel
theorem dX5_learn_125 : decode cX5_learn 125 = .ok (.iload_n 1, 1) := by decide +kernel
theorem dX5_learn_126 : decode cX5_learn 126 = .ok (.iaload, 1) := by decide +kernel
theorem dX5_learn_127 : decode cX5_learn 127 = .ok (.aload_n 0, 1) := by decide +kernel
theorem dX5_learn_128 : decode cX5_learn 128 = .ok (.getfield 30, 3) := by decide +kernel
theorem dX5_learn_131 : decode cX5_learn 131 = .ok (.getfield 68, 3) := by decide +kernel
theorem dX5_learn_134 : decode cX5_learn 134 = .ok (.iload_n 2, 1) := by decide +kernel
theorem dX5_learn_135 : decode cX5_learn 135 = .ok (.iaload, 1) := by decide +kernel
theorem dX5_learn_136 : decode cX5_learn 136 = .ok (.if_icmp .gt 7, 3) := by decide +kernel
theorem dX5_learn_139 : decode cX5_learn 139 = .ok (.iconst 1, 1) := by decide +kernel
theorem dX5_learn_140 : decode cX5_learn 140 = .ok (.goto 4, 3) := by decide +kernel
theorem dX5_learn_143 : decode cX5_learn 143 = .ok (.iconst 0, 1) := by decide +kernel
theorem dX5_learn_144 : decode cX5_learn 144 = .ok (.bastore, 1) := by decide +kernel
theorem dX5_learn_145 : decode cX5_learn 145 = .ok (.iinc 2 1, 3) := by decide +kernel
theorem dX5_learn_148 : decode cX5_learn 148 = .ok (.goto (-86), 3) := by decide +kernel
theorem dX5_learn_151 : decode cX5_learn 151 = .ok (.iinc 1 1, 3) := by decide +kernel
theorem dX5_learn_154 : decode cX5_learn 154 = .ok (.goto (-102), 3) := by decide +kernel
theorem dX5_learn_157 : decode cX5_learn 157 = .ok (.aload_n 0, 1) := by decide +kernel
theorem dX5_learn_158 : decode cX5_learn 158 = .ok (.iconst 0, 1) := by decide +kernel
theorem dX5_learn_159 : decode cX5_learn 159 = .ok (.iconst 0, 1) := by decide +kernel
theorem dX5_learn_160 : decode cX5_learn 160 = .ok (.iconst 0, 1) := by decide +kernel
theorem dX5_learn_161 : decode cX5_learn 161 = .ok (.invokestatic 71, 3) := by decide +kernel
theorem dX5_learn_164 : decode cX5_learn 164 = .ok (.aload_n 0, 1) := by decide +kernel
theorem dX5_learn_165 : decode cX5_learn 165 = .ok (.aload_n 0, 1) := by decide +kernel
theorem dX5_learn_166 : decode cX5_learn 166 = .ok (.getfield 15, 3) := by decide +kernel
theorem dX5_learn_169 : decode cX5_learn 169 = .ok (.iconst 0, 1) := by decide +kernel
theorem dX5_learn_170 : decode cX5_learn 170 = .ok (.iaload, 1) := by decide +kernel
theorem dX5_learn_171 : decode cX5_learn 171 = .ok (.putfield 75, 3) := by decide +kernel
theorem dX5_learn_174 : decode cX5_learn 174 = .ok (.iconst 1, 1) := by decide +kernel
theorem dX5_learn_175 : decode cX5_learn 175 = .ok (.istore_n 1, 1) := by decide +kernel
theorem dX5_learn_176 : decode cX5_learn 176 = .ok (.iload_n 1, 1) := by decide +kernel
theorem dX5_learn_177 : decode cX5_learn 177 = .ok (.aload_n 0, 1) := by decide +kernel
theorem dX5_learn_178 : decode cX5_learn 178 = .ok (.getfield 38, 3) := by decide +kernel
theorem dX5_learn_181 : decode cX5_learn 181 = .ok (.if_icmp .ge 26, 3) := by decide +kernel
theorem dX5_learn_184 : decode cX5_learn 184 = .ok (.aload_n 0, 1) := by decide +kernel
theorem dX5_learn_185 : decode cX5_learn 185 = .ok (.aload_n 0, 1) := by decide +kernel
theorem dX5_learn_186 : decode cX5_learn 186 = .ok (.getfield 75, 3) := by decide +kernel
theorem dX5_learn_189 : decode cX5_learn 189 = .ok (.aload_n 0, 1) := by decide +kernel
theorem dX5_learn_190 : decode cX5_learn 190 = .ok (.getfield 15, 3) := by decide +kernel
theorem dX5_learn_193 : decode cX5_learn 193 = .ok (.iload_n 1, 1) := by decide +kernel
theorem dX5_learn_194 : decode cX5_learn 194 = .ok (.iaload, 1) := by decide +kernel
theorem dX5_learn_195 : decode cX5_learn 195 = .ok (.invokestatic 78, 3) := by decide +kernel
theorem dX5_learn_198 : decode cX5_learn 198 = .ok (.putfield 75, 3) := by decide +kernel
theorem dX5_learn_201 : decode cX5_learn 201 = .ok (.iinc 1 1, 3) := by decide +kernel
theorem dX5_learn_204 : decode cX5_learn 204 = .ok (.goto (-28), 3) := by decide +kernel
theorem dX5_learn_207 : decode cX5_learn 207 = .ok (.return_, 1) := by decide +kernel
theorem dX5_makeRoom_0 : decode cX5_makeRoom 0 = .ok (.iconst 1, 1) := by decide +kernel
theorem dX5_makeRoom_1 : decode cX5_makeRoom 1 = .ok (.istore_n 2, 1) := by decide +kernel
theorem dX5_makeRoom_2 : decode cX5_makeRoom 2 = .ok (.iconst 1, 1) := by decide +kernel
theorem dX5_makeRoom_3 : decode cX5_makeRoom 3 = .ok (.istore_n 3, 1) := by decide +kernel
theorem dX5_makeRoom_4 : decode cX5_makeRoom 4 = .ok (.iload_n 3, 1) := by decide +kernel
theorem dX5_makeRoom_5 : decode cX5_makeRoom 5 = .ok (.iload_n 1, 1) := by decide +kernel
theorem dX5_makeRoom_6 : decode cX5_makeRoom 6 = .ok (.if_icmp .ge 15, 3) := by decide +kernel
theorem dX5_makeRoom_9 : decode cX5_makeRoom 9 = .ok (.iload_n 2, 1) := by decide +kernel
theorem dX5_makeRoom_10 : decode cX5_makeRoom 10 = .ok (.iload_n 1, 1) := by decide +kernel
theorem dX5_makeRoom_11 : decode cX5_makeRoom 11 = .ok (.iconst 1, 1) := by decide +kernel
theorem dX5_makeRoom_12 : decode cX5_makeRoom 12 = .ok (.iadd, 1) := by decide +kernel
theorem dX5_makeRoom_13 : decode cX5_makeRoom 13 = .ok (.imul, 1) := by decide +kernel
theorem dX5_makeRoom_14 : decode cX5_makeRoom 14 = .ok (.istore_n 2, 1) := by decide +kernel
theorem dX5_makeRoom_15 : decode cX5_makeRoom 15 = .ok (.iinc 3 1, 3) := by decide +kernel
theorem dX5_makeRoom_18 : decode cX5_makeRoom 18 = .ok (.goto (-14), 3) := by decide +kernel
theorem dX5_makeRoom_21 : decode cX5_makeRoom 21 = .ok (.aload_n 0, 1) := by decide +kernel
theorem dX5_makeRoom_22 : decode cX5_makeRoom 22 = .ok (.getfield 9, 3) := by decide +kernel
theorem dX5_makeRoom_25 : decode cX5_makeRoom 25 = .ok (.arraylength, 1) := by decide +kernel
theorem dX5_makeRoom_26 : decode cX5_makeRoom 26 = .ok (.iload_n 2, 1) := by decide +kernel
theorem dX5_makeRoom_27 : decode cX5_makeRoom 27 = .ok (.if_icmp .ge 17, 3) := by decide +kernel
theorem dX5_makeRoom_30 : decode cX5_makeRoom 30 = .ok (.aload_n 0, 1) := by decide +kernel
theorem dX5_makeRoom_31 : decode cX5_makeRoom 31 = .ok (.iload_n 2, 1) := by decide +kernel
theorem dX5_makeRoom_32 : decode cX5_makeRoom 32 = .ok (.newarray .int, 2) := by decide +kernel
theorem dX5_makeRoom_34 : decode cX5_makeRoom 34 = .ok (.putfield 9, 3) := by decide +kernel
theorem dX5_makeRoom_37 : decode cX5_makeRoom 37 = .ok (.aload_n 0, 1) := by decide +kernel
theorem dX5_makeRoom_38 : decode cX5_makeRoom 38 = .ok (.iload_n 2, 1) := by decide +kernel
theorem dX5_makeRoom_39 : decode cX5_makeRoom 39 = .ok (.newarray .int, 2) := by decide +kernel
theorem dX5_makeRoom_41 : decode cX5_makeRoom 41 = .ok (.putfield 15, 3) := by decide +kernel
theorem dX5_makeRoom_44 : decode cX5_makeRoom 44 = .ok (.return_, 1) := by decide +kernel
theorem dX5_grow_0 : decode cX5_grow 0 = .ok (.iload_n 1, 1) := by decide +kernel
theorem dX5_grow_1 : decode cX5_grow 1 = .ok (.aload_n 0, 1) := by decide +kernel
theorem dX5_grow_2 : decode cX5_grow 2 = .ok (.getfield 47, 3) := by decide +kernel
theorem dX5_grow_5 : decode cX5_grow 5 = .ok (.if_icmp .lt 10, 3) := by decide +kernel
theorem dX5_grow_8 : decode cX5_grow 8 = .ok (.aload_n 0, 1) := by decide +kernel
theorem dX5_grow_9 : decode cX5_grow 9 = .ok (.iload_n 2, 1) := by decide +kernel
theorem dX5_grow_10 : decode cX5_grow 10 = .ok (.iload_n 3, 1) := by decide +kernel
theorem dX5_grow_11 : decode cX5_grow 11 = .ok (.invokevirtual 83, 3) := by decide +kernel
theorem dX5_grow_14 : decode cX5_grow 14 = .ok (.return_, 1) := by decide +kernel
theorem dX5_grow_15 : decode cX5_grow 15 = .ok (.iconst 0, 1) := by decide +kernel
theorem dX5_grow_16 : decode cX5_grow 16 = .ok (.istore 4, 2) := by decide +kernel
theorem dX5_grow_18 : decode cX5_grow 18 = .ok (.iload 4, 2) := by decide +kernel
theorem dX5_grow_20 : decode cX5_grow 20 = .ok (.aload_n 0, 1) := by decide +kernel
theorem dX5_grow_21 : decode cX5_grow 21 = .ok (.getfield 47, 3) := by decide +kernel
theorem dX5_grow_24 : decode cX5_grow 24 = .ok (.if_icmp .ge 68, 3) := by decide +kernel
theorem dX5_grow_27 : decode cX5_grow 27 = .ok (.aload_n 0, 1) := by decide +kernel
theorem dX5_grow_28 : decode cX5_grow 28 = .ok (.getfield 26, 3) := by decide +kernel
theorem dX5_grow_31 : decode cX5_grow 31 = .ok (.iload 4, 2) := by decide +kernel
theorem dX5_grow_33 : decode cX5_grow 33 = .ok (.bipush 6, 2) := by decide +kernel
theorem dX5_grow_35 : decode cX5_grow 35 = .ok (.imul, 1) := by decide +kernel
theorem dX5_grow_36 : decode cX5_grow 36 = .ok (.iload_n 1, 1) := by decide +kernel
theorem dX5_grow_37 : decode cX5_grow 37 = .ok (.iadd, 1) := by decide +kernel
theorem dX5_grow_38 : decode cX5_grow 38 = .ok (.baload, 1) := by decide +kernel
theorem dX5_grow_39 : decode cX5_grow 39 = .ok (.ifCond .eq 47, 3) := by decide +kernel
theorem dX5_grow_42 : decode cX5_grow 42 = .ok (.aload_n 0, 1) := by decide +kernel
theorem dX5_grow_43 : decode cX5_grow 43 = .ok (.iload 4, 2) := by decide +kernel
theorem dX5_grow_45 : decode cX5_grow 45 = .ok (.iload_n 1, 1) := by decide +kernel
theorem dX5_grow_46 : decode cX5_grow 46 = .ok (.invokevirtual 87, 3) := by decide +kernel
theorem dX5_grow_49 : decode cX5_grow 49 = .ok (.ifCond .ne 37, 3) := by decide +kernel
theorem dX5_grow_52 : decode cX5_grow 52 = .ok (.aload_n 0, 1) := by decide +kernel
theorem dX5_grow_53 : decode cX5_grow 53 = .ok (.getfield 18, 3) := by decide +kernel
theorem dX5_grow_56 : decode cX5_grow 56 = .ok (.iload_n 1, 1) := by decide +kernel
theorem dX5_grow_57 : decode cX5_grow 57 = .ok (.iload 4, 2) := by decide +kernel
theorem dX5_grow_59 : decode cX5_grow 59 = .ok (.iastore, 1) := by decide +kernel
theorem dX5_grow_60 : decode cX5_grow 60 = .ok (.aload_n 0, 1) := by decide +kernel
theorem dX5_grow_61 : decode cX5_grow 61 = .ok (.iload_n 1, 1) := by decide +kernel
theorem dX5_grow_62 : decode cX5_grow 62 = .ok (.iconst 1, 1) := by decide +kernel
theorem dX5_grow_63 : decode cX5_grow 63 = .ok (.iadd, 1) := by decide +kernel
theorem dX5_grow_64 : decode cX5_grow 64 = .ok (.iload_n 2, 1) := by decide +kernel
theorem dX5_grow_65 : decode cX5_grow 65 = .ok (.iload 4, 2) := by decide +kernel
theorem dX5_grow_67 : decode cX5_grow 67 = .ok (.iconst 4, 1) := by decide +kernel
theorem dX5_grow_68 : decode cX5_grow 68 = .ok (.iload_n 1, 1) := by decide +kernel
theorem dX5_grow_69 : decode cX5_grow 69 = .ok (.imul, 1) := by decide +kernel
theorem dX5_grow_70 : decode cX5_grow 70 = .ok (.ishl, 1) := by decide +kernel
theorem dX5_grow_71 : decode cX5_grow 71 = .ok (.ior, 1) := by decide +kernel
theorem dX5_grow_72 : decode cX5_grow 72 = .ok (.iload_n 3, 1) := by decide +kernel
theorem dX5_grow_73 : decode cX5_grow 73 = .ok (.aload_n 0, 1) := by decide +kernel
theorem dX5_grow_74 : decode cX5_grow 74 = .ok (.getfield 23, 3) := by decide +kernel
theorem dX5_grow_77 : decode cX5_grow 77 = .ok (.iload 4, 2) := by decide +kernel
theorem dX5_grow_79 : decode cX5_grow 79 = .ok (.aaload, 1) := by decide +kernel
theorem dX5_grow_80 : decode cX5_grow 80 = .ok (.iload_n 1, 1) := by decide +kernel
theorem dX5_grow_81 : decode cX5_grow 81 = .ok (.iaload, 1) := by decide +kernel
theorem dX5_grow_82 : decode cX5_grow 82 = .ok (.iadd, 1) := by decide +kernel
theorem dX5_grow_83 : decode cX5_grow 83 = .ok (.invokestatic 71, 3) := by decide +kernel
theorem dX5_grow_86 : decode cX5_grow 86 = .ok (.iinc 4 1, 3) := by decide +kernel
theorem dX5_grow_89 : decode cX5_grow 89 = .ok (.goto (-71), 3) := by decide +kernel
theorem dX5_grow_92 : decode cX5_grow 92 = .ok (.aload_n 0, 1) := by decide +kernel
theorem dX5_grow_93 : decode cX5_grow 93 = .ok (.getfield 18, 3) := by decide +kernel
theorem dX5_grow_96 : decode cX5_grow 96 = .ok (.iload_n 1, 1) := by decide +kernel
theorem dX5_grow_97 : decode cX5_grow 97 = .ok (.bipush 9, 2) := by decide +kernel
theorem dX5_grow_99 : decode cX5_grow 99 = .ok (.iastore, 1) := by decide +kernel
theorem dX5_grow_100 : decode cX5_grow 100 = .ok (.aload_n 0, 1) := by decide +kernel
theorem dX5_grow_101 : decode cX5_grow 101 = .ok (.iload_n 1, 1) := by decide +kernel
theorem dX5_grow_102 : decode cX5_grow 102 = .ok (.iconst 1, 1) := by decide +kernel
theorem dX5_grow_103 : decode cX5_grow 103 = .ok (.iadd, 1) := by decide +kernel
theorem dX5_grow_104 : decode cX5_grow 104 = .ok (.iload_n 2, 1) := by decide +kernel
theorem dX5_grow_105 : decode cX5_grow 105 = .ok (.bipush 9, 2) := by decide +kernel
theorem dX5_grow_107 : decode cX5_grow 107 = .ok (.iconst 4, 1) := by decide +kernel
theorem dX5_grow_108 : decode cX5_grow 108 = .ok (.iload_n 1, 1) := by decide +kernel
theorem dX5_grow_109 : decode cX5_grow 109 = .ok (.imul, 1) := by decide +kernel
theorem dX5_grow_110 : decode cX5_grow 110 = .ok (.ishl, 1) := by decide +kernel
theorem dX5_grow_111 : decode cX5_grow 111 = .ok (.ior, 1) := by decide +kernel
theorem dX5_grow_112 : decode cX5_grow 112 = .ok (.iload_n 3, 1) := by decide +kernel
theorem dX5_grow_113 : decode cX5_grow 113 = .ok (.aload_n 0, 1) := by decide +kernel
theorem dX5_grow_114 : decode cX5_grow 114 = .ok (.getfield 51, 3) := by decide +kernel
theorem dX5_grow_117 : decode cX5_grow 117 = .ok (.iadd, 1) := by decide +kernel
theorem dX5_grow_118 : decode cX5_grow 118 = .ok (.invokestatic 71, 3) := by decide +kernel
theorem dX5_grow_121 : decode cX5_grow 121 = .ok (.return_, 1) := by decide +kernel
theorem dX5_put_0 : decode cX5_put 0 = .ok (.aload_n 0, 1) := by decide +kernel
theorem dX5_put_1 : decode cX5_put 1 = .ok (.getfield 38, 3) := by decide +kernel
theorem dX5_put_4 : decode cX5_put 4 = .ok (.aload_n 0, 1) := by decide +kernel
theorem dX5_put_5 : decode cX5_put 5 = .ok (.getfield 9, 3) := by decide +kernel
theorem dX5_put_8 : decode cX5_put 8 = .ok (.arraylength, 1) := by decide +kernel
theorem dX5_put_9 : decode cX5_put 9 = .ok (.if_icmp .ge 45, 3) := by decide +kernel
theorem dX5_put_12 : decode cX5_put 12 = .ok (.aload_n 0, 1) := by decide +kernel
theorem dX5_put_13 : decode cX5_put 13 = .ok (.getfield 38, 3) := by decide +kernel
theorem dX5_put_16 : decode cX5_put 16 = .ok (.aload_n 0, 1) := by decide +kernel
theorem dX5_put_17 : decode cX5_put 17 = .ok (.getfield 15, 3) := by decide +kernel
theorem dX5_put_20 : decode cX5_put 20 = .ok (.arraylength, 1) := by decide +kernel
theorem dX5_put_21 : decode cX5_put 21 = .ok (.if_icmp .ge 33, 3) := by decide +kernel
theorem dX5_put_24 : decode cX5_put 24 = .ok (.aload_n 0, 1) := by decide +kernel
theorem dX5_put_25 : decode cX5_put 25 = .ok (.getfield 9, 3) := by decide +kernel
theorem dX5_put_28 : decode cX5_put 28 = .ok (.aload_n 0, 1) := by decide +kernel
theorem dX5_put_29 : decode cX5_put 29 = .ok (.getfield 38, 3) := by decide +kernel
theorem dX5_put_32 : decode cX5_put 32 = .ok (.iload_n 1, 1) := by decide +kernel
theorem dX5_put_33 : decode cX5_put 33 = .ok (.iastore, 1) := by decide +kernel
theorem dX5_put_34 : decode cX5_put 34 = .ok (.aload_n 0, 1) := by decide +kernel
theorem dX5_put_35 : decode cX5_put 35 = .ok (.getfield 15, 3) := by decide +kernel
theorem dX5_put_38 : decode cX5_put 38 = .ok (.aload_n 0, 1) := by decide +kernel
theorem dX5_put_39 : decode cX5_put 39 = .ok (.getfield 38, 3) := by decide +kernel
theorem dX5_put_42 : decode cX5_put 42 = .ok (.iload_n 2, 1) := by decide +kernel
theorem dX5_put_43 : decode cX5_put 43 = .ok (.iastore, 1) := by decide +kernel
theorem dX5_put_44 : decode cX5_put 44 = .ok (.aload_n 0, 1) := by decide +kernel
theorem dX5_put_45 : decode cX5_put 45 = .ok (.dup, 1) := by decide +kernel
theorem dX5_put_46 : decode cX5_put 46 = .ok (.getfield 38, 3) := by decide +kernel
theorem dX5_put_49 : decode cX5_put 49 = .ok (.iconst 1, 1) := by decide +kernel
theorem dX5_put_50 : decode cX5_put 50 = .ok (.iadd, 1) := by decide +kernel
theorem dX5_put_51 : decode cX5_put 51 = .ok (.putfield 38, 3) := by decide +kernel
theorem dX5_put_54 : decode cX5_put 54 = .ok (.return_, 1) := by decide +kernel
theorem dX5_comesFrom_0 : decode cX5_comesFrom 0 = .ok (.iload_n 1, 1) := by decide +kernel
theorem dX5_comesFrom_1 : decode cX5_comesFrom 1 = .ok (.istore_n 3, 1) := by decide +kernel
theorem dX5_comesFrom_2 : decode cX5_comesFrom 2 = .ok (.iconst 0, 1) := by decide +kernel
theorem dX5_comesFrom_3 : decode cX5_comesFrom 3 = .ok (.istore 4, 2) := by decide +kernel
theorem dX5_comesFrom_5 : decode cX5_comesFrom 5 = .ok (.iload 4, 2) := by decide +kernel
theorem dX5_comesFrom_7 : decode cX5_comesFrom 7 = .ok (.aload_n 0, 1) := by decide +kernel
theorem dX5_comesFrom_8 : decode cX5_comesFrom 8 = .ok (.getfield 47, 3) := by decide +kernel
theorem dX5_comesFrom_11 : decode cX5_comesFrom 11 = .ok (.if_icmp .ge 21, 3) := by decide +kernel
theorem dX5_comesFrom_14 : decode cX5_comesFrom 14 = .ok (.iload_n 3, 1) := by decide +kernel
theorem dX5_comesFrom_15 : decode cX5_comesFrom 15 = .ok (.iload_n 2, 1) := by decide +kernel
theorem dX5_comesFrom_16 : decode cX5_comesFrom 16 = .ok (.if_icmp .ge 16, 3) := by decide +kernel
theorem dX5_comesFrom_19 : decode cX5_comesFrom 19 = .ok (.aload_n 0, 1) := by decide +kernel
theorem dX5_comesFrom_20 : decode cX5_comesFrom 20 = .ok (.getfield 18, 3) := by decide +kernel
theorem dX5_comesFrom_23 : decode cX5_comesFrom 23 = .ok (.iload_n 3, 1) := by decide +kernel
theorem dX5_comesFrom_24 : decode cX5_comesFrom 24 = .ok (.iaload, 1) := by decide +kernel
theorem dX5_comesFrom_25 : decode cX5_comesFrom 25 = .ok (.istore_n 3, 1) := by decide +kernel
theorem dX5_comesFrom_26 : decode cX5_comesFrom 26 = .ok (.iinc 4 1, 3) := by decide +kernel
theorem dX5_comesFrom_29 : decode cX5_comesFrom 29 = .ok (.goto (-24), 3) := by decide +kernel
theorem dX5_comesFrom_32 : decode cX5_comesFrom 32 = .ok (.iload_n 3, 1) := by decide +kernel
theorem dX5_comesFrom_33 : decode cX5_comesFrom 33 = .ok (.iload_n 2, 1) := by decide +kernel
theorem dX5_comesFrom_34 : decode cX5_comesFrom 34 = .ok (.if_icmp .ne 7, 3) := by decide +kernel
theorem dX5_comesFrom_37 : decode cX5_comesFrom 37 = .ok (.iconst 1, 1) := by decide +kernel
theorem dX5_comesFrom_38 : decode cX5_comesFrom 38 = .ok (.goto 4, 3) := by decide +kernel
theorem dX5_comesFrom_41 : decode cX5_comesFrom 41 = .ok (.iconst 0, 1) := by decide +kernel
theorem dX5_comesFrom_42 : decode cX5_comesFrom 42 = .ok (.ireturn, 1) := by decide +kernel
theorem dX5_sourceIn_0 : decode cX5_sourceIn 0 = .ok (.iload_n 0, 1) := by decide +kernel
theorem dX5_sourceIn_1 : decode cX5_sourceIn 1 = .ok (.iconst 4, 1) := by decide +kernel
theorem dX5_sourceIn_2 : decode cX5_sourceIn 2 = .ok (.iload_n 1, 1) := by decide +kernel
theorem dX5_sourceIn_3 : decode cX5_sourceIn 3 = .ok (.imul, 1) := by decide +kernel
theorem dX5_sourceIn_4 : decode cX5_sourceIn 4 = .ok (.ishr, 1) := by decide +kernel
theorem dX5_sourceIn_5 : decode cX5_sourceIn 5 = .ok (.bipush 15, 2) := by decide +kernel
theorem dX5_sourceIn_7 : decode cX5_sourceIn 7 = .ok (.iand, 1) := by decide +kernel
theorem dX5_sourceIn_8 : decode cX5_sourceIn 8 = .ok (.ireturn, 1) := by decide +kernel
theorem dX5_countWithin_0 : decode cX5_countWithin 0 = .ok (.iconst 0, 1) := by decide +kernel
theorem dX5_countWithin_1 : decode cX5_countWithin 1 = .ok (.istore_n 2, 1) := by decide +kernel
theorem dX5_countWithin_2 : decode cX5_countWithin 2 = .ok (.iconst 0, 1) := by decide +kernel
theorem dX5_countWithin_3 : decode cX5_countWithin 3 = .ok (.istore_n 3, 1) := by decide +kernel
theorem dX5_countWithin_4 : decode cX5_countWithin 4 = .ok (.iload_n 3, 1) := by decide +kernel
theorem dX5_countWithin_5 : decode cX5_countWithin 5 = .ok (.aload_n 0, 1) := by decide +kernel
theorem dX5_countWithin_6 : decode cX5_countWithin 6 = .ok (.getfield 38, 3) := by decide +kernel
theorem dX5_countWithin_9 : decode cX5_countWithin 9 = .ok (.if_icmp .ge 27, 3) := by decide +kernel
theorem dX5_countWithin_12 : decode cX5_countWithin 12 = .ok (.aload_n 0, 1) := by decide +kernel
theorem dX5_countWithin_13 : decode cX5_countWithin 13 = .ok (.getfield 15, 3) := by decide +kernel
theorem dX5_countWithin_16 : decode cX5_countWithin 16 = .ok (.iload_n 3, 1) := by decide +kernel
theorem dX5_countWithin_17 : decode cX5_countWithin 17 = .ok (.iaload, 1) := by decide +kernel
theorem dX5_countWithin_18 : decode cX5_countWithin 18 = .ok (.aload_n 0, 1) := by decide +kernel
theorem dX5_countWithin_19 : decode cX5_countWithin 19 = .ok (.getfield 75, 3) := by decide +kernel
theorem dX5_countWithin_22 : decode cX5_countWithin 22 = .ok (.iload_n 1, 1) := by decide +kernel
theorem dX5_countWithin_23 : decode cX5_countWithin 23 = .ok (.iadd, 1) := by decide +kernel
theorem dX5_countWithin_24 : decode cX5_countWithin 24 = .ok (.if_icmp .gt 6, 3) := by decide +kernel
theorem dX5_countWithin_27 : decode cX5_countWithin 27 = .ok (.iinc 2 1, 3) := by decide +kernel
theorem dX5_countWithin_30 : decode cX5_countWithin 30 = .ok (.iinc 3 1, 3) := by decide +kernel
theorem dX5_countWithin_33 : decode cX5_countWithin 33 = .ok (.goto (-29), 3) := by decide +kernel
theorem dX5_countWithin_36 : decode cX5_countWithin 36 = .ok (.iload_n 2, 1) := by decide +kernel
theorem dX5_countWithin_37 : decode cX5_countWithin 37 = .ok (.ireturn, 1) := by decide +kernel
theorem dX5_placeOfKept_0 : decode cX5_placeOfKept 0 = .ok (.iconst 0, 1) := by decide +kernel
theorem dX5_placeOfKept_1 : decode cX5_placeOfKept 1 = .ok (.istore_n 3, 1) := by decide +kernel
theorem dX5_placeOfKept_2 : decode cX5_placeOfKept 2 = .ok (.iconst 0, 1) := by decide +kernel
theorem dX5_placeOfKept_3 : decode cX5_placeOfKept 3 = .ok (.istore 4, 2) := by decide +kernel
theorem dX5_placeOfKept_5 : decode cX5_placeOfKept 5 = .ok (.iload 4, 2) := by decide +kernel
theorem dX5_placeOfKept_7 : decode cX5_placeOfKept 7 = .ok (.aload_n 0, 1) := by decide +kernel
theorem dX5_placeOfKept_8 : decode cX5_placeOfKept 8 = .ok (.getfield 38, 3) := by decide +kernel
theorem dX5_placeOfKept_11 : decode cX5_placeOfKept 11 = .ok (.if_icmp .ge 36, 3) := by decide +kernel
theorem dX5_placeOfKept_14 : decode cX5_placeOfKept 14 = .ok (.aload_n 0, 1) := by decide +kernel
theorem dX5_placeOfKept_15 : decode cX5_placeOfKept 15 = .ok (.getfield 15, 3) := by decide +kernel
theorem dX5_placeOfKept_18 : decode cX5_placeOfKept 18 = .ok (.iload 4, 2) := by decide +kernel
theorem dX5_placeOfKept_20 : decode cX5_placeOfKept 20 = .ok (.iaload, 1) := by decide +kernel
theorem dX5_placeOfKept_21 : decode cX5_placeOfKept 21 = .ok (.aload_n 0, 1) := by decide +kernel
theorem dX5_placeOfKept_22 : decode cX5_placeOfKept 22 = .ok (.getfield 75, 3) := by decide +kernel
theorem dX5_placeOfKept_25 : decode cX5_placeOfKept 25 = .ok (.iload_n 1, 1) := by decide +kernel
theorem dX5_placeOfKept_26 : decode cX5_placeOfKept 26 = .ok (.iadd, 1) := by decide +kernel
theorem dX5_placeOfKept_27 : decode cX5_placeOfKept 27 = .ok (.if_icmp .gt 14, 3) := by decide +kernel
theorem dX5_placeOfKept_30 : decode cX5_placeOfKept 30 = .ok (.iload_n 3, 1) := by decide +kernel
theorem dX5_placeOfKept_31 : decode cX5_placeOfKept 31 = .ok (.iload_n 2, 1) := by decide +kernel
theorem dX5_placeOfKept_32 : decode cX5_placeOfKept 32 = .ok (.if_icmp .ne 6, 3) := by decide +kernel
theorem dX5_placeOfKept_35 : decode cX5_placeOfKept 35 = .ok (.iload 4, 2) := by decide +kernel
theorem dX5_placeOfKept_37 : decode cX5_placeOfKept 37 = .ok (.ireturn, 1) := by decide +kernel
theorem dX5_placeOfKept_38 : decode cX5_placeOfKept 38 = .ok (.iinc 3 1, 3) := by decide +kernel
theorem dX5_placeOfKept_41 : decode cX5_placeOfKept 41 = .ok (.iinc 4 1, 3) := by decide +kernel
theorem dX5_placeOfKept_44 : decode cX5_placeOfKept 44 = .ok (.goto (-39), 3) := by decide +kernel
theorem dX5_placeOfKept_47 : decode cX5_placeOfKept 47 = .ok (.bipush (-6), 2) := by decide +kernel
theorem dX5_placeOfKept_49 : decode cX5_placeOfKept 49 = .ok (.ireturn, 1) := by decide +kernel
theorem dX5_alwaysFrom_0 : decode cX5_alwaysFrom 0 = .ok (.iconst 1, 1) := by decide +kernel
theorem dX5_alwaysFrom_1 : decode cX5_alwaysFrom 1 = .ok (.aload_n 0, 1) := by decide +kernel
theorem dX5_alwaysFrom_2 : decode cX5_alwaysFrom 2 = .ok (.getfield 47, 3) := by decide +kernel
theorem dX5_alwaysFrom_5 : decode cX5_alwaysFrom 5 = .ok (.ishl, 1) := by decide +kernel
theorem dX5_alwaysFrom_6 : decode cX5_alwaysFrom 6 = .ok (.iconst 1, 1) := by decide +kernel
theorem dX5_alwaysFrom_7 : decode cX5_alwaysFrom 7 = .ok (.isub, 1) := by decide +kernel
theorem dX5_alwaysFrom_8 : decode cX5_alwaysFrom 8 = .ok (.istore_n 3, 1) := by decide +kernel
theorem dX5_alwaysFrom_9 : decode cX5_alwaysFrom 9 = .ok (.iconst 0, 1) := by decide +kernel
theorem dX5_alwaysFrom_10 : decode cX5_alwaysFrom 10 = .ok (.istore 4, 2) := by decide +kernel
theorem dX5_alwaysFrom_12 : decode cX5_alwaysFrom 12 = .ok (.iload 4, 2) := by decide +kernel
theorem dX5_alwaysFrom_14 : decode cX5_alwaysFrom 14 = .ok (.aload_n 0, 1) := by decide +kernel
theorem dX5_alwaysFrom_15 : decode cX5_alwaysFrom 15 = .ok (.getfield 38, 3) := by decide +kernel
theorem dX5_alwaysFrom_18 : decode cX5_alwaysFrom 18 = .ok (.if_icmp .ge 44, 3) := by decide +kernel
theorem dX5_alwaysFrom_21 : decode cX5_alwaysFrom 21 = .ok (.iload_n 3, 1) := by decide +kernel
theorem dX5_alwaysFrom_22 : decode cX5_alwaysFrom 22 = .ok (.ifCond .eq 40, 3) := by decide +kernel
theorem dX5_alwaysFrom_25 : decode cX5_alwaysFrom 25 = .ok (.aload_n 0, 1) := by decide +kernel
theorem dX5_alwaysFrom_26 : decode cX5_alwaysFrom 26 = .ok (.getfield 15, 3) := by decide +kernel
theorem dX5_alwaysFrom_29 : decode cX5_alwaysFrom 29 = .ok (.iload 4, 2) := by decide +kernel
theorem dX5_alwaysFrom_31 : decode cX5_alwaysFrom 31 = .ok (.iaload, 1) := by decide +kernel
theorem dX5_alwaysFrom_32 : decode cX5_alwaysFrom 32 = .ok (.aload_n 0, 1) := by decide +kernel
theorem dX5_alwaysFrom_33 : decode cX5_alwaysFrom 33 = .ok (.getfield 75, 3) := by decide +kernel
theorem dX5_alwaysFrom_36 : decode cX5_alwaysFrom 36 = .ok (.iload_n 1, 1) := by decide +kernel
theorem dX5_alwaysFrom_37 : decode cX5_alwaysFrom 37 = .ok (.iadd, 1) := by decide +kernel
theorem dX5_alwaysFrom_38 : decode cX5_alwaysFrom 38 = .ok (.if_icmp .gt 18, 3) := by decide +kernel
theorem dX5_alwaysFrom_41 : decode cX5_alwaysFrom 41 = .ok (.iload_n 3, 1) := by decide +kernel
theorem dX5_alwaysFrom_42 : decode cX5_alwaysFrom 42 = .ok (.aload_n 0, 1) := by decide +kernel
theorem dX5_alwaysFrom_43 : decode cX5_alwaysFrom 43 = .ok (.aload_n 0, 1) := by decide +kernel
theorem dX5_alwaysFrom_44 : decode cX5_alwaysFrom 44 = .ok (.getfield 9, 3) := by decide +kernel
theorem dX5_alwaysFrom_47 : decode cX5_alwaysFrom 47 = .ok (.iload 4, 2) := by decide +kernel
theorem dX5_alwaysFrom_49 : decode cX5_alwaysFrom 49 = .ok (.iaload, 1) := by decide +kernel
theorem dX5_alwaysFrom_50 : decode cX5_alwaysFrom 50 = .ok (.iload_n 2, 1) := by decide +kernel
theorem dX5_alwaysFrom_51 : decode cX5_alwaysFrom 51 = .ok (.invokevirtual 91, 3) := by decide +kernel
theorem dX5_alwaysFrom_54 : decode cX5_alwaysFrom 54 = .ok (.iand, 1) := by decide +kernel
theorem dX5_alwaysFrom_55 : decode cX5_alwaysFrom 55 = .ok (.istore_n 3, 1) := by decide +kernel
theorem dX5_alwaysFrom_56 : decode cX5_alwaysFrom 56 = .ok (.iinc 4 1, 3) := by decide +kernel
theorem dX5_alwaysFrom_59 : decode cX5_alwaysFrom 59 = .ok (.goto (-47), 3) := by decide +kernel
theorem dX5_alwaysFrom_62 : decode cX5_alwaysFrom 62 = .ok (.iload_n 3, 1) := by decide +kernel
theorem dX5_alwaysFrom_63 : decode cX5_alwaysFrom 63 = .ok (.ireturn, 1) := by decide +kernel
theorem dX5_tracedFrom_0 : decode cX5_tracedFrom 0 = .ok (.iconst 0, 1) := by decide +kernel
theorem dX5_tracedFrom_1 : decode cX5_tracedFrom 1 = .ok (.istore_n 3, 1) := by decide +kernel
theorem dX5_tracedFrom_2 : decode cX5_tracedFrom 2 = .ok (.iconst 0, 1) := by decide +kernel
theorem dX5_tracedFrom_3 : decode cX5_tracedFrom 3 = .ok (.istore 4, 2) := by decide +kernel
theorem dX5_tracedFrom_5 : decode cX5_tracedFrom 5 = .ok (.iload 4, 2) := by decide +kernel
theorem dX5_tracedFrom_7 : decode cX5_tracedFrom 7 = .ok (.aload_n 0, 1) := by decide +kernel
theorem dX5_tracedFrom_8 : decode cX5_tracedFrom 8 = .ok (.getfield 47, 3) := by decide +kernel
theorem dX5_tracedFrom_11 : decode cX5_tracedFrom 11 = .ok (.if_icmp .ge 26, 3) := by decide +kernel
theorem dX5_tracedFrom_14 : decode cX5_tracedFrom 14 = .ok (.iload_n 1, 1) := by decide +kernel
theorem dX5_tracedFrom_15 : decode cX5_tracedFrom 15 = .ok (.iload 4, 2) := by decide +kernel
theorem dX5_tracedFrom_17 : decode cX5_tracedFrom 17 = .ok (.invokestatic 94, 3) := by decide +kernel
theorem dX5_tracedFrom_20 : decode cX5_tracedFrom 20 = .ok (.iload_n 2, 1) := by decide +kernel
theorem dX5_tracedFrom_21 : decode cX5_tracedFrom 21 = .ok (.if_icmp .ne 10, 3) := by decide +kernel
theorem dX5_tracedFrom_24 : decode cX5_tracedFrom 24 = .ok (.iload_n 3, 1) := by decide +kernel
theorem dX5_tracedFrom_25 : decode cX5_tracedFrom 25 = .ok (.iconst 1, 1) := by decide +kernel
theorem dX5_tracedFrom_26 : decode cX5_tracedFrom 26 = .ok (.iload 4, 2) := by decide +kernel
theorem dX5_tracedFrom_28 : decode cX5_tracedFrom 28 = .ok (.ishl, 1) := by decide +kernel
theorem dX5_tracedFrom_29 : decode cX5_tracedFrom 29 = .ok (.ior, 1) := by decide +kernel
theorem dX5_tracedFrom_30 : decode cX5_tracedFrom 30 = .ok (.istore_n 3, 1) := by decide +kernel
theorem dX5_tracedFrom_31 : decode cX5_tracedFrom 31 = .ok (.iinc 4 1, 3) := by decide +kernel
theorem dX5_tracedFrom_34 : decode cX5_tracedFrom 34 = .ok (.goto (-29), 3) := by decide +kernel
theorem dX5_tracedFrom_37 : decode cX5_tracedFrom 37 = .ok (.iload_n 3, 1) := by decide +kernel
theorem dX5_tracedFrom_38 : decode cX5_tracedFrom 38 = .ok (.ireturn, 1) := by decide +kernel
theorem dX6_init_0 : decode cX6_init 0 = .ok (.aload_n 0, 1) := by decide +kernel
theorem dX6_init_1 : decode cX6_init 1 = .ok (.invokespecial 1, 3) := by decide +kernel
theorem dX6_init_4 : decode cX6_init 4 = .ok (.aload_n 0, 1) := by decide +kernel
theorem dX6_init_5 : decode cX6_init 5 = .ok (.new 7, 3) := by decide +kernel
theorem dX6_init_8 : decode cX6_init 8 = .ok (.dup, 1) := by decide +kernel
theorem dX6_init_9 : decode cX6_init 9 = .ok (.invokespecial 9, 3) := by decide +kernel
theorem dX6_init_12 : decode cX6_init 12 = .ok (.putfield 10, 3) := by decide +kernel
theorem dX6_init_15 : decode cX6_init 15 = .ok (.aload_n 0, 1) := by decide +kernel
theorem dX6_init_16 : decode cX6_init 16 = .ok (.iconst 2, 1) := by decide +kernel
theorem dX6_init_17 : decode cX6_init 17 = .ok (.anewarray 7, 3) := by decide +kernel
theorem dX6_init_20 : decode cX6_init 20 = .ok (.putfield 16, 3) := by decide +kernel
theorem dX6_init_23 : decode cX6_init 23 = .ok (.aload_n 0, 1) := by decide +kernel
theorem dX6_init_24 : decode cX6_init 24 = .ok (.new 20, 3) := by decide +kernel
theorem dX6_init_27 : decode cX6_init 27 = .ok (.dup, 1) := by decide +kernel
theorem dX6_init_28 : decode cX6_init 28 = .ok (.invokespecial 22, 3) := by decide +kernel
theorem dX6_init_31 : decode cX6_init 31 = .ok (.putfield 23, 3) := by decide +kernel
theorem dX6_init_34 : decode cX6_init 34 = .ok (.aload_n 0, 1) := by decide +kernel
theorem dX6_init_35 : decode cX6_init 35 = .ok (.new 27, 3) := by decide +kernel
theorem dX6_init_38 : decode cX6_init 38 = .ok (.dup, 1) := by decide +kernel
theorem dX6_init_39 : decode cX6_init 39 = .ok (.aload_n 0, 1) := by decide +kernel
theorem dX6_init_40 : decode cX6_init 40 = .ok (.getfield 10, 3) := by decide +kernel
theorem dX6_init_43 : decode cX6_init 43 = .ok (.invokespecial 29, 3) := by decide +kernel
theorem dX6_init_46 : decode cX6_init 46 = .ok (.putfield 32, 3) := by decide +kernel
theorem dX6_init_49 : decode cX6_init 49 = .ok (.aload_n 0, 1) := by decide +kernel
theorem dX6_init_50 : decode cX6_init 50 = .ok (.new 36, 3) := by decide +kernel
theorem dX6_init_53 : decode cX6_init 53 = .ok (.dup, 1) := by decide +kernel
theorem dX6_init_54 : decode cX6_init 54 = .ok (.aload_n 0, 1) := by decide +kernel
theorem dX6_init_55 : decode cX6_init 55 = .ok (.getfield 10, 3) := by decide +kernel
theorem dX6_init_58 : decode cX6_init 58 = .ok (.invokespecial 38, 3) := by decide +kernel
theorem dX6_init_61 : decode cX6_init 61 = .ok (.putfield 39, 3) := by decide +kernel
theorem dX6_init_64 : decode cX6_init 64 = .ok (.aload_n 0, 1) := by decide +kernel
theorem dX6_init_65 : decode cX6_init 65 = .ok (.new 43, 3) := by decide +kernel
theorem dX6_init_68 : decode cX6_init 68 = .ok (.dup, 1) := by decide +kernel
theorem dX6_init_69 : decode cX6_init 69 = .ok (.aload_n 0, 1) := by decide +kernel
theorem dX6_init_70 : decode cX6_init 70 = .ok (.getfield 10, 3) := by decide +kernel
theorem dX6_init_73 : decode cX6_init 73 = .ok (.invokespecial 45, 3) := by decide +kernel
theorem dX6_init_76 : decode cX6_init 76 = .ok (.putfield 46, 3) := by decide +kernel
theorem dX6_init_79 : decode cX6_init 79 = .ok (.aload_n 0, 1) := by decide +kernel
theorem dX6_init_80 : decode cX6_init 80 = .ok (.new 50, 3) := by decide +kernel
theorem dX6_init_83 : decode cX6_init 83 = .ok (.dup, 1) := by decide +kernel
theorem dX6_init_84 : decode cX6_init 84 = .ok (.invokespecial 52, 3) := by decide +kernel
theorem dX6_init_87 : decode cX6_init 87 = .ok (.putfield 53, 3) := by decide +kernel
theorem dX6_init_90 : decode cX6_init 90 = .ok (.return_, 1) := by decide +kernel
theorem dX6_picture_0 : decode cX6_picture 0 = .ok (.iload_n 1, 1) := by decide +kernel
theorem dX6_picture_1 : decode cX6_picture 1 = .ok (.invokestatic 57, 3) := by decide +kernel
theorem dX6_picture_4 : decode cX6_picture 4 = .ok (.ifCond .eq 14, 3) := by decide +kernel
theorem dX6_picture_7 : decode cX6_picture 7 = .ok (.iload_n 2, 1) := by decide +kernel
theorem dX6_picture_8 : decode cX6_picture 8 = .ok (.iload_n 3, 1) := by decide +kernel
theorem dX6_picture_9 : decode cX6_picture 9 = .ok (.iconst 0, 1) := by decide +kernel
theorem dX6_picture_10 : decode cX6_picture 10 = .ok (.bipush 99, 2) := by decide +kernel
theorem dX6_picture_12 : decode cX6_picture 12 = .ok (.invokestatic 61, 3) := by decide +kernel
theorem dX6_picture_15 : decode cX6_picture 15 = .ok (.ifCond .ne 6, 3) := by decide +kernel
theorem dX6_picture_18 : decode cX6_picture 18 = .ok (.bipush (-2), 2) := by decide +kernel
theorem dX6_picture_20 : decode cX6_picture 20 = .ok (.ireturn, 1) := by decide +kernel
theorem dX6_picture_21 : decode cX6_picture 21 = .ok (.aload_n 0, 1) := by decide +kernel
theorem dX6_picture_22 : decode cX6_picture 22 = .ok (.getfield 10, 3) := by decide +kernel
theorem dX6_picture_25 : decode cX6_picture 25 = .ok (.getfield 65, 3) := by decide +kernel
theorem dX6_picture_28 : decode cX6_picture 28 = .ok (.bipush 6, 2) := by decide +kernel
theorem dX6_picture_30 : decode cX6_picture 30 = .ok (.if_icmp .lt 6, 3) := by decide +kernel
theorem dX6_picture_33 : decode cX6_picture 33 = .ok (.bipush (-4), 2) := by decide +kernel
theorem dX6_picture_35 : decode cX6_picture 35 = .ok (.ireturn, 1) := by decide +kernel
theorem dX6_picture_36 : decode cX6_picture 36 = .ok (.aload_n 0, 1) := by decide +kernel
theorem dX6_picture_37 : decode cX6_picture 37 = .ok (.getfield 32, 3) := by decide +kernel
theorem dX6_picture_40 : decode cX6_picture 40 = .ok (.invokevirtual 69, 3) := by decide +kernel
theorem dX6_picture_43 : decode cX6_picture 43 = .ok (.aload_n 0, 1) := by decide +kernel
theorem dX6_picture_44 : decode cX6_picture 44 = .ok (.getfield 10, 3) := by decide +kernel
theorem dX6_picture_47 : decode cX6_picture 47 = .ok (.iload_n 1, 1) := by decide +kernel
theorem dX6_picture_48 : decode cX6_picture 48 = .ok (.iload_n 2, 1) := by decide +kernel
theorem dX6_picture_49 : decode cX6_picture 49 = .ok (.iload_n 3, 1) := by decide +kernel
theorem dX6_picture_50 : decode cX6_picture 50 = .ok (.invokevirtual 72, 3) := by decide +kernel
theorem dX6_picture_53 : decode cX6_picture 53 = .ok (.ireturn, 1) := by decide +kernel
theorem dX6_about_0 : decode cX6_about 0 = .ok (.aload_n 0, 1) := by decide +kernel
theorem dX6_about_1 : decode cX6_about 1 = .ok (.getfield 10, 3) := by decide +kernel
theorem dX6_about_4 : decode cX6_about 4 = .ok (.iload_n 1, 1) := by decide +kernel
theorem dX6_about_5 : decode cX6_about 5 = .ok (.invokevirtual 76, 3) := by decide +kernel
theorem dX6_about_8 : decode cX6_about 8 = .ok (.ifCond .ne 5, 3) := by decide +kernel
theorem dX6_about_11 : decode cX6_about 11 = .ok (.iconst (-1), 1) := by decide +kernel
theorem dX6_about_12 : decode cX6_about 12 = .ok (.ireturn, 1) := by decide +kernel
theorem dX6_about_13 : decode cX6_about 13 = .ok (.iload_n 2, 1) := by decide +kernel
theorem dX6_about_14 : decode cX6_about 14 = .ok (.tableswitch 69 0 3 #[30, 40, 50, 60], 30) := by decide +kernel
theorem dX6_about_44 : decode cX6_about 44 = .ok (.aload_n 0, 1) := by decide +kernel
theorem dX6_about_45 : decode cX6_about 45 = .ok (.getfield 10, 3) := by decide +kernel
theorem dX6_about_48 : decode cX6_about 48 = .ok (.getfield 79, 3) := by decide +kernel
theorem dX6_about_51 : decode cX6_about 51 = .ok (.iload_n 1, 1) := by decide +kernel
theorem dX6_about_52 : decode cX6_about 52 = .ok (.iaload, 1) := by decide +kernel
theorem dX6_about_53 : decode cX6_about 53 = .ok (.ireturn, 1) := by decide +kernel
theorem dX6_about_54 : decode cX6_about 54 = .ok (.aload_n 0, 1) := by decide +kernel
theorem dX6_about_55 : decode cX6_about 55 = .ok (.getfield 10, 3) := by decide +kernel
theorem dX6_about_58 : decode cX6_about 58 = .ok (.getfield 83, 3) := by decide +kernel
theorem dX6_about_61 : decode cX6_about 61 = .ok (.iload_n 1, 1) := by decide +kernel
theorem dX6_about_62 : decode cX6_about 62 = .ok (.iaload, 1) := by decide +kernel
theorem dX6_about_63 : decode cX6_about 63 = .ok (.ireturn, 1) := by decide +kernel
theorem dX6_about_64 : decode cX6_about 64 = .ok (.aload_n 0, 1) := by decide +kernel
theorem dX6_about_65 : decode cX6_about 65 = .ok (.getfield 10, 3) := by decide +kernel
theorem dX6_about_68 : decode cX6_about 68 = .ok (.getfield 86, 3) := by decide +kernel
theorem dX6_about_71 : decode cX6_about 71 = .ok (.iload_n 1, 1) := by decide +kernel
theorem dX6_about_72 : decode cX6_about 72 = .ok (.iaload, 1) := by decide +kernel
theorem dX6_about_73 : decode cX6_about 73 = .ok (.ireturn, 1) := by decide +kernel
theorem dX6_about_74 : decode cX6_about 74 = .ok (.aload_n 0, 1) := by decide +kernel
theorem dX6_about_75 : decode cX6_about 75 = .ok (.getfield 10, 3) := by decide +kernel
theorem dX6_about_78 : decode cX6_about 78 = .ok (.iload_n 1, 1) := by decide +kernel
theorem dX6_about_79 : decode cX6_about 79 = .ok (.invokevirtual 89, 3) := by decide +kernel
theorem dX6_about_82 : decode cX6_about 82 = .ok (.ireturn, 1) := by decide +kernel
theorem dX6_about_83 : decode cX6_about 83 = .ok (.bipush (-2), 2) := by decide +kernel
theorem dX6_about_85 : decode cX6_about 85 = .ok (.ireturn, 1) := by decide +kernel
theorem dX6_set_0 : decode cX6_set 0 = .ok (.iload_n 1, 1) := by decide +kernel
theorem dX6_set_1 : decode cX6_set 1 = .ok (.iconst 0, 1) := by decide +kernel
theorem dX6_set_2 : decode cX6_set 2 = .ok (.iconst 3, 1) := by decide +kernel
theorem dX6_set_3 : decode cX6_set 3 = .ok (.invokestatic 93, 3) := by decide +kernel
theorem dX6_set_6 : decode cX6_set 6 = .ok (.ifCond .ne 6, 3) := by decide +kernel
theorem dX6_set_9 : decode cX6_set 9 = .ok (.bipush (-2), 2) := by decide +kernel
theorem dX6_set_11 : decode cX6_set 11 = .ok (.ireturn, 1) := by decide +kernel
theorem dX6_set_12 : decode cX6_set 12 = .ok (.iload_n 1, 1) := by decide +kernel
theorem dX6_set_13 : decode cX6_set 13 = .ok (.iconst 2, 1) := by decide +kernel
theorem dX6_set_14 : decode cX6_set 14 = .ok (.if_icmp .eq 8, 3) := by decide +kernel
theorem dX6_set_17 : decode cX6_set 17 = .ok (.iload_n 1, 1) := by decide +kernel
theorem dX6_set_18 : decode cX6_set 18 = .ok (.iconst 3, 1) := by decide +kernel
theorem dX6_set_19 : decode cX6_set 19 = .ok (.if_icmp .ne 7, 3) := by decide +kernel
theorem dX6_set_22 : decode cX6_set 22 = .ok (.iconst 1, 1) := by decide +kernel
theorem dX6_set_23 : decode cX6_set 23 = .ok (.goto 4, 3) := by decide +kernel
theorem dX6_set_26 : decode cX6_set 26 = .ok (.iconst 0, 1) := by decide +kernel
theorem dX6_set_27 : decode cX6_set 27 = .ok (.istore_n 3, 1) := by decide +kernel
theorem dX6_set_28 : decode cX6_set 28 = .ok (.iload_n 2, 1) := by decide +kernel
theorem dX6_set_29 : decode cX6_set 29 = .ok (.iload_n 3, 1) := by decide +kernel
theorem dX6_set_30 : decode cX6_set 30 = .ok (.ifCond .eq 7, 3) := by decide +kernel
theorem dX6_set_33 : decode cX6_set 33 = .ok (.iconst 1, 1) := by decide +kernel
theorem dX6_set_34 : decode cX6_set 34 = .ok (.goto 4, 3) := by decide +kernel
theorem dX6_set_37 : decode cX6_set 37 = .ok (.iconst 0, 1) := by decide +kernel
theorem dX6_set_38 : decode cX6_set 38 = .ok (.iload_n 3, 1) := by decide +kernel
theorem dX6_set_39 : decode cX6_set 39 = .ok (.ifCond .eq 8, 3) := by decide +kernel
theorem dX6_set_42 : decode cX6_set 42 = .ok (.bipush 30, 2) := by decide +kernel
theorem dX6_set_44 : decode cX6_set 44 = .ok (.goto 5, 3) := by decide +kernel
theorem dX6_set_47 : decode cX6_set 47 = .ok (.bipush 99, 2) := by decide +kernel
theorem dX6_set_49 : decode cX6_set 49 = .ok (.invokestatic 93, 3) := by decide +kernel
theorem dX6_set_52 : decode cX6_set 52 = .ok (.ifCond .ne 6, 3) := by decide +kernel
theorem dX6_set_55 : decode cX6_set 55 = .ok (.bipush (-2), 2) := by decide +kernel
theorem dX6_set_57 : decode cX6_set 57 = .ok (.ireturn, 1) := by decide +kernel
theorem dX6_set_58 : decode cX6_set 58 = .ok (.aload_n 0, 1) := by decide +kernel
theorem dX6_set_59 : decode cX6_set 59 = .ok (.getfield 10, 3) := by decide +kernel
theorem dX6_set_62 : decode cX6_set 62 = .ok (.getfield 97, 3) := by decide +kernel
theorem dX6_set_65 : decode cX6_set 65 = .ok (.iload_n 1, 1) := by decide +kernel
theorem dX6_set_66 : decode cX6_set 66 = .ok (.iaload, 1) := by decide +kernel
theorem dX6_set_67 : decode cX6_set 67 = .ok (.istore 4, 2) := by decide +kernel
theorem dX6_set_69 : decode cX6_set 69 = .ok (.aload_n 0, 1) := by decide +kernel
theorem dX6_set_70 : decode cX6_set 70 = .ok (.getfield 10, 3) := by decide +kernel
theorem dX6_set_73 : decode cX6_set 73 = .ok (.getfield 97, 3) := by decide +kernel
theorem dX6_set_76 : decode cX6_set 76 = .ok (.iload_n 1, 1) := by decide +kernel
theorem dX6_set_77 : decode cX6_set 77 = .ok (.iload_n 2, 1) := by decide +kernel
theorem dX6_set_78 : decode cX6_set 78 = .ok (.iastore, 1) := by decide +kernel
theorem dX6_set_79 : decode cX6_set 79 = .ok (.iload_n 1, 1) := by decide +kernel
theorem dX6_set_80 : decode cX6_set 80 = .ok (.ifCond .ne 10, 3) := by decide +kernel
theorem dX6_set_83 : decode cX6_set 83 = .ok (.aload_n 0, 1) := by decide +kernel
theorem dX6_set_84 : decode cX6_set 84 = .ok (.getfield 32, 3) := by decide +kernel
theorem dX6_set_87 : decode cX6_set 87 = .ok (.invokevirtual 69, 3) := by decide +kernel
theorem dX6_set_90 : decode cX6_set 90 = .ok (.iload 4, 2) := by decide +kernel
theorem dX6_set_92 : decode cX6_set 92 = .ok (.ireturn, 1) := by decide +kernel
theorem dX6_say_0 : decode cX6_say 0 = .ok (.iload_n 1, 1) := by decide +kernel
theorem dX6_say_1 : decode cX6_say 1 = .ok (.bipush 33, 2) := by decide +kernel
theorem dX6_say_3 : decode cX6_say 3 = .ok (.bipush 126, 2) := by decide +kernel
theorem dX6_say_5 : decode cX6_say 5 = .ok (.invokestatic 93, 3) := by decide +kernel
theorem dX6_say_8 : decode cX6_say 8 = .ok (.ifCond .ne 6, 3) := by decide +kernel
theorem dX6_say_11 : decode cX6_say 11 = .ok (.bipush (-2), 2) := by decide +kernel
theorem dX6_say_13 : decode cX6_say 13 = .ok (.ireturn, 1) := by decide +kernel
theorem dX6_say_14 : decode cX6_say 14 = .ok (.aload_n 0, 1) := by decide +kernel
theorem dX6_say_15 : decode cX6_say 15 = .ok (.getfield 23, 3) := by decide +kernel
theorem dX6_say_18 : decode cX6_say 18 = .ok (.getfield 100, 3) := by decide +kernel
theorem dX6_say_21 : decode cX6_say 21 = .ok (.bipush 50, 2) := by decide +kernel
theorem dX6_say_23 : decode cX6_say 23 = .ok (.if_icmp .lt 6, 3) := by decide +kernel
theorem dX6_say_26 : decode cX6_say 26 = .ok (.bipush (-4), 2) := by decide +kernel
theorem dX6_say_28 : decode cX6_say 28 = .ok (.ireturn, 1) := by decide +kernel
theorem dX6_say_29 : decode cX6_say 29 = .ok (.aload_n 0, 1) := by decide +kernel
theorem dX6_say_30 : decode cX6_say 30 = .ok (.getfield 23, 3) := by decide +kernel
theorem dX6_say_33 : decode cX6_say 33 = .ok (.iload_n 1, 1) := by decide +kernel
theorem dX6_say_34 : decode cX6_say 34 = .ok (.invokevirtual 103, 3) := by decide +kernel
theorem dX6_say_37 : decode cX6_say 37 = .ok (.aload_n 0, 1) := by decide +kernel
theorem dX6_say_38 : decode cX6_say 38 = .ok (.getfield 23, 3) := by decide +kernel
theorem dX6_say_41 : decode cX6_say 41 = .ok (.getfield 100, 3) := by decide +kernel
theorem dX6_say_44 : decode cX6_say 44 = .ok (.ireturn, 1) := by decide +kernel
theorem dX6_wipe_0 : decode cX6_wipe 0 = .ok (.aload_n 0, 1) := by decide +kernel
theorem dX6_wipe_1 : decode cX6_wipe 1 = .ok (.getfield 23, 3) := by decide +kernel
theorem dX6_wipe_4 : decode cX6_wipe 4 = .ok (.getfield 100, 3) := by decide +kernel
theorem dX6_wipe_7 : decode cX6_wipe 7 = .ok (.istore_n 1, 1) := by decide +kernel
theorem dX6_wipe_8 : decode cX6_wipe 8 = .ok (.aload_n 0, 1) := by decide +kernel
theorem dX6_wipe_9 : decode cX6_wipe 9 = .ok (.getfield 23, 3) := by decide +kernel
theorem dX6_wipe_12 : decode cX6_wipe 12 = .ok (.iconst 0, 1) := by decide +kernel
theorem dX6_wipe_13 : decode cX6_wipe 13 = .ok (.putfield 100, 3) := by decide +kernel
theorem dX6_wipe_16 : decode cX6_wipe 16 = .ok (.iload_n 1, 1) := by decide +kernel
theorem dX6_wipe_17 : decode cX6_wipe 17 = .ok (.ireturn, 1) := by decide +kernel
theorem dX6_fault_0 : decode cX6_fault 0 = .ok (.aload_n 0, 1) := by decide +kernel
theorem dX6_fault_1 : decode cX6_fault 1 = .ok (.getfield 23, 3) := by decide +kernel
theorem dX6_fault_4 : decode cX6_fault 4 = .ok (.invokevirtual 107, 3) := by decide +kernel
theorem dX6_fault_7 : decode cX6_fault 7 = .ok (.ireturn, 1) := by decide +kernel
theorem dX6_law_0 : decode cX6_law 0 = .ok (.aload_n 0, 1) := by decide +kernel
theorem dX6_law_1 : decode cX6_law 1 = .ok (.getfield 23, 3) := by decide +kernel
theorem dX6_law_4 : decode cX6_law 4 = .ok (.invokevirtual 107, 3) := by decide +kernel
theorem dX6_law_7 : decode cX6_law 7 = .ok (.bipush (-6), 2) := by decide +kernel
theorem dX6_law_9 : decode cX6_law 9 = .ok (.if_icmp .eq 6, 3) := by decide +kernel
theorem dX6_law_12 : decode cX6_law 12 = .ok (.bipush (-5), 2) := by decide +kernel
theorem dX6_law_14 : decode cX6_law 14 = .ok (.ireturn, 1) := by decide +kernel
theorem dX6_law_15 : decode cX6_law 15 = .ok (.aload_n 0, 1) := by decide +kernel
theorem dX6_law_16 : decode cX6_law 16 = .ok (.getfield 10, 3) := by decide +kernel
theorem dX6_law_19 : decode cX6_law 19 = .ok (.aload_n 0, 1) := by decide +kernel
theorem dX6_law_20 : decode cX6_law 20 = .ok (.getfield 23, 3) := by decide +kernel
theorem dX6_law_23 : decode cX6_law 23 = .ok (.aload_n 0, 1) := by decide +kernel
theorem dX6_law_24 : decode cX6_law 24 = .ok (.getfield 10, 3) := by decide +kernel
theorem dX6_law_27 : decode cX6_law 27 = .ok (.getfield 111, 3) := by decide +kernel
theorem dX6_law_30 : decode cX6_law 30 = .ok (.invokevirtual 115, 3) := by decide +kernel
theorem dX6_law_33 : decode cX6_law 33 = .ok (.putfield 119, 3) := by decide +kernel
theorem dX6_law_36 : decode cX6_law 36 = .ok (.aload_n 0, 1) := by decide +kernel
theorem dX6_law_37 : decode cX6_law 37 = .ok (.getfield 23, 3) := by decide +kernel
theorem dX6_law_40 : decode cX6_law 40 = .ok (.iconst 0, 1) := by decide +kernel
theorem dX6_law_41 : decode cX6_law 41 = .ok (.putfield 100, 3) := by decide +kernel
theorem dX6_law_44 : decode cX6_law 44 = .ok (.aload_n 0, 1) := by decide +kernel
theorem dX6_law_45 : decode cX6_law 45 = .ok (.getfield 32, 3) := by decide +kernel
theorem dX6_law_48 : decode cX6_law 48 = .ok (.invokevirtual 69, 3) := by decide +kernel
theorem dX6_law_51 : decode cX6_law 51 = .ok (.aload_n 0, 1) := by decide +kernel
theorem dX6_law_52 : decode cX6_law 52 = .ok (.getfield 10, 3) := by decide +kernel
theorem dX6_law_55 : decode cX6_law 55 = .ok (.getfield 119, 3) := by decide +kernel
theorem dX6_law_58 : decode cX6_law 58 = .ok (.ireturn, 1) := by decide +kernel
theorem dX6_slip_0 : decode cX6_slip 0 = .ok (.iload_n 1, 1) := by decide +kernel
theorem dX6_slip_1 : decode cX6_slip 1 = .ok (.iconst 0, 1) := by decide +kernel
theorem dX6_slip_2 : decode cX6_slip 2 = .ok (.iconst 3, 1) := by decide +kernel
theorem dX6_slip_3 : decode cX6_slip 3 = .ok (.invokestatic 93, 3) := by decide +kernel
theorem dX6_slip_6 : decode cX6_slip 6 = .ok (.ifCond .eq 12, 3) := by decide +kernel
theorem dX6_slip_9 : decode cX6_slip 9 = .ok (.iload_n 2, 1) := by decide +kernel
theorem dX6_slip_10 : decode cX6_slip 10 = .ok (.iconst 0, 1) := by decide +kernel
theorem dX6_slip_11 : decode cX6_slip 11 = .ok (.iconst 3, 1) := by decide +kernel
theorem dX6_slip_12 : decode cX6_slip 12 = .ok (.invokestatic 93, 3) := by decide +kernel
theorem dX6_slip_15 : decode cX6_slip 15 = .ok (.ifCond .ne 6, 3) := by decide +kernel
theorem dX6_slip_18 : decode cX6_slip 18 = .ok (.bipush (-2), 2) := by decide +kernel
theorem dX6_slip_20 : decode cX6_slip 20 = .ok (.ireturn, 1) := by decide +kernel
theorem dX6_slip_21 : decode cX6_slip 21 = .ok (.aload_n 0, 1) := by decide +kernel
theorem dX6_slip_22 : decode cX6_slip 22 = .ok (.getfield 10, 3) := by decide +kernel
theorem dX6_slip_25 : decode cX6_slip 25 = .ok (.getfield 111, 3) := by decide +kernel
theorem dX6_slip_28 : decode cX6_slip 28 = .ok (.iload_n 1, 1) := by decide +kernel
theorem dX6_slip_29 : decode cX6_slip 29 = .ok (.aaload, 1) := by decide +kernel
theorem dX6_slip_30 : decode cX6_slip 30 = .ok (.iload_n 2, 1) := by decide +kernel
theorem dX6_slip_31 : decode cX6_slip 31 = .ok (.iaload, 1) := by decide +kernel
theorem dX6_slip_32 : decode cX6_slip 32 = .ok (.ireturn, 1) := by decide +kernel
theorem dX6_cost_0 : decode cX6_cost 0 = .ok (.iload_n 1, 1) := by decide +kernel
theorem dX6_cost_1 : decode cX6_cost 1 = .ok (.invokestatic 57, 3) := by decide +kernel
theorem dX6_cost_4 : decode cX6_cost 4 = .ok (.ifCond .eq 10, 3) := by decide +kernel
theorem dX6_cost_7 : decode cX6_cost 7 = .ok (.iload_n 2, 1) := by decide +kernel
theorem dX6_cost_8 : decode cX6_cost 8 = .ok (.invokestatic 57, 3) := by decide +kernel
theorem dX6_cost_11 : decode cX6_cost 11 = .ok (.ifCond .ne 6, 3) := by decide +kernel
theorem dX6_cost_14 : decode cX6_cost 14 = .ok (.bipush (-2), 2) := by decide +kernel
theorem dX6_cost_16 : decode cX6_cost 16 = .ok (.ireturn, 1) := by decide +kernel
theorem dX6_cost_17 : decode cX6_cost 17 = .ok (.aload_n 0, 1) := by decide +kernel
theorem dX6_cost_18 : decode cX6_cost 18 = .ok (.getfield 10, 3) := by decide +kernel
theorem dX6_cost_21 : decode cX6_cost 21 = .ok (.iload_n 1, 1) := by decide +kernel
theorem dX6_cost_22 : decode cX6_cost 22 = .ok (.iload_n 2, 1) := by decide +kernel
theorem dX6_cost_23 : decode cX6_cost 23 = .ok (.invokevirtual 122, 3) := by decide +kernel
theorem dX6_cost_26 : decode cX6_cost 26 = .ok (.ireturn, 1) := by decide +kernel
theorem dX6_least_0 : decode cX6_least 0 = .ok (.iload_n 1, 1) := by decide +kernel
theorem dX6_least_1 : decode cX6_least 1 = .ok (.iconst 0, 1) := by decide +kernel
theorem dX6_least_2 : decode cX6_least 2 = .ok (.iconst 2, 1) := by decide +kernel
theorem dX6_least_3 : decode cX6_least 3 = .ok (.invokestatic 93, 3) := by decide +kernel
theorem dX6_least_6 : decode cX6_least 6 = .ok (.ifCond .ne 6, 3) := by decide +kernel
theorem dX6_least_9 : decode cX6_least 9 = .ok (.bipush (-2), 2) := by decide +kernel
theorem dX6_least_11 : decode cX6_least 11 = .ok (.ireturn, 1) := by decide +kernel
theorem dX6_least_12 : decode cX6_least 12 = .ok (.aload_n 0, 1) := by decide +kernel
theorem dX6_least_13 : decode cX6_least 13 = .ok (.getfield 10, 3) := by decide +kernel
theorem dX6_least_16 : decode cX6_least 16 = .ok (.getfield 65, 3) := by decide +kernel
theorem dX6_least_19 : decode cX6_least 19 = .ok (.ifCond .ne 6, 3) := by decide +kernel
theorem dX6_least_22 : decode cX6_least 22 = .ok (.bipush (-3), 2) := by decide +kernel
theorem dX6_least_24 : decode cX6_least 24 = .ok (.ireturn, 1) := by decide +kernel
theorem dX6_least_25 : decode cX6_least 25 = .ok (.aload_n 0, 1) := by decide +kernel
theorem dX6_least_26 : decode cX6_least 26 = .ok (.getfield 32, 3) := by decide +kernel
theorem dX6_least_29 : decode cX6_least 29 = .ok (.invokevirtual 126, 3) := by decide +kernel
theorem dX6_least_32 : decode cX6_least 32 = .ok (.iload_n 1, 1) := by decide +kernel
theorem dX6_least_33 : decode cX6_least 33 = .ok (.lookupswitch 44 #[(0, 27), (1, 35)], 27) := by decide +kernel
theorem dX6_least_60 : decode cX6_least 60 = .ok (.aload_n 0, 1) := by decide +kernel
theorem dX6_least_61 : decode cX6_least 61 = .ok (.getfield 32, 3) := by decide +kernel
theorem dX6_least_64 : decode cX6_least 64 = .ok (.getfield 129, 3) := by decide +kernel
theorem dX6_least_67 : decode cX6_least 67 = .ok (.ireturn, 1) := by decide +kernel
theorem dX6_least_68 : decode cX6_least 68 = .ok (.aload_n 0, 1) := by decide +kernel
theorem dX6_least_69 : decode cX6_least 69 = .ok (.getfield 32, 3) := by decide +kernel
theorem dX6_least_72 : decode cX6_least 72 = .ok (.iconst 0, 1) := by decide +kernel
theorem dX6_least_73 : decode cX6_least 73 = .ok (.invokevirtual 132, 3) := by decide +kernel
theorem dX6_least_76 : decode cX6_least 76 = .ok (.ireturn, 1) := by decide +kernel
theorem dX6_least_77 : decode cX6_least 77 = .ok (.aload_n 0, 1) := by decide +kernel
theorem dX6_least_78 : decode cX6_least 78 = .ok (.getfield 32, 3) := by decide +kernel
theorem dX6_least_81 : decode cX6_least 81 = .ok (.getfield 135, 3) := by decide +kernel
theorem dX6_least_84 : decode cX6_least 84 = .ok (.ireturn, 1) := by decide +kernel
theorem dX6_kept_0 : decode cX6_kept 0 = .ok (.iload_n 2, 1) := by decide +kernel
theorem dX6_kept_1 : decode cX6_kept 1 = .ok (.iconst (-1), 1) := by decide +kernel
theorem dX6_kept_2 : decode cX6_kept 2 = .ok (.if_icmp .eq 22, 3) := by decide +kernel
theorem dX6_kept_5 : decode cX6_kept 5 = .ok (.iload_n 3, 1) := by decide +kernel
theorem dX6_kept_6 : decode cX6_kept 6 = .ok (.bipush 9, 2) := by decide +kernel
theorem dX6_kept_8 : decode cX6_kept 8 = .ok (.if_icmp .eq 16, 3) := by decide +kernel
theorem dX6_kept_11 : decode cX6_kept 11 = .ok (.aload_n 0, 1) := by decide +kernel
theorem dX6_kept_12 : decode cX6_kept 12 = .ok (.getfield 10, 3) := by decide +kernel
theorem dX6_kept_15 : decode cX6_kept 15 = .ok (.iload_n 3, 1) := by decide +kernel
theorem dX6_kept_16 : decode cX6_kept 16 = .ok (.invokevirtual 76, 3) := by decide +kernel
theorem dX6_kept_19 : decode cX6_kept 19 = .ok (.ifCond .ne 5, 3) := by decide +kernel
theorem dX6_kept_22 : decode cX6_kept 22 = .ok (.iconst (-1), 1) := by decide +kernel
theorem dX6_kept_23 : decode cX6_kept 23 = .ok (.ireturn, 1) := by decide +kernel
theorem dX6_kept_24 : decode cX6_kept 24 = .ok (.iload_n 1, 1) := by decide +kernel
theorem dX6_kept_25 : decode cX6_kept 25 = .ok (.iconst 0, 1) := by decide +kernel
theorem dX6_kept_26 : decode cX6_kept 26 = .ok (.bipush 99, 2) := by decide +kernel
theorem dX6_kept_28 : decode cX6_kept 28 = .ok (.invokestatic 93, 3) := by decide +kernel
theorem dX6_kept_31 : decode cX6_kept 31 = .ok (.ifCond .ne 6, 3) := by decide +kernel
theorem dX6_kept_34 : decode cX6_kept 34 = .ok (.bipush (-2), 2) := by decide +kernel
theorem dX6_kept_36 : decode cX6_kept 36 = .ok (.ireturn, 1) := by decide +kernel
theorem dX6_kept_37 : decode cX6_kept 37 = .ok (.aload_n 0, 1) := by decide +kernel
theorem dX6_kept_38 : decode cX6_kept 38 = .ok (.getfield 10, 3) := by decide +kernel
theorem dX6_kept_41 : decode cX6_kept 41 = .ok (.getfield 65, 3) := by decide +kernel
theorem dX6_kept_44 : decode cX6_kept 44 = .ok (.ifCond .ne 6, 3) := by decide +kernel
theorem dX6_kept_47 : decode cX6_kept 47 = .ok (.bipush (-3), 2) := by decide +kernel
theorem dX6_kept_49 : decode cX6_kept 49 = .ok (.ireturn, 1) := by decide +kernel
theorem dX6_kept_50 : decode cX6_kept 50 = .ok (.aload_n 0, 1) := by decide +kernel
theorem dX6_kept_51 : decode cX6_kept 51 = .ok (.getfield 32, 3) := by decide +kernel
theorem dX6_kept_54 : decode cX6_kept 54 = .ok (.invokevirtual 126, 3) := by decide +kernel
theorem dX6_kept_57 : decode cX6_kept 57 = .ok (.iload_n 2, 1) := by decide +kernel
theorem dX6_kept_58 : decode cX6_kept 58 = .ok (.iconst (-1), 1) := by decide +kernel
theorem dX6_kept_59 : decode cX6_kept 59 = .ok (.if_icmp .ne 12, 3) := by decide +kernel
theorem dX6_kept_62 : decode cX6_kept 62 = .ok (.aload_n 0, 1) := by decide +kernel
theorem dX6_kept_63 : decode cX6_kept 63 = .ok (.getfield 32, 3) := by decide +kernel
theorem dX6_kept_66 : decode cX6_kept 66 = .ok (.iload_n 1, 1) := by decide +kernel
theorem dX6_kept_67 : decode cX6_kept 67 = .ok (.invokevirtual 132, 3) := by decide +kernel
theorem dX6_kept_70 : decode cX6_kept 70 = .ok (.ireturn, 1) := by decide +kernel
theorem dX6_kept_71 : decode cX6_kept 71 = .ok (.aload_n 0, 1) := by decide +kernel
theorem dX6_kept_72 : decode cX6_kept 72 = .ok (.getfield 32, 3) := by decide +kernel
theorem dX6_kept_75 : decode cX6_kept 75 = .ok (.iload_n 1, 1) := by decide +kernel
theorem dX6_kept_76 : decode cX6_kept 76 = .ok (.iload_n 2, 1) := by decide +kernel
theorem dX6_kept_77 : decode cX6_kept 77 = .ok (.invokevirtual 136, 3) := by decide +kernel
theorem dX6_kept_80 : decode cX6_kept 80 = .ok (.istore 4, 2) := by decide +kernel
theorem dX6_kept_82 : decode cX6_kept 82 = .ok (.iload 4, 2) := by decide +kernel
theorem dX6_kept_84 : decode cX6_kept 84 = .ok (.bipush (-6), 2) := by decide +kernel
theorem dX6_kept_86 : decode cX6_kept 86 = .ok (.if_icmp .ne 6, 3) := by decide +kernel
theorem dX6_kept_89 : decode cX6_kept 89 = .ok (.bipush (-6), 2) := by decide +kernel
theorem dX6_kept_91 : decode cX6_kept 91 = .ok (.ireturn, 1) := by decide +kernel
theorem dX6_kept_92 : decode cX6_kept 92 = .ok (.iload_n 3, 1) := by decide +kernel
theorem dX6_kept_93 : decode cX6_kept 93 = .ok (.bipush 9, 2) := by decide +kernel
theorem dX6_kept_95 : decode cX6_kept 95 = .ok (.if_icmp .ne 16, 3) := by decide +kernel
theorem dX6_kept_98 : decode cX6_kept 98 = .ok (.aload_n 0, 1) := by decide +kernel
theorem dX6_kept_99 : decode cX6_kept 99 = .ok (.getfield 32, 3) := by decide +kernel
theorem dX6_kept_102 : decode cX6_kept 102 = .ok (.getfield 139, 3) := by decide +kernel
theorem dX6_kept_105 : decode cX6_kept 105 = .ok (.iload 4, 2) := by decide +kernel
theorem dX6_kept_107 : decode cX6_kept 107 = .ok (.iaload, 1) := by decide +kernel
theorem dX6_kept_108 : decode cX6_kept 108 = .ok (.goto 17, 3) := by decide +kernel
theorem dX6_kept_111 : decode cX6_kept 111 = .ok (.aload_n 0, 1) := by decide +kernel
theorem dX6_kept_112 : decode cX6_kept 112 = .ok (.getfield 32, 3) := by decide +kernel
theorem dX6_kept_115 : decode cX6_kept 115 = .ok (.getfield 142, 3) := by decide +kernel
theorem dX6_kept_118 : decode cX6_kept 118 = .ok (.iload 4, 2) := by decide +kernel
theorem dX6_kept_120 : decode cX6_kept 120 = .ok (.iaload, 1) := by decide +kernel
theorem dX6_kept_121 : decode cX6_kept 121 = .ok (.iload_n 3, 1) := by decide +kernel
theorem dX6_kept_122 : decode cX6_kept 122 = .ok (.invokestatic 145, 3) := by decide +kernel
theorem dX6_kept_125 : decode cX6_kept 125 = .ok (.ireturn, 1) := by decide +kernel
theorem dX6_sure_0 : decode cX6_sure 0 = .ok (.iload_n 2, 1) := by decide +kernel
theorem dX6_sure_1 : decode cX6_sure 1 = .ok (.bipush 9, 2) := by decide +kernel
theorem dX6_sure_3 : decode cX6_sure 3 = .ok (.if_icmp .eq 16, 3) := by decide +kernel
theorem dX6_sure_6 : decode cX6_sure 6 = .ok (.aload_n 0, 1) := by decide +kernel
theorem dX6_sure_7 : decode cX6_sure 7 = .ok (.getfield 10, 3) := by decide +kernel
theorem dX6_sure_10 : decode cX6_sure 10 = .ok (.iload_n 2, 1) := by decide +kernel
theorem dX6_sure_11 : decode cX6_sure 11 = .ok (.invokevirtual 76, 3) := by decide +kernel
theorem dX6_sure_14 : decode cX6_sure 14 = .ok (.ifCond .ne 5, 3) := by decide +kernel
theorem dX6_sure_17 : decode cX6_sure 17 = .ok (.iconst (-1), 1) := by decide +kernel
theorem dX6_sure_18 : decode cX6_sure 18 = .ok (.ireturn, 1) := by decide +kernel
theorem dX6_sure_19 : decode cX6_sure 19 = .ok (.iload_n 1, 1) := by decide +kernel
theorem dX6_sure_20 : decode cX6_sure 20 = .ok (.iconst 0, 1) := by decide +kernel
theorem dX6_sure_21 : decode cX6_sure 21 = .ok (.bipush 99, 2) := by decide +kernel
theorem dX6_sure_23 : decode cX6_sure 23 = .ok (.invokestatic 93, 3) := by decide +kernel
theorem dX6_sure_26 : decode cX6_sure 26 = .ok (.ifCond .ne 6, 3) := by decide +kernel
theorem dX6_sure_29 : decode cX6_sure 29 = .ok (.bipush (-2), 2) := by decide +kernel
theorem dX6_sure_31 : decode cX6_sure 31 = .ok (.ireturn, 1) := by decide +kernel
theorem dX6_sure_32 : decode cX6_sure 32 = .ok (.aload_n 0, 1) := by decide +kernel
theorem dX6_sure_33 : decode cX6_sure 33 = .ok (.getfield 10, 3) := by decide +kernel
theorem dX6_sure_36 : decode cX6_sure 36 = .ok (.getfield 65, 3) := by decide +kernel
theorem dX6_sure_39 : decode cX6_sure 39 = .ok (.ifCond .ne 6, 3) := by decide +kernel
theorem dX6_sure_42 : decode cX6_sure 42 = .ok (.bipush (-3), 2) := by decide +kernel
theorem dX6_sure_44 : decode cX6_sure 44 = .ok (.ireturn, 1) := by decide +kernel
theorem dX6_sure_45 : decode cX6_sure 45 = .ok (.aload_n 0, 1) := by decide +kernel
theorem dX6_sure_46 : decode cX6_sure 46 = .ok (.getfield 32, 3) := by decide +kernel
theorem dX6_sure_49 : decode cX6_sure 49 = .ok (.invokevirtual 126, 3) := by decide +kernel
theorem dX6_sure_52 : decode cX6_sure 52 = .ok (.aload_n 0, 1) := by decide +kernel
theorem dX6_sure_53 : decode cX6_sure 53 = .ok (.getfield 32, 3) := by decide +kernel
theorem dX6_sure_56 : decode cX6_sure 56 = .ok (.iload_n 1, 1) := by decide +kernel
theorem dX6_sure_57 : decode cX6_sure 57 = .ok (.iload_n 2, 1) := by decide +kernel
theorem dX6_sure_58 : decode cX6_sure 58 = .ok (.invokevirtual 148, 3) := by decide +kernel
theorem dX6_sure_61 : decode cX6_sure 61 = .ok (.ireturn, 1) := by decide +kernel
theorem dX6_lost_0 : decode cX6_lost 0 = .ok (.iload_n 1, 1) := by decide +kernel
theorem dX6_lost_1 : decode cX6_lost 1 = .ok (.iconst (-1), 1) := by decide +kernel
theorem dX6_lost_2 : decode cX6_lost 2 = .ok (.if_icmp .eq 16, 3) := by decide +kernel
theorem dX6_lost_5 : decode cX6_lost 5 = .ok (.aload_n 0, 1) := by decide +kernel
theorem dX6_lost_6 : decode cX6_lost 6 = .ok (.getfield 10, 3) := by decide +kernel
theorem dX6_lost_9 : decode cX6_lost 9 = .ok (.iload_n 1, 1) := by decide +kernel
theorem dX6_lost_10 : decode cX6_lost 10 = .ok (.invokevirtual 76, 3) := by decide +kernel
theorem dX6_lost_13 : decode cX6_lost 13 = .ok (.ifCond .ne 5, 3) := by decide +kernel
theorem dX6_lost_16 : decode cX6_lost 16 = .ok (.iconst (-1), 1) := by decide +kernel
theorem dX6_lost_17 : decode cX6_lost 17 = .ok (.ireturn, 1) := by decide +kernel
theorem dX6_lost_18 : decode cX6_lost 18 = .ok (.iload_n 2, 1) := by decide +kernel
theorem dX6_lost_19 : decode cX6_lost 19 = .ok (.aload_n 0, 1) := by decide +kernel
theorem dX6_lost_20 : decode cX6_lost 20 = .ok (.getfield 10, 3) := by decide +kernel
theorem dX6_lost_23 : decode cX6_lost 23 = .ok (.getfield 65, 3) := by decide +kernel
theorem dX6_lost_26 : decode cX6_lost 26 = .ok (.iushr, 1) := by decide +kernel
theorem dX6_lost_27 : decode cX6_lost 27 = .ok (.ifCond .eq 5, 3) := by decide +kernel
theorem dX6_lost_30 : decode cX6_lost 30 = .ok (.iconst (-1), 1) := by decide +kernel
theorem dX6_lost_31 : decode cX6_lost 31 = .ok (.ireturn, 1) := by decide +kernel
theorem dX6_lost_32 : decode cX6_lost 32 = .ok (.iload_n 1, 1) := by decide +kernel
theorem dX6_lost_33 : decode cX6_lost 33 = .ok (.ifCond .lt 15, 3) := by decide +kernel
theorem dX6_lost_36 : decode cX6_lost 36 = .ok (.iload_n 2, 1) := by decide +kernel
theorem dX6_lost_37 : decode cX6_lost 37 = .ok (.iload_n 1, 1) := by decide +kernel
theorem dX6_lost_38 : decode cX6_lost 38 = .ok (.invokestatic 151, 3) := by decide +kernel
theorem dX6_lost_41 : decode cX6_lost 41 = .ok (.ifCond .eq 7, 3) := by decide +kernel
theorem dX6_lost_44 : decode cX6_lost 44 = .ok (.iconst 1, 1) := by decide +kernel
theorem dX6_lost_45 : decode cX6_lost 45 = .ok (.goto 4, 3) := by decide +kernel
theorem dX6_lost_48 : decode cX6_lost 48 = .ok (.iconst 0, 1) := by decide +kernel
theorem dX6_lost_49 : decode cX6_lost 49 = .ok (.istore 4, 2) := by decide +kernel
theorem dX6_lost_51 : decode cX6_lost 51 = .ok (.iload_n 2, 1) := by decide +kernel
theorem dX6_lost_52 : decode cX6_lost 52 = .ok (.ifCond .eq 17, 3) := by decide +kernel
theorem dX6_lost_55 : decode cX6_lost 55 = .ok (.iload 4, 2) := by decide +kernel
theorem dX6_lost_57 : decode cX6_lost 57 = .ok (.ifCond .ne 12, 3) := by decide +kernel
theorem dX6_lost_60 : decode cX6_lost 60 = .ok (.iload_n 3, 1) := by decide +kernel
theorem dX6_lost_61 : decode cX6_lost 61 = .ok (.iconst 0, 1) := by decide +kernel
theorem dX6_lost_62 : decode cX6_lost 62 = .ok (.iconst 2, 1) := by decide +kernel
theorem dX6_lost_63 : decode cX6_lost 63 = .ok (.invokestatic 93, 3) := by decide +kernel
theorem dX6_lost_66 : decode cX6_lost 66 = .ok (.ifCond .ne 6, 3) := by decide +kernel
theorem dX6_lost_69 : decode cX6_lost 69 = .ok (.bipush (-2), 2) := by decide +kernel
theorem dX6_lost_71 : decode cX6_lost 71 = .ok (.ireturn, 1) := by decide +kernel
theorem dX6_lost_72 : decode cX6_lost 72 = .ok (.aload_n 0, 1) := by decide +kernel
theorem dX6_lost_73 : decode cX6_lost 73 = .ok (.getfield 10, 3) := by decide +kernel
theorem dX6_lost_76 : decode cX6_lost 76 = .ok (.iload_n 1, 1) := by decide +kernel
theorem dX6_lost_77 : decode cX6_lost 77 = .ok (.iload_n 2, 1) := by decide +kernel
theorem dX6_lost_78 : decode cX6_lost 78 = .ok (.invokevirtual 155, 3) := by decide +kernel
theorem dX6_lost_81 : decode cX6_lost 81 = .ok (.istore 5, 2) := by decide +kernel
theorem dX6_lost_83 : decode cX6_lost 83 = .ok (.iload_n 3, 1) := by decide +kernel
theorem dX6_lost_84 : decode cX6_lost 84 = .ok (.ifCond .ne 6, 3) := by decide +kernel
theorem dX6_lost_87 : decode cX6_lost 87 = .ok (.iload 5, 2) := by decide +kernel
theorem dX6_lost_89 : decode cX6_lost 89 = .ok (.ireturn, 1) := by decide +kernel
theorem dX6_lost_90 : decode cX6_lost 90 = .ok (.aload_n 0, 1) := by decide +kernel
theorem dX6_lost_91 : decode cX6_lost 91 = .ok (.getfield 10, 3) := by decide +kernel
theorem dX6_lost_94 : decode cX6_lost 94 = .ok (.iload_n 1, 1) := by decide +kernel
theorem dX6_lost_95 : decode cX6_lost 95 = .ok (.iload 5, 2) := by decide +kernel
theorem dX6_lost_97 : decode cX6_lost 97 = .ok (.iload_n 2, 1) := by decide +kernel
theorem dX6_lost_98 : decode cX6_lost 98 = .ok (.invokevirtual 158, 3) := by decide +kernel
theorem dX6_lost_101 : decode cX6_lost 101 = .ok (.istore 6, 2) := by decide +kernel
theorem dX6_lost_103 : decode cX6_lost 103 = .ok (.iload_n 3, 1) := by decide +kernel
theorem dX6_lost_104 : decode cX6_lost 104 = .ok (.iconst 1, 1) := by decide +kernel
theorem dX6_lost_105 : decode cX6_lost 105 = .ok (.if_icmp .ne 8, 3) := by decide +kernel
theorem dX6_lost_108 : decode cX6_lost 108 = .ok (.iload 6, 2) := by decide +kernel
theorem dX6_lost_110 : decode cX6_lost 110 = .ok (.goto 19, 3) := by decide +kernel
theorem dX6_lost_113 : decode cX6_lost 113 = .ok (.sipush 10000, 3) := by decide +kernel
theorem dX6_lost_116 : decode cX6_lost 116 = .ok (.aload_n 0, 1) := by decide +kernel
theorem dX6_lost_117 : decode cX6_lost 117 = .ok (.getfield 10, 3) := by decide +kernel
theorem dX6_lost_120 : decode cX6_lost 120 = .ok (.iload_n 1, 1) := by decide +kernel
theorem dX6_lost_121 : decode cX6_lost 121 = .ok (.iload_n 2, 1) := by decide +kernel
theorem dX6_lost_122 : decode cX6_lost 122 = .ok (.invokevirtual 161, 3) := by decide +kernel
theorem dX6_lost_125 : decode cX6_lost 125 = .ok (.iadd, 1) := by decide +kernel
theorem dX6_lost_126 : decode cX6_lost 126 = .ok (.iload 6, 2) := by decide +kernel
theorem dX6_lost_128 : decode cX6_lost 128 = .ok (.isub, 1) := by decide +kernel
theorem dX6_lost_129 : decode cX6_lost 129 = .ok (.ireturn, 1) := by decide +kernel
theorem dX6_width_0 : decode cX6_width 0 = .ok (.aload_n 0, 1) := by decide +kernel
theorem dX6_width_1 : decode cX6_width 1 = .ok (.getfield 10, 3) := by decide +kernel
theorem dX6_width_4 : decode cX6_width 4 = .ok (.iload_n 1, 1) := by decide +kernel
theorem dX6_width_5 : decode cX6_width 5 = .ok (.invokevirtual 76, 3) := by decide +kernel
theorem dX6_width_8 : decode cX6_width 8 = .ok (.ifCond .ne 5, 3) := by decide +kernel
theorem dX6_width_11 : decode cX6_width 11 = .ok (.iconst (-1), 1) := by decide +kernel
theorem dX6_width_12 : decode cX6_width 12 = .ok (.ireturn, 1) := by decide +kernel
theorem dX6_width_13 : decode cX6_width 13 = .ok (.iload_n 2, 1) := by decide +kernel
theorem dX6_width_14 : decode cX6_width 14 = .ok (.iconst 0, 1) := by decide +kernel
theorem dX6_width_15 : decode cX6_width 15 = .ok (.sipush 999, 3) := by decide +kernel
theorem dX6_width_18 : decode cX6_width 18 = .ok (.invokestatic 93, 3) := by decide +kernel
theorem dX6_width_21 : decode cX6_width 21 = .ok (.ifCond .ne 6, 3) := by decide +kernel
theorem dX6_width_24 : decode cX6_width 24 = .ok (.bipush (-2), 2) := by decide +kernel
theorem dX6_width_26 : decode cX6_width 26 = .ok (.ireturn, 1) := by decide +kernel
theorem dX6_width_27 : decode cX6_width 27 = .ok (.aload_n 0, 1) := by decide +kernel
theorem dX6_width_28 : decode cX6_width 28 = .ok (.getfield 10, 3) := by decide +kernel
theorem dX6_width_31 : decode cX6_width 31 = .ok (.iload_n 1, 1) := by decide +kernel
theorem dX6_width_32 : decode cX6_width 32 = .ok (.invokevirtual 89, 3) := by decide +kernel
theorem dX6_width_35 : decode cX6_width 35 = .ok (.istore_n 3, 1) := by decide +kernel
theorem dX6_width_36 : decode cX6_width 36 = .ok (.aload_n 0, 1) := by decide +kernel
theorem dX6_width_37 : decode cX6_width 37 = .ok (.getfield 10, 3) := by decide +kernel
theorem dX6_width_40 : decode cX6_width 40 = .ok (.getfield 164, 3) := by decide +kernel
theorem dX6_width_43 : decode cX6_width 43 = .ok (.iload_n 1, 1) := by decide +kernel
theorem dX6_width_44 : decode cX6_width 44 = .ok (.iload_n 2, 1) := by decide +kernel
theorem dX6_width_45 : decode cX6_width 45 = .ok (.iastore, 1) := by decide +kernel
theorem dX6_width_46 : decode cX6_width 46 = .ok (.iload_n 3, 1) := by decide +kernel
theorem dX6_width_47 : decode cX6_width 47 = .ok (.ireturn, 1) := by decide +kernel
theorem dX6_spread_0 : decode cX6_spread 0 = .ok (.iload_n 1, 1) := by decide +kernel
theorem dX6_spread_1 : decode cX6_spread 1 = .ok (.iconst 0, 1) := by decide +kernel
theorem dX6_spread_2 : decode cX6_spread 2 = .ok (.iconst 1, 1) := by decide +kernel
theorem dX6_spread_3 : decode cX6_spread 3 = .ok (.invokestatic 93, 3) := by decide +kernel
theorem dX6_spread_6 : decode cX6_spread 6 = .ok (.ifCond .eq 14, 3) := by decide +kernel
theorem dX6_spread_9 : decode cX6_spread 9 = .ok (.iload_n 2, 1) := by decide +kernel
theorem dX6_spread_10 : decode cX6_spread 10 = .ok (.iload_n 3, 1) := by decide +kernel
theorem dX6_spread_11 : decode cX6_spread 11 = .ok (.iconst 1, 1) := by decide +kernel
theorem dX6_spread_12 : decode cX6_spread 12 = .ok (.bipush 99, 2) := by decide +kernel
theorem dX6_spread_14 : decode cX6_spread 14 = .ok (.invokestatic 61, 3) := by decide +kernel
theorem dX6_spread_17 : decode cX6_spread 17 = .ok (.ifCond .ne 6, 3) := by decide +kernel
theorem dX6_spread_20 : decode cX6_spread 20 = .ok (.bipush (-2), 2) := by decide +kernel
theorem dX6_spread_22 : decode cX6_spread 22 = .ok (.ireturn, 1) := by decide +kernel
theorem dX6_spread_23 : decode cX6_spread 23 = .ok (.bipush 100, 2) := by decide +kernel
theorem dX6_spread_25 : decode cX6_spread 25 = .ok (.aload_n 0, 1) := by decide +kernel
theorem dX6_spread_26 : decode cX6_spread 26 = .ok (.getfield 10, 3) := by decide +kernel
theorem dX6_spread_29 : decode cX6_spread 29 = .ok (.getfield 167, 3) := by decide +kernel
theorem dX6_spread_32 : decode cX6_spread 32 = .ok (.iload_n 1, 1) := by decide +kernel
theorem dX6_spread_33 : decode cX6_spread 33 = .ok (.iaload, 1) := by decide +kernel
theorem dX6_spread_34 : decode cX6_spread 34 = .ok (.imul, 1) := by decide +kernel
theorem dX6_spread_35 : decode cX6_spread 35 = .ok (.aload_n 0, 1) := by decide +kernel
theorem dX6_spread_36 : decode cX6_spread 36 = .ok (.getfield 10, 3) := by decide +kernel
theorem dX6_spread_39 : decode cX6_spread 39 = .ok (.getfield 170, 3) := by decide +kernel
theorem dX6_spread_42 : decode cX6_spread 42 = .ok (.iload_n 1, 1) := by decide +kernel
theorem dX6_spread_43 : decode cX6_spread 43 = .ok (.iaload, 1) := by decide +kernel
theorem dX6_spread_44 : decode cX6_spread 44 = .ok (.iadd, 1) := by decide +kernel
theorem dX6_spread_45 : decode cX6_spread 45 = .ok (.istore 4, 2) := by decide +kernel
theorem dX6_spread_47 : decode cX6_spread 47 = .ok (.aload_n 0, 1) := by decide +kernel
theorem dX6_spread_48 : decode cX6_spread 48 = .ok (.getfield 10, 3) := by decide +kernel
theorem dX6_spread_51 : decode cX6_spread 51 = .ok (.getfield 167, 3) := by decide +kernel
theorem dX6_spread_54 : decode cX6_spread 54 = .ok (.iload_n 1, 1) := by decide +kernel
theorem dX6_spread_55 : decode cX6_spread 55 = .ok (.iload_n 2, 1) := by decide +kernel
theorem dX6_spread_56 : decode cX6_spread 56 = .ok (.iastore, 1) := by decide +kernel
theorem dX6_spread_57 : decode cX6_spread 57 = .ok (.aload_n 0, 1) := by decide +kernel
theorem dX6_spread_58 : decode cX6_spread 58 = .ok (.getfield 10, 3) := by decide +kernel
theorem dX6_spread_61 : decode cX6_spread 61 = .ok (.getfield 170, 3) := by decide +kernel
theorem dX6_spread_64 : decode cX6_spread 64 = .ok (.iload_n 1, 1) := by decide +kernel
theorem dX6_spread_65 : decode cX6_spread 65 = .ok (.iload_n 3, 1) := by decide +kernel
theorem dX6_spread_66 : decode cX6_spread 66 = .ok (.iastore, 1) := by decide +kernel
theorem dX6_spread_67 : decode cX6_spread 67 = .ok (.iload 4, 2) := by decide +kernel
theorem dX6_spread_69 : decode cX6_spread 69 = .ok (.ireturn, 1) := by decide +kernel
theorem dX6_aged_0 : decode cX6_aged 0 = .ok (.aload_n 0, 1) := by decide +kernel
theorem dX6_aged_1 : decode cX6_aged 1 = .ok (.getfield 10, 3) := by decide +kernel
theorem dX6_aged_4 : decode cX6_aged 4 = .ok (.iload_n 1, 1) := by decide +kernel
theorem dX6_aged_5 : decode cX6_aged 5 = .ok (.invokevirtual 76, 3) := by decide +kernel
theorem dX6_aged_8 : decode cX6_aged 8 = .ok (.ifCond .ne 5, 3) := by decide +kernel
theorem dX6_aged_11 : decode cX6_aged 11 = .ok (.iconst (-1), 1) := by decide +kernel
theorem dX6_aged_12 : decode cX6_aged 12 = .ok (.ireturn, 1) := by decide +kernel
theorem dX6_aged_13 : decode cX6_aged 13 = .ok (.iload_n 2, 1) := by decide +kernel
theorem dX6_aged_14 : decode cX6_aged 14 = .ok (.iconst 0, 1) := by decide +kernel
theorem dX6_aged_15 : decode cX6_aged 15 = .ok (.iconst 2, 1) := by decide +kernel
theorem dX6_aged_16 : decode cX6_aged 16 = .ok (.invokestatic 93, 3) := by decide +kernel
theorem dX6_aged_19 : decode cX6_aged 19 = .ok (.ifCond .ne 6, 3) := by decide +kernel
theorem dX6_aged_22 : decode cX6_aged 22 = .ok (.bipush (-2), 2) := by decide +kernel
theorem dX6_aged_24 : decode cX6_aged 24 = .ok (.ireturn, 1) := by decide +kernel
theorem dX6_aged_25 : decode cX6_aged 25 = .ok (.aload_n 0, 1) := by decide +kernel
theorem dX6_aged_26 : decode cX6_aged 26 = .ok (.getfield 10, 3) := by decide +kernel
theorem dX6_aged_29 : decode cX6_aged 29 = .ok (.getfield 164, 3) := by decide +kernel
theorem dX6_aged_32 : decode cX6_aged 32 = .ok (.iload_n 1, 1) := by decide +kernel
theorem dX6_aged_33 : decode cX6_aged 33 = .ok (.iaload, 1) := by decide +kernel
theorem dX6_aged_34 : decode cX6_aged 34 = .ok (.ifCond .ne 6, 3) := by decide +kernel
theorem dX6_aged_37 : decode cX6_aged 37 = .ok (.bipush (-3), 2) := by decide +kernel
theorem dX6_aged_39 : decode cX6_aged 39 = .ok (.ireturn, 1) := by decide +kernel
theorem dX6_aged_40 : decode cX6_aged 40 = .ok (.aload_n 0, 1) := by decide +kernel
theorem dX6_aged_41 : decode cX6_aged 41 = .ok (.getfield 39, 3) := by decide +kernel
theorem dX6_aged_44 : decode cX6_aged 44 = .ok (.aload_n 0, 1) := by decide +kernel
theorem dX6_aged_45 : decode cX6_aged 45 = .ok (.getfield 10, 3) := by decide +kernel
theorem dX6_aged_48 : decode cX6_aged 48 = .ok (.getfield 164, 3) := by decide +kernel
theorem dX6_aged_51 : decode cX6_aged 51 = .ok (.iload_n 1, 1) := by decide +kernel
theorem dX6_aged_52 : decode cX6_aged 52 = .ok (.iaload, 1) := by decide +kernel
theorem dX6_aged_53 : decode cX6_aged 53 = .ok (.invokevirtual 173, 3) := by decide +kernel
theorem dX6_aged_56 : decode cX6_aged 56 = .ok (.aload_n 0, 1) := by decide +kernel
theorem dX6_aged_57 : decode cX6_aged 57 = .ok (.getfield 39, 3) := by decide +kernel
theorem dX6_aged_60 : decode cX6_aged 60 = .ok (.getfield 176, 3) := by decide +kernel
theorem dX6_aged_63 : decode cX6_aged 63 = .ok (.ifCond .ne 6, 3) := by decide +kernel
theorem dX6_aged_66 : decode cX6_aged 66 = .ok (.bipush (-5), 2) := by decide +kernel
theorem dX6_aged_68 : decode cX6_aged 68 = .ok (.ireturn, 1) := by decide +kernel
theorem dX6_aged_69 : decode cX6_aged 69 = .ok (.iload_n 2, 1) := by decide +kernel
theorem dX6_aged_70 : decode cX6_aged 70 = .ok (.lookupswitch 42 #[(0, 26), (1, 34)], 26) := by decide +kernel
theorem dX6_aged_96 : decode cX6_aged 96 = .ok (.aload_n 0, 1) := by decide +kernel
theorem dX6_aged_97 : decode cX6_aged 97 = .ok (.getfield 39, 3) := by decide +kernel
theorem dX6_aged_100 : decode cX6_aged 100 = .ok (.getfield 177, 3) := by decide +kernel
theorem dX6_aged_103 : decode cX6_aged 103 = .ok (.ireturn, 1) := by decide +kernel
theorem dX6_aged_104 : decode cX6_aged 104 = .ok (.aload_n 0, 1) := by decide +kernel
theorem dX6_aged_105 : decode cX6_aged 105 = .ok (.getfield 39, 3) := by decide +kernel
theorem dX6_aged_108 : decode cX6_aged 108 = .ok (.getfield 180, 3) := by decide +kernel
theorem dX6_aged_111 : decode cX6_aged 111 = .ok (.ireturn, 1) := by decide +kernel
theorem dX6_aged_112 : decode cX6_aged 112 = .ok (.aload_n 0, 1) := by decide +kernel
theorem dX6_aged_113 : decode cX6_aged 113 = .ok (.getfield 39, 3) := by decide +kernel
theorem dX6_aged_116 : decode cX6_aged 116 = .ok (.getfield 176, 3) := by decide +kernel
theorem dX6_aged_119 : decode cX6_aged 119 = .ok (.ireturn, 1) := by decide +kernel
theorem dX6_take_0 : decode cX6_take 0 = .ok (.aload_n 0, 1) := by decide +kernel
theorem dX6_take_1 : decode cX6_take 1 = .ok (.getfield 10, 3) := by decide +kernel
theorem dX6_take_4 : decode cX6_take 4 = .ok (.iload_n 1, 1) := by decide +kernel
theorem dX6_take_5 : decode cX6_take 5 = .ok (.invokevirtual 76, 3) := by decide +kernel
theorem dX6_take_8 : decode cX6_take 8 = .ok (.ifCond .ne 5, 3) := by decide +kernel
theorem dX6_take_11 : decode cX6_take 11 = .ok (.iconst (-1), 1) := by decide +kernel
theorem dX6_take_12 : decode cX6_take 12 = .ok (.ireturn, 1) := by decide +kernel
theorem dX6_take_13 : decode cX6_take 13 = .ok (.aload_n 0, 1) := by decide +kernel
theorem dX6_take_14 : decode cX6_take 14 = .ok (.getfield 10, 3) := by decide +kernel
theorem dX6_take_17 : decode cX6_take 17 = .ok (.getfield 164, 3) := by decide +kernel
theorem dX6_take_20 : decode cX6_take 20 = .ok (.iload_n 1, 1) := by decide +kernel
theorem dX6_take_21 : decode cX6_take 21 = .ok (.iaload, 1) := by decide +kernel
theorem dX6_take_22 : decode cX6_take 22 = .ok (.ifCond .ne 6, 3) := by decide +kernel
theorem dX6_take_25 : decode cX6_take 25 = .ok (.bipush (-3), 2) := by decide +kernel
theorem dX6_take_27 : decode cX6_take 27 = .ok (.ireturn, 1) := by decide +kernel
theorem dX6_take_28 : decode cX6_take 28 = .ok (.aload_n 0, 1) := by decide +kernel
theorem dX6_take_29 : decode cX6_take 29 = .ok (.getfield 39, 3) := by decide +kernel
theorem dX6_take_32 : decode cX6_take 32 = .ok (.aload_n 0, 1) := by decide +kernel
theorem dX6_take_33 : decode cX6_take 33 = .ok (.getfield 10, 3) := by decide +kernel
theorem dX6_take_36 : decode cX6_take 36 = .ok (.getfield 164, 3) := by decide +kernel
theorem dX6_take_39 : decode cX6_take 39 = .ok (.iload_n 1, 1) := by decide +kernel
theorem dX6_take_40 : decode cX6_take 40 = .ok (.iaload, 1) := by decide +kernel
theorem dX6_take_41 : decode cX6_take 41 = .ok (.invokevirtual 173, 3) := by decide +kernel
theorem dX6_take_44 : decode cX6_take 44 = .ok (.aload_n 0, 1) := by decide +kernel
theorem dX6_take_45 : decode cX6_take 45 = .ok (.getfield 10, 3) := by decide +kernel
theorem dX6_take_48 : decode cX6_take 48 = .ok (.getfield 83, 3) := by decide +kernel
theorem dX6_take_51 : decode cX6_take 51 = .ok (.iload_n 1, 1) := by decide +kernel
theorem dX6_take_52 : decode cX6_take 52 = .ok (.iaload, 1) := by decide +kernel
theorem dX6_take_53 : decode cX6_take 53 = .ok (.aload_n 0, 1) := by decide +kernel
theorem dX6_take_54 : decode cX6_take 54 = .ok (.getfield 39, 3) := by decide +kernel
theorem dX6_take_57 : decode cX6_take 57 = .ok (.getfield 177, 3) := by decide +kernel
theorem dX6_take_60 : decode cX6_take 60 = .ok (.invokestatic 183, 3) := by decide +kernel
theorem dX6_take_63 : decode cX6_take 63 = .ok (.istore_n 2, 1) := by decide +kernel
theorem dX6_take_64 : decode cX6_take 64 = .ok (.aload_n 0, 1) := by decide +kernel
theorem dX6_take_65 : decode cX6_take 65 = .ok (.getfield 10, 3) := by decide +kernel
theorem dX6_take_68 : decode cX6_take 68 = .ok (.getfield 86, 3) := by decide +kernel
theorem dX6_take_71 : decode cX6_take 71 = .ok (.iload_n 1, 1) := by decide +kernel
theorem dX6_take_72 : decode cX6_take 72 = .ok (.iaload, 1) := by decide +kernel
theorem dX6_take_73 : decode cX6_take 73 = .ok (.aload_n 0, 1) := by decide +kernel
theorem dX6_take_74 : decode cX6_take 74 = .ok (.getfield 39, 3) := by decide +kernel
theorem dX6_take_77 : decode cX6_take 77 = .ok (.getfield 180, 3) := by decide +kernel
theorem dX6_take_80 : decode cX6_take 80 = .ok (.invokestatic 188, 3) := by decide +kernel
theorem dX6_take_83 : decode cX6_take 83 = .ok (.istore_n 3, 1) := by decide +kernel
theorem dX6_take_84 : decode cX6_take 84 = .ok (.aload_n 0, 1) := by decide +kernel
theorem dX6_take_85 : decode cX6_take 85 = .ok (.getfield 39, 3) := by decide +kernel
theorem dX6_take_88 : decode cX6_take 88 = .ok (.getfield 176, 3) := by decide +kernel
theorem dX6_take_91 : decode cX6_take 91 = .ok (.ifCond .eq 8, 3) := by decide +kernel
theorem dX6_take_94 : decode cX6_take 94 = .ok (.iload_n 2, 1) := by decide +kernel
theorem dX6_take_95 : decode cX6_take 95 = .ok (.iload_n 3, 1) := by decide +kernel
theorem dX6_take_96 : decode cX6_take 96 = .ok (.if_icmp .le 6, 3) := by decide +kernel
theorem dX6_take_99 : decode cX6_take 99 = .ok (.bipush (-5), 2) := by decide +kernel
theorem dX6_take_101 : decode cX6_take 101 = .ok (.ireturn, 1) := by decide +kernel
theorem dX6_take_102 : decode cX6_take 102 = .ok (.aload_n 0, 1) := by decide +kernel
theorem dX6_take_103 : decode cX6_take 103 = .ok (.getfield 10, 3) := by decide +kernel
theorem dX6_take_106 : decode cX6_take 106 = .ok (.getfield 83, 3) := by decide +kernel
theorem dX6_take_109 : decode cX6_take 109 = .ok (.iload_n 1, 1) := by decide +kernel
theorem dX6_take_110 : decode cX6_take 110 = .ok (.iload_n 2, 1) := by decide +kernel
theorem dX6_take_111 : decode cX6_take 111 = .ok (.iastore, 1) := by decide +kernel
theorem dX6_take_112 : decode cX6_take 112 = .ok (.aload_n 0, 1) := by decide +kernel
theorem dX6_take_113 : decode cX6_take 113 = .ok (.getfield 10, 3) := by decide +kernel
theorem dX6_take_116 : decode cX6_take 116 = .ok (.getfield 86, 3) := by decide +kernel
theorem dX6_take_119 : decode cX6_take 119 = .ok (.iload_n 1, 1) := by decide +kernel
theorem dX6_take_120 : decode cX6_take 120 = .ok (.iload_n 3, 1) := by decide +kernel
theorem dX6_take_121 : decode cX6_take 121 = .ok (.iastore, 1) := by decide +kernel
theorem dX6_take_122 : decode cX6_take 122 = .ok (.aload_n 0, 1) := by decide +kernel
theorem dX6_take_123 : decode cX6_take 123 = .ok (.getfield 32, 3) := by decide +kernel
theorem dX6_take_126 : decode cX6_take 126 = .ok (.invokevirtual 69, 3) := by decide +kernel
theorem dX6_take_129 : decode cX6_take 129 = .ok (.iload_n 3, 1) := by decide +kernel
theorem dX6_take_130 : decode cX6_take 130 = .ok (.iload_n 2, 1) := by decide +kernel
theorem dX6_take_131 : decode cX6_take 131 = .ok (.isub, 1) := by decide +kernel
theorem dX6_take_132 : decode cX6_take 132 = .ok (.iconst 1, 1) := by decide +kernel
theorem dX6_take_133 : decode cX6_take 133 = .ok (.iadd, 1) := by decide +kernel
theorem dX6_take_134 : decode cX6_take 134 = .ok (.ireturn, 1) := by decide +kernel
theorem dX6_hide_0 : decode cX6_hide 0 = .ok (.iload_n 1, 1) := by decide +kernel
theorem dX6_hide_1 : decode cX6_hide 1 = .ok (.iconst 0, 1) := by decide +kernel
theorem dX6_hide_2 : decode cX6_hide 2 = .ok (.bipush 7, 2) := by decide +kernel
theorem dX6_hide_4 : decode cX6_hide 4 = .ok (.invokestatic 93, 3) := by decide +kernel
theorem dX6_hide_7 : decode cX6_hide 7 = .ok (.ifCond .ne 5, 3) := by decide +kernel
theorem dX6_hide_10 : decode cX6_hide 10 = .ok (.iconst (-1), 1) := by decide +kernel
theorem dX6_hide_11 : decode cX6_hide 11 = .ok (.ireturn, 1) := by decide +kernel
theorem dX6_hide_12 : decode cX6_hide 12 = .ok (.iload_n 3, 1) := by decide +kernel
theorem dX6_hide_13 : decode cX6_hide 13 = .ok (.iconst 0, 1) := by decide +kernel
theorem dX6_hide_14 : decode cX6_hide 14 = .ok (.sipush 255, 3) := by decide +kernel
theorem dX6_hide_17 : decode cX6_hide 17 = .ok (.invokestatic 93, 3) := by decide +kernel
theorem dX6_hide_20 : decode cX6_hide 20 = .ok (.ifCond .ne 6, 3) := by decide +kernel
theorem dX6_hide_23 : decode cX6_hide 23 = .ok (.bipush (-2), 2) := by decide +kernel
theorem dX6_hide_25 : decode cX6_hide 25 = .ok (.ireturn, 1) := by decide +kernel
theorem dX6_hide_26 : decode cX6_hide 26 = .ok (.iload_n 2, 1) := by decide +kernel
theorem dX6_hide_27 : decode cX6_hide 27 = .ok (.ifCond .eq 13, 3) := by decide +kernel
theorem dX6_hide_30 : decode cX6_hide 30 = .ok (.aload_n 0, 1) := by decide +kernel
theorem dX6_hide_31 : decode cX6_hide 31 = .ok (.getfield 10, 3) := by decide +kernel
theorem dX6_hide_34 : decode cX6_hide 34 = .ok (.getfield 191, 3) := by decide +kernel
theorem dX6_hide_37 : decode cX6_hide 37 = .ok (.goto 10, 3) := by decide +kernel
theorem dX6_hide_40 : decode cX6_hide 40 = .ok (.aload_n 0, 1) := by decide +kernel
theorem dX6_hide_41 : decode cX6_hide 41 = .ok (.getfield 10, 3) := by decide +kernel
theorem dX6_hide_44 : decode cX6_hide 44 = .ok (.getfield 194, 3) := by decide +kernel
theorem dX6_hide_47 : decode cX6_hide 47 = .ok (.astore 4, 2) := by decide +kernel
theorem dX6_hide_49 : decode cX6_hide 49 = .ok (.aload 4, 2) := by decide +kernel
theorem dX6_hide_51 : decode cX6_hide 51 = .ok (.iload_n 1, 1) := by decide +kernel
theorem dX6_hide_52 : decode cX6_hide 52 = .ok (.iaload, 1) := by decide +kernel
theorem dX6_hide_53 : decode cX6_hide 53 = .ok (.istore 5, 2) := by decide +kernel
theorem dX6_hide_55 : decode cX6_hide 55 = .ok (.aload 4, 2) := by decide +kernel
theorem dX6_hide_57 : decode cX6_hide 57 = .ok (.iload_n 1, 1) := by decide +kernel
theorem dX6_hide_58 : decode cX6_hide 58 = .ok (.iload_n 3, 1) := by decide +kernel
theorem dX6_hide_59 : decode cX6_hide 59 = .ok (.iastore, 1) := by decide +kernel
theorem dX6_hide_60 : decode cX6_hide 60 = .ok (.iload 5, 2) := by decide +kernel
theorem dX6_hide_62 : decode cX6_hide 62 = .ok (.ireturn, 1) := by decide +kernel
theorem dX6_hides_0 : decode cX6_hides 0 = .ok (.iload_n 1, 1) := by decide +kernel
theorem dX6_hides_1 : decode cX6_hides 1 = .ok (.invokestatic 57, 3) := by decide +kernel
theorem dX6_hides_4 : decode cX6_hides 4 = .ok (.ifCond .eq 12, 3) := by decide +kernel
theorem dX6_hides_7 : decode cX6_hides 7 = .ok (.iload_n 2, 1) := by decide +kernel
theorem dX6_hides_8 : decode cX6_hides 8 = .ok (.iconst 0, 1) := by decide +kernel
theorem dX6_hides_9 : decode cX6_hides 9 = .ok (.iconst 1, 1) := by decide +kernel
theorem dX6_hides_10 : decode cX6_hides 10 = .ok (.invokestatic 93, 3) := by decide +kernel
theorem dX6_hides_13 : decode cX6_hides 13 = .ok (.ifCond .ne 6, 3) := by decide +kernel
theorem dX6_hides_16 : decode cX6_hides 16 = .ok (.bipush (-2), 2) := by decide +kernel
theorem dX6_hides_18 : decode cX6_hides 18 = .ok (.ireturn, 1) := by decide +kernel
theorem dX6_hides_19 : decode cX6_hides 19 = .ok (.iload_n 2, 1) := by decide +kernel
theorem dX6_hides_20 : decode cX6_hides 20 = .ok (.ifCond .ne 14, 3) := by decide +kernel
theorem dX6_hides_23 : decode cX6_hides 23 = .ok (.aload_n 0, 1) := by decide +kernel
theorem dX6_hides_24 : decode cX6_hides 24 = .ok (.getfield 10, 3) := by decide +kernel
theorem dX6_hides_27 : decode cX6_hides 27 = .ok (.iload_n 1, 1) := by decide +kernel
theorem dX6_hides_28 : decode cX6_hides 28 = .ok (.invokevirtual 197, 3) := by decide +kernel
theorem dX6_hides_31 : decode cX6_hides 31 = .ok (.goto 7, 3) := by decide +kernel
theorem dX6_hides_34 : decode cX6_hides 34 = .ok (.iload_n 1, 1) := by decide +kernel
theorem dX6_hides_35 : decode cX6_hides 35 = .ok (.invokestatic 200, 3) := by decide +kernel
theorem dX6_hides_38 : decode cX6_hides 38 = .ok (.ireturn, 1) := by decide +kernel
theorem dX6_cover_0 : decode cX6_cover 0 = .ok (.iload_n 1, 1) := by decide +kernel
theorem dX6_cover_1 : decode cX6_cover 1 = .ok (.invokestatic 57, 3) := by decide +kernel
theorem dX6_cover_4 : decode cX6_cover 4 = .ok (.ifCond .ne 6, 3) := by decide +kernel
theorem dX6_cover_7 : decode cX6_cover 7 = .ok (.bipush (-2), 2) := by decide +kernel
theorem dX6_cover_9 : decode cX6_cover 9 = .ok (.ireturn, 1) := by decide +kernel
theorem dX6_cover_10 : decode cX6_cover 10 = .ok (.aload_n 0, 1) := by decide +kernel
theorem dX6_cover_11 : decode cX6_cover 11 = .ok (.getfield 46, 3) := by decide +kernel
theorem dX6_cover_14 : decode cX6_cover 14 = .ok (.iload_n 1, 1) := by decide +kernel
theorem dX6_cover_15 : decode cX6_cover 15 = .ok (.invokestatic 203, 3) := by decide +kernel
theorem dX6_cover_18 : decode cX6_cover 18 = .ok (.invokevirtual 206, 3) := by decide +kernel
theorem dX6_cover_21 : decode cX6_cover 21 = .ok (.ireturn, 1) := by decide +kernel
theorem dX6_under_0 : decode cX6_under 0 = .ok (.iload_n 1, 1) := by decide +kernel
theorem dX6_under_1 : decode cX6_under 1 = .ok (.invokestatic 57, 3) := by decide +kernel
theorem dX6_under_4 : decode cX6_under 4 = .ok (.ifCond .ne 6, 3) := by decide +kernel
theorem dX6_under_7 : decode cX6_under 7 = .ok (.bipush (-2), 2) := by decide +kernel
theorem dX6_under_9 : decode cX6_under 9 = .ok (.ireturn, 1) := by decide +kernel
theorem dX6_under_10 : decode cX6_under 10 = .ok (.aload_n 0, 1) := by decide +kernel
theorem dX6_under_11 : decode cX6_under 11 = .ok (.getfield 10, 3) := by decide +kernel
theorem dX6_under_14 : decode cX6_under 14 = .ok (.iload_n 1, 1) := by decide +kernel
theorem dX6_under_15 : decode cX6_under 15 = .ok (.invokevirtual 197, 3) := by decide +kernel
theorem dX6_under_18 : decode cX6_under 18 = .ok (.istore_n 2, 1) := by decide +kernel
theorem dX6_under_19 : decode cX6_under 19 = .ok (.iconst 0, 1) := by decide +kernel
theorem dX6_under_20 : decode cX6_under 20 = .ok (.istore_n 3, 1) := by decide +kernel
theorem dX6_under_21 : decode cX6_under 21 = .ok (.iconst 0, 1) := by decide +kernel
theorem dX6_under_22 : decode cX6_under 22 = .ok (.istore 4, 2) := by decide +kernel
theorem dX6_under_24 : decode cX6_under 24 = .ok (.iload 4, 2) := by decide +kernel
theorem dX6_under_26 : decode cX6_under 26 = .ok (.aload_n 0, 1) := by decide +kernel
theorem dX6_under_27 : decode cX6_under 27 = .ok (.getfield 10, 3) := by decide +kernel
theorem dX6_under_30 : decode cX6_under 30 = .ok (.getfield 65, 3) := by decide +kernel
theorem dX6_under_33 : decode cX6_under 33 = .ok (.if_icmp .ge 34, 3) := by decide +kernel
theorem dX6_under_36 : decode cX6_under 36 = .ok (.aload_n 0, 1) := by decide +kernel
theorem dX6_under_37 : decode cX6_under 37 = .ok (.getfield 10, 3) := by decide +kernel
theorem dX6_under_40 : decode cX6_under 40 = .ok (.getfield 79, 3) := by decide +kernel
theorem dX6_under_43 : decode cX6_under 43 = .ok (.iload 4, 2) := by decide +kernel
theorem dX6_under_45 : decode cX6_under 45 = .ok (.iaload, 1) := by decide +kernel
theorem dX6_under_46 : decode cX6_under 46 = .ok (.iload_n 1, 1) := by decide +kernel
theorem dX6_under_47 : decode cX6_under 47 = .ok (.iload_n 2, 1) := by decide +kernel
theorem dX6_under_48 : decode cX6_under 48 = .ok (.invokestatic 209, 3) := by decide +kernel
theorem dX6_under_51 : decode cX6_under 51 = .ok (.ifCond .eq 10, 3) := by decide +kernel
theorem dX6_under_54 : decode cX6_under 54 = .ok (.iload_n 3, 1) := by decide +kernel
theorem dX6_under_55 : decode cX6_under 55 = .ok (.iconst 1, 1) := by decide +kernel
theorem dX6_under_56 : decode cX6_under 56 = .ok (.iload 4, 2) := by decide +kernel
theorem dX6_under_58 : decode cX6_under 58 = .ok (.ishl, 1) := by decide +kernel
theorem dX6_under_59 : decode cX6_under 59 = .ok (.ior, 1) := by decide +kernel
theorem dX6_under_60 : decode cX6_under 60 = .ok (.istore_n 3, 1) := by decide +kernel
theorem dX6_under_61 : decode cX6_under 61 = .ok (.iinc 4 1, 3) := by decide +kernel
theorem dX6_under_64 : decode cX6_under 64 = .ok (.goto (-40), 3) := by decide +kernel
theorem dX6_under_67 : decode cX6_under 67 = .ok (.iload_n 3, 1) := by decide +kernel
theorem dX6_under_68 : decode cX6_under 68 = .ok (.ireturn, 1) := by decide +kernel
theorem dX6_man_0 : decode cX6_man 0 = .ok (.aload_n 0, 1) := by decide +kernel
theorem dX6_man_1 : decode cX6_man 1 = .ok (.getfield 53, 3) := by decide +kernel
theorem dX6_man_4 : decode cX6_man 4 = .ok (.getfield 212, 3) := by decide +kernel
theorem dX6_man_7 : decode cX6_man 7 = .ok (.bipush 8, 2) := by decide +kernel
theorem dX6_man_9 : decode cX6_man 9 = .ok (.if_icmp .lt 6, 3) := by decide +kernel
theorem dX6_man_12 : decode cX6_man 12 = .ok (.bipush (-4), 2) := by decide +kernel
theorem dX6_man_14 : decode cX6_man 14 = .ok (.ireturn, 1) := by decide +kernel
theorem dX6_man_15 : decode cX6_man 15 = .ok (.aload_n 0, 1) := by decide +kernel
theorem dX6_man_16 : decode cX6_man 16 = .ok (.getfield 53, 3) := by decide +kernel
theorem dX6_man_19 : decode cX6_man 19 = .ok (.dup, 1) := by decide +kernel
theorem dX6_man_20 : decode cX6_man 20 = .ok (.getfield 212, 3) := by decide +kernel
theorem dX6_man_23 : decode cX6_man 23 = .ok (.iconst 1, 1) := by decide +kernel
theorem dX6_man_24 : decode cX6_man 24 = .ok (.iadd, 1) := by decide +kernel
theorem dX6_man_25 : decode cX6_man 25 = .ok (.putfield 212, 3) := by decide +kernel
theorem dX6_man_28 : decode cX6_man 28 = .ok (.aload_n 0, 1) := by decide +kernel
theorem dX6_man_29 : decode cX6_man 29 = .ok (.getfield 53, 3) := by decide +kernel
theorem dX6_man_32 : decode cX6_man 32 = .ok (.getfield 212, 3) := by decide +kernel
theorem dX6_man_35 : decode cX6_man 35 = .ok (.iconst 1, 1) := by decide +kernel
theorem dX6_man_36 : decode cX6_man 36 = .ok (.isub, 1) := by decide +kernel
theorem dX6_man_37 : decode cX6_man 37 = .ok (.ireturn, 1) := by decide +kernel
theorem dX6_meet_0 : decode cX6_meet 0 = .ok (.aload_n 0, 1) := by decide +kernel
theorem dX6_meet_1 : decode cX6_meet 1 = .ok (.getfield 53, 3) := by decide +kernel
theorem dX6_meet_4 : decode cX6_meet 4 = .ok (.iload_n 1, 1) := by decide +kernel
theorem dX6_meet_5 : decode cX6_meet 5 = .ok (.invokevirtual 215, 3) := by decide +kernel
theorem dX6_meet_8 : decode cX6_meet 8 = .ok (.ifCond .ne 5, 3) := by decide +kernel
theorem dX6_meet_11 : decode cX6_meet 11 = .ok (.iconst (-1), 1) := by decide +kernel
theorem dX6_meet_12 : decode cX6_meet 12 = .ok (.ireturn, 1) := by decide +kernel
theorem dX6_meet_13 : decode cX6_meet 13 = .ok (.iload_n 2, 1) := by decide +kernel
theorem dX6_meet_14 : decode cX6_meet 14 = .ok (.aload_n 0, 1) := by decide +kernel
theorem dX6_meet_15 : decode cX6_meet 15 = .ok (.getfield 53, 3) := by decide +kernel
theorem dX6_meet_18 : decode cX6_meet 18 = .ok (.invokevirtual 218, 3) := by decide +kernel
theorem dX6_meet_21 : decode cX6_meet 21 = .ok (.bipush 99, 2) := by decide +kernel
theorem dX6_meet_23 : decode cX6_meet 23 = .ok (.invokestatic 93, 3) := by decide +kernel
theorem dX6_meet_26 : decode cX6_meet 26 = .ok (.ifCond .ne 6, 3) := by decide +kernel
theorem dX6_meet_29 : decode cX6_meet 29 = .ok (.bipush (-2), 2) := by decide +kernel
theorem dX6_meet_31 : decode cX6_meet 31 = .ok (.ireturn, 1) := by decide +kernel
theorem dX6_meet_32 : decode cX6_meet 32 = .ok (.aload_n 0, 1) := by decide +kernel
theorem dX6_meet_33 : decode cX6_meet 33 = .ok (.getfield 53, 3) := by decide +kernel
theorem dX6_meet_36 : decode cX6_meet 36 = .ok (.getfield 221, 3) := by decide +kernel
theorem dX6_meet_39 : decode cX6_meet 39 = .ok (.bipush 16, 2) := by decide +kernel
theorem dX6_meet_41 : decode cX6_meet 41 = .ok (.if_icmp .lt 6, 3) := by decide +kernel
theorem dX6_meet_44 : decode cX6_meet 44 = .ok (.bipush (-4), 2) := by decide +kernel
theorem dX6_meet_46 : decode cX6_meet 46 = .ok (.ireturn, 1) := by decide +kernel
theorem dX6_meet_47 : decode cX6_meet 47 = .ok (.aload_n 0, 1) := by decide +kernel
theorem dX6_meet_48 : decode cX6_meet 48 = .ok (.getfield 53, 3) := by decide +kernel
theorem dX6_meet_51 : decode cX6_meet 51 = .ok (.iload_n 1, 1) := by decide +kernel
theorem dX6_meet_52 : decode cX6_meet 52 = .ok (.iload_n 2, 1) := by decide +kernel
theorem dX6_meet_53 : decode cX6_meet 53 = .ok (.invokevirtual 224, 3) := by decide +kernel
theorem dX6_meet_56 : decode cX6_meet 56 = .ok (.ireturn, 1) := by decide +kernel
theorem dX6_sick_0 : decode cX6_sick 0 = .ok (.aload_n 0, 1) := by decide +kernel
theorem dX6_sick_1 : decode cX6_sick 1 = .ok (.getfield 53, 3) := by decide +kernel
theorem dX6_sick_4 : decode cX6_sick 4 = .ok (.iload_n 1, 1) := by decide +kernel
theorem dX6_sick_5 : decode cX6_sick 5 = .ok (.invokevirtual 215, 3) := by decide +kernel
theorem dX6_sick_8 : decode cX6_sick 8 = .ok (.ifCond .ne 5, 3) := by decide +kernel
theorem dX6_sick_11 : decode cX6_sick 11 = .ok (.iconst (-1), 1) := by decide +kernel
theorem dX6_sick_12 : decode cX6_sick 12 = .ok (.ireturn, 1) := by decide +kernel
theorem dX6_sick_13 : decode cX6_sick 13 = .ok (.iload_n 2, 1) := by decide +kernel
theorem dX6_sick_14 : decode cX6_sick 14 = .ok (.iconst (-1), 1) := by decide +kernel
theorem dX6_sick_15 : decode cX6_sick 15 = .ok (.bipush 99, 2) := by decide +kernel
theorem dX6_sick_17 : decode cX6_sick 17 = .ok (.invokestatic 93, 3) := by decide +kernel
theorem dX6_sick_20 : decode cX6_sick 20 = .ok (.ifCond .ne 6, 3) := by decide +kernel
theorem dX6_sick_23 : decode cX6_sick 23 = .ok (.bipush (-2), 2) := by decide +kernel
theorem dX6_sick_25 : decode cX6_sick 25 = .ok (.ireturn, 1) := by decide +kernel
theorem dX6_sick_26 : decode cX6_sick 26 = .ok (.aload_n 0, 1) := by decide +kernel
theorem dX6_sick_27 : decode cX6_sick 27 = .ok (.getfield 53, 3) := by decide +kernel
theorem dX6_sick_30 : decode cX6_sick 30 = .ok (.getfield 227, 3) := by decide +kernel
theorem dX6_sick_33 : decode cX6_sick 33 = .ok (.iload_n 1, 1) := by decide +kernel
theorem dX6_sick_34 : decode cX6_sick 34 = .ok (.iaload, 1) := by decide +kernel
theorem dX6_sick_35 : decode cX6_sick 35 = .ok (.istore_n 3, 1) := by decide +kernel
theorem dX6_sick_36 : decode cX6_sick 36 = .ok (.aload_n 0, 1) := by decide +kernel
theorem dX6_sick_37 : decode cX6_sick 37 = .ok (.getfield 53, 3) := by decide +kernel
theorem dX6_sick_40 : decode cX6_sick 40 = .ok (.getfield 227, 3) := by decide +kernel
theorem dX6_sick_43 : decode cX6_sick 43 = .ok (.iload_n 1, 1) := by decide +kernel
theorem dX6_sick_44 : decode cX6_sick 44 = .ok (.iload_n 2, 1) := by decide +kernel
theorem dX6_sick_45 : decode cX6_sick 45 = .ok (.iastore, 1) := by decide +kernel
theorem dX6_sick_46 : decode cX6_sick 46 = .ok (.iload_n 3, 1) := by decide +kernel
theorem dX6_sick_47 : decode cX6_sick 47 = .ok (.iconst (-1), 1) := by decide +kernel
theorem dX6_sick_48 : decode cX6_sick 48 = .ok (.if_icmp .ne 8, 3) := by decide +kernel
theorem dX6_sick_51 : decode cX6_sick 51 = .ok (.bipush (-6), 2) := by decide +kernel
theorem dX6_sick_53 : decode cX6_sick 53 = .ok (.goto 4, 3) := by decide +kernel
theorem dX6_sick_56 : decode cX6_sick 56 = .ok (.iload_n 3, 1) := by decide +kernel
theorem dX6_sick_57 : decode cX6_sick 57 = .ok (.ireturn, 1) := by decide +kernel
theorem dX6_from_0 : decode cX6_from 0 = .ok (.aload_n 0, 1) := by decide +kernel
theorem dX6_from_1 : decode cX6_from 1 = .ok (.getfield 53, 3) := by decide +kernel
theorem dX6_from_4 : decode cX6_from 4 = .ok (.iload_n 1, 1) := by decide +kernel
theorem dX6_from_5 : decode cX6_from 5 = .ok (.invokevirtual 215, 3) := by decide +kernel
theorem dX6_from_8 : decode cX6_from 8 = .ok (.ifCond .ne 5, 3) := by decide +kernel
theorem dX6_from_11 : decode cX6_from 11 = .ok (.iconst (-1), 1) := by decide +kernel
theorem dX6_from_12 : decode cX6_from 12 = .ok (.ireturn, 1) := by decide +kernel
theorem dX6_from_13 : decode cX6_from 13 = .ok (.aload_n 0, 1) := by decide +kernel
theorem dX6_from_14 : decode cX6_from 14 = .ok (.getfield 53, 3) := by decide +kernel
theorem dX6_from_17 : decode cX6_from 17 = .ok (.iload_n 1, 1) := by decide +kernel
theorem dX6_from_18 : decode cX6_from 18 = .ok (.aload_n 0, 1) := by decide +kernel
theorem dX6_from_19 : decode cX6_from 19 = .ok (.getfield 10, 3) := by decide +kernel
theorem dX6_from_22 : decode cX6_from 22 = .ok (.getfield 97, 3) := by decide +kernel
theorem dX6_from_25 : decode cX6_from 25 = .ok (.iconst 2, 1) := by decide +kernel
theorem dX6_from_26 : decode cX6_from 26 = .ok (.iaload, 1) := by decide +kernel
theorem dX6_from_27 : decode cX6_from 27 = .ok (.aload_n 0, 1) := by decide +kernel
theorem dX6_from_28 : decode cX6_from 28 = .ok (.getfield 10, 3) := by decide +kernel
theorem dX6_from_31 : decode cX6_from 31 = .ok (.getfield 97, 3) := by decide +kernel
theorem dX6_from_34 : decode cX6_from 34 = .ok (.iconst 3, 1) := by decide +kernel
theorem dX6_from_35 : decode cX6_from 35 = .ok (.iaload, 1) := by decide +kernel
theorem dX6_from_36 : decode cX6_from 36 = .ok (.invokevirtual 230, 3) := by decide +kernel
theorem dX6_from_39 : decode cX6_from 39 = .ok (.ireturn, 1) := by decide +kernel
theorem dX6_firsts_0 : decode cX6_firsts 0 = .ok (.iload_n 1, 1) := by decide +kernel
theorem dX6_firsts_1 : decode cX6_firsts 1 = .ok (.iconst 0, 1) := by decide +kernel
theorem dX6_firsts_2 : decode cX6_firsts 2 = .ok (.iconst 1, 1) := by decide +kernel
theorem dX6_firsts_3 : decode cX6_firsts 3 = .ok (.invokestatic 93, 3) := by decide +kernel
theorem dX6_firsts_6 : decode cX6_firsts 6 = .ok (.ifCond .ne 6, 3) := by decide +kernel
theorem dX6_firsts_9 : decode cX6_firsts 9 = .ok (.bipush (-2), 2) := by decide +kernel
theorem dX6_firsts_11 : decode cX6_firsts 11 = .ok (.ireturn, 1) := by decide +kernel
theorem dX6_firsts_12 : decode cX6_firsts 12 = .ok (.iload_n 1, 1) := by decide +kernel
theorem dX6_firsts_13 : decode cX6_firsts 13 = .ok (.iconst 1, 1) := by decide +kernel
theorem dX6_firsts_14 : decode cX6_firsts 14 = .ok (.if_icmp .ne 11, 3) := by decide +kernel
theorem dX6_firsts_17 : decode cX6_firsts 17 = .ok (.aload_n 0, 1) := by decide +kernel
theorem dX6_firsts_18 : decode cX6_firsts 18 = .ok (.getfield 53, 3) := by decide +kernel
theorem dX6_firsts_21 : decode cX6_firsts 21 = .ok (.invokevirtual 233, 3) := by decide +kernel
theorem dX6_firsts_24 : decode cX6_firsts 24 = .ok (.ireturn, 1) := by decide +kernel
theorem dX6_firsts_25 : decode cX6_firsts 25 = .ok (.aload_n 0, 1) := by decide +kernel
theorem dX6_firsts_26 : decode cX6_firsts 26 = .ok (.getfield 53, 3) := by decide +kernel
theorem dX6_firsts_29 : decode cX6_firsts 29 = .ok (.aload_n 0, 1) := by decide +kernel
theorem dX6_firsts_30 : decode cX6_firsts 30 = .ok (.getfield 10, 3) := by decide +kernel
theorem dX6_firsts_33 : decode cX6_firsts 33 = .ok (.getfield 97, 3) := by decide +kernel
theorem dX6_firsts_36 : decode cX6_firsts 36 = .ok (.iconst 2, 1) := by decide +kernel
theorem dX6_firsts_37 : decode cX6_firsts 37 = .ok (.iaload, 1) := by decide +kernel
theorem dX6_firsts_38 : decode cX6_firsts 38 = .ok (.aload_n 0, 1) := by decide +kernel
theorem dX6_firsts_39 : decode cX6_firsts 39 = .ok (.getfield 10, 3) := by decide +kernel
theorem dX6_firsts_42 : decode cX6_firsts 42 = .ok (.getfield 97, 3) := by decide +kernel
theorem dX6_firsts_45 : decode cX6_firsts 45 = .ok (.iconst 3, 1) := by decide +kernel
theorem dX6_firsts_46 : decode cX6_firsts 46 = .ok (.iaload, 1) := by decide +kernel
theorem dX6_firsts_47 : decode cX6_firsts 47 = .ok (.invokevirtual 236, 3) := by decide +kernel
theorem dX6_firsts_50 : decode cX6_firsts 50 = .ok (.aload_n 0, 1) := by decide +kernel
theorem dX6_firsts_51 : decode cX6_firsts 51 = .ok (.getfield 53, 3) := by decide +kernel
theorem dX6_firsts_54 : decode cX6_firsts 54 = .ok (.getfield 240, 3) := by decide +kernel
theorem dX6_firsts_57 : decode cX6_firsts 57 = .ok (.ireturn, 1) := by decide +kernel
theorem dX6_must_0 : decode cX6_must 0 = .ok (.aload_n 0, 1) := by decide +kernel
theorem dX6_must_1 : decode cX6_must 1 = .ok (.getfield 53, 3) := by decide +kernel
theorem dX6_must_4 : decode cX6_must 4 = .ok (.iload_n 1, 1) := by decide +kernel
theorem dX6_must_5 : decode cX6_must 5 = .ok (.invokevirtual 215, 3) := by decide +kernel
theorem dX6_must_8 : decode cX6_must 8 = .ok (.ifCond .ne 5, 3) := by decide +kernel
theorem dX6_must_11 : decode cX6_must 11 = .ok (.iconst (-1), 1) := by decide +kernel
theorem dX6_must_12 : decode cX6_must 12 = .ok (.ireturn, 1) := by decide +kernel
theorem dX6_must_13 : decode cX6_must 13 = .ok (.iload_n 2, 1) := by decide +kernel
theorem dX6_must_14 : decode cX6_must 14 = .ok (.iconst 0, 1) := by decide +kernel
theorem dX6_must_15 : decode cX6_must 15 = .ok (.iconst 1, 1) := by decide +kernel
theorem dX6_must_16 : decode cX6_must 16 = .ok (.invokestatic 93, 3) := by decide +kernel
theorem dX6_must_19 : decode cX6_must 19 = .ok (.ifCond .ne 6, 3) := by decide +kernel
theorem dX6_must_22 : decode cX6_must 22 = .ok (.bipush (-2), 2) := by decide +kernel
theorem dX6_must_24 : decode cX6_must 24 = .ok (.ireturn, 1) := by decide +kernel
theorem dX6_must_25 : decode cX6_must 25 = .ok (.aload_n 0, 1) := by decide +kernel
theorem dX6_must_26 : decode cX6_must 26 = .ok (.getfield 53, 3) := by decide +kernel
theorem dX6_must_29 : decode cX6_must 29 = .ok (.aload_n 0, 1) := by decide +kernel
theorem dX6_must_30 : decode cX6_must 30 = .ok (.getfield 10, 3) := by decide +kernel
theorem dX6_must_33 : decode cX6_must 33 = .ok (.getfield 97, 3) := by decide +kernel
theorem dX6_must_36 : decode cX6_must 36 = .ok (.iconst 2, 1) := by decide +kernel
theorem dX6_must_37 : decode cX6_must 37 = .ok (.iaload, 1) := by decide +kernel
theorem dX6_must_38 : decode cX6_must 38 = .ok (.aload_n 0, 1) := by decide +kernel
theorem dX6_must_39 : decode cX6_must 39 = .ok (.getfield 10, 3) := by decide +kernel
theorem dX6_must_42 : decode cX6_must 42 = .ok (.getfield 97, 3) := by decide +kernel
theorem dX6_must_45 : decode cX6_must 45 = .ok (.iconst 3, 1) := by decide +kernel
theorem dX6_must_46 : decode cX6_must 46 = .ok (.iaload, 1) := by decide +kernel
theorem dX6_must_47 : decode cX6_must 47 = .ok (.invokevirtual 236, 3) := by decide +kernel
theorem dX6_must_50 : decode cX6_must 50 = .ok (.iload_n 2, 1) := by decide +kernel
theorem dX6_must_51 : decode cX6_must 51 = .ok (.ifCond .ne 14, 3) := by decide +kernel
theorem dX6_must_54 : decode cX6_must 54 = .ok (.aload_n 0, 1) := by decide +kernel
theorem dX6_must_55 : decode cX6_must 55 = .ok (.getfield 53, 3) := by decide +kernel
theorem dX6_must_58 : decode cX6_must 58 = .ok (.iload_n 1, 1) := by decide +kernel
theorem dX6_must_59 : decode cX6_must 59 = .ok (.invokevirtual 243, 3) := by decide +kernel
theorem dX6_must_62 : decode cX6_must 62 = .ok (.goto 18, 3) := by decide +kernel
theorem dX6_must_65 : decode cX6_must 65 = .ok (.aload_n 0, 1) := by decide +kernel
theorem dX6_must_66 : decode cX6_must 66 = .ok (.getfield 53, 3) := by decide +kernel
theorem dX6_must_69 : decode cX6_must 69 = .ok (.iload_n 1, 1) := by decide +kernel
theorem dX6_must_70 : decode cX6_must 70 = .ok (.aload_n 0, 1) := by decide +kernel
theorem dX6_must_71 : decode cX6_must 71 = .ok (.getfield 53, 3) := by decide +kernel
theorem dX6_must_74 : decode cX6_must 74 = .ok (.invokevirtual 233, 3) := by decide +kernel
theorem dX6_must_77 : decode cX6_must 77 = .ok (.invokevirtual 246, 3) := by decide +kernel
theorem dX6_must_80 : decode cX6_must 80 = .ok (.ireturn, 1) := by decide +kernel
theorem dX6_image_0 : decode cX6_image 0 = .ok (.iload_n 1, 1) := by decide +kernel
theorem dX6_image_1 : decode cX6_image 1 = .ok (.iconst 0, 1) := by decide +kernel
theorem dX6_image_2 : decode cX6_image 2 = .ok (.iconst 1, 1) := by decide +kernel
theorem dX6_image_3 : decode cX6_image 3 = .ok (.invokestatic 93, 3) := by decide +kernel
theorem dX6_image_6 : decode cX6_image 6 = .ok (.ifCond .ne 6, 3) := by decide +kernel
theorem dX6_image_9 : decode cX6_image 9 = .ok (.bipush (-2), 2) := by decide +kernel
theorem dX6_image_11 : decode cX6_image 11 = .ok (.ireturn, 1) := by decide +kernel
theorem dX6_image_12 : decode cX6_image 12 = .ok (.aload_n 0, 1) := by decide +kernel
theorem dX6_image_13 : decode cX6_image 13 = .ok (.getfield 16, 3) := by decide +kernel
theorem dX6_image_16 : decode cX6_image 16 = .ok (.iload_n 1, 1) := by decide +kernel
theorem dX6_image_17 : decode cX6_image 17 = .ok (.aaload, 1) := by decide +kernel
theorem dX6_image_18 : decode cX6_image 18 = .ok (.astore_n 2, 1) := by decide +kernel
theorem dX6_image_19 : decode cX6_image 19 = .ok (.aload_n 2, 1) := by decide +kernel
theorem dX6_image_20 : decode cX6_image 20 = .ok (.ifnonnull 18, 3) := by decide +kernel
theorem dX6_image_23 : decode cX6_image 23 = .ok (.new 7, 3) := by decide +kernel
theorem dX6_image_26 : decode cX6_image 26 = .ok (.dup, 1) := by decide +kernel
theorem dX6_image_27 : decode cX6_image 27 = .ok (.invokespecial 9, 3) := by decide +kernel
theorem dX6_image_30 : decode cX6_image 30 = .ok (.astore_n 2, 1) := by decide +kernel
theorem dX6_image_31 : decode cX6_image 31 = .ok (.aload_n 0, 1) := by decide +kernel
theorem dX6_image_32 : decode cX6_image 32 = .ok (.getfield 16, 3) := by decide +kernel
theorem dX6_image_35 : decode cX6_image 35 = .ok (.iload_n 1, 1) := by decide +kernel
theorem dX6_image_36 : decode cX6_image 36 = .ok (.aload_n 2, 1) := by decide +kernel
theorem dX6_image_37 : decode cX6_image 37 = .ok (.aastore, 1) := by decide +kernel
theorem dX6_image_38 : decode cX6_image 38 = .ok (.aload_n 2, 1) := by decide +kernel
theorem dX6_image_39 : decode cX6_image 39 = .ok (.aload_n 0, 1) := by decide +kernel
theorem dX6_image_40 : decode cX6_image 40 = .ok (.getfield 10, 3) := by decide +kernel
theorem dX6_image_43 : decode cX6_image 43 = .ok (.invokevirtual 249, 3) := by decide +kernel
theorem dX6_image_46 : decode cX6_image 46 = .ok (.iconst 1, 1) := by decide +kernel
theorem dX6_image_47 : decode cX6_image 47 = .ok (.ireturn, 1) := by decide +kernel
theorem dX6_restore_0 : decode cX6_restore 0 = .ok (.iload_n 1, 1) := by decide +kernel
theorem dX6_restore_1 : decode cX6_restore 1 = .ok (.iconst 0, 1) := by decide +kernel
theorem dX6_restore_2 : decode cX6_restore 2 = .ok (.iconst 1, 1) := by decide +kernel
theorem dX6_restore_3 : decode cX6_restore 3 = .ok (.invokestatic 93, 3) := by decide +kernel
theorem dX6_restore_6 : decode cX6_restore 6 = .ok (.ifCond .ne 6, 3) := by decide +kernel
theorem dX6_restore_9 : decode cX6_restore 9 = .ok (.bipush (-2), 2) := by decide +kernel
theorem dX6_restore_11 : decode cX6_restore 11 = .ok (.ireturn, 1) := by decide +kernel
theorem dX6_restore_12 : decode cX6_restore 12 = .ok (.aload_n 0, 1) := by decide +kernel
theorem dX6_restore_13 : decode cX6_restore 13 = .ok (.getfield 16, 3) := by decide +kernel
theorem dX6_restore_16 : decode cX6_restore 16 = .ok (.iload_n 1, 1) := by decide +kernel
theorem dX6_restore_17 : decode cX6_restore 17 = .ok (.aaload, 1) := by decide +kernel
theorem dX6_restore_18 : decode cX6_restore 18 = .ok (.astore_n 2, 1) := by decide +kernel
theorem dX6_restore_19 : decode cX6_restore 19 = .ok (.aload_n 2, 1) := by decide +kernel
theorem dX6_restore_20 : decode cX6_restore 20 = .ok (.ifnonnull 6, 3) := by decide +kernel
theorem dX6_restore_23 : decode cX6_restore 23 = .ok (.bipush (-3), 2) := by decide +kernel
theorem dX6_restore_25 : decode cX6_restore 25 = .ok (.ireturn, 1) := by decide +kernel
theorem dX6_restore_26 : decode cX6_restore 26 = .ok (.aload_n 0, 1) := by decide +kernel
theorem dX6_restore_27 : decode cX6_restore 27 = .ok (.getfield 10, 3) := by decide +kernel
theorem dX6_restore_30 : decode cX6_restore 30 = .ok (.aload_n 2, 1) := by decide +kernel
theorem dX6_restore_31 : decode cX6_restore 31 = .ok (.invokevirtual 249, 3) := by decide +kernel
theorem dX6_restore_34 : decode cX6_restore 34 = .ok (.aload_n 0, 1) := by decide +kernel
theorem dX6_restore_35 : decode cX6_restore 35 = .ok (.getfield 32, 3) := by decide +kernel
theorem dX6_restore_38 : decode cX6_restore 38 = .ok (.invokevirtual 69, 3) := by decide +kernel
theorem dX6_restore_41 : decode cX6_restore 41 = .ok (.iconst 1, 1) := by decide +kernel
theorem dX6_restore_42 : decode cX6_restore 42 = .ok (.ireturn, 1) := by decide +kernel
theorem dX6_told_0 : decode cX6_told 0 = .ok (.iload_n 1, 1) := by decide +kernel
theorem dX6_told_1 : decode cX6_told 1 = .ok (.tableswitch 131 0 8 #[51, 59, 67, 75, 83, 91, 101, 111, 121], 51) := by decide +kernel
theorem dX6_told_52 : decode cX6_told 52 = .ok (.aload_n 0, 1) := by decide +kernel
theorem dX6_told_53 : decode cX6_told 53 = .ok (.getfield 10, 3) := by decide +kernel
theorem dX6_told_56 : decode cX6_told 56 = .ok (.getfield 65, 3) := by decide +kernel
theorem dX6_told_59 : decode cX6_told 59 = .ok (.ireturn, 1) := by decide +kernel
theorem dX6_told_60 : decode cX6_told 60 = .ok (.aload_n 0, 1) := by decide +kernel
theorem dX6_told_61 : decode cX6_told 61 = .ok (.getfield 23, 3) := by decide +kernel
theorem dX6_told_64 : decode cX6_told 64 = .ok (.getfield 100, 3) := by decide +kernel
theorem dX6_told_67 : decode cX6_told 67 = .ok (.ireturn, 1) := by decide +kernel
theorem dX6_told_68 : decode cX6_told 68 = .ok (.aload_n 0, 1) := by decide +kernel
theorem dX6_told_69 : decode cX6_told 69 = .ok (.getfield 10, 3) := by decide +kernel
theorem dX6_told_72 : decode cX6_told 72 = .ok (.getfield 119, 3) := by decide +kernel
theorem dX6_told_75 : decode cX6_told 75 = .ok (.ireturn, 1) := by decide +kernel
theorem dX6_told_76 : decode cX6_told 76 = .ok (.aload_n 0, 1) := by decide +kernel
theorem dX6_told_77 : decode cX6_told 77 = .ok (.getfield 53, 3) := by decide +kernel
theorem dX6_told_80 : decode cX6_told 80 = .ok (.getfield 212, 3) := by decide +kernel
theorem dX6_told_83 : decode cX6_told 83 = .ok (.ireturn, 1) := by decide +kernel
theorem dX6_told_84 : decode cX6_told 84 = .ok (.aload_n 0, 1) := by decide +kernel
theorem dX6_told_85 : decode cX6_told 85 = .ok (.getfield 53, 3) := by decide +kernel
theorem dX6_told_88 : decode cX6_told 88 = .ok (.getfield 221, 3) := by decide +kernel
theorem dX6_told_91 : decode cX6_told 91 = .ok (.ireturn, 1) := by decide +kernel
theorem dX6_told_92 : decode cX6_told 92 = .ok (.aload_n 0, 1) := by decide +kernel
theorem dX6_told_93 : decode cX6_told 93 = .ok (.getfield 10, 3) := by decide +kernel
theorem dX6_told_96 : decode cX6_told 96 = .ok (.getfield 97, 3) := by decide +kernel
theorem dX6_told_99 : decode cX6_told 99 = .ok (.iconst 0, 1) := by decide +kernel
theorem dX6_told_100 : decode cX6_told 100 = .ok (.iaload, 1) := by decide +kernel
theorem dX6_told_101 : decode cX6_told 101 = .ok (.ireturn, 1) := by decide +kernel
theorem dX6_told_102 : decode cX6_told 102 = .ok (.aload_n 0, 1) := by decide +kernel
theorem dX6_told_103 : decode cX6_told 103 = .ok (.getfield 10, 3) := by decide +kernel
theorem dX6_told_106 : decode cX6_told 106 = .ok (.getfield 97, 3) := by decide +kernel
theorem dX6_told_109 : decode cX6_told 109 = .ok (.iconst 1, 1) := by decide +kernel
theorem dX6_told_110 : decode cX6_told 110 = .ok (.iaload, 1) := by decide +kernel
theorem dX6_told_111 : decode cX6_told 111 = .ok (.ireturn, 1) := by decide +kernel
theorem dX6_told_112 : decode cX6_told 112 = .ok (.aload_n 0, 1) := by decide +kernel
theorem dX6_told_113 : decode cX6_told 113 = .ok (.getfield 10, 3) := by decide +kernel
theorem dX6_told_116 : decode cX6_told 116 = .ok (.getfield 97, 3) := by decide +kernel
theorem dX6_told_119 : decode cX6_told 119 = .ok (.iconst 2, 1) := by decide +kernel
theorem dX6_told_120 : decode cX6_told 120 = .ok (.iaload, 1) := by decide +kernel
theorem dX6_told_121 : decode cX6_told 121 = .ok (.ireturn, 1) := by decide +kernel
theorem dX6_told_122 : decode cX6_told 122 = .ok (.aload_n 0, 1) := by decide +kernel
theorem dX6_told_123 : decode cX6_told 123 = .ok (.getfield 10, 3) := by decide +kernel
theorem dX6_told_126 : decode cX6_told 126 = .ok (.getfield 97, 3) := by decide +kernel
theorem dX6_told_129 : decode cX6_told 129 = .ok (.iconst 3, 1) := by decide +kernel
theorem dX6_told_130 : decode cX6_told 130 = .ok (.iaload, 1) := by decide +kernel
theorem dX6_told_131 : decode cX6_told 131 = .ok (.ireturn, 1) := by decide +kernel
theorem dX6_told_132 : decode cX6_told 132 = .ok (.bipush (-2), 2) := by decide +kernel
theorem dX6_told_134 : decode cX6_told 134 = .ok (.ireturn, 1) := by decide +kernel
theorem dX6_within_0 : decode cX6_within 0 = .ok (.iload_n 0, 1) := by decide +kernel
theorem dX6_within_1 : decode cX6_within 1 = .ok (.iload_n 1, 1) := by decide +kernel
theorem dX6_within_2 : decode cX6_within 2 = .ok (.if_icmp .lt 12, 3) := by decide +kernel
theorem dX6_within_5 : decode cX6_within 5 = .ok (.iload_n 0, 1) := by decide +kernel
theorem dX6_within_6 : decode cX6_within 6 = .ok (.iload_n 2, 1) := by decide +kernel
theorem dX6_within_7 : decode cX6_within 7 = .ok (.if_icmp .gt 7, 3) := by decide +kernel
theorem dX6_within_10 : decode cX6_within 10 = .ok (.iconst 1, 1) := by decide +kernel
theorem dX6_within_11 : decode cX6_within 11 = .ok (.goto 4, 3) := by decide +kernel
theorem dX6_within_14 : decode cX6_within 14 = .ok (.iconst 0, 1) := by decide +kernel
theorem dX6_within_15 : decode cX6_within 15 = .ok (.ireturn, 1) := by decide +kernel
theorem dX6_isSpan_0 : decode cX6_isSpan 0 = .ok (.iload_n 0, 1) := by decide +kernel
theorem dX6_isSpan_1 : decode cX6_isSpan 1 = .ok (.iload_n 2, 1) := by decide +kernel
theorem dX6_isSpan_2 : decode cX6_isSpan 2 = .ok (.if_icmp .lt 17, 3) := by decide +kernel
theorem dX6_isSpan_5 : decode cX6_isSpan 5 = .ok (.iload_n 0, 1) := by decide +kernel
theorem dX6_isSpan_6 : decode cX6_isSpan 6 = .ok (.iload_n 1, 1) := by decide +kernel
theorem dX6_isSpan_7 : decode cX6_isSpan 7 = .ok (.if_icmp .gt 12, 3) := by decide +kernel
theorem dX6_isSpan_10 : decode cX6_isSpan 10 = .ok (.iload_n 1, 1) := by decide +kernel
theorem dX6_isSpan_11 : decode cX6_isSpan 11 = .ok (.iload_n 3, 1) := by decide +kernel
theorem dX6_isSpan_12 : decode cX6_isSpan 12 = .ok (.if_icmp .gt 7, 3) := by decide +kernel
theorem dX6_isSpan_15 : decode cX6_isSpan 15 = .ok (.iconst 1, 1) := by decide +kernel
theorem dX6_isSpan_16 : decode cX6_isSpan 16 = .ok (.goto 4, 3) := by decide +kernel
theorem dX6_isSpan_19 : decode cX6_isSpan 19 = .ok (.iconst 0, 1) := by decide +kernel
theorem dX6_isSpan_20 : decode cX6_isSpan 20 = .ok (.ireturn, 1) := by decide +kernel
theorem dX6_isDrawing_0 : decode cX6_isDrawing 0 = .ok (.iload_n 0, 1) := by decide +kernel
theorem dX6_isDrawing_1 : decode cX6_isDrawing 1 = .ok (.iconst 0, 1) := by decide +kernel
theorem dX6_isDrawing_2 : decode cX6_isDrawing 2 = .ok (.ldc 252, 2) := by decide +kernel
theorem dX6_isDrawing_4 : decode cX6_isDrawing 4 = .ok (.invokestatic 93, 3) := by decide +kernel
theorem dX6_isDrawing_7 : decode cX6_isDrawing 7 = .ok (.ireturn, 1) := by decide +kernel
theorem dX6_hasBit_0 : decode cX6_hasBit 0 = .ok (.iload_n 0, 1) := by decide +kernel
theorem dX6_hasBit_1 : decode cX6_hasBit 1 = .ok (.iload_n 1, 1) := by decide +kernel
theorem dX6_hasBit_2 : decode cX6_hasBit 2 = .ok (.ishr, 1) := by decide +kernel
theorem dX6_hasBit_3 : decode cX6_hasBit 3 = .ok (.iconst 1, 1) := by decide +kernel
theorem dX6_hasBit_4 : decode cX6_hasBit 4 = .ok (.iand, 1) := by decide +kernel
theorem dX6_hasBit_5 : decode cX6_hasBit 5 = .ok (.ifCond .eq 7, 3) := by decide +kernel
theorem dX6_hasBit_8 : decode cX6_hasBit 8 = .ok (.iconst 1, 1) := by decide +kernel
theorem dX6_hasBit_9 : decode cX6_hasBit 9 = .ok (.goto 4, 3) := by decide +kernel
theorem dX6_hasBit_12 : decode cX6_hasBit 12 = .ok (.iconst 0, 1) := by decide +kernel
theorem dX6_hasBit_13 : decode cX6_hasBit 13 = .ok (.ireturn, 1) := by decide +kernel
theorem dX6_strokeOf_0 : decode cX6_strokeOf 0 = .ok (.iload_n 0, 1) := by decide +kernel
theorem dX6_strokeOf_1 : decode cX6_strokeOf 1 = .ok (.iconst 2, 1) := by decide +kernel
theorem dX6_strokeOf_2 : decode cX6_strokeOf 2 = .ok (.bipush 7, 2) := by decide +kernel
theorem dX6_strokeOf_4 : decode cX6_strokeOf 4 = .ok (.iload_n 1, 1) := by decide +kernel
theorem dX6_strokeOf_5 : decode cX6_strokeOf 5 = .ok (.isub, 1) := by decide +kernel
theorem dX6_strokeOf_6 : decode cX6_strokeOf 6 = .ok (.imul, 1) := by decide +kernel
theorem dX6_strokeOf_7 : decode cX6_strokeOf 7 = .ok (.ishr, 1) := by decide +kernel
theorem dX6_strokeOf_8 : decode cX6_strokeOf 8 = .ok (.iconst 3, 1) := by decide +kernel
theorem dX6_strokeOf_9 : decode cX6_strokeOf 9 = .ok (.iand, 1) := by decide +kernel
theorem dX6_strokeOf_10 : decode cX6_strokeOf 10 = .ok (.ireturn, 1) := by decide +kernel
theorem dX6_strokesIn_0 : decode cX6_strokesIn 0 = .ok (.iconst 0, 1) := by decide +kernel
theorem dX6_strokesIn_1 : decode cX6_strokesIn 1 = .ok (.istore_n 1, 1) := by decide +kernel
theorem dX6_strokesIn_2 : decode cX6_strokesIn 2 = .ok (.iconst 0, 1) := by decide +kernel
theorem dX6_strokesIn_3 : decode cX6_strokesIn 3 = .ok (.istore_n 2, 1) := by decide +kernel
theorem dX6_strokesIn_4 : decode cX6_strokesIn 4 = .ok (.iload_n 2, 1) := by decide +kernel
theorem dX6_strokesIn_5 : decode cX6_strokesIn 5 = .ok (.bipush 8, 2) := by decide +kernel
theorem dX6_strokesIn_7 : decode cX6_strokesIn 7 = .ok (.if_icmp .ge 23, 3) := by decide +kernel
theorem dX6_strokesIn_10 : decode cX6_strokesIn 10 = .ok (.iload_n 0, 1) := by decide +kernel
theorem dX6_strokesIn_11 : decode cX6_strokesIn 11 = .ok (.iload_n 2, 1) := by decide +kernel
theorem dX6_strokesIn_12 : decode cX6_strokesIn 12 = .ok (.invokestatic 253, 3) := by decide +kernel
theorem dX6_strokesIn_15 : decode cX6_strokesIn 15 = .ok (.ifCond .eq 9, 3) := by decide +kernel
theorem dX6_strokesIn_18 : decode cX6_strokesIn 18 = .ok (.iload_n 1, 1) := by decide +kernel
theorem dX6_strokesIn_19 : decode cX6_strokesIn 19 = .ok (.iconst 1, 1) := by decide +kernel
theorem dX6_strokesIn_20 : decode cX6_strokesIn 20 = .ok (.iload_n 2, 1) := by decide +kernel
theorem dX6_strokesIn_21 : decode cX6_strokesIn 21 = .ok (.ishl, 1) := by decide +kernel
theorem dX6_strokesIn_22 : decode cX6_strokesIn 22 = .ok (.ior, 1) := by decide +kernel
theorem dX6_strokesIn_23 : decode cX6_strokesIn 23 = .ok (.istore_n 1, 1) := by decide +kernel
theorem dX6_strokesIn_24 : decode cX6_strokesIn 24 = .ok (.iinc 2 1, 3) := by decide +kernel
theorem dX6_strokesIn_27 : decode cX6_strokesIn 27 = .ok (.goto (-23), 3) := by decide +kernel
theorem dX6_strokesIn_30 : decode cX6_strokesIn 30 = .ok (.iload_n 1, 1) := by decide +kernel
theorem dX6_strokesIn_31 : decode cX6_strokesIn 31 = .ok (.ireturn, 1) := by decide +kernel
theorem dX6_inkOf_0 : decode cX6_inkOf 0 = .ok (.iconst 0, 1) := by decide +kernel
theorem dX6_inkOf_1 : decode cX6_inkOf 1 = .ok (.istore_n 1, 1) := by decide +kernel
theorem dX6_inkOf_2 : decode cX6_inkOf 2 = .ok (.iconst 0, 1) := by decide +kernel
theorem dX6_inkOf_3 : decode cX6_inkOf 3 = .ok (.istore_n 2, 1) := by decide +kernel
theorem dX6_inkOf_4 : decode cX6_inkOf 4 = .ok (.iload_n 2, 1) := by decide +kernel
theorem dX6_inkOf_5 : decode cX6_inkOf 5 = .ok (.bipush 8, 2) := by decide +kernel
theorem dX6_inkOf_7 : decode cX6_inkOf 7 = .ok (.if_icmp .ge 33, 3) := by decide +kernel
theorem dX6_inkOf_10 : decode cX6_inkOf 10 = .ok (.iload_n 0, 1) := by decide +kernel
theorem dX6_inkOf_11 : decode cX6_inkOf 11 = .ok (.iload_n 2, 1) := by decide +kernel
theorem dX6_inkOf_12 : decode cX6_inkOf 12 = .ok (.invokestatic 253, 3) := by decide +kernel
theorem dX6_inkOf_15 : decode cX6_inkOf 15 = .ok (.istore_n 3, 1) := by decide +kernel
theorem dX6_inkOf_16 : decode cX6_inkOf 16 = .ok (.iload_n 3, 1) := by decide +kernel
theorem dX6_inkOf_17 : decode cX6_inkOf 17 = .ok (.iconst 3, 1) := by decide +kernel
theorem dX6_inkOf_18 : decode cX6_inkOf 18 = .ok (.if_icmp .ne 9, 3) := by decide +kernel
theorem dX6_inkOf_21 : decode cX6_inkOf 21 = .ok (.iinc 1 2, 3) := by decide +kernel
theorem dX6_inkOf_24 : decode cX6_inkOf 24 = .ok (.goto 10, 3) := by decide +kernel
theorem dX6_inkOf_27 : decode cX6_inkOf 27 = .ok (.iload_n 3, 1) := by decide +kernel
theorem dX6_inkOf_28 : decode cX6_inkOf 28 = .ok (.ifCond .eq 6, 3) := by decide +kernel
theorem dX6_inkOf_31 : decode cX6_inkOf 31 = .ok (.iinc 1 1, 3) := by decide +kernel
theorem dX6_inkOf_34 : decode cX6_inkOf 34 = .ok (.iinc 2 1, 3) := by decide +kernel
theorem dX6_inkOf_37 : decode cX6_inkOf 37 = .ok (.goto (-33), 3) := by decide +kernel
theorem dX6_inkOf_40 : decode cX6_inkOf 40 = .ok (.iload_n 1, 1) := by decide +kernel
theorem dX6_inkOf_41 : decode cX6_inkOf 41 = .ok (.ireturn, 1) := by decide +kernel
theorem dX6_mayLieUnder_0 : decode cX6_mayLieUnder 0 = .ok (.iconst 0, 1) := by decide +kernel
theorem dX6_mayLieUnder_1 : decode cX6_mayLieUnder 1 = .ok (.istore_n 3, 1) := by decide +kernel
theorem dX6_mayLieUnder_2 : decode cX6_mayLieUnder 2 = .ok (.iload_n 3, 1) := by decide +kernel
theorem dX6_mayLieUnder_3 : decode cX6_mayLieUnder 3 = .ok (.bipush 8, 2) := by decide +kernel
theorem dX6_mayLieUnder_5 : decode cX6_mayLieUnder 5 = .ok (.if_icmp .ge 41, 3) := by decide +kernel
theorem dX6_mayLieUnder_8 : decode cX6_mayLieUnder 8 = .ok (.iload_n 0, 1) := by decide +kernel
theorem dX6_mayLieUnder_9 : decode cX6_mayLieUnder 9 = .ok (.iload_n 3, 1) := by decide +kernel
theorem dX6_mayLieUnder_10 : decode cX6_mayLieUnder 10 = .ok (.invokestatic 253, 3) := by decide +kernel
theorem dX6_mayLieUnder_13 : decode cX6_mayLieUnder 13 = .ok (.istore 4, 2) := by decide +kernel
theorem dX6_mayLieUnder_15 : decode cX6_mayLieUnder 15 = .ok (.iload 4, 2) := by decide +kernel
theorem dX6_mayLieUnder_17 : decode cX6_mayLieUnder 17 = .ok (.ifCond .eq 23, 3) := by decide +kernel
theorem dX6_mayLieUnder_20 : decode cX6_mayLieUnder 20 = .ok (.iload_n 2, 1) := by decide +kernel
theorem dX6_mayLieUnder_21 : decode cX6_mayLieUnder 21 = .ok (.iload_n 3, 1) := by decide +kernel
theorem dX6_mayLieUnder_22 : decode cX6_mayLieUnder 22 = .ok (.invokestatic 151, 3) := by decide +kernel
theorem dX6_mayLieUnder_25 : decode cX6_mayLieUnder 25 = .ok (.ifCond .ne 15, 3) := by decide +kernel
theorem dX6_mayLieUnder_28 : decode cX6_mayLieUnder 28 = .ok (.iload 4, 2) := by decide +kernel
theorem dX6_mayLieUnder_30 : decode cX6_mayLieUnder 30 = .ok (.iload_n 1, 1) := by decide +kernel
theorem dX6_mayLieUnder_31 : decode cX6_mayLieUnder 31 = .ok (.iload_n 3, 1) := by decide +kernel
theorem dX6_mayLieUnder_32 : decode cX6_mayLieUnder 32 = .ok (.invokestatic 253, 3) := by decide +kernel
theorem dX6_mayLieUnder_35 : decode cX6_mayLieUnder 35 = .ok (.if_icmp .eq 5, 3) := by decide +kernel
theorem dX6_mayLieUnder_38 : decode cX6_mayLieUnder 38 = .ok (.iconst 0, 1) := by decide +kernel
theorem dX6_mayLieUnder_39 : decode cX6_mayLieUnder 39 = .ok (.ireturn, 1) := by decide +kernel
theorem dX6_mayLieUnder_40 : decode cX6_mayLieUnder 40 = .ok (.iinc 3 1, 3) := by decide +kernel
theorem dX6_mayLieUnder_43 : decode cX6_mayLieUnder 43 = .ok (.goto (-41), 3) := by decide +kernel
theorem dX6_mayLieUnder_46 : decode cX6_mayLieUnder 46 = .ok (.iconst 1, 1) := by decide +kernel
theorem dX6_mayLieUnder_47 : decode cX6_mayLieUnder 47 = .ok (.ireturn, 1) := by decide +kernel
theorem dJ9_max_7cf53_0 : decode cJ9_max_7cf53 0 = .ok (.iload_n 0, 1) := by decide +kernel
theorem dJ9_max_7cf53_1 : decode cJ9_max_7cf53 1 = .ok (.iload_n 1, 1) := by decide +kernel
theorem dJ9_max_7cf53_2 : decode cJ9_max_7cf53 2 = .ok (.if_icmp .lt 7, 3) := by decide +kernel
theorem dJ9_max_7cf53_5 : decode cJ9_max_7cf53 5 = .ok (.iload_n 0, 1) := by decide +kernel
theorem dJ9_max_7cf53_6 : decode cJ9_max_7cf53 6 = .ok (.goto 4, 3) := by decide +kernel
theorem dJ9_max_7cf53_9 : decode cJ9_max_7cf53 9 = .ok (.iload_n 1, 1) := by decide +kernel
theorem dJ9_max_7cf53_10 : decode cJ9_max_7cf53 10 = .ok (.ireturn, 1) := by decide +kernel
theorem dJ9_min_7cf53_0 : decode cJ9_min_7cf53 0 = .ok (.iload_n 0, 1) := by decide +kernel
theorem dJ9_min_7cf53_1 : decode cJ9_min_7cf53 1 = .ok (.iload_n 1, 1) := by decide +kernel
theorem dJ9_min_7cf53_2 : decode cJ9_min_7cf53 2 = .ok (.if_icmp .gt 7, 3) := by decide +kernel
theorem dJ9_min_7cf53_5 : decode cJ9_min_7cf53 5 = .ok (.iload_n 0, 1) := by decide +kernel
theorem dJ9_min_7cf53_6 : decode cJ9_min_7cf53 6 = .ok (.goto 4, 3) := by decide +kernel
theorem dJ9_min_7cf53_9 : decode cJ9_min_7cf53 9 = .ok (.iload_n 1, 1) := by decide +kernel
theorem dJ9_min_7cf53_10 : decode cJ9_min_7cf53 10 = .ok (.ireturn, 1) := by decide +kernel
end
section
theorem dX7_init_0 : decode cX7_init 0 = .ok (.aload_n 0, 1) := by decide +kernel
theorem dX7_init_1 : decode cX7_init 1 = .ok (.invokespecial 1, 3) := by decide +kernel
theorem dX7_init_4 : decode cX7_init 4 = .ok (.aload_n 0, 1) := by decide +kernel
theorem dX7_init_5 : decode cX7_init 5 = .ok (.bipush 6, 2) := by decide +kernel
theorem dX7_init_7 : decode cX7_init 7 = .ok (.newarray .int, 2) := by decide +kernel
theorem dX7_init_9 : decode cX7_init 9 = .ok (.putfield 7, 3) := by decide +kernel
theorem dX7_init_12 : decode cX7_init 12 = .ok (.aload_n 0, 1) := by decide +kernel
theorem dX7_init_13 : decode cX7_init 13 = .ok (.bipush 6, 2) := by decide +kernel
theorem dX7_init_15 : decode cX7_init 15 = .ok (.newarray .int, 2) := by decide +kernel
theorem dX7_init_17 : decode cX7_init 17 = .ok (.putfield 13, 3) := by decide +kernel
theorem dX7_init_20 : decode cX7_init 20 = .ok (.aload_n 0, 1) := by decide +kernel
theorem dX7_init_21 : decode cX7_init 21 = .ok (.bipush 6, 2) := by decide +kernel
theorem dX7_init_23 : decode cX7_init 23 = .ok (.newarray .int, 2) := by decide +kernel
theorem dX7_init_25 : decode cX7_init 25 = .ok (.putfield 16, 3) := by decide +kernel
theorem dX7_init_28 : decode cX7_init 28 = .ok (.aload_n 0, 1) := by decide +kernel
theorem dX7_init_29 : decode cX7_init 29 = .ok (.bipush 6, 2) := by decide +kernel
theorem dX7_init_31 : decode cX7_init 31 = .ok (.newarray .int, 2) := by decide +kernel
theorem dX7_init_33 : decode cX7_init 33 = .ok (.putfield 19, 3) := by decide +kernel
theorem dX7_init_36 : decode cX7_init 36 = .ok (.aload_n 0, 1) := by decide +kernel
theorem dX7_init_37 : decode cX7_init 37 = .ok (.iconst 4, 1) := by decide +kernel
theorem dX7_init_38 : decode cX7_init 38 = .ok (.newarray .int, 2) := by decide +kernel
theorem dX7_init_40 : decode cX7_init 40 = .ok (.putfield 22, 3) := by decide +kernel
theorem dX7_init_43 : decode cX7_init 43 = .ok (.aload_n 0, 1) := by decide +kernel
theorem dX7_init_44 : decode cX7_init 44 = .ok (.bipush 50, 2) := by decide +kernel
theorem dX7_init_46 : decode cX7_init 46 = .ok (.newarray .int, 2) := by decide +kernel
theorem dX7_init_48 : decode cX7_init 48 = .ok (.putfield 25, 3) := by decide +kernel
theorem dX7_init_51 : decode cX7_init 51 = .ok (.aload_n 0, 1) := by decide +kernel
theorem dX7_init_52 : decode cX7_init 52 = .ok (.bipush 50, 2) := by decide +kernel
theorem dX7_init_54 : decode cX7_init 54 = .ok (.newarray .int, 2) := by decide +kernel
theorem dX7_init_56 : decode cX7_init 56 = .ok (.putfield 28, 3) := by decide +kernel
theorem dX7_init_59 : decode cX7_init 59 = .ok (.aload_n 0, 1) := by decide +kernel
theorem dX7_init_60 : decode cX7_init 60 = .ok (.iconst 4, 1) := by decide +kernel
theorem dX7_init_61 : decode cX7_init 61 = .ok (.newarray .int, 2) := by decide +kernel
theorem dX7_init_63 : decode cX7_init 63 = .ok (.putfield 31, 3) := by decide +kernel
theorem dX7_init_66 : decode cX7_init 66 = .ok (.aload_n 0, 1) := by decide +kernel
theorem dX7_init_67 : decode cX7_init 67 = .ok (.bipush 8, 2) := by decide +kernel
theorem dX7_init_69 : decode cX7_init 69 = .ok (.newarray .int, 2) := by decide +kernel
theorem dX7_init_71 : decode cX7_init 71 = .ok (.putfield 34, 3) := by decide +kernel
theorem dX7_init_74 : decode cX7_init 74 = .ok (.aload_n 0, 1) := by decide +kernel
theorem dX7_init_75 : decode cX7_init 75 = .ok (.bipush 8, 2) := by decide +kernel
theorem dX7_init_77 : decode cX7_init 77 = .ok (.newarray .int, 2) := by decide +kernel
theorem dX7_init_79 : decode cX7_init 79 = .ok (.putfield 37, 3) := by decide +kernel
theorem dX7_init_82 : decode cX7_init 82 = .ok (.aload_n 0, 1) := by decide +kernel
theorem dX7_init_83 : decode cX7_init 83 = .ok (.bipush 8, 2) := by decide +kernel
theorem dX7_init_85 : decode cX7_init 85 = .ok (.newarray .int, 2) := by decide +kernel
theorem dX7_init_87 : decode cX7_init 87 = .ok (.putfield 40, 3) := by decide +kernel
theorem dX7_init_90 : decode cX7_init 90 = .ok (.aload_n 0, 1) := by decide +kernel
theorem dX7_init_91 : decode cX7_init 91 = .ok (.bipush 16, 2) := by decide +kernel
theorem dX7_init_93 : decode cX7_init 93 = .ok (.newarray .int, 2) := by decide +kernel
theorem dX7_init_95 : decode cX7_init 95 = .ok (.putfield 43, 3) := by decide +kernel
theorem dX7_init_98 : decode cX7_init 98 = .ok (.aload_n 0, 1) := by decide +kernel
theorem dX7_init_99 : decode cX7_init 99 = .ok (.bipush 16, 2) := by decide +kernel
theorem dX7_init_101 : decode cX7_init 101 = .ok (.newarray .int, 2) := by decide +kernel
theorem dX7_init_103 : decode cX7_init 103 = .ok (.putfield 46, 3) := by decide +kernel
theorem dX7_init_106 : decode cX7_init 106 = .ok (.aload_n 0, 1) := by decide +kernel
theorem dX7_init_107 : decode cX7_init 107 = .ok (.bipush 16, 2) := by decide +kernel
theorem dX7_init_109 : decode cX7_init 109 = .ok (.newarray .int, 2) := by decide +kernel
theorem dX7_init_111 : decode cX7_init 111 = .ok (.putfield 49, 3) := by decide +kernel
theorem dX7_init_114 : decode cX7_init 114 = .ok (.aload_n 0, 1) := by decide +kernel
theorem dX7_init_115 : decode cX7_init 115 = .ok (.bipush 42, 2) := by decide +kernel
theorem dX7_init_117 : decode cX7_init 117 = .ok (.newarray .int, 2) := by decide +kernel
theorem dX7_init_119 : decode cX7_init 119 = .ok (.putfield 52, 3) := by decide +kernel
theorem dX7_init_122 : decode cX7_init 122 = .ok (.aload_n 0, 1) := by decide +kernel
theorem dX7_init_123 : decode cX7_init 123 = .ok (.bipush 6, 2) := by decide +kernel
theorem dX7_init_125 : decode cX7_init 125 = .ok (.newarray .int, 2) := by decide +kernel
theorem dX7_init_127 : decode cX7_init 127 = .ok (.putfield 55, 3) := by decide +kernel
theorem dX7_init_130 : decode cX7_init 130 = .ok (.aload_n 0, 1) := by decide +kernel
theorem dX7_init_131 : decode cX7_init 131 = .ok (.sipush 220, 3) := by decide +kernel
theorem dX7_init_134 : decode cX7_init 134 = .ok (.newarray .int, 2) := by decide +kernel
theorem dX7_init_136 : decode cX7_init 136 = .ok (.putfield 58, 3) := by decide +kernel
theorem dX7_init_139 : decode cX7_init 139 = .ok (.aload_n 0, 1) := by decide +kernel
theorem dX7_init_140 : decode cX7_init 140 = .ok (.iconst 2, 1) := by decide +kernel
theorem dX7_init_141 : decode cX7_init 141 = .ok (.newarray .boolean, 2) := by decide +kernel
theorem dX7_init_143 : decode cX7_init 143 = .ok (.putfield 61, 3) := by decide +kernel
theorem dX7_init_146 : decode cX7_init 146 = .ok (.aload_n 0, 1) := by decide +kernel
theorem dX7_init_147 : decode cX7_init 147 = .ok (.getfield 22, 3) := by decide +kernel
theorem dX7_init_150 : decode cX7_init 150 = .ok (.iconst 0, 1) := by decide +kernel
theorem dX7_init_151 : decode cX7_init 151 = .ok (.bipush 20, 2) := by decide +kernel
theorem dX7_init_153 : decode cX7_init 153 = .ok (.iastore, 1) := by decide +kernel
theorem dX7_init_154 : decode cX7_init 154 = .ok (.aload_n 0, 1) := by decide +kernel
theorem dX7_init_155 : decode cX7_init 155 = .ok (.getfield 22, 3) := by decide +kernel
theorem dX7_init_158 : decode cX7_init 158 = .ok (.iconst 1, 1) := by decide +kernel
theorem dX7_init_159 : decode cX7_init 159 = .ok (.bipush 99, 2) := by decide +kernel
theorem dX7_init_161 : decode cX7_init 161 = .ok (.iastore, 1) := by decide +kernel
theorem dX7_init_162 : decode cX7_init 162 = .ok (.aload_n 0, 1) := by decide +kernel
theorem dX7_init_163 : decode cX7_init 163 = .ok (.getfield 22, 3) := by decide +kernel
theorem dX7_init_166 : decode cX7_init 166 = .ok (.iconst 2, 1) := by decide +kernel
theorem dX7_init_167 : decode cX7_init 167 = .ok (.bipush 10, 2) := by decide +kernel
theorem dX7_init_169 : decode cX7_init 169 = .ok (.iastore, 1) := by decide +kernel
theorem dX7_init_170 : decode cX7_init 170 = .ok (.aload_n 0, 1) := by decide +kernel
theorem dX7_init_171 : decode cX7_init 171 = .ok (.getfield 22, 3) := by decide +kernel
theorem dX7_init_174 : decode cX7_init 174 = .ok (.iconst 3, 1) := by decide +kernel
theorem dX7_init_175 : decode cX7_init 175 = .ok (.bipush 10, 2) := by decide +kernel
theorem dX7_init_177 : decode cX7_init 177 = .ok (.iastore, 1) := by decide +kernel
theorem dX7_init_178 : decode cX7_init 178 = .ok (.aload_n 0, 1) := by decide +kernel
theorem dX7_init_179 : decode cX7_init 179 = .ok (.getfield 31, 3) := by decide +kernel
theorem dX7_init_182 : decode cX7_init 182 = .ok (.iconst 0, 1) := by decide +kernel
theorem dX7_init_183 : decode cX7_init 183 = .ok (.bipush 10, 2) := by decide +kernel
theorem dX7_init_185 : decode cX7_init 185 = .ok (.iastore, 1) := by decide +kernel
theorem dX7_init_186 : decode cX7_init 186 = .ok (.aload_n 0, 1) := by decide +kernel
theorem dX7_init_187 : decode cX7_init 187 = .ok (.getfield 31, 3) := by decide +kernel
theorem dX7_init_190 : decode cX7_init 190 = .ok (.iconst 1, 1) := by decide +kernel
theorem dX7_init_191 : decode cX7_init 191 = .ok (.bipush 10, 2) := by decide +kernel
theorem dX7_init_193 : decode cX7_init 193 = .ok (.iastore, 1) := by decide +kernel
theorem dX7_init_194 : decode cX7_init 194 = .ok (.aload_n 0, 1) := by decide +kernel
theorem dX7_init_195 : decode cX7_init 195 = .ok (.getfield 31, 3) := by decide +kernel
theorem dX7_init_198 : decode cX7_init 198 = .ok (.iconst 2, 1) := by decide +kernel
theorem dX7_init_199 : decode cX7_init 199 = .ok (.iconst 1, 1) := by decide +kernel
theorem dX7_init_200 : decode cX7_init 200 = .ok (.iastore, 1) := by decide +kernel
theorem dX7_init_201 : decode cX7_init 201 = .ok (.aload_n 0, 1) := by decide +kernel
theorem dX7_init_202 : decode cX7_init 202 = .ok (.getfield 31, 3) := by decide +kernel
theorem dX7_init_205 : decode cX7_init 205 = .ok (.iconst 3, 1) := by decide +kernel
theorem dX7_init_206 : decode cX7_init 206 = .ok (.iconst 1, 1) := by decide +kernel
theorem dX7_init_207 : decode cX7_init 207 = .ok (.iastore, 1) := by decide +kernel
theorem dX7_init_208 : decode cX7_init 208 = .ok (.iconst 0, 1) := by decide +kernel
theorem dX7_init_209 : decode cX7_init 209 = .ok (.istore_n 1, 1) := by decide +kernel
theorem dX7_init_210 : decode cX7_init 210 = .ok (.iload_n 1, 1) := by decide +kernel
theorem dX7_init_211 : decode cX7_init 211 = .ok (.bipush 8, 2) := by decide +kernel
theorem dX7_init_213 : decode cX7_init 213 = .ok (.if_icmp .ge 27, 3) := by decide +kernel
theorem dX7_init_216 : decode cX7_init 216 = .ok (.aload_n 0, 1) := by decide +kernel
theorem dX7_init_217 : decode cX7_init 217 = .ok (.getfield 34, 3) := by decide +kernel
theorem dX7_init_220 : decode cX7_init 220 = .ok (.iload_n 1, 1) := by decide +kernel
theorem dX7_init_221 : decode cX7_init 221 = .ok (.iconst 1, 1) := by decide +kernel
theorem dX7_init_222 : decode cX7_init 222 = .ok (.iload_n 1, 1) := by decide +kernel
theorem dX7_init_223 : decode cX7_init 223 = .ok (.ishl, 1) := by decide +kernel
theorem dX7_init_224 : decode cX7_init 224 = .ok (.iastore, 1) := by decide +kernel
theorem dX7_init_225 : decode cX7_init 225 = .ok (.aload_n 0, 1) := by decide +kernel
theorem dX7_init_226 : decode cX7_init 226 = .ok (.getfield 37, 3) := by decide +kernel
theorem dX7_init_229 : decode cX7_init 229 = .ok (.iload_n 1, 1) := by decide +kernel
theorem dX7_init_230 : decode cX7_init 230 = .ok (.iconst 1, 1) := by decide +kernel
theorem dX7_init_231 : decode cX7_init 231 = .ok (.iload_n 1, 1) := by decide +kernel
theorem dX7_init_232 : decode cX7_init 232 = .ok (.ishl, 1) := by decide +kernel
theorem dX7_init_233 : decode cX7_init 233 = .ok (.iastore, 1) := by decide +kernel
theorem dX7_init_234 : decode cX7_init 234 = .ok (.iinc 1 1, 3) := by decide +kernel
theorem dX7_init_237 : decode cX7_init 237 = .ok (.goto (-27), 3) := by decide +kernel
theorem dX7_init_240 : decode cX7_init 240 = .ok (.return_, 1) := by decide +kernel
theorem dX7_in_0 : decode cX7_in 0 = .ok (.iload_n 0, 1) := by decide +kernel
theorem dX7_in_1 : decode cX7_in 1 = .ok (.iload_n 1, 1) := by decide +kernel
theorem dX7_in_2 : decode cX7_in 2 = .ok (.if_icmp .lt 12, 3) := by decide +kernel
theorem dX7_in_5 : decode cX7_in 5 = .ok (.iload_n 0, 1) := by decide +kernel
theorem dX7_in_6 : decode cX7_in 6 = .ok (.iload_n 2, 1) := by decide +kernel
theorem dX7_in_7 : decode cX7_in 7 = .ok (.if_icmp .gt 7, 3) := by decide +kernel
theorem dX7_in_10 : decode cX7_in 10 = .ok (.iconst 1, 1) := by decide +kernel
theorem dX7_in_11 : decode cX7_in 11 = .ok (.goto 4, 3) := by decide +kernel
theorem dX7_in_14 : decode cX7_in 14 = .ok (.iconst 0, 1) := by decide +kernel
theorem dX7_in_15 : decode cX7_in 15 = .ok (.ireturn, 1) := by decide +kernel
theorem dX7_isPicture_0 : decode cX7_isPicture 0 = .ok (.iload_n 1, 1) := by decide +kernel
theorem dX7_isPicture_1 : decode cX7_isPicture 1 = .ok (.iconst 0, 1) := by decide +kernel
theorem dX7_isPicture_2 : decode cX7_isPicture 2 = .ok (.aload_n 0, 1) := by decide +kernel
theorem dX7_isPicture_3 : decode cX7_isPicture 3 = .ok (.getfield 65, 3) := by decide +kernel
theorem dX7_isPicture_6 : decode cX7_isPicture 6 = .ok (.iconst 1, 1) := by decide +kernel
theorem dX7_isPicture_7 : decode cX7_isPicture 7 = .ok (.isub, 1) := by decide +kernel
theorem dX7_isPicture_8 : decode cX7_isPicture 8 = .ok (.invokestatic 69, 3) := by decide +kernel
theorem dX7_isPicture_11 : decode cX7_isPicture 11 = .ok (.ireturn, 1) := by decide +kernel
theorem dX7_isDrawing_0 : decode cX7_isDrawing 0 = .ok (.iload_n 0, 1) := by decide +kernel
theorem dX7_isDrawing_1 : decode cX7_isDrawing 1 = .ok (.iconst 0, 1) := by decide +kernel
theorem dX7_isDrawing_2 : decode cX7_isDrawing 2 = .ok (.ldc 73, 2) := by decide +kernel
theorem dX7_isDrawing_4 : decode cX7_isDrawing 4 = .ok (.invokestatic 69, 3) := by decide +kernel
theorem dX7_isDrawing_7 : decode cX7_isDrawing 7 = .ok (.ireturn, 1) := by decide +kernel
theorem dX7_isYear_0 : decode cX7_isYear 0 = .ok (.iload_n 0, 1) := by decide +kernel
theorem dX7_isYear_1 : decode cX7_isYear 1 = .ok (.iconst 0, 1) := by decide +kernel
theorem dX7_isYear_2 : decode cX7_isYear 2 = .ok (.bipush 99, 2) := by decide +kernel
theorem dX7_isYear_4 : decode cX7_isYear 4 = .ok (.invokestatic 69, 3) := by decide +kernel
theorem dX7_isYear_7 : decode cX7_isYear 7 = .ok (.ireturn, 1) := by decide +kernel
theorem dX7_strokeOf_0 : decode cX7_strokeOf 0 = .ok (.iload_n 0, 1) := by decide +kernel
theorem dX7_strokeOf_1 : decode cX7_strokeOf 1 = .ok (.bipush 14, 2) := by decide +kernel
theorem dX7_strokeOf_3 : decode cX7_strokeOf 3 = .ok (.iconst 2, 1) := by decide +kernel
theorem dX7_strokeOf_4 : decode cX7_strokeOf 4 = .ok (.iload_n 1, 1) := by decide +kernel
theorem dX7_strokeOf_5 : decode cX7_strokeOf 5 = .ok (.imul, 1) := by decide +kernel
theorem dX7_strokeOf_6 : decode cX7_strokeOf 6 = .ok (.isub, 1) := by decide +kernel
theorem dX7_strokeOf_7 : decode cX7_strokeOf 7 = .ok (.ishr, 1) := by decide +kernel
theorem dX7_strokeOf_8 : decode cX7_strokeOf 8 = .ok (.iconst 3, 1) := by decide +kernel
theorem dX7_strokeOf_9 : decode cX7_strokeOf 9 = .ok (.iand, 1) := by decide +kernel
theorem dX7_strokeOf_10 : decode cX7_strokeOf 10 = .ok (.ireturn, 1) := by decide +kernel
theorem dX7_picture_0 : decode cX7_picture 0 = .ok (.iload_n 1, 1) := by decide +kernel
theorem dX7_picture_1 : decode cX7_picture 1 = .ok (.invokestatic 74, 3) := by decide +kernel
theorem dX7_picture_4 : decode cX7_picture 4 = .ok (.ifCond .eq 22, 3) := by decide +kernel
theorem dX7_picture_7 : decode cX7_picture 7 = .ok (.iload_n 2, 1) := by decide +kernel
theorem dX7_picture_8 : decode cX7_picture 8 = .ok (.invokestatic 78, 3) := by decide +kernel
theorem dX7_picture_11 : decode cX7_picture 11 = .ok (.ifCond .eq 15, 3) := by decide +kernel
theorem dX7_picture_14 : decode cX7_picture 14 = .ok (.iload_n 3, 1) := by decide +kernel
theorem dX7_picture_15 : decode cX7_picture 15 = .ok (.invokestatic 78, 3) := by decide +kernel
theorem dX7_picture_18 : decode cX7_picture 18 = .ok (.ifCond .eq 8, 3) := by decide +kernel
theorem dX7_picture_21 : decode cX7_picture 21 = .ok (.iload_n 2, 1) := by decide +kernel
theorem dX7_picture_22 : decode cX7_picture 22 = .ok (.iload_n 3, 1) := by decide +kernel
theorem dX7_picture_23 : decode cX7_picture 23 = .ok (.if_icmp .le 6, 3) := by decide +kernel
theorem dX7_picture_26 : decode cX7_picture 26 = .ok (.bipush (-2), 2) := by decide +kernel
theorem dX7_picture_28 : decode cX7_picture 28 = .ok (.ireturn, 1) := by decide +kernel
theorem dX7_picture_29 : decode cX7_picture 29 = .ok (.aload_n 0, 1) := by decide +kernel
theorem dX7_picture_30 : decode cX7_picture 30 = .ok (.getfield 65, 3) := by decide +kernel
theorem dX7_picture_33 : decode cX7_picture 33 = .ok (.bipush 6, 2) := by decide +kernel
theorem dX7_picture_35 : decode cX7_picture 35 = .ok (.if_icmp .ne 6, 3) := by decide +kernel
theorem dX7_picture_38 : decode cX7_picture 38 = .ok (.bipush (-4), 2) := by decide +kernel
theorem dX7_picture_40 : decode cX7_picture 40 = .ok (.ireturn, 1) := by decide +kernel
theorem dX7_picture_41 : decode cX7_picture 41 = .ok (.aload_n 0, 1) := by decide +kernel
theorem dX7_picture_42 : decode cX7_picture 42 = .ok (.getfield 7, 3) := by decide +kernel
theorem dX7_picture_45 : decode cX7_picture 45 = .ok (.aload_n 0, 1) := by decide +kernel
theorem dX7_picture_46 : decode cX7_picture 46 = .ok (.getfield 65, 3) := by decide +kernel
theorem dX7_picture_49 : decode cX7_picture 49 = .ok (.iload_n 1, 1) := by decide +kernel
theorem dX7_picture_50 : decode cX7_picture 50 = .ok (.iastore, 1) := by decide +kernel
theorem dX7_picture_51 : decode cX7_picture 51 = .ok (.aload_n 0, 1) := by decide +kernel
theorem dX7_picture_52 : decode cX7_picture 52 = .ok (.getfield 13, 3) := by decide +kernel
theorem dX7_picture_55 : decode cX7_picture 55 = .ok (.aload_n 0, 1) := by decide +kernel
theorem dX7_picture_56 : decode cX7_picture 56 = .ok (.getfield 65, 3) := by decide +kernel
theorem dX7_picture_59 : decode cX7_picture 59 = .ok (.iload_n 2, 1) := by decide +kernel
theorem dX7_picture_60 : decode cX7_picture 60 = .ok (.iastore, 1) := by decide +kernel
theorem dX7_picture_61 : decode cX7_picture 61 = .ok (.aload_n 0, 1) := by decide +kernel
theorem dX7_picture_62 : decode cX7_picture 62 = .ok (.getfield 16, 3) := by decide +kernel
theorem dX7_picture_65 : decode cX7_picture 65 = .ok (.aload_n 0, 1) := by decide +kernel
theorem dX7_picture_66 : decode cX7_picture 66 = .ok (.getfield 65, 3) := by decide +kernel
theorem dX7_picture_69 : decode cX7_picture 69 = .ok (.iload_n 3, 1) := by decide +kernel
theorem dX7_picture_70 : decode cX7_picture 70 = .ok (.iastore, 1) := by decide +kernel
theorem dX7_picture_71 : decode cX7_picture 71 = .ok (.aload_n 0, 1) := by decide +kernel
theorem dX7_picture_72 : decode cX7_picture 72 = .ok (.getfield 19, 3) := by decide +kernel
theorem dX7_picture_75 : decode cX7_picture 75 = .ok (.aload_n 0, 1) := by decide +kernel
theorem dX7_picture_76 : decode cX7_picture 76 = .ok (.getfield 65, 3) := by decide +kernel
theorem dX7_picture_79 : decode cX7_picture 79 = .ok (.bipush (-6), 2) := by decide +kernel
theorem dX7_picture_81 : decode cX7_picture 81 = .ok (.iastore, 1) := by decide +kernel
theorem dX7_picture_82 : decode cX7_picture 82 = .ok (.aload_n 0, 1) := by decide +kernel
theorem dX7_picture_83 : decode cX7_picture 83 = .ok (.dup, 1) := by decide +kernel
theorem dX7_picture_84 : decode cX7_picture 84 = .ok (.getfield 65, 3) := by decide +kernel
theorem dX7_picture_87 : decode cX7_picture 87 = .ok (.iconst 1, 1) := by decide +kernel
theorem dX7_picture_88 : decode cX7_picture 88 = .ok (.iadd, 1) := by decide +kernel
theorem dX7_picture_89 : decode cX7_picture 89 = .ok (.putfield 65, 3) := by decide +kernel
theorem dX7_picture_92 : decode cX7_picture 92 = .ok (.aload_n 0, 1) := by decide +kernel
theorem dX7_picture_93 : decode cX7_picture 93 = .ok (.iconst 0, 1) := by decide +kernel
theorem dX7_picture_94 : decode cX7_picture 94 = .ok (.putfield 81, 3) := by decide +kernel
theorem dX7_picture_97 : decode cX7_picture 97 = .ok (.aload_n 0, 1) := by decide +kernel
theorem dX7_picture_98 : decode cX7_picture 98 = .ok (.getfield 65, 3) := by decide +kernel
theorem dX7_picture_101 : decode cX7_picture 101 = .ok (.iconst 1, 1) := by decide +kernel
theorem dX7_picture_102 : decode cX7_picture 102 = .ok (.isub, 1) := by decide +kernel
theorem dX7_picture_103 : decode cX7_picture 103 = .ok (.ireturn, 1) := by decide +kernel
theorem dX7_about_0 : decode cX7_about 0 = .ok (.aload_n 0, 1) := by decide +kernel
theorem dX7_about_1 : decode cX7_about 1 = .ok (.iload_n 1, 1) := by decide +kernel
theorem dX7_about_2 : decode cX7_about 2 = .ok (.invokevirtual 85, 3) := by decide +kernel
theorem dX7_about_5 : decode cX7_about 5 = .ok (.ifCond .ne 5, 3) := by decide +kernel
theorem dX7_about_8 : decode cX7_about 8 = .ok (.iconst (-1), 1) := by decide +kernel
theorem dX7_about_9 : decode cX7_about 9 = .ok (.ireturn, 1) := by decide +kernel
theorem dX7_about_10 : decode cX7_about 10 = .ok (.iload_n 2, 1) := by decide +kernel
theorem dX7_about_11 : decode cX7_about 11 = .ok (.ifCond .ne 12, 3) := by decide +kernel
theorem dX7_about_14 : decode cX7_about 14 = .ok (.aload_n 0, 1) := by decide +kernel
theorem dX7_about_15 : decode cX7_about 15 = .ok (.getfield 7, 3) := by decide +kernel
theorem dX7_about_18 : decode cX7_about 18 = .ok (.iload_n 1, 1) := by decide +kernel
theorem dX7_about_19 : decode cX7_about 19 = .ok (.iaload, 1) := by decide +kernel
theorem dX7_about_20 : decode cX7_about 20 = .ok (.goto 47, 3) := by decide +kernel
theorem dX7_about_23 : decode cX7_about 23 = .ok (.iload_n 2, 1) := by decide +kernel
theorem dX7_about_24 : decode cX7_about 24 = .ok (.iconst 1, 1) := by decide +kernel
theorem dX7_about_25 : decode cX7_about 25 = .ok (.if_icmp .ne 12, 3) := by decide +kernel
theorem dX7_about_28 : decode cX7_about 28 = .ok (.aload_n 0, 1) := by decide +kernel
theorem dX7_about_29 : decode cX7_about 29 = .ok (.getfield 13, 3) := by decide +kernel
theorem dX7_about_32 : decode cX7_about 32 = .ok (.iload_n 1, 1) := by decide +kernel
theorem dX7_about_33 : decode cX7_about 33 = .ok (.iaload, 1) := by decide +kernel
theorem dX7_about_34 : decode cX7_about 34 = .ok (.goto 33, 3) := by decide +kernel
theorem dX7_about_37 : decode cX7_about 37 = .ok (.iload_n 2, 1) := by decide +kernel
theorem dX7_about_38 : decode cX7_about 38 = .ok (.iconst 2, 1) := by decide +kernel
theorem dX7_about_39 : decode cX7_about 39 = .ok (.if_icmp .ne 12, 3) := by decide +kernel
theorem dX7_about_42 : decode cX7_about 42 = .ok (.aload_n 0, 1) := by decide +kernel
theorem dX7_about_43 : decode cX7_about 43 = .ok (.getfield 16, 3) := by decide +kernel
theorem dX7_about_46 : decode cX7_about 46 = .ok (.iload_n 1, 1) := by decide +kernel
theorem dX7_about_47 : decode cX7_about 47 = .ok (.iaload, 1) := by decide +kernel
theorem dX7_about_48 : decode cX7_about 48 = .ok (.goto 19, 3) := by decide +kernel
theorem dX7_about_51 : decode cX7_about 51 = .ok (.iload_n 2, 1) := by decide +kernel
theorem dX7_about_52 : decode cX7_about 52 = .ok (.iconst 3, 1) := by decide +kernel
theorem dX7_about_53 : decode cX7_about 53 = .ok (.if_icmp .ne 12, 3) := by decide +kernel
theorem dX7_about_56 : decode cX7_about 56 = .ok (.aload_n 0, 1) := by decide +kernel
theorem dX7_about_57 : decode cX7_about 57 = .ok (.getfield 19, 3) := by decide +kernel
theorem dX7_about_60 : decode cX7_about 60 = .ok (.iload_n 1, 1) := by decide +kernel
theorem dX7_about_61 : decode cX7_about 61 = .ok (.iaload, 1) := by decide +kernel
theorem dX7_about_62 : decode cX7_about 62 = .ok (.goto 5, 3) := by decide +kernel
theorem dX7_about_65 : decode cX7_about 65 = .ok (.bipush (-2), 2) := by decide +kernel
theorem dX7_about_67 : decode cX7_about 67 = .ok (.ireturn, 1) := by decide +kernel
theorem dX7_set_0 : decode cX7_set 0 = .ok (.iload_n 1, 1) := by decide +kernel
theorem dX7_set_1 : decode cX7_set 1 = .ok (.iconst 0, 1) := by decide +kernel
theorem dX7_set_2 : decode cX7_set 2 = .ok (.iconst 3, 1) := by decide +kernel
theorem dX7_set_3 : decode cX7_set 3 = .ok (.invokestatic 69, 3) := by decide +kernel
theorem dX7_set_6 : decode cX7_set 6 = .ok (.ifCond .eq 32, 3) := by decide +kernel
theorem dX7_set_9 : decode cX7_set 9 = .ok (.iload_n 2, 1) := by decide +kernel
theorem dX7_set_10 : decode cX7_set 10 = .ok (.iload_n 1, 1) := by decide +kernel
theorem dX7_set_11 : decode cX7_set 11 = .ok (.iconst 2, 1) := by decide +kernel
theorem dX7_set_12 : decode cX7_set 12 = .ok (.if_icmp .ge 7, 3) := by decide +kernel
theorem dX7_set_15 : decode cX7_set 15 = .ok (.iconst 0, 1) := by decide +kernel
theorem dX7_set_16 : decode cX7_set 16 = .ok (.goto 4, 3) := by decide +kernel
theorem dX7_set_19 : decode cX7_set 19 = .ok (.iconst 1, 1) := by decide +kernel
theorem dX7_set_20 : decode cX7_set 20 = .ok (.iload_n 1, 1) := by decide +kernel
theorem dX7_set_21 : decode cX7_set 21 = .ok (.iconst 2, 1) := by decide +kernel
theorem dX7_set_22 : decode cX7_set 22 = .ok (.if_icmp .ge 8, 3) := by decide +kernel
theorem dX7_set_25 : decode cX7_set 25 = .ok (.bipush 99, 2) := by decide +kernel
theorem dX7_set_27 : decode cX7_set 27 = .ok (.goto 5, 3) := by decide +kernel
theorem dX7_set_30 : decode cX7_set 30 = .ok (.bipush 30, 2) := by decide +kernel
theorem dX7_set_32 : decode cX7_set 32 = .ok (.invokestatic 69, 3) := by decide +kernel
theorem dX7_set_35 : decode cX7_set 35 = .ok (.ifCond .ne 6, 3) := by decide +kernel
theorem dX7_set_38 : decode cX7_set 38 = .ok (.bipush (-2), 2) := by decide +kernel
theorem dX7_set_40 : decode cX7_set 40 = .ok (.ireturn, 1) := by decide +kernel
theorem dX7_set_41 : decode cX7_set 41 = .ok (.aload_n 0, 1) := by decide +kernel
theorem dX7_set_42 : decode cX7_set 42 = .ok (.getfield 22, 3) := by decide +kernel
theorem dX7_set_45 : decode cX7_set 45 = .ok (.iload_n 1, 1) := by decide +kernel
theorem dX7_set_46 : decode cX7_set 46 = .ok (.iaload, 1) := by decide +kernel
theorem dX7_set_47 : decode cX7_set 47 = .ok (.istore_n 3, 1) := by decide +kernel
theorem dX7_set_48 : decode cX7_set 48 = .ok (.aload_n 0, 1) := by decide +kernel
theorem dX7_set_49 : decode cX7_set 49 = .ok (.getfield 22, 3) := by decide +kernel
theorem dX7_set_52 : decode cX7_set 52 = .ok (.iload_n 1, 1) := by decide +kernel
theorem dX7_set_53 : decode cX7_set 53 = .ok (.iload_n 2, 1) := by decide +kernel
theorem dX7_set_54 : decode cX7_set 54 = .ok (.iastore, 1) := by decide +kernel
theorem dX7_set_55 : decode cX7_set 55 = .ok (.aload_n 0, 1) := by decide +kernel
theorem dX7_set_56 : decode cX7_set 56 = .ok (.iconst 0, 1) := by decide +kernel
theorem dX7_set_57 : decode cX7_set 57 = .ok (.putfield 81, 3) := by decide +kernel
theorem dX7_set_60 : decode cX7_set 60 = .ok (.iload_n 3, 1) := by decide +kernel
theorem dX7_set_61 : decode cX7_set 61 = .ok (.ireturn, 1) := by decide +kernel
theorem dX7_say_0 : decode cX7_say 0 = .ok (.iload_n 1, 1) := by decide +kernel
theorem dX7_say_1 : decode cX7_say 1 = .ok (.bipush 33, 2) := by decide +kernel
theorem dX7_say_3 : decode cX7_say 3 = .ok (.bipush 126, 2) := by decide +kernel
theorem dX7_say_5 : decode cX7_say 5 = .ok (.invokestatic 69, 3) := by decide +kernel
theorem dX7_say_8 : decode cX7_say 8 = .ok (.ifCond .ne 6, 3) := by decide +kernel
theorem dX7_say_11 : decode cX7_say 11 = .ok (.bipush (-2), 2) := by decide +kernel
theorem dX7_say_13 : decode cX7_say 13 = .ok (.ireturn, 1) := by decide +kernel
theorem dX7_say_14 : decode cX7_say 14 = .ok (.aload_n 0, 1) := by decide +kernel
theorem dX7_say_15 : decode cX7_say 15 = .ok (.getfield 88, 3) := by decide +kernel
theorem dX7_say_18 : decode cX7_say 18 = .ok (.bipush 50, 2) := by decide +kernel
theorem dX7_say_20 : decode cX7_say 20 = .ok (.if_icmp .ne 6, 3) := by decide +kernel
theorem dX7_say_23 : decode cX7_say 23 = .ok (.bipush (-4), 2) := by decide +kernel
theorem dX7_say_25 : decode cX7_say 25 = .ok (.ireturn, 1) := by decide +kernel
theorem dX7_say_26 : decode cX7_say 26 = .ok (.aload_n 0, 1) := by decide +kernel
theorem dX7_say_27 : decode cX7_say 27 = .ok (.getfield 25, 3) := by decide +kernel
theorem dX7_say_30 : decode cX7_say 30 = .ok (.aload_n 0, 1) := by decide +kernel
theorem dX7_say_31 : decode cX7_say 31 = .ok (.getfield 88, 3) := by decide +kernel
theorem dX7_say_34 : decode cX7_say 34 = .ok (.iload_n 1, 1) := by decide +kernel
theorem dX7_say_35 : decode cX7_say 35 = .ok (.iastore, 1) := by decide +kernel
theorem dX7_say_36 : decode cX7_say 36 = .ok (.aload_n 0, 1) := by decide +kernel
theorem dX7_say_37 : decode cX7_say 37 = .ok (.dup, 1) := by decide +kernel
theorem dX7_say_38 : decode cX7_say 38 = .ok (.getfield 88, 3) := by decide +kernel
theorem dX7_say_41 : decode cX7_say 41 = .ok (.iconst 1, 1) := by decide +kernel
theorem dX7_say_42 : decode cX7_say 42 = .ok (.iadd, 1) := by decide +kernel
theorem dX7_say_43 : decode cX7_say 43 = .ok (.putfield 88, 3) := by decide +kernel
theorem dX7_say_46 : decode cX7_say 46 = .ok (.aload_n 0, 1) := by decide +kernel
theorem dX7_say_47 : decode cX7_say 47 = .ok (.getfield 88, 3) := by decide +kernel
theorem dX7_say_50 : decode cX7_say 50 = .ok (.ireturn, 1) := by decide +kernel
theorem dX7_wipe_0 : decode cX7_wipe 0 = .ok (.aload_n 0, 1) := by decide +kernel
theorem dX7_wipe_1 : decode cX7_wipe 1 = .ok (.getfield 88, 3) := by decide +kernel
theorem dX7_wipe_4 : decode cX7_wipe 4 = .ok (.istore_n 1, 1) := by decide +kernel
theorem dX7_wipe_5 : decode cX7_wipe 5 = .ok (.aload_n 0, 1) := by decide +kernel
theorem dX7_wipe_6 : decode cX7_wipe 6 = .ok (.iconst 0, 1) := by decide +kernel
theorem dX7_wipe_7 : decode cX7_wipe 7 = .ok (.putfield 88, 3) := by decide +kernel
theorem dX7_wipe_10 : decode cX7_wipe 10 = .ok (.iload_n 1, 1) := by decide +kernel
theorem dX7_wipe_11 : decode cX7_wipe 11 = .ok (.ireturn, 1) := by decide +kernel
theorem dX7_faultOf_0 : decode cX7_faultOf 0 = .ok (.iconst 0, 1) := by decide +kernel
theorem dX7_faultOf_1 : decode cX7_faultOf 1 = .ok (.istore_n 1, 1) := by decide +kernel
theorem dX7_faultOf_2 : decode cX7_faultOf 2 = .ok (.iconst 0, 1) := by decide +kernel
theorem dX7_faultOf_3 : decode cX7_faultOf 3 = .ok (.istore_n 2, 1) := by decide +kernel
theorem dX7_faultOf_4 : decode cX7_faultOf 4 = .ok (.iload_n 2, 1) := by decide +kernel
theorem dX7_faultOf_5 : decode cX7_faultOf 5 = .ok (.aload_n 0, 1) := by decide +kernel
theorem dX7_faultOf_6 : decode cX7_faultOf 6 = .ok (.getfield 88, 3) := by decide +kernel
theorem dX7_faultOf_9 : decode cX7_faultOf 9 = .ok (.if_icmp .ge 125, 3) := by decide +kernel
theorem dX7_faultOf_12 : decode cX7_faultOf 12 = .ok (.aload_n 0, 1) := by decide +kernel
theorem dX7_faultOf_13 : decode cX7_faultOf 13 = .ok (.getfield 25, 3) := by decide +kernel
theorem dX7_faultOf_16 : decode cX7_faultOf 16 = .ok (.iload_n 2, 1) := by decide +kernel
theorem dX7_faultOf_17 : decode cX7_faultOf 17 = .ok (.iaload, 1) := by decide +kernel
theorem dX7_faultOf_18 : decode cX7_faultOf 18 = .ok (.istore_n 3, 1) := by decide +kernel
theorem dX7_faultOf_19 : decode cX7_faultOf 19 = .ok (.bipush (-6), 2) := by decide +kernel
theorem dX7_faultOf_21 : decode cX7_faultOf 21 = .ok (.istore 4, 2) := by decide +kernel
theorem dX7_faultOf_23 : decode cX7_faultOf 23 = .ok (.iload_n 1, 1) := by decide +kernel
theorem dX7_faultOf_24 : decode cX7_faultOf 24 = .ok (.iconst 2, 1) := by decide +kernel
theorem dX7_faultOf_25 : decode cX7_faultOf 25 = .ok (.if_icmp .ge 33, 3) := by decide +kernel
theorem dX7_faultOf_28 : decode cX7_faultOf 28 = .ok (.iload_n 3, 1) := by decide +kernel
theorem dX7_faultOf_29 : decode cX7_faultOf 29 = .ok (.bipush 48, 2) := by decide +kernel
theorem dX7_faultOf_31 : decode cX7_faultOf 31 = .ok (.bipush 51, 2) := by decide +kernel
theorem dX7_faultOf_33 : decode cX7_faultOf 33 = .ok (.invokestatic 69, 3) := by decide +kernel
theorem dX7_faultOf_36 : decode cX7_faultOf 36 = .ok (.ifCond .ne 9, 3) := by decide +kernel
theorem dX7_faultOf_39 : decode cX7_faultOf 39 = .ok (.iload_n 3, 1) := by decide +kernel
theorem dX7_faultOf_40 : decode cX7_faultOf 40 = .ok (.bipush 42, 2) := by decide +kernel
theorem dX7_faultOf_42 : decode cX7_faultOf 42 = .ok (.if_icmp .ne 9, 3) := by decide +kernel
theorem dX7_faultOf_45 : decode cX7_faultOf 45 = .ok (.iload_n 1, 1) := by decide +kernel
theorem dX7_faultOf_46 : decode cX7_faultOf 46 = .ok (.iconst 1, 1) := by decide +kernel
theorem dX7_faultOf_47 : decode cX7_faultOf 47 = .ok (.iadd, 1) := by decide +kernel
theorem dX7_faultOf_48 : decode cX7_faultOf 48 = .ok (.goto 5, 3) := by decide +kernel
theorem dX7_faultOf_51 : decode cX7_faultOf 51 = .ok (.bipush (-6), 2) := by decide +kernel
theorem dX7_faultOf_53 : decode cX7_faultOf 53 = .ok (.istore 4, 2) := by decide +kernel
theorem dX7_faultOf_55 : decode cX7_faultOf 55 = .ok (.goto 63, 3) := by decide +kernel
theorem dX7_faultOf_58 : decode cX7_faultOf 58 = .ok (.iload_n 1, 1) := by decide +kernel
theorem dX7_faultOf_59 : decode cX7_faultOf 59 = .ok (.iconst 2, 1) := by decide +kernel
theorem dX7_faultOf_60 : decode cX7_faultOf 60 = .ok (.if_icmp .ne 20, 3) := by decide +kernel
theorem dX7_faultOf_63 : decode cX7_faultOf 63 = .ok (.iload_n 3, 1) := by decide +kernel
theorem dX7_faultOf_64 : decode cX7_faultOf 64 = .ok (.bipush 61, 2) := by decide +kernel
theorem dX7_faultOf_66 : decode cX7_faultOf 66 = .ok (.if_icmp .ne 7, 3) := by decide +kernel
theorem dX7_faultOf_69 : decode cX7_faultOf 69 = .ok (.iconst 3, 1) := by decide +kernel
theorem dX7_faultOf_70 : decode cX7_faultOf 70 = .ok (.goto 5, 3) := by decide +kernel
theorem dX7_faultOf_73 : decode cX7_faultOf 73 = .ok (.bipush (-6), 2) := by decide +kernel
theorem dX7_faultOf_75 : decode cX7_faultOf 75 = .ok (.istore 4, 2) := by decide +kernel
theorem dX7_faultOf_77 : decode cX7_faultOf 77 = .ok (.goto 41, 3) := by decide +kernel
theorem dX7_faultOf_80 : decode cX7_faultOf 80 = .ok (.iload_n 1, 1) := by decide +kernel
theorem dX7_faultOf_81 : decode cX7_faultOf 81 = .ok (.iconst 5, 1) := by decide +kernel
theorem dX7_faultOf_82 : decode cX7_faultOf 82 = .ok (.if_icmp .ge 22, 3) := by decide +kernel
theorem dX7_faultOf_85 : decode cX7_faultOf 85 = .ok (.iload_n 3, 1) := by decide +kernel
theorem dX7_faultOf_86 : decode cX7_faultOf 86 = .ok (.bipush 48, 2) := by decide +kernel
theorem dX7_faultOf_88 : decode cX7_faultOf 88 = .ok (.bipush 57, 2) := by decide +kernel
theorem dX7_faultOf_90 : decode cX7_faultOf 90 = .ok (.invokestatic 69, 3) := by decide +kernel
theorem dX7_faultOf_93 : decode cX7_faultOf 93 = .ok (.ifCond .eq 11, 3) := by decide +kernel
theorem dX7_faultOf_96 : decode cX7_faultOf 96 = .ok (.iload_n 1, 1) := by decide +kernel
theorem dX7_faultOf_97 : decode cX7_faultOf 97 = .ok (.iconst 1, 1) := by decide +kernel
theorem dX7_faultOf_98 : decode cX7_faultOf 98 = .ok (.iadd, 1) := by decide +kernel
theorem dX7_faultOf_99 : decode cX7_faultOf 99 = .ok (.istore 4, 2) := by decide +kernel
theorem dX7_faultOf_101 : decode cX7_faultOf 101 = .ok (.goto 17, 3) := by decide +kernel
theorem dX7_faultOf_104 : decode cX7_faultOf 104 = .ok (.iload_n 1, 1) := by decide +kernel
theorem dX7_faultOf_105 : decode cX7_faultOf 105 = .ok (.iconst 3, 1) := by decide +kernel
theorem dX7_faultOf_106 : decode cX7_faultOf 106 = .ok (.if_icmp .le 12, 3) := by decide +kernel
theorem dX7_faultOf_109 : decode cX7_faultOf 109 = .ok (.iload_n 3, 1) := by decide +kernel
theorem dX7_faultOf_110 : decode cX7_faultOf 110 = .ok (.bipush 59, 2) := by decide +kernel
theorem dX7_faultOf_112 : decode cX7_faultOf 112 = .ok (.if_icmp .ne 6, 3) := by decide +kernel
theorem dX7_faultOf_115 : decode cX7_faultOf 115 = .ok (.iconst 0, 1) := by decide +kernel
theorem dX7_faultOf_116 : decode cX7_faultOf 116 = .ok (.istore 4, 2) := by decide +kernel
theorem dX7_faultOf_118 : decode cX7_faultOf 118 = .ok (.iload 4, 2) := by decide +kernel
theorem dX7_faultOf_120 : decode cX7_faultOf 120 = .ok (.ifCond .ge 5, 3) := by decide +kernel
theorem dX7_faultOf_123 : decode cX7_faultOf 123 = .ok (.iload_n 2, 1) := by decide +kernel
theorem dX7_faultOf_124 : decode cX7_faultOf 124 = .ok (.ireturn, 1) := by decide +kernel
theorem dX7_faultOf_125 : decode cX7_faultOf 125 = .ok (.iload 4, 2) := by decide +kernel
theorem dX7_faultOf_127 : decode cX7_faultOf 127 = .ok (.istore_n 1, 1) := by decide +kernel
theorem dX7_faultOf_128 : decode cX7_faultOf 128 = .ok (.iinc 2 1, 3) := by decide +kernel
theorem dX7_faultOf_131 : decode cX7_faultOf 131 = .ok (.goto (-127), 3) := by decide +kernel
theorem dX7_faultOf_134 : decode cX7_faultOf 134 = .ok (.iload_n 1, 1) := by decide +kernel
theorem dX7_faultOf_135 : decode cX7_faultOf 135 = .ok (.iconst 3, 1) := by decide +kernel
theorem dX7_faultOf_136 : decode cX7_faultOf 136 = .ok (.if_icmp .le 8, 3) := by decide +kernel
theorem dX7_faultOf_139 : decode cX7_faultOf 139 = .ok (.bipush (-6), 2) := by decide +kernel
theorem dX7_faultOf_141 : decode cX7_faultOf 141 = .ok (.goto 7, 3) := by decide +kernel
theorem dX7_faultOf_144 : decode cX7_faultOf 144 = .ok (.aload_n 0, 1) := by decide +kernel
theorem dX7_faultOf_145 : decode cX7_faultOf 145 = .ok (.getfield 88, 3) := by decide +kernel
theorem dX7_faultOf_148 : decode cX7_faultOf 148 = .ok (.ireturn, 1) := by decide +kernel
theorem dX7_fault_0 : decode cX7_fault 0 = .ok (.aload_n 0, 1) := by decide +kernel
theorem dX7_fault_1 : decode cX7_fault 1 = .ok (.invokevirtual 91, 3) := by decide +kernel
theorem dX7_fault_4 : decode cX7_fault 4 = .ok (.ireturn, 1) := by decide +kernel
theorem dX7_lines_0 : decode cX7_lines 0 = .ok (.aload_n 0, 1) := by decide +kernel
theorem dX7_lines_1 : decode cX7_lines 1 = .ok (.getfield 95, 3) := by decide +kernel
theorem dX7_lines_4 : decode cX7_lines 4 = .ok (.ifCond .le 7, 3) := by decide +kernel
theorem dX7_lines_7 : decode cX7_lines 7 = .ok (.iconst 1, 1) := by decide +kernel
theorem dX7_lines_8 : decode cX7_lines 8 = .ok (.goto 4, 3) := by decide +kernel
theorem dX7_lines_11 : decode cX7_lines 11 = .ok (.iconst 0, 1) := by decide +kernel
theorem dX7_lines_12 : decode cX7_lines 12 = .ok (.istore_n 1, 1) := by decide +kernel
theorem dX7_lines_13 : decode cX7_lines 13 = .ok (.iconst 0, 1) := by decide +kernel
theorem dX7_lines_14 : decode cX7_lines 14 = .ok (.istore_n 2, 1) := by decide +kernel
theorem dX7_lines_15 : decode cX7_lines 15 = .ok (.iload_n 2, 1) := by decide +kernel
theorem dX7_lines_16 : decode cX7_lines 16 = .ok (.aload_n 0, 1) := by decide +kernel
theorem dX7_lines_17 : decode cX7_lines 17 = .ok (.getfield 95, 3) := by decide +kernel
theorem dX7_lines_20 : decode cX7_lines 20 = .ok (.if_icmp .ge 28, 3) := by decide +kernel
theorem dX7_lines_23 : decode cX7_lines 23 = .ok (.iload_n 1, 1) := by decide +kernel
theorem dX7_lines_24 : decode cX7_lines 24 = .ok (.aload_n 0, 1) := by decide +kernel
theorem dX7_lines_25 : decode cX7_lines 25 = .ok (.getfield 28, 3) := by decide +kernel
theorem dX7_lines_28 : decode cX7_lines 28 = .ok (.iload_n 2, 1) := by decide +kernel
theorem dX7_lines_29 : decode cX7_lines 29 = .ok (.iaload, 1) := by decide +kernel
theorem dX7_lines_30 : decode cX7_lines 30 = .ok (.bipush 59, 2) := by decide +kernel
theorem dX7_lines_32 : decode cX7_lines 32 = .ok (.if_icmp .ne 7, 3) := by decide +kernel
theorem dX7_lines_35 : decode cX7_lines 35 = .ok (.iconst 1, 1) := by decide +kernel
theorem dX7_lines_36 : decode cX7_lines 36 = .ok (.goto 4, 3) := by decide +kernel
theorem dX7_lines_39 : decode cX7_lines 39 = .ok (.iconst 0, 1) := by decide +kernel
theorem dX7_lines_40 : decode cX7_lines 40 = .ok (.iadd, 1) := by decide +kernel
theorem dX7_lines_41 : decode cX7_lines 41 = .ok (.istore_n 1, 1) := by decide +kernel
theorem dX7_lines_42 : decode cX7_lines 42 = .ok (.iinc 2 1, 3) := by decide +kernel
theorem dX7_lines_45 : decode cX7_lines 45 = .ok (.goto (-30), 3) := by decide +kernel
theorem dX7_lines_48 : decode cX7_lines 48 = .ok (.iload_n 1, 1) := by decide +kernel
theorem dX7_lines_49 : decode cX7_lines 49 = .ok (.ireturn, 1) := by decide +kernel
theorem dX7_laySlips_0 : decode cX7_laySlips 0 = .ok (.iconst 0, 1) := by decide +kernel
theorem dX7_laySlips_1 : decode cX7_laySlips 1 = .ok (.istore_n 1, 1) := by decide +kernel
theorem dX7_laySlips_2 : decode cX7_laySlips 2 = .ok (.iload_n 1, 1) := by decide +kernel
theorem dX7_laySlips_3 : decode cX7_laySlips 3 = .ok (.bipush 16, 2) := by decide +kernel
theorem dX7_laySlips_5 : decode cX7_laySlips 5 = .ok (.if_icmp .ge 30, 3) := by decide +kernel
theorem dX7_laySlips_8 : decode cX7_laySlips 8 = .ok (.aload_n 0, 1) := by decide +kernel
theorem dX7_laySlips_9 : decode cX7_laySlips 9 = .ok (.getfield 49, 3) := by decide +kernel
theorem dX7_laySlips_12 : decode cX7_laySlips 12 = .ok (.iload_n 1, 1) := by decide +kernel
theorem dX7_laySlips_13 : decode cX7_laySlips 13 = .ok (.iload_n 1, 1) := by decide +kernel
theorem dX7_laySlips_14 : decode cX7_laySlips 14 = .ok (.iconst 4, 1) := by decide +kernel
theorem dX7_laySlips_15 : decode cX7_laySlips 15 = .ok (.idiv, 1) := by decide +kernel
theorem dX7_laySlips_16 : decode cX7_laySlips 16 = .ok (.iload_n 1, 1) := by decide +kernel
theorem dX7_laySlips_17 : decode cX7_laySlips 17 = .ok (.iconst 4, 1) := by decide +kernel
theorem dX7_laySlips_18 : decode cX7_laySlips 18 = .ok (.irem, 1) := by decide +kernel
theorem dX7_laySlips_19 : decode cX7_laySlips 19 = .ok (.if_icmp .ne 7, 3) := by decide +kernel
theorem dX7_laySlips_22 : decode cX7_laySlips 22 = .ok (.iconst 0, 1) := by decide +kernel
theorem dX7_laySlips_23 : decode cX7_laySlips 23 = .ok (.goto 5, 3) := by decide +kernel
theorem dX7_laySlips_26 : decode cX7_laySlips 26 = .ok (.bipush 10, 2) := by decide +kernel
theorem dX7_laySlips_28 : decode cX7_laySlips 28 = .ok (.iastore, 1) := by decide +kernel
theorem dX7_laySlips_29 : decode cX7_laySlips 29 = .ok (.iinc 1 1, 3) := by decide +kernel
theorem dX7_laySlips_32 : decode cX7_laySlips 32 = .ok (.goto (-30), 3) := by decide +kernel
theorem dX7_laySlips_35 : decode cX7_laySlips 35 = .ok (.iconst 0, 1) := by decide +kernel
theorem dX7_laySlips_36 : decode cX7_laySlips 36 = .ok (.istore_n 1, 1) := by decide +kernel
theorem dX7_laySlips_37 : decode cX7_laySlips 37 = .ok (.iconst 0, 1) := by decide +kernel
theorem dX7_laySlips_38 : decode cX7_laySlips 38 = .ok (.istore_n 2, 1) := by decide +kernel
theorem dX7_laySlips_39 : decode cX7_laySlips 39 = .ok (.iload_n 2, 1) := by decide +kernel
theorem dX7_laySlips_40 : decode cX7_laySlips 40 = .ok (.aload_n 0, 1) := by decide +kernel
theorem dX7_laySlips_41 : decode cX7_laySlips 41 = .ok (.getfield 95, 3) := by decide +kernel
theorem dX7_laySlips_44 : decode cX7_laySlips 44 = .ok (.if_icmp .ge 174, 3) := by decide +kernel
theorem dX7_laySlips_47 : decode cX7_laySlips 47 = .ok (.aload_n 0, 1) := by decide +kernel
theorem dX7_laySlips_48 : decode cX7_laySlips 48 = .ok (.getfield 28, 3) := by decide +kernel
theorem dX7_laySlips_51 : decode cX7_laySlips 51 = .ok (.iload_n 2, 1) := by decide +kernel
theorem dX7_laySlips_52 : decode cX7_laySlips 52 = .ok (.iaload, 1) := by decide +kernel
theorem dX7_laySlips_53 : decode cX7_laySlips 53 = .ok (.istore_n 3, 1) := by decide +kernel
theorem dX7_laySlips_54 : decode cX7_laySlips 54 = .ok (.aload_n 0, 1) := by decide +kernel
theorem dX7_laySlips_55 : decode cX7_laySlips 55 = .ok (.getfield 28, 3) := by decide +kernel
theorem dX7_laySlips_58 : decode cX7_laySlips 58 = .ok (.iload_n 2, 1) := by decide +kernel
theorem dX7_laySlips_59 : decode cX7_laySlips 59 = .ok (.iconst 1, 1) := by decide +kernel
theorem dX7_laySlips_60 : decode cX7_laySlips 60 = .ok (.iadd, 1) := by decide +kernel
theorem dX7_laySlips_61 : decode cX7_laySlips 61 = .ok (.iaload, 1) := by decide +kernel
theorem dX7_laySlips_62 : decode cX7_laySlips 62 = .ok (.istore 4, 2) := by decide +kernel
theorem dX7_laySlips_64 : decode cX7_laySlips 64 = .ok (.iinc 2 3, 3) := by decide +kernel
theorem dX7_laySlips_67 : decode cX7_laySlips 67 = .ok (.iconst 0, 1) := by decide +kernel
theorem dX7_laySlips_68 : decode cX7_laySlips 68 = .ok (.istore 5, 2) := by decide +kernel
theorem dX7_laySlips_70 : decode cX7_laySlips 70 = .ok (.iload_n 2, 1) := by decide +kernel
theorem dX7_laySlips_71 : decode cX7_laySlips 71 = .ok (.aload_n 0, 1) := by decide +kernel
theorem dX7_laySlips_72 : decode cX7_laySlips 72 = .ok (.getfield 95, 3) := by decide +kernel
theorem dX7_laySlips_75 : decode cX7_laySlips 75 = .ok (.if_icmp .ge 37, 3) := by decide +kernel
theorem dX7_laySlips_78 : decode cX7_laySlips 78 = .ok (.aload_n 0, 1) := by decide +kernel
theorem dX7_laySlips_79 : decode cX7_laySlips 79 = .ok (.getfield 28, 3) := by decide +kernel
theorem dX7_laySlips_82 : decode cX7_laySlips 82 = .ok (.iload_n 2, 1) := by decide +kernel
theorem dX7_laySlips_83 : decode cX7_laySlips 83 = .ok (.iaload, 1) := by decide +kernel
theorem dX7_laySlips_84 : decode cX7_laySlips 84 = .ok (.bipush 59, 2) := by decide +kernel
theorem dX7_laySlips_86 : decode cX7_laySlips 86 = .ok (.if_icmp .eq 26, 3) := by decide +kernel
theorem dX7_laySlips_89 : decode cX7_laySlips 89 = .ok (.bipush 10, 2) := by decide +kernel
theorem dX7_laySlips_91 : decode cX7_laySlips 91 = .ok (.iload 5, 2) := by decide +kernel
theorem dX7_laySlips_93 : decode cX7_laySlips 93 = .ok (.imul, 1) := by decide +kernel
theorem dX7_laySlips_94 : decode cX7_laySlips 94 = .ok (.aload_n 0, 1) := by decide +kernel
theorem dX7_laySlips_95 : decode cX7_laySlips 95 = .ok (.getfield 28, 3) := by decide +kernel
theorem dX7_laySlips_98 : decode cX7_laySlips 98 = .ok (.iload_n 2, 1) := by decide +kernel
theorem dX7_laySlips_99 : decode cX7_laySlips 99 = .ok (.iaload, 1) := by decide +kernel
theorem dX7_laySlips_100 : decode cX7_laySlips 100 = .ok (.iadd, 1) := by decide +kernel
theorem dX7_laySlips_101 : decode cX7_laySlips 101 = .ok (.bipush 48, 2) := by decide +kernel
theorem dX7_laySlips_103 : decode cX7_laySlips 103 = .ok (.isub, 1) := by decide +kernel
theorem dX7_laySlips_104 : decode cX7_laySlips 104 = .ok (.istore 5, 2) := by decide +kernel
theorem dX7_laySlips_106 : decode cX7_laySlips 106 = .ok (.iinc 2 1, 3) := by decide +kernel
theorem dX7_laySlips_109 : decode cX7_laySlips 109 = .ok (.goto (-39), 3) := by decide +kernel
theorem dX7_laySlips_112 : decode cX7_laySlips 112 = .ok (.iinc 2 1, 3) := by decide +kernel
theorem dX7_laySlips_115 : decode cX7_laySlips 115 = .ok (.iconst 0, 1) := by decide +kernel
theorem dX7_laySlips_116 : decode cX7_laySlips 116 = .ok (.istore 6, 2) := by decide +kernel
theorem dX7_laySlips_118 : decode cX7_laySlips 118 = .ok (.iload 6, 2) := by decide +kernel
theorem dX7_laySlips_120 : decode cX7_laySlips 120 = .ok (.bipush 16, 2) := by decide +kernel
theorem dX7_laySlips_122 : decode cX7_laySlips 122 = .ok (.if_icmp .ge 93, 3) := by decide +kernel
theorem dX7_laySlips_125 : decode cX7_laySlips 125 = .ok (.iload_n 3, 1) := by decide +kernel
theorem dX7_laySlips_126 : decode cX7_laySlips 126 = .ok (.bipush 42, 2) := by decide +kernel
theorem dX7_laySlips_128 : decode cX7_laySlips 128 = .ok (.if_icmp .eq 14, 3) := by decide +kernel
theorem dX7_laySlips_131 : decode cX7_laySlips 131 = .ok (.iload_n 3, 1) := by decide +kernel
theorem dX7_laySlips_132 : decode cX7_laySlips 132 = .ok (.bipush 48, 2) := by decide +kernel
theorem dX7_laySlips_134 : decode cX7_laySlips 134 = .ok (.isub, 1) := by decide +kernel
theorem dX7_laySlips_135 : decode cX7_laySlips 135 = .ok (.iload 6, 2) := by decide +kernel
theorem dX7_laySlips_137 : decode cX7_laySlips 137 = .ok (.iconst 4, 1) := by decide +kernel
theorem dX7_laySlips_138 : decode cX7_laySlips 138 = .ok (.idiv, 1) := by decide +kernel
theorem dX7_laySlips_139 : decode cX7_laySlips 139 = .ok (.if_icmp .ne 26, 3) := by decide +kernel
theorem dX7_laySlips_142 : decode cX7_laySlips 142 = .ok (.iload 4, 2) := by decide +kernel
theorem dX7_laySlips_144 : decode cX7_laySlips 144 = .ok (.bipush 42, 2) := by decide +kernel
theorem dX7_laySlips_146 : decode cX7_laySlips 146 = .ok (.if_icmp .eq 15, 3) := by decide +kernel
theorem dX7_laySlips_149 : decode cX7_laySlips 149 = .ok (.iload 4, 2) := by decide +kernel
theorem dX7_laySlips_151 : decode cX7_laySlips 151 = .ok (.bipush 48, 2) := by decide +kernel
theorem dX7_laySlips_153 : decode cX7_laySlips 153 = .ok (.isub, 1) := by decide +kernel
theorem dX7_laySlips_154 : decode cX7_laySlips 154 = .ok (.iload 6, 2) := by decide +kernel
theorem dX7_laySlips_156 : decode cX7_laySlips 156 = .ok (.iconst 4, 1) := by decide +kernel
theorem dX7_laySlips_157 : decode cX7_laySlips 157 = .ok (.irem, 1) := by decide +kernel
theorem dX7_laySlips_158 : decode cX7_laySlips 158 = .ok (.if_icmp .ne 7, 3) := by decide +kernel
theorem dX7_laySlips_161 : decode cX7_laySlips 161 = .ok (.iconst 1, 1) := by decide +kernel
theorem dX7_laySlips_162 : decode cX7_laySlips 162 = .ok (.goto 4, 3) := by decide +kernel
theorem dX7_laySlips_165 : decode cX7_laySlips 165 = .ok (.iconst 0, 1) := by decide +kernel
theorem dX7_laySlips_166 : decode cX7_laySlips 166 = .ok (.istore 7, 2) := by decide +kernel
theorem dX7_laySlips_168 : decode cX7_laySlips 168 = .ok (.iload 7, 2) := by decide +kernel
theorem dX7_laySlips_170 : decode cX7_laySlips 170 = .ok (.ifCond .eq 39, 3) := by decide +kernel
theorem dX7_laySlips_173 : decode cX7_laySlips 173 = .ok (.iload 6, 2) := by decide +kernel
theorem dX7_laySlips_175 : decode cX7_laySlips 175 = .ok (.iconst 4, 1) := by decide +kernel
theorem dX7_laySlips_176 : decode cX7_laySlips 176 = .ok (.idiv, 1) := by decide +kernel
theorem dX7_laySlips_177 : decode cX7_laySlips 177 = .ok (.iload 6, 2) := by decide +kernel
theorem dX7_laySlips_179 : decode cX7_laySlips 179 = .ok (.iconst 4, 1) := by decide +kernel
theorem dX7_laySlips_180 : decode cX7_laySlips 180 = .ok (.irem, 1) := by decide +kernel
theorem dX7_laySlips_181 : decode cX7_laySlips 181 = .ok (.if_icmp .eq 28, 3) := by decide +kernel
theorem dX7_laySlips_184 : decode cX7_laySlips 184 = .ok (.iload_n 1, 1) := by decide +kernel
theorem dX7_laySlips_185 : decode cX7_laySlips 185 = .ok (.iload 6, 2) := by decide +kernel
theorem dX7_laySlips_187 : decode cX7_laySlips 187 = .ok (.ishr, 1) := by decide +kernel
theorem dX7_laySlips_188 : decode cX7_laySlips 188 = .ok (.iconst 1, 1) := by decide +kernel
theorem dX7_laySlips_189 : decode cX7_laySlips 189 = .ok (.iand, 1) := by decide +kernel
theorem dX7_laySlips_190 : decode cX7_laySlips 190 = .ok (.ifCond .ne 19, 3) := by decide +kernel
theorem dX7_laySlips_193 : decode cX7_laySlips 193 = .ok (.aload_n 0, 1) := by decide +kernel
theorem dX7_laySlips_194 : decode cX7_laySlips 194 = .ok (.getfield 49, 3) := by decide +kernel
theorem dX7_laySlips_197 : decode cX7_laySlips 197 = .ok (.iload 6, 2) := by decide +kernel
theorem dX7_laySlips_199 : decode cX7_laySlips 199 = .ok (.iload 5, 2) := by decide +kernel
theorem dX7_laySlips_201 : decode cX7_laySlips 201 = .ok (.iastore, 1) := by decide +kernel
theorem dX7_laySlips_202 : decode cX7_laySlips 202 = .ok (.iload_n 1, 1) := by decide +kernel
theorem dX7_laySlips_203 : decode cX7_laySlips 203 = .ok (.iconst 1, 1) := by decide +kernel
theorem dX7_laySlips_204 : decode cX7_laySlips 204 = .ok (.iload 6, 2) := by decide +kernel
theorem dX7_laySlips_206 : decode cX7_laySlips 206 = .ok (.ishl, 1) := by decide +kernel
theorem dX7_laySlips_207 : decode cX7_laySlips 207 = .ok (.ior, 1) := by decide +kernel
theorem dX7_laySlips_208 : decode cX7_laySlips 208 = .ok (.istore_n 1, 1) := by decide +kernel
theorem dX7_laySlips_209 : decode cX7_laySlips 209 = .ok (.iinc 6 1, 3) := by decide +kernel
theorem dX7_laySlips_212 : decode cX7_laySlips 212 = .ok (.goto (-94), 3) := by decide +kernel
theorem dX7_laySlips_215 : decode cX7_laySlips 215 = .ok (.goto (-176), 3) := by decide +kernel
theorem dX7_laySlips_218 : decode cX7_laySlips 218 = .ok (.return_, 1) := by decide +kernel
theorem dX7_law_0 : decode cX7_law 0 = .ok (.aload_n 0, 1) := by decide +kernel
theorem dX7_law_1 : decode cX7_law 1 = .ok (.invokevirtual 91, 3) := by decide +kernel
theorem dX7_law_4 : decode cX7_law 4 = .ok (.ifCond .lt 6, 3) := by decide +kernel
theorem dX7_law_7 : decode cX7_law 7 = .ok (.bipush (-5), 2) := by decide +kernel
theorem dX7_law_9 : decode cX7_law 9 = .ok (.ireturn, 1) := by decide +kernel
theorem dX7_law_10 : decode cX7_law 10 = .ok (.aload_n 0, 1) := by decide +kernel
theorem dX7_law_11 : decode cX7_law 11 = .ok (.aload_n 0, 1) := by decide +kernel
theorem dX7_law_12 : decode cX7_law 12 = .ok (.getfield 88, 3) := by decide +kernel
theorem dX7_law_15 : decode cX7_law 15 = .ok (.putfield 95, 3) := by decide +kernel
theorem dX7_law_18 : decode cX7_law 18 = .ok (.iconst 0, 1) := by decide +kernel
theorem dX7_law_19 : decode cX7_law 19 = .ok (.istore_n 1, 1) := by decide +kernel
theorem dX7_law_20 : decode cX7_law 20 = .ok (.iload_n 1, 1) := by decide +kernel
theorem dX7_law_21 : decode cX7_law 21 = .ok (.aload_n 0, 1) := by decide +kernel
theorem dX7_law_22 : decode cX7_law 22 = .ok (.getfield 88, 3) := by decide +kernel
theorem dX7_law_25 : decode cX7_law 25 = .ok (.if_icmp .ge 21, 3) := by decide +kernel
theorem dX7_law_28 : decode cX7_law 28 = .ok (.aload_n 0, 1) := by decide +kernel
theorem dX7_law_29 : decode cX7_law 29 = .ok (.getfield 28, 3) := by decide +kernel
theorem dX7_law_32 : decode cX7_law 32 = .ok (.iload_n 1, 1) := by decide +kernel
theorem dX7_law_33 : decode cX7_law 33 = .ok (.aload_n 0, 1) := by decide +kernel
theorem dX7_law_34 : decode cX7_law 34 = .ok (.getfield 25, 3) := by decide +kernel
theorem dX7_law_37 : decode cX7_law 37 = .ok (.iload_n 1, 1) := by decide +kernel
theorem dX7_law_38 : decode cX7_law 38 = .ok (.iaload, 1) := by decide +kernel
theorem dX7_law_39 : decode cX7_law 39 = .ok (.iastore, 1) := by decide +kernel
theorem dX7_law_40 : decode cX7_law 40 = .ok (.iinc 1 1, 3) := by decide +kernel
theorem dX7_law_43 : decode cX7_law 43 = .ok (.goto (-23), 3) := by decide +kernel
theorem dX7_law_46 : decode cX7_law 46 = .ok (.aload_n 0, 1) := by decide +kernel
theorem dX7_law_47 : decode cX7_law 47 = .ok (.iconst 0, 1) := by decide +kernel
theorem dX7_law_48 : decode cX7_law 48 = .ok (.putfield 88, 3) := by decide +kernel
theorem dX7_law_51 : decode cX7_law 51 = .ok (.aload_n 0, 1) := by decide +kernel
theorem dX7_law_52 : decode cX7_law 52 = .ok (.iconst 0, 1) := by decide +kernel
theorem dX7_law_53 : decode cX7_law 53 = .ok (.putfield 81, 3) := by decide +kernel
theorem dX7_law_56 : decode cX7_law 56 = .ok (.aload_n 0, 1) := by decide +kernel
theorem dX7_law_57 : decode cX7_law 57 = .ok (.invokevirtual 98, 3) := by decide +kernel
theorem dX7_law_60 : decode cX7_law 60 = .ok (.ireturn, 1) := by decide +kernel
theorem dX7_slip_0 : decode cX7_slip 0 = .ok (.iload_n 1, 1) := by decide +kernel
theorem dX7_slip_1 : decode cX7_slip 1 = .ok (.iconst 0, 1) := by decide +kernel
theorem dX7_slip_2 : decode cX7_slip 2 = .ok (.iconst 3, 1) := by decide +kernel
theorem dX7_slip_3 : decode cX7_slip 3 = .ok (.invokestatic 69, 3) := by decide +kernel
theorem dX7_slip_6 : decode cX7_slip 6 = .ok (.ifCond .eq 12, 3) := by decide +kernel
theorem dX7_slip_9 : decode cX7_slip 9 = .ok (.iload_n 2, 1) := by decide +kernel
theorem dX7_slip_10 : decode cX7_slip 10 = .ok (.iconst 0, 1) := by decide +kernel
theorem dX7_slip_11 : decode cX7_slip 11 = .ok (.iconst 3, 1) := by decide +kernel
theorem dX7_slip_12 : decode cX7_slip 12 = .ok (.invokestatic 69, 3) := by decide +kernel
theorem dX7_slip_15 : decode cX7_slip 15 = .ok (.ifCond .ne 6, 3) := by decide +kernel
theorem dX7_slip_18 : decode cX7_slip 18 = .ok (.bipush (-2), 2) := by decide +kernel
theorem dX7_slip_20 : decode cX7_slip 20 = .ok (.ireturn, 1) := by decide +kernel
theorem dX7_slip_21 : decode cX7_slip 21 = .ok (.aload_n 0, 1) := by decide +kernel
theorem dX7_slip_22 : decode cX7_slip 22 = .ok (.invokevirtual 101, 3) := by decide +kernel
theorem dX7_slip_25 : decode cX7_slip 25 = .ok (.aload_n 0, 1) := by decide +kernel
theorem dX7_slip_26 : decode cX7_slip 26 = .ok (.getfield 49, 3) := by decide +kernel
theorem dX7_slip_29 : decode cX7_slip 29 = .ok (.iconst 4, 1) := by decide +kernel
theorem dX7_slip_30 : decode cX7_slip 30 = .ok (.iload_n 1, 1) := by decide +kernel
theorem dX7_slip_31 : decode cX7_slip 31 = .ok (.imul, 1) := by decide +kernel
theorem dX7_slip_32 : decode cX7_slip 32 = .ok (.iload_n 2, 1) := by decide +kernel
theorem dX7_slip_33 : decode cX7_slip 33 = .ok (.iadd, 1) := by decide +kernel
theorem dX7_slip_34 : decode cX7_slip 34 = .ok (.iaload, 1) := by decide +kernel
theorem dX7_slip_35 : decode cX7_slip 35 = .ok (.ireturn, 1) := by decide +kernel
theorem dX7_costOf_0 : decode cX7_costOf 0 = .ok (.iconst 0, 1) := by decide +kernel
theorem dX7_costOf_1 : decode cX7_costOf 1 = .ok (.istore_n 3, 1) := by decide +kernel
theorem dX7_costOf_2 : decode cX7_costOf 2 = .ok (.iconst 0, 1) := by decide +kernel
theorem dX7_costOf_3 : decode cX7_costOf 3 = .ok (.istore 4, 2) := by decide +kernel
theorem dX7_costOf_5 : decode cX7_costOf 5 = .ok (.iload 4, 2) := by decide +kernel
theorem dX7_costOf_7 : decode cX7_costOf 7 = .ok (.bipush 8, 2) := by decide +kernel
theorem dX7_costOf_9 : decode cX7_costOf 9 = .ok (.if_icmp .ge 32, 3) := by decide +kernel
theorem dX7_costOf_12 : decode cX7_costOf 12 = .ok (.iload_n 3, 1) := by decide +kernel
theorem dX7_costOf_13 : decode cX7_costOf 13 = .ok (.aload_n 0, 1) := by decide +kernel
theorem dX7_costOf_14 : decode cX7_costOf 14 = .ok (.getfield 49, 3) := by decide +kernel
theorem dX7_costOf_17 : decode cX7_costOf 17 = .ok (.iconst 4, 1) := by decide +kernel
theorem dX7_costOf_18 : decode cX7_costOf 18 = .ok (.iload_n 1, 1) := by decide +kernel
theorem dX7_costOf_19 : decode cX7_costOf 19 = .ok (.iload 4, 2) := by decide +kernel
theorem dX7_costOf_21 : decode cX7_costOf 21 = .ok (.invokestatic 104, 3) := by decide +kernel
theorem dX7_costOf_24 : decode cX7_costOf 24 = .ok (.imul, 1) := by decide +kernel
theorem dX7_costOf_25 : decode cX7_costOf 25 = .ok (.iload_n 2, 1) := by decide +kernel
theorem dX7_costOf_26 : decode cX7_costOf 26 = .ok (.iload 4, 2) := by decide +kernel
theorem dX7_costOf_28 : decode cX7_costOf 28 = .ok (.invokestatic 104, 3) := by decide +kernel
theorem dX7_costOf_31 : decode cX7_costOf 31 = .ok (.iadd, 1) := by decide +kernel
theorem dX7_costOf_32 : decode cX7_costOf 32 = .ok (.iaload, 1) := by decide +kernel
theorem dX7_costOf_33 : decode cX7_costOf 33 = .ok (.iadd, 1) := by decide +kernel
theorem dX7_costOf_34 : decode cX7_costOf 34 = .ok (.istore_n 3, 1) := by decide +kernel
theorem dX7_costOf_35 : decode cX7_costOf 35 = .ok (.iinc 4 1, 3) := by decide +kernel
theorem dX7_costOf_38 : decode cX7_costOf 38 = .ok (.goto (-33), 3) := by decide +kernel
theorem dX7_costOf_41 : decode cX7_costOf 41 = .ok (.iload_n 3, 1) := by decide +kernel
theorem dX7_costOf_42 : decode cX7_costOf 42 = .ok (.ireturn, 1) := by decide +kernel
theorem dX7_cost_0 : decode cX7_cost 0 = .ok (.iload_n 1, 1) := by decide +kernel
theorem dX7_cost_1 : decode cX7_cost 1 = .ok (.invokestatic 74, 3) := by decide +kernel
theorem dX7_cost_4 : decode cX7_cost 4 = .ok (.ifCond .eq 10, 3) := by decide +kernel
theorem dX7_cost_7 : decode cX7_cost 7 = .ok (.iload_n 2, 1) := by decide +kernel
theorem dX7_cost_8 : decode cX7_cost 8 = .ok (.invokestatic 74, 3) := by decide +kernel
theorem dX7_cost_11 : decode cX7_cost 11 = .ok (.ifCond .ne 6, 3) := by decide +kernel
theorem dX7_cost_14 : decode cX7_cost 14 = .ok (.bipush (-2), 2) := by decide +kernel
theorem dX7_cost_16 : decode cX7_cost 16 = .ok (.ireturn, 1) := by decide +kernel
theorem dX7_cost_17 : decode cX7_cost 17 = .ok (.aload_n 0, 1) := by decide +kernel
theorem dX7_cost_18 : decode cX7_cost 18 = .ok (.invokevirtual 101, 3) := by decide +kernel
theorem dX7_cost_21 : decode cX7_cost 21 = .ok (.aload_n 0, 1) := by decide +kernel
theorem dX7_cost_22 : decode cX7_cost 22 = .ok (.iload_n 1, 1) := by decide +kernel
theorem dX7_cost_23 : decode cX7_cost 23 = .ok (.iload_n 2, 1) := by decide +kernel
theorem dX7_cost_24 : decode cX7_cost 24 = .ok (.invokevirtual 108, 3) := by decide +kernel
theorem dX7_cost_27 : decode cX7_cost 27 = .ok (.ireturn, 1) := by decide +kernel
theorem dX7_rows_0 : decode cX7_rows 0 = .ok (.iconst 1, 1) := by decide +kernel
theorem dX7_rows_1 : decode cX7_rows 1 = .ok (.istore_n 1, 1) := by decide +kernel
theorem dX7_rows_2 : decode cX7_rows 2 = .ok (.iconst 0, 1) := by decide +kernel
theorem dX7_rows_3 : decode cX7_rows 3 = .ok (.istore_n 2, 1) := by decide +kernel
theorem dX7_rows_4 : decode cX7_rows 4 = .ok (.iload_n 2, 1) := by decide +kernel
theorem dX7_rows_5 : decode cX7_rows 5 = .ok (.aload_n 0, 1) := by decide +kernel
theorem dX7_rows_6 : decode cX7_rows 6 = .ok (.getfield 65, 3) := by decide +kernel
theorem dX7_rows_9 : decode cX7_rows 9 = .ok (.if_icmp .ge 14, 3) := by decide +kernel
theorem dX7_rows_12 : decode cX7_rows 12 = .ok (.iload_n 1, 1) := by decide +kernel
theorem dX7_rows_13 : decode cX7_rows 13 = .ok (.bipush 7, 2) := by decide +kernel
theorem dX7_rows_15 : decode cX7_rows 15 = .ok (.imul, 1) := by decide +kernel
theorem dX7_rows_16 : decode cX7_rows 16 = .ok (.istore_n 1, 1) := by decide +kernel
theorem dX7_rows_17 : decode cX7_rows 17 = .ok (.iinc 2 1, 3) := by decide +kernel
theorem dX7_rows_20 : decode cX7_rows 20 = .ok (.goto (-16), 3) := by decide +kernel
theorem dX7_rows_23 : decode cX7_rows 23 = .ok (.iload_n 1, 1) := by decide +kernel
theorem dX7_rows_24 : decode cX7_rows 24 = .ok (.ireturn, 1) := by decide +kernel
theorem dX7_layRow_0 : decode cX7_layRow 0 = .ok (.iload_n 1, 1) := by decide +kernel
theorem dX7_layRow_1 : decode cX7_layRow 1 = .ok (.istore_n 2, 1) := by decide +kernel
theorem dX7_layRow_2 : decode cX7_layRow 2 = .ok (.iconst 0, 1) := by decide +kernel
theorem dX7_layRow_3 : decode cX7_layRow 3 = .ok (.istore_n 3, 1) := by decide +kernel
theorem dX7_layRow_4 : decode cX7_layRow 4 = .ok (.aload_n 0, 1) := by decide +kernel
theorem dX7_layRow_5 : decode cX7_layRow 5 = .ok (.getfield 65, 3) := by decide +kernel
theorem dX7_layRow_8 : decode cX7_layRow 8 = .ok (.iconst 1, 1) := by decide +kernel
theorem dX7_layRow_9 : decode cX7_layRow 9 = .ok (.isub, 1) := by decide +kernel
theorem dX7_layRow_10 : decode cX7_layRow 10 = .ok (.istore 4, 2) := by decide +kernel
theorem dX7_layRow_12 : decode cX7_layRow 12 = .ok (.iload 4, 2) := by decide +kernel
theorem dX7_layRow_14 : decode cX7_layRow 14 = .ok (.ifCond .lt 46, 3) := by decide +kernel
theorem dX7_layRow_17 : decode cX7_layRow 17 = .ok (.aload_n 0, 1) := by decide +kernel
theorem dX7_layRow_18 : decode cX7_layRow 18 = .ok (.getfield 55, 3) := by decide +kernel
theorem dX7_layRow_21 : decode cX7_layRow 21 = .ok (.iload 4, 2) := by decide +kernel
theorem dX7_layRow_23 : decode cX7_layRow 23 = .ok (.iload_n 2, 1) := by decide +kernel
theorem dX7_layRow_24 : decode cX7_layRow 24 = .ok (.bipush 7, 2) := by decide +kernel
theorem dX7_layRow_26 : decode cX7_layRow 26 = .ok (.irem, 1) := by decide +kernel
theorem dX7_layRow_27 : decode cX7_layRow 27 = .ok (.iastore, 1) := by decide +kernel
theorem dX7_layRow_28 : decode cX7_layRow 28 = .ok (.iload_n 2, 1) := by decide +kernel
theorem dX7_layRow_29 : decode cX7_layRow 29 = .ok (.bipush 7, 2) := by decide +kernel
theorem dX7_layRow_31 : decode cX7_layRow 31 = .ok (.idiv, 1) := by decide +kernel
theorem dX7_layRow_32 : decode cX7_layRow 32 = .ok (.istore_n 2, 1) := by decide +kernel
theorem dX7_layRow_33 : decode cX7_layRow 33 = .ok (.iload_n 3, 1) := by decide +kernel
theorem dX7_layRow_34 : decode cX7_layRow 34 = .ok (.aload_n 0, 1) := by decide +kernel
theorem dX7_layRow_35 : decode cX7_layRow 35 = .ok (.getfield 52, 3) := by decide +kernel
theorem dX7_layRow_38 : decode cX7_layRow 38 = .ok (.bipush 7, 2) := by decide +kernel
theorem dX7_layRow_40 : decode cX7_layRow 40 = .ok (.iload 4, 2) := by decide +kernel
theorem dX7_layRow_42 : decode cX7_layRow 42 = .ok (.imul, 1) := by decide +kernel
theorem dX7_layRow_43 : decode cX7_layRow 43 = .ok (.aload_n 0, 1) := by decide +kernel
theorem dX7_layRow_44 : decode cX7_layRow 44 = .ok (.getfield 55, 3) := by decide +kernel
theorem dX7_layRow_47 : decode cX7_layRow 47 = .ok (.iload 4, 2) := by decide +kernel
theorem dX7_layRow_49 : decode cX7_layRow 49 = .ok (.iaload, 1) := by decide +kernel
theorem dX7_layRow_50 : decode cX7_layRow 50 = .ok (.iadd, 1) := by decide +kernel
theorem dX7_layRow_51 : decode cX7_layRow 51 = .ok (.iaload, 1) := by decide +kernel
theorem dX7_layRow_52 : decode cX7_layRow 52 = .ok (.iadd, 1) := by decide +kernel
theorem dX7_layRow_53 : decode cX7_layRow 53 = .ok (.istore_n 3, 1) := by decide +kernel
theorem dX7_layRow_54 : decode cX7_layRow 54 = .ok (.iinc 4 (-1), 3) := by decide +kernel
theorem dX7_layRow_57 : decode cX7_layRow 57 = .ok (.goto (-45), 3) := by decide +kernel
theorem dX7_layRow_60 : decode cX7_layRow 60 = .ok (.iload_n 3, 1) := by decide +kernel
theorem dX7_layRow_61 : decode cX7_layRow 61 = .ok (.ldc 111, 2) := by decide +kernel
theorem dX7_layRow_63 : decode cX7_layRow 63 = .ok (.if_icmp .lt 6, 3) := by decide +kernel
theorem dX7_layRow_66 : decode cX7_layRow 66 = .ok (.ldc 111, 2) := by decide +kernel
theorem dX7_layRow_68 : decode cX7_layRow 68 = .ok (.ireturn, 1) := by decide +kernel
theorem dX7_layRow_69 : decode cX7_layRow 69 = .ok (.iconst 0, 1) := by decide +kernel
theorem dX7_layRow_70 : decode cX7_layRow 70 = .ok (.istore 4, 2) := by decide +kernel
theorem dX7_layRow_72 : decode cX7_layRow 72 = .ok (.iload 4, 2) := by decide +kernel
theorem dX7_layRow_74 : decode cX7_layRow 74 = .ok (.aload_n 0, 1) := by decide +kernel
theorem dX7_layRow_75 : decode cX7_layRow 75 = .ok (.getfield 65, 3) := by decide +kernel
theorem dX7_layRow_78 : decode cX7_layRow 78 = .ok (.if_icmp .ge 57, 3) := by decide +kernel
theorem dX7_layRow_81 : decode cX7_layRow 81 = .ok (.iload 4, 2) := by decide +kernel
theorem dX7_layRow_83 : decode cX7_layRow 83 = .ok (.istore 5, 2) := by decide +kernel
theorem dX7_layRow_85 : decode cX7_layRow 85 = .ok (.iconst 0, 1) := by decide +kernel
theorem dX7_layRow_86 : decode cX7_layRow 86 = .ok (.istore 6, 2) := by decide +kernel
theorem dX7_layRow_88 : decode cX7_layRow 88 = .ok (.iload 6, 2) := by decide +kernel
theorem dX7_layRow_90 : decode cX7_layRow 90 = .ok (.aload_n 0, 1) := by decide +kernel
theorem dX7_layRow_91 : decode cX7_layRow 91 = .ok (.getfield 65, 3) := by decide +kernel
theorem dX7_layRow_94 : decode cX7_layRow 94 = .ok (.if_icmp .ge 25, 3) := by decide +kernel
theorem dX7_layRow_97 : decode cX7_layRow 97 = .ok (.iload 5, 2) := by decide +kernel
theorem dX7_layRow_99 : decode cX7_layRow 99 = .ok (.bipush 6, 2) := by decide +kernel
theorem dX7_layRow_101 : decode cX7_layRow 101 = .ok (.if_icmp .ge 18, 3) := by decide +kernel
theorem dX7_layRow_104 : decode cX7_layRow 104 = .ok (.aload_n 0, 1) := by decide +kernel
theorem dX7_layRow_105 : decode cX7_layRow 105 = .ok (.getfield 55, 3) := by decide +kernel
theorem dX7_layRow_108 : decode cX7_layRow 108 = .ok (.iload 5, 2) := by decide +kernel
theorem dX7_layRow_110 : decode cX7_layRow 110 = .ok (.iaload, 1) := by decide +kernel
theorem dX7_layRow_111 : decode cX7_layRow 111 = .ok (.istore 5, 2) := by decide +kernel
theorem dX7_layRow_113 : decode cX7_layRow 113 = .ok (.iinc 6 1, 3) := by decide +kernel
theorem dX7_layRow_116 : decode cX7_layRow 116 = .ok (.goto (-28), 3) := by decide +kernel
theorem dX7_layRow_119 : decode cX7_layRow 119 = .ok (.iload 5, 2) := by decide +kernel
theorem dX7_layRow_121 : decode cX7_layRow 121 = .ok (.bipush 6, 2) := by decide +kernel
theorem dX7_layRow_123 : decode cX7_layRow 123 = .ok (.if_icmp .ge 6, 3) := by decide +kernel
theorem dX7_layRow_126 : decode cX7_layRow 126 = .ok (.ldc 111, 2) := by decide +kernel
theorem dX7_layRow_128 : decode cX7_layRow 128 = .ok (.ireturn, 1) := by decide +kernel
theorem dX7_layRow_129 : decode cX7_layRow 129 = .ok (.iinc 4 1, 3) := by decide +kernel
theorem dX7_layRow_132 : decode cX7_layRow 132 = .ok (.goto (-60), 3) := by decide +kernel
theorem dX7_layRow_135 : decode cX7_layRow 135 = .ok (.iload_n 3, 1) := by decide +kernel
theorem dX7_layRow_136 : decode cX7_layRow 136 = .ok (.ireturn, 1) := by decide +kernel
theorem dX7_layTrees_0 : decode cX7_layTrees 0 = .ok (.aload_n 0, 1) := by decide +kernel
theorem dX7_layTrees_1 : decode cX7_layTrees 1 = .ok (.getfield 81, 3) := by decide +kernel
theorem dX7_layTrees_4 : decode cX7_layTrees 4 = .ok (.ifCond .eq 4, 3) := by decide +kernel
theorem dX7_layTrees_7 : decode cX7_layTrees 7 = .ok (.return_, 1) := by decide +kernel
theorem dX7_layTrees_8 : decode cX7_layTrees 8 = .ok (.aload_n 0, 1) := by decide +kernel
theorem dX7_layTrees_9 : decode cX7_layTrees 9 = .ok (.iconst 1, 1) := by decide +kernel
theorem dX7_layTrees_10 : decode cX7_layTrees 10 = .ok (.putfield 81, 3) := by decide +kernel
theorem dX7_layTrees_13 : decode cX7_layTrees 13 = .ok (.aload_n 0, 1) := by decide +kernel
theorem dX7_layTrees_14 : decode cX7_layTrees 14 = .ok (.invokevirtual 101, 3) := by decide +kernel
theorem dX7_layTrees_17 : decode cX7_layTrees 17 = .ok (.iconst 0, 1) := by decide +kernel
theorem dX7_layTrees_18 : decode cX7_layTrees 18 = .ok (.istore_n 1, 1) := by decide +kernel
theorem dX7_layTrees_19 : decode cX7_layTrees 19 = .ok (.iload_n 1, 1) := by decide +kernel
theorem dX7_layTrees_20 : decode cX7_layTrees 20 = .ok (.aload_n 0, 1) := by decide +kernel
theorem dX7_layTrees_21 : decode cX7_layTrees 21 = .ok (.getfield 65, 3) := by decide +kernel
theorem dX7_layTrees_24 : decode cX7_layTrees 24 = .ok (.if_icmp .ge 111, 3) := by decide +kernel
theorem dX7_layTrees_27 : decode cX7_layTrees 27 = .ok (.iconst 0, 1) := by decide +kernel
theorem dX7_layTrees_28 : decode cX7_layTrees 28 = .ok (.istore_n 2, 1) := by decide +kernel
theorem dX7_layTrees_29 : decode cX7_layTrees 29 = .ok (.iload_n 2, 1) := by decide +kernel
theorem dX7_layTrees_30 : decode cX7_layTrees 30 = .ok (.bipush 6, 2) := by decide +kernel
theorem dX7_layTrees_32 : decode cX7_layTrees 32 = .ok (.if_icmp .ge 79, 3) := by decide +kernel
theorem dX7_layTrees_35 : decode cX7_layTrees 35 = .ok (.iload_n 2, 1) := by decide +kernel
theorem dX7_layTrees_36 : decode cX7_layTrees 36 = .ok (.aload_n 0, 1) := by decide +kernel
theorem dX7_layTrees_37 : decode cX7_layTrees 37 = .ok (.getfield 65, 3) := by decide +kernel
theorem dX7_layTrees_40 : decode cX7_layTrees 40 = .ok (.if_icmp .ge 27, 3) := by decide +kernel
theorem dX7_layTrees_43 : decode cX7_layTrees 43 = .ok (.iload_n 2, 1) := by decide +kernel
theorem dX7_layTrees_44 : decode cX7_layTrees 44 = .ok (.iload_n 1, 1) := by decide +kernel
theorem dX7_layTrees_45 : decode cX7_layTrees 45 = .ok (.if_icmp .eq 22, 3) := by decide +kernel
theorem dX7_layTrees_48 : decode cX7_layTrees 48 = .ok (.aload_n 0, 1) := by decide +kernel
theorem dX7_layTrees_49 : decode cX7_layTrees 49 = .ok (.getfield 13, 3) := by decide +kernel
theorem dX7_layTrees_52 : decode cX7_layTrees 52 = .ok (.iload_n 2, 1) := by decide +kernel
theorem dX7_layTrees_53 : decode cX7_layTrees 53 = .ok (.iaload, 1) := by decide +kernel
theorem dX7_layTrees_54 : decode cX7_layTrees 54 = .ok (.aload_n 0, 1) := by decide +kernel
theorem dX7_layTrees_55 : decode cX7_layTrees 55 = .ok (.getfield 16, 3) := by decide +kernel
theorem dX7_layTrees_58 : decode cX7_layTrees 58 = .ok (.iload_n 1, 1) := by decide +kernel
theorem dX7_layTrees_59 : decode cX7_layTrees 59 = .ok (.iaload, 1) := by decide +kernel
theorem dX7_layTrees_60 : decode cX7_layTrees 60 = .ok (.if_icmp .gt 7, 3) := by decide +kernel
theorem dX7_layTrees_63 : decode cX7_layTrees 63 = .ok (.iconst 1, 1) := by decide +kernel
theorem dX7_layTrees_64 : decode cX7_layTrees 64 = .ok (.goto 4, 3) := by decide +kernel
theorem dX7_layTrees_67 : decode cX7_layTrees 67 = .ok (.iconst 0, 1) := by decide +kernel
theorem dX7_layTrees_68 : decode cX7_layTrees 68 = .ok (.istore_n 3, 1) := by decide +kernel
theorem dX7_layTrees_69 : decode cX7_layTrees 69 = .ok (.aload_n 0, 1) := by decide +kernel
theorem dX7_layTrees_70 : decode cX7_layTrees 70 = .ok (.getfield 52, 3) := by decide +kernel
theorem dX7_layTrees_73 : decode cX7_layTrees 73 = .ok (.bipush 7, 2) := by decide +kernel
theorem dX7_layTrees_75 : decode cX7_layTrees 75 = .ok (.iload_n 1, 1) := by decide +kernel
theorem dX7_layTrees_76 : decode cX7_layTrees 76 = .ok (.imul, 1) := by decide +kernel
theorem dX7_layTrees_77 : decode cX7_layTrees 77 = .ok (.iload_n 2, 1) := by decide +kernel
theorem dX7_layTrees_78 : decode cX7_layTrees 78 = .ok (.iadd, 1) := by decide +kernel
theorem dX7_layTrees_79 : decode cX7_layTrees 79 = .ok (.iload_n 3, 1) := by decide +kernel
theorem dX7_layTrees_80 : decode cX7_layTrees 80 = .ok (.ifCond .eq 22, 3) := by decide +kernel
theorem dX7_layTrees_83 : decode cX7_layTrees 83 = .ok (.aload_n 0, 1) := by decide +kernel
theorem dX7_layTrees_84 : decode cX7_layTrees 84 = .ok (.aload_n 0, 1) := by decide +kernel
theorem dX7_layTrees_85 : decode cX7_layTrees 85 = .ok (.getfield 7, 3) := by decide +kernel
theorem dX7_layTrees_88 : decode cX7_layTrees 88 = .ok (.iload_n 2, 1) := by decide +kernel
theorem dX7_layTrees_89 : decode cX7_layTrees 89 = .ok (.iaload, 1) := by decide +kernel
theorem dX7_layTrees_90 : decode cX7_layTrees 90 = .ok (.aload_n 0, 1) := by decide +kernel
theorem dX7_layTrees_91 : decode cX7_layTrees 91 = .ok (.getfield 7, 3) := by decide +kernel
theorem dX7_layTrees_94 : decode cX7_layTrees 94 = .ok (.iload_n 1, 1) := by decide +kernel
theorem dX7_layTrees_95 : decode cX7_layTrees 95 = .ok (.iaload, 1) := by decide +kernel
theorem dX7_layTrees_96 : decode cX7_layTrees 96 = .ok (.invokevirtual 108, 3) := by decide +kernel
theorem dX7_layTrees_99 : decode cX7_layTrees 99 = .ok (.goto 5, 3) := by decide +kernel
theorem dX7_layTrees_102 : decode cX7_layTrees 102 = .ok (.ldc 111, 2) := by decide +kernel
theorem dX7_layTrees_104 : decode cX7_layTrees 104 = .ok (.iastore, 1) := by decide +kernel
theorem dX7_layTrees_105 : decode cX7_layTrees 105 = .ok (.iinc 2 1, 3) := by decide +kernel
theorem dX7_layTrees_108 : decode cX7_layTrees 108 = .ok (.goto (-79), 3) := by decide +kernel
theorem dX7_layTrees_111 : decode cX7_layTrees 111 = .ok (.aload_n 0, 1) := by decide +kernel
theorem dX7_layTrees_112 : decode cX7_layTrees 112 = .ok (.getfield 52, 3) := by decide +kernel
theorem dX7_layTrees_115 : decode cX7_layTrees 115 = .ok (.bipush 7, 2) := by decide +kernel
theorem dX7_layTrees_117 : decode cX7_layTrees 117 = .ok (.iload_n 1, 1) := by decide +kernel
theorem dX7_layTrees_118 : decode cX7_layTrees 118 = .ok (.imul, 1) := by decide +kernel
theorem dX7_layTrees_119 : decode cX7_layTrees 119 = .ok (.bipush 6, 2) := by decide +kernel
theorem dX7_layTrees_121 : decode cX7_layTrees 121 = .ok (.iadd, 1) := by decide +kernel
theorem dX7_layTrees_122 : decode cX7_layTrees 122 = .ok (.aload_n 0, 1) := by decide +kernel
theorem dX7_layTrees_123 : decode cX7_layTrees 123 = .ok (.getfield 22, 3) := by decide +kernel
theorem dX7_layTrees_126 : decode cX7_layTrees 126 = .ok (.iconst 0, 1) := by decide +kernel
theorem dX7_layTrees_127 : decode cX7_layTrees 127 = .ok (.iaload, 1) := by decide +kernel
theorem dX7_layTrees_128 : decode cX7_layTrees 128 = .ok (.iastore, 1) := by decide +kernel
theorem dX7_layTrees_129 : decode cX7_layTrees 129 = .ok (.iinc 1 1, 3) := by decide +kernel
theorem dX7_layTrees_132 : decode cX7_layTrees 132 = .ok (.goto (-113), 3) := by decide +kernel
theorem dX7_layTrees_135 : decode cX7_layTrees 135 = .ok (.aload_n 0, 1) := by decide +kernel
theorem dX7_layTrees_136 : decode cX7_layTrees 136 = .ok (.ldc 111, 2) := by decide +kernel
theorem dX7_layTrees_138 : decode cX7_layTrees 138 = .ok (.putfield 112, 3) := by decide +kernel
theorem dX7_layTrees_141 : decode cX7_layTrees 141 = .ok (.aload_n 0, 1) := by decide +kernel
theorem dX7_layTrees_142 : decode cX7_layTrees 142 = .ok (.iconst 0, 1) := by decide +kernel
theorem dX7_layTrees_143 : decode cX7_layTrees 143 = .ok (.putfield 115, 3) := by decide +kernel
theorem dX7_layTrees_146 : decode cX7_layTrees 146 = .ok (.aload_n 0, 1) := by decide +kernel
theorem dX7_layTrees_147 : decode cX7_layTrees 147 = .ok (.iconst 0, 1) := by decide +kernel
theorem dX7_layTrees_148 : decode cX7_layTrees 148 = .ok (.putfield 118, 3) := by decide +kernel
theorem dX7_layTrees_151 : decode cX7_layTrees 151 = .ok (.aload_n 0, 1) := by decide +kernel
theorem dX7_layTrees_152 : decode cX7_layTrees 152 = .ok (.invokevirtual 121, 3) := by decide +kernel
theorem dX7_layTrees_155 : decode cX7_layTrees 155 = .ok (.istore_n 1, 1) := by decide +kernel
theorem dX7_layTrees_156 : decode cX7_layTrees 156 = .ok (.iconst 0, 1) := by decide +kernel
theorem dX7_layTrees_157 : decode cX7_layTrees 157 = .ok (.istore_n 2, 1) := by decide +kernel
theorem dX7_layTrees_158 : decode cX7_layTrees 158 = .ok (.iload_n 2, 1) := by decide +kernel
theorem dX7_layTrees_159 : decode cX7_layTrees 159 = .ok (.iload_n 1, 1) := by decide +kernel
theorem dX7_layTrees_160 : decode cX7_layTrees 160 = .ok (.if_icmp .ge 88, 3) := by decide +kernel
theorem dX7_layTrees_163 : decode cX7_layTrees 163 = .ok (.aload_n 0, 1) := by decide +kernel
theorem dX7_layTrees_164 : decode cX7_layTrees 164 = .ok (.iload_n 2, 1) := by decide +kernel
theorem dX7_layTrees_165 : decode cX7_layTrees 165 = .ok (.invokevirtual 124, 3) := by decide +kernel
theorem dX7_layTrees_168 : decode cX7_layTrees 168 = .ok (.istore_n 3, 1) := by decide +kernel
theorem dX7_layTrees_169 : decode cX7_layTrees 169 = .ok (.iload_n 3, 1) := by decide +kernel
theorem dX7_layTrees_170 : decode cX7_layTrees 170 = .ok (.ldc 111, 2) := by decide +kernel
theorem dX7_layTrees_172 : decode cX7_layTrees 172 = .ok (.if_icmp .ge 70, 3) := by decide +kernel
theorem dX7_layTrees_175 : decode cX7_layTrees 175 = .ok (.aload_n 0, 1) := by decide +kernel
theorem dX7_layTrees_176 : decode cX7_layTrees 176 = .ok (.dup, 1) := by decide +kernel
theorem dX7_layTrees_177 : decode cX7_layTrees 177 = .ok (.getfield 118, 3) := by decide +kernel
theorem dX7_layTrees_180 : decode cX7_layTrees 180 = .ok (.iconst 1, 1) := by decide +kernel
theorem dX7_layTrees_181 : decode cX7_layTrees 181 = .ok (.iadd, 1) := by decide +kernel
theorem dX7_layTrees_182 : decode cX7_layTrees 182 = .ok (.putfield 118, 3) := by decide +kernel
theorem dX7_layTrees_185 : decode cX7_layTrees 185 = .ok (.aload_n 0, 1) := by decide +kernel
theorem dX7_layTrees_186 : decode cX7_layTrees 186 = .ok (.iload_n 3, 1) := by decide +kernel
theorem dX7_layTrees_187 : decode cX7_layTrees 187 = .ok (.aload_n 0, 1) := by decide +kernel
theorem dX7_layTrees_188 : decode cX7_layTrees 188 = .ok (.getfield 112, 3) := by decide +kernel
theorem dX7_layTrees_191 : decode cX7_layTrees 191 = .ok (.if_icmp .ge 7, 3) := by decide +kernel
theorem dX7_layTrees_194 : decode cX7_layTrees 194 = .ok (.iconst 1, 1) := by decide +kernel
theorem dX7_layTrees_195 : decode cX7_layTrees 195 = .ok (.goto 24, 3) := by decide +kernel
theorem dX7_layTrees_198 : decode cX7_layTrees 198 = .ok (.iload_n 3, 1) := by decide +kernel
theorem dX7_layTrees_199 : decode cX7_layTrees 199 = .ok (.aload_n 0, 1) := by decide +kernel
theorem dX7_layTrees_200 : decode cX7_layTrees 200 = .ok (.getfield 112, 3) := by decide +kernel
theorem dX7_layTrees_203 : decode cX7_layTrees 203 = .ok (.if_icmp .ne 12, 3) := by decide +kernel
theorem dX7_layTrees_206 : decode cX7_layTrees 206 = .ok (.aload_n 0, 1) := by decide +kernel
theorem dX7_layTrees_207 : decode cX7_layTrees 207 = .ok (.getfield 115, 3) := by decide +kernel
theorem dX7_layTrees_210 : decode cX7_layTrees 210 = .ok (.iconst 1, 1) := by decide +kernel
theorem dX7_layTrees_211 : decode cX7_layTrees 211 = .ok (.iadd, 1) := by decide +kernel
theorem dX7_layTrees_212 : decode cX7_layTrees 212 = .ok (.goto 7, 3) := by decide +kernel
theorem dX7_layTrees_215 : decode cX7_layTrees 215 = .ok (.aload_n 0, 1) := by decide +kernel
theorem dX7_layTrees_216 : decode cX7_layTrees 216 = .ok (.getfield 115, 3) := by decide +kernel
theorem dX7_layTrees_219 : decode cX7_layTrees 219 = .ok (.putfield 115, 3) := by decide +kernel
theorem dX7_layTrees_222 : decode cX7_layTrees 222 = .ok (.aload_n 0, 1) := by decide +kernel
theorem dX7_layTrees_223 : decode cX7_layTrees 223 = .ok (.iload_n 3, 1) := by decide +kernel
theorem dX7_layTrees_224 : decode cX7_layTrees 224 = .ok (.aload_n 0, 1) := by decide +kernel
theorem dX7_layTrees_225 : decode cX7_layTrees 225 = .ok (.getfield 112, 3) := by decide +kernel
theorem dX7_layTrees_228 : decode cX7_layTrees 228 = .ok (.if_icmp .ge 7, 3) := by decide +kernel
theorem dX7_layTrees_231 : decode cX7_layTrees 231 = .ok (.iload_n 3, 1) := by decide +kernel
theorem dX7_layTrees_232 : decode cX7_layTrees 232 = .ok (.goto 7, 3) := by decide +kernel
theorem dX7_layTrees_235 : decode cX7_layTrees 235 = .ok (.aload_n 0, 1) := by decide +kernel
theorem dX7_layTrees_236 : decode cX7_layTrees 236 = .ok (.getfield 112, 3) := by decide +kernel
theorem dX7_layTrees_239 : decode cX7_layTrees 239 = .ok (.putfield 112, 3) := by decide +kernel
theorem dX7_layTrees_242 : decode cX7_layTrees 242 = .ok (.iinc 2 1, 3) := by decide +kernel
theorem dX7_layTrees_245 : decode cX7_layTrees 245 = .ok (.goto (-87), 3) := by decide +kernel
theorem dX7_layTrees_248 : decode cX7_layTrees 248 = .ok (.return_, 1) := by decide +kernel
theorem dX7_least_0 : decode cX7_least 0 = .ok (.iload_n 1, 1) := by decide +kernel
theorem dX7_least_1 : decode cX7_least 1 = .ok (.iconst 0, 1) := by decide +kernel
theorem dX7_least_2 : decode cX7_least 2 = .ok (.iconst 2, 1) := by decide +kernel
theorem dX7_least_3 : decode cX7_least 3 = .ok (.invokestatic 69, 3) := by decide +kernel
theorem dX7_least_6 : decode cX7_least 6 = .ok (.ifCond .ne 6, 3) := by decide +kernel
theorem dX7_least_9 : decode cX7_least 9 = .ok (.bipush (-2), 2) := by decide +kernel
theorem dX7_least_11 : decode cX7_least 11 = .ok (.ireturn, 1) := by decide +kernel
theorem dX7_least_12 : decode cX7_least 12 = .ok (.aload_n 0, 1) := by decide +kernel
theorem dX7_least_13 : decode cX7_least 13 = .ok (.getfield 65, 3) := by decide +kernel
theorem dX7_least_16 : decode cX7_least 16 = .ok (.ifCond .ne 6, 3) := by decide +kernel
theorem dX7_least_19 : decode cX7_least 19 = .ok (.bipush (-3), 2) := by decide +kernel
theorem dX7_least_21 : decode cX7_least 21 = .ok (.ireturn, 1) := by decide +kernel
theorem dX7_least_22 : decode cX7_least 22 = .ok (.aload_n 0, 1) := by decide +kernel
theorem dX7_least_23 : decode cX7_least 23 = .ok (.invokevirtual 128, 3) := by decide +kernel
theorem dX7_least_26 : decode cX7_least 26 = .ok (.iload_n 1, 1) := by decide +kernel
theorem dX7_least_27 : decode cX7_least 27 = .ok (.ifCond .ne 10, 3) := by decide +kernel
theorem dX7_least_30 : decode cX7_least 30 = .ok (.aload_n 0, 1) := by decide +kernel
theorem dX7_least_31 : decode cX7_least 31 = .ok (.getfield 112, 3) := by decide +kernel
theorem dX7_least_34 : decode cX7_least 34 = .ok (.goto 19, 3) := by decide +kernel
theorem dX7_least_37 : decode cX7_least 37 = .ok (.iload_n 1, 1) := by decide +kernel
theorem dX7_least_38 : decode cX7_least 38 = .ok (.iconst 1, 1) := by decide +kernel
theorem dX7_least_39 : decode cX7_least 39 = .ok (.if_icmp .ne 10, 3) := by decide +kernel
theorem dX7_least_42 : decode cX7_least 42 = .ok (.aload_n 0, 1) := by decide +kernel
theorem dX7_least_43 : decode cX7_least 43 = .ok (.getfield 115, 3) := by decide +kernel
theorem dX7_least_46 : decode cX7_least 46 = .ok (.goto 7, 3) := by decide +kernel
theorem dX7_least_49 : decode cX7_least 49 = .ok (.aload_n 0, 1) := by decide +kernel
theorem dX7_least_50 : decode cX7_least 50 = .ok (.getfield 118, 3) := by decide +kernel
theorem dX7_least_53 : decode cX7_least 53 = .ok (.ireturn, 1) := by decide +kernel
theorem dX7_kept_0 : decode cX7_kept 0 = .ok (.iload_n 2, 1) := by decide +kernel
theorem dX7_kept_1 : decode cX7_kept 1 = .ok (.iconst (-1), 1) := by decide +kernel
theorem dX7_kept_2 : decode cX7_kept 2 = .ok (.if_icmp .eq 19, 3) := by decide +kernel
theorem dX7_kept_5 : decode cX7_kept 5 = .ok (.iload_n 3, 1) := by decide +kernel
theorem dX7_kept_6 : decode cX7_kept 6 = .ok (.bipush 9, 2) := by decide +kernel
theorem dX7_kept_8 : decode cX7_kept 8 = .ok (.if_icmp .eq 13, 3) := by decide +kernel
theorem dX7_kept_11 : decode cX7_kept 11 = .ok (.aload_n 0, 1) := by decide +kernel
theorem dX7_kept_12 : decode cX7_kept 12 = .ok (.iload_n 3, 1) := by decide +kernel
theorem dX7_kept_13 : decode cX7_kept 13 = .ok (.invokevirtual 85, 3) := by decide +kernel
theorem dX7_kept_16 : decode cX7_kept 16 = .ok (.ifCond .ne 5, 3) := by decide +kernel
theorem dX7_kept_19 : decode cX7_kept 19 = .ok (.iconst (-1), 1) := by decide +kernel
theorem dX7_kept_20 : decode cX7_kept 20 = .ok (.ireturn, 1) := by decide +kernel
theorem dX7_kept_21 : decode cX7_kept 21 = .ok (.iload_n 1, 1) := by decide +kernel
theorem dX7_kept_22 : decode cX7_kept 22 = .ok (.iconst 0, 1) := by decide +kernel
theorem dX7_kept_23 : decode cX7_kept 23 = .ok (.bipush 99, 2) := by decide +kernel
theorem dX7_kept_25 : decode cX7_kept 25 = .ok (.invokestatic 69, 3) := by decide +kernel
theorem dX7_kept_28 : decode cX7_kept 28 = .ok (.ifCond .ne 6, 3) := by decide +kernel
theorem dX7_kept_31 : decode cX7_kept 31 = .ok (.bipush (-2), 2) := by decide +kernel
theorem dX7_kept_33 : decode cX7_kept 33 = .ok (.ireturn, 1) := by decide +kernel
theorem dX7_kept_34 : decode cX7_kept 34 = .ok (.aload_n 0, 1) := by decide +kernel
theorem dX7_kept_35 : decode cX7_kept 35 = .ok (.getfield 65, 3) := by decide +kernel
theorem dX7_kept_38 : decode cX7_kept 38 = .ok (.ifCond .ne 6, 3) := by decide +kernel
theorem dX7_kept_41 : decode cX7_kept 41 = .ok (.bipush (-3), 2) := by decide +kernel
theorem dX7_kept_43 : decode cX7_kept 43 = .ok (.ireturn, 1) := by decide +kernel
theorem dX7_kept_44 : decode cX7_kept 44 = .ok (.aload_n 0, 1) := by decide +kernel
theorem dX7_kept_45 : decode cX7_kept 45 = .ok (.invokevirtual 128, 3) := by decide +kernel
theorem dX7_kept_48 : decode cX7_kept 48 = .ok (.iconst 0, 1) := by decide +kernel
theorem dX7_kept_49 : decode cX7_kept 49 = .ok (.istore 4, 2) := by decide +kernel
theorem dX7_kept_51 : decode cX7_kept 51 = .ok (.aload_n 0, 1) := by decide +kernel
theorem dX7_kept_52 : decode cX7_kept 52 = .ok (.invokevirtual 121, 3) := by decide +kernel
theorem dX7_kept_55 : decode cX7_kept 55 = .ok (.istore 5, 2) := by decide +kernel
theorem dX7_kept_57 : decode cX7_kept 57 = .ok (.iconst 0, 1) := by decide +kernel
theorem dX7_kept_58 : decode cX7_kept 58 = .ok (.istore 6, 2) := by decide +kernel
theorem dX7_kept_60 : decode cX7_kept 60 = .ok (.iload 6, 2) := by decide +kernel
theorem dX7_kept_62 : decode cX7_kept 62 = .ok (.iload 5, 2) := by decide +kernel
theorem dX7_kept_64 : decode cX7_kept 64 = .ok (.if_icmp .ge 71, 3) := by decide +kernel
theorem dX7_kept_67 : decode cX7_kept 67 = .ok (.aload_n 0, 1) := by decide +kernel
theorem dX7_kept_68 : decode cX7_kept 68 = .ok (.iload 6, 2) := by decide +kernel
theorem dX7_kept_70 : decode cX7_kept 70 = .ok (.invokevirtual 124, 3) := by decide +kernel
theorem dX7_kept_73 : decode cX7_kept 73 = .ok (.istore 7, 2) := by decide +kernel
theorem dX7_kept_75 : decode cX7_kept 75 = .ok (.iload 7, 2) := by decide +kernel
theorem dX7_kept_77 : decode cX7_kept 77 = .ok (.aload_n 0, 1) := by decide +kernel
theorem dX7_kept_78 : decode cX7_kept 78 = .ok (.getfield 112, 3) := by decide +kernel
theorem dX7_kept_81 : decode cX7_kept 81 = .ok (.iload_n 1, 1) := by decide +kernel
theorem dX7_kept_82 : decode cX7_kept 82 = .ok (.iadd, 1) := by decide +kernel
theorem dX7_kept_83 : decode cX7_kept 83 = .ok (.if_icmp .gt 46, 3) := by decide +kernel
theorem dX7_kept_86 : decode cX7_kept 86 = .ok (.iload 4, 2) := by decide +kernel
theorem dX7_kept_88 : decode cX7_kept 88 = .ok (.iload_n 2, 1) := by decide +kernel
theorem dX7_kept_89 : decode cX7_kept 89 = .ok (.if_icmp .ne 37, 3) := by decide +kernel
theorem dX7_kept_92 : decode cX7_kept 92 = .ok (.iload_n 3, 1) := by decide +kernel
theorem dX7_kept_93 : decode cX7_kept 93 = .ok (.bipush 9, 2) := by decide +kernel
theorem dX7_kept_95 : decode cX7_kept 95 = .ok (.if_icmp .ne 8, 3) := by decide +kernel
theorem dX7_kept_98 : decode cX7_kept 98 = .ok (.iload 7, 2) := by decide +kernel
theorem dX7_kept_100 : decode cX7_kept 100 = .ok (.goto 25, 3) := by decide +kernel
theorem dX7_kept_103 : decode cX7_kept 103 = .ok (.aload_n 0, 1) := by decide +kernel
theorem dX7_kept_104 : decode cX7_kept 104 = .ok (.getfield 55, 3) := by decide +kernel
theorem dX7_kept_107 : decode cX7_kept 107 = .ok (.iload_n 3, 1) := by decide +kernel
theorem dX7_kept_108 : decode cX7_kept 108 = .ok (.iaload, 1) := by decide +kernel
theorem dX7_kept_109 : decode cX7_kept 109 = .ok (.bipush 6, 2) := by decide +kernel
theorem dX7_kept_111 : decode cX7_kept 111 = .ok (.if_icmp .ne 8, 3) := by decide +kernel
theorem dX7_kept_114 : decode cX7_kept 114 = .ok (.bipush 9, 2) := by decide +kernel
theorem dX7_kept_116 : decode cX7_kept 116 = .ok (.goto 9, 3) := by decide +kernel
theorem dX7_kept_119 : decode cX7_kept 119 = .ok (.aload_n 0, 1) := by decide +kernel
theorem dX7_kept_120 : decode cX7_kept 120 = .ok (.getfield 55, 3) := by decide +kernel
theorem dX7_kept_123 : decode cX7_kept 123 = .ok (.iload_n 3, 1) := by decide +kernel
theorem dX7_kept_124 : decode cX7_kept 124 = .ok (.iaload, 1) := by decide +kernel
theorem dX7_kept_125 : decode cX7_kept 125 = .ok (.ireturn, 1) := by decide +kernel
theorem dX7_kept_126 : decode cX7_kept 126 = .ok (.iinc 4 1, 3) := by decide +kernel
theorem dX7_kept_129 : decode cX7_kept 129 = .ok (.iinc 6 1, 3) := by decide +kernel
theorem dX7_kept_132 : decode cX7_kept 132 = .ok (.goto (-72), 3) := by decide +kernel
theorem dX7_kept_135 : decode cX7_kept 135 = .ok (.iload_n 2, 1) := by decide +kernel
theorem dX7_kept_136 : decode cX7_kept 136 = .ok (.iconst (-1), 1) := by decide +kernel
theorem dX7_kept_137 : decode cX7_kept 137 = .ok (.if_icmp .ne 8, 3) := by decide +kernel
theorem dX7_kept_140 : decode cX7_kept 140 = .ok (.iload 4, 2) := by decide +kernel
theorem dX7_kept_142 : decode cX7_kept 142 = .ok (.goto 5, 3) := by decide +kernel
theorem dX7_kept_145 : decode cX7_kept 145 = .ok (.bipush (-6), 2) := by decide +kernel
theorem dX7_kept_147 : decode cX7_kept 147 = .ok (.ireturn, 1) := by decide +kernel
theorem dX7_sure_0 : decode cX7_sure 0 = .ok (.iload_n 2, 1) := by decide +kernel
theorem dX7_sure_1 : decode cX7_sure 1 = .ok (.bipush 9, 2) := by decide +kernel
theorem dX7_sure_3 : decode cX7_sure 3 = .ok (.if_icmp .eq 13, 3) := by decide +kernel
theorem dX7_sure_6 : decode cX7_sure 6 = .ok (.aload_n 0, 1) := by decide +kernel
theorem dX7_sure_7 : decode cX7_sure 7 = .ok (.iload_n 2, 1) := by decide +kernel
theorem dX7_sure_8 : decode cX7_sure 8 = .ok (.invokevirtual 85, 3) := by decide +kernel
theorem dX7_sure_11 : decode cX7_sure 11 = .ok (.ifCond .ne 5, 3) := by decide +kernel
theorem dX7_sure_14 : decode cX7_sure 14 = .ok (.iconst (-1), 1) := by decide +kernel
theorem dX7_sure_15 : decode cX7_sure 15 = .ok (.ireturn, 1) := by decide +kernel
theorem dX7_sure_16 : decode cX7_sure 16 = .ok (.iload_n 1, 1) := by decide +kernel
theorem dX7_sure_17 : decode cX7_sure 17 = .ok (.iconst 0, 1) := by decide +kernel
theorem dX7_sure_18 : decode cX7_sure 18 = .ok (.bipush 99, 2) := by decide +kernel
theorem dX7_sure_20 : decode cX7_sure 20 = .ok (.invokestatic 69, 3) := by decide +kernel
theorem dX7_sure_23 : decode cX7_sure 23 = .ok (.ifCond .ne 6, 3) := by decide +kernel
theorem dX7_sure_26 : decode cX7_sure 26 = .ok (.bipush (-2), 2) := by decide +kernel
theorem dX7_sure_28 : decode cX7_sure 28 = .ok (.ireturn, 1) := by decide +kernel
theorem dX7_sure_29 : decode cX7_sure 29 = .ok (.aload_n 0, 1) := by decide +kernel
theorem dX7_sure_30 : decode cX7_sure 30 = .ok (.getfield 65, 3) := by decide +kernel
theorem dX7_sure_33 : decode cX7_sure 33 = .ok (.ifCond .ne 6, 3) := by decide +kernel
theorem dX7_sure_36 : decode cX7_sure 36 = .ok (.bipush (-3), 2) := by decide +kernel
theorem dX7_sure_38 : decode cX7_sure 38 = .ok (.ireturn, 1) := by decide +kernel
theorem dX7_sure_39 : decode cX7_sure 39 = .ok (.aload_n 0, 1) := by decide +kernel
theorem dX7_sure_40 : decode cX7_sure 40 = .ok (.invokevirtual 128, 3) := by decide +kernel
theorem dX7_sure_43 : decode cX7_sure 43 = .ok (.iconst 1, 1) := by decide +kernel
theorem dX7_sure_44 : decode cX7_sure 44 = .ok (.aload_n 0, 1) := by decide +kernel
theorem dX7_sure_45 : decode cX7_sure 45 = .ok (.getfield 65, 3) := by decide +kernel
theorem dX7_sure_48 : decode cX7_sure 48 = .ok (.ishl, 1) := by decide +kernel
theorem dX7_sure_49 : decode cX7_sure 49 = .ok (.iconst 1, 1) := by decide +kernel
theorem dX7_sure_50 : decode cX7_sure 50 = .ok (.isub, 1) := by decide +kernel
theorem dX7_sure_51 : decode cX7_sure 51 = .ok (.istore_n 3, 1) := by decide +kernel
theorem dX7_sure_52 : decode cX7_sure 52 = .ok (.aload_n 0, 1) := by decide +kernel
theorem dX7_sure_53 : decode cX7_sure 53 = .ok (.invokevirtual 121, 3) := by decide +kernel
theorem dX7_sure_56 : decode cX7_sure 56 = .ok (.istore 4, 2) := by decide +kernel
theorem dX7_sure_58 : decode cX7_sure 58 = .ok (.iconst 0, 1) := by decide +kernel
theorem dX7_sure_59 : decode cX7_sure 59 = .ok (.istore 5, 2) := by decide +kernel
theorem dX7_sure_61 : decode cX7_sure 61 = .ok (.iload 5, 2) := by decide +kernel
theorem dX7_sure_63 : decode cX7_sure 63 = .ok (.iload 4, 2) := by decide +kernel
theorem dX7_sure_65 : decode cX7_sure 65 = .ok (.if_icmp .ge 78, 3) := by decide +kernel
theorem dX7_sure_68 : decode cX7_sure 68 = .ok (.aload_n 0, 1) := by decide +kernel
theorem dX7_sure_69 : decode cX7_sure 69 = .ok (.iload 5, 2) := by decide +kernel
theorem dX7_sure_71 : decode cX7_sure 71 = .ok (.invokevirtual 124, 3) := by decide +kernel
theorem dX7_sure_74 : decode cX7_sure 74 = .ok (.aload_n 0, 1) := by decide +kernel
theorem dX7_sure_75 : decode cX7_sure 75 = .ok (.getfield 112, 3) := by decide +kernel
theorem dX7_sure_78 : decode cX7_sure 78 = .ok (.iload_n 1, 1) := by decide +kernel
theorem dX7_sure_79 : decode cX7_sure 79 = .ok (.iadd, 1) := by decide +kernel
theorem dX7_sure_80 : decode cX7_sure 80 = .ok (.if_icmp .gt 57, 3) := by decide +kernel
theorem dX7_sure_83 : decode cX7_sure 83 = .ok (.iconst 0, 1) := by decide +kernel
theorem dX7_sure_84 : decode cX7_sure 84 = .ok (.istore 6, 2) := by decide +kernel
theorem dX7_sure_86 : decode cX7_sure 86 = .ok (.iload 6, 2) := by decide +kernel
theorem dX7_sure_88 : decode cX7_sure 88 = .ok (.aload_n 0, 1) := by decide +kernel
theorem dX7_sure_89 : decode cX7_sure 89 = .ok (.getfield 65, 3) := by decide +kernel
theorem dX7_sure_92 : decode cX7_sure 92 = .ok (.if_icmp .ge 45, 3) := by decide +kernel
theorem dX7_sure_95 : decode cX7_sure 95 = .ok (.iload_n 3, 1) := by decide +kernel
theorem dX7_sure_96 : decode cX7_sure 96 = .ok (.aload_n 0, 1) := by decide +kernel
theorem dX7_sure_97 : decode cX7_sure 97 = .ok (.getfield 55, 3) := by decide +kernel
theorem dX7_sure_100 : decode cX7_sure 100 = .ok (.iload 6, 2) := by decide +kernel
theorem dX7_sure_102 : decode cX7_sure 102 = .ok (.iaload, 1) := by decide +kernel
theorem dX7_sure_103 : decode cX7_sure 103 = .ok (.iload_n 2, 1) := by decide +kernel
theorem dX7_sure_104 : decode cX7_sure 104 = .ok (.bipush 9, 2) := by decide +kernel
theorem dX7_sure_106 : decode cX7_sure 106 = .ok (.if_icmp .ne 8, 3) := by decide +kernel
theorem dX7_sure_109 : decode cX7_sure 109 = .ok (.bipush 6, 2) := by decide +kernel
theorem dX7_sure_111 : decode cX7_sure 111 = .ok (.goto 4, 3) := by decide +kernel
theorem dX7_sure_114 : decode cX7_sure 114 = .ok (.iload_n 2, 1) := by decide +kernel
theorem dX7_sure_115 : decode cX7_sure 115 = .ok (.if_icmp .ne 8, 3) := by decide +kernel
theorem dX7_sure_118 : decode cX7_sure 118 = .ok (.bipush 63, 2) := by decide +kernel
theorem dX7_sure_120 : decode cX7_sure 120 = .ok (.goto 9, 3) := by decide +kernel
theorem dX7_sure_123 : decode cX7_sure 123 = .ok (.iconst 1, 1) := by decide +kernel
theorem dX7_sure_124 : decode cX7_sure 124 = .ok (.iload 6, 2) := by decide +kernel
theorem dX7_sure_126 : decode cX7_sure 126 = .ok (.ishl, 1) := by decide +kernel
theorem dX7_sure_127 : decode cX7_sure 127 = .ok (.iconst (-1), 1) := by decide +kernel
theorem dX7_sure_128 : decode cX7_sure 128 = .ok (.ixor, 1) := by decide +kernel
theorem dX7_sure_129 : decode cX7_sure 129 = .ok (.iand, 1) := by decide +kernel
theorem dX7_sure_130 : decode cX7_sure 130 = .ok (.istore_n 3, 1) := by decide +kernel
theorem dX7_sure_131 : decode cX7_sure 131 = .ok (.iinc 6 1, 3) := by decide +kernel
theorem dX7_sure_134 : decode cX7_sure 134 = .ok (.goto (-48), 3) := by decide +kernel
theorem dX7_sure_137 : decode cX7_sure 137 = .ok (.iinc 5 1, 3) := by decide +kernel
theorem dX7_sure_140 : decode cX7_sure 140 = .ok (.goto (-79), 3) := by decide +kernel
theorem dX7_sure_143 : decode cX7_sure 143 = .ok (.iload_n 3, 1) := by decide +kernel
theorem dX7_sure_144 : decode cX7_sure 144 = .ok (.ireturn, 1) := by decide +kernel
theorem dX7_lost_0 : decode cX7_lost 0 = .ok (.iload_n 1, 1) := by decide +kernel
theorem dX7_lost_1 : decode cX7_lost 1 = .ok (.iconst (-1), 1) := by decide +kernel
theorem dX7_lost_2 : decode cX7_lost 2 = .ok (.if_icmp .eq 11, 3) := by decide +kernel
theorem dX7_lost_5 : decode cX7_lost 5 = .ok (.aload_n 0, 1) := by decide +kernel
theorem dX7_lost_6 : decode cX7_lost 6 = .ok (.iload_n 1, 1) := by decide +kernel
theorem dX7_lost_7 : decode cX7_lost 7 = .ok (.invokevirtual 85, 3) := by decide +kernel
theorem dX7_lost_10 : decode cX7_lost 10 = .ok (.ifCond .eq 17, 3) := by decide +kernel
theorem dX7_lost_13 : decode cX7_lost 13 = .ok (.iload_n 2, 1) := by decide +kernel
theorem dX7_lost_14 : decode cX7_lost 14 = .ok (.ifCond .lt 13, 3) := by decide +kernel
theorem dX7_lost_17 : decode cX7_lost 17 = .ok (.iload_n 2, 1) := by decide +kernel
theorem dX7_lost_18 : decode cX7_lost 18 = .ok (.iconst 1, 1) := by decide +kernel
theorem dX7_lost_19 : decode cX7_lost 19 = .ok (.aload_n 0, 1) := by decide +kernel
theorem dX7_lost_20 : decode cX7_lost 20 = .ok (.getfield 65, 3) := by decide +kernel
theorem dX7_lost_23 : decode cX7_lost 23 = .ok (.ishl, 1) := by decide +kernel
theorem dX7_lost_24 : decode cX7_lost 24 = .ok (.if_icmp .lt 5, 3) := by decide +kernel
theorem dX7_lost_27 : decode cX7_lost 27 = .ok (.iconst (-1), 1) := by decide +kernel
theorem dX7_lost_28 : decode cX7_lost 28 = .ok (.ireturn, 1) := by decide +kernel
theorem dX7_lost_29 : decode cX7_lost 29 = .ok (.iload_n 2, 1) := by decide +kernel
theorem dX7_lost_30 : decode cX7_lost 30 = .ok (.ifCond .eq 25, 3) := by decide +kernel
theorem dX7_lost_33 : decode cX7_lost 33 = .ok (.iload_n 1, 1) := by decide +kernel
theorem dX7_lost_34 : decode cX7_lost 34 = .ok (.ifCond .lt 12, 3) := by decide +kernel
theorem dX7_lost_37 : decode cX7_lost 37 = .ok (.iload_n 2, 1) := by decide +kernel
theorem dX7_lost_38 : decode cX7_lost 38 = .ok (.iload_n 1, 1) := by decide +kernel
theorem dX7_lost_39 : decode cX7_lost 39 = .ok (.ishr, 1) := by decide +kernel
theorem dX7_lost_40 : decode cX7_lost 40 = .ok (.iconst 1, 1) := by decide +kernel
theorem dX7_lost_41 : decode cX7_lost 41 = .ok (.iand, 1) := by decide +kernel
theorem dX7_lost_42 : decode cX7_lost 42 = .ok (.iconst 1, 1) := by decide +kernel
theorem dX7_lost_43 : decode cX7_lost 43 = .ok (.if_icmp .eq 12, 3) := by decide +kernel
theorem dX7_lost_46 : decode cX7_lost 46 = .ok (.iload_n 3, 1) := by decide +kernel
theorem dX7_lost_47 : decode cX7_lost 47 = .ok (.iconst 0, 1) := by decide +kernel
theorem dX7_lost_48 : decode cX7_lost 48 = .ok (.iconst 2, 1) := by decide +kernel
theorem dX7_lost_49 : decode cX7_lost 49 = .ok (.invokestatic 69, 3) := by decide +kernel
theorem dX7_lost_52 : decode cX7_lost 52 = .ok (.ifCond .ne 6, 3) := by decide +kernel
theorem dX7_lost_55 : decode cX7_lost 55 = .ok (.bipush (-2), 2) := by decide +kernel
theorem dX7_lost_57 : decode cX7_lost 57 = .ok (.ireturn, 1) := by decide +kernel
theorem dX7_lost_58 : decode cX7_lost 58 = .ok (.aload_n 0, 1) := by decide +kernel
theorem dX7_lost_59 : decode cX7_lost 59 = .ok (.invokevirtual 101, 3) := by decide +kernel
theorem dX7_lost_62 : decode cX7_lost 62 = .ok (.iconst 0, 1) := by decide +kernel
theorem dX7_lost_63 : decode cX7_lost 63 = .ok (.istore 4, 2) := by decide +kernel
theorem dX7_lost_65 : decode cX7_lost 65 = .ok (.iload_n 1, 1) := by decide +kernel
theorem dX7_lost_66 : decode cX7_lost 66 = .ok (.ifCond .ge 12, 3) := by decide +kernel
theorem dX7_lost_69 : decode cX7_lost 69 = .ok (.aload_n 0, 1) := by decide +kernel
theorem dX7_lost_70 : decode cX7_lost 70 = .ok (.getfield 22, 3) := by decide +kernel
theorem dX7_lost_73 : decode cX7_lost 73 = .ok (.iconst 0, 1) := by decide +kernel
theorem dX7_lost_74 : decode cX7_lost 74 = .ok (.iaload, 1) := by decide +kernel
theorem dX7_lost_75 : decode cX7_lost 75 = .ok (.goto 4, 3) := by decide +kernel
theorem dX7_lost_78 : decode cX7_lost 78 = .ok (.iconst 0, 1) := by decide +kernel
theorem dX7_lost_79 : decode cX7_lost 79 = .ok (.istore 5, 2) := by decide +kernel
theorem dX7_lost_81 : decode cX7_lost 81 = .ok (.iconst 0, 1) := by decide +kernel
theorem dX7_lost_82 : decode cX7_lost 82 = .ok (.istore 6, 2) := by decide +kernel
theorem dX7_lost_84 : decode cX7_lost 84 = .ok (.iload 6, 2) := by decide +kernel
theorem dX7_lost_86 : decode cX7_lost 86 = .ok (.bipush 8, 2) := by decide +kernel
theorem dX7_lost_88 : decode cX7_lost 88 = .ok (.if_icmp .ge 169, 3) := by decide +kernel
theorem dX7_lost_91 : decode cX7_lost 91 = .ok (.iconst 0, 1) := by decide +kernel
theorem dX7_lost_92 : decode cX7_lost 92 = .ok (.istore 7, 2) := by decide +kernel
theorem dX7_lost_94 : decode cX7_lost 94 = .ok (.ldc 111, 2) := by decide +kernel
theorem dX7_lost_96 : decode cX7_lost 96 = .ok (.istore 8, 2) := by decide +kernel
theorem dX7_lost_98 : decode cX7_lost 98 = .ok (.iconst 0, 1) := by decide +kernel
theorem dX7_lost_99 : decode cX7_lost 99 = .ok (.istore 9, 2) := by decide +kernel
theorem dX7_lost_101 : decode cX7_lost 101 = .ok (.iload 9, 2) := by decide +kernel
theorem dX7_lost_103 : decode cX7_lost 103 = .ok (.iconst 4, 1) := by decide +kernel
theorem dX7_lost_104 : decode cX7_lost 104 = .ok (.if_icmp .ge 131, 3) := by decide +kernel
theorem dX7_lost_107 : decode cX7_lost 107 = .ok (.iload_n 1, 1) := by decide +kernel
theorem dX7_lost_108 : decode cX7_lost 108 = .ok (.ifCond .ge 7, 3) := by decide +kernel
theorem dX7_lost_111 : decode cX7_lost 111 = .ok (.iconst 0, 1) := by decide +kernel
theorem dX7_lost_112 : decode cX7_lost 112 = .ok (.goto 24, 3) := by decide +kernel
theorem dX7_lost_115 : decode cX7_lost 115 = .ok (.aload_n 0, 1) := by decide +kernel
theorem dX7_lost_116 : decode cX7_lost 116 = .ok (.getfield 49, 3) := by decide +kernel
theorem dX7_lost_119 : decode cX7_lost 119 = .ok (.iconst 4, 1) := by decide +kernel
theorem dX7_lost_120 : decode cX7_lost 120 = .ok (.aload_n 0, 1) := by decide +kernel
theorem dX7_lost_121 : decode cX7_lost 121 = .ok (.getfield 7, 3) := by decide +kernel
theorem dX7_lost_124 : decode cX7_lost 124 = .ok (.iload_n 1, 1) := by decide +kernel
theorem dX7_lost_125 : decode cX7_lost 125 = .ok (.iaload, 1) := by decide +kernel
theorem dX7_lost_126 : decode cX7_lost 126 = .ok (.iload 6, 2) := by decide +kernel
theorem dX7_lost_128 : decode cX7_lost 128 = .ok (.invokestatic 104, 3) := by decide +kernel
theorem dX7_lost_131 : decode cX7_lost 131 = .ok (.imul, 1) := by decide +kernel
theorem dX7_lost_132 : decode cX7_lost 132 = .ok (.iload 9, 2) := by decide +kernel
theorem dX7_lost_134 : decode cX7_lost 134 = .ok (.iadd, 1) := by decide +kernel
theorem dX7_lost_135 : decode cX7_lost 135 = .ok (.iaload, 1) := by decide +kernel
theorem dX7_lost_136 : decode cX7_lost 136 = .ok (.istore 10, 2) := by decide +kernel
theorem dX7_lost_138 : decode cX7_lost 138 = .ok (.iconst 0, 1) := by decide +kernel
theorem dX7_lost_139 : decode cX7_lost 139 = .ok (.istore 11, 2) := by decide +kernel
theorem dX7_lost_141 : decode cX7_lost 141 = .ok (.iload 11, 2) := by decide +kernel
theorem dX7_lost_143 : decode cX7_lost 143 = .ok (.aload_n 0, 1) := by decide +kernel
theorem dX7_lost_144 : decode cX7_lost 144 = .ok (.getfield 65, 3) := by decide +kernel
theorem dX7_lost_147 : decode cX7_lost 147 = .ok (.if_icmp .ge 50, 3) := by decide +kernel
theorem dX7_lost_150 : decode cX7_lost 150 = .ok (.iload 10, 2) := by decide +kernel
theorem dX7_lost_152 : decode cX7_lost 152 = .ok (.iload_n 2, 1) := by decide +kernel
theorem dX7_lost_153 : decode cX7_lost 153 = .ok (.iload 11, 2) := by decide +kernel
theorem dX7_lost_155 : decode cX7_lost 155 = .ok (.ishr, 1) := by decide +kernel
theorem dX7_lost_156 : decode cX7_lost 156 = .ok (.iconst 1, 1) := by decide +kernel
theorem dX7_lost_157 : decode cX7_lost 157 = .ok (.iand, 1) := by decide +kernel
theorem dX7_lost_158 : decode cX7_lost 158 = .ok (.iconst 1, 1) := by decide +kernel
theorem dX7_lost_159 : decode cX7_lost 159 = .ok (.if_icmp .ne 28, 3) := by decide +kernel
theorem dX7_lost_162 : decode cX7_lost 162 = .ok (.aload_n 0, 1) := by decide +kernel
theorem dX7_lost_163 : decode cX7_lost 163 = .ok (.getfield 49, 3) := by decide +kernel
theorem dX7_lost_166 : decode cX7_lost 166 = .ok (.iconst 4, 1) := by decide +kernel
theorem dX7_lost_167 : decode cX7_lost 167 = .ok (.iload 9, 2) := by decide +kernel
theorem dX7_lost_169 : decode cX7_lost 169 = .ok (.imul, 1) := by decide +kernel
theorem dX7_lost_170 : decode cX7_lost 170 = .ok (.aload_n 0, 1) := by decide +kernel
theorem dX7_lost_171 : decode cX7_lost 171 = .ok (.getfield 7, 3) := by decide +kernel
theorem dX7_lost_174 : decode cX7_lost 174 = .ok (.iload 11, 2) := by decide +kernel
theorem dX7_lost_176 : decode cX7_lost 176 = .ok (.iaload, 1) := by decide +kernel
theorem dX7_lost_177 : decode cX7_lost 177 = .ok (.iload 6, 2) := by decide +kernel
theorem dX7_lost_179 : decode cX7_lost 179 = .ok (.invokestatic 104, 3) := by decide +kernel
theorem dX7_lost_182 : decode cX7_lost 182 = .ok (.iadd, 1) := by decide +kernel
theorem dX7_lost_183 : decode cX7_lost 183 = .ok (.iaload, 1) := by decide +kernel
theorem dX7_lost_184 : decode cX7_lost 184 = .ok (.goto 4, 3) := by decide +kernel
theorem dX7_lost_187 : decode cX7_lost 187 = .ok (.iconst 0, 1) := by decide +kernel
theorem dX7_lost_188 : decode cX7_lost 188 = .ok (.iadd, 1) := by decide +kernel
theorem dX7_lost_189 : decode cX7_lost 189 = .ok (.istore 10, 2) := by decide +kernel
theorem dX7_lost_191 : decode cX7_lost 191 = .ok (.iinc 11 1, 3) := by decide +kernel
theorem dX7_lost_194 : decode cX7_lost 194 = .ok (.goto (-53), 3) := by decide +kernel
theorem dX7_lost_197 : decode cX7_lost 197 = .ok (.iload 10, 2) := by decide +kernel
theorem dX7_lost_199 : decode cX7_lost 199 = .ok (.iload 8, 2) := by decide +kernel
theorem dX7_lost_201 : decode cX7_lost 201 = .ok (.if_icmp .ge 8, 3) := by decide +kernel
theorem dX7_lost_204 : decode cX7_lost 204 = .ok (.iload 9, 2) := by decide +kernel
theorem dX7_lost_206 : decode cX7_lost 206 = .ok (.goto 5, 3) := by decide +kernel
theorem dX7_lost_209 : decode cX7_lost 209 = .ok (.iload 7, 2) := by decide +kernel
theorem dX7_lost_211 : decode cX7_lost 211 = .ok (.istore 7, 2) := by decide +kernel
theorem dX7_lost_213 : decode cX7_lost 213 = .ok (.iload 10, 2) := by decide +kernel
theorem dX7_lost_215 : decode cX7_lost 215 = .ok (.iload 8, 2) := by decide +kernel
theorem dX7_lost_217 : decode cX7_lost 217 = .ok (.if_icmp .ge 8, 3) := by decide +kernel
theorem dX7_lost_220 : decode cX7_lost 220 = .ok (.iload 10, 2) := by decide +kernel
theorem dX7_lost_222 : decode cX7_lost 222 = .ok (.goto 5, 3) := by decide +kernel
theorem dX7_lost_225 : decode cX7_lost 225 = .ok (.iload 8, 2) := by decide +kernel
theorem dX7_lost_227 : decode cX7_lost 227 = .ok (.istore 8, 2) := by decide +kernel
theorem dX7_lost_229 : decode cX7_lost 229 = .ok (.iinc 9 1, 3) := by decide +kernel
theorem dX7_lost_232 : decode cX7_lost 232 = .ok (.goto (-131), 3) := by decide +kernel
theorem dX7_lost_235 : decode cX7_lost 235 = .ok (.iconst 4, 1) := by decide +kernel
theorem dX7_lost_236 : decode cX7_lost 236 = .ok (.iload 4, 2) := by decide +kernel
theorem dX7_lost_238 : decode cX7_lost 238 = .ok (.imul, 1) := by decide +kernel
theorem dX7_lost_239 : decode cX7_lost 239 = .ok (.iload 7, 2) := by decide +kernel
theorem dX7_lost_241 : decode cX7_lost 241 = .ok (.iadd, 1) := by decide +kernel
theorem dX7_lost_242 : decode cX7_lost 242 = .ok (.istore 4, 2) := by decide +kernel
theorem dX7_lost_244 : decode cX7_lost 244 = .ok (.iload 5, 2) := by decide +kernel
theorem dX7_lost_246 : decode cX7_lost 246 = .ok (.iload 8, 2) := by decide +kernel
theorem dX7_lost_248 : decode cX7_lost 248 = .ok (.iadd, 1) := by decide +kernel
theorem dX7_lost_249 : decode cX7_lost 249 = .ok (.istore 5, 2) := by decide +kernel
theorem dX7_lost_251 : decode cX7_lost 251 = .ok (.iinc 6 1, 3) := by decide +kernel
theorem dX7_lost_254 : decode cX7_lost 254 = .ok (.goto (-170), 3) := by decide +kernel
theorem dX7_lost_257 : decode cX7_lost 257 = .ok (.iconst 0, 1) := by decide +kernel
theorem dX7_lost_258 : decode cX7_lost 258 = .ok (.istore 6, 2) := by decide +kernel
theorem dX7_lost_260 : decode cX7_lost 260 = .ok (.iconst 0, 1) := by decide +kernel
theorem dX7_lost_261 : decode cX7_lost 261 = .ok (.istore 7, 2) := by decide +kernel
theorem dX7_lost_263 : decode cX7_lost 263 = .ok (.iload 7, 2) := by decide +kernel
theorem dX7_lost_265 : decode cX7_lost 265 = .ok (.aload_n 0, 1) := by decide +kernel
theorem dX7_lost_266 : decode cX7_lost 266 = .ok (.getfield 65, 3) := by decide +kernel
theorem dX7_lost_269 : decode cX7_lost 269 = .ok (.if_icmp .ge 57, 3) := by decide +kernel
theorem dX7_lost_272 : decode cX7_lost 272 = .ok (.iload 6, 2) := by decide +kernel
theorem dX7_lost_274 : decode cX7_lost 274 = .ok (.iload_n 2, 1) := by decide +kernel
theorem dX7_lost_275 : decode cX7_lost 275 = .ok (.iload 7, 2) := by decide +kernel
theorem dX7_lost_277 : decode cX7_lost 277 = .ok (.ishr, 1) := by decide +kernel
theorem dX7_lost_278 : decode cX7_lost 278 = .ok (.iconst 1, 1) := by decide +kernel
theorem dX7_lost_279 : decode cX7_lost 279 = .ok (.iand, 1) := by decide +kernel
theorem dX7_lost_280 : decode cX7_lost 280 = .ok (.ifCond .ne 7, 3) := by decide +kernel
theorem dX7_lost_283 : decode cX7_lost 283 = .ok (.iconst 0, 1) := by decide +kernel
theorem dX7_lost_284 : decode cX7_lost 284 = .ok (.goto 33, 3) := by decide +kernel
theorem dX7_lost_287 : decode cX7_lost 287 = .ok (.iload_n 1, 1) := by decide +kernel
theorem dX7_lost_288 : decode cX7_lost 288 = .ok (.ifCond .ge 12, 3) := by decide +kernel
theorem dX7_lost_291 : decode cX7_lost 291 = .ok (.aload_n 0, 1) := by decide +kernel
theorem dX7_lost_292 : decode cX7_lost 292 = .ok (.getfield 22, 3) := by decide +kernel
theorem dX7_lost_295 : decode cX7_lost 295 = .ok (.iconst 0, 1) := by decide +kernel
theorem dX7_lost_296 : decode cX7_lost 296 = .ok (.iaload, 1) := by decide +kernel
theorem dX7_lost_297 : decode cX7_lost 297 = .ok (.goto 20, 3) := by decide +kernel
theorem dX7_lost_300 : decode cX7_lost 300 = .ok (.aload_n 0, 1) := by decide +kernel
theorem dX7_lost_301 : decode cX7_lost 301 = .ok (.aload_n 0, 1) := by decide +kernel
theorem dX7_lost_302 : decode cX7_lost 302 = .ok (.getfield 7, 3) := by decide +kernel
theorem dX7_lost_305 : decode cX7_lost 305 = .ok (.iload_n 1, 1) := by decide +kernel
theorem dX7_lost_306 : decode cX7_lost 306 = .ok (.iaload, 1) := by decide +kernel
theorem dX7_lost_307 : decode cX7_lost 307 = .ok (.aload_n 0, 1) := by decide +kernel
theorem dX7_lost_308 : decode cX7_lost 308 = .ok (.getfield 7, 3) := by decide +kernel
theorem dX7_lost_311 : decode cX7_lost 311 = .ok (.iload 7, 2) := by decide +kernel
theorem dX7_lost_313 : decode cX7_lost 313 = .ok (.iaload, 1) := by decide +kernel
theorem dX7_lost_314 : decode cX7_lost 314 = .ok (.invokevirtual 108, 3) := by decide +kernel
theorem dX7_lost_317 : decode cX7_lost 317 = .ok (.iadd, 1) := by decide +kernel
theorem dX7_lost_318 : decode cX7_lost 318 = .ok (.istore 6, 2) := by decide +kernel
theorem dX7_lost_320 : decode cX7_lost 320 = .ok (.iinc 7 1, 3) := by decide +kernel
theorem dX7_lost_323 : decode cX7_lost 323 = .ok (.goto (-60), 3) := by decide +kernel
theorem dX7_lost_326 : decode cX7_lost 326 = .ok (.iload_n 3, 1) := by decide +kernel
theorem dX7_lost_327 : decode cX7_lost 327 = .ok (.ifCond .ne 8, 3) := by decide +kernel
theorem dX7_lost_330 : decode cX7_lost 330 = .ok (.iload 4, 2) := by decide +kernel
theorem dX7_lost_332 : decode cX7_lost 332 = .ok (.goto 22, 3) := by decide +kernel
theorem dX7_lost_335 : decode cX7_lost 335 = .ok (.iload_n 3, 1) := by decide +kernel
theorem dX7_lost_336 : decode cX7_lost 336 = .ok (.iconst 1, 1) := by decide +kernel
theorem dX7_lost_337 : decode cX7_lost 337 = .ok (.if_icmp .ne 8, 3) := by decide +kernel
theorem dX7_lost_340 : decode cX7_lost 340 = .ok (.iload 5, 2) := by decide +kernel
theorem dX7_lost_342 : decode cX7_lost 342 = .ok (.goto 12, 3) := by decide +kernel
theorem dX7_lost_345 : decode cX7_lost 345 = .ok (.iload 6, 2) := by decide +kernel
theorem dX7_lost_347 : decode cX7_lost 347 = .ok (.iload 5, 2) := by decide +kernel
theorem dX7_lost_349 : decode cX7_lost 349 = .ok (.isub, 1) := by decide +kernel
theorem dX7_lost_350 : decode cX7_lost 350 = .ok (.sipush 10000, 3) := by decide +kernel
theorem dX7_lost_353 : decode cX7_lost 353 = .ok (.iadd, 1) := by decide +kernel
theorem dX7_lost_354 : decode cX7_lost 354 = .ok (.ireturn, 1) := by decide +kernel
theorem dX7_width_0 : decode cX7_width 0 = .ok (.aload_n 0, 1) := by decide +kernel
theorem dX7_width_1 : decode cX7_width 1 = .ok (.iload_n 1, 1) := by decide +kernel
theorem dX7_width_2 : decode cX7_width 2 = .ok (.invokevirtual 85, 3) := by decide +kernel
theorem dX7_width_5 : decode cX7_width 5 = .ok (.ifCond .ne 5, 3) := by decide +kernel
theorem dX7_width_8 : decode cX7_width 8 = .ok (.iconst (-1), 1) := by decide +kernel
theorem dX7_width_9 : decode cX7_width 9 = .ok (.ireturn, 1) := by decide +kernel
theorem dX7_width_10 : decode cX7_width 10 = .ok (.iload_n 2, 1) := by decide +kernel
theorem dX7_width_11 : decode cX7_width 11 = .ok (.iconst 0, 1) := by decide +kernel
end
section
theorem dX7_width_12 : decode cX7_width 12 = .ok (.sipush 999, 3) := by decide +kernel
theorem dX7_width_15 : decode cX7_width 15 = .ok (.invokestatic 69, 3) := by decide +kernel
theorem dX7_width_18 : decode cX7_width 18 = .ok (.ifCond .ne 6, 3) := by decide +kernel
theorem dX7_width_21 : decode cX7_width 21 = .ok (.bipush (-2), 2) := by decide +kernel
theorem dX7_width_23 : decode cX7_width 23 = .ok (.ireturn, 1) := by decide +kernel
theorem dX7_width_24 : decode cX7_width 24 = .ok (.aload_n 0, 1) := by decide +kernel
theorem dX7_width_25 : decode cX7_width 25 = .ok (.getfield 19, 3) := by decide +kernel
theorem dX7_width_28 : decode cX7_width 28 = .ok (.iload_n 1, 1) := by decide +kernel
theorem dX7_width_29 : decode cX7_width 29 = .ok (.iaload, 1) := by decide +kernel
theorem dX7_width_30 : decode cX7_width 30 = .ok (.istore_n 3, 1) := by decide +kernel
theorem dX7_width_31 : decode cX7_width 31 = .ok (.aload_n 0, 1) := by decide +kernel
theorem dX7_width_32 : decode cX7_width 32 = .ok (.getfield 19, 3) := by decide +kernel
theorem dX7_width_35 : decode cX7_width 35 = .ok (.iload_n 1, 1) := by decide +kernel
theorem dX7_width_36 : decode cX7_width 36 = .ok (.iload_n 2, 1) := by decide +kernel
theorem dX7_width_37 : decode cX7_width 37 = .ok (.ifCond .ne 8, 3) := by decide +kernel
theorem dX7_width_40 : decode cX7_width 40 = .ok (.bipush (-6), 2) := by decide +kernel
theorem dX7_width_42 : decode cX7_width 42 = .ok (.goto 4, 3) := by decide +kernel
theorem dX7_width_45 : decode cX7_width 45 = .ok (.iload_n 2, 1) := by decide +kernel
theorem dX7_width_46 : decode cX7_width 46 = .ok (.iastore, 1) := by decide +kernel
theorem dX7_width_47 : decode cX7_width 47 = .ok (.iload_n 3, 1) := by decide +kernel
theorem dX7_width_48 : decode cX7_width 48 = .ok (.ireturn, 1) := by decide +kernel
theorem dX7_spread_0 : decode cX7_spread 0 = .ok (.iload_n 1, 1) := by decide +kernel
theorem dX7_spread_1 : decode cX7_spread 1 = .ok (.iconst 0, 1) := by decide +kernel
theorem dX7_spread_2 : decode cX7_spread 2 = .ok (.iconst 1, 1) := by decide +kernel
theorem dX7_spread_3 : decode cX7_spread 3 = .ok (.invokestatic 69, 3) := by decide +kernel
theorem dX7_spread_6 : decode cX7_spread 6 = .ok (.ifCond .eq 23, 3) := by decide +kernel
theorem dX7_spread_9 : decode cX7_spread 9 = .ok (.iload_n 2, 1) := by decide +kernel
theorem dX7_spread_10 : decode cX7_spread 10 = .ok (.iconst 1, 1) := by decide +kernel
theorem dX7_spread_11 : decode cX7_spread 11 = .ok (.bipush 99, 2) := by decide +kernel
theorem dX7_spread_13 : decode cX7_spread 13 = .ok (.invokestatic 69, 3) := by decide +kernel
theorem dX7_spread_16 : decode cX7_spread 16 = .ok (.ifCond .eq 13, 3) := by decide +kernel
theorem dX7_spread_19 : decode cX7_spread 19 = .ok (.iload_n 3, 1) := by decide +kernel
theorem dX7_spread_20 : decode cX7_spread 20 = .ok (.iload_n 2, 1) := by decide +kernel
theorem dX7_spread_21 : decode cX7_spread 21 = .ok (.bipush 99, 2) := by decide +kernel
theorem dX7_spread_23 : decode cX7_spread 23 = .ok (.invokestatic 69, 3) := by decide +kernel
theorem dX7_spread_26 : decode cX7_spread 26 = .ok (.ifCond .ne 6, 3) := by decide +kernel
theorem dX7_spread_29 : decode cX7_spread 29 = .ok (.bipush (-2), 2) := by decide +kernel
theorem dX7_spread_31 : decode cX7_spread 31 = .ok (.ireturn, 1) := by decide +kernel
theorem dX7_spread_32 : decode cX7_spread 32 = .ok (.bipush 100, 2) := by decide +kernel
theorem dX7_spread_34 : decode cX7_spread 34 = .ok (.aload_n 0, 1) := by decide +kernel
theorem dX7_spread_35 : decode cX7_spread 35 = .ok (.getfield 31, 3) := by decide +kernel
theorem dX7_spread_38 : decode cX7_spread 38 = .ok (.iconst 2, 1) := by decide +kernel
theorem dX7_spread_39 : decode cX7_spread 39 = .ok (.iload_n 1, 1) := by decide +kernel
theorem dX7_spread_40 : decode cX7_spread 40 = .ok (.imul, 1) := by decide +kernel
theorem dX7_spread_41 : decode cX7_spread 41 = .ok (.iaload, 1) := by decide +kernel
theorem dX7_spread_42 : decode cX7_spread 42 = .ok (.imul, 1) := by decide +kernel
theorem dX7_spread_43 : decode cX7_spread 43 = .ok (.aload_n 0, 1) := by decide +kernel
theorem dX7_spread_44 : decode cX7_spread 44 = .ok (.getfield 31, 3) := by decide +kernel
theorem dX7_spread_47 : decode cX7_spread 47 = .ok (.iconst 2, 1) := by decide +kernel
theorem dX7_spread_48 : decode cX7_spread 48 = .ok (.iload_n 1, 1) := by decide +kernel
theorem dX7_spread_49 : decode cX7_spread 49 = .ok (.imul, 1) := by decide +kernel
theorem dX7_spread_50 : decode cX7_spread 50 = .ok (.iconst 1, 1) := by decide +kernel
theorem dX7_spread_51 : decode cX7_spread 51 = .ok (.iadd, 1) := by decide +kernel
theorem dX7_spread_52 : decode cX7_spread 52 = .ok (.iaload, 1) := by decide +kernel
theorem dX7_spread_53 : decode cX7_spread 53 = .ok (.iadd, 1) := by decide +kernel
theorem dX7_spread_54 : decode cX7_spread 54 = .ok (.istore 4, 2) := by decide +kernel
theorem dX7_spread_56 : decode cX7_spread 56 = .ok (.aload_n 0, 1) := by decide +kernel
theorem dX7_spread_57 : decode cX7_spread 57 = .ok (.getfield 31, 3) := by decide +kernel
theorem dX7_spread_60 : decode cX7_spread 60 = .ok (.iconst 2, 1) := by decide +kernel
theorem dX7_spread_61 : decode cX7_spread 61 = .ok (.iload_n 1, 1) := by decide +kernel
theorem dX7_spread_62 : decode cX7_spread 62 = .ok (.imul, 1) := by decide +kernel
theorem dX7_spread_63 : decode cX7_spread 63 = .ok (.iload_n 2, 1) := by decide +kernel
theorem dX7_spread_64 : decode cX7_spread 64 = .ok (.iastore, 1) := by decide +kernel
theorem dX7_spread_65 : decode cX7_spread 65 = .ok (.aload_n 0, 1) := by decide +kernel
theorem dX7_spread_66 : decode cX7_spread 66 = .ok (.getfield 31, 3) := by decide +kernel
theorem dX7_spread_69 : decode cX7_spread 69 = .ok (.iconst 2, 1) := by decide +kernel
theorem dX7_spread_70 : decode cX7_spread 70 = .ok (.iload_n 1, 1) := by decide +kernel
theorem dX7_spread_71 : decode cX7_spread 71 = .ok (.imul, 1) := by decide +kernel
theorem dX7_spread_72 : decode cX7_spread 72 = .ok (.iconst 1, 1) := by decide +kernel
theorem dX7_spread_73 : decode cX7_spread 73 = .ok (.iadd, 1) := by decide +kernel
theorem dX7_spread_74 : decode cX7_spread 74 = .ok (.iload_n 3, 1) := by decide +kernel
theorem dX7_spread_75 : decode cX7_spread 75 = .ok (.iastore, 1) := by decide +kernel
theorem dX7_spread_76 : decode cX7_spread 76 = .ok (.iload 4, 2) := by decide +kernel
theorem dX7_spread_78 : decode cX7_spread 78 = .ok (.ireturn, 1) := by decide +kernel
theorem dX7_layAged_0 : decode cX7_layAged 0 = .ok (.aload_n 0, 1) := by decide +kernel
theorem dX7_layAged_1 : decode cX7_layAged 1 = .ok (.bipush (-6), 2) := by decide +kernel
theorem dX7_layAged_3 : decode cX7_layAged 3 = .ok (.putfield 131, 3) := by decide +kernel
theorem dX7_layAged_6 : decode cX7_layAged 6 = .ok (.aload_n 0, 1) := by decide +kernel
theorem dX7_layAged_7 : decode cX7_layAged 7 = .ok (.bipush (-6), 2) := by decide +kernel
theorem dX7_layAged_9 : decode cX7_layAged 9 = .ok (.putfield 134, 3) := by decide +kernel
theorem dX7_layAged_12 : decode cX7_layAged 12 = .ok (.aload_n 0, 1) := by decide +kernel
theorem dX7_layAged_13 : decode cX7_layAged 13 = .ok (.iconst 0, 1) := by decide +kernel
theorem dX7_layAged_14 : decode cX7_layAged 14 = .ok (.putfield 137, 3) := by decide +kernel
theorem dX7_layAged_17 : decode cX7_layAged 17 = .ok (.iconst 0, 1) := by decide +kernel
theorem dX7_layAged_18 : decode cX7_layAged 18 = .ok (.istore_n 2, 1) := by decide +kernel
theorem dX7_layAged_19 : decode cX7_layAged 19 = .ok (.iload_n 2, 1) := by decide +kernel
theorem dX7_layAged_20 : decode cX7_layAged 20 = .ok (.aload_n 0, 1) := by decide +kernel
theorem dX7_layAged_21 : decode cX7_layAged 21 = .ok (.getfield 22, 3) := by decide +kernel
theorem dX7_layAged_24 : decode cX7_layAged 24 = .ok (.iconst 1, 1) := by decide +kernel
theorem dX7_layAged_25 : decode cX7_layAged 25 = .ok (.iaload, 1) := by decide +kernel
theorem dX7_layAged_26 : decode cX7_layAged 26 = .ok (.if_icmp .gt 124, 3) := by decide +kernel
theorem dX7_layAged_29 : decode cX7_layAged 29 = .ok (.iconst 0, 1) := by decide +kernel
theorem dX7_layAged_30 : decode cX7_layAged 30 = .ok (.istore_n 3, 1) := by decide +kernel
theorem dX7_layAged_31 : decode cX7_layAged 31 = .ok (.aload_n 0, 1) := by decide +kernel
theorem dX7_layAged_32 : decode cX7_layAged 32 = .ok (.getfield 31, 3) := by decide +kernel
theorem dX7_layAged_35 : decode cX7_layAged 35 = .ok (.iconst 2, 1) := by decide +kernel
theorem dX7_layAged_36 : decode cX7_layAged 36 = .ok (.iaload, 1) := by decide +kernel
theorem dX7_layAged_37 : decode cX7_layAged 37 = .ok (.istore 4, 2) := by decide +kernel
theorem dX7_layAged_39 : decode cX7_layAged 39 = .ok (.iload 4, 2) := by decide +kernel
theorem dX7_layAged_41 : decode cX7_layAged 41 = .ok (.aload_n 0, 1) := by decide +kernel
theorem dX7_layAged_42 : decode cX7_layAged 42 = .ok (.getfield 31, 3) := by decide +kernel
theorem dX7_layAged_45 : decode cX7_layAged 45 = .ok (.iconst 3, 1) := by decide +kernel
theorem dX7_layAged_46 : decode cX7_layAged 46 = .ok (.iaload, 1) := by decide +kernel
theorem dX7_layAged_47 : decode cX7_layAged 47 = .ok (.if_icmp .gt 59, 3) := by decide +kernel
theorem dX7_layAged_50 : decode cX7_layAged 50 = .ok (.aload_n 0, 1) := by decide +kernel
theorem dX7_layAged_51 : decode cX7_layAged 51 = .ok (.getfield 19, 3) := by decide +kernel
theorem dX7_layAged_54 : decode cX7_layAged 54 = .ok (.iload_n 1, 1) := by decide +kernel
theorem dX7_layAged_55 : decode cX7_layAged 55 = .ok (.iaload, 1) := by decide +kernel
theorem dX7_layAged_56 : decode cX7_layAged 56 = .ok (.iload 4, 2) := by decide +kernel
theorem dX7_layAged_58 : decode cX7_layAged 58 = .ok (.aload_n 0, 1) := by decide +kernel
theorem dX7_layAged_59 : decode cX7_layAged 59 = .ok (.getfield 22, 3) := by decide +kernel
theorem dX7_layAged_62 : decode cX7_layAged 62 = .ok (.iconst 1, 1) := by decide +kernel
theorem dX7_layAged_63 : decode cX7_layAged 63 = .ok (.iaload, 1) := by decide +kernel
theorem dX7_layAged_64 : decode cX7_layAged 64 = .ok (.iload_n 2, 1) := by decide +kernel
theorem dX7_layAged_65 : decode cX7_layAged 65 = .ok (.isub, 1) := by decide +kernel
theorem dX7_layAged_66 : decode cX7_layAged 66 = .ok (.imul, 1) := by decide +kernel
theorem dX7_layAged_67 : decode cX7_layAged 67 = .ok (.isub, 1) := by decide +kernel
theorem dX7_layAged_68 : decode cX7_layAged 68 = .ok (.istore 5, 2) := by decide +kernel
theorem dX7_layAged_70 : decode cX7_layAged 70 = .ok (.iload_n 3, 1) := by decide +kernel
theorem dX7_layAged_71 : decode cX7_layAged 71 = .ok (.ifCond .ne 23, 3) := by decide +kernel
theorem dX7_layAged_74 : decode cX7_layAged 74 = .ok (.iload 5, 2) := by decide +kernel
theorem dX7_layAged_76 : decode cX7_layAged 76 = .ok (.aload_n 0, 1) := by decide +kernel
theorem dX7_layAged_77 : decode cX7_layAged 77 = .ok (.getfield 31, 3) := by decide +kernel
theorem dX7_layAged_80 : decode cX7_layAged 80 = .ok (.iconst 0, 1) := by decide +kernel
theorem dX7_layAged_81 : decode cX7_layAged 81 = .ok (.iaload, 1) := by decide +kernel
theorem dX7_layAged_82 : decode cX7_layAged 82 = .ok (.aload_n 0, 1) := by decide +kernel
theorem dX7_layAged_83 : decode cX7_layAged 83 = .ok (.getfield 31, 3) := by decide +kernel
theorem dX7_layAged_86 : decode cX7_layAged 86 = .ok (.iconst 1, 1) := by decide +kernel
theorem dX7_layAged_87 : decode cX7_layAged 87 = .ok (.iaload, 1) := by decide +kernel
theorem dX7_layAged_88 : decode cX7_layAged 88 = .ok (.invokestatic 69, 3) := by decide +kernel
theorem dX7_layAged_91 : decode cX7_layAged 91 = .ok (.ifCond .eq 7, 3) := by decide +kernel
theorem dX7_layAged_94 : decode cX7_layAged 94 = .ok (.iconst 1, 1) := by decide +kernel
theorem dX7_layAged_95 : decode cX7_layAged 95 = .ok (.goto 4, 3) := by decide +kernel
theorem dX7_layAged_98 : decode cX7_layAged 98 = .ok (.iconst 0, 1) := by decide +kernel
theorem dX7_layAged_99 : decode cX7_layAged 99 = .ok (.istore_n 3, 1) := by decide +kernel
theorem dX7_layAged_100 : decode cX7_layAged 100 = .ok (.iinc 4 1, 3) := by decide +kernel
theorem dX7_layAged_103 : decode cX7_layAged 103 = .ok (.goto (-64), 3) := by decide +kernel
theorem dX7_layAged_106 : decode cX7_layAged 106 = .ok (.iload_n 3, 1) := by decide +kernel
theorem dX7_layAged_107 : decode cX7_layAged 107 = .ok (.ifCond .eq 37, 3) := by decide +kernel
theorem dX7_layAged_110 : decode cX7_layAged 110 = .ok (.aload_n 0, 1) := by decide +kernel
theorem dX7_layAged_111 : decode cX7_layAged 111 = .ok (.aload_n 0, 1) := by decide +kernel
theorem dX7_layAged_112 : decode cX7_layAged 112 = .ok (.getfield 131, 3) := by decide +kernel
theorem dX7_layAged_115 : decode cX7_layAged 115 = .ok (.ifCond .ge 7, 3) := by decide +kernel
theorem dX7_layAged_118 : decode cX7_layAged 118 = .ok (.iload_n 2, 1) := by decide +kernel
theorem dX7_layAged_119 : decode cX7_layAged 119 = .ok (.goto 7, 3) := by decide +kernel
theorem dX7_layAged_122 : decode cX7_layAged 122 = .ok (.aload_n 0, 1) := by decide +kernel
theorem dX7_layAged_123 : decode cX7_layAged 123 = .ok (.getfield 131, 3) := by decide +kernel
theorem dX7_layAged_126 : decode cX7_layAged 126 = .ok (.putfield 131, 3) := by decide +kernel
theorem dX7_layAged_129 : decode cX7_layAged 129 = .ok (.aload_n 0, 1) := by decide +kernel
theorem dX7_layAged_130 : decode cX7_layAged 130 = .ok (.iload_n 2, 1) := by decide +kernel
theorem dX7_layAged_131 : decode cX7_layAged 131 = .ok (.putfield 134, 3) := by decide +kernel
theorem dX7_layAged_134 : decode cX7_layAged 134 = .ok (.aload_n 0, 1) := by decide +kernel
theorem dX7_layAged_135 : decode cX7_layAged 135 = .ok (.dup, 1) := by decide +kernel
theorem dX7_layAged_136 : decode cX7_layAged 136 = .ok (.getfield 137, 3) := by decide +kernel
theorem dX7_layAged_139 : decode cX7_layAged 139 = .ok (.iconst 1, 1) := by decide +kernel
theorem dX7_layAged_140 : decode cX7_layAged 140 = .ok (.iadd, 1) := by decide +kernel
theorem dX7_layAged_141 : decode cX7_layAged 141 = .ok (.putfield 137, 3) := by decide +kernel
theorem dX7_layAged_144 : decode cX7_layAged 144 = .ok (.iinc 2 1, 3) := by decide +kernel
theorem dX7_layAged_147 : decode cX7_layAged 147 = .ok (.goto (-128), 3) := by decide +kernel
theorem dX7_layAged_150 : decode cX7_layAged 150 = .ok (.return_, 1) := by decide +kernel
theorem dX7_aged_0 : decode cX7_aged 0 = .ok (.aload_n 0, 1) := by decide +kernel
theorem dX7_aged_1 : decode cX7_aged 1 = .ok (.iload_n 1, 1) := by decide +kernel
theorem dX7_aged_2 : decode cX7_aged 2 = .ok (.invokevirtual 85, 3) := by decide +kernel
theorem dX7_aged_5 : decode cX7_aged 5 = .ok (.ifCond .ne 5, 3) := by decide +kernel
theorem dX7_aged_8 : decode cX7_aged 8 = .ok (.iconst (-1), 1) := by decide +kernel
theorem dX7_aged_9 : decode cX7_aged 9 = .ok (.ireturn, 1) := by decide +kernel
theorem dX7_aged_10 : decode cX7_aged 10 = .ok (.iload_n 2, 1) := by decide +kernel
theorem dX7_aged_11 : decode cX7_aged 11 = .ok (.iconst 0, 1) := by decide +kernel
theorem dX7_aged_12 : decode cX7_aged 12 = .ok (.iconst 2, 1) := by decide +kernel
theorem dX7_aged_13 : decode cX7_aged 13 = .ok (.invokestatic 69, 3) := by decide +kernel
theorem dX7_aged_16 : decode cX7_aged 16 = .ok (.ifCond .ne 6, 3) := by decide +kernel
theorem dX7_aged_19 : decode cX7_aged 19 = .ok (.bipush (-2), 2) := by decide +kernel
theorem dX7_aged_21 : decode cX7_aged 21 = .ok (.ireturn, 1) := by decide +kernel
theorem dX7_aged_22 : decode cX7_aged 22 = .ok (.aload_n 0, 1) := by decide +kernel
theorem dX7_aged_23 : decode cX7_aged 23 = .ok (.getfield 19, 3) := by decide +kernel
theorem dX7_aged_26 : decode cX7_aged 26 = .ok (.iload_n 1, 1) := by decide +kernel
theorem dX7_aged_27 : decode cX7_aged 27 = .ok (.iaload, 1) := by decide +kernel
theorem dX7_aged_28 : decode cX7_aged 28 = .ok (.ifCond .ge 6, 3) := by decide +kernel
theorem dX7_aged_31 : decode cX7_aged 31 = .ok (.bipush (-3), 2) := by decide +kernel
theorem dX7_aged_33 : decode cX7_aged 33 = .ok (.ireturn, 1) := by decide +kernel
theorem dX7_aged_34 : decode cX7_aged 34 = .ok (.aload_n 0, 1) := by decide +kernel
theorem dX7_aged_35 : decode cX7_aged 35 = .ok (.iload_n 1, 1) := by decide +kernel
theorem dX7_aged_36 : decode cX7_aged 36 = .ok (.invokevirtual 140, 3) := by decide +kernel
theorem dX7_aged_39 : decode cX7_aged 39 = .ok (.aload_n 0, 1) := by decide +kernel
theorem dX7_aged_40 : decode cX7_aged 40 = .ok (.getfield 137, 3) := by decide +kernel
theorem dX7_aged_43 : decode cX7_aged 43 = .ok (.ifCond .ne 8, 3) := by decide +kernel
theorem dX7_aged_46 : decode cX7_aged 46 = .ok (.bipush (-5), 2) := by decide +kernel
theorem dX7_aged_48 : decode cX7_aged 48 = .ok (.goto 30, 3) := by decide +kernel
theorem dX7_aged_51 : decode cX7_aged 51 = .ok (.iload_n 2, 1) := by decide +kernel
theorem dX7_aged_52 : decode cX7_aged 52 = .ok (.ifCond .ne 10, 3) := by decide +kernel
theorem dX7_aged_55 : decode cX7_aged 55 = .ok (.aload_n 0, 1) := by decide +kernel
theorem dX7_aged_56 : decode cX7_aged 56 = .ok (.getfield 131, 3) := by decide +kernel
theorem dX7_aged_59 : decode cX7_aged 59 = .ok (.goto 19, 3) := by decide +kernel
theorem dX7_aged_62 : decode cX7_aged 62 = .ok (.iload_n 2, 1) := by decide +kernel
theorem dX7_aged_63 : decode cX7_aged 63 = .ok (.iconst 1, 1) := by decide +kernel
theorem dX7_aged_64 : decode cX7_aged 64 = .ok (.if_icmp .ne 10, 3) := by decide +kernel
theorem dX7_aged_67 : decode cX7_aged 67 = .ok (.aload_n 0, 1) := by decide +kernel
theorem dX7_aged_68 : decode cX7_aged 68 = .ok (.getfield 134, 3) := by decide +kernel
theorem dX7_aged_71 : decode cX7_aged 71 = .ok (.goto 7, 3) := by decide +kernel
theorem dX7_aged_74 : decode cX7_aged 74 = .ok (.aload_n 0, 1) := by decide +kernel
theorem dX7_aged_75 : decode cX7_aged 75 = .ok (.getfield 137, 3) := by decide +kernel
theorem dX7_aged_78 : decode cX7_aged 78 = .ok (.ireturn, 1) := by decide +kernel
theorem dX7_take_0 : decode cX7_take 0 = .ok (.aload_n 0, 1) := by decide +kernel
theorem dX7_take_1 : decode cX7_take 1 = .ok (.iload_n 1, 1) := by decide +kernel
theorem dX7_take_2 : decode cX7_take 2 = .ok (.invokevirtual 85, 3) := by decide +kernel
theorem dX7_take_5 : decode cX7_take 5 = .ok (.ifCond .ne 5, 3) := by decide +kernel
theorem dX7_take_8 : decode cX7_take 8 = .ok (.iconst (-1), 1) := by decide +kernel
theorem dX7_take_9 : decode cX7_take 9 = .ok (.ireturn, 1) := by decide +kernel
theorem dX7_take_10 : decode cX7_take 10 = .ok (.aload_n 0, 1) := by decide +kernel
theorem dX7_take_11 : decode cX7_take 11 = .ok (.getfield 19, 3) := by decide +kernel
theorem dX7_take_14 : decode cX7_take 14 = .ok (.iload_n 1, 1) := by decide +kernel
theorem dX7_take_15 : decode cX7_take 15 = .ok (.iaload, 1) := by decide +kernel
theorem dX7_take_16 : decode cX7_take 16 = .ok (.ifCond .ge 6, 3) := by decide +kernel
theorem dX7_take_19 : decode cX7_take 19 = .ok (.bipush (-3), 2) := by decide +kernel
theorem dX7_take_21 : decode cX7_take 21 = .ok (.ireturn, 1) := by decide +kernel
theorem dX7_take_22 : decode cX7_take 22 = .ok (.aload_n 0, 1) := by decide +kernel
theorem dX7_take_23 : decode cX7_take 23 = .ok (.iload_n 1, 1) := by decide +kernel
theorem dX7_take_24 : decode cX7_take 24 = .ok (.invokevirtual 140, 3) := by decide +kernel
theorem dX7_take_27 : decode cX7_take 27 = .ok (.aload_n 0, 1) := by decide +kernel
theorem dX7_take_28 : decode cX7_take 28 = .ok (.getfield 131, 3) := by decide +kernel
theorem dX7_take_31 : decode cX7_take 31 = .ok (.aload_n 0, 1) := by decide +kernel
theorem dX7_take_32 : decode cX7_take 32 = .ok (.getfield 13, 3) := by decide +kernel
theorem dX7_take_35 : decode cX7_take 35 = .ok (.iload_n 1, 1) := by decide +kernel
theorem dX7_take_36 : decode cX7_take 36 = .ok (.iaload, 1) := by decide +kernel
theorem dX7_take_37 : decode cX7_take 37 = .ok (.if_icmp .le 10, 3) := by decide +kernel
theorem dX7_take_40 : decode cX7_take 40 = .ok (.aload_n 0, 1) := by decide +kernel
theorem dX7_take_41 : decode cX7_take 41 = .ok (.getfield 131, 3) := by decide +kernel
theorem dX7_take_44 : decode cX7_take 44 = .ok (.goto 9, 3) := by decide +kernel
theorem dX7_take_47 : decode cX7_take 47 = .ok (.aload_n 0, 1) := by decide +kernel
theorem dX7_take_48 : decode cX7_take 48 = .ok (.getfield 13, 3) := by decide +kernel
theorem dX7_take_51 : decode cX7_take 51 = .ok (.iload_n 1, 1) := by decide +kernel
theorem dX7_take_52 : decode cX7_take 52 = .ok (.iaload, 1) := by decide +kernel
theorem dX7_take_53 : decode cX7_take 53 = .ok (.istore_n 2, 1) := by decide +kernel
theorem dX7_take_54 : decode cX7_take 54 = .ok (.aload_n 0, 1) := by decide +kernel
theorem dX7_take_55 : decode cX7_take 55 = .ok (.getfield 134, 3) := by decide +kernel
theorem dX7_take_58 : decode cX7_take 58 = .ok (.aload_n 0, 1) := by decide +kernel
theorem dX7_take_59 : decode cX7_take 59 = .ok (.getfield 16, 3) := by decide +kernel
theorem dX7_take_62 : decode cX7_take 62 = .ok (.iload_n 1, 1) := by decide +kernel
theorem dX7_take_63 : decode cX7_take 63 = .ok (.iaload, 1) := by decide +kernel
theorem dX7_take_64 : decode cX7_take 64 = .ok (.if_icmp .ge 10, 3) := by decide +kernel
theorem dX7_take_67 : decode cX7_take 67 = .ok (.aload_n 0, 1) := by decide +kernel
theorem dX7_take_68 : decode cX7_take 68 = .ok (.getfield 134, 3) := by decide +kernel
theorem dX7_take_71 : decode cX7_take 71 = .ok (.goto 9, 3) := by decide +kernel
theorem dX7_take_74 : decode cX7_take 74 = .ok (.aload_n 0, 1) := by decide +kernel
theorem dX7_take_75 : decode cX7_take 75 = .ok (.getfield 16, 3) := by decide +kernel
theorem dX7_take_78 : decode cX7_take 78 = .ok (.iload_n 1, 1) := by decide +kernel
theorem dX7_take_79 : decode cX7_take 79 = .ok (.iaload, 1) := by decide +kernel
theorem dX7_take_80 : decode cX7_take 80 = .ok (.istore_n 3, 1) := by decide +kernel
theorem dX7_take_81 : decode cX7_take 81 = .ok (.aload_n 0, 1) := by decide +kernel
theorem dX7_take_82 : decode cX7_take 82 = .ok (.getfield 137, 3) := by decide +kernel
theorem dX7_take_85 : decode cX7_take 85 = .ok (.ifCond .eq 8, 3) := by decide +kernel
theorem dX7_take_88 : decode cX7_take 88 = .ok (.iload_n 2, 1) := by decide +kernel
theorem dX7_take_89 : decode cX7_take 89 = .ok (.iload_n 3, 1) := by decide +kernel
theorem dX7_take_90 : decode cX7_take 90 = .ok (.if_icmp .le 6, 3) := by decide +kernel
theorem dX7_take_93 : decode cX7_take 93 = .ok (.bipush (-5), 2) := by decide +kernel
theorem dX7_take_95 : decode cX7_take 95 = .ok (.ireturn, 1) := by decide +kernel
theorem dX7_take_96 : decode cX7_take 96 = .ok (.aload_n 0, 1) := by decide +kernel
theorem dX7_take_97 : decode cX7_take 97 = .ok (.getfield 13, 3) := by decide +kernel
theorem dX7_take_100 : decode cX7_take 100 = .ok (.iload_n 1, 1) := by decide +kernel
theorem dX7_take_101 : decode cX7_take 101 = .ok (.iload_n 2, 1) := by decide +kernel
theorem dX7_take_102 : decode cX7_take 102 = .ok (.iastore, 1) := by decide +kernel
theorem dX7_take_103 : decode cX7_take 103 = .ok (.aload_n 0, 1) := by decide +kernel
theorem dX7_take_104 : decode cX7_take 104 = .ok (.getfield 16, 3) := by decide +kernel
theorem dX7_take_107 : decode cX7_take 107 = .ok (.iload_n 1, 1) := by decide +kernel
theorem dX7_take_108 : decode cX7_take 108 = .ok (.iload_n 3, 1) := by decide +kernel
theorem dX7_take_109 : decode cX7_take 109 = .ok (.iastore, 1) := by decide +kernel
theorem dX7_take_110 : decode cX7_take 110 = .ok (.aload_n 0, 1) := by decide +kernel
theorem dX7_take_111 : decode cX7_take 111 = .ok (.iconst 0, 1) := by decide +kernel
theorem dX7_take_112 : decode cX7_take 112 = .ok (.putfield 81, 3) := by decide +kernel
theorem dX7_take_115 : decode cX7_take 115 = .ok (.iload_n 3, 1) := by decide +kernel
theorem dX7_take_116 : decode cX7_take 116 = .ok (.iload_n 2, 1) := by decide +kernel
theorem dX7_take_117 : decode cX7_take 117 = .ok (.isub, 1) := by decide +kernel
theorem dX7_take_118 : decode cX7_take 118 = .ok (.iconst 1, 1) := by decide +kernel
theorem dX7_take_119 : decode cX7_take 119 = .ok (.iadd, 1) := by decide +kernel
theorem dX7_take_120 : decode cX7_take 120 = .ok (.ireturn, 1) := by decide +kernel
theorem dX7_hide_0 : decode cX7_hide 0 = .ok (.iload_n 1, 1) := by decide +kernel
theorem dX7_hide_1 : decode cX7_hide 1 = .ok (.iconst 0, 1) := by decide +kernel
theorem dX7_hide_2 : decode cX7_hide 2 = .ok (.bipush 7, 2) := by decide +kernel
theorem dX7_hide_4 : decode cX7_hide 4 = .ok (.invokestatic 69, 3) := by decide +kernel
theorem dX7_hide_7 : decode cX7_hide 7 = .ok (.ifCond .ne 5, 3) := by decide +kernel
theorem dX7_hide_10 : decode cX7_hide 10 = .ok (.iconst (-1), 1) := by decide +kernel
theorem dX7_hide_11 : decode cX7_hide 11 = .ok (.ireturn, 1) := by decide +kernel
theorem dX7_hide_12 : decode cX7_hide 12 = .ok (.iload_n 3, 1) := by decide +kernel
theorem dX7_hide_13 : decode cX7_hide 13 = .ok (.iconst 0, 1) := by decide +kernel
theorem dX7_hide_14 : decode cX7_hide 14 = .ok (.sipush 255, 3) := by decide +kernel
theorem dX7_hide_17 : decode cX7_hide 17 = .ok (.invokestatic 69, 3) := by decide +kernel
theorem dX7_hide_20 : decode cX7_hide 20 = .ok (.ifCond .ne 6, 3) := by decide +kernel
theorem dX7_hide_23 : decode cX7_hide 23 = .ok (.bipush (-2), 2) := by decide +kernel
theorem dX7_hide_25 : decode cX7_hide 25 = .ok (.ireturn, 1) := by decide +kernel
theorem dX7_hide_26 : decode cX7_hide 26 = .ok (.iload_n 2, 1) := by decide +kernel
theorem dX7_hide_27 : decode cX7_hide 27 = .ok (.ifCond .eq 12, 3) := by decide +kernel
theorem dX7_hide_30 : decode cX7_hide 30 = .ok (.aload_n 0, 1) := by decide +kernel
theorem dX7_hide_31 : decode cX7_hide 31 = .ok (.getfield 37, 3) := by decide +kernel
theorem dX7_hide_34 : decode cX7_hide 34 = .ok (.iload_n 1, 1) := by decide +kernel
theorem dX7_hide_35 : decode cX7_hide 35 = .ok (.iaload, 1) := by decide +kernel
theorem dX7_hide_36 : decode cX7_hide 36 = .ok (.goto 9, 3) := by decide +kernel
theorem dX7_hide_39 : decode cX7_hide 39 = .ok (.aload_n 0, 1) := by decide +kernel
theorem dX7_hide_40 : decode cX7_hide 40 = .ok (.getfield 34, 3) := by decide +kernel
theorem dX7_hide_43 : decode cX7_hide 43 = .ok (.iload_n 1, 1) := by decide +kernel
theorem dX7_hide_44 : decode cX7_hide 44 = .ok (.iaload, 1) := by decide +kernel
theorem dX7_hide_45 : decode cX7_hide 45 = .ok (.istore 4, 2) := by decide +kernel
theorem dX7_hide_47 : decode cX7_hide 47 = .ok (.iload_n 2, 1) := by decide +kernel
theorem dX7_hide_48 : decode cX7_hide 48 = .ok (.ifCond .eq 13, 3) := by decide +kernel
theorem dX7_hide_51 : decode cX7_hide 51 = .ok (.aload_n 0, 1) := by decide +kernel
theorem dX7_hide_52 : decode cX7_hide 52 = .ok (.getfield 37, 3) := by decide +kernel
theorem dX7_hide_55 : decode cX7_hide 55 = .ok (.iload_n 1, 1) := by decide +kernel
theorem dX7_hide_56 : decode cX7_hide 56 = .ok (.iload_n 3, 1) := by decide +kernel
theorem dX7_hide_57 : decode cX7_hide 57 = .ok (.iastore, 1) := by decide +kernel
theorem dX7_hide_58 : decode cX7_hide 58 = .ok (.goto 10, 3) := by decide +kernel
theorem dX7_hide_61 : decode cX7_hide 61 = .ok (.aload_n 0, 1) := by decide +kernel
theorem dX7_hide_62 : decode cX7_hide 62 = .ok (.getfield 34, 3) := by decide +kernel
theorem dX7_hide_65 : decode cX7_hide 65 = .ok (.iload_n 1, 1) := by decide +kernel
theorem dX7_hide_66 : decode cX7_hide 66 = .ok (.iload_n 3, 1) := by decide +kernel
theorem dX7_hide_67 : decode cX7_hide 67 = .ok (.iastore, 1) := by decide +kernel
theorem dX7_hide_68 : decode cX7_hide 68 = .ok (.iload 4, 2) := by decide +kernel
theorem dX7_hide_70 : decode cX7_hide 70 = .ok (.ireturn, 1) := by decide +kernel
theorem dX7_hidden_0 : decode cX7_hidden 0 = .ok (.iconst 0, 1) := by decide +kernel
theorem dX7_hidden_1 : decode cX7_hidden 1 = .ok (.istore_n 2, 1) := by decide +kernel
theorem dX7_hidden_2 : decode cX7_hidden 2 = .ok (.iconst 0, 1) := by decide +kernel
theorem dX7_hidden_3 : decode cX7_hidden 3 = .ok (.istore_n 3, 1) := by decide +kernel
theorem dX7_hidden_4 : decode cX7_hidden 4 = .ok (.iload_n 3, 1) := by decide +kernel
theorem dX7_hidden_5 : decode cX7_hidden 5 = .ok (.bipush 8, 2) := by decide +kernel
theorem dX7_hidden_7 : decode cX7_hidden 7 = .ok (.if_icmp .ge 49, 3) := by decide +kernel
theorem dX7_hidden_10 : decode cX7_hidden 10 = .ok (.iload_n 1, 1) := by decide +kernel
theorem dX7_hidden_11 : decode cX7_hidden 11 = .ok (.iload_n 3, 1) := by decide +kernel
theorem dX7_hidden_12 : decode cX7_hidden 12 = .ok (.invokestatic 104, 3) := by decide +kernel
theorem dX7_hidden_15 : decode cX7_hidden 15 = .ok (.istore 4, 2) := by decide +kernel
theorem dX7_hidden_17 : decode cX7_hidden 17 = .ok (.iload_n 2, 1) := by decide +kernel
theorem dX7_hidden_18 : decode cX7_hidden 18 = .ok (.iload 4, 2) := by decide +kernel
theorem dX7_hidden_20 : decode cX7_hidden 20 = .ok (.ifCond .ne 7, 3) := by decide +kernel
theorem dX7_hidden_23 : decode cX7_hidden 23 = .ok (.iconst 0, 1) := by decide +kernel
theorem dX7_hidden_24 : decode cX7_hidden 24 = .ok (.goto 24, 3) := by decide +kernel
theorem dX7_hidden_27 : decode cX7_hidden 27 = .ok (.iload 4, 2) := by decide +kernel
theorem dX7_hidden_29 : decode cX7_hidden 29 = .ok (.iconst 3, 1) := by decide +kernel
theorem dX7_hidden_30 : decode cX7_hidden 30 = .ok (.if_icmp .ne 12, 3) := by decide +kernel
theorem dX7_hidden_33 : decode cX7_hidden 33 = .ok (.aload_n 0, 1) := by decide +kernel
theorem dX7_hidden_34 : decode cX7_hidden 34 = .ok (.getfield 37, 3) := by decide +kernel
theorem dX7_hidden_37 : decode cX7_hidden 37 = .ok (.iload_n 3, 1) := by decide +kernel
theorem dX7_hidden_38 : decode cX7_hidden 38 = .ok (.iaload, 1) := by decide +kernel
theorem dX7_hidden_39 : decode cX7_hidden 39 = .ok (.goto 9, 3) := by decide +kernel
theorem dX7_hidden_42 : decode cX7_hidden 42 = .ok (.aload_n 0, 1) := by decide +kernel
theorem dX7_hidden_43 : decode cX7_hidden 43 = .ok (.getfield 34, 3) := by decide +kernel
theorem dX7_hidden_46 : decode cX7_hidden 46 = .ok (.iload_n 3, 1) := by decide +kernel
theorem dX7_hidden_47 : decode cX7_hidden 47 = .ok (.iaload, 1) := by decide +kernel
theorem dX7_hidden_48 : decode cX7_hidden 48 = .ok (.ior, 1) := by decide +kernel
theorem dX7_hidden_49 : decode cX7_hidden 49 = .ok (.istore_n 2, 1) := by decide +kernel
theorem dX7_hidden_50 : decode cX7_hidden 50 = .ok (.iinc 3 1, 3) := by decide +kernel
theorem dX7_hidden_53 : decode cX7_hidden 53 = .ok (.goto (-49), 3) := by decide +kernel
theorem dX7_hidden_56 : decode cX7_hidden 56 = .ok (.iload_n 2, 1) := by decide +kernel
theorem dX7_hidden_57 : decode cX7_hidden 57 = .ok (.ireturn, 1) := by decide +kernel
theorem dX7_ink_0 : decode cX7_ink 0 = .ok (.iconst 0, 1) := by decide +kernel
theorem dX7_ink_1 : decode cX7_ink 1 = .ok (.istore_n 1, 1) := by decide +kernel
theorem dX7_ink_2 : decode cX7_ink 2 = .ok (.iconst 0, 1) := by decide +kernel
theorem dX7_ink_3 : decode cX7_ink 3 = .ok (.istore_n 2, 1) := by decide +kernel
theorem dX7_ink_4 : decode cX7_ink 4 = .ok (.iload_n 2, 1) := by decide +kernel
theorem dX7_ink_5 : decode cX7_ink 5 = .ok (.bipush 8, 2) := by decide +kernel
theorem dX7_ink_7 : decode cX7_ink 7 = .ok (.if_icmp .ge 36, 3) := by decide +kernel
theorem dX7_ink_10 : decode cX7_ink 10 = .ok (.iload_n 0, 1) := by decide +kernel
theorem dX7_ink_11 : decode cX7_ink 11 = .ok (.iload_n 2, 1) := by decide +kernel
theorem dX7_ink_12 : decode cX7_ink 12 = .ok (.invokestatic 104, 3) := by decide +kernel
theorem dX7_ink_15 : decode cX7_ink 15 = .ok (.istore_n 3, 1) := by decide +kernel
theorem dX7_ink_16 : decode cX7_ink 16 = .ok (.iload_n 1, 1) := by decide +kernel
theorem dX7_ink_17 : decode cX7_ink 17 = .ok (.iload_n 3, 1) := by decide +kernel
theorem dX7_ink_18 : decode cX7_ink 18 = .ok (.ifCond .ne 7, 3) := by decide +kernel
theorem dX7_ink_21 : decode cX7_ink 21 = .ok (.iconst 0, 1) := by decide +kernel
theorem dX7_ink_22 : decode cX7_ink 22 = .ok (.goto 13, 3) := by decide +kernel
theorem dX7_ink_25 : decode cX7_ink 25 = .ok (.iload_n 3, 1) := by decide +kernel
theorem dX7_ink_26 : decode cX7_ink 26 = .ok (.iconst 3, 1) := by decide +kernel
theorem dX7_ink_27 : decode cX7_ink 27 = .ok (.if_icmp .ne 7, 3) := by decide +kernel
theorem dX7_ink_30 : decode cX7_ink 30 = .ok (.iconst 2, 1) := by decide +kernel
theorem dX7_ink_31 : decode cX7_ink 31 = .ok (.goto 4, 3) := by decide +kernel
theorem dX7_ink_34 : decode cX7_ink 34 = .ok (.iconst 1, 1) := by decide +kernel
theorem dX7_ink_35 : decode cX7_ink 35 = .ok (.iadd, 1) := by decide +kernel
theorem dX7_ink_36 : decode cX7_ink 36 = .ok (.istore_n 1, 1) := by decide +kernel
theorem dX7_ink_37 : decode cX7_ink 37 = .ok (.iinc 2 1, 3) := by decide +kernel
theorem dX7_ink_40 : decode cX7_ink 40 = .ok (.goto (-36), 3) := by decide +kernel
theorem dX7_ink_43 : decode cX7_ink 43 = .ok (.iload_n 1, 1) := by decide +kernel
theorem dX7_ink_44 : decode cX7_ink 44 = .ok (.ireturn, 1) := by decide +kernel
theorem dX7_hides_0 : decode cX7_hides 0 = .ok (.iload_n 1, 1) := by decide +kernel
theorem dX7_hides_1 : decode cX7_hides 1 = .ok (.invokestatic 74, 3) := by decide +kernel
theorem dX7_hides_4 : decode cX7_hides 4 = .ok (.ifCond .eq 12, 3) := by decide +kernel
theorem dX7_hides_7 : decode cX7_hides 7 = .ok (.iload_n 2, 1) := by decide +kernel
theorem dX7_hides_8 : decode cX7_hides 8 = .ok (.iconst 0, 1) := by decide +kernel
theorem dX7_hides_9 : decode cX7_hides 9 = .ok (.iconst 1, 1) := by decide +kernel
theorem dX7_hides_10 : decode cX7_hides 10 = .ok (.invokestatic 69, 3) := by decide +kernel
theorem dX7_hides_13 : decode cX7_hides 13 = .ok (.ifCond .ne 6, 3) := by decide +kernel
theorem dX7_hides_16 : decode cX7_hides 16 = .ok (.bipush (-2), 2) := by decide +kernel
theorem dX7_hides_18 : decode cX7_hides 18 = .ok (.ireturn, 1) := by decide +kernel
theorem dX7_hides_19 : decode cX7_hides 19 = .ok (.iload_n 2, 1) := by decide +kernel
theorem dX7_hides_20 : decode cX7_hides 20 = .ok (.ifCond .ne 11, 3) := by decide +kernel
theorem dX7_hides_23 : decode cX7_hides 23 = .ok (.aload_n 0, 1) := by decide +kernel
theorem dX7_hides_24 : decode cX7_hides 24 = .ok (.iload_n 1, 1) := by decide +kernel
theorem dX7_hides_25 : decode cX7_hides 25 = .ok (.invokevirtual 144, 3) := by decide +kernel
theorem dX7_hides_28 : decode cX7_hides 28 = .ok (.goto 7, 3) := by decide +kernel
theorem dX7_hides_31 : decode cX7_hides 31 = .ok (.iload_n 1, 1) := by decide +kernel
theorem dX7_hides_32 : decode cX7_hides 32 = .ok (.invokestatic 147, 3) := by decide +kernel
theorem dX7_hides_35 : decode cX7_hides 35 = .ok (.ireturn, 1) := by decide +kernel
theorem dX7_cover_0 : decode cX7_cover 0 = .ok (.iload_n 1, 1) := by decide +kernel
theorem dX7_cover_1 : decode cX7_cover 1 = .ok (.invokestatic 74, 3) := by decide +kernel
theorem dX7_cover_4 : decode cX7_cover 4 = .ok (.ifCond .ne 6, 3) := by decide +kernel
theorem dX7_cover_7 : decode cX7_cover 7 = .ok (.bipush (-2), 2) := by decide +kernel
theorem dX7_cover_9 : decode cX7_cover 9 = .ok (.ireturn, 1) := by decide +kernel
theorem dX7_cover_10 : decode cX7_cover 10 = .ok (.iconst 0, 1) := by decide +kernel
theorem dX7_cover_11 : decode cX7_cover 11 = .ok (.istore_n 2, 1) := by decide +kernel
theorem dX7_cover_12 : decode cX7_cover 12 = .ok (.iconst 0, 1) := by decide +kernel
theorem dX7_cover_13 : decode cX7_cover 13 = .ok (.istore_n 3, 1) := by decide +kernel
theorem dX7_cover_14 : decode cX7_cover 14 = .ok (.iload_n 3, 1) := by decide +kernel
theorem dX7_cover_15 : decode cX7_cover 15 = .ok (.bipush 8, 2) := by decide +kernel
theorem dX7_cover_17 : decode cX7_cover 17 = .ok (.if_icmp .ge 27, 3) := by decide +kernel
theorem dX7_cover_20 : decode cX7_cover 20 = .ok (.iload_n 2, 1) := by decide +kernel
theorem dX7_cover_21 : decode cX7_cover 21 = .ok (.iload_n 1, 1) := by decide +kernel
theorem dX7_cover_22 : decode cX7_cover 22 = .ok (.iload_n 3, 1) := by decide +kernel
theorem dX7_cover_23 : decode cX7_cover 23 = .ok (.invokestatic 104, 3) := by decide +kernel
theorem dX7_cover_26 : decode cX7_cover 26 = .ok (.ifCond .le 9, 3) := by decide +kernel
theorem dX7_cover_29 : decode cX7_cover 29 = .ok (.iconst 1, 1) := by decide +kernel
theorem dX7_cover_30 : decode cX7_cover 30 = .ok (.iload_n 3, 1) := by decide +kernel
theorem dX7_cover_31 : decode cX7_cover 31 = .ok (.ishl, 1) := by decide +kernel
theorem dX7_cover_32 : decode cX7_cover 32 = .ok (.goto 4, 3) := by decide +kernel
theorem dX7_cover_35 : decode cX7_cover 35 = .ok (.iconst 0, 1) := by decide +kernel
theorem dX7_cover_36 : decode cX7_cover 36 = .ok (.ior, 1) := by decide +kernel
theorem dX7_cover_37 : decode cX7_cover 37 = .ok (.istore_n 2, 1) := by decide +kernel
theorem dX7_cover_38 : decode cX7_cover 38 = .ok (.iinc 3 1, 3) := by decide +kernel
theorem dX7_cover_41 : decode cX7_cover 41 = .ok (.goto (-27), 3) := by decide +kernel
theorem dX7_cover_44 : decode cX7_cover 44 = .ok (.bipush (-6), 2) := by decide +kernel
theorem dX7_cover_46 : decode cX7_cover 46 = .ok (.istore_n 3, 1) := by decide +kernel
theorem dX7_cover_47 : decode cX7_cover 47 = .ok (.iconst 0, 1) := by decide +kernel
theorem dX7_cover_48 : decode cX7_cover 48 = .ok (.istore 4, 2) := by decide +kernel
theorem dX7_cover_50 : decode cX7_cover 50 = .ok (.iload 4, 2) := by decide +kernel
theorem dX7_cover_52 : decode cX7_cover 52 = .ok (.sipush 6561, 3) := by decide +kernel
theorem dX7_cover_55 : decode cX7_cover 55 = .ok (.if_icmp .ge 100, 3) := by decide +kernel
theorem dX7_cover_58 : decode cX7_cover 58 = .ok (.iload 4, 2) := by decide +kernel
theorem dX7_cover_60 : decode cX7_cover 60 = .ok (.istore 5, 2) := by decide +kernel
theorem dX7_cover_62 : decode cX7_cover 62 = .ok (.iconst 0, 1) := by decide +kernel
theorem dX7_cover_63 : decode cX7_cover 63 = .ok (.istore 6, 2) := by decide +kernel
theorem dX7_cover_65 : decode cX7_cover 65 = .ok (.bipush 7, 2) := by decide +kernel
theorem dX7_cover_67 : decode cX7_cover 67 = .ok (.istore 7, 2) := by decide +kernel
theorem dX7_cover_69 : decode cX7_cover 69 = .ok (.iload 7, 2) := by decide +kernel
theorem dX7_cover_71 : decode cX7_cover 71 = .ok (.ifCond .lt 46, 3) := by decide +kernel
theorem dX7_cover_74 : decode cX7_cover 74 = .ok (.iload 5, 2) := by decide +kernel
theorem dX7_cover_76 : decode cX7_cover 76 = .ok (.iconst 3, 1) := by decide +kernel
theorem dX7_cover_77 : decode cX7_cover 77 = .ok (.irem, 1) := by decide +kernel
theorem dX7_cover_78 : decode cX7_cover 78 = .ok (.istore 8, 2) := by decide +kernel
theorem dX7_cover_80 : decode cX7_cover 80 = .ok (.iload 6, 2) := by decide +kernel
theorem dX7_cover_82 : decode cX7_cover 82 = .ok (.iload 8, 2) := by decide +kernel
theorem dX7_cover_84 : decode cX7_cover 84 = .ok (.iconst 2, 1) := by decide +kernel
theorem dX7_cover_85 : decode cX7_cover 85 = .ok (.if_icmp .ne 7, 3) := by decide +kernel
theorem dX7_cover_88 : decode cX7_cover 88 = .ok (.iconst 3, 1) := by decide +kernel
theorem dX7_cover_89 : decode cX7_cover 89 = .ok (.goto 5, 3) := by decide +kernel
theorem dX7_cover_92 : decode cX7_cover 92 = .ok (.iload 8, 2) := by decide +kernel
theorem dX7_cover_94 : decode cX7_cover 94 = .ok (.bipush 14, 2) := by decide +kernel
theorem dX7_cover_96 : decode cX7_cover 96 = .ok (.iconst 2, 1) := by decide +kernel
theorem dX7_cover_97 : decode cX7_cover 97 = .ok (.iload 7, 2) := by decide +kernel
theorem dX7_cover_99 : decode cX7_cover 99 = .ok (.imul, 1) := by decide +kernel
theorem dX7_cover_100 : decode cX7_cover 100 = .ok (.isub, 1) := by decide +kernel
theorem dX7_cover_101 : decode cX7_cover 101 = .ok (.ishl, 1) := by decide +kernel
theorem dX7_cover_102 : decode cX7_cover 102 = .ok (.ior, 1) := by decide +kernel
theorem dX7_cover_103 : decode cX7_cover 103 = .ok (.istore 6, 2) := by decide +kernel
theorem dX7_cover_105 : decode cX7_cover 105 = .ok (.iload 5, 2) := by decide +kernel
theorem dX7_cover_107 : decode cX7_cover 107 = .ok (.iconst 3, 1) := by decide +kernel
theorem dX7_cover_108 : decode cX7_cover 108 = .ok (.idiv, 1) := by decide +kernel
theorem dX7_cover_109 : decode cX7_cover 109 = .ok (.istore 5, 2) := by decide +kernel
theorem dX7_cover_111 : decode cX7_cover 111 = .ok (.iinc 7 (-1), 3) := by decide +kernel
theorem dX7_cover_114 : decode cX7_cover 114 = .ok (.goto (-45), 3) := by decide +kernel
theorem dX7_cover_117 : decode cX7_cover 117 = .ok (.iload_n 2, 1) := by decide +kernel
theorem dX7_cover_118 : decode cX7_cover 118 = .ok (.aload_n 0, 1) := by decide +kernel
theorem dX7_cover_119 : decode cX7_cover 119 = .ok (.iload 6, 2) := by decide +kernel
theorem dX7_cover_121 : decode cX7_cover 121 = .ok (.invokevirtual 144, 3) := by decide +kernel
theorem dX7_cover_124 : decode cX7_cover 124 = .ok (.iconst (-1), 1) := by decide +kernel
theorem dX7_cover_125 : decode cX7_cover 125 = .ok (.ixor, 1) := by decide +kernel
theorem dX7_cover_126 : decode cX7_cover 126 = .ok (.iand, 1) := by decide +kernel
theorem dX7_cover_127 : decode cX7_cover 127 = .ok (.ifCond .ne 22, 3) := by decide +kernel
theorem dX7_cover_130 : decode cX7_cover 130 = .ok (.iload_n 3, 1) := by decide +kernel
theorem dX7_cover_131 : decode cX7_cover 131 = .ok (.ifCond .lt 15, 3) := by decide +kernel
theorem dX7_cover_134 : decode cX7_cover 134 = .ok (.iload 6, 2) := by decide +kernel
theorem dX7_cover_136 : decode cX7_cover 136 = .ok (.invokestatic 147, 3) := by decide +kernel
theorem dX7_cover_139 : decode cX7_cover 139 = .ok (.iload_n 3, 1) := by decide +kernel
theorem dX7_cover_140 : decode cX7_cover 140 = .ok (.invokestatic 147, 3) := by decide +kernel
theorem dX7_cover_143 : decode cX7_cover 143 = .ok (.if_icmp .ge 6, 3) := by decide +kernel
theorem dX7_cover_146 : decode cX7_cover 146 = .ok (.iload 6, 2) := by decide +kernel
theorem dX7_cover_148 : decode cX7_cover 148 = .ok (.istore_n 3, 1) := by decide +kernel
theorem dX7_cover_149 : decode cX7_cover 149 = .ok (.iinc 4 1, 3) := by decide +kernel
theorem dX7_cover_152 : decode cX7_cover 152 = .ok (.goto (-102), 3) := by decide +kernel
theorem dX7_cover_155 : decode cX7_cover 155 = .ok (.iload_n 3, 1) := by decide +kernel
theorem dX7_cover_156 : decode cX7_cover 156 = .ok (.ireturn, 1) := by decide +kernel
theorem dX7_under_0 : decode cX7_under 0 = .ok (.iload_n 1, 1) := by decide +kernel
theorem dX7_under_1 : decode cX7_under 1 = .ok (.invokestatic 74, 3) := by decide +kernel
theorem dX7_under_4 : decode cX7_under 4 = .ok (.ifCond .ne 6, 3) := by decide +kernel
theorem dX7_under_7 : decode cX7_under 7 = .ok (.bipush (-2), 2) := by decide +kernel
theorem dX7_under_9 : decode cX7_under 9 = .ok (.ireturn, 1) := by decide +kernel
theorem dX7_under_10 : decode cX7_under 10 = .ok (.aload_n 0, 1) := by decide +kernel
theorem dX7_under_11 : decode cX7_under 11 = .ok (.iload_n 1, 1) := by decide +kernel
theorem dX7_under_12 : decode cX7_under 12 = .ok (.invokevirtual 144, 3) := by decide +kernel
theorem dX7_under_15 : decode cX7_under 15 = .ok (.istore_n 2, 1) := by decide +kernel
theorem dX7_under_16 : decode cX7_under 16 = .ok (.iconst 0, 1) := by decide +kernel
theorem dX7_under_17 : decode cX7_under 17 = .ok (.istore_n 3, 1) := by decide +kernel
theorem dX7_under_18 : decode cX7_under 18 = .ok (.iconst 0, 1) := by decide +kernel
theorem dX7_under_19 : decode cX7_under 19 = .ok (.istore 4, 2) := by decide +kernel
theorem dX7_under_21 : decode cX7_under 21 = .ok (.iload 4, 2) := by decide +kernel
theorem dX7_under_23 : decode cX7_under 23 = .ok (.aload_n 0, 1) := by decide +kernel
theorem dX7_under_24 : decode cX7_under 24 = .ok (.getfield 65, 3) := by decide +kernel
theorem dX7_under_27 : decode cX7_under 27 = .ok (.if_icmp .ge 96, 3) := by decide +kernel
theorem dX7_under_30 : decode cX7_under 30 = .ok (.iconst 1, 1) := by decide +kernel
theorem dX7_under_31 : decode cX7_under 31 = .ok (.istore 5, 2) := by decide +kernel
theorem dX7_under_33 : decode cX7_under 33 = .ok (.iconst 0, 1) := by decide +kernel
theorem dX7_under_34 : decode cX7_under 34 = .ok (.istore 6, 2) := by decide +kernel
theorem dX7_under_36 : decode cX7_under 36 = .ok (.iload 6, 2) := by decide +kernel
theorem dX7_under_38 : decode cX7_under 38 = .ok (.bipush 8, 2) := by decide +kernel
theorem dX7_under_40 : decode cX7_under 40 = .ok (.if_icmp .ge 61, 3) := by decide +kernel
theorem dX7_under_43 : decode cX7_under 43 = .ok (.aload_n 0, 1) := by decide +kernel
theorem dX7_under_44 : decode cX7_under 44 = .ok (.getfield 7, 3) := by decide +kernel
theorem dX7_under_47 : decode cX7_under 47 = .ok (.iload 4, 2) := by decide +kernel
theorem dX7_under_49 : decode cX7_under 49 = .ok (.iaload, 1) := by decide +kernel
theorem dX7_under_50 : decode cX7_under 50 = .ok (.iload 6, 2) := by decide +kernel
theorem dX7_under_52 : decode cX7_under 52 = .ok (.invokestatic 104, 3) := by decide +kernel
theorem dX7_under_55 : decode cX7_under 55 = .ok (.istore 7, 2) := by decide +kernel
theorem dX7_under_57 : decode cX7_under 57 = .ok (.iload 5, 2) := by decide +kernel
theorem dX7_under_59 : decode cX7_under 59 = .ok (.ifCond .eq 33, 3) := by decide +kernel
theorem dX7_under_62 : decode cX7_under 62 = .ok (.iload 7, 2) := by decide +kernel
theorem dX7_under_64 : decode cX7_under 64 = .ok (.ifCond .eq 24, 3) := by decide +kernel
theorem dX7_under_67 : decode cX7_under 67 = .ok (.iload_n 2, 1) := by decide +kernel
theorem dX7_under_68 : decode cX7_under 68 = .ok (.iload 6, 2) := by decide +kernel
theorem dX7_under_70 : decode cX7_under 70 = .ok (.ishr, 1) := by decide +kernel
theorem dX7_under_71 : decode cX7_under 71 = .ok (.iconst 1, 1) := by decide +kernel
theorem dX7_under_72 : decode cX7_under 72 = .ok (.iand, 1) := by decide +kernel
theorem dX7_under_73 : decode cX7_under 73 = .ok (.iconst 1, 1) := by decide +kernel
theorem dX7_under_74 : decode cX7_under 74 = .ok (.if_icmp .eq 14, 3) := by decide +kernel
theorem dX7_under_77 : decode cX7_under 77 = .ok (.iload 7, 2) := by decide +kernel
theorem dX7_under_79 : decode cX7_under 79 = .ok (.iload_n 1, 1) := by decide +kernel
theorem dX7_under_80 : decode cX7_under 80 = .ok (.iload 6, 2) := by decide +kernel
theorem dX7_under_82 : decode cX7_under 82 = .ok (.invokestatic 104, 3) := by decide +kernel
theorem dX7_under_85 : decode cX7_under 85 = .ok (.if_icmp .ne 7, 3) := by decide +kernel
theorem dX7_under_88 : decode cX7_under 88 = .ok (.iconst 1, 1) := by decide +kernel
theorem dX7_under_89 : decode cX7_under 89 = .ok (.goto 4, 3) := by decide +kernel
theorem dX7_under_92 : decode cX7_under 92 = .ok (.iconst 0, 1) := by decide +kernel
theorem dX7_under_93 : decode cX7_under 93 = .ok (.istore 5, 2) := by decide +kernel
theorem dX7_under_95 : decode cX7_under 95 = .ok (.iinc 6 1, 3) := by decide +kernel
theorem dX7_under_98 : decode cX7_under 98 = .ok (.goto (-62), 3) := by decide +kernel
theorem dX7_under_101 : decode cX7_under 101 = .ok (.iload_n 3, 1) := by decide +kernel
theorem dX7_under_102 : decode cX7_under 102 = .ok (.iload 5, 2) := by decide +kernel
theorem dX7_under_104 : decode cX7_under 104 = .ok (.ifCond .eq 10, 3) := by decide +kernel
theorem dX7_under_107 : decode cX7_under 107 = .ok (.iconst 1, 1) := by decide +kernel
theorem dX7_under_108 : decode cX7_under 108 = .ok (.iload 4, 2) := by decide +kernel
theorem dX7_under_110 : decode cX7_under 110 = .ok (.ishl, 1) := by decide +kernel
theorem dX7_under_111 : decode cX7_under 111 = .ok (.goto 4, 3) := by decide +kernel
theorem dX7_under_114 : decode cX7_under 114 = .ok (.iconst 0, 1) := by decide +kernel
theorem dX7_under_115 : decode cX7_under 115 = .ok (.ior, 1) := by decide +kernel
theorem dX7_under_116 : decode cX7_under 116 = .ok (.istore_n 3, 1) := by decide +kernel
theorem dX7_under_117 : decode cX7_under 117 = .ok (.iinc 4 1, 3) := by decide +kernel
theorem dX7_under_120 : decode cX7_under 120 = .ok (.goto (-99), 3) := by decide +kernel
theorem dX7_under_123 : decode cX7_under 123 = .ok (.iload_n 3, 1) := by decide +kernel
theorem dX7_under_124 : decode cX7_under 124 = .ok (.ireturn, 1) := by decide +kernel
theorem dX7_isMan_0 : decode cX7_isMan 0 = .ok (.iload_n 1, 1) := by decide +kernel
theorem dX7_isMan_1 : decode cX7_isMan 1 = .ok (.iconst 0, 1) := by decide +kernel
theorem dX7_isMan_2 : decode cX7_isMan 2 = .ok (.aload_n 0, 1) := by decide +kernel
theorem dX7_isMan_3 : decode cX7_isMan 3 = .ok (.getfield 150, 3) := by decide +kernel
theorem dX7_isMan_6 : decode cX7_isMan 6 = .ok (.iconst 1, 1) := by decide +kernel
theorem dX7_isMan_7 : decode cX7_isMan 7 = .ok (.isub, 1) := by decide +kernel
theorem dX7_isMan_8 : decode cX7_isMan 8 = .ok (.invokestatic 69, 3) := by decide +kernel
theorem dX7_isMan_11 : decode cX7_isMan 11 = .ok (.ireturn, 1) := by decide +kernel
theorem dX7_man_0 : decode cX7_man 0 = .ok (.aload_n 0, 1) := by decide +kernel
theorem dX7_man_1 : decode cX7_man 1 = .ok (.getfield 150, 3) := by decide +kernel
theorem dX7_man_4 : decode cX7_man 4 = .ok (.bipush 8, 2) := by decide +kernel
theorem dX7_man_6 : decode cX7_man 6 = .ok (.if_icmp .ne 6, 3) := by decide +kernel
theorem dX7_man_9 : decode cX7_man 9 = .ok (.bipush (-4), 2) := by decide +kernel
theorem dX7_man_11 : decode cX7_man 11 = .ok (.ireturn, 1) := by decide +kernel
theorem dX7_man_12 : decode cX7_man 12 = .ok (.aload_n 0, 1) := by decide +kernel
theorem dX7_man_13 : decode cX7_man 13 = .ok (.getfield 40, 3) := by decide +kernel
theorem dX7_man_16 : decode cX7_man 16 = .ok (.aload_n 0, 1) := by decide +kernel
theorem dX7_man_17 : decode cX7_man 17 = .ok (.getfield 150, 3) := by decide +kernel
theorem dX7_man_20 : decode cX7_man 20 = .ok (.bipush (-6), 2) := by decide +kernel
theorem dX7_man_22 : decode cX7_man 22 = .ok (.iastore, 1) := by decide +kernel
theorem dX7_man_23 : decode cX7_man 23 = .ok (.aload_n 0, 1) := by decide +kernel
theorem dX7_man_24 : decode cX7_man 24 = .ok (.dup, 1) := by decide +kernel
theorem dX7_man_25 : decode cX7_man 25 = .ok (.getfield 150, 3) := by decide +kernel
theorem dX7_man_28 : decode cX7_man 28 = .ok (.iconst 1, 1) := by decide +kernel
theorem dX7_man_29 : decode cX7_man 29 = .ok (.iadd, 1) := by decide +kernel
theorem dX7_man_30 : decode cX7_man 30 = .ok (.putfield 150, 3) := by decide +kernel
theorem dX7_man_33 : decode cX7_man 33 = .ok (.aload_n 0, 1) := by decide +kernel
theorem dX7_man_34 : decode cX7_man 34 = .ok (.getfield 150, 3) := by decide +kernel
theorem dX7_man_37 : decode cX7_man 37 = .ok (.iconst 1, 1) := by decide +kernel
theorem dX7_man_38 : decode cX7_man 38 = .ok (.isub, 1) := by decide +kernel
theorem dX7_man_39 : decode cX7_man 39 = .ok (.ireturn, 1) := by decide +kernel
theorem dX7_meet_0 : decode cX7_meet 0 = .ok (.aload_n 0, 1) := by decide +kernel
theorem dX7_meet_1 : decode cX7_meet 1 = .ok (.iload_n 1, 1) := by decide +kernel
theorem dX7_meet_2 : decode cX7_meet 2 = .ok (.invokevirtual 153, 3) := by decide +kernel
theorem dX7_meet_5 : decode cX7_meet 5 = .ok (.ifCond .ne 5, 3) := by decide +kernel
theorem dX7_meet_8 : decode cX7_meet 8 = .ok (.iconst (-1), 1) := by decide +kernel
theorem dX7_meet_9 : decode cX7_meet 9 = .ok (.ireturn, 1) := by decide +kernel
theorem dX7_meet_10 : decode cX7_meet 10 = .ok (.iload_n 2, 1) := by decide +kernel
theorem dX7_meet_11 : decode cX7_meet 11 = .ok (.aload_n 0, 1) := by decide +kernel
theorem dX7_meet_12 : decode cX7_meet 12 = .ok (.getfield 156, 3) := by decide +kernel
theorem dX7_meet_15 : decode cX7_meet 15 = .ok (.ifCond .ne 7, 3) := by decide +kernel
theorem dX7_meet_18 : decode cX7_meet 18 = .ok (.iconst 0, 1) := by decide +kernel
theorem dX7_meet_19 : decode cX7_meet 19 = .ok (.goto 14, 3) := by decide +kernel
theorem dX7_meet_22 : decode cX7_meet 22 = .ok (.aload_n 0, 1) := by decide +kernel
theorem dX7_meet_23 : decode cX7_meet 23 = .ok (.getfield 46, 3) := by decide +kernel
theorem dX7_meet_26 : decode cX7_meet 26 = .ok (.aload_n 0, 1) := by decide +kernel
theorem dX7_meet_27 : decode cX7_meet 27 = .ok (.getfield 156, 3) := by decide +kernel
theorem dX7_meet_30 : decode cX7_meet 30 = .ok (.iconst 1, 1) := by decide +kernel
theorem dX7_meet_31 : decode cX7_meet 31 = .ok (.isub, 1) := by decide +kernel
theorem dX7_meet_32 : decode cX7_meet 32 = .ok (.iaload, 1) := by decide +kernel
theorem dX7_meet_33 : decode cX7_meet 33 = .ok (.bipush 99, 2) := by decide +kernel
theorem dX7_meet_35 : decode cX7_meet 35 = .ok (.invokestatic 69, 3) := by decide +kernel
theorem dX7_meet_38 : decode cX7_meet 38 = .ok (.ifCond .ne 6, 3) := by decide +kernel
theorem dX7_meet_41 : decode cX7_meet 41 = .ok (.bipush (-2), 2) := by decide +kernel
theorem dX7_meet_43 : decode cX7_meet 43 = .ok (.ireturn, 1) := by decide +kernel
theorem dX7_meet_44 : decode cX7_meet 44 = .ok (.aload_n 0, 1) := by decide +kernel
theorem dX7_meet_45 : decode cX7_meet 45 = .ok (.getfield 156, 3) := by decide +kernel
theorem dX7_meet_48 : decode cX7_meet 48 = .ok (.bipush 16, 2) := by decide +kernel
theorem dX7_meet_50 : decode cX7_meet 50 = .ok (.if_icmp .ne 6, 3) := by decide +kernel
theorem dX7_meet_53 : decode cX7_meet 53 = .ok (.bipush (-4), 2) := by decide +kernel
theorem dX7_meet_55 : decode cX7_meet 55 = .ok (.ireturn, 1) := by decide +kernel
theorem dX7_meet_56 : decode cX7_meet 56 = .ok (.aload_n 0, 1) := by decide +kernel
theorem dX7_meet_57 : decode cX7_meet 57 = .ok (.getfield 43, 3) := by decide +kernel
theorem dX7_meet_60 : decode cX7_meet 60 = .ok (.aload_n 0, 1) := by decide +kernel
theorem dX7_meet_61 : decode cX7_meet 61 = .ok (.getfield 156, 3) := by decide +kernel
theorem dX7_meet_64 : decode cX7_meet 64 = .ok (.iload_n 1, 1) := by decide +kernel
theorem dX7_meet_65 : decode cX7_meet 65 = .ok (.iastore, 1) := by decide +kernel
theorem dX7_meet_66 : decode cX7_meet 66 = .ok (.aload_n 0, 1) := by decide +kernel
theorem dX7_meet_67 : decode cX7_meet 67 = .ok (.getfield 46, 3) := by decide +kernel
theorem dX7_meet_70 : decode cX7_meet 70 = .ok (.aload_n 0, 1) := by decide +kernel
theorem dX7_meet_71 : decode cX7_meet 71 = .ok (.getfield 156, 3) := by decide +kernel
theorem dX7_meet_74 : decode cX7_meet 74 = .ok (.iload_n 2, 1) := by decide +kernel
theorem dX7_meet_75 : decode cX7_meet 75 = .ok (.iastore, 1) := by decide +kernel
theorem dX7_meet_76 : decode cX7_meet 76 = .ok (.aload_n 0, 1) := by decide +kernel
theorem dX7_meet_77 : decode cX7_meet 77 = .ok (.dup, 1) := by decide +kernel
theorem dX7_meet_78 : decode cX7_meet 78 = .ok (.getfield 156, 3) := by decide +kernel
theorem dX7_meet_81 : decode cX7_meet 81 = .ok (.iconst 1, 1) := by decide +kernel
theorem dX7_meet_82 : decode cX7_meet 82 = .ok (.iadd, 1) := by decide +kernel
theorem dX7_meet_83 : decode cX7_meet 83 = .ok (.putfield 156, 3) := by decide +kernel
theorem dX7_meet_86 : decode cX7_meet 86 = .ok (.aload_n 0, 1) := by decide +kernel
theorem dX7_meet_87 : decode cX7_meet 87 = .ok (.getfield 156, 3) := by decide +kernel
theorem dX7_meet_90 : decode cX7_meet 90 = .ok (.iconst 1, 1) := by decide +kernel
theorem dX7_meet_91 : decode cX7_meet 91 = .ok (.isub, 1) := by decide +kernel
theorem dX7_meet_92 : decode cX7_meet 92 = .ok (.ireturn, 1) := by decide +kernel
theorem dX7_sick_0 : decode cX7_sick 0 = .ok (.aload_n 0, 1) := by decide +kernel
theorem dX7_sick_1 : decode cX7_sick 1 = .ok (.iload_n 1, 1) := by decide +kernel
theorem dX7_sick_2 : decode cX7_sick 2 = .ok (.invokevirtual 153, 3) := by decide +kernel
theorem dX7_sick_5 : decode cX7_sick 5 = .ok (.ifCond .ne 5, 3) := by decide +kernel
theorem dX7_sick_8 : decode cX7_sick 8 = .ok (.iconst (-1), 1) := by decide +kernel
theorem dX7_sick_9 : decode cX7_sick 9 = .ok (.ireturn, 1) := by decide +kernel
theorem dX7_sick_10 : decode cX7_sick 10 = .ok (.iload_n 2, 1) := by decide +kernel
theorem dX7_sick_11 : decode cX7_sick 11 = .ok (.iconst (-1), 1) := by decide +kernel
theorem dX7_sick_12 : decode cX7_sick 12 = .ok (.bipush 99, 2) := by decide +kernel
theorem dX7_sick_14 : decode cX7_sick 14 = .ok (.invokestatic 69, 3) := by decide +kernel
theorem dX7_sick_17 : decode cX7_sick 17 = .ok (.ifCond .ne 6, 3) := by decide +kernel
theorem dX7_sick_20 : decode cX7_sick 20 = .ok (.bipush (-2), 2) := by decide +kernel
theorem dX7_sick_22 : decode cX7_sick 22 = .ok (.ireturn, 1) := by decide +kernel
theorem dX7_sick_23 : decode cX7_sick 23 = .ok (.aload_n 0, 1) := by decide +kernel
theorem dX7_sick_24 : decode cX7_sick 24 = .ok (.getfield 40, 3) := by decide +kernel
theorem dX7_sick_27 : decode cX7_sick 27 = .ok (.iload_n 1, 1) := by decide +kernel
theorem dX7_sick_28 : decode cX7_sick 28 = .ok (.iaload, 1) := by decide +kernel
theorem dX7_sick_29 : decode cX7_sick 29 = .ok (.istore_n 3, 1) := by decide +kernel
theorem dX7_sick_30 : decode cX7_sick 30 = .ok (.aload_n 0, 1) := by decide +kernel
theorem dX7_sick_31 : decode cX7_sick 31 = .ok (.getfield 40, 3) := by decide +kernel
theorem dX7_sick_34 : decode cX7_sick 34 = .ok (.iload_n 1, 1) := by decide +kernel
theorem dX7_sick_35 : decode cX7_sick 35 = .ok (.iload_n 2, 1) := by decide +kernel
theorem dX7_sick_36 : decode cX7_sick 36 = .ok (.ifCond .ge 8, 3) := by decide +kernel
theorem dX7_sick_39 : decode cX7_sick 39 = .ok (.bipush (-6), 2) := by decide +kernel
theorem dX7_sick_41 : decode cX7_sick 41 = .ok (.goto 4, 3) := by decide +kernel
theorem dX7_sick_44 : decode cX7_sick 44 = .ok (.iload_n 2, 1) := by decide +kernel
theorem dX7_sick_45 : decode cX7_sick 45 = .ok (.iastore, 1) := by decide +kernel
theorem dX7_sick_46 : decode cX7_sick 46 = .ok (.iload_n 3, 1) := by decide +kernel
theorem dX7_sick_47 : decode cX7_sick 47 = .ok (.ireturn, 1) := by decide +kernel
theorem dX7_fromOf_0 : decode cX7_fromOf 0 = .ok (.iconst 0, 1) := by decide +kernel
theorem dX7_fromOf_1 : decode cX7_fromOf 1 = .ok (.istore_n 2, 1) := by decide +kernel
theorem dX7_fromOf_2 : decode cX7_fromOf 2 = .ok (.iconst 1, 1) := by decide +kernel
theorem dX7_fromOf_3 : decode cX7_fromOf 3 = .ok (.istore_n 3, 1) := by decide +kernel
theorem dX7_fromOf_4 : decode cX7_fromOf 4 = .ok (.iload_n 3, 1) := by decide +kernel
theorem dX7_fromOf_5 : decode cX7_fromOf 5 = .ok (.aload_n 0, 1) := by decide +kernel
theorem dX7_fromOf_6 : decode cX7_fromOf 6 = .ok (.getfield 156, 3) := by decide +kernel
theorem dX7_fromOf_9 : decode cX7_fromOf 9 = .ok (.if_icmp .ge 164, 3) := by decide +kernel
theorem dX7_fromOf_12 : decode cX7_fromOf 12 = .ok (.aload_n 0, 1) := by decide +kernel
theorem dX7_fromOf_13 : decode cX7_fromOf 13 = .ok (.getfield 40, 3) := by decide +kernel
theorem dX7_fromOf_16 : decode cX7_fromOf 16 = .ok (.iload_n 1, 1) := by decide +kernel
theorem dX7_fromOf_17 : decode cX7_fromOf 17 = .ok (.iaload, 1) := by decide +kernel
theorem dX7_fromOf_18 : decode cX7_fromOf 18 = .ok (.ifCond .lt 155, 3) := by decide +kernel
theorem dX7_fromOf_21 : decode cX7_fromOf 21 = .ok (.aload_n 0, 1) := by decide +kernel
theorem dX7_fromOf_22 : decode cX7_fromOf 22 = .ok (.getfield 43, 3) := by decide +kernel
theorem dX7_fromOf_25 : decode cX7_fromOf 25 = .ok (.iload_n 3, 1) := by decide +kernel
theorem dX7_fromOf_26 : decode cX7_fromOf 26 = .ok (.iconst 1, 1) := by decide +kernel
theorem dX7_fromOf_27 : decode cX7_fromOf 27 = .ok (.isub, 1) := by decide +kernel
theorem dX7_fromOf_28 : decode cX7_fromOf 28 = .ok (.iaload, 1) := by decide +kernel
theorem dX7_fromOf_29 : decode cX7_fromOf 29 = .ok (.istore 4, 2) := by decide +kernel
theorem dX7_fromOf_31 : decode cX7_fromOf 31 = .ok (.aload_n 0, 1) := by decide +kernel
theorem dX7_fromOf_32 : decode cX7_fromOf 32 = .ok (.getfield 46, 3) := by decide +kernel
theorem dX7_fromOf_35 : decode cX7_fromOf 35 = .ok (.iload_n 3, 1) := by decide +kernel
theorem dX7_fromOf_36 : decode cX7_fromOf 36 = .ok (.iaload, 1) := by decide +kernel
theorem dX7_fromOf_37 : decode cX7_fromOf 37 = .ok (.istore 5, 2) := by decide +kernel
theorem dX7_fromOf_39 : decode cX7_fromOf 39 = .ok (.aload_n 0, 1) := by decide +kernel
theorem dX7_fromOf_40 : decode cX7_fromOf 40 = .ok (.getfield 43, 3) := by decide +kernel
theorem dX7_fromOf_43 : decode cX7_fromOf 43 = .ok (.iload_n 3, 1) := by decide +kernel
theorem dX7_fromOf_44 : decode cX7_fromOf 44 = .ok (.iaload, 1) := by decide +kernel
theorem dX7_fromOf_45 : decode cX7_fromOf 45 = .ok (.iload_n 1, 1) := by decide +kernel
theorem dX7_fromOf_46 : decode cX7_fromOf 46 = .ok (.if_icmp .ne 36, 3) := by decide +kernel
theorem dX7_fromOf_49 : decode cX7_fromOf 49 = .ok (.iload 5, 2) := by decide +kernel
theorem dX7_fromOf_51 : decode cX7_fromOf 51 = .ok (.aload_n 0, 1) := by decide +kernel
theorem dX7_fromOf_52 : decode cX7_fromOf 52 = .ok (.getfield 40, 3) := by decide +kernel
theorem dX7_fromOf_55 : decode cX7_fromOf 55 = .ok (.iload_n 1, 1) := by decide +kernel
theorem dX7_fromOf_56 : decode cX7_fromOf 56 = .ok (.iaload, 1) := by decide +kernel
theorem dX7_fromOf_57 : decode cX7_fromOf 57 = .ok (.aload_n 0, 1) := by decide +kernel
theorem dX7_fromOf_58 : decode cX7_fromOf 58 = .ok (.getfield 22, 3) := by decide +kernel
theorem dX7_fromOf_61 : decode cX7_fromOf 61 = .ok (.iconst 2, 1) := by decide +kernel
theorem dX7_fromOf_62 : decode cX7_fromOf 62 = .ok (.iaload, 1) := by decide +kernel
theorem dX7_fromOf_63 : decode cX7_fromOf 63 = .ok (.isub, 1) := by decide +kernel
theorem dX7_fromOf_64 : decode cX7_fromOf 64 = .ok (.aload_n 0, 1) := by decide +kernel
theorem dX7_fromOf_65 : decode cX7_fromOf 65 = .ok (.getfield 40, 3) := by decide +kernel
theorem dX7_fromOf_68 : decode cX7_fromOf 68 = .ok (.iload_n 1, 1) := by decide +kernel
theorem dX7_fromOf_69 : decode cX7_fromOf 69 = .ok (.iaload, 1) := by decide +kernel
theorem dX7_fromOf_70 : decode cX7_fromOf 70 = .ok (.iconst 1, 1) := by decide +kernel
theorem dX7_fromOf_71 : decode cX7_fromOf 71 = .ok (.isub, 1) := by decide +kernel
theorem dX7_fromOf_72 : decode cX7_fromOf 72 = .ok (.invokestatic 69, 3) := by decide +kernel
theorem dX7_fromOf_75 : decode cX7_fromOf 75 = .ok (.ifCond .eq 7, 3) := by decide +kernel
theorem dX7_fromOf_78 : decode cX7_fromOf 78 = .ok (.iconst 1, 1) := by decide +kernel
theorem dX7_fromOf_79 : decode cX7_fromOf 79 = .ok (.goto 4, 3) := by decide +kernel
theorem dX7_fromOf_82 : decode cX7_fromOf 82 = .ok (.iconst 0, 1) := by decide +kernel
theorem dX7_fromOf_83 : decode cX7_fromOf 83 = .ok (.istore 6, 2) := by decide +kernel
theorem dX7_fromOf_85 : decode cX7_fromOf 85 = .ok (.iload 4, 2) := by decide +kernel
theorem dX7_fromOf_87 : decode cX7_fromOf 87 = .ok (.iload_n 1, 1) := by decide +kernel
theorem dX7_fromOf_88 : decode cX7_fromOf 88 = .ok (.if_icmp .eq 55, 3) := by decide +kernel
theorem dX7_fromOf_91 : decode cX7_fromOf 91 = .ok (.aload_n 0, 1) := by decide +kernel
theorem dX7_fromOf_92 : decode cX7_fromOf 92 = .ok (.getfield 40, 3) := by decide +kernel
theorem dX7_fromOf_95 : decode cX7_fromOf 95 = .ok (.iload 4, 2) := by decide +kernel
theorem dX7_fromOf_97 : decode cX7_fromOf 97 = .ok (.iaload, 1) := by decide +kernel
theorem dX7_fromOf_98 : decode cX7_fromOf 98 = .ok (.ifCond .lt 45, 3) := by decide +kernel
theorem dX7_fromOf_101 : decode cX7_fromOf 101 = .ok (.iload 5, 2) := by decide +kernel
theorem dX7_fromOf_103 : decode cX7_fromOf 103 = .ok (.aload_n 0, 1) := by decide +kernel
theorem dX7_fromOf_104 : decode cX7_fromOf 104 = .ok (.getfield 40, 3) := by decide +kernel
theorem dX7_fromOf_107 : decode cX7_fromOf 107 = .ok (.iload 4, 2) := by decide +kernel
theorem dX7_fromOf_109 : decode cX7_fromOf 109 = .ok (.iaload, 1) := by decide +kernel
theorem dX7_fromOf_110 : decode cX7_fromOf 110 = .ok (.aload_n 0, 1) := by decide +kernel
theorem dX7_fromOf_111 : decode cX7_fromOf 111 = .ok (.getfield 22, 3) := by decide +kernel
theorem dX7_fromOf_114 : decode cX7_fromOf 114 = .ok (.iconst 2, 1) := by decide +kernel
theorem dX7_fromOf_115 : decode cX7_fromOf 115 = .ok (.iaload, 1) := by decide +kernel
theorem dX7_fromOf_116 : decode cX7_fromOf 116 = .ok (.isub, 1) := by decide +kernel
theorem dX7_fromOf_117 : decode cX7_fromOf 117 = .ok (.aload_n 0, 1) := by decide +kernel
theorem dX7_fromOf_118 : decode cX7_fromOf 118 = .ok (.getfield 40, 3) := by decide +kernel
theorem dX7_fromOf_121 : decode cX7_fromOf 121 = .ok (.iload 4, 2) := by decide +kernel
theorem dX7_fromOf_123 : decode cX7_fromOf 123 = .ok (.iaload, 1) := by decide +kernel
theorem dX7_fromOf_124 : decode cX7_fromOf 124 = .ok (.aload_n 0, 1) := by decide +kernel
theorem dX7_fromOf_125 : decode cX7_fromOf 125 = .ok (.getfield 22, 3) := by decide +kernel
theorem dX7_fromOf_128 : decode cX7_fromOf 128 = .ok (.iconst 3, 1) := by decide +kernel
theorem dX7_fromOf_129 : decode cX7_fromOf 129 = .ok (.iaload, 1) := by decide +kernel
theorem dX7_fromOf_130 : decode cX7_fromOf 130 = .ok (.iadd, 1) := by decide +kernel
theorem dX7_fromOf_131 : decode cX7_fromOf 131 = .ok (.iconst 2, 1) := by decide +kernel
theorem dX7_fromOf_132 : decode cX7_fromOf 132 = .ok (.isub, 1) := by decide +kernel
theorem dX7_fromOf_133 : decode cX7_fromOf 133 = .ok (.invokestatic 69, 3) := by decide +kernel
theorem dX7_fromOf_136 : decode cX7_fromOf 136 = .ok (.ifCond .eq 7, 3) := by decide +kernel
theorem dX7_fromOf_139 : decode cX7_fromOf 139 = .ok (.iconst 1, 1) := by decide +kernel
theorem dX7_fromOf_140 : decode cX7_fromOf 140 = .ok (.goto 4, 3) := by decide +kernel
theorem dX7_fromOf_143 : decode cX7_fromOf 143 = .ok (.iconst 0, 1) := by decide +kernel
theorem dX7_fromOf_144 : decode cX7_fromOf 144 = .ok (.istore 7, 2) := by decide +kernel
theorem dX7_fromOf_146 : decode cX7_fromOf 146 = .ok (.iload_n 2, 1) := by decide +kernel
theorem dX7_fromOf_147 : decode cX7_fromOf 147 = .ok (.iload 6, 2) := by decide +kernel
theorem dX7_fromOf_149 : decode cX7_fromOf 149 = .ok (.ifCond .eq 15, 3) := by decide +kernel
theorem dX7_fromOf_152 : decode cX7_fromOf 152 = .ok (.iload 7, 2) := by decide +kernel
theorem dX7_fromOf_154 : decode cX7_fromOf 154 = .ok (.ifCond .eq 10, 3) := by decide +kernel
theorem dX7_fromOf_157 : decode cX7_fromOf 157 = .ok (.iconst 1, 1) := by decide +kernel
theorem dX7_fromOf_158 : decode cX7_fromOf 158 = .ok (.iload 4, 2) := by decide +kernel
theorem dX7_fromOf_160 : decode cX7_fromOf 160 = .ok (.ishl, 1) := by decide +kernel
theorem dX7_fromOf_161 : decode cX7_fromOf 161 = .ok (.goto 4, 3) := by decide +kernel
theorem dX7_fromOf_164 : decode cX7_fromOf 164 = .ok (.iconst 0, 1) := by decide +kernel
theorem dX7_fromOf_165 : decode cX7_fromOf 165 = .ok (.ior, 1) := by decide +kernel
theorem dX7_fromOf_166 : decode cX7_fromOf 166 = .ok (.istore_n 2, 1) := by decide +kernel
theorem dX7_fromOf_167 : decode cX7_fromOf 167 = .ok (.iinc 3 1, 3) := by decide +kernel
theorem dX7_fromOf_170 : decode cX7_fromOf 170 = .ok (.goto (-166), 3) := by decide +kernel
theorem dX7_fromOf_173 : decode cX7_fromOf 173 = .ok (.iload_n 2, 1) := by decide +kernel
theorem dX7_fromOf_174 : decode cX7_fromOf 174 = .ok (.ireturn, 1) := by decide +kernel
theorem dX7_from_0 : decode cX7_from 0 = .ok (.aload_n 0, 1) := by decide +kernel
theorem dX7_from_1 : decode cX7_from 1 = .ok (.iload_n 1, 1) := by decide +kernel
theorem dX7_from_2 : decode cX7_from 2 = .ok (.invokevirtual 153, 3) := by decide +kernel
theorem dX7_from_5 : decode cX7_from 5 = .ok (.ifCond .eq 11, 3) := by decide +kernel
theorem dX7_from_8 : decode cX7_from 8 = .ok (.aload_n 0, 1) := by decide +kernel
theorem dX7_from_9 : decode cX7_from 9 = .ok (.iload_n 1, 1) := by decide +kernel
theorem dX7_from_10 : decode cX7_from 10 = .ok (.invokevirtual 159, 3) := by decide +kernel
theorem dX7_from_13 : decode cX7_from 13 = .ok (.goto 4, 3) := by decide +kernel
theorem dX7_from_16 : decode cX7_from 16 = .ok (.iconst (-1), 1) := by decide +kernel
theorem dX7_from_17 : decode cX7_from 17 = .ok (.ireturn, 1) := by decide +kernel
theorem dX7_sickSet_0 : decode cX7_sickSet 0 = .ok (.iconst 0, 1) := by decide +kernel
theorem dX7_sickSet_1 : decode cX7_sickSet 1 = .ok (.istore_n 1, 1) := by decide +kernel
theorem dX7_sickSet_2 : decode cX7_sickSet 2 = .ok (.iconst 0, 1) := by decide +kernel
theorem dX7_sickSet_3 : decode cX7_sickSet 3 = .ok (.istore_n 2, 1) := by decide +kernel
theorem dX7_sickSet_4 : decode cX7_sickSet 4 = .ok (.iload_n 2, 1) := by decide +kernel
theorem dX7_sickSet_5 : decode cX7_sickSet 5 = .ok (.aload_n 0, 1) := by decide +kernel
theorem dX7_sickSet_6 : decode cX7_sickSet 6 = .ok (.getfield 150, 3) := by decide +kernel
theorem dX7_sickSet_9 : decode cX7_sickSet 9 = .ok (.if_icmp .ge 28, 3) := by decide +kernel
theorem dX7_sickSet_12 : decode cX7_sickSet 12 = .ok (.iload_n 1, 1) := by decide +kernel
theorem dX7_sickSet_13 : decode cX7_sickSet 13 = .ok (.aload_n 0, 1) := by decide +kernel
theorem dX7_sickSet_14 : decode cX7_sickSet 14 = .ok (.getfield 40, 3) := by decide +kernel
theorem dX7_sickSet_17 : decode cX7_sickSet 17 = .ok (.iload_n 2, 1) := by decide +kernel
theorem dX7_sickSet_18 : decode cX7_sickSet 18 = .ok (.iaload, 1) := by decide +kernel
theorem dX7_sickSet_19 : decode cX7_sickSet 19 = .ok (.ifCond .lt 9, 3) := by decide +kernel
theorem dX7_sickSet_22 : decode cX7_sickSet 22 = .ok (.iconst 1, 1) := by decide +kernel
theorem dX7_sickSet_23 : decode cX7_sickSet 23 = .ok (.iload_n 2, 1) := by decide +kernel
theorem dX7_sickSet_24 : decode cX7_sickSet 24 = .ok (.ishl, 1) := by decide +kernel
theorem dX7_sickSet_25 : decode cX7_sickSet 25 = .ok (.goto 4, 3) := by decide +kernel
theorem dX7_sickSet_28 : decode cX7_sickSet 28 = .ok (.iconst 0, 1) := by decide +kernel
theorem dX7_sickSet_29 : decode cX7_sickSet 29 = .ok (.ior, 1) := by decide +kernel
theorem dX7_sickSet_30 : decode cX7_sickSet 30 = .ok (.istore_n 1, 1) := by decide +kernel
theorem dX7_sickSet_31 : decode cX7_sickSet 31 = .ok (.iinc 2 1, 3) := by decide +kernel
theorem dX7_sickSet_34 : decode cX7_sickSet 34 = .ok (.goto (-30), 3) := by decide +kernel
theorem dX7_sickSet_37 : decode cX7_sickSet 37 = .ok (.iload_n 1, 1) := by decide +kernel
theorem dX7_sickSet_38 : decode cX7_sickSet 38 = .ok (.ireturn, 1) := by decide +kernel
theorem dX7_firstSet_0 : decode cX7_firstSet 0 = .ok (.aload_n 0, 1) := by decide +kernel
theorem dX7_firstSet_1 : decode cX7_firstSet 1 = .ok (.invokevirtual 162, 3) := by decide +kernel
theorem dX7_firstSet_4 : decode cX7_firstSet 4 = .ok (.istore_n 1, 1) := by decide +kernel
theorem dX7_firstSet_5 : decode cX7_firstSet 5 = .ok (.iconst 0, 1) := by decide +kernel
theorem dX7_firstSet_6 : decode cX7_firstSet 6 = .ok (.istore_n 2, 1) := by decide +kernel
theorem dX7_firstSet_7 : decode cX7_firstSet 7 = .ok (.iload_n 2, 1) := by decide +kernel
theorem dX7_firstSet_8 : decode cX7_firstSet 8 = .ok (.aload_n 0, 1) := by decide +kernel
theorem dX7_firstSet_9 : decode cX7_firstSet 9 = .ok (.getfield 150, 3) := by decide +kernel
theorem dX7_firstSet_12 : decode cX7_firstSet 12 = .ok (.if_icmp .ge 31, 3) := by decide +kernel
theorem dX7_firstSet_15 : decode cX7_firstSet 15 = .ok (.iload_n 1, 1) := by decide +kernel
theorem dX7_firstSet_16 : decode cX7_firstSet 16 = .ok (.aload_n 0, 1) := by decide +kernel
theorem dX7_firstSet_17 : decode cX7_firstSet 17 = .ok (.iload_n 2, 1) := by decide +kernel
theorem dX7_firstSet_18 : decode cX7_firstSet 18 = .ok (.invokevirtual 159, 3) := by decide +kernel
theorem dX7_firstSet_21 : decode cX7_firstSet 21 = .ok (.ifCond .ne 9, 3) := by decide +kernel
theorem dX7_firstSet_24 : decode cX7_firstSet 24 = .ok (.sipush 255, 3) := by decide +kernel
theorem dX7_firstSet_27 : decode cX7_firstSet 27 = .ok (.goto 8, 3) := by decide +kernel
theorem dX7_firstSet_30 : decode cX7_firstSet 30 = .ok (.iconst 1, 1) := by decide +kernel
theorem dX7_firstSet_31 : decode cX7_firstSet 31 = .ok (.iload_n 2, 1) := by decide +kernel
theorem dX7_firstSet_32 : decode cX7_firstSet 32 = .ok (.ishl, 1) := by decide +kernel
theorem dX7_firstSet_33 : decode cX7_firstSet 33 = .ok (.iconst (-1), 1) := by decide +kernel
theorem dX7_firstSet_34 : decode cX7_firstSet 34 = .ok (.ixor, 1) := by decide +kernel
theorem dX7_firstSet_35 : decode cX7_firstSet 35 = .ok (.iand, 1) := by decide +kernel
theorem dX7_firstSet_36 : decode cX7_firstSet 36 = .ok (.istore_n 1, 1) := by decide +kernel
theorem dX7_firstSet_37 : decode cX7_firstSet 37 = .ok (.iinc 2 1, 3) := by decide +kernel
theorem dX7_firstSet_40 : decode cX7_firstSet 40 = .ok (.goto (-33), 3) := by decide +kernel
theorem dX7_firstSet_43 : decode cX7_firstSet 43 = .ok (.iload_n 1, 1) := by decide +kernel
theorem dX7_firstSet_44 : decode cX7_firstSet 44 = .ok (.ireturn, 1) := by decide +kernel
theorem dX7_firsts_0 : decode cX7_firsts 0 = .ok (.iload_n 1, 1) := by decide +kernel
theorem dX7_firsts_1 : decode cX7_firsts 1 = .ok (.iconst 0, 1) := by decide +kernel
theorem dX7_firsts_2 : decode cX7_firsts 2 = .ok (.iconst 1, 1) := by decide +kernel
theorem dX7_firsts_3 : decode cX7_firsts 3 = .ok (.invokestatic 69, 3) := by decide +kernel
theorem dX7_firsts_6 : decode cX7_firsts 6 = .ok (.ifCond .ne 8, 3) := by decide +kernel
theorem dX7_firsts_9 : decode cX7_firsts 9 = .ok (.bipush (-2), 2) := by decide +kernel
theorem dX7_firsts_11 : decode cX7_firsts 11 = .ok (.goto 18, 3) := by decide +kernel
theorem dX7_firsts_14 : decode cX7_firsts 14 = .ok (.iload_n 1, 1) := by decide +kernel
theorem dX7_firsts_15 : decode cX7_firsts 15 = .ok (.ifCond .ne 10, 3) := by decide +kernel
theorem dX7_firsts_18 : decode cX7_firsts 18 = .ok (.aload_n 0, 1) := by decide +kernel
theorem dX7_firsts_19 : decode cX7_firsts 19 = .ok (.invokevirtual 165, 3) := by decide +kernel
theorem dX7_firsts_22 : decode cX7_firsts 22 = .ok (.goto 7, 3) := by decide +kernel
theorem dX7_firsts_25 : decode cX7_firsts 25 = .ok (.aload_n 0, 1) := by decide +kernel
theorem dX7_firsts_26 : decode cX7_firsts 26 = .ok (.invokevirtual 162, 3) := by decide +kernel
theorem dX7_firsts_29 : decode cX7_firsts 29 = .ok (.ireturn, 1) := by decide +kernel
theorem dX7_pathTo_0 : decode cX7_pathTo 0 = .ok (.aload_n 0, 1) := by decide +kernel
theorem dX7_pathTo_1 : decode cX7_pathTo 1 = .ok (.invokevirtual 165, 3) := by decide +kernel
theorem dX7_pathTo_4 : decode cX7_pathTo 4 = .ok (.iload_n 2, 1) := by decide +kernel
theorem dX7_pathTo_5 : decode cX7_pathTo 5 = .ok (.iconst (-1), 1) := by decide +kernel
theorem dX7_pathTo_6 : decode cX7_pathTo 6 = .ok (.ixor, 1) := by decide +kernel
theorem dX7_pathTo_7 : decode cX7_pathTo 7 = .ok (.iand, 1) := by decide +kernel
theorem dX7_pathTo_8 : decode cX7_pathTo 8 = .ok (.istore_n 3, 1) := by decide +kernel
theorem dX7_pathTo_9 : decode cX7_pathTo 9 = .ok (.iconst 1, 1) := by decide +kernel
theorem dX7_pathTo_10 : decode cX7_pathTo 10 = .ok (.istore 4, 2) := by decide +kernel
theorem dX7_pathTo_12 : decode cX7_pathTo 12 = .ok (.iload 4, 2) := by decide +kernel
theorem dX7_pathTo_14 : decode cX7_pathTo 14 = .ok (.aload_n 0, 1) := by decide +kernel
theorem dX7_pathTo_15 : decode cX7_pathTo 15 = .ok (.getfield 150, 3) := by decide +kernel
theorem dX7_pathTo_18 : decode cX7_pathTo 18 = .ok (.if_icmp .gt 73, 3) := by decide +kernel
theorem dX7_pathTo_21 : decode cX7_pathTo 21 = .ok (.iload_n 3, 1) := by decide +kernel
theorem dX7_pathTo_22 : decode cX7_pathTo 22 = .ok (.iload_n 1, 1) := by decide +kernel
theorem dX7_pathTo_23 : decode cX7_pathTo 23 = .ok (.ishr, 1) := by decide +kernel
theorem dX7_pathTo_24 : decode cX7_pathTo 24 = .ok (.iconst 1, 1) := by decide +kernel
theorem dX7_pathTo_25 : decode cX7_pathTo 25 = .ok (.iand, 1) := by decide +kernel
theorem dX7_pathTo_26 : decode cX7_pathTo 26 = .ok (.iconst 1, 1) := by decide +kernel
theorem dX7_pathTo_27 : decode cX7_pathTo 27 = .ok (.if_icmp .ne 6, 3) := by decide +kernel
theorem dX7_pathTo_30 : decode cX7_pathTo 30 = .ok (.iload 4, 2) := by decide +kernel
theorem dX7_pathTo_32 : decode cX7_pathTo 32 = .ok (.ireturn, 1) := by decide +kernel
theorem dX7_pathTo_33 : decode cX7_pathTo 33 = .ok (.iload_n 3, 1) := by decide +kernel
theorem dX7_pathTo_34 : decode cX7_pathTo 34 = .ok (.istore 5, 2) := by decide +kernel
theorem dX7_pathTo_36 : decode cX7_pathTo 36 = .ok (.iconst 0, 1) := by decide +kernel
theorem dX7_pathTo_37 : decode cX7_pathTo 37 = .ok (.istore 6, 2) := by decide +kernel
theorem dX7_pathTo_39 : decode cX7_pathTo 39 = .ok (.iload 6, 2) := by decide +kernel
theorem dX7_pathTo_41 : decode cX7_pathTo 41 = .ok (.aload_n 0, 1) := by decide +kernel
theorem dX7_pathTo_42 : decode cX7_pathTo 42 = .ok (.getfield 150, 3) := by decide +kernel
theorem dX7_pathTo_45 : decode cX7_pathTo 45 = .ok (.if_icmp .ge 33, 3) := by decide +kernel
theorem dX7_pathTo_48 : decode cX7_pathTo 48 = .ok (.iload 5, 2) := by decide +kernel
theorem dX7_pathTo_50 : decode cX7_pathTo 50 = .ok (.aload_n 0, 1) := by decide +kernel
theorem dX7_pathTo_51 : decode cX7_pathTo 51 = .ok (.iload 6, 2) := by decide +kernel
theorem dX7_pathTo_53 : decode cX7_pathTo 53 = .ok (.invokevirtual 159, 3) := by decide +kernel
theorem dX7_pathTo_56 : decode cX7_pathTo 56 = .ok (.iload_n 3, 1) := by decide +kernel
theorem dX7_pathTo_57 : decode cX7_pathTo 57 = .ok (.iand, 1) := by decide +kernel
theorem dX7_pathTo_58 : decode cX7_pathTo 58 = .ok (.ifCond .eq 10, 3) := by decide +kernel
theorem dX7_pathTo_61 : decode cX7_pathTo 61 = .ok (.iconst 1, 1) := by decide +kernel
theorem dX7_pathTo_62 : decode cX7_pathTo 62 = .ok (.iload 6, 2) := by decide +kernel
theorem dX7_pathTo_64 : decode cX7_pathTo 64 = .ok (.ishl, 1) := by decide +kernel
theorem dX7_pathTo_65 : decode cX7_pathTo 65 = .ok (.goto 4, 3) := by decide +kernel
theorem dX7_pathTo_68 : decode cX7_pathTo 68 = .ok (.iconst 0, 1) := by decide +kernel
theorem dX7_pathTo_69 : decode cX7_pathTo 69 = .ok (.ior, 1) := by decide +kernel
theorem dX7_pathTo_70 : decode cX7_pathTo 70 = .ok (.istore 5, 2) := by decide +kernel
theorem dX7_pathTo_72 : decode cX7_pathTo 72 = .ok (.iinc 6 1, 3) := by decide +kernel
theorem dX7_pathTo_75 : decode cX7_pathTo 75 = .ok (.goto (-36), 3) := by decide +kernel
theorem dX7_pathTo_78 : decode cX7_pathTo 78 = .ok (.iload 5, 2) := by decide +kernel
theorem dX7_pathTo_80 : decode cX7_pathTo 80 = .ok (.iload_n 2, 1) := by decide +kernel
theorem dX7_pathTo_81 : decode cX7_pathTo 81 = .ok (.iconst (-1), 1) := by decide +kernel
theorem dX7_pathTo_82 : decode cX7_pathTo 82 = .ok (.ixor, 1) := by decide +kernel
theorem dX7_pathTo_83 : decode cX7_pathTo 83 = .ok (.iand, 1) := by decide +kernel
theorem dX7_pathTo_84 : decode cX7_pathTo 84 = .ok (.istore_n 3, 1) := by decide +kernel
theorem dX7_pathTo_85 : decode cX7_pathTo 85 = .ok (.iinc 4 1, 3) := by decide +kernel
theorem dX7_pathTo_88 : decode cX7_pathTo 88 = .ok (.goto (-76), 3) := by decide +kernel
theorem dX7_pathTo_91 : decode cX7_pathTo 91 = .ok (.iconst 0, 1) := by decide +kernel
theorem dX7_pathTo_92 : decode cX7_pathTo 92 = .ok (.ireturn, 1) := by decide +kernel
theorem dX7_must_0 : decode cX7_must 0 = .ok (.aload_n 0, 1) := by decide +kernel
theorem dX7_must_1 : decode cX7_must 1 = .ok (.iload_n 1, 1) := by decide +kernel
theorem dX7_must_2 : decode cX7_must 2 = .ok (.invokevirtual 153, 3) := by decide +kernel
theorem dX7_must_5 : decode cX7_must 5 = .ok (.ifCond .ne 5, 3) := by decide +kernel
theorem dX7_must_8 : decode cX7_must 8 = .ok (.iconst (-1), 1) := by decide +kernel
theorem dX7_must_9 : decode cX7_must 9 = .ok (.ireturn, 1) := by decide +kernel
theorem dX7_must_10 : decode cX7_must 10 = .ok (.iload_n 2, 1) := by decide +kernel
theorem dX7_must_11 : decode cX7_must 11 = .ok (.iconst 0, 1) := by decide +kernel
theorem dX7_must_12 : decode cX7_must 12 = .ok (.iconst 1, 1) := by decide +kernel
theorem dX7_must_13 : decode cX7_must 13 = .ok (.invokestatic 69, 3) := by decide +kernel
theorem dX7_must_16 : decode cX7_must 16 = .ok (.ifCond .ne 6, 3) := by decide +kernel
theorem dX7_must_19 : decode cX7_must 19 = .ok (.bipush (-2), 2) := by decide +kernel
theorem dX7_must_21 : decode cX7_must 21 = .ok (.ireturn, 1) := by decide +kernel
theorem dX7_must_22 : decode cX7_must 22 = .ok (.aload_n 0, 1) := by decide +kernel
theorem dX7_must_23 : decode cX7_must 23 = .ok (.iload_n 1, 1) := by decide +kernel
theorem dX7_must_24 : decode cX7_must 24 = .ok (.iconst 0, 1) := by decide +kernel
theorem dX7_must_25 : decode cX7_must 25 = .ok (.invokevirtual 168, 3) := by decide +kernel
theorem dX7_must_28 : decode cX7_must 28 = .ok (.istore_n 3, 1) := by decide +kernel
theorem dX7_must_29 : decode cX7_must 29 = .ok (.iconst 0, 1) := by decide +kernel
theorem dX7_must_30 : decode cX7_must 30 = .ok (.istore 4, 2) := by decide +kernel
theorem dX7_must_32 : decode cX7_must 32 = .ok (.iconst 0, 1) := by decide +kernel
theorem dX7_must_33 : decode cX7_must 33 = .ok (.istore 5, 2) := by decide +kernel
theorem dX7_must_35 : decode cX7_must 35 = .ok (.iload 5, 2) := by decide +kernel
theorem dX7_must_37 : decode cX7_must 37 = .ok (.aload_n 0, 1) := by decide +kernel
theorem dX7_must_38 : decode cX7_must 38 = .ok (.getfield 150, 3) := by decide +kernel
theorem dX7_must_41 : decode cX7_must 41 = .ok (.if_icmp .ge 38, 3) := by decide +kernel
theorem dX7_must_44 : decode cX7_must 44 = .ok (.iload_n 3, 1) := by decide +kernel
theorem dX7_must_45 : decode cX7_must 45 = .ok (.ifCond .le 34, 3) := by decide +kernel
theorem dX7_must_48 : decode cX7_must 48 = .ok (.iload 4, 2) := by decide +kernel
theorem dX7_must_50 : decode cX7_must 50 = .ok (.aload_n 0, 1) := by decide +kernel
theorem dX7_must_51 : decode cX7_must 51 = .ok (.iload_n 1, 1) := by decide +kernel
theorem dX7_must_52 : decode cX7_must 52 = .ok (.iconst 1, 1) := by decide +kernel
theorem dX7_must_53 : decode cX7_must 53 = .ok (.iload 5, 2) := by decide +kernel
theorem dX7_must_55 : decode cX7_must 55 = .ok (.ishl, 1) := by decide +kernel
theorem dX7_must_56 : decode cX7_must 56 = .ok (.invokevirtual 168, 3) := by decide +kernel
theorem dX7_must_59 : decode cX7_must 59 = .ok (.ifCond .ne 10, 3) := by decide +kernel
theorem dX7_must_62 : decode cX7_must 62 = .ok (.iconst 1, 1) := by decide +kernel
theorem dX7_must_63 : decode cX7_must 63 = .ok (.iload 5, 2) := by decide +kernel
theorem dX7_must_65 : decode cX7_must 65 = .ok (.ishl, 1) := by decide +kernel
theorem dX7_must_66 : decode cX7_must 66 = .ok (.goto 4, 3) := by decide +kernel
theorem dX7_must_69 : decode cX7_must 69 = .ok (.iconst 0, 1) := by decide +kernel
theorem dX7_must_70 : decode cX7_must 70 = .ok (.ior, 1) := by decide +kernel
theorem dX7_must_71 : decode cX7_must 71 = .ok (.istore 4, 2) := by decide +kernel
theorem dX7_must_73 : decode cX7_must 73 = .ok (.iinc 5 1, 3) := by decide +kernel
theorem dX7_must_76 : decode cX7_must 76 = .ok (.goto (-41), 3) := by decide +kernel
theorem dX7_must_79 : decode cX7_must 79 = .ok (.iload_n 2, 1) := by decide +kernel
theorem dX7_must_80 : decode cX7_must 80 = .ok (.ifCond .ne 8, 3) := by decide +kernel
theorem dX7_must_83 : decode cX7_must 83 = .ok (.iload 4, 2) := by decide +kernel
theorem dX7_must_85 : decode cX7_must 85 = .ok (.goto 4, 3) := by decide +kernel
theorem dX7_must_88 : decode cX7_must 88 = .ok (.iload_n 3, 1) := by decide +kernel
theorem dX7_must_89 : decode cX7_must 89 = .ok (.ireturn, 1) := by decide +kernel
theorem dX7_image_0 : decode cX7_image 0 = .ok (.iload_n 1, 1) := by decide +kernel
theorem dX7_image_1 : decode cX7_image 1 = .ok (.iconst 0, 1) := by decide +kernel
theorem dX7_image_2 : decode cX7_image 2 = .ok (.iconst 1, 1) := by decide +kernel
theorem dX7_image_3 : decode cX7_image 3 = .ok (.invokestatic 69, 3) := by decide +kernel
theorem dX7_image_6 : decode cX7_image 6 = .ok (.ifCond .ne 6, 3) := by decide +kernel
theorem dX7_image_9 : decode cX7_image 9 = .ok (.bipush (-2), 2) := by decide +kernel
theorem dX7_image_11 : decode cX7_image 11 = .ok (.ireturn, 1) := by decide +kernel
theorem dX7_image_12 : decode cX7_image 12 = .ok (.bipush 110, 2) := by decide +kernel
theorem dX7_image_14 : decode cX7_image 14 = .ok (.iload_n 1, 1) := by decide +kernel
theorem dX7_image_15 : decode cX7_image 15 = .ok (.imul, 1) := by decide +kernel
theorem dX7_image_16 : decode cX7_image 16 = .ok (.istore_n 2, 1) := by decide +kernel
theorem dX7_image_17 : decode cX7_image 17 = .ok (.aload_n 0, 1) := by decide +kernel
theorem dX7_image_18 : decode cX7_image 18 = .ok (.getfield 58, 3) := by decide +kernel
theorem dX7_image_21 : decode cX7_image 21 = .ok (.iload_n 2, 1) := by decide +kernel
theorem dX7_image_22 : decode cX7_image 22 = .ok (.aload_n 0, 1) := by decide +kernel
theorem dX7_image_23 : decode cX7_image 23 = .ok (.getfield 65, 3) := by decide +kernel
theorem dX7_image_26 : decode cX7_image 26 = .ok (.iastore, 1) := by decide +kernel
theorem dX7_image_27 : decode cX7_image 27 = .ok (.aload_n 0, 1) := by decide +kernel
theorem dX7_image_28 : decode cX7_image 28 = .ok (.getfield 58, 3) := by decide +kernel
theorem dX7_image_31 : decode cX7_image 31 = .ok (.iload_n 2, 1) := by decide +kernel
theorem dX7_image_32 : decode cX7_image 32 = .ok (.iconst 1, 1) := by decide +kernel
theorem dX7_image_33 : decode cX7_image 33 = .ok (.iadd, 1) := by decide +kernel
theorem dX7_image_34 : decode cX7_image 34 = .ok (.aload_n 0, 1) := by decide +kernel
theorem dX7_image_35 : decode cX7_image 35 = .ok (.getfield 95, 3) := by decide +kernel
theorem dX7_image_38 : decode cX7_image 38 = .ok (.iastore, 1) := by decide +kernel
theorem dX7_image_39 : decode cX7_image 39 = .ok (.iconst 0, 1) := by decide +kernel
theorem dX7_image_40 : decode cX7_image 40 = .ok (.istore_n 3, 1) := by decide +kernel
theorem dX7_image_41 : decode cX7_image 41 = .ok (.iload_n 3, 1) := by decide +kernel
theorem dX7_image_42 : decode cX7_image 42 = .ok (.bipush 6, 2) := by decide +kernel
theorem dX7_image_44 : decode cX7_image 44 = .ok (.if_icmp .ge 76, 3) := by decide +kernel
theorem dX7_image_47 : decode cX7_image 47 = .ok (.aload_n 0, 1) := by decide +kernel
theorem dX7_image_48 : decode cX7_image 48 = .ok (.getfield 58, 3) := by decide +kernel
theorem dX7_image_51 : decode cX7_image 51 = .ok (.iload_n 2, 1) := by decide +kernel
theorem dX7_image_52 : decode cX7_image 52 = .ok (.iconst 2, 1) := by decide +kernel
theorem dX7_image_53 : decode cX7_image 53 = .ok (.iadd, 1) := by decide +kernel
theorem dX7_image_54 : decode cX7_image 54 = .ok (.iload_n 3, 1) := by decide +kernel
theorem dX7_image_55 : decode cX7_image 55 = .ok (.iadd, 1) := by decide +kernel
theorem dX7_image_56 : decode cX7_image 56 = .ok (.aload_n 0, 1) := by decide +kernel
theorem dX7_image_57 : decode cX7_image 57 = .ok (.getfield 7, 3) := by decide +kernel
theorem dX7_image_60 : decode cX7_image 60 = .ok (.iload_n 3, 1) := by decide +kernel
theorem dX7_image_61 : decode cX7_image 61 = .ok (.iaload, 1) := by decide +kernel
theorem dX7_image_62 : decode cX7_image 62 = .ok (.iastore, 1) := by decide +kernel
theorem dX7_image_63 : decode cX7_image 63 = .ok (.aload_n 0, 1) := by decide +kernel
theorem dX7_image_64 : decode cX7_image 64 = .ok (.getfield 58, 3) := by decide +kernel
theorem dX7_image_67 : decode cX7_image 67 = .ok (.iload_n 2, 1) := by decide +kernel
theorem dX7_image_68 : decode cX7_image 68 = .ok (.bipush 8, 2) := by decide +kernel
theorem dX7_image_70 : decode cX7_image 70 = .ok (.iadd, 1) := by decide +kernel
theorem dX7_image_71 : decode cX7_image 71 = .ok (.iload_n 3, 1) := by decide +kernel
theorem dX7_image_72 : decode cX7_image 72 = .ok (.iadd, 1) := by decide +kernel
theorem dX7_image_73 : decode cX7_image 73 = .ok (.aload_n 0, 1) := by decide +kernel
theorem dX7_image_74 : decode cX7_image 74 = .ok (.getfield 13, 3) := by decide +kernel
theorem dX7_image_77 : decode cX7_image 77 = .ok (.iload_n 3, 1) := by decide +kernel
theorem dX7_image_78 : decode cX7_image 78 = .ok (.iaload, 1) := by decide +kernel
theorem dX7_image_79 : decode cX7_image 79 = .ok (.iastore, 1) := by decide +kernel
theorem dX7_image_80 : decode cX7_image 80 = .ok (.aload_n 0, 1) := by decide +kernel
theorem dX7_image_81 : decode cX7_image 81 = .ok (.getfield 58, 3) := by decide +kernel
theorem dX7_image_84 : decode cX7_image 84 = .ok (.iload_n 2, 1) := by decide +kernel
theorem dX7_image_85 : decode cX7_image 85 = .ok (.bipush 14, 2) := by decide +kernel
theorem dX7_image_87 : decode cX7_image 87 = .ok (.iadd, 1) := by decide +kernel
theorem dX7_image_88 : decode cX7_image 88 = .ok (.iload_n 3, 1) := by decide +kernel
theorem dX7_image_89 : decode cX7_image 89 = .ok (.iadd, 1) := by decide +kernel
theorem dX7_image_90 : decode cX7_image 90 = .ok (.aload_n 0, 1) := by decide +kernel
theorem dX7_image_91 : decode cX7_image 91 = .ok (.getfield 16, 3) := by decide +kernel
theorem dX7_image_94 : decode cX7_image 94 = .ok (.iload_n 3, 1) := by decide +kernel
theorem dX7_image_95 : decode cX7_image 95 = .ok (.iaload, 1) := by decide +kernel
theorem dX7_image_96 : decode cX7_image 96 = .ok (.iastore, 1) := by decide +kernel
theorem dX7_image_97 : decode cX7_image 97 = .ok (.aload_n 0, 1) := by decide +kernel
theorem dX7_image_98 : decode cX7_image 98 = .ok (.getfield 58, 3) := by decide +kernel
theorem dX7_image_101 : decode cX7_image 101 = .ok (.iload_n 2, 1) := by decide +kernel
theorem dX7_image_102 : decode cX7_image 102 = .ok (.bipush 20, 2) := by decide +kernel
theorem dX7_image_104 : decode cX7_image 104 = .ok (.iadd, 1) := by decide +kernel
theorem dX7_image_105 : decode cX7_image 105 = .ok (.iload_n 3, 1) := by decide +kernel
theorem dX7_image_106 : decode cX7_image 106 = .ok (.iadd, 1) := by decide +kernel
theorem dX7_image_107 : decode cX7_image 107 = .ok (.aload_n 0, 1) := by decide +kernel
theorem dX7_image_108 : decode cX7_image 108 = .ok (.getfield 19, 3) := by decide +kernel
theorem dX7_image_111 : decode cX7_image 111 = .ok (.iload_n 3, 1) := by decide +kernel
theorem dX7_image_112 : decode cX7_image 112 = .ok (.iaload, 1) := by decide +kernel
theorem dX7_image_113 : decode cX7_image 113 = .ok (.iastore, 1) := by decide +kernel
theorem dX7_image_114 : decode cX7_image 114 = .ok (.iinc 3 1, 3) := by decide +kernel
theorem dX7_image_117 : decode cX7_image 117 = .ok (.goto (-76), 3) := by decide +kernel
theorem dX7_image_120 : decode cX7_image 120 = .ok (.iconst 0, 1) := by decide +kernel
theorem dX7_image_121 : decode cX7_image 121 = .ok (.istore_n 3, 1) := by decide +kernel
theorem dX7_image_122 : decode cX7_image 122 = .ok (.iload_n 3, 1) := by decide +kernel
theorem dX7_image_123 : decode cX7_image 123 = .ok (.iconst 4, 1) := by decide +kernel
theorem dX7_image_124 : decode cX7_image 124 = .ok (.if_icmp .ge 43, 3) := by decide +kernel
theorem dX7_image_127 : decode cX7_image 127 = .ok (.aload_n 0, 1) := by decide +kernel
theorem dX7_image_128 : decode cX7_image 128 = .ok (.getfield 58, 3) := by decide +kernel
theorem dX7_image_131 : decode cX7_image 131 = .ok (.iload_n 2, 1) := by decide +kernel
theorem dX7_image_132 : decode cX7_image 132 = .ok (.bipush 26, 2) := by decide +kernel
theorem dX7_image_134 : decode cX7_image 134 = .ok (.iadd, 1) := by decide +kernel
theorem dX7_image_135 : decode cX7_image 135 = .ok (.iload_n 3, 1) := by decide +kernel
theorem dX7_image_136 : decode cX7_image 136 = .ok (.iadd, 1) := by decide +kernel
theorem dX7_image_137 : decode cX7_image 137 = .ok (.aload_n 0, 1) := by decide +kernel
theorem dX7_image_138 : decode cX7_image 138 = .ok (.getfield 22, 3) := by decide +kernel
theorem dX7_image_141 : decode cX7_image 141 = .ok (.iload_n 3, 1) := by decide +kernel
theorem dX7_image_142 : decode cX7_image 142 = .ok (.iaload, 1) := by decide +kernel
theorem dX7_image_143 : decode cX7_image 143 = .ok (.iastore, 1) := by decide +kernel
theorem dX7_image_144 : decode cX7_image 144 = .ok (.aload_n 0, 1) := by decide +kernel
theorem dX7_image_145 : decode cX7_image 145 = .ok (.getfield 58, 3) := by decide +kernel
theorem dX7_image_148 : decode cX7_image 148 = .ok (.iload_n 2, 1) := by decide +kernel
theorem dX7_image_149 : decode cX7_image 149 = .ok (.bipush 30, 2) := by decide +kernel
theorem dX7_image_151 : decode cX7_image 151 = .ok (.iadd, 1) := by decide +kernel
theorem dX7_image_152 : decode cX7_image 152 = .ok (.iload_n 3, 1) := by decide +kernel
theorem dX7_image_153 : decode cX7_image 153 = .ok (.iadd, 1) := by decide +kernel
theorem dX7_image_154 : decode cX7_image 154 = .ok (.aload_n 0, 1) := by decide +kernel
theorem dX7_image_155 : decode cX7_image 155 = .ok (.getfield 31, 3) := by decide +kernel
theorem dX7_image_158 : decode cX7_image 158 = .ok (.iload_n 3, 1) := by decide +kernel
theorem dX7_image_159 : decode cX7_image 159 = .ok (.iaload, 1) := by decide +kernel
theorem dX7_image_160 : decode cX7_image 160 = .ok (.iastore, 1) := by decide +kernel
theorem dX7_image_161 : decode cX7_image 161 = .ok (.iinc 3 1, 3) := by decide +kernel
theorem dX7_image_164 : decode cX7_image 164 = .ok (.goto (-42), 3) := by decide +kernel
theorem dX7_image_167 : decode cX7_image 167 = .ok (.iconst 0, 1) := by decide +kernel
theorem dX7_image_168 : decode cX7_image 168 = .ok (.istore_n 3, 1) := by decide +kernel
theorem dX7_image_169 : decode cX7_image 169 = .ok (.iload_n 3, 1) := by decide +kernel
theorem dX7_image_170 : decode cX7_image 170 = .ok (.bipush 8, 2) := by decide +kernel
theorem dX7_image_172 : decode cX7_image 172 = .ok (.if_icmp .ge 43, 3) := by decide +kernel
theorem dX7_image_175 : decode cX7_image 175 = .ok (.aload_n 0, 1) := by decide +kernel
theorem dX7_image_176 : decode cX7_image 176 = .ok (.getfield 58, 3) := by decide +kernel
theorem dX7_image_179 : decode cX7_image 179 = .ok (.iload_n 2, 1) := by decide +kernel
theorem dX7_image_180 : decode cX7_image 180 = .ok (.bipush 34, 2) := by decide +kernel
theorem dX7_image_182 : decode cX7_image 182 = .ok (.iadd, 1) := by decide +kernel
theorem dX7_image_183 : decode cX7_image 183 = .ok (.iload_n 3, 1) := by decide +kernel
theorem dX7_image_184 : decode cX7_image 184 = .ok (.iadd, 1) := by decide +kernel
theorem dX7_image_185 : decode cX7_image 185 = .ok (.aload_n 0, 1) := by decide +kernel
theorem dX7_image_186 : decode cX7_image 186 = .ok (.getfield 34, 3) := by decide +kernel
theorem dX7_image_189 : decode cX7_image 189 = .ok (.iload_n 3, 1) := by decide +kernel
theorem dX7_image_190 : decode cX7_image 190 = .ok (.iaload, 1) := by decide +kernel
theorem dX7_image_191 : decode cX7_image 191 = .ok (.iastore, 1) := by decide +kernel
theorem dX7_image_192 : decode cX7_image 192 = .ok (.aload_n 0, 1) := by decide +kernel
theorem dX7_image_193 : decode cX7_image 193 = .ok (.getfield 58, 3) := by decide +kernel
theorem dX7_image_196 : decode cX7_image 196 = .ok (.iload_n 2, 1) := by decide +kernel
theorem dX7_image_197 : decode cX7_image 197 = .ok (.bipush 42, 2) := by decide +kernel
theorem dX7_image_199 : decode cX7_image 199 = .ok (.iadd, 1) := by decide +kernel
theorem dX7_image_200 : decode cX7_image 200 = .ok (.iload_n 3, 1) := by decide +kernel
theorem dX7_image_201 : decode cX7_image 201 = .ok (.iadd, 1) := by decide +kernel
theorem dX7_image_202 : decode cX7_image 202 = .ok (.aload_n 0, 1) := by decide +kernel
theorem dX7_image_203 : decode cX7_image 203 = .ok (.getfield 37, 3) := by decide +kernel
theorem dX7_image_206 : decode cX7_image 206 = .ok (.iload_n 3, 1) := by decide +kernel
theorem dX7_image_207 : decode cX7_image 207 = .ok (.iaload, 1) := by decide +kernel
theorem dX7_image_208 : decode cX7_image 208 = .ok (.iastore, 1) := by decide +kernel
theorem dX7_image_209 : decode cX7_image 209 = .ok (.iinc 3 1, 3) := by decide +kernel
theorem dX7_image_212 : decode cX7_image 212 = .ok (.goto (-43), 3) := by decide +kernel
theorem dX7_image_215 : decode cX7_image 215 = .ok (.iconst 0, 1) := by decide +kernel
theorem dX7_image_216 : decode cX7_image 216 = .ok (.istore_n 3, 1) := by decide +kernel
theorem dX7_image_217 : decode cX7_image 217 = .ok (.iload_n 3, 1) := by decide +kernel
theorem dX7_image_218 : decode cX7_image 218 = .ok (.bipush 50, 2) := by decide +kernel
theorem dX7_image_220 : decode cX7_image 220 = .ok (.if_icmp .ge 26, 3) := by decide +kernel
theorem dX7_image_223 : decode cX7_image 223 = .ok (.aload_n 0, 1) := by decide +kernel
theorem dX7_image_224 : decode cX7_image 224 = .ok (.getfield 58, 3) := by decide +kernel
theorem dX7_image_227 : decode cX7_image 227 = .ok (.iload_n 2, 1) := by decide +kernel
theorem dX7_image_228 : decode cX7_image 228 = .ok (.bipush 50, 2) := by decide +kernel
theorem dX7_image_230 : decode cX7_image 230 = .ok (.iadd, 1) := by decide +kernel
theorem dX7_image_231 : decode cX7_image 231 = .ok (.iload_n 3, 1) := by decide +kernel
theorem dX7_image_232 : decode cX7_image 232 = .ok (.iadd, 1) := by decide +kernel
theorem dX7_image_233 : decode cX7_image 233 = .ok (.aload_n 0, 1) := by decide +kernel
theorem dX7_image_234 : decode cX7_image 234 = .ok (.getfield 28, 3) := by decide +kernel
theorem dX7_image_237 : decode cX7_image 237 = .ok (.iload_n 3, 1) := by decide +kernel
theorem dX7_image_238 : decode cX7_image 238 = .ok (.iaload, 1) := by decide +kernel
theorem dX7_image_239 : decode cX7_image 239 = .ok (.iastore, 1) := by decide +kernel
theorem dX7_image_240 : decode cX7_image 240 = .ok (.iinc 3 1, 3) := by decide +kernel
theorem dX7_image_243 : decode cX7_image 243 = .ok (.goto (-26), 3) := by decide +kernel
theorem dX7_image_246 : decode cX7_image 246 = .ok (.aload_n 0, 1) := by decide +kernel
theorem dX7_image_247 : decode cX7_image 247 = .ok (.getfield 61, 3) := by decide +kernel
theorem dX7_image_250 : decode cX7_image 250 = .ok (.iload_n 1, 1) := by decide +kernel
theorem dX7_image_251 : decode cX7_image 251 = .ok (.iconst 1, 1) := by decide +kernel
theorem dX7_image_252 : decode cX7_image 252 = .ok (.bastore, 1) := by decide +kernel
theorem dX7_image_253 : decode cX7_image 253 = .ok (.iconst 1, 1) := by decide +kernel
theorem dX7_image_254 : decode cX7_image 254 = .ok (.ireturn, 1) := by decide +kernel
theorem dX7_restore_0 : decode cX7_restore 0 = .ok (.iload_n 1, 1) := by decide +kernel
theorem dX7_restore_1 : decode cX7_restore 1 = .ok (.iconst 0, 1) := by decide +kernel
theorem dX7_restore_2 : decode cX7_restore 2 = .ok (.iconst 1, 1) := by decide +kernel
theorem dX7_restore_3 : decode cX7_restore 3 = .ok (.invokestatic 69, 3) := by decide +kernel
theorem dX7_restore_6 : decode cX7_restore 6 = .ok (.ifCond .ne 6, 3) := by decide +kernel
theorem dX7_restore_9 : decode cX7_restore 9 = .ok (.bipush (-2), 2) := by decide +kernel
theorem dX7_restore_11 : decode cX7_restore 11 = .ok (.ireturn, 1) := by decide +kernel
theorem dX7_restore_12 : decode cX7_restore 12 = .ok (.aload_n 0, 1) := by decide +kernel
theorem dX7_restore_13 : decode cX7_restore 13 = .ok (.getfield 61, 3) := by decide +kernel
theorem dX7_restore_16 : decode cX7_restore 16 = .ok (.iload_n 1, 1) := by decide +kernel
theorem dX7_restore_17 : decode cX7_restore 17 = .ok (.baload, 1) := by decide +kernel
theorem dX7_restore_18 : decode cX7_restore 18 = .ok (.ifCond .ne 6, 3) := by decide +kernel
theorem dX7_restore_21 : decode cX7_restore 21 = .ok (.bipush (-3), 2) := by decide +kernel
theorem dX7_restore_23 : decode cX7_restore 23 = .ok (.ireturn, 1) := by decide +kernel
theorem dX7_restore_24 : decode cX7_restore 24 = .ok (.bipush 110, 2) := by decide +kernel
theorem dX7_restore_26 : decode cX7_restore 26 = .ok (.iload_n 1, 1) := by decide +kernel
theorem dX7_restore_27 : decode cX7_restore 27 = .ok (.imul, 1) := by decide +kernel
theorem dX7_restore_28 : decode cX7_restore 28 = .ok (.istore_n 2, 1) := by decide +kernel
theorem dX7_restore_29 : decode cX7_restore 29 = .ok (.aload_n 0, 1) := by decide +kernel
theorem dX7_restore_30 : decode cX7_restore 30 = .ok (.aload_n 0, 1) := by decide +kernel
theorem dX7_restore_31 : decode cX7_restore 31 = .ok (.getfield 58, 3) := by decide +kernel
theorem dX7_restore_34 : decode cX7_restore 34 = .ok (.iload_n 2, 1) := by decide +kernel
theorem dX7_restore_35 : decode cX7_restore 35 = .ok (.iaload, 1) := by decide +kernel
theorem dX7_restore_36 : decode cX7_restore 36 = .ok (.putfield 65, 3) := by decide +kernel
theorem dX7_restore_39 : decode cX7_restore 39 = .ok (.aload_n 0, 1) := by decide +kernel
theorem dX7_restore_40 : decode cX7_restore 40 = .ok (.aload_n 0, 1) := by decide +kernel
theorem dX7_restore_41 : decode cX7_restore 41 = .ok (.getfield 58, 3) := by decide +kernel
theorem dX7_restore_44 : decode cX7_restore 44 = .ok (.iload_n 2, 1) := by decide +kernel
theorem dX7_restore_45 : decode cX7_restore 45 = .ok (.iconst 1, 1) := by decide +kernel
theorem dX7_restore_46 : decode cX7_restore 46 = .ok (.iadd, 1) := by decide +kernel
theorem dX7_restore_47 : decode cX7_restore 47 = .ok (.iaload, 1) := by decide +kernel
theorem dX7_restore_48 : decode cX7_restore 48 = .ok (.putfield 95, 3) := by decide +kernel
theorem dX7_restore_51 : decode cX7_restore 51 = .ok (.iconst 0, 1) := by decide +kernel
theorem dX7_restore_52 : decode cX7_restore 52 = .ok (.istore_n 3, 1) := by decide +kernel
theorem dX7_restore_53 : decode cX7_restore 53 = .ok (.iload_n 3, 1) := by decide +kernel
theorem dX7_restore_54 : decode cX7_restore 54 = .ok (.bipush 6, 2) := by decide +kernel
theorem dX7_restore_56 : decode cX7_restore 56 = .ok (.if_icmp .ge 76, 3) := by decide +kernel
theorem dX7_restore_59 : decode cX7_restore 59 = .ok (.aload_n 0, 1) := by decide +kernel
theorem dX7_restore_60 : decode cX7_restore 60 = .ok (.getfield 7, 3) := by decide +kernel
theorem dX7_restore_63 : decode cX7_restore 63 = .ok (.iload_n 3, 1) := by decide +kernel
theorem dX7_restore_64 : decode cX7_restore 64 = .ok (.aload_n 0, 1) := by decide +kernel
theorem dX7_restore_65 : decode cX7_restore 65 = .ok (.getfield 58, 3) := by decide +kernel
theorem dX7_restore_68 : decode cX7_restore 68 = .ok (.iload_n 2, 1) := by decide +kernel
theorem dX7_restore_69 : decode cX7_restore 69 = .ok (.iconst 2, 1) := by decide +kernel
theorem dX7_restore_70 : decode cX7_restore 70 = .ok (.iadd, 1) := by decide +kernel
theorem dX7_restore_71 : decode cX7_restore 71 = .ok (.iload_n 3, 1) := by decide +kernel
theorem dX7_restore_72 : decode cX7_restore 72 = .ok (.iadd, 1) := by decide +kernel
theorem dX7_restore_73 : decode cX7_restore 73 = .ok (.iaload, 1) := by decide +kernel
theorem dX7_restore_74 : decode cX7_restore 74 = .ok (.iastore, 1) := by decide +kernel
theorem dX7_restore_75 : decode cX7_restore 75 = .ok (.aload_n 0, 1) := by decide +kernel
theorem dX7_restore_76 : decode cX7_restore 76 = .ok (.getfield 13, 3) := by decide +kernel
theorem dX7_restore_79 : decode cX7_restore 79 = .ok (.iload_n 3, 1) := by decide +kernel
theorem dX7_restore_80 : decode cX7_restore 80 = .ok (.aload_n 0, 1) := by decide +kernel
theorem dX7_restore_81 : decode cX7_restore 81 = .ok (.getfield 58, 3) := by decide +kernel
theorem dX7_restore_84 : decode cX7_restore 84 = .ok (.iload_n 2, 1) := by decide +kernel
theorem dX7_restore_85 : decode cX7_restore 85 = .ok (.bipush 8, 2) := by decide +kernel
theorem dX7_restore_87 : decode cX7_restore 87 = .ok (.iadd, 1) := by decide +kernel
theorem dX7_restore_88 : decode cX7_restore 88 = .ok (.iload_n 3, 1) := by decide +kernel
theorem dX7_restore_89 : decode cX7_restore 89 = .ok (.iadd, 1) := by decide +kernel
theorem dX7_restore_90 : decode cX7_restore 90 = .ok (.iaload, 1) := by decide +kernel
theorem dX7_restore_91 : decode cX7_restore 91 = .ok (.iastore, 1) := by decide +kernel
theorem dX7_restore_92 : decode cX7_restore 92 = .ok (.aload_n 0, 1) := by decide +kernel
theorem dX7_restore_93 : decode cX7_restore 93 = .ok (.getfield 16, 3) := by decide +kernel
theorem dX7_restore_96 : decode cX7_restore 96 = .ok (.iload_n 3, 1) := by decide +kernel
theorem dX7_restore_97 : decode cX7_restore 97 = .ok (.aload_n 0, 1) := by decide +kernel
theorem dX7_restore_98 : decode cX7_restore 98 = .ok (.getfield 58, 3) := by decide +kernel
theorem dX7_restore_101 : decode cX7_restore 101 = .ok (.iload_n 2, 1) := by decide +kernel
theorem dX7_restore_102 : decode cX7_restore 102 = .ok (.bipush 14, 2) := by decide +kernel
theorem dX7_restore_104 : decode cX7_restore 104 = .ok (.iadd, 1) := by decide +kernel
theorem dX7_restore_105 : decode cX7_restore 105 = .ok (.iload_n 3, 1) := by decide +kernel
theorem dX7_restore_106 : decode cX7_restore 106 = .ok (.iadd, 1) := by decide +kernel
theorem dX7_restore_107 : decode cX7_restore 107 = .ok (.iaload, 1) := by decide +kernel
theorem dX7_restore_108 : decode cX7_restore 108 = .ok (.iastore, 1) := by decide +kernel
theorem dX7_restore_109 : decode cX7_restore 109 = .ok (.aload_n 0, 1) := by decide +kernel
theorem dX7_restore_110 : decode cX7_restore 110 = .ok (.getfield 19, 3) := by decide +kernel
theorem dX7_restore_113 : decode cX7_restore 113 = .ok (.iload_n 3, 1) := by decide +kernel
theorem dX7_restore_114 : decode cX7_restore 114 = .ok (.aload_n 0, 1) := by decide +kernel
theorem dX7_restore_115 : decode cX7_restore 115 = .ok (.getfield 58, 3) := by decide +kernel
theorem dX7_restore_118 : decode cX7_restore 118 = .ok (.iload_n 2, 1) := by decide +kernel
theorem dX7_restore_119 : decode cX7_restore 119 = .ok (.bipush 20, 2) := by decide +kernel
theorem dX7_restore_121 : decode cX7_restore 121 = .ok (.iadd, 1) := by decide +kernel
theorem dX7_restore_122 : decode cX7_restore 122 = .ok (.iload_n 3, 1) := by decide +kernel
theorem dX7_restore_123 : decode cX7_restore 123 = .ok (.iadd, 1) := by decide +kernel
theorem dX7_restore_124 : decode cX7_restore 124 = .ok (.iaload, 1) := by decide +kernel
theorem dX7_restore_125 : decode cX7_restore 125 = .ok (.iastore, 1) := by decide +kernel
theorem dX7_restore_126 : decode cX7_restore 126 = .ok (.iinc 3 1, 3) := by decide +kernel
theorem dX7_restore_129 : decode cX7_restore 129 = .ok (.goto (-76), 3) := by decide +kernel
theorem dX7_restore_132 : decode cX7_restore 132 = .ok (.iconst 0, 1) := by decide +kernel
theorem dX7_restore_133 : decode cX7_restore 133 = .ok (.istore_n 3, 1) := by decide +kernel
theorem dX7_restore_134 : decode cX7_restore 134 = .ok (.iload_n 3, 1) := by decide +kernel
theorem dX7_restore_135 : decode cX7_restore 135 = .ok (.iconst 4, 1) := by decide +kernel
theorem dX7_restore_136 : decode cX7_restore 136 = .ok (.if_icmp .ge 43, 3) := by decide +kernel
theorem dX7_restore_139 : decode cX7_restore 139 = .ok (.aload_n 0, 1) := by decide +kernel
theorem dX7_restore_140 : decode cX7_restore 140 = .ok (.getfield 22, 3) := by decide +kernel
theorem dX7_restore_143 : decode cX7_restore 143 = .ok (.iload_n 3, 1) := by decide +kernel
theorem dX7_restore_144 : decode cX7_restore 144 = .ok (.aload_n 0, 1) := by decide +kernel
theorem dX7_restore_145 : decode cX7_restore 145 = .ok (.getfield 58, 3) := by decide +kernel
theorem dX7_restore_148 : decode cX7_restore 148 = .ok (.iload_n 2, 1) := by decide +kernel
theorem dX7_restore_149 : decode cX7_restore 149 = .ok (.bipush 26, 2) := by decide +kernel
theorem dX7_restore_151 : decode cX7_restore 151 = .ok (.iadd, 1) := by decide +kernel
theorem dX7_restore_152 : decode cX7_restore 152 = .ok (.iload_n 3, 1) := by decide +kernel
theorem dX7_restore_153 : decode cX7_restore 153 = .ok (.iadd, 1) := by decide +kernel
theorem dX7_restore_154 : decode cX7_restore 154 = .ok (.iaload, 1) := by decide +kernel
theorem dX7_restore_155 : decode cX7_restore 155 = .ok (.iastore, 1) := by decide +kernel
theorem dX7_restore_156 : decode cX7_restore 156 = .ok (.aload_n 0, 1) := by decide +kernel
theorem dX7_restore_157 : decode cX7_restore 157 = .ok (.getfield 31, 3) := by decide +kernel
theorem dX7_restore_160 : decode cX7_restore 160 = .ok (.iload_n 3, 1) := by decide +kernel
theorem dX7_restore_161 : decode cX7_restore 161 = .ok (.aload_n 0, 1) := by decide +kernel
theorem dX7_restore_162 : decode cX7_restore 162 = .ok (.getfield 58, 3) := by decide +kernel
theorem dX7_restore_165 : decode cX7_restore 165 = .ok (.iload_n 2, 1) := by decide +kernel
theorem dX7_restore_166 : decode cX7_restore 166 = .ok (.bipush 30, 2) := by decide +kernel
theorem dX7_restore_168 : decode cX7_restore 168 = .ok (.iadd, 1) := by decide +kernel
theorem dX7_restore_169 : decode cX7_restore 169 = .ok (.iload_n 3, 1) := by decide +kernel
theorem dX7_restore_170 : decode cX7_restore 170 = .ok (.iadd, 1) := by decide +kernel
theorem dX7_restore_171 : decode cX7_restore 171 = .ok (.iaload, 1) := by decide +kernel
theorem dX7_restore_172 : decode cX7_restore 172 = .ok (.iastore, 1) := by decide +kernel
theorem dX7_restore_173 : decode cX7_restore 173 = .ok (.iinc 3 1, 3) := by decide +kernel
theorem dX7_restore_176 : decode cX7_restore 176 = .ok (.goto (-42), 3) := by decide +kernel
theorem dX7_restore_179 : decode cX7_restore 179 = .ok (.iconst 0, 1) := by decide +kernel
theorem dX7_restore_180 : decode cX7_restore 180 = .ok (.istore_n 3, 1) := by decide +kernel
theorem dX7_restore_181 : decode cX7_restore 181 = .ok (.iload_n 3, 1) := by decide +kernel
theorem dX7_restore_182 : decode cX7_restore 182 = .ok (.bipush 8, 2) := by decide +kernel
theorem dX7_restore_184 : decode cX7_restore 184 = .ok (.if_icmp .ge 43, 3) := by decide +kernel
theorem dX7_restore_187 : decode cX7_restore 187 = .ok (.aload_n 0, 1) := by decide +kernel
theorem dX7_restore_188 : decode cX7_restore 188 = .ok (.getfield 34, 3) := by decide +kernel
theorem dX7_restore_191 : decode cX7_restore 191 = .ok (.iload_n 3, 1) := by decide +kernel
theorem dX7_restore_192 : decode cX7_restore 192 = .ok (.aload_n 0, 1) := by decide +kernel
theorem dX7_restore_193 : decode cX7_restore 193 = .ok (.getfield 58, 3) := by decide +kernel
theorem dX7_restore_196 : decode cX7_restore 196 = .ok (.iload_n 2, 1) := by decide +kernel
theorem dX7_restore_197 : decode cX7_restore 197 = .ok (.bipush 34, 2) := by decide +kernel
theorem dX7_restore_199 : decode cX7_restore 199 = .ok (.iadd, 1) := by decide +kernel
theorem dX7_restore_200 : decode cX7_restore 200 = .ok (.iload_n 3, 1) := by decide +kernel
theorem dX7_restore_201 : decode cX7_restore 201 = .ok (.iadd, 1) := by decide +kernel
theorem dX7_restore_202 : decode cX7_restore 202 = .ok (.iaload, 1) := by decide +kernel
theorem dX7_restore_203 : decode cX7_restore 203 = .ok (.iastore, 1) := by decide +kernel
theorem dX7_restore_204 : decode cX7_restore 204 = .ok (.aload_n 0, 1) := by decide +kernel
theorem dX7_restore_205 : decode cX7_restore 205 = .ok (.getfield 37, 3) := by decide +kernel
theorem dX7_restore_208 : decode cX7_restore 208 = .ok (.iload_n 3, 1) := by decide +kernel
theorem dX7_restore_209 : decode cX7_restore 209 = .ok (.aload_n 0, 1) := by decide +kernel
theorem dX7_restore_210 : decode cX7_restore 210 = .ok (.getfield 58, 3) := by decide +kernel
theorem dX7_restore_213 : decode cX7_restore 213 = .ok (.iload_n 2, 1) := by decide +kernel
theorem dX7_restore_214 : decode cX7_restore 214 = .ok (.bipush 42, 2) := by decide +kernel
theorem dX7_restore_216 : decode cX7_restore 216 = .ok (.iadd, 1) := by decide +kernel
theorem dX7_restore_217 : decode cX7_restore 217 = .ok (.iload_n 3, 1) := by decide +kernel
theorem dX7_restore_218 : decode cX7_restore 218 = .ok (.iadd, 1) := by decide +kernel
theorem dX7_restore_219 : decode cX7_restore 219 = .ok (.iaload, 1) := by decide +kernel
theorem dX7_restore_220 : decode cX7_restore 220 = .ok (.iastore, 1) := by decide +kernel
theorem dX7_restore_221 : decode cX7_restore 221 = .ok (.iinc 3 1, 3) := by decide +kernel
theorem dX7_restore_224 : decode cX7_restore 224 = .ok (.goto (-43), 3) := by decide +kernel
theorem dX7_restore_227 : decode cX7_restore 227 = .ok (.iconst 0, 1) := by decide +kernel
theorem dX7_restore_228 : decode cX7_restore 228 = .ok (.istore_n 3, 1) := by decide +kernel
theorem dX7_restore_229 : decode cX7_restore 229 = .ok (.iload_n 3, 1) := by decide +kernel
theorem dX7_restore_230 : decode cX7_restore 230 = .ok (.bipush 50, 2) := by decide +kernel
theorem dX7_restore_232 : decode cX7_restore 232 = .ok (.if_icmp .ge 26, 3) := by decide +kernel
theorem dX7_restore_235 : decode cX7_restore 235 = .ok (.aload_n 0, 1) := by decide +kernel
theorem dX7_restore_236 : decode cX7_restore 236 = .ok (.getfield 28, 3) := by decide +kernel
theorem dX7_restore_239 : decode cX7_restore 239 = .ok (.iload_n 3, 1) := by decide +kernel
theorem dX7_restore_240 : decode cX7_restore 240 = .ok (.aload_n 0, 1) := by decide +kernel
theorem dX7_restore_241 : decode cX7_restore 241 = .ok (.getfield 58, 3) := by decide +kernel
theorem dX7_restore_244 : decode cX7_restore 244 = .ok (.iload_n 2, 1) := by decide +kernel
theorem dX7_restore_245 : decode cX7_restore 245 = .ok (.bipush 50, 2) := by decide +kernel
theorem dX7_restore_247 : decode cX7_restore 247 = .ok (.iadd, 1) := by decide +kernel
theorem dX7_restore_248 : decode cX7_restore 248 = .ok (.iload_n 3, 1) := by decide +kernel
theorem dX7_restore_249 : decode cX7_restore 249 = .ok (.iadd, 1) := by decide +kernel
theorem dX7_restore_250 : decode cX7_restore 250 = .ok (.iaload, 1) := by decide +kernel
theorem dX7_restore_251 : decode cX7_restore 251 = .ok (.iastore, 1) := by decide +kernel
theorem dX7_restore_252 : decode cX7_restore 252 = .ok (.iinc 3 1, 3) := by decide +kernel
theorem dX7_restore_255 : decode cX7_restore 255 = .ok (.goto (-26), 3) := by decide +kernel
theorem dX7_restore_258 : decode cX7_restore 258 = .ok (.aload_n 0, 1) := by decide +kernel
theorem dX7_restore_259 : decode cX7_restore 259 = .ok (.iconst 0, 1) := by decide +kernel
theorem dX7_restore_260 : decode cX7_restore 260 = .ok (.putfield 81, 3) := by decide +kernel
theorem dX7_restore_263 : decode cX7_restore 263 = .ok (.iconst 1, 1) := by decide +kernel
theorem dX7_restore_264 : decode cX7_restore 264 = .ok (.ireturn, 1) := by decide +kernel
theorem dX7_told_0 : decode cX7_told 0 = .ok (.iload_n 1, 1) := by decide +kernel
theorem dX7_told_1 : decode cX7_told 1 = .ok (.ifCond .ne 10, 3) := by decide +kernel
theorem dX7_told_4 : decode cX7_told 4 = .ok (.aload_n 0, 1) := by decide +kernel
theorem dX7_told_5 : decode cX7_told 5 = .ok (.getfield 65, 3) := by decide +kernel
theorem dX7_told_8 : decode cX7_told 8 = .ok (.goto 74, 3) := by decide +kernel
theorem dX7_told_11 : decode cX7_told 11 = .ok (.iload_n 1, 1) := by decide +kernel
theorem dX7_told_12 : decode cX7_told 12 = .ok (.iconst 1, 1) := by decide +kernel
theorem dX7_told_13 : decode cX7_told 13 = .ok (.if_icmp .ne 10, 3) := by decide +kernel
theorem dX7_told_16 : decode cX7_told 16 = .ok (.aload_n 0, 1) := by decide +kernel
theorem dX7_told_17 : decode cX7_told 17 = .ok (.getfield 88, 3) := by decide +kernel
theorem dX7_told_20 : decode cX7_told 20 = .ok (.goto 62, 3) := by decide +kernel
theorem dX7_told_23 : decode cX7_told 23 = .ok (.iload_n 1, 1) := by decide +kernel
theorem dX7_told_24 : decode cX7_told 24 = .ok (.iconst 2, 1) := by decide +kernel
theorem dX7_told_25 : decode cX7_told 25 = .ok (.if_icmp .ne 10, 3) := by decide +kernel
theorem dX7_told_28 : decode cX7_told 28 = .ok (.aload_n 0, 1) := by decide +kernel
theorem dX7_told_29 : decode cX7_told 29 = .ok (.invokevirtual 98, 3) := by decide +kernel
theorem dX7_told_32 : decode cX7_told 32 = .ok (.goto 50, 3) := by decide +kernel
theorem dX7_told_35 : decode cX7_told 35 = .ok (.iload_n 1, 1) := by decide +kernel
theorem dX7_told_36 : decode cX7_told 36 = .ok (.iconst 3, 1) := by decide +kernel
theorem dX7_told_37 : decode cX7_told 37 = .ok (.if_icmp .ne 10, 3) := by decide +kernel
theorem dX7_told_40 : decode cX7_told 40 = .ok (.aload_n 0, 1) := by decide +kernel
theorem dX7_told_41 : decode cX7_told 41 = .ok (.getfield 150, 3) := by decide +kernel
theorem dX7_told_44 : decode cX7_told 44 = .ok (.goto 38, 3) := by decide +kernel
theorem dX7_told_47 : decode cX7_told 47 = .ok (.iload_n 1, 1) := by decide +kernel
theorem dX7_told_48 : decode cX7_told 48 = .ok (.iconst 4, 1) := by decide +kernel
theorem dX7_told_49 : decode cX7_told 49 = .ok (.if_icmp .ne 10, 3) := by decide +kernel
theorem dX7_told_52 : decode cX7_told 52 = .ok (.aload_n 0, 1) := by decide +kernel
theorem dX7_told_53 : decode cX7_told 53 = .ok (.getfield 156, 3) := by decide +kernel
theorem dX7_told_56 : decode cX7_told 56 = .ok (.goto 26, 3) := by decide +kernel
theorem dX7_told_59 : decode cX7_told 59 = .ok (.iload_n 1, 1) := by decide +kernel
theorem dX7_told_60 : decode cX7_told 60 = .ok (.iconst 5, 1) := by decide +kernel
theorem dX7_told_61 : decode cX7_told 61 = .ok (.bipush 8, 2) := by decide +kernel
theorem dX7_told_63 : decode cX7_told 63 = .ok (.invokestatic 69, 3) := by decide +kernel
theorem dX7_told_66 : decode cX7_told 66 = .ok (.ifCond .eq 14, 3) := by decide +kernel
theorem dX7_told_69 : decode cX7_told 69 = .ok (.aload_n 0, 1) := by decide +kernel
theorem dX7_told_70 : decode cX7_told 70 = .ok (.getfield 22, 3) := by decide +kernel
theorem dX7_told_73 : decode cX7_told 73 = .ok (.iload_n 1, 1) := by decide +kernel
theorem dX7_told_74 : decode cX7_told 74 = .ok (.iconst 5, 1) := by decide +kernel
theorem dX7_told_75 : decode cX7_told 75 = .ok (.isub, 1) := by decide +kernel
theorem dX7_told_76 : decode cX7_told 76 = .ok (.iaload, 1) := by decide +kernel
theorem dX7_told_77 : decode cX7_told 77 = .ok (.goto 5, 3) := by decide +kernel
theorem dX7_told_80 : decode cX7_told 80 = .ok (.bipush (-2), 2) := by decide +kernel
theorem dX7_told_82 : decode cX7_told 82 = .ok (.ireturn, 1) := by decide +kernel
end
section
theorem dL_law_0 : decode cL_law 0 = .ok (.new 7, 3) := by decide +kernel
theorem dL_law_3 : decode cL_law 3 = .ok (.dup, 1) := by decide +kernel
theorem dL_law_4 : decode cL_law 4 = .ok (.invokespecial 9, 3) := by decide +kernel
theorem dL_law_7 : decode cL_law 7 = .ok (.astore_n 1, 1) := by decide +kernel
theorem dL_law_8 : decode cL_law 8 = .ok (.new 10, 3) := by decide +kernel
theorem dL_law_11 : decode cL_law 11 = .ok (.dup, 1) := by decide +kernel
theorem dL_law_12 : decode cL_law 12 = .ok (.invokespecial 12, 3) := by decide +kernel
theorem dL_law_15 : decode cL_law 15 = .ok (.astore_n 2, 1) := by decide +kernel
theorem dL_law_16 : decode cL_law 16 = .ok (.iconst 0, 1) := by decide +kernel
theorem dL_law_17 : decode cL_law 17 = .ok (.istore_n 3, 1) := by decide +kernel
theorem dL_law_18 : decode cL_law 18 = .ok (.iload_n 3, 1) := by decide +kernel
theorem dL_law_19 : decode cL_law 19 = .ok (.aload_n 0, 1) := by decide +kernel
theorem dL_law_20 : decode cL_law 20 = .ok (.arraylength, 1) := by decide +kernel
theorem dL_law_21 : decode cL_law 21 = .ok (.iconst 4, 1) := by decide +kernel
theorem dL_law_22 : decode cL_law 22 = .ok (.isub, 1) := by decide +kernel
theorem dL_law_23 : decode cL_law 23 = .ok (.if_icmp .gt 1027, 3) := by decide +kernel
theorem dL_law_26 : decode cL_law 26 = .ok (.aload_n 0, 1) := by decide +kernel
theorem dL_law_27 : decode cL_law 27 = .ok (.iload_n 3, 1) := by decide +kernel
theorem dL_law_28 : decode cL_law 28 = .ok (.iaload, 1) := by decide +kernel
theorem dL_law_29 : decode cL_law 29 = .ok (.bipush 31, 2) := by decide +kernel
theorem dL_law_31 : decode cL_law 31 = .ok (.iand, 1) := by decide +kernel
theorem dL_law_32 : decode cL_law 32 = .ok (.tableswitch 1012 0 29 #[136, 179, 212, 245, 268, 281, 294, 307, 340, 373, 396, 439, 472, 515, 548, 591, 624, 647, 706, 739, 762, 785, 798, 831, 864, 887, 910, 943, 966, 989], 136) := by decide +kernel
theorem dL_law_168 : decode cL_law 168 = .ok (.aload_n 1, 1) := by decide +kernel
theorem dL_law_169 : decode cL_law 169 = .ok (.aload_n 0, 1) := by decide +kernel
theorem dL_law_170 : decode cL_law 170 = .ok (.iload_n 3, 1) := by decide +kernel
theorem dL_law_171 : decode cL_law 171 = .ok (.iconst 1, 1) := by decide +kernel
theorem dL_law_172 : decode cL_law 172 = .ok (.iadd, 1) := by decide +kernel
theorem dL_law_173 : decode cL_law 173 = .ok (.iaload, 1) := by decide +kernel
theorem dL_law_174 : decode cL_law 174 = .ok (.aload_n 0, 1) := by decide +kernel
theorem dL_law_175 : decode cL_law 175 = .ok (.iload_n 3, 1) := by decide +kernel
theorem dL_law_176 : decode cL_law 176 = .ok (.iconst 2, 1) := by decide +kernel
theorem dL_law_177 : decode cL_law 177 = .ok (.iadd, 1) := by decide +kernel
theorem dL_law_178 : decode cL_law 178 = .ok (.iaload, 1) := by decide +kernel
theorem dL_law_179 : decode cL_law 179 = .ok (.aload_n 0, 1) := by decide +kernel
theorem dL_law_180 : decode cL_law 180 = .ok (.iload_n 3, 1) := by decide +kernel
theorem dL_law_181 : decode cL_law 181 = .ok (.iconst 3, 1) := by decide +kernel
theorem dL_law_182 : decode cL_law 182 = .ok (.iadd, 1) := by decide +kernel
theorem dL_law_183 : decode cL_law 183 = .ok (.iaload, 1) := by decide +kernel
theorem dL_law_184 : decode cL_law 184 = .ok (.invokevirtual 13, 3) := by decide +kernel
theorem dL_law_187 : decode cL_law 187 = .ok (.aload_n 2, 1) := by decide +kernel
theorem dL_law_188 : decode cL_law 188 = .ok (.aload_n 0, 1) := by decide +kernel
theorem dL_law_189 : decode cL_law 189 = .ok (.iload_n 3, 1) := by decide +kernel
theorem dL_law_190 : decode cL_law 190 = .ok (.iconst 1, 1) := by decide +kernel
theorem dL_law_191 : decode cL_law 191 = .ok (.iadd, 1) := by decide +kernel
theorem dL_law_192 : decode cL_law 192 = .ok (.iaload, 1) := by decide +kernel
theorem dL_law_193 : decode cL_law 193 = .ok (.aload_n 0, 1) := by decide +kernel
theorem dL_law_194 : decode cL_law 194 = .ok (.iload_n 3, 1) := by decide +kernel
theorem dL_law_195 : decode cL_law 195 = .ok (.iconst 2, 1) := by decide +kernel
theorem dL_law_196 : decode cL_law 196 = .ok (.iadd, 1) := by decide +kernel
theorem dL_law_197 : decode cL_law 197 = .ok (.iaload, 1) := by decide +kernel
theorem dL_law_198 : decode cL_law 198 = .ok (.aload_n 0, 1) := by decide +kernel
theorem dL_law_199 : decode cL_law 199 = .ok (.iload_n 3, 1) := by decide +kernel
theorem dL_law_200 : decode cL_law 200 = .ok (.iconst 3, 1) := by decide +kernel
theorem dL_law_201 : decode cL_law 201 = .ok (.iadd, 1) := by decide +kernel
theorem dL_law_202 : decode cL_law 202 = .ok (.iaload, 1) := by decide +kernel
theorem dL_law_203 : decode cL_law 203 = .ok (.invokevirtual 17, 3) := by decide +kernel
theorem dL_law_206 : decode cL_law 206 = .ok (.if_icmp .eq 838, 3) := by decide +kernel
theorem dL_law_209 : decode cL_law 209 = .ok (.iconst 0, 1) := by decide +kernel
theorem dL_law_210 : decode cL_law 210 = .ok (.ireturn, 1) := by decide +kernel
theorem dL_law_211 : decode cL_law 211 = .ok (.aload_n 1, 1) := by decide +kernel
theorem dL_law_212 : decode cL_law 212 = .ok (.aload_n 0, 1) := by decide +kernel
theorem dL_law_213 : decode cL_law 213 = .ok (.iload_n 3, 1) := by decide +kernel
theorem dL_law_214 : decode cL_law 214 = .ok (.iconst 1, 1) := by decide +kernel
theorem dL_law_215 : decode cL_law 215 = .ok (.iadd, 1) := by decide +kernel
theorem dL_law_216 : decode cL_law 216 = .ok (.iaload, 1) := by decide +kernel
theorem dL_law_217 : decode cL_law 217 = .ok (.aload_n 0, 1) := by decide +kernel
theorem dL_law_218 : decode cL_law 218 = .ok (.iload_n 3, 1) := by decide +kernel
theorem dL_law_219 : decode cL_law 219 = .ok (.iconst 2, 1) := by decide +kernel
theorem dL_law_220 : decode cL_law 220 = .ok (.iadd, 1) := by decide +kernel
theorem dL_law_221 : decode cL_law 221 = .ok (.iaload, 1) := by decide +kernel
theorem dL_law_222 : decode cL_law 222 = .ok (.invokevirtual 18, 3) := by decide +kernel
theorem dL_law_225 : decode cL_law 225 = .ok (.aload_n 2, 1) := by decide +kernel
theorem dL_law_226 : decode cL_law 226 = .ok (.aload_n 0, 1) := by decide +kernel
theorem dL_law_227 : decode cL_law 227 = .ok (.iload_n 3, 1) := by decide +kernel
theorem dL_law_228 : decode cL_law 228 = .ok (.iconst 1, 1) := by decide +kernel
theorem dL_law_229 : decode cL_law 229 = .ok (.iadd, 1) := by decide +kernel
theorem dL_law_230 : decode cL_law 230 = .ok (.iaload, 1) := by decide +kernel
theorem dL_law_231 : decode cL_law 231 = .ok (.aload_n 0, 1) := by decide +kernel
theorem dL_law_232 : decode cL_law 232 = .ok (.iload_n 3, 1) := by decide +kernel
theorem dL_law_233 : decode cL_law 233 = .ok (.iconst 2, 1) := by decide +kernel
theorem dL_law_234 : decode cL_law 234 = .ok (.iadd, 1) := by decide +kernel
theorem dL_law_235 : decode cL_law 235 = .ok (.iaload, 1) := by decide +kernel
theorem dL_law_236 : decode cL_law 236 = .ok (.invokevirtual 22, 3) := by decide +kernel
theorem dL_law_239 : decode cL_law 239 = .ok (.if_icmp .eq 805, 3) := by decide +kernel
theorem dL_law_242 : decode cL_law 242 = .ok (.iconst 0, 1) := by decide +kernel
theorem dL_law_243 : decode cL_law 243 = .ok (.ireturn, 1) := by decide +kernel
theorem dL_law_244 : decode cL_law 244 = .ok (.aload_n 1, 1) := by decide +kernel
theorem dL_law_245 : decode cL_law 245 = .ok (.aload_n 0, 1) := by decide +kernel
theorem dL_law_246 : decode cL_law 246 = .ok (.iload_n 3, 1) := by decide +kernel
theorem dL_law_247 : decode cL_law 247 = .ok (.iconst 1, 1) := by decide +kernel
theorem dL_law_248 : decode cL_law 248 = .ok (.iadd, 1) := by decide +kernel
theorem dL_law_249 : decode cL_law 249 = .ok (.iaload, 1) := by decide +kernel
theorem dL_law_250 : decode cL_law 250 = .ok (.aload_n 0, 1) := by decide +kernel
theorem dL_law_251 : decode cL_law 251 = .ok (.iload_n 3, 1) := by decide +kernel
theorem dL_law_252 : decode cL_law 252 = .ok (.iconst 2, 1) := by decide +kernel
theorem dL_law_253 : decode cL_law 253 = .ok (.iadd, 1) := by decide +kernel
theorem dL_law_254 : decode cL_law 254 = .ok (.iaload, 1) := by decide +kernel
theorem dL_law_255 : decode cL_law 255 = .ok (.invokevirtual 23, 3) := by decide +kernel
theorem dL_law_258 : decode cL_law 258 = .ok (.aload_n 2, 1) := by decide +kernel
theorem dL_law_259 : decode cL_law 259 = .ok (.aload_n 0, 1) := by decide +kernel
theorem dL_law_260 : decode cL_law 260 = .ok (.iload_n 3, 1) := by decide +kernel
theorem dL_law_261 : decode cL_law 261 = .ok (.iconst 1, 1) := by decide +kernel
theorem dL_law_262 : decode cL_law 262 = .ok (.iadd, 1) := by decide +kernel
theorem dL_law_263 : decode cL_law 263 = .ok (.iaload, 1) := by decide +kernel
theorem dL_law_264 : decode cL_law 264 = .ok (.aload_n 0, 1) := by decide +kernel
theorem dL_law_265 : decode cL_law 265 = .ok (.iload_n 3, 1) := by decide +kernel
theorem dL_law_266 : decode cL_law 266 = .ok (.iconst 2, 1) := by decide +kernel
theorem dL_law_267 : decode cL_law 267 = .ok (.iadd, 1) := by decide +kernel
theorem dL_law_268 : decode cL_law 268 = .ok (.iaload, 1) := by decide +kernel
theorem dL_law_269 : decode cL_law 269 = .ok (.invokevirtual 26, 3) := by decide +kernel
theorem dL_law_272 : decode cL_law 272 = .ok (.if_icmp .eq 772, 3) := by decide +kernel
theorem dL_law_275 : decode cL_law 275 = .ok (.iconst 0, 1) := by decide +kernel
theorem dL_law_276 : decode cL_law 276 = .ok (.ireturn, 1) := by decide +kernel
theorem dL_law_277 : decode cL_law 277 = .ok (.aload_n 1, 1) := by decide +kernel
theorem dL_law_278 : decode cL_law 278 = .ok (.aload_n 0, 1) := by decide +kernel
theorem dL_law_279 : decode cL_law 279 = .ok (.iload_n 3, 1) := by decide +kernel
theorem dL_law_280 : decode cL_law 280 = .ok (.iconst 1, 1) := by decide +kernel
theorem dL_law_281 : decode cL_law 281 = .ok (.iadd, 1) := by decide +kernel
theorem dL_law_282 : decode cL_law 282 = .ok (.iaload, 1) := by decide +kernel
theorem dL_law_283 : decode cL_law 283 = .ok (.invokevirtual 27, 3) := by decide +kernel
theorem dL_law_286 : decode cL_law 286 = .ok (.aload_n 2, 1) := by decide +kernel
theorem dL_law_287 : decode cL_law 287 = .ok (.aload_n 0, 1) := by decide +kernel
theorem dL_law_288 : decode cL_law 288 = .ok (.iload_n 3, 1) := by decide +kernel
theorem dL_law_289 : decode cL_law 289 = .ok (.iconst 1, 1) := by decide +kernel
theorem dL_law_290 : decode cL_law 290 = .ok (.iadd, 1) := by decide +kernel
theorem dL_law_291 : decode cL_law 291 = .ok (.iaload, 1) := by decide +kernel
theorem dL_law_292 : decode cL_law 292 = .ok (.invokevirtual 31, 3) := by decide +kernel
theorem dL_law_295 : decode cL_law 295 = .ok (.if_icmp .eq 749, 3) := by decide +kernel
theorem dL_law_298 : decode cL_law 298 = .ok (.iconst 0, 1) := by decide +kernel
theorem dL_law_299 : decode cL_law 299 = .ok (.ireturn, 1) := by decide +kernel
theorem dL_law_300 : decode cL_law 300 = .ok (.aload_n 1, 1) := by decide +kernel
theorem dL_law_301 : decode cL_law 301 = .ok (.invokevirtual 32, 3) := by decide +kernel
theorem dL_law_304 : decode cL_law 304 = .ok (.aload_n 2, 1) := by decide +kernel
theorem dL_law_305 : decode cL_law 305 = .ok (.invokevirtual 36, 3) := by decide +kernel
theorem dL_law_308 : decode cL_law 308 = .ok (.if_icmp .eq 736, 3) := by decide +kernel
theorem dL_law_311 : decode cL_law 311 = .ok (.iconst 0, 1) := by decide +kernel
theorem dL_law_312 : decode cL_law 312 = .ok (.ireturn, 1) := by decide +kernel
theorem dL_law_313 : decode cL_law 313 = .ok (.aload_n 1, 1) := by decide +kernel
theorem dL_law_314 : decode cL_law 314 = .ok (.invokevirtual 37, 3) := by decide +kernel
theorem dL_law_317 : decode cL_law 317 = .ok (.aload_n 2, 1) := by decide +kernel
theorem dL_law_318 : decode cL_law 318 = .ok (.invokevirtual 40, 3) := by decide +kernel
theorem dL_law_321 : decode cL_law 321 = .ok (.if_icmp .eq 723, 3) := by decide +kernel
theorem dL_law_324 : decode cL_law 324 = .ok (.iconst 0, 1) := by decide +kernel
theorem dL_law_325 : decode cL_law 325 = .ok (.ireturn, 1) := by decide +kernel
theorem dL_law_326 : decode cL_law 326 = .ok (.aload_n 1, 1) := by decide +kernel
theorem dL_law_327 : decode cL_law 327 = .ok (.invokevirtual 41, 3) := by decide +kernel
theorem dL_law_330 : decode cL_law 330 = .ok (.aload_n 2, 1) := by decide +kernel
theorem dL_law_331 : decode cL_law 331 = .ok (.invokevirtual 44, 3) := by decide +kernel
theorem dL_law_334 : decode cL_law 334 = .ok (.if_icmp .eq 710, 3) := by decide +kernel
theorem dL_law_337 : decode cL_law 337 = .ok (.iconst 0, 1) := by decide +kernel
theorem dL_law_338 : decode cL_law 338 = .ok (.ireturn, 1) := by decide +kernel
theorem dL_law_339 : decode cL_law 339 = .ok (.aload_n 1, 1) := by decide +kernel
theorem dL_law_340 : decode cL_law 340 = .ok (.aload_n 0, 1) := by decide +kernel
theorem dL_law_341 : decode cL_law 341 = .ok (.iload_n 3, 1) := by decide +kernel
theorem dL_law_342 : decode cL_law 342 = .ok (.iconst 1, 1) := by decide +kernel
theorem dL_law_343 : decode cL_law 343 = .ok (.iadd, 1) := by decide +kernel
theorem dL_law_344 : decode cL_law 344 = .ok (.iaload, 1) := by decide +kernel
theorem dL_law_345 : decode cL_law 345 = .ok (.aload_n 0, 1) := by decide +kernel
theorem dL_law_346 : decode cL_law 346 = .ok (.iload_n 3, 1) := by decide +kernel
theorem dL_law_347 : decode cL_law 347 = .ok (.iconst 2, 1) := by decide +kernel
theorem dL_law_348 : decode cL_law 348 = .ok (.iadd, 1) := by decide +kernel
theorem dL_law_349 : decode cL_law 349 = .ok (.iaload, 1) := by decide +kernel
theorem dL_law_350 : decode cL_law 350 = .ok (.invokevirtual 45, 3) := by decide +kernel
theorem dL_law_353 : decode cL_law 353 = .ok (.aload_n 2, 1) := by decide +kernel
theorem dL_law_354 : decode cL_law 354 = .ok (.aload_n 0, 1) := by decide +kernel
theorem dL_law_355 : decode cL_law 355 = .ok (.iload_n 3, 1) := by decide +kernel
theorem dL_law_356 : decode cL_law 356 = .ok (.iconst 1, 1) := by decide +kernel
theorem dL_law_357 : decode cL_law 357 = .ok (.iadd, 1) := by decide +kernel
theorem dL_law_358 : decode cL_law 358 = .ok (.iaload, 1) := by decide +kernel
theorem dL_law_359 : decode cL_law 359 = .ok (.aload_n 0, 1) := by decide +kernel
theorem dL_law_360 : decode cL_law 360 = .ok (.iload_n 3, 1) := by decide +kernel
theorem dL_law_361 : decode cL_law 361 = .ok (.iconst 2, 1) := by decide +kernel
theorem dL_law_362 : decode cL_law 362 = .ok (.iadd, 1) := by decide +kernel
theorem dL_law_363 : decode cL_law 363 = .ok (.iaload, 1) := by decide +kernel
theorem dL_law_364 : decode cL_law 364 = .ok (.invokevirtual 48, 3) := by decide +kernel
theorem dL_law_367 : decode cL_law 367 = .ok (.if_icmp .eq 677, 3) := by decide +kernel
theorem dL_law_370 : decode cL_law 370 = .ok (.iconst 0, 1) := by decide +kernel
theorem dL_law_371 : decode cL_law 371 = .ok (.ireturn, 1) := by decide +kernel
theorem dL_law_372 : decode cL_law 372 = .ok (.aload_n 1, 1) := by decide +kernel
theorem dL_law_373 : decode cL_law 373 = .ok (.aload_n 0, 1) := by decide +kernel
theorem dL_law_374 : decode cL_law 374 = .ok (.iload_n 3, 1) := by decide +kernel
theorem dL_law_375 : decode cL_law 375 = .ok (.iconst 1, 1) := by decide +kernel
theorem dL_law_376 : decode cL_law 376 = .ok (.iadd, 1) := by decide +kernel
theorem dL_law_377 : decode cL_law 377 = .ok (.iaload, 1) := by decide +kernel
theorem dL_law_378 : decode cL_law 378 = .ok (.aload_n 0, 1) := by decide +kernel
theorem dL_law_379 : decode cL_law 379 = .ok (.iload_n 3, 1) := by decide +kernel
theorem dL_law_380 : decode cL_law 380 = .ok (.iconst 2, 1) := by decide +kernel
theorem dL_law_381 : decode cL_law 381 = .ok (.iadd, 1) := by decide +kernel
theorem dL_law_382 : decode cL_law 382 = .ok (.iaload, 1) := by decide +kernel
theorem dL_law_383 : decode cL_law 383 = .ok (.invokevirtual 49, 3) := by decide +kernel
theorem dL_law_386 : decode cL_law 386 = .ok (.aload_n 2, 1) := by decide +kernel
theorem dL_law_387 : decode cL_law 387 = .ok (.aload_n 0, 1) := by decide +kernel
theorem dL_law_388 : decode cL_law 388 = .ok (.iload_n 3, 1) := by decide +kernel
theorem dL_law_389 : decode cL_law 389 = .ok (.iconst 1, 1) := by decide +kernel
theorem dL_law_390 : decode cL_law 390 = .ok (.iadd, 1) := by decide +kernel
theorem dL_law_391 : decode cL_law 391 = .ok (.iaload, 1) := by decide +kernel
theorem dL_law_392 : decode cL_law 392 = .ok (.aload_n 0, 1) := by decide +kernel
theorem dL_law_393 : decode cL_law 393 = .ok (.iload_n 3, 1) := by decide +kernel
theorem dL_law_394 : decode cL_law 394 = .ok (.iconst 2, 1) := by decide +kernel
theorem dL_law_395 : decode cL_law 395 = .ok (.iadd, 1) := by decide +kernel
theorem dL_law_396 : decode cL_law 396 = .ok (.iaload, 1) := by decide +kernel
theorem dL_law_397 : decode cL_law 397 = .ok (.invokevirtual 52, 3) := by decide +kernel
theorem dL_law_400 : decode cL_law 400 = .ok (.if_icmp .eq 644, 3) := by decide +kernel
theorem dL_law_403 : decode cL_law 403 = .ok (.iconst 0, 1) := by decide +kernel
theorem dL_law_404 : decode cL_law 404 = .ok (.ireturn, 1) := by decide +kernel
theorem dL_law_405 : decode cL_law 405 = .ok (.aload_n 1, 1) := by decide +kernel
theorem dL_law_406 : decode cL_law 406 = .ok (.aload_n 0, 1) := by decide +kernel
theorem dL_law_407 : decode cL_law 407 = .ok (.iload_n 3, 1) := by decide +kernel
theorem dL_law_408 : decode cL_law 408 = .ok (.iconst 1, 1) := by decide +kernel
theorem dL_law_409 : decode cL_law 409 = .ok (.iadd, 1) := by decide +kernel
theorem dL_law_410 : decode cL_law 410 = .ok (.iaload, 1) := by decide +kernel
theorem dL_law_411 : decode cL_law 411 = .ok (.invokevirtual 53, 3) := by decide +kernel
theorem dL_law_414 : decode cL_law 414 = .ok (.aload_n 2, 1) := by decide +kernel
theorem dL_law_415 : decode cL_law 415 = .ok (.aload_n 0, 1) := by decide +kernel
theorem dL_law_416 : decode cL_law 416 = .ok (.iload_n 3, 1) := by decide +kernel
theorem dL_law_417 : decode cL_law 417 = .ok (.iconst 1, 1) := by decide +kernel
theorem dL_law_418 : decode cL_law 418 = .ok (.iadd, 1) := by decide +kernel
theorem dL_law_419 : decode cL_law 419 = .ok (.iaload, 1) := by decide +kernel
theorem dL_law_420 : decode cL_law 420 = .ok (.invokevirtual 56, 3) := by decide +kernel
theorem dL_law_423 : decode cL_law 423 = .ok (.if_icmp .eq 621, 3) := by decide +kernel
theorem dL_law_426 : decode cL_law 426 = .ok (.iconst 0, 1) := by decide +kernel
theorem dL_law_427 : decode cL_law 427 = .ok (.ireturn, 1) := by decide +kernel
theorem dL_law_428 : decode cL_law 428 = .ok (.aload_n 1, 1) := by decide +kernel
theorem dL_law_429 : decode cL_law 429 = .ok (.aload_n 0, 1) := by decide +kernel
theorem dL_law_430 : decode cL_law 430 = .ok (.iload_n 3, 1) := by decide +kernel
theorem dL_law_431 : decode cL_law 431 = .ok (.iconst 1, 1) := by decide +kernel
theorem dL_law_432 : decode cL_law 432 = .ok (.iadd, 1) := by decide +kernel
theorem dL_law_433 : decode cL_law 433 = .ok (.iaload, 1) := by decide +kernel
theorem dL_law_434 : decode cL_law 434 = .ok (.aload_n 0, 1) := by decide +kernel
theorem dL_law_435 : decode cL_law 435 = .ok (.iload_n 3, 1) := by decide +kernel
theorem dL_law_436 : decode cL_law 436 = .ok (.iconst 2, 1) := by decide +kernel
theorem dL_law_437 : decode cL_law 437 = .ok (.iadd, 1) := by decide +kernel
theorem dL_law_438 : decode cL_law 438 = .ok (.iaload, 1) := by decide +kernel
theorem dL_law_439 : decode cL_law 439 = .ok (.aload_n 0, 1) := by decide +kernel
theorem dL_law_440 : decode cL_law 440 = .ok (.iload_n 3, 1) := by decide +kernel
theorem dL_law_441 : decode cL_law 441 = .ok (.iconst 3, 1) := by decide +kernel
theorem dL_law_442 : decode cL_law 442 = .ok (.iadd, 1) := by decide +kernel
theorem dL_law_443 : decode cL_law 443 = .ok (.iaload, 1) := by decide +kernel
theorem dL_law_444 : decode cL_law 444 = .ok (.invokevirtual 57, 3) := by decide +kernel
theorem dL_law_447 : decode cL_law 447 = .ok (.aload_n 2, 1) := by decide +kernel
theorem dL_law_448 : decode cL_law 448 = .ok (.aload_n 0, 1) := by decide +kernel
theorem dL_law_449 : decode cL_law 449 = .ok (.iload_n 3, 1) := by decide +kernel
theorem dL_law_450 : decode cL_law 450 = .ok (.iconst 1, 1) := by decide +kernel
theorem dL_law_451 : decode cL_law 451 = .ok (.iadd, 1) := by decide +kernel
theorem dL_law_452 : decode cL_law 452 = .ok (.iaload, 1) := by decide +kernel
theorem dL_law_453 : decode cL_law 453 = .ok (.aload_n 0, 1) := by decide +kernel
theorem dL_law_454 : decode cL_law 454 = .ok (.iload_n 3, 1) := by decide +kernel
theorem dL_law_455 : decode cL_law 455 = .ok (.iconst 2, 1) := by decide +kernel
theorem dL_law_456 : decode cL_law 456 = .ok (.iadd, 1) := by decide +kernel
theorem dL_law_457 : decode cL_law 457 = .ok (.iaload, 1) := by decide +kernel
theorem dL_law_458 : decode cL_law 458 = .ok (.aload_n 0, 1) := by decide +kernel
theorem dL_law_459 : decode cL_law 459 = .ok (.iload_n 3, 1) := by decide +kernel
theorem dL_law_460 : decode cL_law 460 = .ok (.iconst 3, 1) := by decide +kernel
theorem dL_law_461 : decode cL_law 461 = .ok (.iadd, 1) := by decide +kernel
theorem dL_law_462 : decode cL_law 462 = .ok (.iaload, 1) := by decide +kernel
theorem dL_law_463 : decode cL_law 463 = .ok (.invokevirtual 60, 3) := by decide +kernel
theorem dL_law_466 : decode cL_law 466 = .ok (.if_icmp .eq 578, 3) := by decide +kernel
theorem dL_law_469 : decode cL_law 469 = .ok (.iconst 0, 1) := by decide +kernel
theorem dL_law_470 : decode cL_law 470 = .ok (.ireturn, 1) := by decide +kernel
theorem dL_law_471 : decode cL_law 471 = .ok (.aload_n 1, 1) := by decide +kernel
theorem dL_law_472 : decode cL_law 472 = .ok (.aload_n 0, 1) := by decide +kernel
theorem dL_law_473 : decode cL_law 473 = .ok (.iload_n 3, 1) := by decide +kernel
theorem dL_law_474 : decode cL_law 474 = .ok (.iconst 1, 1) := by decide +kernel
theorem dL_law_475 : decode cL_law 475 = .ok (.iadd, 1) := by decide +kernel
theorem dL_law_476 : decode cL_law 476 = .ok (.iaload, 1) := by decide +kernel
theorem dL_law_477 : decode cL_law 477 = .ok (.aload_n 0, 1) := by decide +kernel
theorem dL_law_478 : decode cL_law 478 = .ok (.iload_n 3, 1) := by decide +kernel
theorem dL_law_479 : decode cL_law 479 = .ok (.iconst 2, 1) := by decide +kernel
theorem dL_law_480 : decode cL_law 480 = .ok (.iadd, 1) := by decide +kernel
theorem dL_law_481 : decode cL_law 481 = .ok (.iaload, 1) := by decide +kernel
theorem dL_law_482 : decode cL_law 482 = .ok (.invokevirtual 61, 3) := by decide +kernel
theorem dL_law_485 : decode cL_law 485 = .ok (.aload_n 2, 1) := by decide +kernel
theorem dL_law_486 : decode cL_law 486 = .ok (.aload_n 0, 1) := by decide +kernel
theorem dL_law_487 : decode cL_law 487 = .ok (.iload_n 3, 1) := by decide +kernel
theorem dL_law_488 : decode cL_law 488 = .ok (.iconst 1, 1) := by decide +kernel
theorem dL_law_489 : decode cL_law 489 = .ok (.iadd, 1) := by decide +kernel
theorem dL_law_490 : decode cL_law 490 = .ok (.iaload, 1) := by decide +kernel
theorem dL_law_491 : decode cL_law 491 = .ok (.aload_n 0, 1) := by decide +kernel
theorem dL_law_492 : decode cL_law 492 = .ok (.iload_n 3, 1) := by decide +kernel
theorem dL_law_493 : decode cL_law 493 = .ok (.iconst 2, 1) := by decide +kernel
theorem dL_law_494 : decode cL_law 494 = .ok (.iadd, 1) := by decide +kernel
theorem dL_law_495 : decode cL_law 495 = .ok (.iaload, 1) := by decide +kernel
theorem dL_law_496 : decode cL_law 496 = .ok (.invokevirtual 64, 3) := by decide +kernel
theorem dL_law_499 : decode cL_law 499 = .ok (.if_icmp .eq 545, 3) := by decide +kernel
theorem dL_law_502 : decode cL_law 502 = .ok (.iconst 0, 1) := by decide +kernel
theorem dL_law_503 : decode cL_law 503 = .ok (.ireturn, 1) := by decide +kernel
theorem dL_law_504 : decode cL_law 504 = .ok (.aload_n 1, 1) := by decide +kernel
theorem dL_law_505 : decode cL_law 505 = .ok (.aload_n 0, 1) := by decide +kernel
theorem dL_law_506 : decode cL_law 506 = .ok (.iload_n 3, 1) := by decide +kernel
theorem dL_law_507 : decode cL_law 507 = .ok (.iconst 1, 1) := by decide +kernel
theorem dL_law_508 : decode cL_law 508 = .ok (.iadd, 1) := by decide +kernel
theorem dL_law_509 : decode cL_law 509 = .ok (.iaload, 1) := by decide +kernel
theorem dL_law_510 : decode cL_law 510 = .ok (.aload_n 0, 1) := by decide +kernel
theorem dL_law_511 : decode cL_law 511 = .ok (.iload_n 3, 1) := by decide +kernel
theorem dL_law_512 : decode cL_law 512 = .ok (.iconst 2, 1) := by decide +kernel
theorem dL_law_513 : decode cL_law 513 = .ok (.iadd, 1) := by decide +kernel
theorem dL_law_514 : decode cL_law 514 = .ok (.iaload, 1) := by decide +kernel
theorem dL_law_515 : decode cL_law 515 = .ok (.aload_n 0, 1) := by decide +kernel
theorem dL_law_516 : decode cL_law 516 = .ok (.iload_n 3, 1) := by decide +kernel
theorem dL_law_517 : decode cL_law 517 = .ok (.iconst 3, 1) := by decide +kernel
theorem dL_law_518 : decode cL_law 518 = .ok (.iadd, 1) := by decide +kernel
theorem dL_law_519 : decode cL_law 519 = .ok (.iaload, 1) := by decide +kernel
theorem dL_law_520 : decode cL_law 520 = .ok (.invokevirtual 65, 3) := by decide +kernel
theorem dL_law_523 : decode cL_law 523 = .ok (.aload_n 2, 1) := by decide +kernel
theorem dL_law_524 : decode cL_law 524 = .ok (.aload_n 0, 1) := by decide +kernel
theorem dL_law_525 : decode cL_law 525 = .ok (.iload_n 3, 1) := by decide +kernel
theorem dL_law_526 : decode cL_law 526 = .ok (.iconst 1, 1) := by decide +kernel
theorem dL_law_527 : decode cL_law 527 = .ok (.iadd, 1) := by decide +kernel
theorem dL_law_528 : decode cL_law 528 = .ok (.iaload, 1) := by decide +kernel
theorem dL_law_529 : decode cL_law 529 = .ok (.aload_n 0, 1) := by decide +kernel
theorem dL_law_530 : decode cL_law 530 = .ok (.iload_n 3, 1) := by decide +kernel
theorem dL_law_531 : decode cL_law 531 = .ok (.iconst 2, 1) := by decide +kernel
theorem dL_law_532 : decode cL_law 532 = .ok (.iadd, 1) := by decide +kernel
theorem dL_law_533 : decode cL_law 533 = .ok (.iaload, 1) := by decide +kernel
theorem dL_law_534 : decode cL_law 534 = .ok (.aload_n 0, 1) := by decide +kernel
theorem dL_law_535 : decode cL_law 535 = .ok (.iload_n 3, 1) := by decide +kernel
theorem dL_law_536 : decode cL_law 536 = .ok (.iconst 3, 1) := by decide +kernel
theorem dL_law_537 : decode cL_law 537 = .ok (.iadd, 1) := by decide +kernel
theorem dL_law_538 : decode cL_law 538 = .ok (.iaload, 1) := by decide +kernel
theorem dL_law_539 : decode cL_law 539 = .ok (.invokevirtual 68, 3) := by decide +kernel
theorem dL_law_542 : decode cL_law 542 = .ok (.if_icmp .eq 502, 3) := by decide +kernel
theorem dL_law_545 : decode cL_law 545 = .ok (.iconst 0, 1) := by decide +kernel
theorem dL_law_546 : decode cL_law 546 = .ok (.ireturn, 1) := by decide +kernel
theorem dL_law_547 : decode cL_law 547 = .ok (.aload_n 1, 1) := by decide +kernel
theorem dL_law_548 : decode cL_law 548 = .ok (.aload_n 0, 1) := by decide +kernel
theorem dL_law_549 : decode cL_law 549 = .ok (.iload_n 3, 1) := by decide +kernel
theorem dL_law_550 : decode cL_law 550 = .ok (.iconst 1, 1) := by decide +kernel
theorem dL_law_551 : decode cL_law 551 = .ok (.iadd, 1) := by decide +kernel
theorem dL_law_552 : decode cL_law 552 = .ok (.iaload, 1) := by decide +kernel
theorem dL_law_553 : decode cL_law 553 = .ok (.aload_n 0, 1) := by decide +kernel
theorem dL_law_554 : decode cL_law 554 = .ok (.iload_n 3, 1) := by decide +kernel
theorem dL_law_555 : decode cL_law 555 = .ok (.iconst 2, 1) := by decide +kernel
theorem dL_law_556 : decode cL_law 556 = .ok (.iadd, 1) := by decide +kernel
theorem dL_law_557 : decode cL_law 557 = .ok (.iaload, 1) := by decide +kernel
theorem dL_law_558 : decode cL_law 558 = .ok (.invokevirtual 69, 3) := by decide +kernel
theorem dL_law_561 : decode cL_law 561 = .ok (.aload_n 2, 1) := by decide +kernel
theorem dL_law_562 : decode cL_law 562 = .ok (.aload_n 0, 1) := by decide +kernel
theorem dL_law_563 : decode cL_law 563 = .ok (.iload_n 3, 1) := by decide +kernel
theorem dL_law_564 : decode cL_law 564 = .ok (.iconst 1, 1) := by decide +kernel
theorem dL_law_565 : decode cL_law 565 = .ok (.iadd, 1) := by decide +kernel
theorem dL_law_566 : decode cL_law 566 = .ok (.iaload, 1) := by decide +kernel
theorem dL_law_567 : decode cL_law 567 = .ok (.aload_n 0, 1) := by decide +kernel
theorem dL_law_568 : decode cL_law 568 = .ok (.iload_n 3, 1) := by decide +kernel
theorem dL_law_569 : decode cL_law 569 = .ok (.iconst 2, 1) := by decide +kernel
theorem dL_law_570 : decode cL_law 570 = .ok (.iadd, 1) := by decide +kernel
theorem dL_law_571 : decode cL_law 571 = .ok (.iaload, 1) := by decide +kernel
theorem dL_law_572 : decode cL_law 572 = .ok (.invokevirtual 72, 3) := by decide +kernel
theorem dL_law_575 : decode cL_law 575 = .ok (.if_icmp .eq 469, 3) := by decide +kernel
theorem dL_law_578 : decode cL_law 578 = .ok (.iconst 0, 1) := by decide +kernel
theorem dL_law_579 : decode cL_law 579 = .ok (.ireturn, 1) := by decide +kernel
theorem dL_law_580 : decode cL_law 580 = .ok (.aload_n 1, 1) := by decide +kernel
theorem dL_law_581 : decode cL_law 581 = .ok (.aload_n 0, 1) := by decide +kernel
theorem dL_law_582 : decode cL_law 582 = .ok (.iload_n 3, 1) := by decide +kernel
theorem dL_law_583 : decode cL_law 583 = .ok (.iconst 1, 1) := by decide +kernel
theorem dL_law_584 : decode cL_law 584 = .ok (.iadd, 1) := by decide +kernel
theorem dL_law_585 : decode cL_law 585 = .ok (.iaload, 1) := by decide +kernel
theorem dL_law_586 : decode cL_law 586 = .ok (.aload_n 0, 1) := by decide +kernel
theorem dL_law_587 : decode cL_law 587 = .ok (.iload_n 3, 1) := by decide +kernel
theorem dL_law_588 : decode cL_law 588 = .ok (.iconst 2, 1) := by decide +kernel
theorem dL_law_589 : decode cL_law 589 = .ok (.iadd, 1) := by decide +kernel
theorem dL_law_590 : decode cL_law 590 = .ok (.iaload, 1) := by decide +kernel
theorem dL_law_591 : decode cL_law 591 = .ok (.aload_n 0, 1) := by decide +kernel
theorem dL_law_592 : decode cL_law 592 = .ok (.iload_n 3, 1) := by decide +kernel
theorem dL_law_593 : decode cL_law 593 = .ok (.iconst 3, 1) := by decide +kernel
theorem dL_law_594 : decode cL_law 594 = .ok (.iadd, 1) := by decide +kernel
theorem dL_law_595 : decode cL_law 595 = .ok (.iaload, 1) := by decide +kernel
theorem dL_law_596 : decode cL_law 596 = .ok (.invokevirtual 73, 3) := by decide +kernel
theorem dL_law_599 : decode cL_law 599 = .ok (.aload_n 2, 1) := by decide +kernel
theorem dL_law_600 : decode cL_law 600 = .ok (.aload_n 0, 1) := by decide +kernel
theorem dL_law_601 : decode cL_law 601 = .ok (.iload_n 3, 1) := by decide +kernel
theorem dL_law_602 : decode cL_law 602 = .ok (.iconst 1, 1) := by decide +kernel
theorem dL_law_603 : decode cL_law 603 = .ok (.iadd, 1) := by decide +kernel
theorem dL_law_604 : decode cL_law 604 = .ok (.iaload, 1) := by decide +kernel
theorem dL_law_605 : decode cL_law 605 = .ok (.aload_n 0, 1) := by decide +kernel
theorem dL_law_606 : decode cL_law 606 = .ok (.iload_n 3, 1) := by decide +kernel
theorem dL_law_607 : decode cL_law 607 = .ok (.iconst 2, 1) := by decide +kernel
theorem dL_law_608 : decode cL_law 608 = .ok (.iadd, 1) := by decide +kernel
theorem dL_law_609 : decode cL_law 609 = .ok (.iaload, 1) := by decide +kernel
theorem dL_law_610 : decode cL_law 610 = .ok (.aload_n 0, 1) := by decide +kernel
theorem dL_law_611 : decode cL_law 611 = .ok (.iload_n 3, 1) := by decide +kernel
theorem dL_law_612 : decode cL_law 612 = .ok (.iconst 3, 1) := by decide +kernel
theorem dL_law_613 : decode cL_law 613 = .ok (.iadd, 1) := by decide +kernel
theorem dL_law_614 : decode cL_law 614 = .ok (.iaload, 1) := by decide +kernel
theorem dL_law_615 : decode cL_law 615 = .ok (.invokevirtual 76, 3) := by decide +kernel
theorem dL_law_618 : decode cL_law 618 = .ok (.if_icmp .eq 426, 3) := by decide +kernel
theorem dL_law_621 : decode cL_law 621 = .ok (.iconst 0, 1) := by decide +kernel
theorem dL_law_622 : decode cL_law 622 = .ok (.ireturn, 1) := by decide +kernel
theorem dL_law_623 : decode cL_law 623 = .ok (.aload_n 1, 1) := by decide +kernel
theorem dL_law_624 : decode cL_law 624 = .ok (.aload_n 0, 1) := by decide +kernel
theorem dL_law_625 : decode cL_law 625 = .ok (.iload_n 3, 1) := by decide +kernel
theorem dL_law_626 : decode cL_law 626 = .ok (.iconst 1, 1) := by decide +kernel
theorem dL_law_627 : decode cL_law 627 = .ok (.iadd, 1) := by decide +kernel
theorem dL_law_628 : decode cL_law 628 = .ok (.iaload, 1) := by decide +kernel
theorem dL_law_629 : decode cL_law 629 = .ok (.aload_n 0, 1) := by decide +kernel
theorem dL_law_630 : decode cL_law 630 = .ok (.iload_n 3, 1) := by decide +kernel
theorem dL_law_631 : decode cL_law 631 = .ok (.iconst 2, 1) := by decide +kernel
theorem dL_law_632 : decode cL_law 632 = .ok (.iadd, 1) := by decide +kernel
theorem dL_law_633 : decode cL_law 633 = .ok (.iaload, 1) := by decide +kernel
theorem dL_law_634 : decode cL_law 634 = .ok (.invokevirtual 77, 3) := by decide +kernel
theorem dL_law_637 : decode cL_law 637 = .ok (.aload_n 2, 1) := by decide +kernel
theorem dL_law_638 : decode cL_law 638 = .ok (.aload_n 0, 1) := by decide +kernel
theorem dL_law_639 : decode cL_law 639 = .ok (.iload_n 3, 1) := by decide +kernel
theorem dL_law_640 : decode cL_law 640 = .ok (.iconst 1, 1) := by decide +kernel
theorem dL_law_641 : decode cL_law 641 = .ok (.iadd, 1) := by decide +kernel
theorem dL_law_642 : decode cL_law 642 = .ok (.iaload, 1) := by decide +kernel
theorem dL_law_643 : decode cL_law 643 = .ok (.aload_n 0, 1) := by decide +kernel
theorem dL_law_644 : decode cL_law 644 = .ok (.iload_n 3, 1) := by decide +kernel
theorem dL_law_645 : decode cL_law 645 = .ok (.iconst 2, 1) := by decide +kernel
theorem dL_law_646 : decode cL_law 646 = .ok (.iadd, 1) := by decide +kernel
theorem dL_law_647 : decode cL_law 647 = .ok (.iaload, 1) := by decide +kernel
theorem dL_law_648 : decode cL_law 648 = .ok (.invokevirtual 80, 3) := by decide +kernel
theorem dL_law_651 : decode cL_law 651 = .ok (.if_icmp .eq 393, 3) := by decide +kernel
theorem dL_law_654 : decode cL_law 654 = .ok (.iconst 0, 1) := by decide +kernel
theorem dL_law_655 : decode cL_law 655 = .ok (.ireturn, 1) := by decide +kernel
theorem dL_law_656 : decode cL_law 656 = .ok (.aload_n 1, 1) := by decide +kernel
theorem dL_law_657 : decode cL_law 657 = .ok (.aload_n 0, 1) := by decide +kernel
theorem dL_law_658 : decode cL_law 658 = .ok (.iload_n 3, 1) := by decide +kernel
theorem dL_law_659 : decode cL_law 659 = .ok (.iconst 1, 1) := by decide +kernel
theorem dL_law_660 : decode cL_law 660 = .ok (.iadd, 1) := by decide +kernel
theorem dL_law_661 : decode cL_law 661 = .ok (.iaload, 1) := by decide +kernel
theorem dL_law_662 : decode cL_law 662 = .ok (.invokevirtual 81, 3) := by decide +kernel
theorem dL_law_665 : decode cL_law 665 = .ok (.aload_n 2, 1) := by decide +kernel
theorem dL_law_666 : decode cL_law 666 = .ok (.aload_n 0, 1) := by decide +kernel
theorem dL_law_667 : decode cL_law 667 = .ok (.iload_n 3, 1) := by decide +kernel
theorem dL_law_668 : decode cL_law 668 = .ok (.iconst 1, 1) := by decide +kernel
theorem dL_law_669 : decode cL_law 669 = .ok (.iadd, 1) := by decide +kernel
theorem dL_law_670 : decode cL_law 670 = .ok (.iaload, 1) := by decide +kernel
theorem dL_law_671 : decode cL_law 671 = .ok (.invokevirtual 84, 3) := by decide +kernel
theorem dL_law_674 : decode cL_law 674 = .ok (.if_icmp .eq 370, 3) := by decide +kernel
theorem dL_law_677 : decode cL_law 677 = .ok (.iconst 0, 1) := by decide +kernel
theorem dL_law_678 : decode cL_law 678 = .ok (.ireturn, 1) := by decide +kernel
theorem dL_law_679 : decode cL_law 679 = .ok (.aload_n 1, 1) := by decide +kernel
theorem dL_law_680 : decode cL_law 680 = .ok (.aload_n 0, 1) := by decide +kernel
theorem dL_law_681 : decode cL_law 681 = .ok (.iload_n 3, 1) := by decide +kernel
theorem dL_law_682 : decode cL_law 682 = .ok (.iconst 1, 1) := by decide +kernel
theorem dL_law_683 : decode cL_law 683 = .ok (.iadd, 1) := by decide +kernel
theorem dL_law_684 : decode cL_law 684 = .ok (.iaload, 1) := by decide +kernel
theorem dL_law_685 : decode cL_law 685 = .ok (.aload_n 0, 1) := by decide +kernel
theorem dL_law_686 : decode cL_law 686 = .ok (.iload_n 3, 1) := by decide +kernel
theorem dL_law_687 : decode cL_law 687 = .ok (.iconst 2, 1) := by decide +kernel
theorem dL_law_688 : decode cL_law 688 = .ok (.iadd, 1) := by decide +kernel
theorem dL_law_689 : decode cL_law 689 = .ok (.iaload, 1) := by decide +kernel
theorem dL_law_690 : decode cL_law 690 = .ok (.ifCond .eq 7, 3) := by decide +kernel
theorem dL_law_693 : decode cL_law 693 = .ok (.iconst 1, 1) := by decide +kernel
theorem dL_law_694 : decode cL_law 694 = .ok (.goto 4, 3) := by decide +kernel
theorem dL_law_697 : decode cL_law 697 = .ok (.iconst 0, 1) := by decide +kernel
theorem dL_law_698 : decode cL_law 698 = .ok (.aload_n 0, 1) := by decide +kernel
theorem dL_law_699 : decode cL_law 699 = .ok (.iload_n 3, 1) := by decide +kernel
theorem dL_law_700 : decode cL_law 700 = .ok (.iconst 3, 1) := by decide +kernel
theorem dL_law_701 : decode cL_law 701 = .ok (.iadd, 1) := by decide +kernel
theorem dL_law_702 : decode cL_law 702 = .ok (.iaload, 1) := by decide +kernel
theorem dL_law_703 : decode cL_law 703 = .ok (.invokevirtual 85, 3) := by decide +kernel
theorem dL_law_706 : decode cL_law 706 = .ok (.aload_n 2, 1) := by decide +kernel
theorem dL_law_707 : decode cL_law 707 = .ok (.aload_n 0, 1) := by decide +kernel
theorem dL_law_708 : decode cL_law 708 = .ok (.iload_n 3, 1) := by decide +kernel
theorem dL_law_709 : decode cL_law 709 = .ok (.iconst 1, 1) := by decide +kernel
theorem dL_law_710 : decode cL_law 710 = .ok (.iadd, 1) := by decide +kernel
theorem dL_law_711 : decode cL_law 711 = .ok (.iaload, 1) := by decide +kernel
theorem dL_law_712 : decode cL_law 712 = .ok (.aload_n 0, 1) := by decide +kernel
theorem dL_law_713 : decode cL_law 713 = .ok (.iload_n 3, 1) := by decide +kernel
theorem dL_law_714 : decode cL_law 714 = .ok (.iconst 2, 1) := by decide +kernel
theorem dL_law_715 : decode cL_law 715 = .ok (.iadd, 1) := by decide +kernel
theorem dL_law_716 : decode cL_law 716 = .ok (.iaload, 1) := by decide +kernel
theorem dL_law_717 : decode cL_law 717 = .ok (.ifCond .eq 7, 3) := by decide +kernel
theorem dL_law_720 : decode cL_law 720 = .ok (.iconst 1, 1) := by decide +kernel
theorem dL_law_721 : decode cL_law 721 = .ok (.goto 4, 3) := by decide +kernel
theorem dL_law_724 : decode cL_law 724 = .ok (.iconst 0, 1) := by decide +kernel
theorem dL_law_725 : decode cL_law 725 = .ok (.aload_n 0, 1) := by decide +kernel
theorem dL_law_726 : decode cL_law 726 = .ok (.iload_n 3, 1) := by decide +kernel
theorem dL_law_727 : decode cL_law 727 = .ok (.iconst 3, 1) := by decide +kernel
theorem dL_law_728 : decode cL_law 728 = .ok (.iadd, 1) := by decide +kernel
theorem dL_law_729 : decode cL_law 729 = .ok (.iaload, 1) := by decide +kernel
theorem dL_law_730 : decode cL_law 730 = .ok (.invokevirtual 89, 3) := by decide +kernel
theorem dL_law_733 : decode cL_law 733 = .ok (.if_icmp .eq 311, 3) := by decide +kernel
theorem dL_law_736 : decode cL_law 736 = .ok (.iconst 0, 1) := by decide +kernel
theorem dL_law_737 : decode cL_law 737 = .ok (.ireturn, 1) := by decide +kernel
theorem dL_law_738 : decode cL_law 738 = .ok (.aload_n 1, 1) := by decide +kernel
theorem dL_law_739 : decode cL_law 739 = .ok (.aload_n 0, 1) := by decide +kernel
theorem dL_law_740 : decode cL_law 740 = .ok (.iload_n 3, 1) := by decide +kernel
theorem dL_law_741 : decode cL_law 741 = .ok (.iconst 1, 1) := by decide +kernel
theorem dL_law_742 : decode cL_law 742 = .ok (.iadd, 1) := by decide +kernel
theorem dL_law_743 : decode cL_law 743 = .ok (.iaload, 1) := by decide +kernel
theorem dL_law_744 : decode cL_law 744 = .ok (.aload_n 0, 1) := by decide +kernel
theorem dL_law_745 : decode cL_law 745 = .ok (.iload_n 3, 1) := by decide +kernel
theorem dL_law_746 : decode cL_law 746 = .ok (.iconst 2, 1) := by decide +kernel
theorem dL_law_747 : decode cL_law 747 = .ok (.iadd, 1) := by decide +kernel
theorem dL_law_748 : decode cL_law 748 = .ok (.iaload, 1) := by decide +kernel
theorem dL_law_749 : decode cL_law 749 = .ok (.invokevirtual 90, 3) := by decide +kernel
theorem dL_law_752 : decode cL_law 752 = .ok (.aload_n 2, 1) := by decide +kernel
theorem dL_law_753 : decode cL_law 753 = .ok (.aload_n 0, 1) := by decide +kernel
theorem dL_law_754 : decode cL_law 754 = .ok (.iload_n 3, 1) := by decide +kernel
theorem dL_law_755 : decode cL_law 755 = .ok (.iconst 1, 1) := by decide +kernel
theorem dL_law_756 : decode cL_law 756 = .ok (.iadd, 1) := by decide +kernel
theorem dL_law_757 : decode cL_law 757 = .ok (.iaload, 1) := by decide +kernel
theorem dL_law_758 : decode cL_law 758 = .ok (.aload_n 0, 1) := by decide +kernel
theorem dL_law_759 : decode cL_law 759 = .ok (.iload_n 3, 1) := by decide +kernel
theorem dL_law_760 : decode cL_law 760 = .ok (.iconst 2, 1) := by decide +kernel
theorem dL_law_761 : decode cL_law 761 = .ok (.iadd, 1) := by decide +kernel
theorem dL_law_762 : decode cL_law 762 = .ok (.iaload, 1) := by decide +kernel
theorem dL_law_763 : decode cL_law 763 = .ok (.invokevirtual 93, 3) := by decide +kernel
theorem dL_law_766 : decode cL_law 766 = .ok (.if_icmp .eq 278, 3) := by decide +kernel
theorem dL_law_769 : decode cL_law 769 = .ok (.iconst 0, 1) := by decide +kernel
theorem dL_law_770 : decode cL_law 770 = .ok (.ireturn, 1) := by decide +kernel
theorem dL_law_771 : decode cL_law 771 = .ok (.aload_n 1, 1) := by decide +kernel
theorem dL_law_772 : decode cL_law 772 = .ok (.aload_n 0, 1) := by decide +kernel
theorem dL_law_773 : decode cL_law 773 = .ok (.iload_n 3, 1) := by decide +kernel
theorem dL_law_774 : decode cL_law 774 = .ok (.iconst 1, 1) := by decide +kernel
theorem dL_law_775 : decode cL_law 775 = .ok (.iadd, 1) := by decide +kernel
theorem dL_law_776 : decode cL_law 776 = .ok (.iaload, 1) := by decide +kernel
theorem dL_law_777 : decode cL_law 777 = .ok (.invokevirtual 94, 3) := by decide +kernel
theorem dL_law_780 : decode cL_law 780 = .ok (.aload_n 2, 1) := by decide +kernel
theorem dL_law_781 : decode cL_law 781 = .ok (.aload_n 0, 1) := by decide +kernel
theorem dL_law_782 : decode cL_law 782 = .ok (.iload_n 3, 1) := by decide +kernel
theorem dL_law_783 : decode cL_law 783 = .ok (.iconst 1, 1) := by decide +kernel
theorem dL_law_784 : decode cL_law 784 = .ok (.iadd, 1) := by decide +kernel
theorem dL_law_785 : decode cL_law 785 = .ok (.iaload, 1) := by decide +kernel
theorem dL_law_786 : decode cL_law 786 = .ok (.invokevirtual 97, 3) := by decide +kernel
theorem dL_law_789 : decode cL_law 789 = .ok (.if_icmp .eq 255, 3) := by decide +kernel
theorem dL_law_792 : decode cL_law 792 = .ok (.iconst 0, 1) := by decide +kernel
theorem dL_law_793 : decode cL_law 793 = .ok (.ireturn, 1) := by decide +kernel
theorem dL_law_794 : decode cL_law 794 = .ok (.aload_n 1, 1) := by decide +kernel
theorem dL_law_795 : decode cL_law 795 = .ok (.aload_n 0, 1) := by decide +kernel
theorem dL_law_796 : decode cL_law 796 = .ok (.iload_n 3, 1) := by decide +kernel
theorem dL_law_797 : decode cL_law 797 = .ok (.iconst 1, 1) := by decide +kernel
theorem dL_law_798 : decode cL_law 798 = .ok (.iadd, 1) := by decide +kernel
theorem dL_law_799 : decode cL_law 799 = .ok (.iaload, 1) := by decide +kernel
theorem dL_law_800 : decode cL_law 800 = .ok (.invokevirtual 98, 3) := by decide +kernel
theorem dL_law_803 : decode cL_law 803 = .ok (.aload_n 2, 1) := by decide +kernel
theorem dL_law_804 : decode cL_law 804 = .ok (.aload_n 0, 1) := by decide +kernel
theorem dL_law_805 : decode cL_law 805 = .ok (.iload_n 3, 1) := by decide +kernel
theorem dL_law_806 : decode cL_law 806 = .ok (.iconst 1, 1) := by decide +kernel
theorem dL_law_807 : decode cL_law 807 = .ok (.iadd, 1) := by decide +kernel
theorem dL_law_808 : decode cL_law 808 = .ok (.iaload, 1) := by decide +kernel
theorem dL_law_809 : decode cL_law 809 = .ok (.invokevirtual 101, 3) := by decide +kernel
theorem dL_law_812 : decode cL_law 812 = .ok (.if_icmp .eq 232, 3) := by decide +kernel
theorem dL_law_815 : decode cL_law 815 = .ok (.iconst 0, 1) := by decide +kernel
theorem dL_law_816 : decode cL_law 816 = .ok (.ireturn, 1) := by decide +kernel
theorem dL_law_817 : decode cL_law 817 = .ok (.aload_n 1, 1) := by decide +kernel
theorem dL_law_818 : decode cL_law 818 = .ok (.invokevirtual 102, 3) := by decide +kernel
theorem dL_law_821 : decode cL_law 821 = .ok (.aload_n 2, 1) := by decide +kernel
theorem dL_law_822 : decode cL_law 822 = .ok (.invokevirtual 105, 3) := by decide +kernel
theorem dL_law_825 : decode cL_law 825 = .ok (.if_icmp .eq 219, 3) := by decide +kernel
theorem dL_law_828 : decode cL_law 828 = .ok (.iconst 0, 1) := by decide +kernel
theorem dL_law_829 : decode cL_law 829 = .ok (.ireturn, 1) := by decide +kernel
theorem dL_law_830 : decode cL_law 830 = .ok (.aload_n 1, 1) := by decide +kernel
theorem dL_law_831 : decode cL_law 831 = .ok (.aload_n 0, 1) := by decide +kernel
theorem dL_law_832 : decode cL_law 832 = .ok (.iload_n 3, 1) := by decide +kernel
theorem dL_law_833 : decode cL_law 833 = .ok (.iconst 1, 1) := by decide +kernel
theorem dL_law_834 : decode cL_law 834 = .ok (.iadd, 1) := by decide +kernel
theorem dL_law_835 : decode cL_law 835 = .ok (.iaload, 1) := by decide +kernel
theorem dL_law_836 : decode cL_law 836 = .ok (.aload_n 0, 1) := by decide +kernel
theorem dL_law_837 : decode cL_law 837 = .ok (.iload_n 3, 1) := by decide +kernel
theorem dL_law_838 : decode cL_law 838 = .ok (.iconst 2, 1) := by decide +kernel
theorem dL_law_839 : decode cL_law 839 = .ok (.iadd, 1) := by decide +kernel
theorem dL_law_840 : decode cL_law 840 = .ok (.iaload, 1) := by decide +kernel
theorem dL_law_841 : decode cL_law 841 = .ok (.invokevirtual 106, 3) := by decide +kernel
theorem dL_law_844 : decode cL_law 844 = .ok (.aload_n 2, 1) := by decide +kernel
theorem dL_law_845 : decode cL_law 845 = .ok (.aload_n 0, 1) := by decide +kernel
theorem dL_law_846 : decode cL_law 846 = .ok (.iload_n 3, 1) := by decide +kernel
theorem dL_law_847 : decode cL_law 847 = .ok (.iconst 1, 1) := by decide +kernel
theorem dL_law_848 : decode cL_law 848 = .ok (.iadd, 1) := by decide +kernel
theorem dL_law_849 : decode cL_law 849 = .ok (.iaload, 1) := by decide +kernel
theorem dL_law_850 : decode cL_law 850 = .ok (.aload_n 0, 1) := by decide +kernel
theorem dL_law_851 : decode cL_law 851 = .ok (.iload_n 3, 1) := by decide +kernel
theorem dL_law_852 : decode cL_law 852 = .ok (.iconst 2, 1) := by decide +kernel
theorem dL_law_853 : decode cL_law 853 = .ok (.iadd, 1) := by decide +kernel
theorem dL_law_854 : decode cL_law 854 = .ok (.iaload, 1) := by decide +kernel
theorem dL_law_855 : decode cL_law 855 = .ok (.invokevirtual 109, 3) := by decide +kernel
theorem dL_law_858 : decode cL_law 858 = .ok (.if_icmp .eq 186, 3) := by decide +kernel
theorem dL_law_861 : decode cL_law 861 = .ok (.iconst 0, 1) := by decide +kernel
theorem dL_law_862 : decode cL_law 862 = .ok (.ireturn, 1) := by decide +kernel
theorem dL_law_863 : decode cL_law 863 = .ok (.aload_n 1, 1) := by decide +kernel
theorem dL_law_864 : decode cL_law 864 = .ok (.aload_n 0, 1) := by decide +kernel
theorem dL_law_865 : decode cL_law 865 = .ok (.iload_n 3, 1) := by decide +kernel
theorem dL_law_866 : decode cL_law 866 = .ok (.iconst 1, 1) := by decide +kernel
theorem dL_law_867 : decode cL_law 867 = .ok (.iadd, 1) := by decide +kernel
theorem dL_law_868 : decode cL_law 868 = .ok (.iaload, 1) := by decide +kernel
theorem dL_law_869 : decode cL_law 869 = .ok (.aload_n 0, 1) := by decide +kernel
theorem dL_law_870 : decode cL_law 870 = .ok (.iload_n 3, 1) := by decide +kernel
theorem dL_law_871 : decode cL_law 871 = .ok (.iconst 2, 1) := by decide +kernel
theorem dL_law_872 : decode cL_law 872 = .ok (.iadd, 1) := by decide +kernel
theorem dL_law_873 : decode cL_law 873 = .ok (.iaload, 1) := by decide +kernel
theorem dL_law_874 : decode cL_law 874 = .ok (.invokevirtual 110, 3) := by decide +kernel
theorem dL_law_877 : decode cL_law 877 = .ok (.aload_n 2, 1) := by decide +kernel
theorem dL_law_878 : decode cL_law 878 = .ok (.aload_n 0, 1) := by decide +kernel
theorem dL_law_879 : decode cL_law 879 = .ok (.iload_n 3, 1) := by decide +kernel
theorem dL_law_880 : decode cL_law 880 = .ok (.iconst 1, 1) := by decide +kernel
theorem dL_law_881 : decode cL_law 881 = .ok (.iadd, 1) := by decide +kernel
theorem dL_law_882 : decode cL_law 882 = .ok (.iaload, 1) := by decide +kernel
theorem dL_law_883 : decode cL_law 883 = .ok (.aload_n 0, 1) := by decide +kernel
theorem dL_law_884 : decode cL_law 884 = .ok (.iload_n 3, 1) := by decide +kernel
theorem dL_law_885 : decode cL_law 885 = .ok (.iconst 2, 1) := by decide +kernel
theorem dL_law_886 : decode cL_law 886 = .ok (.iadd, 1) := by decide +kernel
theorem dL_law_887 : decode cL_law 887 = .ok (.iaload, 1) := by decide +kernel
theorem dL_law_888 : decode cL_law 888 = .ok (.invokevirtual 113, 3) := by decide +kernel
theorem dL_law_891 : decode cL_law 891 = .ok (.if_icmp .eq 153, 3) := by decide +kernel
theorem dL_law_894 : decode cL_law 894 = .ok (.iconst 0, 1) := by decide +kernel
theorem dL_law_895 : decode cL_law 895 = .ok (.ireturn, 1) := by decide +kernel
theorem dL_law_896 : decode cL_law 896 = .ok (.aload_n 1, 1) := by decide +kernel
theorem dL_law_897 : decode cL_law 897 = .ok (.aload_n 0, 1) := by decide +kernel
theorem dL_law_898 : decode cL_law 898 = .ok (.iload_n 3, 1) := by decide +kernel
theorem dL_law_899 : decode cL_law 899 = .ok (.iconst 1, 1) := by decide +kernel
theorem dL_law_900 : decode cL_law 900 = .ok (.iadd, 1) := by decide +kernel
theorem dL_law_901 : decode cL_law 901 = .ok (.iaload, 1) := by decide +kernel
theorem dL_law_902 : decode cL_law 902 = .ok (.invokevirtual 114, 3) := by decide +kernel
theorem dL_law_905 : decode cL_law 905 = .ok (.aload_n 2, 1) := by decide +kernel
theorem dL_law_906 : decode cL_law 906 = .ok (.aload_n 0, 1) := by decide +kernel
theorem dL_law_907 : decode cL_law 907 = .ok (.iload_n 3, 1) := by decide +kernel
theorem dL_law_908 : decode cL_law 908 = .ok (.iconst 1, 1) := by decide +kernel
theorem dL_law_909 : decode cL_law 909 = .ok (.iadd, 1) := by decide +kernel
theorem dL_law_910 : decode cL_law 910 = .ok (.iaload, 1) := by decide +kernel
theorem dL_law_911 : decode cL_law 911 = .ok (.invokevirtual 117, 3) := by decide +kernel
theorem dL_law_914 : decode cL_law 914 = .ok (.if_icmp .eq 130, 3) := by decide +kernel
theorem dL_law_917 : decode cL_law 917 = .ok (.iconst 0, 1) := by decide +kernel
theorem dL_law_918 : decode cL_law 918 = .ok (.ireturn, 1) := by decide +kernel
theorem dL_law_919 : decode cL_law 919 = .ok (.aload_n 1, 1) := by decide +kernel
theorem dL_law_920 : decode cL_law 920 = .ok (.aload_n 0, 1) := by decide +kernel
theorem dL_law_921 : decode cL_law 921 = .ok (.iload_n 3, 1) := by decide +kernel
theorem dL_law_922 : decode cL_law 922 = .ok (.iconst 1, 1) := by decide +kernel
theorem dL_law_923 : decode cL_law 923 = .ok (.iadd, 1) := by decide +kernel
theorem dL_law_924 : decode cL_law 924 = .ok (.iaload, 1) := by decide +kernel
theorem dL_law_925 : decode cL_law 925 = .ok (.invokevirtual 118, 3) := by decide +kernel
theorem dL_law_928 : decode cL_law 928 = .ok (.aload_n 2, 1) := by decide +kernel
theorem dL_law_929 : decode cL_law 929 = .ok (.aload_n 0, 1) := by decide +kernel
theorem dL_law_930 : decode cL_law 930 = .ok (.iload_n 3, 1) := by decide +kernel
theorem dL_law_931 : decode cL_law 931 = .ok (.iconst 1, 1) := by decide +kernel
theorem dL_law_932 : decode cL_law 932 = .ok (.iadd, 1) := by decide +kernel
theorem dL_law_933 : decode cL_law 933 = .ok (.iaload, 1) := by decide +kernel
theorem dL_law_934 : decode cL_law 934 = .ok (.invokevirtual 121, 3) := by decide +kernel
theorem dL_law_937 : decode cL_law 937 = .ok (.if_icmp .eq 107, 3) := by decide +kernel
theorem dL_law_940 : decode cL_law 940 = .ok (.iconst 0, 1) := by decide +kernel
theorem dL_law_941 : decode cL_law 941 = .ok (.ireturn, 1) := by decide +kernel
theorem dL_law_942 : decode cL_law 942 = .ok (.aload_n 1, 1) := by decide +kernel
theorem dL_law_943 : decode cL_law 943 = .ok (.aload_n 0, 1) := by decide +kernel
theorem dL_law_944 : decode cL_law 944 = .ok (.iload_n 3, 1) := by decide +kernel
theorem dL_law_945 : decode cL_law 945 = .ok (.iconst 1, 1) := by decide +kernel
theorem dL_law_946 : decode cL_law 946 = .ok (.iadd, 1) := by decide +kernel
theorem dL_law_947 : decode cL_law 947 = .ok (.iaload, 1) := by decide +kernel
theorem dL_law_948 : decode cL_law 948 = .ok (.aload_n 0, 1) := by decide +kernel
theorem dL_law_949 : decode cL_law 949 = .ok (.iload_n 3, 1) := by decide +kernel
theorem dL_law_950 : decode cL_law 950 = .ok (.iconst 2, 1) := by decide +kernel
theorem dL_law_951 : decode cL_law 951 = .ok (.iadd, 1) := by decide +kernel
theorem dL_law_952 : decode cL_law 952 = .ok (.iaload, 1) := by decide +kernel
theorem dL_law_953 : decode cL_law 953 = .ok (.invokevirtual 122, 3) := by decide +kernel
theorem dL_law_956 : decode cL_law 956 = .ok (.aload_n 2, 1) := by decide +kernel
theorem dL_law_957 : decode cL_law 957 = .ok (.aload_n 0, 1) := by decide +kernel
theorem dL_law_958 : decode cL_law 958 = .ok (.iload_n 3, 1) := by decide +kernel
theorem dL_law_959 : decode cL_law 959 = .ok (.iconst 1, 1) := by decide +kernel
theorem dL_law_960 : decode cL_law 960 = .ok (.iadd, 1) := by decide +kernel
theorem dL_law_961 : decode cL_law 961 = .ok (.iaload, 1) := by decide +kernel
theorem dL_law_962 : decode cL_law 962 = .ok (.aload_n 0, 1) := by decide +kernel
theorem dL_law_963 : decode cL_law 963 = .ok (.iload_n 3, 1) := by decide +kernel
theorem dL_law_964 : decode cL_law 964 = .ok (.iconst 2, 1) := by decide +kernel
theorem dL_law_965 : decode cL_law 965 = .ok (.iadd, 1) := by decide +kernel
theorem dL_law_966 : decode cL_law 966 = .ok (.iaload, 1) := by decide +kernel
theorem dL_law_967 : decode cL_law 967 = .ok (.invokevirtual 125, 3) := by decide +kernel
theorem dL_law_970 : decode cL_law 970 = .ok (.if_icmp .eq 74, 3) := by decide +kernel
theorem dL_law_973 : decode cL_law 973 = .ok (.iconst 0, 1) := by decide +kernel
theorem dL_law_974 : decode cL_law 974 = .ok (.ireturn, 1) := by decide +kernel
theorem dL_law_975 : decode cL_law 975 = .ok (.aload_n 1, 1) := by decide +kernel
theorem dL_law_976 : decode cL_law 976 = .ok (.aload_n 0, 1) := by decide +kernel
theorem dL_law_977 : decode cL_law 977 = .ok (.iload_n 3, 1) := by decide +kernel
theorem dL_law_978 : decode cL_law 978 = .ok (.iconst 1, 1) := by decide +kernel
theorem dL_law_979 : decode cL_law 979 = .ok (.iadd, 1) := by decide +kernel
theorem dL_law_980 : decode cL_law 980 = .ok (.iaload, 1) := by decide +kernel
theorem dL_law_981 : decode cL_law 981 = .ok (.invokevirtual 126, 3) := by decide +kernel
theorem dL_law_984 : decode cL_law 984 = .ok (.aload_n 2, 1) := by decide +kernel
theorem dL_law_985 : decode cL_law 985 = .ok (.aload_n 0, 1) := by decide +kernel
theorem dL_law_986 : decode cL_law 986 = .ok (.iload_n 3, 1) := by decide +kernel
theorem dL_law_987 : decode cL_law 987 = .ok (.iconst 1, 1) := by decide +kernel
theorem dL_law_988 : decode cL_law 988 = .ok (.iadd, 1) := by decide +kernel
theorem dL_law_989 : decode cL_law 989 = .ok (.iaload, 1) := by decide +kernel
theorem dL_law_990 : decode cL_law 990 = .ok (.invokevirtual 129, 3) := by decide +kernel
theorem dL_law_993 : decode cL_law 993 = .ok (.if_icmp .eq 51, 3) := by decide +kernel
theorem dL_law_996 : decode cL_law 996 = .ok (.iconst 0, 1) := by decide +kernel
theorem dL_law_997 : decode cL_law 997 = .ok (.ireturn, 1) := by decide +kernel
theorem dL_law_998 : decode cL_law 998 = .ok (.aload_n 1, 1) := by decide +kernel
theorem dL_law_999 : decode cL_law 999 = .ok (.aload_n 0, 1) := by decide +kernel
theorem dL_law_1000 : decode cL_law 1000 = .ok (.iload_n 3, 1) := by decide +kernel
theorem dL_law_1001 : decode cL_law 1001 = .ok (.iconst 1, 1) := by decide +kernel
theorem dL_law_1002 : decode cL_law 1002 = .ok (.iadd, 1) := by decide +kernel
theorem dL_law_1003 : decode cL_law 1003 = .ok (.iaload, 1) := by decide +kernel
theorem dL_law_1004 : decode cL_law 1004 = .ok (.invokevirtual 130, 3) := by decide +kernel
theorem dL_law_1007 : decode cL_law 1007 = .ok (.aload_n 2, 1) := by decide +kernel
theorem dL_law_1008 : decode cL_law 1008 = .ok (.aload_n 0, 1) := by decide +kernel
theorem dL_law_1009 : decode cL_law 1009 = .ok (.iload_n 3, 1) := by decide +kernel
theorem dL_law_1010 : decode cL_law 1010 = .ok (.iconst 1, 1) := by decide +kernel
theorem dL_law_1011 : decode cL_law 1011 = .ok (.iadd, 1) := by decide +kernel
theorem dL_law_1012 : decode cL_law 1012 = .ok (.iaload, 1) := by decide +kernel
theorem dL_law_1013 : decode cL_law 1013 = .ok (.invokevirtual 133, 3) := by decide +kernel
theorem dL_law_1016 : decode cL_law 1016 = .ok (.if_icmp .eq 28, 3) := by decide +kernel
theorem dL_law_1019 : decode cL_law 1019 = .ok (.iconst 0, 1) := by decide +kernel
theorem dL_law_1020 : decode cL_law 1020 = .ok (.ireturn, 1) := by decide +kernel
theorem dL_law_1021 : decode cL_law 1021 = .ok (.aload_n 1, 1) := by decide +kernel
theorem dL_law_1022 : decode cL_law 1022 = .ok (.aload_n 0, 1) := by decide +kernel
theorem dL_law_1023 : decode cL_law 1023 = .ok (.iload_n 3, 1) := by decide +kernel
theorem dL_law_1024 : decode cL_law 1024 = .ok (.iconst 1, 1) := by decide +kernel
theorem dL_law_1025 : decode cL_law 1025 = .ok (.iadd, 1) := by decide +kernel
theorem dL_law_1026 : decode cL_law 1026 = .ok (.iaload, 1) := by decide +kernel
theorem dL_law_1027 : decode cL_law 1027 = .ok (.invokevirtual 134, 3) := by decide +kernel
theorem dL_law_1030 : decode cL_law 1030 = .ok (.aload_n 2, 1) := by decide +kernel
theorem dL_law_1031 : decode cL_law 1031 = .ok (.aload_n 0, 1) := by decide +kernel
theorem dL_law_1032 : decode cL_law 1032 = .ok (.iload_n 3, 1) := by decide +kernel
theorem dL_law_1033 : decode cL_law 1033 = .ok (.iconst 1, 1) := by decide +kernel
theorem dL_law_1034 : decode cL_law 1034 = .ok (.iadd, 1) := by decide +kernel
theorem dL_law_1035 : decode cL_law 1035 = .ok (.iaload, 1) := by decide +kernel
theorem dL_law_1036 : decode cL_law 1036 = .ok (.invokevirtual 137, 3) := by decide +kernel
theorem dL_law_1039 : decode cL_law 1039 = .ok (.if_icmp .eq 5, 3) := by decide +kernel
theorem dL_law_1042 : decode cL_law 1042 = .ok (.iconst 0, 1) := by decide +kernel
theorem dL_law_1043 : decode cL_law 1043 = .ok (.ireturn, 1) := by decide +kernel
theorem dL_law_1044 : decode cL_law 1044 = .ok (.iinc 3 4, 3) := by decide +kernel
theorem dL_law_1047 : decode cL_law 1047 = .ok (.goto (-1029), 3) := by decide +kernel
theorem dL_law_1050 : decode cL_law 1050 = .ok (.iconst 1, 1) := by decide +kernel
theorem dL_law_1051 : decode cL_law 1051 = .ok (.ireturn, 1) := by decide +kernel
end
section
/-! ===== our own kit: one list of words for all methods, one bundle of a walk's facts, one world a hypothesis ===== -/
abbrev St : Type := Nat → Nat → Int32
def gT : List Cond := lw_tbl.filter goodWord
theorem gT_of {w : Cond} (h : w ∈ lw_tbl) (hg : goodWord w = true) : w ∈ gT := List.mem_filter.mpr ⟨h, hg⟩
theorem gT_tb {w : Cond} (i : Nat) (h : lw_tbl[i]? = some w) (hg : goodWord w = true) : w ∈ gT := gT_of (List.mem_of_getElem? h) hg
theorem gT_good {big : List Cond} (h : ∀ w ∈ gT, w ∈ big) : GoodIn big gT := fun w hw => ⟨h w hw, good_of_word (List.mem_filter.mp hw).2⟩
abbrev classes : List vw_C := [(RX0, TX0, 4), (RX1, TX1, 12), (RX2, TX2, 3), (RX3, TX3, 2), (RX4, TX4, 7), (RX5, TX5, 11), (RX6, TX6, 7), (RX7, TX7, 30)]
def tyL (k : Nat → ClassId) : List (ClassId × FieldType) := [(k 0, .int), (k 1, .boolean), (k 2, .array .int), (k 3, .object RX1)]
/-- the links across the nest: own class, pool entry, method -/
def nW : List (String × Nat × MethodName) := [(RX6, 22, yX3_init), (RX3, 23, yX6_within), (RX1, 57, yX6_strokeOf), (RX1, 65, yX6_hasBit), (RX0, 41, yX6_within), (RX4, 31, yX6_within), (RX4, 50, yX6_hasBit)]
def xAOA (U : State) : Prop := (Cond.arrayOver (.array .int)).before #[] U = true
theorem xAOA.moved {u U : State} (hvm : u.vm.Alike U.vm) (h : xAOA u) : xAOA U := by
  have e : ∀ V : State, (Cond.arrayOver (.array .int)).before #[] V = ((((V.vm.findClass (FieldType.array .int).toString).bind (fun comp => V.vm.classes.findIdx? fun (x : Class) => match x.kind with | .array component _ => component == comp | _ => false)).bind (fun c => (V.vm.classes[c]?).map fun (k : Class) => match k.kind with | .array _ ty => decide (ty = FieldType.array .int) && decide (V.vm.findClass ("[" ++ (FieldType.array .int).toString) = some c) | _ => false)) == some true) := by
    intro V
    unfold Cond.before Cond.holds
    simp only [Cond.value]
    cases V.vm.findClass (FieldType.array .int).toString <;> rfl
  unfold xAOA at h ⊢
  rw [e] at h ⊢
  cases hc : u.vm.findClass (FieldType.array .int).toString with
  | none => rw [hc] at h; simp at h
  | some comp =>
    have f1 : U.vm.findClass (FieldType.array .int).toString = some comp := by rw [hvm.findClass]; exact hc
    rw [hc] at h
    rw [f1]
    simp only [Option.bind_some] at h ⊢
    have hi : (U.vm.classes.findIdx? fun (x : Class) => match x.kind with | .array component _ => component == comp | _ => false) = (u.vm.classes.findIdx? fun (x : Class) => match x.kind with | .array component _ => component == comp | _ => false) := by
      refine ((va_idx_bare U.vm comp).symm.trans ?_).trans (va_idx_bare u.vm comp)
      first | rw [hvm.bare_eq] | rw [← hvm.bare_eq]
    rw [hi]
    cases hx : (u.vm.classes.findIdx? fun (x : Class) => match x.kind with | .array component _ => component == comp | _ => false) with
    | none => rw [hx] at h; simp at h
    | some c =>
      rw [hx] at h
      simp only [Option.bind_some] at h ⊢
      cases hk : u.vm.classes[c]? with
      | none => rw [hk] at h; simp at h
      | some kA =>
        obtain ⟨k', hk', he⟩ := hvm.2.2 _ _ hk
        rw [hk] at h
        rw [hk']
        have hkk : k'.kind = kA.kind := by rw [he]
        simp only [Option.map_some] at h ⊢
        rw [hkk, hvm.findClass]
        exact h
def Cx (D : va_G) (k : Nat → ClassId) (U : State) : Prop := va_K D classes (tyL k) U ∧ (∀ q ∈ nW, va_Nw (.methodLinkNest q.1 q.2.1 q.2.2 "CopiedSkins") U) ∧ va_AO RX1 U ∧ xAOA U
theorem Cx.warm {D : va_G} {k : Nat → ClassId} {s U : State} (hW : s.WarmedH U.vm) (h : Cx D k s) : Cx D k U := ⟨va_K.moved hW.alike h.1, fun q hq => va_Nw.warmM hW (h.2.1 q hq), va_AO.moved hW.alike h.2.2.1, xAOA.moved hW.alike h.2.2.2⟩
theorem Cx.same {D : va_G} {k : Nat → ClassId} {u U : State} (hv : u.vm = U.vm) (h : Cx D k u) : Cx D k U := by
  have ha : u.vm.Alike U.vm := by rw [← hv]; exact Vm.Alike.refl _
  exact ⟨va_K.moved ha h.1, fun q hq => va_Nw.same rfl hv (h.2.1 q hq), va_AO.moved ha h.2.2.1, xAOA.moved ha h.2.2.2⟩
def wsOf (y : MethodName) (cy : ByteArray) (n : Nat) (ret : Option FieldType) : List Cond := .code y cy n ret :: gT
def PcOf (D : va_G) (k : Nat → ClassId) (av : List Value) (w : va_W) (sz : Nat) : Array Value → State → Prop := va_Pc av (fun U => U.heap.size = sz ∧ va_P D classes w U.heap ∧ Cx D k U ∧ va_D (fun _ => True) w)
theorem PcOf.blind {D : va_G} {k : Nat → ClassId} {av : List Value} {w : va_W} {sz : Nat} : FrameBlind (PcOf D k av w sz) := fun _ _ _ _ h => ⟨h.1, h.2.1, h.2.2.1, Cx.same rfl h.2.2.2.1, h.2.2.2.2⟩
def BqOf (D : va_G) (w : va_W) (sz : Nat) (w' : va_W) (t : State) : Prop := va_P D classes w' t.heap ∧ va_D (va_A w sz) w'
def rmOf (d mc ms : Nat) : Room := { frames := d, cells := mc, slots := ms, locals := 40 * d }
/-- a contract whose answer is an int (or a boolean): the world w becomes a w' with 'post answer w''; d: how deep its calls go -/
def CI (l : Launch) (D : va_G) (k : Nat → ClassId) (y : MethodName) (cy : ByteArray) (n : Nat) (ret : Option FieldType) (d mc ms : Nat) (av : List Value) (w : va_W) (post : Int32 → va_W → Prop) : Prop :=
  ∀ sz : Nat, Met l y (wsOf y cy n ret) (rmOf d mc ms) (PcOf D k av w sz) (va_Qi post (BqOf D w sz) (va_A w sz)) mc ms (va_A w sz)
def CV (l : Launch) (D : va_G) (k : Nat → ClassId) (y : MethodName) (cy : ByteArray) (n : Nat) (d mc ms : Nat) (av : List Value) (w : va_W) (post : va_W → Prop) : Prop :=
  ∀ sz : Nat, Met l y (wsOf y cy n none) (rmOf d mc ms) (PcOf D k av w sz) (va_Qv post (BqOf D w sz) (va_A w sz)) mc ms (va_A w sz)
/-- what a walk knows: the machine, the code, its class, the words, the room -/
def Fx (p : Program) (R : Room) (s : State) (m : MethodId) (args : Array Value) (c : Code) (cc : ByteArray) (nL : Nat) (own : String) (D : va_G) (k : Nat → ClassId) (d mc ms : Nat) : Prop :=
  (p.tables.exec = Jvm.exec ∧ c.code = cc) ∧ (c.maxLocals = nL ∧ s.vm.findClass own = some m.cls ∧ ∀ w ∈ gT, w.before args s = true) ∧ Cx D k s ∧ (d ≤ R.frames ∧ 40 * d ≤ R.locals ∧ mc ≤ R.cells ∧ ms ≤ R.slots)
/-- the world of a walk -/
def Wd (D : va_G) (A : Nat → Prop) (H0 H : Heap) (locs : List Loc) (w : va_W) : Prop := va_P D classes w H ∧ va_D A w ∧ va_S A H0 H locs ∧ ∀ q, H0.size ≤ q → A q
theorem xs_hx {p : Program} {R : Room} {s : State} {m : MethodId} {args : Array Value} {c : Code} {cc : ByteArray} {nL : Nat} {own : String} {D : va_G} {k : Nat → ClassId} {d mc ms : Nat} (F : Fx p R s m args c cc nL own D k d mc ms) : p.tables.exec = Jvm.exec := F.1.1
theorem xs_hb {p : Program} {R : Room} {s : State} {m : MethodId} {args : Array Value} {c : Code} {cc : ByteArray} {nL : Nat} {own : String} {D : va_G} {k : Nat → ClassId} {d mc ms : Nat} (F : Fx p R s m args c cc nL own D k d mc ms) : c.code = cc := F.1.2
section XE
variable {l : Launch} {D : va_G} {k : Nat → ClassId} {y : MethodName} {cy : ByteArray} {n : Nat} {d mc ms : Nat} {av : List Value} {w : va_W}
theorem CI.mk {ty : FieldType} {post : Int32 → va_W → Prop} (hy : plainName y.cls = true) (hen : (lg_sl av).length ≤ n)
    (body : ∀ (p : Program) (e : Env) (R : Room) (s : State) (m : MethodId) (args : Array Value) (below : List Frame) (meth : Method) (c : Code) (A : Nat → Prop) (Q : State → Prop) (ls : Array Slot), Fx p R s m args c cy n y.cls D k d mc ms →
      (∀ (H : Heap) (locs : List Loc) (pc : Nat) (ls : Array Slot) (v : Int32) (w' : va_W), decode cy pc = .ok (.ireturn, 1) → Wd D A s.heap H locs w' → narrow ty (.int v) = .int v → post v w' → W p l e R s m args below meth c H locs mc ms Q (F0 m pc ls [.int v])) →
      Wd D A s.heap s.heap [] w → lv_has ls n (lv_args 0 av) → W p l e R s m args below meth c s.heap [] 0 0 Q (F0 m 0 ls [])) : CI l D k y cy n (some ty) d mc ms av w post := by
  intro sz
  refine Met.ofW (cc := cy) (maxL := n) (ret := some ty) hy rfl ?_
  intro p e s m args below meth c s₁ B hml hv
  obtain ⟨rfl, hsz, hP, hC, hD0⟩ := hv
  subst hsz
  have hts : ∀ w ∈ wsOf y cy n (some ty), w.before av.toArray s = true := atoms_spec (ws := wsOf y cy n (some ty)) B.pre
  have hlocks := B.notSynchronized
  rw [lg_entry_eq]
  refine body p e _ s m _ below meth c (va_A w s.heap.size) _ _ ⟨⟨B.exec, B.bytes⟩, ⟨hml, findClass_of_methodNamed B.named, fun w hw => hts w (List.mem_cons_of_mem _ hw)⟩, hC, Nat.le_refl _, Nat.le_refl _, Nat.le_refl _, Nat.le_refl _⟩ (fun H locs pc ls v w' hdg hw hn hp => ?_) ⟨hP, hD0.self, va_S.rf, fun q h => Or.inr h⟩ (lv_entry av hen)
  exact W.zret (ty := ty) B.exec B.bytes B.returns hn (fun t ht hW => ⟨⟨v, w', rfl, hp, by rw [ht]; exact hw.1, hw.2.1⟩, hw.2.2.1.F ht⟩) hw.2.2.1.2.2 hdg
theorem CV.mk {post : va_W → Prop} (hy : plainName y.cls = true) (hen : (lg_sl av).length ≤ n)
    (body : ∀ (p : Program) (e : Env) (R : Room) (s : State) (m : MethodId) (args : Array Value) (below : List Frame) (meth : Method) (c : Code) (A : Nat → Prop) (Q : State → Prop) (ls : Array Slot), Fx p R s m args c cy n y.cls D k d mc ms → meth.name = y.name →
      (∀ (H : Heap) (locs : List Loc) (pc : Nat) (ls : Array Slot) (w' : va_W), decode cy pc = .ok (.return_, 1) → Wd D A s.heap H locs w' → post w' → W p l e R s m args below meth c H locs mc ms Q (F0 m pc ls [])) →
      Wd D A s.heap s.heap [] w → lv_has ls n (lv_args 0 av) → W p l e R s m args below meth c s.heap [] 0 0 Q (F0 m 0 ls [])) : CV l D k y cy n d mc ms av w post := by
  intro sz
  refine Met.ofW (cc := cy) (maxL := n) (ret := none) hy rfl ?_
  intro p e s m args below meth c s₁ B hml hv
  obtain ⟨rfl, hsz, hP, hC, hD0⟩ := hv
  subst hsz
  have hts : ∀ w ∈ wsOf y cy n none, w.before av.toArray s = true := atoms_spec (ws := wsOf y cy n none) B.pre
  have hlocks := B.notSynchronized
  rw [lg_entry_eq]
  refine body p e _ s m _ below meth c (va_A w s.heap.size) _ _ ⟨⟨B.exec, B.bytes⟩, ⟨hml, findClass_of_methodNamed B.named, fun w hw => hts w (List.mem_cons_of_mem _ hw)⟩, hC, Nat.le_refl _, Nat.le_refl _, Nat.le_refl _, Nat.le_refl _⟩ (name_of_methodNamed B.named B.method).1 (fun H locs pc ls w' hdg hw hp => ?_) ⟨hP, hD0.self, va_S.rf, fun q h => Or.inr h⟩ (lv_entry av hen)
  exact W.vret B.exec B.bytes B.returns (fun t ht hW => ⟨⟨w', rfl, hp, by rw [ht]; exact hw.1, hw.2.1⟩, hw.2.2.1.F ht⟩) hw.2.2.1.2.2 hdg
end XE
end
section
/-! ===== rows over Fx and Wd ===== -/
def FO (own : String) (idx ci f : Nat) (ty : FieldType) (fin : Bool) : Prop := ∃ (C : String) (T : u_T) (N : Nat) (ty0 : Nat → FieldType), classes[ci]? = some (C, T, N) ∧ f < N ∧ Cond.fieldLink own idx (T f).1 (T f).2.1 (T f).2.2.1 ∈ gT ∧ (∀ w ∈ u_ws C T N, w ∈ gT) ∧ (∀ j, j < N → parseFieldDescriptor (T j).2.2.1 = some (ty0 j)) ∧ (∀ a, a < N → ∀ b, b < N → a ≠ b → (T a).2.1 ≠ (T b).2.1) ∧ parseFieldDescriptor (T f).2.2.1 = some ty ∧ (T f).2.2.2 = fin ∧ (T f).1 = C
/-- an int field of an object, by the row of the state that holds it -/
def FI (w : St → va_W) (p0 a ci f j : Nat) : Prop := ∃ fs : St → List Value, (∀ S, (w S)[p0]? = some (a, .inr (ci, fs S))) ∧ (∀ S, (fs S)[f]? = some (.int (S j 0))) ∧ (∀ S v, (w S).set p0 (a, .inr (ci, (fs S).set f (.int v))) = w (va_up S j (fun _ => v))) ∧ ∀ S, f < (fs S).length
/-- a field that holds a cell's address -/
def FR (w : va_W) (p0 a ci f b : Nat) : Prop := ∃ fs : List Value, w[p0]? = some (a, .inr (ci, fs)) ∧ fs[f]? = some (.ref b)
/-- an array of ints (or booleans), by the row of the state that it holds -/
def AI (w : St → va_W) (p0 a : Nat) (cA : ClassId) (n j : Nat) : Prop := (∀ S, (w S)[p0]? = some (a, .inl (cA, n, .inl (S j)))) ∧ (∀ S f, (w S).set p0 (a, .inl (cA, n, .inl f)) = w (va_up S j f)) ∧ n < 2 ^ 31
/-- an object is there, of a class -/
def OB (w : va_W) (p0 a ci : Nat) : Prop := ∃ fs : List Value, w[p0]? = some (a, .inr (ci, fs))
/-- static methods, methods of objects, makers: what the tables say at a pool entry -/
def MC (y : MethodName) (cy : ByteArray) (n : Nat) (ret : Option FieldType) (nA : Nat) : Prop := Cond.code y cy n ret ∈ gT ∧ Cond.initialized y.cls ∈ gT ∧ (y.cls ≠ "java/lang/invoke/MethodHandle" ∧ y.cls ≠ "java/lang/invoke/VarHandle" ∧ (parseMethodDescriptor y.desc).map (fun d => d.parameters.length) = some nA) ∧ n ≤ 20
def MS (own : String) (idx : Nat) (y : MethodName) (cy : ByteArray) (n : Nat) (ret : Option FieldType) (nA : Nat) : Prop := MC y cy n ret nA ∧ Cond.static y ∈ gT ∧ (Cond.methodLink own idx y ∈ gT ∨ (own, idx, y) ∈ nW)
def MV (own : String) (idx ci : Nat) (y : MethodName) (cy : ByteArray) (n : Nat) (ret : Option FieldType) (nA : Nat) : Prop := MC y cy n ret nA ∧ Cond.instanceMethod y ∈ gT ∧ Cond.methodLink own idx y ∈ gT ∧ ∃ (C : String) (T : u_T) (N : Nat), classes[ci]? = some (C, T, N) ∧ Cond.selects C y y ∈ gT
def MI (own : String) (idx : Nat) (y : MethodName) (cy : ByteArray) (n nA : Nat) : Prop := MC y cy n none nA ∧ Cond.instanceMethod y ∈ gT ∧ y.name = "<init>" ∧ (Cond.methodLink own idx y ∈ gT ∨ (own, idx, y) ∈ nW)
theorem wsOf_good {y : MethodName} {cy : ByteArray} {n : Nat} {ret : Option FieldType} (h : Cond.code y cy n ret ∈ gT) : GoodIn gT (wsOf y cy n ret) := by
  intro w hw
  rcases List.mem_cons.mp hw with rfl | hw
  · exact gT_good (fun _ h => h) _ h
  · exact gT_good (fun _ h => h) _ hw
section XR
variable {p : Program} {l : Launch} {e : Env} {R : Room} {s : State} {m : MethodId} {args : Array Value} {below : List Frame} {meth : Method} {c : Code} {H : Heap} {locs : List Loc} {cells slots : Nat} {Q : State → Prop}
variable {cc : ByteArray} {pc : Nat} {ls : Array Slot} {rest : List Value} {D : va_G} {k : Nat → ClassId} {A : Nat → Prop} {nL d mc ms : Nat} {own : String} {H0 : Heap}
theorem x_get {w : va_W} {a ci f : Nat} {fs : List Value} {v : Value} {idx : Nat} {ty : FieldType} {fin : Bool} (p0 : Nat) (he : w[p0]? = some (a, .inr (ci, fs))) (hv : fs[f]? = some v) (F : Fx p R s m args c cc nL own D k d mc ms) (hw : Wd D A H0 H locs w) (fo : FO own idx ci f ty fin) (hdg : decode cc pc = .ok (.getfield idx, 3))
    (kk : W p l e R s m args below meth c H locs cells slots Q (F0 m (pc + 3) ls (v :: rest))) : W p l e R s m args below meth c H locs cells slots Q (F0 m pc ls (.ref a :: rest)) := by
  obtain ⟨C, T, N, ty0, hc, hf, hl, hin, -⟩ := fo
  exact va_get F.1.1 F.1.2 F.2.1.2.2 hin F.2.1.2.1 F.2.2.1.1 hw.1 p0 he hc f hf (F.2.1.2.2 _ hl) (fun _ h => h) hv hdg kk
theorem x_getr {w : va_W} {p0 a ci f b : Nat} {idx : Nat} {ty : FieldType} {fin : Bool} (hr : FR w p0 a ci f b) (F : Fx p R s m args c cc nL own D k d mc ms) (hw : Wd D A H0 H locs w) (fo : FO own idx ci f ty fin) (hdg : decode cc pc = .ok (.getfield idx, 3))
    (kk : W p l e R s m args below meth c H locs cells slots Q (F0 m (pc + 3) ls (.ref b :: rest))) : W p l e R s m args below meth c H locs cells slots Q (F0 m pc ls (.ref a :: rest)) := by
  obtain ⟨fs, he, hv⟩ := hr
  exact x_get p0 he hv F hw fo hdg kk
theorem x_geti {w : St → va_W} {S : St} {p0 a ci f j : Nat} {idx : Nat} {ty : FieldType} {fin : Bool} (hi : FI w p0 a ci f j) (F : Fx p R s m args c cc nL own D k d mc ms) (hw : Wd D A H0 H locs (w S)) (fo : FO own idx ci f ty fin) (hdg : decode cc pc = .ok (.getfield idx, 3))
    (kk : W p l e R s m args below meth c H locs cells slots Q (F0 m (pc + 3) ls (.int (S j 0) :: rest))) : W p l e R s m args below meth c H locs cells slots Q (F0 m pc ls (.ref a :: rest)) := by
  obtain ⟨fs, he, hv, -⟩ := hi
  exact x_get p0 (he S) (hv S) F hw fo hdg kk
theorem x_put {w : va_W} {a ci f : Nat} {fs : List Value} {v : Value} {idx : Nat} {ty : FieldType} (p0 : Nat) (he : w[p0]? = some (a, .inr (ci, fs))) (hl : f < fs.length) (F : Fx p R s m args c cc nL own D k d mc ms) (hw : Wd D A H0 H locs w) (fo : FO own idx ci f ty false) (hn : narrow ty v = v) (hfit : fits ty v = true) (hdg : decode cc pc = .ok (.putfield idx, 3))
    (kk : ∀ (H : Heap) (locs : List Loc), Wd D A H0 H locs (w.set p0 (a, .inr (ci, fs.set f v))) → W p l e R s m args below meth c H locs cells slots Q (F0 m (pc + 3) ls rest)) : W p l e R s m args below meth c H locs cells slots Q (F0 m pc ls (v :: .ref a :: rest)) := by
  obtain ⟨C, T, N, ty0, hc, hf, hlk, hin, hty, hnm, hd, hfin, -⟩ := fo
  exact va_put F.1.1 F.1.2 F.2.1.2.2 hin ty0 hty hnm F.2.1.2.1 F.2.2.1.1 hw.1 hw.2.1 hw.2.2.1 p0 he hc f hf (F.2.1.2.2 _ hlk) (fun _ h => h) hfin hd hn hfit hl hdg (fun H1 locs1 h1 h2 h3 => kk H1 locs1 ⟨h1, h2, h3, hw.2.2.2⟩)
theorem x_puti {w : St → va_W} {S : St} {p0 a ci f j : Nat} {v : Int32} {idx : Nat} {ty : FieldType} (hi : FI w p0 a ci f j) (F : Fx p R s m args c cc nL own D k d mc ms) (hw : Wd D A H0 H locs (w S)) (fo : FO own idx ci f ty false) (hn : narrow ty (.int v) = .int v) (hfit : fits ty (.int v) = true) (hdg : decode cc pc = .ok (.putfield idx, 3))
    (kk : ∀ (H : Heap) (locs : List Loc), Wd D A H0 H locs (w (va_up S j (fun _ => v))) → W p l e R s m args below meth c H locs cells slots Q (F0 m (pc + 3) ls rest)) : W p l e R s m args below meth c H locs cells slots Q (F0 m pc ls (.int v :: .ref a :: rest)) := by
  obtain ⟨fs, he, -, hs, hl⟩ := hi
  refine x_put p0 (he S) (hl S) F hw fo hn hfit hdg (fun H1 locs1 h1 => kk H1 locs1 ?_)
  rw [hs] at h1
  exact h1
/-- a final field, in a maker -/
theorem x_putF {w : va_W} {a ci f : Nat} {fs : List Value} {v : Value} {idx : Nat} {ty : FieldType} (p0 : Nat) (he : w[p0]? = some (a, .inr (ci, fs))) (hl : f < fs.length) (F : Fx p R s m args c cc nL own D k d mc ms) (hw : Wd D A H0 H locs w) (fo : FO own idx ci f ty true) (hin2 : meth.name = "<init>") (hcl : classes[ci]?.map (fun q => q.1) = some own) (hn : narrow ty v = v) (hfit : fits ty v = true) (hdg : decode cc pc = .ok (.putfield idx, 3))
    (kk : ∀ (H : Heap) (locs : List Loc), Wd D A H0 H locs (w.set p0 (a, .inr (ci, fs.set f v))) → W p l e R s m args below meth c H locs cells slots Q (F0 m (pc + 3) ls rest)) : W p l e R s m args below meth c H locs cells slots Q (F0 m pc ls (v :: .ref a :: rest)) := by
  obtain ⟨C, T, N, ty0, hc, hf, hlk, hin, hty, hnm, hd, hfin, hC⟩ := fo
  rw [hc] at hcl
  have hown2 : (T f).1 = own := hC.trans (Option.some.inj hcl)
  exact va_putF F.1.1 F.1.2 F.2.1.2.2 hin ty0 hty hnm F.2.1.2.1 F.2.2.1.1 hw.1 hw.2.1 hw.2.2.1 p0 he hc f hf (F.2.1.2.2 _ hlk) (fun _ h => h) hfin hin2 hown2 hd hn hfit hl hdg (fun H1 locs1 h1 h2 h3 => kk H1 locs1 ⟨h1, h2, h3, hw.2.2.2⟩)
theorem x_iald {w : St → va_W} {S : St} {p0 a n j : Nat} {i : Int32} (ha : AI w p0 a (k 0) n j) (F : Fx p R s m args c cc nL own D k d mc ms) (hw : Wd D A H0 H locs (w S)) (i' : Nat) (hi : i = nI i') (hlt : i' < n) (hdg : decode cc pc = .ok (.iaload, 1))
    (kk : W p l e R s m args below meth c H locs cells slots Q (F0 m (pc + 1) ls (.int (S j i') :: rest))) : W p l e R s m args below meth c H locs cells slots Q (F0 m pc ls (.int i :: .ref a :: rest)) := by
  subst hi
  have hb : i' < 2 ^ 31 := Nat.lt_trans hlt ha.2.2
  refine va_iald F.1.1 F.1.2 F.2.2.1.1 hw.1 p0 0 (ha.1 S) rfl (vp_in_nI hlt ha.2.2) hdg ?_
  rw [nI_clamp hb]
  exact kk
theorem x_zald {w : St → va_W} {S : St} {p0 a n j : Nat} {i : Int32} (ha : AI w p0 a (k 1) n j) (F : Fx p R s m args c cc nL own D k d mc ms) (hw : Wd D A H0 H locs (w S)) (i' : Nat) (hi : i = nI i') (hlt : i' < n) (hdg : decode cc pc = .ok (.baload, 1))
    (kk : W p l e R s m args below meth c H locs cells slots Q (F0 m (pc + 1) ls (.int (S j i') :: rest))) : W p l e R s m args below meth c H locs cells slots Q (F0 m pc ls (.int i :: .ref a :: rest)) := by
  subst hi
  have hb : i' < 2 ^ 31 := Nat.lt_trans hlt ha.2.2
  refine va_zald F.1.1 F.1.2 F.2.2.1.1 hw.1 p0 1 (ha.1 S) rfl (vp_in_nI hlt ha.2.2) hdg ?_
  rw [nI_clamp hb]
  exact kk
theorem x_iast {w : St → va_W} {S : St} {p0 a n j : Nat} {i v : Int32} (ha : AI w p0 a (k 0) n j) (F : Fx p R s m args c cc nL own D k d mc ms) (hw : Wd D A H0 H locs (w S)) (i' : Nat) (hi : i = nI i') (hlt : i' < n) (hdg : decode cc pc = .ok (.iastore, 1))
    (kk : ∀ (H : Heap) (locs : List Loc), Wd D A H0 H locs (w (va_up S j (upd (S j) i' v))) → W p l e R s m args below meth c H locs cells slots Q (F0 m (pc + 1) ls rest)) : W p l e R s m args below meth c H locs cells slots Q (F0 m pc ls (.int v :: .int i :: .ref a :: rest)) := by
  subst hi
  have hb : i' < 2 ^ 31 := Nat.lt_trans hlt ha.2.2
  refine va_iast F.1.1 F.1.2 F.2.2.1.1 hw.1 hw.2.1 hw.2.2.1 p0 0 (ha.1 S) rfl (vp_in_nI hlt ha.2.2) hdg (fun H1 locs1 h1 h2 h3 => kk H1 locs1 ?_)
  rw [nI_clamp hb, ha.2.1] at h1 h2
  exact ⟨h1, h2, h3, hw.2.2.2⟩
theorem x_zast {w : St → va_W} {S : St} {p0 a n j : Nat} {i v : Int32} (ha : AI w p0 a (k 1) n j) (F : Fx p R s m args c cc nL own D k d mc ms) (hw : Wd D A H0 H locs (w S)) (i' : Nat) (hi : i = nI i') (hlt : i' < n) (hv : vp_nar .boolean v = v) (hdg : decode cc pc = .ok (.bastore, 1))
    (kk : ∀ (H : Heap) (locs : List Loc), Wd D A H0 H locs (w (va_up S j (upd (S j) i' v))) → W p l e R s m args below meth c H locs cells slots Q (F0 m (pc + 1) ls rest)) : W p l e R s m args below meth c H locs cells slots Q (F0 m pc ls (.int v :: .int i :: .ref a :: rest)) := by
  subst hi
  have hb : i' < 2 ^ 31 := Nat.lt_trans hlt ha.2.2
  refine va_zast F.1.1 F.1.2 F.2.2.1.1 hw.1 hw.2.1 hw.2.2.1 p0 1 (ha.1 S) rfl (vp_in_nI hlt ha.2.2) hdg (fun H1 locs1 h1 h2 h3 => kk H1 locs1 ?_)
  rw [nI_clamp hb, hv, ha.2.1] at h1 h2
  exact ⟨h1, h2, h3, hw.2.2.2⟩
theorem x_alen {w : St → va_W} {S : St} {p0 a n j : Nat} (ha : AI w p0 a (k 0) n j) (F : Fx p R s m args c cc nL own D k d mc ms) (hw : Wd D A H0 H locs (w S)) (hdg : decode cc pc = .ok (.arraylength, 1))
    (kk : W p l e R s m args below meth c H locs cells slots Q (F0 m (pc + 1) ls (.int (nI n) :: rest))) : W p l e R s m args below meth c H locs cells slots Q (F0 m pc ls (.ref a :: rest)) :=
  va_alen F.1.1 F.1.2 F.2.2.1.1 hw.1 p0 0 (ha.1 S) (ty := .int) rfl rfl hdg kk
/-- the row of a grid -/
theorem x_gald {w : va_W} {a n : Nat} {f : Nat → Option Nat} {b : Nat} {i : Int32} (p0 : Nat) (ha : w[p0]? = some (a, .inl (k 2, n, .inr (.inr (.inr (.inr f)))))) (hn : n < 2 ^ 31) (F : Fx p R s m args c cc nL own D k d mc ms) (hw : Wd D A H0 H locs w) (i' : Nat) (hi : i = nI i') (hlt : i' < n) (hf : f i' = some b) (hdg : decode cc pc = .ok (.aaload, 1))
    (kk : W p l e R s m args below meth c H locs cells slots Q (F0 m (pc + 1) ls (.ref b :: rest))) : W p l e R s m args below meth c H locs cells slots Q (F0 m pc ls (.int i :: .ref a :: rest)) := by
  subst hi
  have hb : i' < 2 ^ 31 := Nat.lt_trans hlt hn
  have hin : vp_in (nI i') n := vp_in_nI hlt hn
  have hlt2 : (nI i').toNatClampNeg < n := by rw [nI_clamp hb]; exact hlt
  refine W.aald (v := va_rf (f (nI i').toNatClampNeg)) (ty := .array .int) F.1.1 F.1.2 (hw.1 p0 _ ha) ((F.2.2.1.1.2 2 _ rfl).1 n (fun j => va_rf (f j))) rfl (fun q => by cases q) (by show ¬ (nI i' < 0 ∨ (arrV _ _ _).slots.size ≤ _); rw [arrV_size]; exact hin) (by show (arrV _ _ _).slots[_]? = _; rw [arrV_read _ _ hlt2]) rfl rfl hdg ?_
  rw [nI_clamp hb, hf]
  exact kk
/-- an array of objects, null among them -/
theorem x_aald {w : va_W} {a n : Nat} {f : Nat → Option Nat} {i : Int32} (p0 : Nat) (ha : w[p0]? = some (a, .inl (k 3, n, .inr (.inr (.inr (.inr f)))))) (hn : n < 2 ^ 31) (F : Fx p R s m args c cc nL own D k d mc ms) (hw : Wd D A H0 H locs w) (i' : Nat) (hi : i = nI i') (hlt : i' < n) (hdg : decode cc pc = .ok (.aaload, 1))
    (kk : W p l e R s m args below meth c H locs cells slots Q (F0 m (pc + 1) ls (va_rf (f i') :: rest))) : W p l e R s m args below meth c H locs cells slots Q (F0 m pc ls (.int i :: .ref a :: rest)) := by
  subst hi
  have hb : i' < 2 ^ 31 := Nat.lt_trans hlt hn
  refine va_aldq F.1.1 F.1.2 F.2.2.1.1 hw.1 p0 3 (C := RX1) ha rfl (vp_in_nI hlt hn) hdg ?_
  rw [nI_clamp hb]
  exact kk
theorem x_aast {w : va_W} {a n v qk : Nat} {f : Nat → Option Nat} {i : Int32} {vs : List Value} (p0 : Nat) (ha : w[p0]? = some (a, .inl (k 3, n, .inr (.inr (.inr (.inr f)))))) (hv : w[qk]? = some (v, .inr (1, vs))) (hn : n < 2 ^ 31) (F : Fx p R s m args c cc nL own D k d mc ms) (hw : Wd D A H0 H locs w) (i' : Nat) (hi : i = nI i') (hlt : i' < n) (hdg : decode cc pc = .ok (.aastore, 1))
    (kk : ∀ (H : Heap) (locs : List Loc), Wd D A H0 H locs (w.set p0 (a, .inl (k 3, n, .inr (.inr (.inr (.inr (va_up f i' (some v)))))))) → W p l e R s m args below meth c H locs cells slots Q (F0 m (pc + 1) ls rest)) : W p l e R s m args below meth c H locs cells slots Q (F0 m pc ls (.ref v :: .int i :: .ref a :: rest)) := by
  subst hi
  have hb : i' < 2 ^ 31 := Nat.lt_trans hlt hn
  refine va_astq F.1.1 F.1.2 F.2.2.1.1 hw.1 hw.2.1 hw.2.2.1 p0 3 qk 1 (r := (RX1, TX1, 12)) ha rfl hv rfl (vp_in_nI hlt hn) hdg (fun H1 locs1 h1 h2 h3 => kk H1 locs1 ?_)
  rw [nI_clamp hb] at h1 h2
  exact ⟨h1, h2, h3, hw.2.2.2⟩
/-- a computed number under another name -/
theorem x_top {x y : Int32} (h : x = y) (kk : W p l e R s m args below meth c H locs cells slots Q (F0 m pc ls (.int y :: rest))) : W p l e R s m args below meth c H locs cells slots Q (F0 m pc ls (.int x :: rest)) := by rw [h]; exact kk
theorem Wd.call {w w' : va_W} {H1 : Heap} {locs1 : List Loc} {t : State} (hw : Wd D A H0 H locs w) (ht : t.heap = H1) (hB : BqOf D w H.size w' t) (hS : va_S A H0 H1 locs1) : Wd D A H0 H1 locs1 w' := by
  refine ⟨by rw [← ht]; exact hB.1, hB.2.weaken (fun i q _ h => ?_), hS, hw.2.2.2⟩
  rcases h with ⟨j, e, h⟩ | h
  · exact hw.2.1.2 j (_, e) h
  · exact hw.2.2.2 _ (Nat.le_trans hw.2.2.1.1 h)
theorem Wd.free {w : va_W} (hw : Wd D A H0 H locs w) : ∀ q, va_A w H.size q → A q := by
  intro q h
  rcases h with ⟨j, e, h⟩ | h
  · exact hw.2.1.2 j (_, e) h
  · exact hw.2.2.2 _ (Nat.le_trans hw.2.2.1.1 h)
theorem Wd.pre {w : va_W} {av : List Value} (F : Fx p R s m args c cc nL own D k d mc ms) (hw : Wd D A H0 H locs w) : ∀ U : State, U.heap = H → s.WarmedH U.vm → PcOf D k av w H.size av.toArray U := fun U hU hW => ⟨rfl, by rw [hU], by rw [hU]; exact hw.1, F.2.2.1.warm hW, hw.2.1.weaken (fun _ _ _ _ => trivial)⟩
theorem x_dpt {n d' R1 : Nat} (hd : d' + 1 ≤ d) (hR : 40 * d ≤ R1) (hn : n ≤ 20) : 8 + (n + 11) + 40 * d' ≤ R1 := by omega
end XR
section XC
variable {p : Program} {l : Launch} {e : Env} {R : Room} {s : State} {m : MethodId} {args : Array Value} {below : List Frame} {meth : Method} {c : Code} {H : Heap} {locs : List Loc} {cells slots : Nat} {Q : State → Prop}
variable {cc : ByteArray} {pc : Nat} {ls : Array Slot} {D : va_G} {k : Nat → ClassId} {A : Nat → Prop} {nL d mc ms : Nat} {own : String} {H0 : Heap}
variable {y : MethodName} {cy : ByteArray} {n d' mc' ms' nA idx : Nat} {w : va_W} {st : List Value}
theorem x_runS {ret : Option FieldType} {As rest : List Value} {Qc : Array Value → State → Outcome → State → Prop} (hM : Met l y (wsOf y cy n ret) (rmOf d' mc' ms') (PcOf D k As w H.size) Qc mc' ms' (va_A w H.size)) (mo : MS own idx y cy n ret nA) (F : Fx p R s m args c cc nL own D k d mc ms) (hw : Wd D A H0 H locs w) (hd : d' + 1 ≤ d) (hcs : cells + mc' ≤ R.cells ∧ slots + ms' ≤ R.slots) (hst : st = As.reverse ++ rest) (hlen : As.length = nA) (hls : ls.size = nL) (hro : (rest.map fun v => v.category).sum ≤ 8) (hdg : decode cc pc = .ok (.invokestatic idx, 3)) :
    va_Run p l e R s m args below meth c H locs cells slots mc' ms' (F0 m pc ls st) rest (Qc As.toArray) (va_A w H.size) := by
  obtain ⟨⟨h1, h2, h3, h4⟩, h5, h6⟩ := mo
  obtain ⟨⟨f1, f2⟩, ⟨f3, f4, f5⟩, f6, f7, f8, f9, f10⟩ := id F
  have hR : (rmOf d' mc' ms').frames + 1 ≤ R.frames ∧ 8 + (n + 11) + (rmOf d' mc' ms').locals ≤ R.locals := ⟨Nat.le_trans hd f7, x_dpt hd f8 h4⟩
  rcases h6 with h6 | h6
  · exact va_runS (Ts := gT) ⟨f1, f2, f3, f4, f5⟩ hM ⟨callB_of nA f5 (wsOf_good h1) rfl rfl rfl (f5 _ h2) (f5 _ h6) h3 hR, f5 _ h5⟩ ⟨PcOf.blind, Wd.pre F hw⟩ rfl hlen hls hst (lv_room hro) hdg hcs
  · exact va_runSN (Ts := gT) (host := "CopiedSkins") ⟨f1, f2, f3, f4, f5⟩ hM ⟨va_cnB nA f5 (wsOf_good h1) rfl rfl rfl (f6.2.1 _ h6) (f5 _ h2) h3 hR, f5 _ h5, trivial⟩ ⟨PcOf.blind, Wd.pre F hw⟩ rfl hlen hls hst (lv_room hro) hdg hcs
theorem x_callSI {ret : Option FieldType} {As rest : List Value} {post : Int32 → va_W → Prop} (hc : CI l D k y cy n ret d' mc' ms' As w post) (mo : MS own idx y cy n ret nA) (F : Fx p R s m args c cc nL own D k d mc ms) (hw : Wd D A H0 H locs w) (hd : d' + 1 ≤ d) (hcs : cells + mc' ≤ R.cells ∧ slots + ms' ≤ R.slots) (hst : st = As.reverse ++ rest) (hlen : As.length = nA) (hls : ls.size = nL) (hro : (rest.map fun v => v.category).sum ≤ 8) (hdg : decode cc pc = .ok (.invokestatic idx, 3))
    (kk : ∀ (r : Int32) (w' : va_W) (H : Heap) (locs : List Loc), post r w' → Wd D A H0 H locs w' → W p l e R s m args below meth c H locs (cells + mc') (slots + ms') Q (F0 m (pc + 3) ls (.int r :: rest))) : W p l e R s m args below meth c H locs cells slots Q (F0 m pc ls st) :=
  va_calli (x_runS (hc H.size) mo F hw hd hcs hst hlen hls hro hdg) hw.2.2.1 (fun q _ h => hw.free q h) (fun q h => hw.free q h) (fun r w' t H1 locs1 ht _ hp hB _ _ hS => kk r w' H1 locs1 hp (hw.call ht hB hS))
theorem x_callSV {As rest : List Value} {post : va_W → Prop} (hc : CV l D k y cy n d' mc' ms' As w post) (mo : MS own idx y cy n none nA) (F : Fx p R s m args c cc nL own D k d mc ms) (hw : Wd D A H0 H locs w) (hd : d' + 1 ≤ d) (hcs : cells + mc' ≤ R.cells ∧ slots + ms' ≤ R.slots) (hst : st = As.reverse ++ rest) (hlen : As.length = nA) (hls : ls.size = nL) (hro : (rest.map fun v => v.category).sum ≤ 8) (hdg : decode cc pc = .ok (.invokestatic idx, 3))
    (kk : ∀ (w' : va_W) (H : Heap) (locs : List Loc), post w' → Wd D A H0 H locs w' → W p l e R s m args below meth c H locs (cells + mc') (slots + ms') Q (F0 m (pc + 3) ls rest)) : W p l e R s m args below meth c H locs cells slots Q (F0 m pc ls st) :=
  va_callv (x_runS (hc H.size) mo F hw hd hcs hst hlen hls hro hdg) hw.2.2.1 (fun q _ h => hw.free q h) (fun q h => hw.free q h) (fun w' t H1 locs1 ht _ hp hB _ _ hS => kk w' H1 locs1 hp (hw.call ht hB hS))
theorem x_runV {ret : Option FieldType} {b p0 ci : Nat} {As rest : List Value} {Qc : Array Value → State → Outcome → State → Prop} (hM : Met l y (wsOf y cy n ret) (rmOf d' mc' ms') (PcOf D k (.ref b :: As) w H.size) Qc mc' ms' (va_A w H.size)) (mo : MV own idx ci y cy n ret nA) (ob : OB w p0 b ci) (F : Fx p R s m args c cc nL own D k d mc ms) (hw : Wd D A H0 H locs w) (hd : d' + 1 ≤ d) (hcs : cells + mc' ≤ R.cells ∧ slots + ms' ≤ R.slots) (hst : st = As.reverse ++ .ref b :: rest) (hlen : As.length = nA) (hls : ls.size = nL) (hro : (rest.map fun v => v.category).sum ≤ 8) (hdg : decode cc pc = .ok (.invokevirtual idx, 3)) :
    va_Run p l e R s m args below meth c H locs cells slots mc' ms' (F0 m pc ls st) rest (Qc (Value.ref b :: As).toArray) (va_A w H.size) := by
  obtain ⟨⟨h1, h2, h3, h4⟩, h5, h6, C, T, N, h7, h8⟩ := mo
  obtain ⟨⟨f1, f2⟩, ⟨f3, f4, f5⟩, f6, f7, f8, f9, f10⟩ := id F
  obtain ⟨fs, ho⟩ := ob
  have hR : (rmOf d' mc' ms').frames + 1 ≤ R.frames ∧ 8 + (n + 11) + (rmOf d' mc' ms').locals ≤ R.locals := ⟨Nat.le_trans hd f7, x_dpt hd f8 h4⟩
  exact va_runV (Ts := gT) (C := C) ⟨f1, f2, f3, f4, f5⟩ hM ⟨callB_of nA f5 (wsOf_good h1) rfl rfl rfl (f5 _ h2) (f5 _ h6) h3 hR, f5 _ h5, f5 _ h8⟩ ⟨PcOf.blind, va_recv F.2.2.1.1 hw.1 (q := (C, T, N)) h7 ho, Wd.pre F hw⟩ rfl hlen hls hst (lv_room hro) hdg hcs
theorem x_callVI {ret : Option FieldType} {b p0 ci : Nat} {As rest : List Value} {post : Int32 → va_W → Prop} (hc : CI l D k y cy n ret d' mc' ms' (.ref b :: As) w post) (mo : MV own idx ci y cy n ret nA) (ob : OB w p0 b ci) (F : Fx p R s m args c cc nL own D k d mc ms) (hw : Wd D A H0 H locs w) (hd : d' + 1 ≤ d) (hcs : cells + mc' ≤ R.cells ∧ slots + ms' ≤ R.slots) (hst : st = As.reverse ++ .ref b :: rest) (hlen : As.length = nA) (hls : ls.size = nL) (hro : (rest.map fun v => v.category).sum ≤ 8) (hdg : decode cc pc = .ok (.invokevirtual idx, 3))
    (kk : ∀ (r : Int32) (w' : va_W) (H : Heap) (locs : List Loc), post r w' → Wd D A H0 H locs w' → W p l e R s m args below meth c H locs (cells + mc') (slots + ms') Q (F0 m (pc + 3) ls (.int r :: rest))) : W p l e R s m args below meth c H locs cells slots Q (F0 m pc ls st) :=
  va_calli (x_runV (hc H.size) mo ob F hw hd hcs hst hlen hls hro hdg) hw.2.2.1 (fun q _ h => hw.free q h) (fun q h => hw.free q h) (fun r w' t H1 locs1 ht _ hp hB _ _ hS => kk r w' H1 locs1 hp (hw.call ht hB hS))
theorem x_callVV {b p0 ci : Nat} {As rest : List Value} {post : va_W → Prop} (hc : CV l D k y cy n d' mc' ms' (.ref b :: As) w post) (mo : MV own idx ci y cy n none nA) (ob : OB w p0 b ci) (F : Fx p R s m args c cc nL own D k d mc ms) (hw : Wd D A H0 H locs w) (hd : d' + 1 ≤ d) (hcs : cells + mc' ≤ R.cells ∧ slots + ms' ≤ R.slots) (hst : st = As.reverse ++ .ref b :: rest) (hlen : As.length = nA) (hls : ls.size = nL) (hro : (rest.map fun v => v.category).sum ≤ 8) (hdg : decode cc pc = .ok (.invokevirtual idx, 3))
    (kk : ∀ (w' : va_W) (H : Heap) (locs : List Loc), post w' → Wd D A H0 H locs w' → W p l e R s m args below meth c H locs (cells + mc') (slots + ms') Q (F0 m (pc + 3) ls rest)) : W p l e R s m args below meth c H locs cells slots Q (F0 m pc ls st) :=
  va_callv (x_runV (hc H.size) mo ob F hw hd hcs hst hlen hls hro hdg) hw.2.2.1 (fun q _ h => hw.free q h) (fun q h => hw.free q h) (fun w' t H1 locs1 ht _ hp hB _ _ hS => kk w' H1 locs1 hp (hw.call ht hB hS))
theorem x_callI {b : Nat} {As rest : List Value} {post : va_W → Prop} (hc : CV l D k y cy n d' mc' ms' (.ref b :: As) w post) (mo : MI own idx y cy n nA) (F : Fx p R s m args c cc nL own D k d mc ms) (hw : Wd D A H0 H locs w) (hd : d' + 1 ≤ d) (hcs : cells + mc' ≤ R.cells ∧ slots + ms' ≤ R.slots) (hst : st = As.reverse ++ .ref b :: rest) (hlen : As.length = nA) (hls : ls.size = nL) (hro : (rest.map fun v => v.category).sum ≤ 8) (hdg : decode cc pc = .ok (.invokespecial idx, 3))
    (kk : ∀ (w' : va_W) (H : Heap) (locs : List Loc), post w' → Wd D A H0 H locs w' → W p l e R s m args below meth c H locs (cells + mc') (slots + ms') Q (F0 m (pc + 3) ls rest)) : W p l e R s m args below meth c H locs cells slots Q (F0 m pc ls st) := by
  obtain ⟨⟨h1, h2, h3, h4⟩, h5, h6, h7⟩ := mo
  obtain ⟨⟨f1, f2⟩, ⟨f3, f4, f5⟩, f6, f7, f8, f9, f10⟩ := id F
  have hR : (rmOf d' mc' ms').frames + 1 ≤ R.frames ∧ 8 + (n + 11) + (rmOf d' mc' ms').locals ≤ R.locals := ⟨Nat.le_trans hd f7, x_dpt hd f8 h4⟩
  have hr : va_Run p l e R s m args below meth c H locs cells slots mc' ms' (F0 m pc ls st) rest (va_Qv post (BqOf D w H.size) (va_A w H.size) (Value.ref b :: As).toArray) (va_A w H.size) := by
    rcases h7 with h7 | h7
    · exact va_runI (Ts := gT) ⟨f1, f2, f3, f4, f5⟩ (hc H.size) ⟨callB_of nA f5 (wsOf_good h1) rfl rfl rfl (f5 _ h2) (f5 _ h7) h3 hR, h6, f5 _ h5⟩ ⟨PcOf.blind, Wd.pre F hw⟩ rfl hlen hls hst (lv_room hro) hdg hcs
    · exact va_runIN (Ts := gT) (host := "CopiedSkins") ⟨f1, f2, f3, f4, f5⟩ (hc H.size) ⟨va_cnB nA f5 (wsOf_good h1) rfl rfl rfl (f6.2.1 _ h7) (f5 _ h2) h3 hR, h6, f5 _ h5⟩ ⟨PcOf.blind, Wd.pre F hw⟩ rfl hlen hls hst (lv_room hro) hdg hcs
  exact va_callv hr hw.2.2.1 (fun q _ h => hw.free q h) (fun q h => hw.free q h) (fun w' t H1 locs1 ht _ hp hB _ _ hS => kk w' H1 locs1 hp (hw.call ht hB hS))
/-- calls of methods whose answer and world are told -/
theorem x_fSI {ret : Option FieldType} {As rest : List Value} {w2 : va_W} {res : Int32} (hc : CI l D k y cy n ret d' mc' ms' As w (fun r w' => w' = w2 ∧ r = res)) (mo : MS own idx y cy n ret nA) (F : Fx p R s m args c cc nL own D k d mc ms) (hw : Wd D A H0 H locs w) (hd : d' + 1 ≤ d) (hcs : cells + mc' ≤ R.cells ∧ slots + ms' ≤ R.slots) (hst : st = As.reverse ++ rest) (hlen : As.length = nA) (hls : ls.size = nL) (hro : (rest.map fun v => v.category).sum ≤ 8) (hdg : decode cc pc = .ok (.invokestatic idx, 3))
    (kk : ∀ (H : Heap) (locs : List Loc), Wd D A H0 H locs w2 → W p l e R s m args below meth c H locs (cells + mc') (slots + ms') Q (F0 m (pc + 3) ls (.int res :: rest))) : W p l e R s m args below meth c H locs cells slots Q (F0 m pc ls st) :=
  x_callSI hc mo F hw hd hcs hst hlen hls hro hdg (fun r w' H1 locs1 hp h1 => by obtain ⟨rfl, rfl⟩ := hp; exact kk H1 locs1 h1)
theorem x_fSV {As rest : List Value} {w2 : va_W} (hc : CV l D k y cy n d' mc' ms' As w (fun w' => w' = w2)) (mo : MS own idx y cy n none nA) (F : Fx p R s m args c cc nL own D k d mc ms) (hw : Wd D A H0 H locs w) (hd : d' + 1 ≤ d) (hcs : cells + mc' ≤ R.cells ∧ slots + ms' ≤ R.slots) (hst : st = As.reverse ++ rest) (hlen : As.length = nA) (hls : ls.size = nL) (hro : (rest.map fun v => v.category).sum ≤ 8) (hdg : decode cc pc = .ok (.invokestatic idx, 3))
    (kk : ∀ (H : Heap) (locs : List Loc), Wd D A H0 H locs w2 → W p l e R s m args below meth c H locs (cells + mc') (slots + ms') Q (F0 m (pc + 3) ls rest)) : W p l e R s m args below meth c H locs cells slots Q (F0 m pc ls st) :=
  x_callSV hc mo F hw hd hcs hst hlen hls hro hdg (fun w' H1 locs1 hp h1 => by obtain rfl := hp; exact kk H1 locs1 h1)
theorem x_fVI {ret : Option FieldType} {b p0 ci : Nat} {As rest : List Value} {w2 : va_W} {res : Int32} (hc : CI l D k y cy n ret d' mc' ms' (.ref b :: As) w (fun r w' => w' = w2 ∧ r = res)) (mo : MV own idx ci y cy n ret nA) (ob : OB w p0 b ci) (F : Fx p R s m args c cc nL own D k d mc ms) (hw : Wd D A H0 H locs w) (hd : d' + 1 ≤ d) (hcs : cells + mc' ≤ R.cells ∧ slots + ms' ≤ R.slots) (hst : st = As.reverse ++ .ref b :: rest) (hlen : As.length = nA) (hls : ls.size = nL) (hro : (rest.map fun v => v.category).sum ≤ 8) (hdg : decode cc pc = .ok (.invokevirtual idx, 3))
    (kk : ∀ (H : Heap) (locs : List Loc), Wd D A H0 H locs w2 → W p l e R s m args below meth c H locs (cells + mc') (slots + ms') Q (F0 m (pc + 3) ls (.int res :: rest))) : W p l e R s m args below meth c H locs cells slots Q (F0 m pc ls st) :=
  x_callVI hc mo ob F hw hd hcs hst hlen hls hro hdg (fun r w' H1 locs1 hp h1 => by obtain ⟨rfl, rfl⟩ := hp; exact kk H1 locs1 h1)
theorem x_fVV {b p0 ci : Nat} {As rest : List Value} {w2 : va_W} (hc : CV l D k y cy n d' mc' ms' (.ref b :: As) w (fun w' => w' = w2)) (mo : MV own idx ci y cy n none nA) (ob : OB w p0 b ci) (F : Fx p R s m args c cc nL own D k d mc ms) (hw : Wd D A H0 H locs w) (hd : d' + 1 ≤ d) (hcs : cells + mc' ≤ R.cells ∧ slots + ms' ≤ R.slots) (hst : st = As.reverse ++ .ref b :: rest) (hlen : As.length = nA) (hls : ls.size = nL) (hro : (rest.map fun v => v.category).sum ≤ 8) (hdg : decode cc pc = .ok (.invokevirtual idx, 3))
    (kk : ∀ (H : Heap) (locs : List Loc), Wd D A H0 H locs w2 → W p l e R s m args below meth c H locs (cells + mc') (slots + ms') Q (F0 m (pc + 3) ls rest)) : W p l e R s m args below meth c H locs cells slots Q (F0 m pc ls st) :=
  x_callVV hc mo ob F hw hd hcs hst hlen hls hro hdg (fun w' H1 locs1 hp h1 => by obtain rfl := hp; exact kk H1 locs1 h1)
end XC
end
section
theorem inX0 : ∀ w ∈ u_ws RX0 TX0 4, w ∈ gT := fun w hw => gT_of ((by decide +kernel : ∀ w ∈ u_ws RX0 TX0 4, w ∈ lw_tbl) w hw) ((by decide +kernel : ∀ w ∈ u_ws RX0 TX0 4, goodWord w = true) w hw)
theorem inX1 : ∀ w ∈ u_ws RX1 TX1 12, w ∈ gT := fun w hw => gT_of ((by decide +kernel : ∀ w ∈ u_ws RX1 TX1 12, w ∈ lw_tbl) w hw) ((by decide +kernel : ∀ w ∈ u_ws RX1 TX1 12, goodWord w = true) w hw)
theorem inX2 : ∀ w ∈ u_ws RX2 TX2 3, w ∈ gT := fun w hw => gT_of ((by decide +kernel : ∀ w ∈ u_ws RX2 TX2 3, w ∈ lw_tbl) w hw) ((by decide +kernel : ∀ w ∈ u_ws RX2 TX2 3, goodWord w = true) w hw)
theorem inX3 : ∀ w ∈ u_ws RX3 TX3 2, w ∈ gT := fun w hw => gT_of ((by decide +kernel : ∀ w ∈ u_ws RX3 TX3 2, w ∈ lw_tbl) w hw) ((by decide +kernel : ∀ w ∈ u_ws RX3 TX3 2, goodWord w = true) w hw)
theorem inX4 : ∀ w ∈ u_ws RX4 TX4 7, w ∈ gT := fun w hw => gT_of ((by decide +kernel : ∀ w ∈ u_ws RX4 TX4 7, w ∈ lw_tbl) w hw) ((by decide +kernel : ∀ w ∈ u_ws RX4 TX4 7, goodWord w = true) w hw)
theorem inX5 : ∀ w ∈ u_ws RX5 TX5 11, w ∈ gT := fun w hw => gT_of ((by decide +kernel : ∀ w ∈ u_ws RX5 TX5 11, w ∈ lw_tbl) w hw) ((by decide +kernel : ∀ w ∈ u_ws RX5 TX5 11, goodWord w = true) w hw)
theorem inX6 : ∀ w ∈ u_ws RX6 TX6 7, w ∈ gT := fun w hw => gT_of ((by decide +kernel : ∀ w ∈ u_ws RX6 TX6 7, w ∈ lw_tbl) w hw) ((by decide +kernel : ∀ w ∈ u_ws RX6 TX6 7, goodWord w = true) w hw)
theorem inX7 : ∀ w ∈ u_ws RX7 TX7 30, w ∈ gT := fun w hw => gT_of ((by decide +kernel : ∀ w ∈ u_ws RX7 TX7 30, w ∈ lw_tbl) w hw) ((by decide +kernel : ∀ w ∈ u_ws RX7 TX7 30, goodWord w = true) w hw)
theorem fo_X1_44 : FO RX1 44 1 0 .int false := ⟨RX1, TX1, 12, tyX1, rfl, by decide, gT_tb 50 rfl rfl, inX1, tyX1_ok, nmX1, by decide +kernel, rfl, rfl⟩
theorem fo_X6_65 : FO RX6 65 1 0 .int false := ⟨RX1, TX1, 12, tyX1, rfl, by decide, gT_tb 51 rfl rfl, inX1, tyX1_ok, nmX1, by decide +kernel, rfl, rfl⟩
theorem fo_X5_42 : FO RX5 42 1 0 .int false := ⟨RX1, TX1, 12, tyX1, rfl, by decide, gT_tb 52 rfl rfl, inX1, tyX1_ok, nmX1, by decide +kernel, rfl, rfl⟩
theorem fo_X1_48 : FO RX1 48 1 1 .int false := ⟨RX1, TX1, 12, tyX1, rfl, by decide, gT_tb 53 rfl rfl, inX1, tyX1_ok, nmX1, by decide +kernel, rfl, rfl⟩
theorem fo_X6_119 : FO RX6 119 1 1 .int false := ⟨RX1, TX1, 12, tyX1, rfl, by decide, gT_tb 54 rfl rfl, inX1, tyX1_ok, nmX1, by decide +kernel, rfl, rfl⟩
theorem fo_X1_9 : FO RX1 9 1 2 (.array .int) true := ⟨RX1, TX1, 12, tyX1, rfl, by decide, gT_tb 55 rfl rfl, inX1, tyX1_ok, nmX1, by decide +kernel, rfl, rfl⟩
theorem fo_X6_79 : FO RX6 79 1 2 (.array .int) true := ⟨RX1, TX1, 12, tyX1, rfl, by decide, gT_tb 56 rfl rfl, inX1, tyX1_ok, nmX1, by decide +kernel, rfl, rfl⟩
theorem fo_X5_58 : FO RX5 58 1 2 (.array .int) true := ⟨RX1, TX1, 12, tyX1, rfl, by decide, gT_tb 57 rfl rfl, inX1, tyX1_ok, nmX1, by decide +kernel, rfl, rfl⟩
theorem fo_X1_15 : FO RX1 15 1 3 (.array .int) true := ⟨RX1, TX1, 12, tyX1, rfl, by decide, gT_tb 58 rfl rfl, inX1, tyX1_ok, nmX1, by decide +kernel, rfl, rfl⟩
theorem fo_X6_83 : FO RX6 83 1 3 (.array .int) true := ⟨RX1, TX1, 12, tyX1, rfl, by decide, gT_tb 59 rfl rfl, inX1, tyX1_ok, nmX1, by decide +kernel, rfl, rfl⟩
theorem fo_X5_65 : FO RX5 65 1 3 (.array .int) true := ⟨RX1, TX1, 12, tyX1, rfl, by decide, gT_tb 60 rfl rfl, inX1, tyX1_ok, nmX1, by decide +kernel, rfl, rfl⟩
theorem fo_X1_18 : FO RX1 18 1 4 (.array .int) true := ⟨RX1, TX1, 12, tyX1, rfl, by decide, gT_tb 61 rfl rfl, inX1, tyX1_ok, nmX1, by decide +kernel, rfl, rfl⟩
theorem fo_X6_86 : FO RX6 86 1 4 (.array .int) true := ⟨RX1, TX1, 12, tyX1, rfl, by decide, gT_tb 62 rfl rfl, inX1, tyX1_ok, nmX1, by decide +kernel, rfl, rfl⟩
theorem fo_X5_68 : FO RX5 68 1 4 (.array .int) true := ⟨RX1, TX1, 12, tyX1, rfl, by decide, gT_tb 63 rfl rfl, inX1, tyX1_ok, nmX1, by decide +kernel, rfl, rfl⟩
theorem fo_X1_21 : FO RX1 21 1 5 (.array .int) true := ⟨RX1, TX1, 12, tyX1, rfl, by decide, gT_tb 64 rfl rfl, inX1, tyX1_ok, nmX1, by decide +kernel, rfl, rfl⟩
theorem fo_X6_164 : FO RX6 164 1 5 (.array .int) true := ⟨RX1, TX1, 12, tyX1, rfl, by decide, gT_tb 65 rfl rfl, inX1, tyX1_ok, nmX1, by decide +kernel, rfl, rfl⟩
theorem fo_X1_26 : FO RX1 26 1 6 (.array (.array .int)) true := ⟨RX1, TX1, 12, tyX1, rfl, by decide, gT_tb 66 rfl rfl, inX1, tyX1_ok, nmX1, by decide +kernel, rfl, rfl⟩
theorem fo_X6_111 : FO RX6 111 1 6 (.array (.array .int)) true := ⟨RX1, TX1, 12, tyX1, rfl, by decide, gT_tb 67 rfl rfl, inX1, tyX1_ok, nmX1, by decide +kernel, rfl, rfl⟩
theorem fo_X1_29 : FO RX1 29 1 7 (.array .int) true := ⟨RX1, TX1, 12, tyX1, rfl, by decide, gT_tb 68 rfl rfl, inX1, tyX1_ok, nmX1, by decide +kernel, rfl, rfl⟩
theorem fo_X0_25 : FO RX0 25 1 7 (.array .int) true := ⟨RX1, TX1, 12, tyX1, rfl, by decide, gT_tb 69 rfl rfl, inX1, tyX1_ok, nmX1, by decide +kernel, rfl, rfl⟩
theorem fo_X5_48 : FO RX5 48 1 7 (.array .int) true := ⟨RX1, TX1, 12, tyX1, rfl, by decide, gT_tb 70 rfl rfl, inX1, tyX1_ok, nmX1, by decide +kernel, rfl, rfl⟩
theorem fo_X6_97 : FO RX6 97 1 7 (.array .int) true := ⟨RX1, TX1, 12, tyX1, rfl, by decide, gT_tb 71 rfl rfl, inX1, tyX1_ok, nmX1, by decide +kernel, rfl, rfl⟩
theorem fo_X1_32 : FO RX1 32 1 8 (.array .int) true := ⟨RX1, TX1, 12, tyX1, rfl, by decide, gT_tb 72 rfl rfl, inX1, tyX1_ok, nmX1, by decide +kernel, rfl, rfl⟩
theorem fo_X0_35 : FO RX0 35 1 8 (.array .int) true := ⟨RX1, TX1, 12, tyX1, rfl, by decide, gT_tb 73 rfl rfl, inX1, tyX1_ok, nmX1, by decide +kernel, rfl, rfl⟩
theorem fo_X6_167 : FO RX6 167 1 8 (.array .int) true := ⟨RX1, TX1, 12, tyX1, rfl, by decide, gT_tb 74 rfl rfl, inX1, tyX1_ok, nmX1, by decide +kernel, rfl, rfl⟩
theorem fo_X1_35 : FO RX1 35 1 9 (.array .int) true := ⟨RX1, TX1, 12, tyX1, rfl, by decide, gT_tb 75 rfl rfl, inX1, tyX1_ok, nmX1, by decide +kernel, rfl, rfl⟩
theorem fo_X0_38 : FO RX0 38 1 9 (.array .int) true := ⟨RX1, TX1, 12, tyX1, rfl, by decide, gT_tb 76 rfl rfl, inX1, tyX1_ok, nmX1, by decide +kernel, rfl, rfl⟩
theorem fo_X6_170 : FO RX6 170 1 9 (.array .int) true := ⟨RX1, TX1, 12, tyX1, rfl, by decide, gT_tb 77 rfl rfl, inX1, tyX1_ok, nmX1, by decide +kernel, rfl, rfl⟩
theorem fo_X1_38 : FO RX1 38 1 10 (.array .int) true := ⟨RX1, TX1, 12, tyX1, rfl, by decide, gT_tb 78 rfl rfl, inX1, tyX1_ok, nmX1, by decide +kernel, rfl, rfl⟩
theorem fo_X2_26 : FO RX2 26 1 10 (.array .int) true := ⟨RX1, TX1, 12, tyX1, rfl, by decide, gT_tb 79 rfl rfl, inX1, tyX1_ok, nmX1, by decide +kernel, rfl, rfl⟩
theorem fo_X6_194 : FO RX6 194 1 10 (.array .int) true := ⟨RX1, TX1, 12, tyX1, rfl, by decide, gT_tb 80 rfl rfl, inX1, tyX1_ok, nmX1, by decide +kernel, rfl, rfl⟩
theorem fo_X1_41 : FO RX1 41 1 11 (.array .int) true := ⟨RX1, TX1, 12, tyX1, rfl, by decide, gT_tb 81 rfl rfl, inX1, tyX1_ok, nmX1, by decide +kernel, rfl, rfl⟩
theorem fo_X2_32 : FO RX2 32 1 11 (.array .int) true := ⟨RX1, TX1, 12, tyX1, rfl, by decide, gT_tb 82 rfl rfl, inX1, tyX1_ok, nmX1, by decide +kernel, rfl, rfl⟩
theorem fo_X6_191 : FO RX6 191 1 11 (.array .int) true := ⟨RX1, TX1, 12, tyX1, rfl, by decide, gT_tb 83 rfl rfl, inX1, tyX1_ok, nmX1, by decide +kernel, rfl, rfl⟩
theorem fo_X3_15 : FO RX3 15 3 0 .int false := ⟨RX3, TX3, 2, tyX3, rfl, by decide, gT_tb 117 rfl rfl, inX3, tyX3_ok, nmX3, by decide +kernel, rfl, rfl⟩
theorem fo_X6_100 : FO RX6 100 3 0 .int false := ⟨RX3, TX3, 2, tyX3, rfl, by decide, gT_tb 118 rfl rfl, inX3, tyX3_ok, nmX3, by decide +kernel, rfl, rfl⟩
theorem fo_X3_9 : FO RX3 9 3 1 (.array .int) true := ⟨RX3, TX3, 2, tyX3, rfl, by decide, gT_tb 119 rfl rfl, inX3, tyX3_ok, nmX3, by decide +kernel, rfl, rfl⟩
theorem fo_X5_38 : FO RX5 38 5 0 .int false := ⟨RX5, TX5, 11, tyX5, rfl, by decide, gT_tb 132 rfl rfl, inX5, tyX5_ok, nmX5, by decide +kernel, rfl, rfl⟩
theorem fo_X6_135 : FO RX6 135 5 0 .int false := ⟨RX5, TX5, 11, tyX5, rfl, by decide, gT_tb 133 rfl rfl, inX5, tyX5_ok, nmX5, by decide +kernel, rfl, rfl⟩
theorem fo_X5_75 : FO RX5 75 5 1 .int false := ⟨RX5, TX5, 11, tyX5, rfl, by decide, gT_tb 134 rfl rfl, inX5, tyX5_ok, nmX5, by decide +kernel, rfl, rfl⟩
theorem fo_X6_129 : FO RX6 129 5 1 .int false := ⟨RX5, TX5, 11, tyX5, rfl, by decide, gT_tb 135 rfl rfl, inX5, tyX5_ok, nmX5, by decide +kernel, rfl, rfl⟩
theorem fo_X5_9 : FO RX5 9 5 2 (.array .int) false := ⟨RX5, TX5, 11, tyX5, rfl, by decide, gT_tb 136 rfl rfl, inX5, tyX5_ok, nmX5, by decide +kernel, rfl, rfl⟩
theorem fo_X6_142 : FO RX6 142 5 2 (.array .int) false := ⟨RX5, TX5, 11, tyX5, rfl, by decide, gT_tb 137 rfl rfl, inX5, tyX5_ok, nmX5, by decide +kernel, rfl, rfl⟩
theorem fo_X5_15 : FO RX5 15 5 3 (.array .int) false := ⟨RX5, TX5, 11, tyX5, rfl, by decide, gT_tb 138 rfl rfl, inX5, tyX5_ok, nmX5, by decide +kernel, rfl, rfl⟩
theorem fo_X6_139 : FO RX6 139 5 3 (.array .int) false := ⟨RX5, TX5, 11, tyX5, rfl, by decide, gT_tb 139 rfl rfl, inX5, tyX5_ok, nmX5, by decide +kernel, rfl, rfl⟩
theorem fo_X5_30 : FO RX5 30 5 4 (.object "CopiedSkins$Album") true := ⟨RX5, TX5, 11, tyX5, rfl, by decide, gT_tb 140 rfl rfl, inX5, tyX5_ok, nmX5, by decide +kernel, rfl, rfl⟩
theorem fo_X5_34 : FO RX5 34 5 5 .boolean false := ⟨RX5, TX5, 11, tyX5, rfl, by decide, gT_tb 141 rfl rfl, inX5, tyX5_ok, nmX5, by decide +kernel, rfl, rfl⟩
theorem fo_X5_47 : FO RX5 47 5 6 .int false := ⟨RX5, TX5, 11, tyX5, rfl, by decide, gT_tb 142 rfl rfl, inX5, tyX5_ok, nmX5, by decide +kernel, rfl, rfl⟩
theorem fo_X5_51 : FO RX5 51 5 7 .int false := ⟨RX5, TX5, 11, tyX5, rfl, by decide, gT_tb 143 rfl rfl, inX5, tyX5_ok, nmX5, by decide +kernel, rfl, rfl⟩
theorem fo_X5_18 : FO RX5 18 5 8 (.array .int) true := ⟨RX5, TX5, 11, tyX5, rfl, by decide, gT_tb 144 rfl rfl, inX5, tyX5_ok, nmX5, by decide +kernel, rfl, rfl⟩
theorem fo_X5_23 : FO RX5 23 5 9 (.array (.array .int)) true := ⟨RX5, TX5, 11, tyX5, rfl, by decide, gT_tb 145 rfl rfl, inX5, tyX5_ok, nmX5, by decide +kernel, rfl, rfl⟩
theorem fo_X5_26 : FO RX5 26 5 10 (.array .boolean) true := ⟨RX5, TX5, 11, tyX5, rfl, by decide, gT_tb 146 rfl rfl, inX5, tyX5_ok, nmX5, by decide +kernel, rfl, rfl⟩
theorem fo_X0_15 : FO RX0 15 0 0 .int false := ⟨RX0, TX0, 4, tyX0, rfl, by decide, gT_tb 177 rfl rfl, inX0, tyX0_ok, nmX0, by decide +kernel, rfl, rfl⟩
theorem fo_X6_177 : FO RX6 177 0 0 .int false := ⟨RX0, TX0, 4, tyX0, rfl, by decide, gT_tb 178 rfl rfl, inX0, tyX0_ok, nmX0, by decide +kernel, rfl, rfl⟩
theorem fo_X0_19 : FO RX0 19 0 1 .int false := ⟨RX0, TX0, 4, tyX0, rfl, by decide, gT_tb 179 rfl rfl, inX0, tyX0_ok, nmX0, by decide +kernel, rfl, rfl⟩
theorem fo_X6_180 : FO RX6 180 0 1 .int false := ⟨RX0, TX0, 4, tyX0, rfl, by decide, gT_tb 180 rfl rfl, inX0, tyX0_ok, nmX0, by decide +kernel, rfl, rfl⟩
theorem fo_X0_22 : FO RX0 22 0 2 .int false := ⟨RX0, TX0, 4, tyX0, rfl, by decide, gT_tb 181 rfl rfl, inX0, tyX0_ok, nmX0, by decide +kernel, rfl, rfl⟩
theorem fo_X6_176 : FO RX6 176 0 2 .int false := ⟨RX0, TX0, 4, tyX0, rfl, by decide, gT_tb 182 rfl rfl, inX0, tyX0_ok, nmX0, by decide +kernel, rfl, rfl⟩
theorem fo_X0_9 : FO RX0 9 0 3 (.object "CopiedSkins$Album") true := ⟨RX0, TX0, 4, tyX0, rfl, by decide, gT_tb 183 rfl rfl, inX0, tyX0_ok, nmX0, by decide +kernel, rfl, rfl⟩
theorem fo_X2_9 : FO RX2 9 2 0 (.object "CopiedSkins$Album") true := ⟨RX2, TX2, 3, tyX2, rfl, by decide, gT_tb 199 rfl rfl, inX2, tyX2_ok, nmX2, by decide +kernel, rfl, rfl⟩
theorem fo_X2_15 : FO RX2 15 2 1 .int false := ⟨RX2, TX2, 3, tyX2, rfl, by decide, gT_tb 200 rfl rfl, inX2, tyX2_ok, nmX2, by decide +kernel, rfl, rfl⟩
theorem fo_X2_19 : FO RX2 19 2 2 .int false := ⟨RX2, TX2, 3, tyX2, rfl, by decide, gT_tb 201 rfl rfl, inX2, tyX2_ok, nmX2, by decide +kernel, rfl, rfl⟩
theorem fo_X4_24 : FO RX4 24 4 0 .int false := ⟨RX4, TX4, 7, tyX4, rfl, by decide, gT_tb 215 rfl rfl, inX4, tyX4_ok, nmX4, by decide +kernel, rfl, rfl⟩
theorem fo_X6_212 : FO RX6 212 4 0 .int false := ⟨RX4, TX4, 7, tyX4, rfl, by decide, gT_tb 216 rfl rfl, inX4, tyX4_ok, nmX4, by decide +kernel, rfl, rfl⟩
theorem fo_X4_28 : FO RX4 28 4 1 .int false := ⟨RX4, TX4, 7, tyX4, rfl, by decide, gT_tb 217 rfl rfl, inX4, tyX4_ok, nmX4, by decide +kernel, rfl, rfl⟩
theorem fo_X6_221 : FO RX6 221 4 1 .int false := ⟨RX4, TX4, 7, tyX4, rfl, by decide, gT_tb 218 rfl rfl, inX4, tyX4_ok, nmX4, by decide +kernel, rfl, rfl⟩
theorem fo_X4_39 : FO RX4 39 4 2 .int false := ⟨RX4, TX4, 7, tyX4, rfl, by decide, gT_tb 219 rfl rfl, inX4, tyX4_ok, nmX4, by decide +kernel, rfl, rfl⟩
theorem fo_X6_240 : FO RX6 240 4 2 .int false := ⟨RX4, TX4, 7, tyX4, rfl, by decide, gT_tb 220 rfl rfl, inX4, tyX4_ok, nmX4, by decide +kernel, rfl, rfl⟩
theorem fo_X4_9 : FO RX4 9 4 3 (.array .int) true := ⟨RX4, TX4, 7, tyX4, rfl, by decide, gT_tb 221 rfl rfl, inX4, tyX4_ok, nmX4, by decide +kernel, rfl, rfl⟩
theorem fo_X6_227 : FO RX6 227 4 3 (.array .int) true := ⟨RX4, TX4, 7, tyX4, rfl, by decide, gT_tb 222 rfl rfl, inX4, tyX4_ok, nmX4, by decide +kernel, rfl, rfl⟩
theorem fo_X4_15 : FO RX4 15 4 4 (.array .int) true := ⟨RX4, TX4, 7, tyX4, rfl, by decide, gT_tb 223 rfl rfl, inX4, tyX4_ok, nmX4, by decide +kernel, rfl, rfl⟩
theorem fo_X4_18 : FO RX4 18 4 5 (.array .int) true := ⟨RX4, TX4, 7, tyX4, rfl, by decide, gT_tb 224 rfl rfl, inX4, tyX4_ok, nmX4, by decide +kernel, rfl, rfl⟩
theorem fo_X4_21 : FO RX4 21 4 6 (.array .int) true := ⟨RX4, TX4, 7, tyX4, rfl, by decide, gT_tb 225 rfl rfl, inX4, tyX4_ok, nmX4, by decide +kernel, rfl, rfl⟩
theorem fo_X6_10 : FO RX6 10 6 0 (.object "CopiedSkins$Album") true := ⟨RX6, TX6, 7, tyX6, rfl, by decide, gT_tb 241 rfl rfl, inX6, tyX6_ok, nmX6, by decide +kernel, rfl, rfl⟩
theorem fo_X6_16 : FO RX6 16 6 1 (.array (.object "CopiedSkins$Album")) true := ⟨RX6, TX6, 7, tyX6, rfl, by decide, gT_tb 242 rfl rfl, inX6, tyX6_ok, nmX6, by decide +kernel, rfl, rfl⟩
theorem fo_X6_23 : FO RX6 23 6 2 (.object "CopiedSkins$LawText") true := ⟨RX6, TX6, 7, tyX6, rfl, by decide, gT_tb 243 rfl rfl, inX6, tyX6_ok, nmX6, by decide +kernel, rfl, rfl⟩
theorem fo_X6_32 : FO RX6 32 6 3 (.object "CopiedSkins$Trees") true := ⟨RX6, TX6, 7, tyX6, rfl, by decide, gT_tb 244 rfl rfl, inX6, tyX6_ok, nmX6, by decide +kernel, rfl, rfl⟩
theorem fo_X6_39 : FO RX6 39 6 4 (.object "CopiedSkins$Ages") true := ⟨RX6, TX6, 7, tyX6, rfl, by decide, gT_tb 245 rfl rfl, inX6, tyX6_ok, nmX6, by decide +kernel, rfl, rfl⟩
theorem fo_X6_46 : FO RX6 46 6 5 (.object "CopiedSkins$Covers") true := ⟨RX6, TX6, 7, tyX6, rfl, by decide, gT_tb 246 rfl rfl, inX6, tyX6_ok, nmX6, by decide +kernel, rfl, rfl⟩
theorem fo_X6_53 : FO RX6 53 6 6 (.object "CopiedSkins$Needle") true := ⟨RX6, TX6, 7, tyX6, rfl, by decide, gT_tb 247 rfl rfl, inX6, tyX6_ok, nmX6, by decide +kernel, rfl, rfl⟩
set_option maxRecDepth 20000 in
theorem fo_X7_65 : FO RX7 65 7 0 .int false := ⟨RX7, TX7, 30, tyX7, rfl, by decide, gT_tb 600 rfl rfl, inX7, tyX7_ok, nmX7, by decide +kernel, rfl, rfl⟩
set_option maxRecDepth 20000 in
theorem fo_X7_7 : FO RX7 7 7 1 (.array .int) true := ⟨RX7, TX7, 30, tyX7, rfl, by decide, gT_tb 601 rfl rfl, inX7, tyX7_ok, nmX7, by decide +kernel, rfl, rfl⟩
set_option maxRecDepth 20000 in
theorem fo_X7_13 : FO RX7 13 7 2 (.array .int) true := ⟨RX7, TX7, 30, tyX7, rfl, by decide, gT_tb 602 rfl rfl, inX7, tyX7_ok, nmX7, by decide +kernel, rfl, rfl⟩
set_option maxRecDepth 20000 in
theorem fo_X7_16 : FO RX7 16 7 3 (.array .int) true := ⟨RX7, TX7, 30, tyX7, rfl, by decide, gT_tb 603 rfl rfl, inX7, tyX7_ok, nmX7, by decide +kernel, rfl, rfl⟩
set_option maxRecDepth 20000 in
theorem fo_X7_19 : FO RX7 19 7 4 (.array .int) true := ⟨RX7, TX7, 30, tyX7, rfl, by decide, gT_tb 604 rfl rfl, inX7, tyX7_ok, nmX7, by decide +kernel, rfl, rfl⟩
set_option maxRecDepth 20000 in
theorem fo_X7_22 : FO RX7 22 7 5 (.array .int) true := ⟨RX7, TX7, 30, tyX7, rfl, by decide, gT_tb 605 rfl rfl, inX7, tyX7_ok, nmX7, by decide +kernel, rfl, rfl⟩
set_option maxRecDepth 20000 in
theorem fo_X7_88 : FO RX7 88 7 6 .int false := ⟨RX7, TX7, 30, tyX7, rfl, by decide, gT_tb 606 rfl rfl, inX7, tyX7_ok, nmX7, by decide +kernel, rfl, rfl⟩
set_option maxRecDepth 20000 in
theorem fo_X7_25 : FO RX7 25 7 7 (.array .int) true := ⟨RX7, TX7, 30, tyX7, rfl, by decide, gT_tb 607 rfl rfl, inX7, tyX7_ok, nmX7, by decide +kernel, rfl, rfl⟩
set_option maxRecDepth 20000 in
theorem fo_X7_95 : FO RX7 95 7 8 .int false := ⟨RX7, TX7, 30, tyX7, rfl, by decide, gT_tb 608 rfl rfl, inX7, tyX7_ok, nmX7, by decide +kernel, rfl, rfl⟩
set_option maxRecDepth 20000 in
theorem fo_X7_28 : FO RX7 28 7 9 (.array .int) true := ⟨RX7, TX7, 30, tyX7, rfl, by decide, gT_tb 609 rfl rfl, inX7, tyX7_ok, nmX7, by decide +kernel, rfl, rfl⟩
set_option maxRecDepth 20000 in
theorem fo_X7_31 : FO RX7 31 7 10 (.array .int) true := ⟨RX7, TX7, 30, tyX7, rfl, by decide, gT_tb 610 rfl rfl, inX7, tyX7_ok, nmX7, by decide +kernel, rfl, rfl⟩
set_option maxRecDepth 20000 in
theorem fo_X7_34 : FO RX7 34 7 11 (.array .int) true := ⟨RX7, TX7, 30, tyX7, rfl, by decide, gT_tb 611 rfl rfl, inX7, tyX7_ok, nmX7, by decide +kernel, rfl, rfl⟩
set_option maxRecDepth 20000 in
theorem fo_X7_37 : FO RX7 37 7 12 (.array .int) true := ⟨RX7, TX7, 30, tyX7, rfl, by decide, gT_tb 612 rfl rfl, inX7, tyX7_ok, nmX7, by decide +kernel, rfl, rfl⟩
set_option maxRecDepth 20000 in
theorem fo_X7_150 : FO RX7 150 7 13 .int false := ⟨RX7, TX7, 30, tyX7, rfl, by decide, gT_tb 613 rfl rfl, inX7, tyX7_ok, nmX7, by decide +kernel, rfl, rfl⟩
set_option maxRecDepth 20000 in
theorem fo_X7_40 : FO RX7 40 7 14 (.array .int) true := ⟨RX7, TX7, 30, tyX7, rfl, by decide, gT_tb 614 rfl rfl, inX7, tyX7_ok, nmX7, by decide +kernel, rfl, rfl⟩
set_option maxRecDepth 20000 in
theorem fo_X7_156 : FO RX7 156 7 15 .int false := ⟨RX7, TX7, 30, tyX7, rfl, by decide, gT_tb 615 rfl rfl, inX7, tyX7_ok, nmX7, by decide +kernel, rfl, rfl⟩
set_option maxRecDepth 20000 in
theorem fo_X7_43 : FO RX7 43 7 16 (.array .int) true := ⟨RX7, TX7, 30, tyX7, rfl, by decide, gT_tb 616 rfl rfl, inX7, tyX7_ok, nmX7, by decide +kernel, rfl, rfl⟩
set_option maxRecDepth 20000 in
theorem fo_X7_46 : FO RX7 46 7 17 (.array .int) true := ⟨RX7, TX7, 30, tyX7, rfl, by decide, gT_tb 617 rfl rfl, inX7, tyX7_ok, nmX7, by decide +kernel, rfl, rfl⟩
set_option maxRecDepth 20000 in
theorem fo_X7_81 : FO RX7 81 7 18 .boolean false := ⟨RX7, TX7, 30, tyX7, rfl, by decide, gT_tb 618 rfl rfl, inX7, tyX7_ok, nmX7, by decide +kernel, rfl, rfl⟩
set_option maxRecDepth 20000 in
theorem fo_X7_49 : FO RX7 49 7 19 (.array .int) true := ⟨RX7, TX7, 30, tyX7, rfl, by decide, gT_tb 619 rfl rfl, inX7, tyX7_ok, nmX7, by decide +kernel, rfl, rfl⟩
set_option maxRecDepth 20000 in
theorem fo_X7_52 : FO RX7 52 7 20 (.array .int) true := ⟨RX7, TX7, 30, tyX7, rfl, by decide, gT_tb 620 rfl rfl, inX7, tyX7_ok, nmX7, by decide +kernel, rfl, rfl⟩
set_option maxRecDepth 20000 in
theorem fo_X7_55 : FO RX7 55 7 21 (.array .int) true := ⟨RX7, TX7, 30, tyX7, rfl, by decide, gT_tb 621 rfl rfl, inX7, tyX7_ok, nmX7, by decide +kernel, rfl, rfl⟩
set_option maxRecDepth 20000 in
theorem fo_X7_112 : FO RX7 112 7 22 .int false := ⟨RX7, TX7, 30, tyX7, rfl, by decide, gT_tb 622 rfl rfl, inX7, tyX7_ok, nmX7, by decide +kernel, rfl, rfl⟩
set_option maxRecDepth 20000 in
theorem fo_X7_115 : FO RX7 115 7 23 .int false := ⟨RX7, TX7, 30, tyX7, rfl, by decide, gT_tb 623 rfl rfl, inX7, tyX7_ok, nmX7, by decide +kernel, rfl, rfl⟩
set_option maxRecDepth 20000 in
theorem fo_X7_118 : FO RX7 118 7 24 .int false := ⟨RX7, TX7, 30, tyX7, rfl, by decide, gT_tb 624 rfl rfl, inX7, tyX7_ok, nmX7, by decide +kernel, rfl, rfl⟩
set_option maxRecDepth 20000 in
theorem fo_X7_131 : FO RX7 131 7 25 .int false := ⟨RX7, TX7, 30, tyX7, rfl, by decide, gT_tb 625 rfl rfl, inX7, tyX7_ok, nmX7, by decide +kernel, rfl, rfl⟩
set_option maxRecDepth 20000 in
theorem fo_X7_134 : FO RX7 134 7 26 .int false := ⟨RX7, TX7, 30, tyX7, rfl, by decide, gT_tb 626 rfl rfl, inX7, tyX7_ok, nmX7, by decide +kernel, rfl, rfl⟩
set_option maxRecDepth 20000 in
theorem fo_X7_137 : FO RX7 137 7 27 .int false := ⟨RX7, TX7, 30, tyX7, rfl, by decide, gT_tb 627 rfl rfl, inX7, tyX7_ok, nmX7, by decide +kernel, rfl, rfl⟩
set_option maxRecDepth 20000 in
theorem fo_X7_58 : FO RX7 58 7 28 (.array .int) true := ⟨RX7, TX7, 30, tyX7, rfl, by decide, gT_tb 628 rfl rfl, inX7, tyX7_ok, nmX7, by decide +kernel, rfl, rfl⟩
set_option maxRecDepth 20000 in
theorem fo_X7_61 : FO RX7 61 7 29 (.array .boolean) true := ⟨RX7, TX7, 30, tyX7, rfl, by decide, gT_tb 629 rfl rfl, inX7, tyX7_ok, nmX7, by decide +kernel, rfl, rfl⟩
theorem mc_X6_init : MC yX6_init cX6_init 1 none 0 := ⟨gT_tb 38 rfl rfl, gT_tb 24 rfl rfl, by decide +kernel, by decide⟩
theorem mc_X1_init : MC yX1_init cX1_init 3 none 0 := ⟨gT_tb 46 rfl rfl, gT_tb 25 rfl rfl, by decide +kernel, by decide⟩
theorem mc_X3_init : MC yX3_init cX3_init 1 none 0 := ⟨gT_tb 115 rfl rfl, gT_tb 26 rfl rfl, by decide +kernel, by decide⟩
theorem mc_X5_init : MC yX5_init cX5_init 2 none 1 := ⟨gT_tb 129 rfl rfl, gT_tb 27 rfl rfl, by decide +kernel, by decide⟩
theorem mc_X0_init : MC yX0_init cX0_init 2 none 1 := ⟨gT_tb 175 rfl rfl, gT_tb 28 rfl rfl, by decide +kernel, by decide⟩
theorem mc_X2_init : MC yX2_init cX2_init 2 none 1 := ⟨gT_tb 197 rfl rfl, gT_tb 29 rfl rfl, by decide +kernel, by decide⟩
theorem mc_X4_init : MC yX4_init cX4_init 2 none 0 := ⟨gT_tb 213 rfl rfl, gT_tb 30 rfl rfl, by decide +kernel, by decide⟩
theorem mc_X6_picture : MC yX6_picture cX6_picture 4 (some .int) 3 := ⟨gT_tb 266 rfl rfl, gT_tb 24 rfl rfl, by decide +kernel, by decide⟩
theorem mc_X6_isDrawing : MC yX6_isDrawing cX6_isDrawing 1 (some .boolean) 1 := ⟨gT_tb 269 rfl rfl, gT_tb 24 rfl rfl, by decide +kernel, by decide⟩
theorem mc_X6_within : MC yX6_within cX6_within 3 (some .boolean) 3 := ⟨gT_tb 273 rfl rfl, gT_tb 24 rfl rfl, by decide +kernel, by decide⟩
theorem mc_X6_isSpan : MC yX6_isSpan cX6_isSpan 4 (some .boolean) 4 := ⟨gT_tb 276 rfl rfl, gT_tb 24 rfl rfl, by decide +kernel, by decide⟩
theorem mc_X5_forget : MC yX5_forget cX5_forget 1 none 0 := ⟨gT_tb 280 rfl rfl, gT_tb 27 rfl rfl, by decide +kernel, by decide⟩
theorem mc_X1_addPicture : MC yX1_addPicture cX1_addPicture 5 (some .int) 3 := ⟨gT_tb 284 rfl rfl, gT_tb 25 rfl rfl, by decide +kernel, by decide⟩
theorem mc_X6_about : MC yX6_about cX6_about 3 (some .int) 2 := ⟨gT_tb 288 rfl rfl, gT_tb 24 rfl rfl, by decide +kernel, by decide⟩
theorem mc_X1_hasPicture : MC yX1_hasPicture cX1_hasPicture 2 (some .boolean) 1 := ⟨gT_tb 292 rfl rfl, gT_tb 25 rfl rfl, by decide +kernel, by decide⟩
theorem mc_X1_widthOrNone : MC yX1_widthOrNone cX1_widthOrNone 2 (some .int) 1 := ⟨gT_tb 296 rfl rfl, gT_tb 25 rfl rfl, by decide +kernel, by decide⟩
set_option maxRecDepth 20000 in
theorem mc_X6_set : MC yX6_set cX6_set 5 (some .int) 2 := ⟨gT_tb 300 rfl rfl, gT_tb 24 rfl rfl, by decide +kernel, by decide⟩
set_option maxRecDepth 20000 in
theorem mc_X6_say : MC yX6_say cX6_say 2 (some .int) 1 := ⟨gT_tb 304 rfl rfl, gT_tb 24 rfl rfl, by decide +kernel, by decide⟩
set_option maxRecDepth 20000 in
theorem mc_X3_append : MC yX3_append cX3_append 2 none 1 := ⟨gT_tb 308 rfl rfl, gT_tb 26 rfl rfl, by decide +kernel, by decide⟩
set_option maxRecDepth 20000 in
theorem mc_X6_wipe : MC yX6_wipe cX6_wipe 2 (some .int) 0 := ⟨gT_tb 312 rfl rfl, gT_tb 24 rfl rfl, by decide +kernel, by decide⟩
set_option maxRecDepth 20000 in
theorem mc_X6_fault : MC yX6_fault cX6_fault 1 (some .int) 0 := ⟨gT_tb 316 rfl rfl, gT_tb 24 rfl rfl, by decide +kernel, by decide⟩
set_option maxRecDepth 20000 in
theorem mc_X3_faultPlace : MC yX3_faultPlace cX3_faultPlace 3 (some .int) 0 := ⟨gT_tb 320 rfl rfl, gT_tb 26 rfl rfl, by decide +kernel, by decide⟩
set_option maxRecDepth 20000 in
theorem mc_X3_placeAfter : MC yX3_placeAfter cX3_placeAfter 2 (some .int) 2 := ⟨gT_tb 323 rfl rfl, gT_tb 26 rfl rfl, by decide +kernel, by decide⟩
set_option maxRecDepth 20000 in
theorem mc_X3_isDigit : MC yX3_isDigit cX3_isDigit 1 (some .boolean) 1 := ⟨gT_tb 327 rfl rfl, gT_tb 26 rfl rfl, by decide +kernel, by decide⟩
set_option maxRecDepth 20000 in
theorem mc_X3_afterLine : MC yX3_afterLine cX3_afterLine 1 (some .int) 1 := ⟨gT_tb 330 rfl rfl, gT_tb 26 rfl rfl, by decide +kernel, by decide⟩
set_option maxRecDepth 20000 in
theorem mc_X6_law : MC yX6_law cX6_law 1 (some .int) 0 := ⟨gT_tb 334 rfl rfl, gT_tb 24 rfl rfl, by decide +kernel, by decide⟩
set_option maxRecDepth 20000 in
theorem mc_X3_readInto : MC yX3_readInto cX3_readInto 10 (some .int) 1 := ⟨gT_tb 338 rfl rfl, gT_tb 26 rfl rfl, by decide +kernel, by decide⟩
set_option maxRecDepth 20000 in
theorem mc_X3_fill : MC yX3_fill cX3_fill 6 none 4 := ⟨gT_tb 341 rfl rfl, gT_tb 26 rfl rfl, by decide +kernel, by decide⟩
set_option maxRecDepth 20000 in
theorem mc_X3_fits : MC yX3_fits cX3_fits 2 (some .boolean) 2 := ⟨gT_tb 344 rfl rfl, gT_tb 26 rfl rfl, by decide +kernel, by decide⟩
set_option maxRecDepth 20000 in
theorem mc_X6_slip : MC yX6_slip cX6_slip 3 (some .int) 2 := ⟨gT_tb 348 rfl rfl, gT_tb 24 rfl rfl, by decide +kernel, by decide⟩
set_option maxRecDepth 20000 in
theorem mc_X6_cost : MC yX6_cost cX6_cost 3 (some .int) 2 := ⟨gT_tb 352 rfl rfl, gT_tb 24 rfl rfl, by decide +kernel, by decide⟩
set_option maxRecDepth 20000 in
theorem mc_X1_tracingCost : MC yX1_tracingCost cX1_tracingCost 5 (some .int) 2 := ⟨gT_tb 356 rfl rfl, gT_tb 25 rfl rfl, by decide +kernel, by decide⟩
set_option maxRecDepth 20000 in
theorem mc_X6_strokeOf : MC yX6_strokeOf cX6_strokeOf 2 (some .int) 2 := ⟨gT_tb 359 rfl rfl, gT_tb 24 rfl rfl, by decide +kernel, by decide⟩
set_option maxRecDepth 20000 in
theorem mc_X6_least : MC yX6_least cX6_least 2 (some .int) 1 := ⟨gT_tb 363 rfl rfl, gT_tb 24 rfl rfl, by decide +kernel, by decide⟩
set_option maxRecDepth 20000 in
theorem mc_X5_learn : MC yX5_learn cX5_learn 3 none 0 := ⟨gT_tb 367 rfl rfl, gT_tb 27 rfl rfl, by decide +kernel, by decide⟩
set_option maxRecDepth 20000 in
theorem mc_X5_makeRoom : MC yX5_makeRoom cX5_makeRoom 4 none 1 := ⟨gT_tb 371 rfl rfl, gT_tb 27 rfl rfl, by decide +kernel, by decide⟩
set_option maxRecDepth 20000 in
theorem mc_X5_grow : MC yX5_grow cX5_grow 5 none 4 := ⟨gT_tb 375 rfl rfl, gT_tb 27 rfl rfl, by decide +kernel, by decide⟩
set_option maxRecDepth 20000 in
theorem mc_X5_put : MC yX5_put cX5_put 3 none 2 := ⟨gT_tb 379 rfl rfl, gT_tb 27 rfl rfl, by decide +kernel, by decide⟩
set_option maxRecDepth 20000 in
theorem mc_X5_comesFrom : MC yX5_comesFrom cX5_comesFrom 5 (some .boolean) 2 := ⟨gT_tb 383 rfl rfl, gT_tb 27 rfl rfl, by decide +kernel, by decide⟩
set_option maxRecDepth 20000 in
theorem mc_X5_countWithin : MC yX5_countWithin cX5_countWithin 4 (some .int) 1 := ⟨gT_tb 390 rfl rfl, gT_tb 27 rfl rfl, by decide +kernel, by decide⟩
set_option maxRecDepth 20000 in
theorem mc_X6_kept : MC yX6_kept cX6_kept 5 (some .int) 3 := ⟨gT_tb 394 rfl rfl, gT_tb 24 rfl rfl, by decide +kernel, by decide⟩
set_option maxRecDepth 20000 in
theorem mc_X5_placeOfKept : MC yX5_placeOfKept cX5_placeOfKept 5 (some .int) 2 := ⟨gT_tb 398 rfl rfl, gT_tb 27 rfl rfl, by decide +kernel, by decide⟩
set_option maxRecDepth 20000 in
theorem mc_X5_sourceIn : MC yX5_sourceIn cX5_sourceIn 2 (some .int) 2 := ⟨gT_tb 401 rfl rfl, gT_tb 27 rfl rfl, by decide +kernel, by decide⟩
set_option maxRecDepth 20000 in
theorem mc_X6_sure : MC yX6_sure cX6_sure 3 (some .int) 2 := ⟨gT_tb 405 rfl rfl, gT_tb 24 rfl rfl, by decide +kernel, by decide⟩
set_option maxRecDepth 20000 in
theorem mc_X5_alwaysFrom : MC yX5_alwaysFrom cX5_alwaysFrom 5 (some .int) 2 := ⟨gT_tb 409 rfl rfl, gT_tb 27 rfl rfl, by decide +kernel, by decide⟩
set_option maxRecDepth 20000 in
theorem mc_X5_tracedFrom : MC yX5_tracedFrom cX5_tracedFrom 5 (some .int) 2 := ⟨gT_tb 413 rfl rfl, gT_tb 27 rfl rfl, by decide +kernel, by decide⟩
set_option maxRecDepth 20000 in
theorem mc_X6_lost : MC yX6_lost cX6_lost 7 (some .int) 3 := ⟨gT_tb 418 rfl rfl, gT_tb 24 rfl rfl, by decide +kernel, by decide⟩
set_option maxRecDepth 20000 in
theorem mc_X6_hasBit : MC yX6_hasBit cX6_hasBit 2 (some .boolean) 2 := ⟨gT_tb 421 rfl rfl, gT_tb 24 rfl rfl, by decide +kernel, by decide⟩
set_option maxRecDepth 20000 in
theorem mc_X1_lostDrawing : MC yX1_lostDrawing cX1_lostDrawing 9 (some .int) 2 := ⟨gT_tb 425 rfl rfl, gT_tb 25 rfl rfl, by decide +kernel, by decide⟩
set_option maxRecDepth 20000 in
theorem mc_X1_lostStrokeCost : MC yX1_lostStrokeCost cX1_lostStrokeCost 7 (some .int) 4 := ⟨gT_tb 429 rfl rfl, gT_tb 25 rfl rfl, by decide +kernel, by decide⟩
set_option maxRecDepth 20000 in
theorem mc_X1_throughCost : MC yX1_throughCost cX1_throughCost 6 (some .int) 3 := ⟨gT_tb 434 rfl rfl, gT_tb 25 rfl rfl, by decide +kernel, by decide⟩
set_option maxRecDepth 20000 in
theorem mc_X1_straightCost : MC yX1_straightCost cX1_straightCost 5 (some .int) 2 := ⟨gT_tb 439 rfl rfl, gT_tb 25 rfl rfl, by decide +kernel, by decide⟩
set_option maxRecDepth 20000 in
theorem mc_X6_width : MC yX6_width cX6_width 4 (some .int) 2 := ⟨gT_tb 443 rfl rfl, gT_tb 24 rfl rfl, by decide +kernel, by decide⟩
set_option maxRecDepth 20000 in
theorem mc_X6_spread : MC yX6_spread cX6_spread 5 (some .int) 3 := ⟨gT_tb 447 rfl rfl, gT_tb 24 rfl rfl, by decide +kernel, by decide⟩
set_option maxRecDepth 20000 in
theorem mc_X6_aged : MC yX6_aged cX6_aged 3 (some .int) 2 := ⟨gT_tb 451 rfl rfl, gT_tb 24 rfl rfl, by decide +kernel, by decide⟩
set_option maxRecDepth 20000 in
theorem mc_X0_measure : MC yX0_measure cX0_measure 4 none 1 := ⟨gT_tb 455 rfl rfl, gT_tb 28 rfl rfl, by decide +kernel, by decide⟩
set_option maxRecDepth 20000 in
theorem mc_X0_canReach : MC yX0_canReach cX0_canReach 5 (some .boolean) 2 := ⟨gT_tb 459 rfl rfl, gT_tb 28 rfl rfl, by decide +kernel, by decide⟩
set_option maxRecDepth 20000 in
theorem mc_X6_take : MC yX6_take cX6_take 4 (some .int) 1 := ⟨gT_tb 464 rfl rfl, gT_tb 24 rfl rfl, by decide +kernel, by decide⟩
set_option maxRecDepth 20000 in
theorem mc_X6_hide : MC yX6_hide cX6_hide 6 (some .int) 3 := ⟨gT_tb 472 rfl rfl, gT_tb 24 rfl rfl, by decide +kernel, by decide⟩
set_option maxRecDepth 20000 in
theorem mc_X6_hides : MC yX6_hides cX6_hides 3 (some .int) 2 := ⟨gT_tb 476 rfl rfl, gT_tb 24 rfl rfl, by decide +kernel, by decide⟩
set_option maxRecDepth 20000 in
theorem mc_X1_hiddenBy : MC yX1_hiddenBy cX1_hiddenBy 5 (some .int) 1 := ⟨gT_tb 480 rfl rfl, gT_tb 25 rfl rfl, by decide +kernel, by decide⟩
set_option maxRecDepth 20000 in
theorem mc_X6_inkOf : MC yX6_inkOf cX6_inkOf 4 (some .int) 1 := ⟨gT_tb 483 rfl rfl, gT_tb 24 rfl rfl, by decide +kernel, by decide⟩
set_option maxRecDepth 20000 in
theorem mc_X6_cover : MC yX6_cover cX6_cover 2 (some .int) 1 := ⟨gT_tb 488 rfl rfl, gT_tb 24 rfl rfl, by decide +kernel, by decide⟩
set_option maxRecDepth 20000 in
theorem mc_X6_strokesIn : MC yX6_strokesIn cX6_strokesIn 3 (some .int) 1 := ⟨gT_tb 491 rfl rfl, gT_tb 24 rfl rfl, by decide +kernel, by decide⟩
set_option maxRecDepth 20000 in
theorem mc_X2_leastOver : MC yX2_leastOver cX2_leastOver 2 (some .int) 1 := ⟨gT_tb 495 rfl rfl, gT_tb 29 rfl rfl, by decide +kernel, by decide⟩
set_option maxRecDepth 20000 in
theorem mc_X2_search : MC yX2_search cX2_search 6 none 5 := ⟨gT_tb 498 rfl rfl, gT_tb 29 rfl rfl, by decide +kernel, by decide⟩
set_option maxRecDepth 20000 in
theorem mc_X6_under : MC yX6_under cX6_under 5 (some .int) 1 := ⟨gT_tb 502 rfl rfl, gT_tb 24 rfl rfl, by decide +kernel, by decide⟩
set_option maxRecDepth 20000 in
theorem mc_X6_mayLieUnder : MC yX6_mayLieUnder cX6_mayLieUnder 5 (some .boolean) 3 := ⟨gT_tb 505 rfl rfl, gT_tb 24 rfl rfl, by decide +kernel, by decide⟩
set_option maxRecDepth 20000 in
theorem mc_X6_man : MC yX6_man cX6_man 1 (some .int) 0 := ⟨gT_tb 509 rfl rfl, gT_tb 24 rfl rfl, by decide +kernel, by decide⟩
set_option maxRecDepth 20000 in
theorem mc_X6_meet : MC yX6_meet cX6_meet 3 (some .int) 2 := ⟨gT_tb 513 rfl rfl, gT_tb 24 rfl rfl, by decide +kernel, by decide⟩
set_option maxRecDepth 20000 in
theorem mc_X4_hasMan : MC yX4_hasMan cX4_hasMan 2 (some .boolean) 1 := ⟨gT_tb 517 rfl rfl, gT_tb 30 rfl rfl, by decide +kernel, by decide⟩
set_option maxRecDepth 20000 in
theorem mc_X4_lastDay : MC yX4_lastDay cX4_lastDay 1 (some .int) 0 := ⟨gT_tb 521 rfl rfl, gT_tb 30 rfl rfl, by decide +kernel, by decide⟩
set_option maxRecDepth 20000 in
theorem mc_X4_addMeeting : MC yX4_addMeeting cX4_addMeeting 4 (some .int) 2 := ⟨gT_tb 525 rfl rfl, gT_tb 30 rfl rfl, by decide +kernel, by decide⟩
set_option maxRecDepth 20000 in
theorem mc_X6_sick : MC yX6_sick cX6_sick 4 (some .int) 2 := ⟨gT_tb 529 rfl rfl, gT_tb 24 rfl rfl, by decide +kernel, by decide⟩
set_option maxRecDepth 20000 in
theorem mc_X6_from : MC yX6_from cX6_from 2 (some .int) 1 := ⟨gT_tb 533 rfl rfl, gT_tb 24 rfl rfl, by decide +kernel, by decide⟩
set_option maxRecDepth 20000 in
theorem mc_X4_giversOf : MC yX4_giversOf cX4_giversOf 9 (some .int) 3 := ⟨gT_tb 537 rfl rfl, gT_tb 30 rfl rfl, by decide +kernel, by decide⟩
set_option maxRecDepth 20000 in
theorem mc_X4_couldGive : MC yX4_couldGive cX4_couldGive 6 (some .boolean) 4 := ⟨gT_tb 542 rfl rfl, gT_tb 30 rfl rfl, by decide +kernel, by decide⟩
set_option maxRecDepth 20000 in
theorem mc_X6_firsts : MC yX6_firsts cX6_firsts 2 (some .int) 1 := ⟨gT_tb 546 rfl rfl, gT_tb 24 rfl rfl, by decide +kernel, by decide⟩
set_option maxRecDepth 20000 in
theorem mc_X4_sickMen : MC yX4_sickMen cX4_sickMen 3 (some .int) 0 := ⟨gT_tb 550 rfl rfl, gT_tb 30 rfl rfl, by decide +kernel, by decide⟩
set_option maxRecDepth 20000 in
theorem mc_X4_trace : MC yX4_trace cX4_trace 5 none 2 := ⟨gT_tb 554 rfl rfl, gT_tb 30 rfl rfl, by decide +kernel, by decide⟩
set_option maxRecDepth 20000 in
theorem mc_X6_must : MC yX6_must cX6_must 3 (some .int) 2 := ⟨gT_tb 561 rfl rfl, gT_tb 24 rfl rfl, by decide +kernel, by decide⟩
set_option maxRecDepth 20000 in
theorem mc_X4_onAllPathsTo : MC yX4_onAllPathsTo cX4_onAllPathsTo 5 (some .int) 1 := ⟨gT_tb 565 rfl rfl, gT_tb 30 rfl rfl, by decide +kernel, by decide⟩
set_option maxRecDepth 20000 in
theorem mc_X4_shortestPathTo : MC yX4_shortestPathTo cX4_shortestPathTo 5 (some .int) 2 := ⟨gT_tb 569 rfl rfl, gT_tb 30 rfl rfl, by decide +kernel, by decide⟩
set_option maxRecDepth 20000 in
theorem mc_X4_nextTo : MC yX4_nextTo cX4_nextTo 4 (some .int) 1 := ⟨gT_tb 573 rfl rfl, gT_tb 30 rfl rfl, by decide +kernel, by decide⟩
set_option maxRecDepth 20000 in
theorem mc_X6_image : MC yX6_image cX6_image 3 (some .int) 1 := ⟨gT_tb 578 rfl rfl, gT_tb 24 rfl rfl, by decide +kernel, by decide⟩
set_option maxRecDepth 20000 in
theorem mc_X1_copyOf : MC yX1_copyOf cX1_copyOf 3 none 1 := ⟨gT_tb 582 rfl rfl, gT_tb 25 rfl rfl, by decide +kernel, by decide⟩
set_option maxRecDepth 20000 in
theorem mc_X6_restore : MC yX6_restore cX6_restore 3 (some .int) 1 := ⟨gT_tb 589 rfl rfl, gT_tb 24 rfl rfl, by decide +kernel, by decide⟩
set_option maxRecDepth 20000 in
theorem mc_X6_told : MC yX6_told cX6_told 2 (some .int) 1 := ⟨gT_tb 593 rfl rfl, gT_tb 24 rfl rfl, by decide +kernel, by decide⟩
set_option maxRecDepth 20000 in
theorem mc_X7_init : MC yX7_init cX7_init 2 none 0 := ⟨gT_tb 598 rfl rfl, gT_tb 31 rfl rfl, by decide +kernel, by decide⟩
set_option maxRecDepth 20000 in
theorem mc_X7_picture : MC yX7_picture cX7_picture 4 (some .int) 3 := ⟨gT_tb 694 rfl rfl, gT_tb 31 rfl rfl, by decide +kernel, by decide⟩
set_option maxRecDepth 20000 in
theorem mc_X7_isDrawing : MC yX7_isDrawing cX7_isDrawing 1 (some .boolean) 1 := ⟨gT_tb 697 rfl rfl, gT_tb 31 rfl rfl, by decide +kernel, by decide⟩
set_option maxRecDepth 20000 in
theorem mc_X7_in : MC yX7_in cX7_in 3 (some .boolean) 3 := ⟨gT_tb 701 rfl rfl, gT_tb 31 rfl rfl, by decide +kernel, by decide⟩
set_option maxRecDepth 20000 in
theorem mc_X7_isYear : MC yX7_isYear cX7_isYear 1 (some .boolean) 1 := ⟨gT_tb 704 rfl rfl, gT_tb 31 rfl rfl, by decide +kernel, by decide⟩
set_option maxRecDepth 20000 in
theorem mc_X7_about : MC yX7_about cX7_about 3 (some .int) 2 := ⟨gT_tb 708 rfl rfl, gT_tb 31 rfl rfl, by decide +kernel, by decide⟩
set_option maxRecDepth 20000 in
theorem mc_X7_isPicture : MC yX7_isPicture cX7_isPicture 2 (some .boolean) 1 := ⟨gT_tb 712 rfl rfl, gT_tb 31 rfl rfl, by decide +kernel, by decide⟩
set_option maxRecDepth 20000 in
theorem mc_X7_set : MC yX7_set cX7_set 4 (some .int) 2 := ⟨gT_tb 716 rfl rfl, gT_tb 31 rfl rfl, by decide +kernel, by decide⟩
set_option maxRecDepth 20000 in
theorem mc_X7_say : MC yX7_say cX7_say 2 (some .int) 1 := ⟨gT_tb 720 rfl rfl, gT_tb 31 rfl rfl, by decide +kernel, by decide⟩
set_option maxRecDepth 20000 in
theorem mc_X7_wipe : MC yX7_wipe cX7_wipe 2 (some .int) 0 := ⟨gT_tb 724 rfl rfl, gT_tb 31 rfl rfl, by decide +kernel, by decide⟩
set_option maxRecDepth 20000 in
theorem mc_X7_fault : MC yX7_fault cX7_fault 1 (some .int) 0 := ⟨gT_tb 728 rfl rfl, gT_tb 31 rfl rfl, by decide +kernel, by decide⟩
set_option maxRecDepth 20000 in
theorem mc_X7_faultOf : MC yX7_faultOf cX7_faultOf 5 (some .int) 0 := ⟨gT_tb 732 rfl rfl, gT_tb 31 rfl rfl, by decide +kernel, by decide⟩
set_option maxRecDepth 20000 in
theorem mc_X7_law : MC yX7_law cX7_law 2 (some .int) 0 := ⟨gT_tb 736 rfl rfl, gT_tb 31 rfl rfl, by decide +kernel, by decide⟩
set_option maxRecDepth 20000 in
theorem mc_X7_lines : MC yX7_lines cX7_lines 3 (some .int) 0 := ⟨gT_tb 740 rfl rfl, gT_tb 31 rfl rfl, by decide +kernel, by decide⟩
set_option maxRecDepth 20000 in
theorem mc_X7_slip : MC yX7_slip cX7_slip 3 (some .int) 2 := ⟨gT_tb 744 rfl rfl, gT_tb 31 rfl rfl, by decide +kernel, by decide⟩
set_option maxRecDepth 20000 in
theorem mc_X7_laySlips : MC yX7_laySlips cX7_laySlips 8 none 0 := ⟨gT_tb 748 rfl rfl, gT_tb 31 rfl rfl, by decide +kernel, by decide⟩
set_option maxRecDepth 20000 in
theorem mc_X7_cost : MC yX7_cost cX7_cost 3 (some .int) 2 := ⟨gT_tb 752 rfl rfl, gT_tb 31 rfl rfl, by decide +kernel, by decide⟩
set_option maxRecDepth 20000 in
theorem mc_X7_costOf : MC yX7_costOf cX7_costOf 5 (some .int) 2 := ⟨gT_tb 756 rfl rfl, gT_tb 31 rfl rfl, by decide +kernel, by decide⟩
set_option maxRecDepth 20000 in
theorem mc_X7_strokeOf : MC yX7_strokeOf cX7_strokeOf 2 (some .int) 2 := ⟨gT_tb 759 rfl rfl, gT_tb 31 rfl rfl, by decide +kernel, by decide⟩
set_option maxRecDepth 20000 in
theorem mc_X7_least : MC yX7_least cX7_least 2 (some .int) 1 := ⟨gT_tb 763 rfl rfl, gT_tb 31 rfl rfl, by decide +kernel, by decide⟩
set_option maxRecDepth 20000 in
theorem mc_X7_layTrees : MC yX7_layTrees cX7_layTrees 4 none 0 := ⟨gT_tb 767 rfl rfl, gT_tb 31 rfl rfl, by decide +kernel, by decide⟩
set_option maxRecDepth 20000 in
theorem mc_X7_rows : MC yX7_rows cX7_rows 3 (some .int) 0 := ⟨gT_tb 772 rfl rfl, gT_tb 31 rfl rfl, by decide +kernel, by decide⟩
set_option maxRecDepth 20000 in
theorem mc_X7_layRow : MC yX7_layRow cX7_layRow 7 (some .int) 1 := ⟨gT_tb 776 rfl rfl, gT_tb 31 rfl rfl, by decide +kernel, by decide⟩
set_option maxRecDepth 20000 in
theorem mc_X7_kept : MC yX7_kept cX7_kept 8 (some .int) 3 := ⟨gT_tb 780 rfl rfl, gT_tb 31 rfl rfl, by decide +kernel, by decide⟩
set_option maxRecDepth 20000 in
theorem mc_X7_sure : MC yX7_sure cX7_sure 7 (some .int) 2 := ⟨gT_tb 784 rfl rfl, gT_tb 31 rfl rfl, by decide +kernel, by decide⟩
set_option maxRecDepth 20000 in
theorem mc_X7_lost : MC yX7_lost cX7_lost 12 (some .int) 3 := ⟨gT_tb 788 rfl rfl, gT_tb 31 rfl rfl, by decide +kernel, by decide⟩
set_option maxRecDepth 20000 in
theorem mc_X7_width : MC yX7_width cX7_width 4 (some .int) 2 := ⟨gT_tb 792 rfl rfl, gT_tb 31 rfl rfl, by decide +kernel, by decide⟩
set_option maxRecDepth 20000 in
theorem mc_X7_spread : MC yX7_spread cX7_spread 5 (some .int) 3 := ⟨gT_tb 796 rfl rfl, gT_tb 31 rfl rfl, by decide +kernel, by decide⟩
set_option maxRecDepth 20000 in
theorem mc_X7_aged : MC yX7_aged cX7_aged 3 (some .int) 2 := ⟨gT_tb 800 rfl rfl, gT_tb 31 rfl rfl, by decide +kernel, by decide⟩
set_option maxRecDepth 20000 in
theorem mc_X7_layAged : MC yX7_layAged cX7_layAged 6 none 1 := ⟨gT_tb 804 rfl rfl, gT_tb 31 rfl rfl, by decide +kernel, by decide⟩
set_option maxRecDepth 20000 in
theorem mc_X7_take : MC yX7_take cX7_take 4 (some .int) 1 := ⟨gT_tb 808 rfl rfl, gT_tb 31 rfl rfl, by decide +kernel, by decide⟩
set_option maxRecDepth 20000 in
theorem mc_X7_hide : MC yX7_hide cX7_hide 5 (some .int) 3 := ⟨gT_tb 812 rfl rfl, gT_tb 31 rfl rfl, by decide +kernel, by decide⟩
set_option maxRecDepth 20000 in
theorem mc_X7_hides : MC yX7_hides cX7_hides 3 (some .int) 2 := ⟨gT_tb 816 rfl rfl, gT_tb 31 rfl rfl, by decide +kernel, by decide⟩
set_option maxRecDepth 20000 in
theorem mc_X7_hidden : MC yX7_hidden cX7_hidden 5 (some .int) 1 := ⟨gT_tb 820 rfl rfl, gT_tb 31 rfl rfl, by decide +kernel, by decide⟩
set_option maxRecDepth 20000 in
theorem mc_X7_ink : MC yX7_ink cX7_ink 4 (some .int) 1 := ⟨gT_tb 823 rfl rfl, gT_tb 31 rfl rfl, by decide +kernel, by decide⟩
set_option maxRecDepth 20000 in
theorem mc_X7_cover : MC yX7_cover cX7_cover 9 (some .int) 1 := ⟨gT_tb 827 rfl rfl, gT_tb 31 rfl rfl, by decide +kernel, by decide⟩
set_option maxRecDepth 20000 in
theorem mc_X7_under : MC yX7_under cX7_under 8 (some .int) 1 := ⟨gT_tb 831 rfl rfl, gT_tb 31 rfl rfl, by decide +kernel, by decide⟩
set_option maxRecDepth 20000 in
theorem mc_X7_man : MC yX7_man cX7_man 1 (some .int) 0 := ⟨gT_tb 835 rfl rfl, gT_tb 31 rfl rfl, by decide +kernel, by decide⟩
set_option maxRecDepth 20000 in
theorem mc_X7_meet : MC yX7_meet cX7_meet 3 (some .int) 2 := ⟨gT_tb 839 rfl rfl, gT_tb 31 rfl rfl, by decide +kernel, by decide⟩
set_option maxRecDepth 20000 in
theorem mc_X7_isMan : MC yX7_isMan cX7_isMan 2 (some .boolean) 1 := ⟨gT_tb 843 rfl rfl, gT_tb 31 rfl rfl, by decide +kernel, by decide⟩
set_option maxRecDepth 20000 in
theorem mc_X7_sick : MC yX7_sick cX7_sick 4 (some .int) 2 := ⟨gT_tb 847 rfl rfl, gT_tb 31 rfl rfl, by decide +kernel, by decide⟩
set_option maxRecDepth 20000 in
theorem mc_X7_from : MC yX7_from cX7_from 2 (some .int) 1 := ⟨gT_tb 851 rfl rfl, gT_tb 31 rfl rfl, by decide +kernel, by decide⟩
set_option maxRecDepth 20000 in
theorem mc_X7_fromOf : MC yX7_fromOf cX7_fromOf 8 (some .int) 1 := ⟨gT_tb 855 rfl rfl, gT_tb 31 rfl rfl, by decide +kernel, by decide⟩
set_option maxRecDepth 20000 in
theorem mc_X7_firsts : MC yX7_firsts cX7_firsts 2 (some .int) 1 := ⟨gT_tb 859 rfl rfl, gT_tb 31 rfl rfl, by decide +kernel, by decide⟩
set_option maxRecDepth 20000 in
theorem mc_X7_firstSet : MC yX7_firstSet cX7_firstSet 3 (some .int) 0 := ⟨gT_tb 863 rfl rfl, gT_tb 31 rfl rfl, by decide +kernel, by decide⟩
set_option maxRecDepth 20000 in
theorem mc_X7_sickSet : MC yX7_sickSet cX7_sickSet 3 (some .int) 0 := ⟨gT_tb 867 rfl rfl, gT_tb 31 rfl rfl, by decide +kernel, by decide⟩
set_option maxRecDepth 20000 in
theorem mc_X7_must : MC yX7_must cX7_must 6 (some .int) 2 := ⟨gT_tb 871 rfl rfl, gT_tb 31 rfl rfl, by decide +kernel, by decide⟩
set_option maxRecDepth 20000 in
theorem mc_X7_pathTo : MC yX7_pathTo cX7_pathTo 7 (some .int) 2 := ⟨gT_tb 875 rfl rfl, gT_tb 31 rfl rfl, by decide +kernel, by decide⟩
set_option maxRecDepth 20000 in
theorem mc_X7_image : MC yX7_image cX7_image 4 (some .int) 1 := ⟨gT_tb 879 rfl rfl, gT_tb 31 rfl rfl, by decide +kernel, by decide⟩
set_option maxRecDepth 20000 in
theorem mc_X7_restore : MC yX7_restore cX7_restore 4 (some .int) 1 := ⟨gT_tb 883 rfl rfl, gT_tb 31 rfl rfl, by decide +kernel, by decide⟩
set_option maxRecDepth 20000 in
theorem mc_X7_told : MC yX7_told cX7_told 2 (some .int) 1 := ⟨gT_tb 887 rfl rfl, gT_tb 31 rfl rfl, by decide +kernel, by decide⟩
theorem mo_L_9 : MI RL 9 yX6_init cX6_init 1 0 := ⟨mc_X6_init, gT_tb 37 rfl rfl, rfl, Or.inl (gT_tb 36 rfl rfl)⟩
theorem mo_X6_9 : MI RX6 9 yX1_init cX1_init 3 0 := ⟨mc_X1_init, gT_tb 45 rfl rfl, rfl, Or.inl (gT_tb 44 rfl rfl)⟩
theorem mo_X6_22 : MI RX6 22 yX3_init cX3_init 1 0 := ⟨mc_X3_init, gT_tb 114 rfl rfl, rfl, Or.inr (by decide +kernel)⟩
theorem mo_X6_29 : MI RX6 29 yX5_init cX5_init 2 1 := ⟨mc_X5_init, gT_tb 128 rfl rfl, rfl, Or.inl (gT_tb 127 rfl rfl)⟩
theorem mo_X6_38 : MI RX6 38 yX0_init cX0_init 2 1 := ⟨mc_X0_init, gT_tb 174 rfl rfl, rfl, Or.inl (gT_tb 173 rfl rfl)⟩
theorem mo_X6_45 : MI RX6 45 yX2_init cX2_init 2 1 := ⟨mc_X2_init, gT_tb 196 rfl rfl, rfl, Or.inl (gT_tb 195 rfl rfl)⟩
theorem mo_X6_52 : MI RX6 52 yX4_init cX4_init 2 0 := ⟨mc_X4_init, gT_tb 212 rfl rfl, rfl, Or.inl (gT_tb 211 rfl rfl)⟩
theorem mo_L_13 : MV RL 13 6 yX6_picture cX6_picture 4 (some .int) 3 := ⟨mc_X6_picture, gT_tb 264 rfl rfl, gT_tb 263 rfl rfl, RX6, TX6, 7, rfl, gT_tb 265 rfl rfl⟩
theorem mo_X6_57 : MS RX6 57 yX6_isDrawing cX6_isDrawing 1 (some .boolean) 1 := ⟨mc_X6_isDrawing, gT_tb 268 rfl rfl, Or.inl (gT_tb 267 rfl rfl)⟩
theorem mo_X6_93 : MS RX6 93 yX6_within cX6_within 3 (some .boolean) 3 := ⟨mc_X6_within, gT_tb 272 rfl rfl, Or.inl (gT_tb 271 rfl rfl)⟩
theorem mo_X6_61 : MS RX6 61 yX6_isSpan cX6_isSpan 4 (some .boolean) 4 := ⟨mc_X6_isSpan, gT_tb 275 rfl rfl, Or.inl (gT_tb 274 rfl rfl)⟩
theorem mo_X6_69 : MV RX6 69 5 yX5_forget cX5_forget 1 none 0 := ⟨mc_X5_forget, gT_tb 278 rfl rfl, gT_tb 277 rfl rfl, RX5, TX5, 11, rfl, gT_tb 279 rfl rfl⟩
theorem mo_X6_72 : MV RX6 72 1 yX1_addPicture cX1_addPicture 5 (some .int) 3 := ⟨mc_X1_addPicture, gT_tb 282 rfl rfl, gT_tb 281 rfl rfl, RX1, TX1, 12, rfl, gT_tb 283 rfl rfl⟩
theorem mo_L_18 : MV RL 18 6 yX6_about cX6_about 3 (some .int) 2 := ⟨mc_X6_about, gT_tb 286 rfl rfl, gT_tb 285 rfl rfl, RX6, TX6, 7, rfl, gT_tb 287 rfl rfl⟩
theorem mo_X6_76 : MV RX6 76 1 yX1_hasPicture cX1_hasPicture 2 (some .boolean) 1 := ⟨mc_X1_hasPicture, gT_tb 290 rfl rfl, gT_tb 289 rfl rfl, RX1, TX1, 12, rfl, gT_tb 291 rfl rfl⟩
theorem mo_X6_89 : MV RX6 89 1 yX1_widthOrNone cX1_widthOrNone 2 (some .int) 1 := ⟨mc_X1_widthOrNone, gT_tb 294 rfl rfl, gT_tb 293 rfl rfl, RX1, TX1, 12, rfl, gT_tb 295 rfl rfl⟩
theorem mo_L_23 : MV RL 23 6 yX6_set cX6_set 5 (some .int) 2 := ⟨mc_X6_set, gT_tb 298 rfl rfl, gT_tb 297 rfl rfl, RX6, TX6, 7, rfl, gT_tb 299 rfl rfl⟩
set_option maxRecDepth 20000 in
theorem mo_L_27 : MV RL 27 6 yX6_say cX6_say 2 (some .int) 1 := ⟨mc_X6_say, gT_tb 302 rfl rfl, gT_tb 301 rfl rfl, RX6, TX6, 7, rfl, gT_tb 303 rfl rfl⟩
set_option maxRecDepth 20000 in
theorem mo_X6_103 : MV RX6 103 3 yX3_append cX3_append 2 none 1 := ⟨mc_X3_append, gT_tb 306 rfl rfl, gT_tb 305 rfl rfl, RX3, TX3, 2, rfl, gT_tb 307 rfl rfl⟩
set_option maxRecDepth 20000 in
theorem mo_L_32 : MV RL 32 6 yX6_wipe cX6_wipe 2 (some .int) 0 := ⟨mc_X6_wipe, gT_tb 310 rfl rfl, gT_tb 309 rfl rfl, RX6, TX6, 7, rfl, gT_tb 311 rfl rfl⟩
set_option maxRecDepth 20000 in
theorem mo_L_37 : MV RL 37 6 yX6_fault cX6_fault 1 (some .int) 0 := ⟨mc_X6_fault, gT_tb 314 rfl rfl, gT_tb 313 rfl rfl, RX6, TX6, 7, rfl, gT_tb 315 rfl rfl⟩
set_option maxRecDepth 20000 in
theorem mo_X6_107 : MV RX6 107 3 yX3_faultPlace cX3_faultPlace 3 (some .int) 0 := ⟨mc_X3_faultPlace, gT_tb 318 rfl rfl, gT_tb 317 rfl rfl, RX3, TX3, 2, rfl, gT_tb 319 rfl rfl⟩
set_option maxRecDepth 20000 in
theorem mo_X3_19 : MS RX3 19 yX3_placeAfter cX3_placeAfter 2 (some .int) 2 := ⟨mc_X3_placeAfter, gT_tb 322 rfl rfl, Or.inl (gT_tb 321 rfl rfl)⟩
theorem mo_X3_23 : MS RX3 23 yX6_within cX6_within 3 (some .boolean) 3 := ⟨mc_X6_within, gT_tb 272 rfl rfl, Or.inr (by decide +kernel)⟩
set_option maxRecDepth 20000 in
theorem mo_X3_27 : MS RX3 27 yX3_isDigit cX3_isDigit 1 (some .boolean) 1 := ⟨mc_X3_isDigit, gT_tb 326 rfl rfl, Or.inl (gT_tb 325 rfl rfl)⟩
set_option maxRecDepth 20000 in
theorem mo_X3_31 : MS RX3 31 yX3_afterLine cX3_afterLine 1 (some .int) 1 := ⟨mc_X3_afterLine, gT_tb 329 rfl rfl, Or.inl (gT_tb 328 rfl rfl)⟩
set_option maxRecDepth 20000 in
theorem mo_L_41 : MV RL 41 6 yX6_law cX6_law 1 (some .int) 0 := ⟨mc_X6_law, gT_tb 332 rfl rfl, gT_tb 331 rfl rfl, RX6, TX6, 7, rfl, gT_tb 333 rfl rfl⟩
set_option maxRecDepth 20000 in
theorem mo_X6_115 : MV RX6 115 3 yX3_readInto cX3_readInto 10 (some .int) 1 := ⟨mc_X3_readInto, gT_tb 336 rfl rfl, gT_tb 335 rfl rfl, RX3, TX3, 2, rfl, gT_tb 337 rfl rfl⟩
set_option maxRecDepth 20000 in
theorem mo_X3_35 : MS RX3 35 yX3_fill cX3_fill 6 none 4 := ⟨mc_X3_fill, gT_tb 340 rfl rfl, Or.inl (gT_tb 339 rfl rfl)⟩
set_option maxRecDepth 20000 in
theorem mo_X3_39 : MS RX3 39 yX3_fits cX3_fits 2 (some .boolean) 2 := ⟨mc_X3_fits, gT_tb 343 rfl rfl, Or.inl (gT_tb 342 rfl rfl)⟩
set_option maxRecDepth 20000 in
theorem mo_L_45 : MV RL 45 6 yX6_slip cX6_slip 3 (some .int) 2 := ⟨mc_X6_slip, gT_tb 346 rfl rfl, gT_tb 345 rfl rfl, RX6, TX6, 7, rfl, gT_tb 347 rfl rfl⟩
set_option maxRecDepth 20000 in
theorem mo_L_49 : MV RL 49 6 yX6_cost cX6_cost 3 (some .int) 2 := ⟨mc_X6_cost, gT_tb 350 rfl rfl, gT_tb 349 rfl rfl, RX6, TX6, 7, rfl, gT_tb 351 rfl rfl⟩
set_option maxRecDepth 20000 in
theorem mo_X6_122 : MV RX6 122 1 yX1_tracingCost cX1_tracingCost 5 (some .int) 2 := ⟨mc_X1_tracingCost, gT_tb 354 rfl rfl, gT_tb 353 rfl rfl, RX1, TX1, 12, rfl, gT_tb 355 rfl rfl⟩
set_option maxRecDepth 20000 in
theorem mo_X1_57 : MS RX1 57 yX6_strokeOf cX6_strokeOf 2 (some .int) 2 := ⟨mc_X6_strokeOf, gT_tb 358 rfl rfl, Or.inr (by decide +kernel)⟩
set_option maxRecDepth 20000 in
theorem mo_L_53 : MV RL 53 6 yX6_least cX6_least 2 (some .int) 1 := ⟨mc_X6_least, gT_tb 361 rfl rfl, gT_tb 360 rfl rfl, RX6, TX6, 7, rfl, gT_tb 362 rfl rfl⟩
set_option maxRecDepth 20000 in
theorem mo_X6_126 : MV RX6 126 5 yX5_learn cX5_learn 3 none 0 := ⟨mc_X5_learn, gT_tb 365 rfl rfl, gT_tb 364 rfl rfl, RX5, TX5, 11, rfl, gT_tb 366 rfl rfl⟩
set_option maxRecDepth 20000 in
theorem mo_X5_54 : MV RX5 54 5 yX5_makeRoom cX5_makeRoom 4 none 1 := ⟨mc_X5_makeRoom, gT_tb 370 rfl rfl, gT_tb 368 rfl rfl, RX5, TX5, 11, rfl, gT_tb 0 rfl rfl⟩
set_option maxRecDepth 20000 in
theorem mo_X5_61 : MV RX5 61 1 yX1_tracingCost cX1_tracingCost 5 (some .int) 2 := ⟨mc_X1_tracingCost, gT_tb 354 rfl rfl, gT_tb 372 rfl rfl, RX1, TX1, 12, rfl, gT_tb 355 rfl rfl⟩
set_option maxRecDepth 20000 in
theorem mo_X5_71 : MS RX5 71 yX5_grow cX5_grow 5 none 4 := ⟨mc_X5_grow, gT_tb 374 rfl rfl, Or.inl (gT_tb 373 rfl rfl)⟩
set_option maxRecDepth 20000 in
theorem mo_X5_83 : MV RX5 83 5 yX5_put cX5_put 3 none 2 := ⟨mc_X5_put, gT_tb 378 rfl rfl, gT_tb 376 rfl rfl, RX5, TX5, 11, rfl, gT_tb 1 rfl rfl⟩
set_option maxRecDepth 20000 in
theorem mo_X5_87 : MV RX5 87 5 yX5_comesFrom cX5_comesFrom 5 (some .boolean) 2 := ⟨mc_X5_comesFrom, gT_tb 382 rfl rfl, gT_tb 380 rfl rfl, RX5, TX5, 11, rfl, gT_tb 2 rfl rfl⟩
set_option maxRecDepth 20000 in
theorem mo_X6_132 : MV RX6 132 5 yX5_countWithin cX5_countWithin 4 (some .int) 1 := ⟨mc_X5_countWithin, gT_tb 388 rfl rfl, gT_tb 387 rfl rfl, RX5, TX5, 11, rfl, gT_tb 389 rfl rfl⟩
set_option maxRecDepth 20000 in
theorem mo_L_57 : MV RL 57 6 yX6_kept cX6_kept 5 (some .int) 3 := ⟨mc_X6_kept, gT_tb 392 rfl rfl, gT_tb 391 rfl rfl, RX6, TX6, 7, rfl, gT_tb 393 rfl rfl⟩
set_option maxRecDepth 20000 in
theorem mo_X6_136 : MV RX6 136 5 yX5_placeOfKept cX5_placeOfKept 5 (some .int) 2 := ⟨mc_X5_placeOfKept, gT_tb 396 rfl rfl, gT_tb 395 rfl rfl, RX5, TX5, 11, rfl, gT_tb 397 rfl rfl⟩
set_option maxRecDepth 20000 in
theorem mo_X6_145 : MS RX6 145 yX5_sourceIn cX5_sourceIn 2 (some .int) 2 := ⟨mc_X5_sourceIn, gT_tb 400 rfl rfl, Or.inl (gT_tb 399 rfl rfl)⟩
set_option maxRecDepth 20000 in
theorem mo_L_61 : MV RL 61 6 yX6_sure cX6_sure 3 (some .int) 2 := ⟨mc_X6_sure, gT_tb 403 rfl rfl, gT_tb 402 rfl rfl, RX6, TX6, 7, rfl, gT_tb 404 rfl rfl⟩
set_option maxRecDepth 20000 in
theorem mo_X6_148 : MV RX6 148 5 yX5_alwaysFrom cX5_alwaysFrom 5 (some .int) 2 := ⟨mc_X5_alwaysFrom, gT_tb 407 rfl rfl, gT_tb 406 rfl rfl, RX5, TX5, 11, rfl, gT_tb 408 rfl rfl⟩
set_option maxRecDepth 20000 in
theorem mo_X5_91 : MV RX5 91 5 yX5_tracedFrom cX5_tracedFrom 5 (some .int) 2 := ⟨mc_X5_tracedFrom, gT_tb 412 rfl rfl, gT_tb 410 rfl rfl, RX5, TX5, 11, rfl, gT_tb 3 rfl rfl⟩
set_option maxRecDepth 20000 in
theorem mo_X5_94 : MS RX5 94 yX5_sourceIn cX5_sourceIn 2 (some .int) 2 := ⟨mc_X5_sourceIn, gT_tb 400 rfl rfl, Or.inl (gT_tb 414 rfl rfl)⟩
set_option maxRecDepth 20000 in
theorem mo_L_65 : MV RL 65 6 yX6_lost cX6_lost 7 (some .int) 3 := ⟨mc_X6_lost, gT_tb 416 rfl rfl, gT_tb 415 rfl rfl, RX6, TX6, 7, rfl, gT_tb 417 rfl rfl⟩
set_option maxRecDepth 20000 in
theorem mo_X6_151 : MS RX6 151 yX6_hasBit cX6_hasBit 2 (some .boolean) 2 := ⟨mc_X6_hasBit, gT_tb 420 rfl rfl, Or.inl (gT_tb 419 rfl rfl)⟩
set_option maxRecDepth 20000 in
theorem mo_X6_155 : MV RX6 155 1 yX1_lostDrawing cX1_lostDrawing 9 (some .int) 2 := ⟨mc_X1_lostDrawing, gT_tb 423 rfl rfl, gT_tb 422 rfl rfl, RX1, TX1, 12, rfl, gT_tb 424 rfl rfl⟩
set_option maxRecDepth 20000 in
theorem mo_X1_61 : MV RX1 61 1 yX1_lostStrokeCost cX1_lostStrokeCost 7 (some .int) 4 := ⟨mc_X1_lostStrokeCost, gT_tb 428 rfl rfl, gT_tb 426 rfl rfl, RX1, TX1, 12, rfl, gT_tb 4 rfl rfl⟩
set_option maxRecDepth 20000 in
theorem mo_X1_65 : MS RX1 65 yX6_hasBit cX6_hasBit 2 (some .boolean) 2 := ⟨mc_X6_hasBit, gT_tb 420 rfl rfl, Or.inr (by decide +kernel)⟩
set_option maxRecDepth 20000 in
theorem mo_X6_158 : MV RX6 158 1 yX1_throughCost cX1_throughCost 6 (some .int) 3 := ⟨mc_X1_throughCost, gT_tb 432 rfl rfl, gT_tb 431 rfl rfl, RX1, TX1, 12, rfl, gT_tb 433 rfl rfl⟩
set_option maxRecDepth 20000 in
theorem mo_X1_69 : MV RX1 69 1 yX1_tracingCost cX1_tracingCost 5 (some .int) 2 := ⟨mc_X1_tracingCost, gT_tb 354 rfl rfl, gT_tb 435 rfl rfl, RX1, TX1, 12, rfl, gT_tb 355 rfl rfl⟩
set_option maxRecDepth 20000 in
theorem mo_X6_161 : MV RX6 161 1 yX1_straightCost cX1_straightCost 5 (some .int) 2 := ⟨mc_X1_straightCost, gT_tb 437 rfl rfl, gT_tb 436 rfl rfl, RX1, TX1, 12, rfl, gT_tb 438 rfl rfl⟩
set_option maxRecDepth 20000 in
theorem mo_L_69 : MV RL 69 6 yX6_width cX6_width 4 (some .int) 2 := ⟨mc_X6_width, gT_tb 441 rfl rfl, gT_tb 440 rfl rfl, RX6, TX6, 7, rfl, gT_tb 442 rfl rfl⟩
set_option maxRecDepth 20000 in
theorem mo_L_73 : MV RL 73 6 yX6_spread cX6_spread 5 (some .int) 3 := ⟨mc_X6_spread, gT_tb 445 rfl rfl, gT_tb 444 rfl rfl, RX6, TX6, 7, rfl, gT_tb 446 rfl rfl⟩
set_option maxRecDepth 20000 in
theorem mo_L_77 : MV RL 77 6 yX6_aged cX6_aged 3 (some .int) 2 := ⟨mc_X6_aged, gT_tb 449 rfl rfl, gT_tb 448 rfl rfl, RX6, TX6, 7, rfl, gT_tb 450 rfl rfl⟩
set_option maxRecDepth 20000 in
theorem mo_X6_173 : MV RX6 173 0 yX0_measure cX0_measure 4 none 1 := ⟨mc_X0_measure, gT_tb 453 rfl rfl, gT_tb 452 rfl rfl, RX0, TX0, 4, rfl, gT_tb 454 rfl rfl⟩
set_option maxRecDepth 20000 in
theorem mo_X0_31 : MV RX0 31 0 yX0_canReach cX0_canReach 5 (some .boolean) 2 := ⟨mc_X0_canReach, gT_tb 458 rfl rfl, gT_tb 456 rfl rfl, RX0, TX0, 4, rfl, gT_tb 5 rfl rfl⟩
theorem mo_X0_41 : MS RX0 41 yX6_within cX6_within 3 (some .boolean) 3 := ⟨mc_X6_within, gT_tb 272 rfl rfl, Or.inr (by decide +kernel)⟩
set_option maxRecDepth 20000 in
theorem mo_L_81 : MV RL 81 6 yX6_take cX6_take 4 (some .int) 1 := ⟨mc_X6_take, gT_tb 462 rfl rfl, gT_tb 461 rfl rfl, RX6, TX6, 7, rfl, gT_tb 463 rfl rfl⟩
set_option maxRecDepth 20000 in
theorem mo_L_85 : MV RL 85 6 yX6_hide cX6_hide 6 (some .int) 3 := ⟨mc_X6_hide, gT_tb 470 rfl rfl, gT_tb 469 rfl rfl, RX6, TX6, 7, rfl, gT_tb 471 rfl rfl⟩
set_option maxRecDepth 20000 in
theorem mo_L_90 : MV RL 90 6 yX6_hides cX6_hides 3 (some .int) 2 := ⟨mc_X6_hides, gT_tb 474 rfl rfl, gT_tb 473 rfl rfl, RX6, TX6, 7, rfl, gT_tb 475 rfl rfl⟩
set_option maxRecDepth 20000 in
theorem mo_X6_197 : MV RX6 197 1 yX1_hiddenBy cX1_hiddenBy 5 (some .int) 1 := ⟨mc_X1_hiddenBy, gT_tb 478 rfl rfl, gT_tb 477 rfl rfl, RX1, TX1, 12, rfl, gT_tb 479 rfl rfl⟩
set_option maxRecDepth 20000 in
theorem mo_X6_200 : MS RX6 200 yX6_inkOf cX6_inkOf 4 (some .int) 1 := ⟨mc_X6_inkOf, gT_tb 482 rfl rfl, Or.inl (gT_tb 481 rfl rfl)⟩
set_option maxRecDepth 20000 in
theorem mo_X6_253 : MS RX6 253 yX6_strokeOf cX6_strokeOf 2 (some .int) 2 := ⟨mc_X6_strokeOf, gT_tb 358 rfl rfl, Or.inl (gT_tb 484 rfl rfl)⟩
set_option maxRecDepth 20000 in
theorem mo_L_94 : MV RL 94 6 yX6_cover cX6_cover 2 (some .int) 1 := ⟨mc_X6_cover, gT_tb 486 rfl rfl, gT_tb 485 rfl rfl, RX6, TX6, 7, rfl, gT_tb 487 rfl rfl⟩
set_option maxRecDepth 20000 in
theorem mo_X6_203 : MS RX6 203 yX6_strokesIn cX6_strokesIn 3 (some .int) 1 := ⟨mc_X6_strokesIn, gT_tb 490 rfl rfl, Or.inl (gT_tb 489 rfl rfl)⟩
set_option maxRecDepth 20000 in
theorem mo_X6_206 : MV RX6 206 2 yX2_leastOver cX2_leastOver 2 (some .int) 1 := ⟨mc_X2_leastOver, gT_tb 493 rfl rfl, gT_tb 492 rfl rfl, RX2, TX2, 3, rfl, gT_tb 494 rfl rfl⟩
set_option maxRecDepth 20000 in
theorem mo_X2_22 : MS RX2 22 yX2_search cX2_search 6 none 5 := ⟨mc_X2_search, gT_tb 497 rfl rfl, Or.inl (gT_tb 496 rfl rfl)⟩
set_option maxRecDepth 20000 in
theorem mo_L_98 : MV RL 98 6 yX6_under cX6_under 5 (some .int) 1 := ⟨mc_X6_under, gT_tb 500 rfl rfl, gT_tb 499 rfl rfl, RX6, TX6, 7, rfl, gT_tb 501 rfl rfl⟩
set_option maxRecDepth 20000 in
theorem mo_X6_209 : MS RX6 209 yX6_mayLieUnder cX6_mayLieUnder 5 (some .boolean) 3 := ⟨mc_X6_mayLieUnder, gT_tb 504 rfl rfl, Or.inl (gT_tb 503 rfl rfl)⟩
set_option maxRecDepth 20000 in
theorem mo_L_102 : MV RL 102 6 yX6_man cX6_man 1 (some .int) 0 := ⟨mc_X6_man, gT_tb 507 rfl rfl, gT_tb 506 rfl rfl, RX6, TX6, 7, rfl, gT_tb 508 rfl rfl⟩
set_option maxRecDepth 20000 in
theorem mo_L_106 : MV RL 106 6 yX6_meet cX6_meet 3 (some .int) 2 := ⟨mc_X6_meet, gT_tb 511 rfl rfl, gT_tb 510 rfl rfl, RX6, TX6, 7, rfl, gT_tb 512 rfl rfl⟩
set_option maxRecDepth 20000 in
theorem mo_X6_215 : MV RX6 215 4 yX4_hasMan cX4_hasMan 2 (some .boolean) 1 := ⟨mc_X4_hasMan, gT_tb 515 rfl rfl, gT_tb 514 rfl rfl, RX4, TX4, 7, rfl, gT_tb 516 rfl rfl⟩
set_option maxRecDepth 20000 in
theorem mo_X6_218 : MV RX6 218 4 yX4_lastDay cX4_lastDay 1 (some .int) 0 := ⟨mc_X4_lastDay, gT_tb 519 rfl rfl, gT_tb 518 rfl rfl, RX4, TX4, 7, rfl, gT_tb 520 rfl rfl⟩
set_option maxRecDepth 20000 in
theorem mo_X6_224 : MV RX6 224 4 yX4_addMeeting cX4_addMeeting 4 (some .int) 2 := ⟨mc_X4_addMeeting, gT_tb 523 rfl rfl, gT_tb 522 rfl rfl, RX4, TX4, 7, rfl, gT_tb 524 rfl rfl⟩
set_option maxRecDepth 20000 in
theorem mo_L_110 : MV RL 110 6 yX6_sick cX6_sick 4 (some .int) 2 := ⟨mc_X6_sick, gT_tb 527 rfl rfl, gT_tb 526 rfl rfl, RX6, TX6, 7, rfl, gT_tb 528 rfl rfl⟩
set_option maxRecDepth 20000 in
theorem mo_L_114 : MV RL 114 6 yX6_from cX6_from 2 (some .int) 1 := ⟨mc_X6_from, gT_tb 531 rfl rfl, gT_tb 530 rfl rfl, RX6, TX6, 7, rfl, gT_tb 532 rfl rfl⟩
set_option maxRecDepth 20000 in
theorem mo_X6_230 : MV RX6 230 4 yX4_giversOf cX4_giversOf 9 (some .int) 3 := ⟨mc_X4_giversOf, gT_tb 535 rfl rfl, gT_tb 534 rfl rfl, RX4, TX4, 7, rfl, gT_tb 536 rfl rfl⟩
theorem mo_X4_31 : MS RX4 31 yX6_within cX6_within 3 (some .boolean) 3 := ⟨mc_X6_within, gT_tb 272 rfl rfl, Or.inr (by decide +kernel)⟩
set_option maxRecDepth 20000 in
theorem mo_X4_35 : MV RX4 35 4 yX4_couldGive cX4_couldGive 6 (some .boolean) 4 := ⟨mc_X4_couldGive, gT_tb 541 rfl rfl, gT_tb 539 rfl rfl, RX4, TX4, 7, rfl, gT_tb 6 rfl rfl⟩
set_option maxRecDepth 20000 in
theorem mo_L_118 : MV RL 118 6 yX6_firsts cX6_firsts 2 (some .int) 1 := ⟨mc_X6_firsts, gT_tb 544 rfl rfl, gT_tb 543 rfl rfl, RX6, TX6, 7, rfl, gT_tb 545 rfl rfl⟩
set_option maxRecDepth 20000 in
theorem mo_X6_233 : MV RX6 233 4 yX4_sickMen cX4_sickMen 3 (some .int) 0 := ⟨mc_X4_sickMen, gT_tb 548 rfl rfl, gT_tb 547 rfl rfl, RX4, TX4, 7, rfl, gT_tb 549 rfl rfl⟩
set_option maxRecDepth 20000 in
theorem mo_X6_236 : MV RX6 236 4 yX4_trace cX4_trace 5 none 2 := ⟨mc_X4_trace, gT_tb 552 rfl rfl, gT_tb 551 rfl rfl, RX4, TX4, 7, rfl, gT_tb 553 rfl rfl⟩
set_option maxRecDepth 20000 in
theorem mo_X4_42 : MV RX4 42 4 yX4_sickMen cX4_sickMen 3 (some .int) 0 := ⟨mc_X4_sickMen, gT_tb 548 rfl rfl, gT_tb 555 rfl rfl, RX4, TX4, 7, rfl, gT_tb 549 rfl rfl⟩
set_option maxRecDepth 20000 in
theorem mo_X4_46 : MV RX4 46 4 yX4_giversOf cX4_giversOf 9 (some .int) 3 := ⟨mc_X4_giversOf, gT_tb 535 rfl rfl, gT_tb 556 rfl rfl, RX4, TX4, 7, rfl, gT_tb 536 rfl rfl⟩
set_option maxRecDepth 20000 in
theorem mo_X4_50 : MS RX4 50 yX6_hasBit cX6_hasBit 2 (some .boolean) 2 := ⟨mc_X6_hasBit, gT_tb 420 rfl rfl, Or.inr (by decide +kernel)⟩
set_option maxRecDepth 20000 in
theorem mo_L_122 : MV RL 122 6 yX6_must cX6_must 3 (some .int) 2 := ⟨mc_X6_must, gT_tb 559 rfl rfl, gT_tb 558 rfl rfl, RX6, TX6, 7, rfl, gT_tb 560 rfl rfl⟩
set_option maxRecDepth 20000 in
theorem mo_X6_243 : MV RX6 243 4 yX4_onAllPathsTo cX4_onAllPathsTo 5 (some .int) 1 := ⟨mc_X4_onAllPathsTo, gT_tb 563 rfl rfl, gT_tb 562 rfl rfl, RX4, TX4, 7, rfl, gT_tb 564 rfl rfl⟩
set_option maxRecDepth 20000 in
theorem mo_X4_58 : MV RX4 58 4 yX4_shortestPathTo cX4_shortestPathTo 5 (some .int) 2 := ⟨mc_X4_shortestPathTo, gT_tb 567 rfl rfl, gT_tb 566 rfl rfl, RX4, TX4, 7, rfl, gT_tb 568 rfl rfl⟩
set_option maxRecDepth 20000 in
theorem mo_X4_54 : MV RX4 54 4 yX4_nextTo cX4_nextTo 4 (some .int) 1 := ⟨mc_X4_nextTo, gT_tb 572 rfl rfl, gT_tb 570 rfl rfl, RX4, TX4, 7, rfl, gT_tb 7 rfl rfl⟩
set_option maxRecDepth 20000 in
theorem mo_X6_246 : MV RX6 246 4 yX4_shortestPathTo cX4_shortestPathTo 5 (some .int) 2 := ⟨mc_X4_shortestPathTo, gT_tb 567 rfl rfl, gT_tb 574 rfl rfl, RX4, TX4, 7, rfl, gT_tb 568 rfl rfl⟩
set_option maxRecDepth 20000 in
theorem mo_L_126 : MV RL 126 6 yX6_image cX6_image 3 (some .int) 1 := ⟨mc_X6_image, gT_tb 576 rfl rfl, gT_tb 575 rfl rfl, RX6, TX6, 7, rfl, gT_tb 577 rfl rfl⟩
set_option maxRecDepth 20000 in
theorem mo_X6_249 : MV RX6 249 1 yX1_copyOf cX1_copyOf 3 none 1 := ⟨mc_X1_copyOf, gT_tb 580 rfl rfl, gT_tb 579 rfl rfl, RX1, TX1, 12, rfl, gT_tb 581 rfl rfl⟩
set_option maxRecDepth 20000 in
theorem mo_L_130 : MV RL 130 6 yX6_restore cX6_restore 3 (some .int) 1 := ⟨mc_X6_restore, gT_tb 587 rfl rfl, gT_tb 586 rfl rfl, RX6, TX6, 7, rfl, gT_tb 588 rfl rfl⟩
set_option maxRecDepth 20000 in
theorem mo_L_134 : MV RL 134 6 yX6_told cX6_told 2 (some .int) 1 := ⟨mc_X6_told, gT_tb 591 rfl rfl, gT_tb 590 rfl rfl, RX6, TX6, 7, rfl, gT_tb 592 rfl rfl⟩
set_option maxRecDepth 20000 in
theorem mo_L_12 : MI RL 12 yX7_init cX7_init 2 0 := ⟨mc_X7_init, gT_tb 597 rfl rfl, rfl, Or.inl (gT_tb 596 rfl rfl)⟩
set_option maxRecDepth 20000 in
theorem mo_L_17 : MV RL 17 7 yX7_picture cX7_picture 4 (some .int) 3 := ⟨mc_X7_picture, gT_tb 692 rfl rfl, gT_tb 691 rfl rfl, RX7, TX7, 30, rfl, gT_tb 693 rfl rfl⟩
set_option maxRecDepth 20000 in
theorem mo_X7_74 : MS RX7 74 yX7_isDrawing cX7_isDrawing 1 (some .boolean) 1 := ⟨mc_X7_isDrawing, gT_tb 696 rfl rfl, Or.inl (gT_tb 695 rfl rfl)⟩
set_option maxRecDepth 20000 in
theorem mo_X7_69 : MS RX7 69 yX7_in cX7_in 3 (some .boolean) 3 := ⟨mc_X7_in, gT_tb 700 rfl rfl, Or.inl (gT_tb 699 rfl rfl)⟩
set_option maxRecDepth 20000 in
theorem mo_X7_78 : MS RX7 78 yX7_isYear cX7_isYear 1 (some .boolean) 1 := ⟨mc_X7_isYear, gT_tb 703 rfl rfl, Or.inl (gT_tb 702 rfl rfl)⟩
set_option maxRecDepth 20000 in
theorem mo_L_22 : MV RL 22 7 yX7_about cX7_about 3 (some .int) 2 := ⟨mc_X7_about, gT_tb 706 rfl rfl, gT_tb 705 rfl rfl, RX7, TX7, 30, rfl, gT_tb 707 rfl rfl⟩
set_option maxRecDepth 20000 in
theorem mo_X7_85 : MV RX7 85 7 yX7_isPicture cX7_isPicture 2 (some .boolean) 1 := ⟨mc_X7_isPicture, gT_tb 711 rfl rfl, gT_tb 709 rfl rfl, RX7, TX7, 30, rfl, gT_tb 8 rfl rfl⟩
set_option maxRecDepth 20000 in
theorem mo_L_26 : MV RL 26 7 yX7_set cX7_set 4 (some .int) 2 := ⟨mc_X7_set, gT_tb 714 rfl rfl, gT_tb 713 rfl rfl, RX7, TX7, 30, rfl, gT_tb 715 rfl rfl⟩
set_option maxRecDepth 20000 in
theorem mo_L_31 : MV RL 31 7 yX7_say cX7_say 2 (some .int) 1 := ⟨mc_X7_say, gT_tb 718 rfl rfl, gT_tb 717 rfl rfl, RX7, TX7, 30, rfl, gT_tb 719 rfl rfl⟩
set_option maxRecDepth 20000 in
theorem mo_L_36 : MV RL 36 7 yX7_wipe cX7_wipe 2 (some .int) 0 := ⟨mc_X7_wipe, gT_tb 722 rfl rfl, gT_tb 721 rfl rfl, RX7, TX7, 30, rfl, gT_tb 723 rfl rfl⟩
set_option maxRecDepth 20000 in
theorem mo_L_40 : MV RL 40 7 yX7_fault cX7_fault 1 (some .int) 0 := ⟨mc_X7_fault, gT_tb 726 rfl rfl, gT_tb 725 rfl rfl, RX7, TX7, 30, rfl, gT_tb 727 rfl rfl⟩
set_option maxRecDepth 20000 in
theorem mo_X7_91 : MV RX7 91 7 yX7_faultOf cX7_faultOf 5 (some .int) 0 := ⟨mc_X7_faultOf, gT_tb 731 rfl rfl, gT_tb 729 rfl rfl, RX7, TX7, 30, rfl, gT_tb 9 rfl rfl⟩
set_option maxRecDepth 20000 in
theorem mo_L_44 : MV RL 44 7 yX7_law cX7_law 2 (some .int) 0 := ⟨mc_X7_law, gT_tb 734 rfl rfl, gT_tb 733 rfl rfl, RX7, TX7, 30, rfl, gT_tb 735 rfl rfl⟩
set_option maxRecDepth 20000 in
theorem mo_X7_98 : MV RX7 98 7 yX7_lines cX7_lines 3 (some .int) 0 := ⟨mc_X7_lines, gT_tb 739 rfl rfl, gT_tb 737 rfl rfl, RX7, TX7, 30, rfl, gT_tb 10 rfl rfl⟩
set_option maxRecDepth 20000 in
theorem mo_L_48 : MV RL 48 7 yX7_slip cX7_slip 3 (some .int) 2 := ⟨mc_X7_slip, gT_tb 742 rfl rfl, gT_tb 741 rfl rfl, RX7, TX7, 30, rfl, gT_tb 743 rfl rfl⟩
set_option maxRecDepth 20000 in
theorem mo_X7_101 : MV RX7 101 7 yX7_laySlips cX7_laySlips 8 none 0 := ⟨mc_X7_laySlips, gT_tb 747 rfl rfl, gT_tb 745 rfl rfl, RX7, TX7, 30, rfl, gT_tb 11 rfl rfl⟩
set_option maxRecDepth 20000 in
theorem mo_L_52 : MV RL 52 7 yX7_cost cX7_cost 3 (some .int) 2 := ⟨mc_X7_cost, gT_tb 750 rfl rfl, gT_tb 749 rfl rfl, RX7, TX7, 30, rfl, gT_tb 751 rfl rfl⟩
set_option maxRecDepth 20000 in
theorem mo_X7_108 : MV RX7 108 7 yX7_costOf cX7_costOf 5 (some .int) 2 := ⟨mc_X7_costOf, gT_tb 755 rfl rfl, gT_tb 753 rfl rfl, RX7, TX7, 30, rfl, gT_tb 12 rfl rfl⟩
set_option maxRecDepth 20000 in
theorem mo_X7_104 : MS RX7 104 yX7_strokeOf cX7_strokeOf 2 (some .int) 2 := ⟨mc_X7_strokeOf, gT_tb 758 rfl rfl, Or.inl (gT_tb 757 rfl rfl)⟩
set_option maxRecDepth 20000 in
theorem mo_L_56 : MV RL 56 7 yX7_least cX7_least 2 (some .int) 1 := ⟨mc_X7_least, gT_tb 761 rfl rfl, gT_tb 760 rfl rfl, RX7, TX7, 30, rfl, gT_tb 762 rfl rfl⟩
set_option maxRecDepth 20000 in
theorem mo_X7_128 : MV RX7 128 7 yX7_layTrees cX7_layTrees 4 none 0 := ⟨mc_X7_layTrees, gT_tb 766 rfl rfl, gT_tb 764 rfl rfl, RX7, TX7, 30, rfl, gT_tb 13 rfl rfl⟩
set_option maxRecDepth 20000 in
theorem mo_X7_121 : MV RX7 121 7 yX7_rows cX7_rows 3 (some .int) 0 := ⟨mc_X7_rows, gT_tb 771 rfl rfl, gT_tb 769 rfl rfl, RX7, TX7, 30, rfl, gT_tb 14 rfl rfl⟩
set_option maxRecDepth 20000 in
theorem mo_X7_124 : MV RX7 124 7 yX7_layRow cX7_layRow 7 (some .int) 1 := ⟨mc_X7_layRow, gT_tb 775 rfl rfl, gT_tb 773 rfl rfl, RX7, TX7, 30, rfl, gT_tb 15 rfl rfl⟩
set_option maxRecDepth 20000 in
theorem mo_L_60 : MV RL 60 7 yX7_kept cX7_kept 8 (some .int) 3 := ⟨mc_X7_kept, gT_tb 778 rfl rfl, gT_tb 777 rfl rfl, RX7, TX7, 30, rfl, gT_tb 779 rfl rfl⟩
set_option maxRecDepth 20000 in
theorem mo_L_64 : MV RL 64 7 yX7_sure cX7_sure 7 (some .int) 2 := ⟨mc_X7_sure, gT_tb 782 rfl rfl, gT_tb 781 rfl rfl, RX7, TX7, 30, rfl, gT_tb 783 rfl rfl⟩
set_option maxRecDepth 20000 in
theorem mo_L_68 : MV RL 68 7 yX7_lost cX7_lost 12 (some .int) 3 := ⟨mc_X7_lost, gT_tb 786 rfl rfl, gT_tb 785 rfl rfl, RX7, TX7, 30, rfl, gT_tb 787 rfl rfl⟩
set_option maxRecDepth 20000 in
theorem mo_L_72 : MV RL 72 7 yX7_width cX7_width 4 (some .int) 2 := ⟨mc_X7_width, gT_tb 790 rfl rfl, gT_tb 789 rfl rfl, RX7, TX7, 30, rfl, gT_tb 791 rfl rfl⟩
set_option maxRecDepth 20000 in
theorem mo_L_76 : MV RL 76 7 yX7_spread cX7_spread 5 (some .int) 3 := ⟨mc_X7_spread, gT_tb 794 rfl rfl, gT_tb 793 rfl rfl, RX7, TX7, 30, rfl, gT_tb 795 rfl rfl⟩
set_option maxRecDepth 20000 in
theorem mo_L_80 : MV RL 80 7 yX7_aged cX7_aged 3 (some .int) 2 := ⟨mc_X7_aged, gT_tb 798 rfl rfl, gT_tb 797 rfl rfl, RX7, TX7, 30, rfl, gT_tb 799 rfl rfl⟩
set_option maxRecDepth 20000 in
theorem mo_X7_140 : MV RX7 140 7 yX7_layAged cX7_layAged 6 none 1 := ⟨mc_X7_layAged, gT_tb 803 rfl rfl, gT_tb 801 rfl rfl, RX7, TX7, 30, rfl, gT_tb 16 rfl rfl⟩
set_option maxRecDepth 20000 in
theorem mo_L_84 : MV RL 84 7 yX7_take cX7_take 4 (some .int) 1 := ⟨mc_X7_take, gT_tb 806 rfl rfl, gT_tb 805 rfl rfl, RX7, TX7, 30, rfl, gT_tb 807 rfl rfl⟩
set_option maxRecDepth 20000 in
theorem mo_L_89 : MV RL 89 7 yX7_hide cX7_hide 5 (some .int) 3 := ⟨mc_X7_hide, gT_tb 810 rfl rfl, gT_tb 809 rfl rfl, RX7, TX7, 30, rfl, gT_tb 811 rfl rfl⟩
set_option maxRecDepth 20000 in
theorem mo_L_93 : MV RL 93 7 yX7_hides cX7_hides 3 (some .int) 2 := ⟨mc_X7_hides, gT_tb 814 rfl rfl, gT_tb 813 rfl rfl, RX7, TX7, 30, rfl, gT_tb 815 rfl rfl⟩
set_option maxRecDepth 20000 in
theorem mo_X7_144 : MV RX7 144 7 yX7_hidden cX7_hidden 5 (some .int) 1 := ⟨mc_X7_hidden, gT_tb 819 rfl rfl, gT_tb 817 rfl rfl, RX7, TX7, 30, rfl, gT_tb 17 rfl rfl⟩
set_option maxRecDepth 20000 in
theorem mo_X7_147 : MS RX7 147 yX7_ink cX7_ink 4 (some .int) 1 := ⟨mc_X7_ink, gT_tb 822 rfl rfl, Or.inl (gT_tb 821 rfl rfl)⟩
set_option maxRecDepth 20000 in
theorem mo_L_97 : MV RL 97 7 yX7_cover cX7_cover 9 (some .int) 1 := ⟨mc_X7_cover, gT_tb 825 rfl rfl, gT_tb 824 rfl rfl, RX7, TX7, 30, rfl, gT_tb 826 rfl rfl⟩
set_option maxRecDepth 20000 in
theorem mo_L_101 : MV RL 101 7 yX7_under cX7_under 8 (some .int) 1 := ⟨mc_X7_under, gT_tb 829 rfl rfl, gT_tb 828 rfl rfl, RX7, TX7, 30, rfl, gT_tb 830 rfl rfl⟩
set_option maxRecDepth 20000 in
theorem mo_L_105 : MV RL 105 7 yX7_man cX7_man 1 (some .int) 0 := ⟨mc_X7_man, gT_tb 833 rfl rfl, gT_tb 832 rfl rfl, RX7, TX7, 30, rfl, gT_tb 834 rfl rfl⟩
set_option maxRecDepth 20000 in
theorem mo_L_109 : MV RL 109 7 yX7_meet cX7_meet 3 (some .int) 2 := ⟨mc_X7_meet, gT_tb 837 rfl rfl, gT_tb 836 rfl rfl, RX7, TX7, 30, rfl, gT_tb 838 rfl rfl⟩
set_option maxRecDepth 20000 in
theorem mo_X7_153 : MV RX7 153 7 yX7_isMan cX7_isMan 2 (some .boolean) 1 := ⟨mc_X7_isMan, gT_tb 842 rfl rfl, gT_tb 840 rfl rfl, RX7, TX7, 30, rfl, gT_tb 18 rfl rfl⟩
set_option maxRecDepth 20000 in
theorem mo_L_113 : MV RL 113 7 yX7_sick cX7_sick 4 (some .int) 2 := ⟨mc_X7_sick, gT_tb 845 rfl rfl, gT_tb 844 rfl rfl, RX7, TX7, 30, rfl, gT_tb 846 rfl rfl⟩
set_option maxRecDepth 20000 in
theorem mo_L_117 : MV RL 117 7 yX7_from cX7_from 2 (some .int) 1 := ⟨mc_X7_from, gT_tb 849 rfl rfl, gT_tb 848 rfl rfl, RX7, TX7, 30, rfl, gT_tb 850 rfl rfl⟩
set_option maxRecDepth 20000 in
theorem mo_X7_159 : MV RX7 159 7 yX7_fromOf cX7_fromOf 8 (some .int) 1 := ⟨mc_X7_fromOf, gT_tb 854 rfl rfl, gT_tb 852 rfl rfl, RX7, TX7, 30, rfl, gT_tb 19 rfl rfl⟩
set_option maxRecDepth 20000 in
theorem mo_L_121 : MV RL 121 7 yX7_firsts cX7_firsts 2 (some .int) 1 := ⟨mc_X7_firsts, gT_tb 857 rfl rfl, gT_tb 856 rfl rfl, RX7, TX7, 30, rfl, gT_tb 858 rfl rfl⟩
set_option maxRecDepth 20000 in
theorem mo_X7_165 : MV RX7 165 7 yX7_firstSet cX7_firstSet 3 (some .int) 0 := ⟨mc_X7_firstSet, gT_tb 862 rfl rfl, gT_tb 860 rfl rfl, RX7, TX7, 30, rfl, gT_tb 20 rfl rfl⟩
set_option maxRecDepth 20000 in
theorem mo_X7_162 : MV RX7 162 7 yX7_sickSet cX7_sickSet 3 (some .int) 0 := ⟨mc_X7_sickSet, gT_tb 866 rfl rfl, gT_tb 864 rfl rfl, RX7, TX7, 30, rfl, gT_tb 21 rfl rfl⟩
set_option maxRecDepth 20000 in
theorem mo_L_125 : MV RL 125 7 yX7_must cX7_must 6 (some .int) 2 := ⟨mc_X7_must, gT_tb 869 rfl rfl, gT_tb 868 rfl rfl, RX7, TX7, 30, rfl, gT_tb 870 rfl rfl⟩
set_option maxRecDepth 20000 in
theorem mo_X7_168 : MV RX7 168 7 yX7_pathTo cX7_pathTo 7 (some .int) 2 := ⟨mc_X7_pathTo, gT_tb 874 rfl rfl, gT_tb 872 rfl rfl, RX7, TX7, 30, rfl, gT_tb 22 rfl rfl⟩
set_option maxRecDepth 20000 in
theorem mo_L_129 : MV RL 129 7 yX7_image cX7_image 4 (some .int) 1 := ⟨mc_X7_image, gT_tb 877 rfl rfl, gT_tb 876 rfl rfl, RX7, TX7, 30, rfl, gT_tb 878 rfl rfl⟩
set_option maxRecDepth 20000 in
theorem mo_L_133 : MV RL 133 7 yX7_restore cX7_restore 4 (some .int) 1 := ⟨mc_X7_restore, gT_tb 881 rfl rfl, gT_tb 880 rfl rfl, RX7, TX7, 30, rfl, gT_tb 882 rfl rfl⟩
set_option maxRecDepth 20000 in
theorem mo_L_137 : MV RL 137 7 yX7_told cX7_told 2 (some .int) 1 := ⟨mc_X7_told, gT_tb 885 rfl rfl, gT_tb 884 rfl rfl, RX7, TX7, 30, rfl, gT_tb 886 rfl rfl⟩
end
section
/-! ===== the class's cells: 38 of them, by their places; S holds the arrays by their places and the numbers from 40 on ===== -/
def alb (k : Nat → ClassId) (a : Nat → Nat) (S : St) (X : va_W) : va_W :=
  (a 2, .inr (1, [.int (S 40 0), .int (S 41 0), .ref (a 3), .ref (a 4), .ref (a 5), .ref (a 6), .ref (a 7), .ref (a 12), .ref (a 13), .ref (a 14), .ref (a 15), .ref (a 16)])) ::
  (a 3, .inl (k 0, 6, .inl (S 3))) :: (a 4, .inl (k 0, 6, .inl (S 4))) :: (a 5, .inl (k 0, 6, .inl (S 5))) :: (a 6, .inl (k 0, 6, .inl (S 6))) ::
  (a 7, .inl (k 2, 4, .inr (.inr (.inr (.inr (fun i => if i < 4 then some (a (8 + i)) else none)))))) ::
  (a 8, .inl (k 0, 4, .inl (S 8))) :: (a 9, .inl (k 0, 4, .inl (S 9))) :: (a 10, .inl (k 0, 4, .inl (S 10))) :: (a 11, .inl (k 0, 4, .inl (S 11))) ::
  (a 12, .inl (k 0, 4, .inl (S 12))) :: (a 13, .inl (k 0, 2, .inl (S 13))) :: (a 14, .inl (k 0, 2, .inl (S 14))) :: (a 15, .inl (k 0, 8, .inl (S 15))) :: (a 16, .inl (k 0, 8, .inl (S 16))) :: X
def wC (k : Nat → ClassId) (q z : Nat → Nat) (g : Nat → Option Nat) (S : St) (X : va_W) : va_W :=
  (q 0, .inr (6, [.ref (q 2), .ref (q 1), .ref (q 17), .ref (q 19), .ref (q 31), .ref (q 32), .ref (q 33)])) ::
  (q 1, .inl (k 3, 2, .inr (.inr (.inr (.inr g))))) ::
  alb k q S (
  (q 17, .inr (3, [.int (S 42 0), .ref (q 18)])) :: (q 18, .inl (k 0, 50, .inl (S 18))) ::
  (q 19, .inr (5, [.int (S 43 0), .int (S 44 0), .ref (q 20), .ref (q 21), .ref (q 2), .int (S 45 0), .int (S 46 0), .int (S 47 0), .ref (q 22), .ref (q 23), .ref (q 30)])) ::
  (q 20, .inl (k 0, z 0, .inl (S 20))) :: (q 21, .inl (k 0, z 1, .inl (S 21))) :: (q 22, .inl (k 0, 6, .inl (S 22))) ::
  (q 23, .inl (k 2, 6, .inr (.inr (.inr (.inr (fun i => if i < 6 then some (q (24 + i)) else none)))))) ::
  (q 24, .inl (k 0, 6, .inl (S 24))) :: (q 25, .inl (k 0, 6, .inl (S 25))) :: (q 26, .inl (k 0, 6, .inl (S 26))) :: (q 27, .inl (k 0, 6, .inl (S 27))) :: (q 28, .inl (k 0, 6, .inl (S 28))) :: (q 29, .inl (k 0, 6, .inl (S 29))) ::
  (q 30, .inl (k 1, 36, .inl (S 30))) ::
  (q 31, .inr (0, [.int (S 48 0), .int (S 49 0), .int (S 50 0), .ref (q 2)])) ::
  (q 32, .inr (2, [.ref (q 2), .int (S 51 0), .int (S 52 0)])) ::
  (q 33, .inr (4, [.int (S 53 0), .int (S 54 0), .int (S 55 0), .ref (q 34), .ref (q 35), .ref (q 36), .ref (q 37)])) ::
  (q 34, .inl (k 0, 8, .inl (S 34))) :: (q 35, .inl (k 0, 16, .inl (S 35))) :: (q 36, .inl (k 0, 16, .inl (S 36))) :: (q 37, .inl (k 0, 8, .inl (S 37))) :: X)
theorem obC_0 {k : Nat → ClassId} {q z : Nat → Nat} {g : Nat → Option Nat} {S : St} {X : va_W} : OB (wC k q z g S X) 0 (q 0) 6 := ⟨_, rfl⟩
theorem frC_0_0 {k : Nat → ClassId} {q z : Nat → Nat} {g : Nat → Option Nat} {S : St} {X : va_W} : FR (wC k q z g S X) 0 (q 0) 6 0 (q 2) := ⟨_, rfl, rfl⟩
theorem frC_0_1 {k : Nat → ClassId} {q z : Nat → Nat} {g : Nat → Option Nat} {S : St} {X : va_W} : FR (wC k q z g S X) 0 (q 0) 6 1 (q 1) := ⟨_, rfl, rfl⟩
theorem frC_0_2 {k : Nat → ClassId} {q z : Nat → Nat} {g : Nat → Option Nat} {S : St} {X : va_W} : FR (wC k q z g S X) 0 (q 0) 6 2 (q 17) := ⟨_, rfl, rfl⟩
theorem frC_0_3 {k : Nat → ClassId} {q z : Nat → Nat} {g : Nat → Option Nat} {S : St} {X : va_W} : FR (wC k q z g S X) 0 (q 0) 6 3 (q 19) := ⟨_, rfl, rfl⟩
theorem frC_0_4 {k : Nat → ClassId} {q z : Nat → Nat} {g : Nat → Option Nat} {S : St} {X : va_W} : FR (wC k q z g S X) 0 (q 0) 6 4 (q 31) := ⟨_, rfl, rfl⟩
theorem frC_0_5 {k : Nat → ClassId} {q z : Nat → Nat} {g : Nat → Option Nat} {S : St} {X : va_W} : FR (wC k q z g S X) 0 (q 0) 6 5 (q 32) := ⟨_, rfl, rfl⟩
theorem frC_0_6 {k : Nat → ClassId} {q z : Nat → Nat} {g : Nat → Option Nat} {S : St} {X : va_W} : FR (wC k q z g S X) 0 (q 0) 6 6 (q 33) := ⟨_, rfl, rfl⟩
theorem obC_2 {k : Nat → ClassId} {q z : Nat → Nat} {g : Nat → Option Nat} {S : St} {X : va_W} : OB (wC k q z g S X) 2 (q 2) 1 := ⟨_, rfl⟩
theorem frC_2_2 {k : Nat → ClassId} {q z : Nat → Nat} {g : Nat → Option Nat} {S : St} {X : va_W} : FR (wC k q z g S X) 2 (q 2) 1 2 (q 3) := ⟨_, rfl, rfl⟩
theorem frC_2_3 {k : Nat → ClassId} {q z : Nat → Nat} {g : Nat → Option Nat} {S : St} {X : va_W} : FR (wC k q z g S X) 2 (q 2) 1 3 (q 4) := ⟨_, rfl, rfl⟩
theorem frC_2_4 {k : Nat → ClassId} {q z : Nat → Nat} {g : Nat → Option Nat} {S : St} {X : va_W} : FR (wC k q z g S X) 2 (q 2) 1 4 (q 5) := ⟨_, rfl, rfl⟩
theorem frC_2_5 {k : Nat → ClassId} {q z : Nat → Nat} {g : Nat → Option Nat} {S : St} {X : va_W} : FR (wC k q z g S X) 2 (q 2) 1 5 (q 6) := ⟨_, rfl, rfl⟩
theorem frC_2_6 {k : Nat → ClassId} {q z : Nat → Nat} {g : Nat → Option Nat} {S : St} {X : va_W} : FR (wC k q z g S X) 2 (q 2) 1 6 (q 7) := ⟨_, rfl, rfl⟩
theorem frC_2_7 {k : Nat → ClassId} {q z : Nat → Nat} {g : Nat → Option Nat} {S : St} {X : va_W} : FR (wC k q z g S X) 2 (q 2) 1 7 (q 12) := ⟨_, rfl, rfl⟩
theorem frC_2_8 {k : Nat → ClassId} {q z : Nat → Nat} {g : Nat → Option Nat} {S : St} {X : va_W} : FR (wC k q z g S X) 2 (q 2) 1 8 (q 13) := ⟨_, rfl, rfl⟩
theorem frC_2_9 {k : Nat → ClassId} {q z : Nat → Nat} {g : Nat → Option Nat} {S : St} {X : va_W} : FR (wC k q z g S X) 2 (q 2) 1 9 (q 14) := ⟨_, rfl, rfl⟩
theorem frC_2_10 {k : Nat → ClassId} {q z : Nat → Nat} {g : Nat → Option Nat} {S : St} {X : va_W} : FR (wC k q z g S X) 2 (q 2) 1 10 (q 15) := ⟨_, rfl, rfl⟩
theorem frC_2_11 {k : Nat → ClassId} {q z : Nat → Nat} {g : Nat → Option Nat} {S : St} {X : va_W} : FR (wC k q z g S X) 2 (q 2) 1 11 (q 16) := ⟨_, rfl, rfl⟩
theorem fiC_40 {k : Nat → ClassId} {q z : Nat → Nat} {g : Nat → Option Nat} {X : va_W} : FI (fun S => wC k q z g S X) 2 (q 2) 1 0 40 := ⟨_, fun _ => rfl, fun _ => rfl, fun _ _ => rfl, fun _ => Nat.le_of_ble_eq_true rfl⟩
theorem fiC_41 {k : Nat → ClassId} {q z : Nat → Nat} {g : Nat → Option Nat} {X : va_W} : FI (fun S => wC k q z g S X) 2 (q 2) 1 1 41 := ⟨_, fun _ => rfl, fun _ => rfl, fun _ _ => rfl, fun _ => Nat.le_of_ble_eq_true rfl⟩
theorem obC_17 {k : Nat → ClassId} {q z : Nat → Nat} {g : Nat → Option Nat} {S : St} {X : va_W} : OB (wC k q z g S X) 17 (q 17) 3 := ⟨_, rfl⟩
theorem frC_17_1 {k : Nat → ClassId} {q z : Nat → Nat} {g : Nat → Option Nat} {S : St} {X : va_W} : FR (wC k q z g S X) 17 (q 17) 3 1 (q 18) := ⟨_, rfl, rfl⟩
theorem fiC_42 {k : Nat → ClassId} {q z : Nat → Nat} {g : Nat → Option Nat} {X : va_W} : FI (fun S => wC k q z g S X) 17 (q 17) 3 0 42 := ⟨_, fun _ => rfl, fun _ => rfl, fun _ _ => rfl, fun _ => Nat.le_of_ble_eq_true rfl⟩
theorem obC_19 {k : Nat → ClassId} {q z : Nat → Nat} {g : Nat → Option Nat} {S : St} {X : va_W} : OB (wC k q z g S X) 19 (q 19) 5 := ⟨_, rfl⟩
theorem frC_19_2 {k : Nat → ClassId} {q z : Nat → Nat} {g : Nat → Option Nat} {S : St} {X : va_W} : FR (wC k q z g S X) 19 (q 19) 5 2 (q 20) := ⟨_, rfl, rfl⟩
theorem frC_19_3 {k : Nat → ClassId} {q z : Nat → Nat} {g : Nat → Option Nat} {S : St} {X : va_W} : FR (wC k q z g S X) 19 (q 19) 5 3 (q 21) := ⟨_, rfl, rfl⟩
theorem frC_19_4 {k : Nat → ClassId} {q z : Nat → Nat} {g : Nat → Option Nat} {S : St} {X : va_W} : FR (wC k q z g S X) 19 (q 19) 5 4 (q 2) := ⟨_, rfl, rfl⟩
theorem frC_19_8 {k : Nat → ClassId} {q z : Nat → Nat} {g : Nat → Option Nat} {S : St} {X : va_W} : FR (wC k q z g S X) 19 (q 19) 5 8 (q 22) := ⟨_, rfl, rfl⟩
theorem frC_19_9 {k : Nat → ClassId} {q z : Nat → Nat} {g : Nat → Option Nat} {S : St} {X : va_W} : FR (wC k q z g S X) 19 (q 19) 5 9 (q 23) := ⟨_, rfl, rfl⟩
theorem frC_19_10 {k : Nat → ClassId} {q z : Nat → Nat} {g : Nat → Option Nat} {S : St} {X : va_W} : FR (wC k q z g S X) 19 (q 19) 5 10 (q 30) := ⟨_, rfl, rfl⟩
theorem fiC_43 {k : Nat → ClassId} {q z : Nat → Nat} {g : Nat → Option Nat} {X : va_W} : FI (fun S => wC k q z g S X) 19 (q 19) 5 0 43 := ⟨_, fun _ => rfl, fun _ => rfl, fun _ _ => rfl, fun _ => Nat.le_of_ble_eq_true rfl⟩
theorem fiC_44 {k : Nat → ClassId} {q z : Nat → Nat} {g : Nat → Option Nat} {X : va_W} : FI (fun S => wC k q z g S X) 19 (q 19) 5 1 44 := ⟨_, fun _ => rfl, fun _ => rfl, fun _ _ => rfl, fun _ => Nat.le_of_ble_eq_true rfl⟩
theorem fiC_45 {k : Nat → ClassId} {q z : Nat → Nat} {g : Nat → Option Nat} {X : va_W} : FI (fun S => wC k q z g S X) 19 (q 19) 5 5 45 := ⟨_, fun _ => rfl, fun _ => rfl, fun _ _ => rfl, fun _ => Nat.le_of_ble_eq_true rfl⟩
theorem fiC_46 {k : Nat → ClassId} {q z : Nat → Nat} {g : Nat → Option Nat} {X : va_W} : FI (fun S => wC k q z g S X) 19 (q 19) 5 6 46 := ⟨_, fun _ => rfl, fun _ => rfl, fun _ _ => rfl, fun _ => Nat.le_of_ble_eq_true rfl⟩
theorem fiC_47 {k : Nat → ClassId} {q z : Nat → Nat} {g : Nat → Option Nat} {X : va_W} : FI (fun S => wC k q z g S X) 19 (q 19) 5 7 47 := ⟨_, fun _ => rfl, fun _ => rfl, fun _ _ => rfl, fun _ => Nat.le_of_ble_eq_true rfl⟩
theorem obC_31 {k : Nat → ClassId} {q z : Nat → Nat} {g : Nat → Option Nat} {S : St} {X : va_W} : OB (wC k q z g S X) 31 (q 31) 0 := ⟨_, rfl⟩
theorem frC_31_3 {k : Nat → ClassId} {q z : Nat → Nat} {g : Nat → Option Nat} {S : St} {X : va_W} : FR (wC k q z g S X) 31 (q 31) 0 3 (q 2) := ⟨_, rfl, rfl⟩
theorem fiC_48 {k : Nat → ClassId} {q z : Nat → Nat} {g : Nat → Option Nat} {X : va_W} : FI (fun S => wC k q z g S X) 31 (q 31) 0 0 48 := ⟨_, fun _ => rfl, fun _ => rfl, fun _ _ => rfl, fun _ => Nat.le_of_ble_eq_true rfl⟩
theorem fiC_49 {k : Nat → ClassId} {q z : Nat → Nat} {g : Nat → Option Nat} {X : va_W} : FI (fun S => wC k q z g S X) 31 (q 31) 0 1 49 := ⟨_, fun _ => rfl, fun _ => rfl, fun _ _ => rfl, fun _ => Nat.le_of_ble_eq_true rfl⟩
theorem fiC_50 {k : Nat → ClassId} {q z : Nat → Nat} {g : Nat → Option Nat} {X : va_W} : FI (fun S => wC k q z g S X) 31 (q 31) 0 2 50 := ⟨_, fun _ => rfl, fun _ => rfl, fun _ _ => rfl, fun _ => Nat.le_of_ble_eq_true rfl⟩
theorem obC_32 {k : Nat → ClassId} {q z : Nat → Nat} {g : Nat → Option Nat} {S : St} {X : va_W} : OB (wC k q z g S X) 32 (q 32) 2 := ⟨_, rfl⟩
theorem frC_32_0 {k : Nat → ClassId} {q z : Nat → Nat} {g : Nat → Option Nat} {S : St} {X : va_W} : FR (wC k q z g S X) 32 (q 32) 2 0 (q 2) := ⟨_, rfl, rfl⟩
theorem fiC_51 {k : Nat → ClassId} {q z : Nat → Nat} {g : Nat → Option Nat} {X : va_W} : FI (fun S => wC k q z g S X) 32 (q 32) 2 1 51 := ⟨_, fun _ => rfl, fun _ => rfl, fun _ _ => rfl, fun _ => Nat.le_of_ble_eq_true rfl⟩
theorem fiC_52 {k : Nat → ClassId} {q z : Nat → Nat} {g : Nat → Option Nat} {X : va_W} : FI (fun S => wC k q z g S X) 32 (q 32) 2 2 52 := ⟨_, fun _ => rfl, fun _ => rfl, fun _ _ => rfl, fun _ => Nat.le_of_ble_eq_true rfl⟩
theorem obC_33 {k : Nat → ClassId} {q z : Nat → Nat} {g : Nat → Option Nat} {S : St} {X : va_W} : OB (wC k q z g S X) 33 (q 33) 4 := ⟨_, rfl⟩
theorem frC_33_3 {k : Nat → ClassId} {q z : Nat → Nat} {g : Nat → Option Nat} {S : St} {X : va_W} : FR (wC k q z g S X) 33 (q 33) 4 3 (q 34) := ⟨_, rfl, rfl⟩
theorem frC_33_4 {k : Nat → ClassId} {q z : Nat → Nat} {g : Nat → Option Nat} {S : St} {X : va_W} : FR (wC k q z g S X) 33 (q 33) 4 4 (q 35) := ⟨_, rfl, rfl⟩
theorem frC_33_5 {k : Nat → ClassId} {q z : Nat → Nat} {g : Nat → Option Nat} {S : St} {X : va_W} : FR (wC k q z g S X) 33 (q 33) 4 5 (q 36) := ⟨_, rfl, rfl⟩
theorem frC_33_6 {k : Nat → ClassId} {q z : Nat → Nat} {g : Nat → Option Nat} {S : St} {X : va_W} : FR (wC k q z g S X) 33 (q 33) 4 6 (q 37) := ⟨_, rfl, rfl⟩
theorem fiC_53 {k : Nat → ClassId} {q z : Nat → Nat} {g : Nat → Option Nat} {X : va_W} : FI (fun S => wC k q z g S X) 33 (q 33) 4 0 53 := ⟨_, fun _ => rfl, fun _ => rfl, fun _ _ => rfl, fun _ => Nat.le_of_ble_eq_true rfl⟩
theorem fiC_54 {k : Nat → ClassId} {q z : Nat → Nat} {g : Nat → Option Nat} {X : va_W} : FI (fun S => wC k q z g S X) 33 (q 33) 4 1 54 := ⟨_, fun _ => rfl, fun _ => rfl, fun _ _ => rfl, fun _ => Nat.le_of_ble_eq_true rfl⟩
theorem fiC_55 {k : Nat → ClassId} {q z : Nat → Nat} {g : Nat → Option Nat} {X : va_W} : FI (fun S => wC k q z g S X) 33 (q 33) 4 2 55 := ⟨_, fun _ => rfl, fun _ => rfl, fun _ _ => rfl, fun _ => Nat.le_of_ble_eq_true rfl⟩
theorem aiC_3 {k : Nat → ClassId} {q z : Nat → Nat} {g : Nat → Option Nat} {X : va_W} : AI (fun S => wC k q z g S X) 3 (q 3) (k 0) 6 3 := ⟨fun _ => rfl, fun _ _ => rfl, Nat.le_of_ble_eq_true rfl⟩
theorem aiC_4 {k : Nat → ClassId} {q z : Nat → Nat} {g : Nat → Option Nat} {X : va_W} : AI (fun S => wC k q z g S X) 4 (q 4) (k 0) 6 4 := ⟨fun _ => rfl, fun _ _ => rfl, Nat.le_of_ble_eq_true rfl⟩
theorem aiC_5 {k : Nat → ClassId} {q z : Nat → Nat} {g : Nat → Option Nat} {X : va_W} : AI (fun S => wC k q z g S X) 5 (q 5) (k 0) 6 5 := ⟨fun _ => rfl, fun _ _ => rfl, Nat.le_of_ble_eq_true rfl⟩
theorem aiC_6 {k : Nat → ClassId} {q z : Nat → Nat} {g : Nat → Option Nat} {X : va_W} : AI (fun S => wC k q z g S X) 6 (q 6) (k 0) 6 6 := ⟨fun _ => rfl, fun _ _ => rfl, Nat.le_of_ble_eq_true rfl⟩
theorem aiC_12 {k : Nat → ClassId} {q z : Nat → Nat} {g : Nat → Option Nat} {X : va_W} : AI (fun S => wC k q z g S X) 12 (q 12) (k 0) 4 12 := ⟨fun _ => rfl, fun _ _ => rfl, Nat.le_of_ble_eq_true rfl⟩
theorem aiC_13 {k : Nat → ClassId} {q z : Nat → Nat} {g : Nat → Option Nat} {X : va_W} : AI (fun S => wC k q z g S X) 13 (q 13) (k 0) 2 13 := ⟨fun _ => rfl, fun _ _ => rfl, Nat.le_of_ble_eq_true rfl⟩
theorem aiC_14 {k : Nat → ClassId} {q z : Nat → Nat} {g : Nat → Option Nat} {X : va_W} : AI (fun S => wC k q z g S X) 14 (q 14) (k 0) 2 14 := ⟨fun _ => rfl, fun _ _ => rfl, Nat.le_of_ble_eq_true rfl⟩
theorem aiC_15 {k : Nat → ClassId} {q z : Nat → Nat} {g : Nat → Option Nat} {X : va_W} : AI (fun S => wC k q z g S X) 15 (q 15) (k 0) 8 15 := ⟨fun _ => rfl, fun _ _ => rfl, Nat.le_of_ble_eq_true rfl⟩
theorem aiC_16 {k : Nat → ClassId} {q z : Nat → Nat} {g : Nat → Option Nat} {X : va_W} : AI (fun S => wC k q z g S X) 16 (q 16) (k 0) 8 16 := ⟨fun _ => rfl, fun _ _ => rfl, Nat.le_of_ble_eq_true rfl⟩
theorem aiC_18 {k : Nat → ClassId} {q z : Nat → Nat} {g : Nat → Option Nat} {X : va_W} : AI (fun S => wC k q z g S X) 18 (q 18) (k 0) 50 18 := ⟨fun _ => rfl, fun _ _ => rfl, Nat.le_of_ble_eq_true rfl⟩
theorem aiC_22 {k : Nat → ClassId} {q z : Nat → Nat} {g : Nat → Option Nat} {X : va_W} : AI (fun S => wC k q z g S X) 22 (q 22) (k 0) 6 22 := ⟨fun _ => rfl, fun _ _ => rfl, Nat.le_of_ble_eq_true rfl⟩
theorem aiC_34 {k : Nat → ClassId} {q z : Nat → Nat} {g : Nat → Option Nat} {X : va_W} : AI (fun S => wC k q z g S X) 34 (q 34) (k 0) 8 34 := ⟨fun _ => rfl, fun _ _ => rfl, Nat.le_of_ble_eq_true rfl⟩
theorem aiC_35 {k : Nat → ClassId} {q z : Nat → Nat} {g : Nat → Option Nat} {X : va_W} : AI (fun S => wC k q z g S X) 35 (q 35) (k 0) 16 35 := ⟨fun _ => rfl, fun _ _ => rfl, Nat.le_of_ble_eq_true rfl⟩
theorem aiC_36 {k : Nat → ClassId} {q z : Nat → Nat} {g : Nat → Option Nat} {X : va_W} : AI (fun S => wC k q z g S X) 36 (q 36) (k 0) 16 36 := ⟨fun _ => rfl, fun _ _ => rfl, Nat.le_of_ble_eq_true rfl⟩
theorem aiC_37 {k : Nat → ClassId} {q z : Nat → Nat} {g : Nat → Option Nat} {X : va_W} : AI (fun S => wC k q z g S X) 37 (q 37) (k 0) 8 37 := ⟨fun _ => rfl, fun _ _ => rfl, Nat.le_of_ble_eq_true rfl⟩
theorem aiC_30 {k : Nat → ClassId} {q z : Nat → Nat} {g : Nat → Option Nat} {X : va_W} : AI (fun S => wC k q z g S X) 30 (q 30) (k 1) 36 30 := ⟨fun _ => rfl, fun _ _ => rfl, Nat.le_of_ble_eq_true rfl⟩
theorem aiC_20 {k : Nat → ClassId} {q z : Nat → Nat} {g : Nat → Option Nat} {X : va_W} (h : z 0 < 2 ^ 31) : AI (fun S => wC k q z g S X) 20 (q 20) (k 0) (z 0) 20 := ⟨fun _ => rfl, fun _ _ => rfl, h⟩
theorem aiC_21 {k : Nat → ClassId} {q z : Nat → Nat} {g : Nat → Option Nat} {X : va_W} (h : z 1 < 2 ^ 31) : AI (fun S => wC k q z g S X) 21 (q 21) (k 0) (z 1) 21 := ⟨fun _ => rfl, fun _ _ => rfl, h⟩
theorem aiC_slip {k : Nat → ClassId} {q z : Nat → Nat} {g : Nat → Option Nat} {X : va_W} : ∀ {j : Nat}, j < 4 → AI (fun S => wC k q z g S X) (8 + j) (q (8 + j)) (k 0) 4 (8 + j)
  | 0, _ => ⟨fun _ => rfl, fun _ _ => rfl, Nat.le_of_ble_eq_true rfl⟩
  | 1, _ => ⟨fun _ => rfl, fun _ _ => rfl, Nat.le_of_ble_eq_true rfl⟩
  | 2, _ => ⟨fun _ => rfl, fun _ _ => rfl, Nat.le_of_ble_eq_true rfl⟩
  | 3, _ => ⟨fun _ => rfl, fun _ _ => rfl, Nat.le_of_ble_eq_true rfl⟩
  | j + 4, h => absurd h (by omega)
theorem aiC_trc {k : Nat → ClassId} {q z : Nat → Nat} {g : Nat → Option Nat} {X : va_W} : ∀ {j : Nat}, j < 6 → AI (fun S => wC k q z g S X) (24 + j) (q (24 + j)) (k 0) 6 (24 + j)
  | 0, _ => ⟨fun _ => rfl, fun _ _ => rfl, Nat.le_of_ble_eq_true rfl⟩
  | 1, _ => ⟨fun _ => rfl, fun _ _ => rfl, Nat.le_of_ble_eq_true rfl⟩
  | 2, _ => ⟨fun _ => rfl, fun _ _ => rfl, Nat.le_of_ble_eq_true rfl⟩
  | 3, _ => ⟨fun _ => rfl, fun _ _ => rfl, Nat.le_of_ble_eq_true rfl⟩
  | 4, _ => ⟨fun _ => rfl, fun _ _ => rfl, Nat.le_of_ble_eq_true rfl⟩
  | 5, _ => ⟨fun _ => rfl, fun _ _ => rfl, Nat.le_of_ble_eq_true rfl⟩
  | j + 6, h => absurd h (by omega)
/-- a grid: its outer array, its rows' addresses -/
def GI (k : Nat → ClassId) (w : va_W) (p0 a n : Nat) (b : Nat → Nat) : Prop := w[p0]? = some (a, .inl (k 2, n, .inr (.inr (.inr (.inr (fun i => if i < n then some (b i) else none)))))) ∧ n < 2 ^ 31
theorem giC_7 {k : Nat → ClassId} {q z : Nat → Nat} {g : Nat → Option Nat} {S : St} {X : va_W} : GI k (wC k q z g S X) 7 (q 7) 4 (fun i => q (8 + i)) := ⟨rfl, Nat.le_of_ble_eq_true rfl⟩
theorem giC_23 {k : Nat → ClassId} {q z : Nat → Nat} {g : Nat → Option Nat} {S : St} {X : va_W} : GI k (wC k q z g S X) 23 (q 23) 6 (fun i => q (24 + i)) := ⟨rfl, Nat.le_of_ble_eq_true rfl⟩
/-! ===== the reference's cells: the object at q 30, its arrays at the numbers of their fields ===== -/
def wM (k : Nat → ClassId) (q : Nat → Nat) (S : St) (X : va_W) : va_W :=
  (q 30, .inr (7, [.int (S 0 0), .ref (q 1), .ref (q 2), .ref (q 3), .ref (q 4), .ref (q 5), .int (S 6 0), .ref (q 7), .int (S 8 0), .ref (q 9), .ref (q 10), .ref (q 11), .ref (q 12), .int (S 13 0), .ref (q 14), .int (S 15 0), .ref (q 16), .ref (q 17), .int (S 18 0), .ref (q 19), .ref (q 20), .ref (q 21), .int (S 22 0), .int (S 23 0), .int (S 24 0), .int (S 25 0), .int (S 26 0), .int (S 27 0), .ref (q 28), .ref (q 29)])) ::
  (q 1, .inl (k 0, 6, .inl (S 1))) :: (q 2, .inl (k 0, 6, .inl (S 2))) :: (q 3, .inl (k 0, 6, .inl (S 3))) :: (q 4, .inl (k 0, 6, .inl (S 4))) ::
  (q 5, .inl (k 0, 4, .inl (S 5))) :: (q 7, .inl (k 0, 50, .inl (S 7))) :: (q 9, .inl (k 0, 50, .inl (S 9))) :: (q 10, .inl (k 0, 4, .inl (S 10))) ::
  (q 11, .inl (k 0, 8, .inl (S 11))) :: (q 12, .inl (k 0, 8, .inl (S 12))) :: (q 14, .inl (k 0, 8, .inl (S 14))) :: (q 16, .inl (k 0, 16, .inl (S 16))) ::
  (q 17, .inl (k 0, 16, .inl (S 17))) :: (q 19, .inl (k 0, 16, .inl (S 19))) :: (q 20, .inl (k 0, 42, .inl (S 20))) :: (q 21, .inl (k 0, 6, .inl (S 21))) ::
  (q 28, .inl (k 0, 220, .inl (S 28))) :: (q 29, .inl (k 1, 2, .inl (S 29))) :: X
theorem obM {k : Nat → ClassId} {q : Nat → Nat} {S : St} {X : va_W} : OB (wM k q S X) 0 (q 30) 7 := ⟨_, rfl⟩
theorem fiM_0 {k : Nat → ClassId} {q : Nat → Nat} {X : va_W} : FI (fun S => wM k q S X) 0 (q 30) 7 0 0 := ⟨_, fun _ => rfl, fun _ => rfl, fun _ _ => rfl, fun _ => Nat.le_of_ble_eq_true rfl⟩
theorem frM_1 {k : Nat → ClassId} {q : Nat → Nat} {S : St} {X : va_W} : FR (wM k q S X) 0 (q 30) 7 1 (q 1) := ⟨_, rfl, rfl⟩
theorem aiM_1 {k : Nat → ClassId} {q : Nat → Nat} {X : va_W} : AI (fun S => wM k q S X) 1 (q 1) (k 0) 6 1 := ⟨fun _ => rfl, fun _ _ => rfl, Nat.le_of_ble_eq_true rfl⟩
theorem frM_2 {k : Nat → ClassId} {q : Nat → Nat} {S : St} {X : va_W} : FR (wM k q S X) 0 (q 30) 7 2 (q 2) := ⟨_, rfl, rfl⟩
theorem aiM_2 {k : Nat → ClassId} {q : Nat → Nat} {X : va_W} : AI (fun S => wM k q S X) 2 (q 2) (k 0) 6 2 := ⟨fun _ => rfl, fun _ _ => rfl, Nat.le_of_ble_eq_true rfl⟩
theorem frM_3 {k : Nat → ClassId} {q : Nat → Nat} {S : St} {X : va_W} : FR (wM k q S X) 0 (q 30) 7 3 (q 3) := ⟨_, rfl, rfl⟩
theorem aiM_3 {k : Nat → ClassId} {q : Nat → Nat} {X : va_W} : AI (fun S => wM k q S X) 3 (q 3) (k 0) 6 3 := ⟨fun _ => rfl, fun _ _ => rfl, Nat.le_of_ble_eq_true rfl⟩
theorem frM_4 {k : Nat → ClassId} {q : Nat → Nat} {S : St} {X : va_W} : FR (wM k q S X) 0 (q 30) 7 4 (q 4) := ⟨_, rfl, rfl⟩
theorem aiM_4 {k : Nat → ClassId} {q : Nat → Nat} {X : va_W} : AI (fun S => wM k q S X) 4 (q 4) (k 0) 6 4 := ⟨fun _ => rfl, fun _ _ => rfl, Nat.le_of_ble_eq_true rfl⟩
theorem frM_5 {k : Nat → ClassId} {q : Nat → Nat} {S : St} {X : va_W} : FR (wM k q S X) 0 (q 30) 7 5 (q 5) := ⟨_, rfl, rfl⟩
theorem aiM_5 {k : Nat → ClassId} {q : Nat → Nat} {X : va_W} : AI (fun S => wM k q S X) 5 (q 5) (k 0) 4 5 := ⟨fun _ => rfl, fun _ _ => rfl, Nat.le_of_ble_eq_true rfl⟩
theorem fiM_6 {k : Nat → ClassId} {q : Nat → Nat} {X : va_W} : FI (fun S => wM k q S X) 0 (q 30) 7 6 6 := ⟨_, fun _ => rfl, fun _ => rfl, fun _ _ => rfl, fun _ => Nat.le_of_ble_eq_true rfl⟩
theorem frM_7 {k : Nat → ClassId} {q : Nat → Nat} {S : St} {X : va_W} : FR (wM k q S X) 0 (q 30) 7 7 (q 7) := ⟨_, rfl, rfl⟩
theorem aiM_7 {k : Nat → ClassId} {q : Nat → Nat} {X : va_W} : AI (fun S => wM k q S X) 6 (q 7) (k 0) 50 7 := ⟨fun _ => rfl, fun _ _ => rfl, Nat.le_of_ble_eq_true rfl⟩
theorem fiM_8 {k : Nat → ClassId} {q : Nat → Nat} {X : va_W} : FI (fun S => wM k q S X) 0 (q 30) 7 8 8 := ⟨_, fun _ => rfl, fun _ => rfl, fun _ _ => rfl, fun _ => Nat.le_of_ble_eq_true rfl⟩
theorem frM_9 {k : Nat → ClassId} {q : Nat → Nat} {S : St} {X : va_W} : FR (wM k q S X) 0 (q 30) 7 9 (q 9) := ⟨_, rfl, rfl⟩
theorem aiM_9 {k : Nat → ClassId} {q : Nat → Nat} {X : va_W} : AI (fun S => wM k q S X) 7 (q 9) (k 0) 50 9 := ⟨fun _ => rfl, fun _ _ => rfl, Nat.le_of_ble_eq_true rfl⟩
theorem frM_10 {k : Nat → ClassId} {q : Nat → Nat} {S : St} {X : va_W} : FR (wM k q S X) 0 (q 30) 7 10 (q 10) := ⟨_, rfl, rfl⟩
theorem aiM_10 {k : Nat → ClassId} {q : Nat → Nat} {X : va_W} : AI (fun S => wM k q S X) 8 (q 10) (k 0) 4 10 := ⟨fun _ => rfl, fun _ _ => rfl, Nat.le_of_ble_eq_true rfl⟩
theorem frM_11 {k : Nat → ClassId} {q : Nat → Nat} {S : St} {X : va_W} : FR (wM k q S X) 0 (q 30) 7 11 (q 11) := ⟨_, rfl, rfl⟩
theorem aiM_11 {k : Nat → ClassId} {q : Nat → Nat} {X : va_W} : AI (fun S => wM k q S X) 9 (q 11) (k 0) 8 11 := ⟨fun _ => rfl, fun _ _ => rfl, Nat.le_of_ble_eq_true rfl⟩
theorem frM_12 {k : Nat → ClassId} {q : Nat → Nat} {S : St} {X : va_W} : FR (wM k q S X) 0 (q 30) 7 12 (q 12) := ⟨_, rfl, rfl⟩
theorem aiM_12 {k : Nat → ClassId} {q : Nat → Nat} {X : va_W} : AI (fun S => wM k q S X) 10 (q 12) (k 0) 8 12 := ⟨fun _ => rfl, fun _ _ => rfl, Nat.le_of_ble_eq_true rfl⟩
theorem fiM_13 {k : Nat → ClassId} {q : Nat → Nat} {X : va_W} : FI (fun S => wM k q S X) 0 (q 30) 7 13 13 := ⟨_, fun _ => rfl, fun _ => rfl, fun _ _ => rfl, fun _ => Nat.le_of_ble_eq_true rfl⟩
theorem frM_14 {k : Nat → ClassId} {q : Nat → Nat} {S : St} {X : va_W} : FR (wM k q S X) 0 (q 30) 7 14 (q 14) := ⟨_, rfl, rfl⟩
theorem aiM_14 {k : Nat → ClassId} {q : Nat → Nat} {X : va_W} : AI (fun S => wM k q S X) 11 (q 14) (k 0) 8 14 := ⟨fun _ => rfl, fun _ _ => rfl, Nat.le_of_ble_eq_true rfl⟩
theorem fiM_15 {k : Nat → ClassId} {q : Nat → Nat} {X : va_W} : FI (fun S => wM k q S X) 0 (q 30) 7 15 15 := ⟨_, fun _ => rfl, fun _ => rfl, fun _ _ => rfl, fun _ => Nat.le_of_ble_eq_true rfl⟩
theorem frM_16 {k : Nat → ClassId} {q : Nat → Nat} {S : St} {X : va_W} : FR (wM k q S X) 0 (q 30) 7 16 (q 16) := ⟨_, rfl, rfl⟩
theorem aiM_16 {k : Nat → ClassId} {q : Nat → Nat} {X : va_W} : AI (fun S => wM k q S X) 12 (q 16) (k 0) 16 16 := ⟨fun _ => rfl, fun _ _ => rfl, Nat.le_of_ble_eq_true rfl⟩
theorem frM_17 {k : Nat → ClassId} {q : Nat → Nat} {S : St} {X : va_W} : FR (wM k q S X) 0 (q 30) 7 17 (q 17) := ⟨_, rfl, rfl⟩
theorem aiM_17 {k : Nat → ClassId} {q : Nat → Nat} {X : va_W} : AI (fun S => wM k q S X) 13 (q 17) (k 0) 16 17 := ⟨fun _ => rfl, fun _ _ => rfl, Nat.le_of_ble_eq_true rfl⟩
theorem fiM_18 {k : Nat → ClassId} {q : Nat → Nat} {X : va_W} : FI (fun S => wM k q S X) 0 (q 30) 7 18 18 := ⟨_, fun _ => rfl, fun _ => rfl, fun _ _ => rfl, fun _ => Nat.le_of_ble_eq_true rfl⟩
theorem frM_19 {k : Nat → ClassId} {q : Nat → Nat} {S : St} {X : va_W} : FR (wM k q S X) 0 (q 30) 7 19 (q 19) := ⟨_, rfl, rfl⟩
theorem aiM_19 {k : Nat → ClassId} {q : Nat → Nat} {X : va_W} : AI (fun S => wM k q S X) 14 (q 19) (k 0) 16 19 := ⟨fun _ => rfl, fun _ _ => rfl, Nat.le_of_ble_eq_true rfl⟩
theorem frM_20 {k : Nat → ClassId} {q : Nat → Nat} {S : St} {X : va_W} : FR (wM k q S X) 0 (q 30) 7 20 (q 20) := ⟨_, rfl, rfl⟩
theorem aiM_20 {k : Nat → ClassId} {q : Nat → Nat} {X : va_W} : AI (fun S => wM k q S X) 15 (q 20) (k 0) 42 20 := ⟨fun _ => rfl, fun _ _ => rfl, Nat.le_of_ble_eq_true rfl⟩
theorem frM_21 {k : Nat → ClassId} {q : Nat → Nat} {S : St} {X : va_W} : FR (wM k q S X) 0 (q 30) 7 21 (q 21) := ⟨_, rfl, rfl⟩
theorem aiM_21 {k : Nat → ClassId} {q : Nat → Nat} {X : va_W} : AI (fun S => wM k q S X) 16 (q 21) (k 0) 6 21 := ⟨fun _ => rfl, fun _ _ => rfl, Nat.le_of_ble_eq_true rfl⟩
theorem fiM_22 {k : Nat → ClassId} {q : Nat → Nat} {X : va_W} : FI (fun S => wM k q S X) 0 (q 30) 7 22 22 := ⟨_, fun _ => rfl, fun _ => rfl, fun _ _ => rfl, fun _ => Nat.le_of_ble_eq_true rfl⟩
theorem fiM_23 {k : Nat → ClassId} {q : Nat → Nat} {X : va_W} : FI (fun S => wM k q S X) 0 (q 30) 7 23 23 := ⟨_, fun _ => rfl, fun _ => rfl, fun _ _ => rfl, fun _ => Nat.le_of_ble_eq_true rfl⟩
theorem fiM_24 {k : Nat → ClassId} {q : Nat → Nat} {X : va_W} : FI (fun S => wM k q S X) 0 (q 30) 7 24 24 := ⟨_, fun _ => rfl, fun _ => rfl, fun _ _ => rfl, fun _ => Nat.le_of_ble_eq_true rfl⟩
theorem fiM_25 {k : Nat → ClassId} {q : Nat → Nat} {X : va_W} : FI (fun S => wM k q S X) 0 (q 30) 7 25 25 := ⟨_, fun _ => rfl, fun _ => rfl, fun _ _ => rfl, fun _ => Nat.le_of_ble_eq_true rfl⟩
theorem fiM_26 {k : Nat → ClassId} {q : Nat → Nat} {X : va_W} : FI (fun S => wM k q S X) 0 (q 30) 7 26 26 := ⟨_, fun _ => rfl, fun _ => rfl, fun _ _ => rfl, fun _ => Nat.le_of_ble_eq_true rfl⟩
theorem fiM_27 {k : Nat → ClassId} {q : Nat → Nat} {X : va_W} : FI (fun S => wM k q S X) 0 (q 30) 7 27 27 := ⟨_, fun _ => rfl, fun _ => rfl, fun _ _ => rfl, fun _ => Nat.le_of_ble_eq_true rfl⟩
theorem frM_28 {k : Nat → ClassId} {q : Nat → Nat} {S : St} {X : va_W} : FR (wM k q S X) 0 (q 30) 7 28 (q 28) := ⟨_, rfl, rfl⟩
theorem aiM_28 {k : Nat → ClassId} {q : Nat → Nat} {X : va_W} : AI (fun S => wM k q S X) 17 (q 28) (k 0) 220 28 := ⟨fun _ => rfl, fun _ _ => rfl, Nat.le_of_ble_eq_true rfl⟩
theorem frM_29 {k : Nat → ClassId} {q : Nat → Nat} {S : St} {X : va_W} : FR (wM k q S X) 0 (q 30) 7 29 (q 29) := ⟨_, rfl, rfl⟩
theorem aiM_29 {k : Nat → ClassId} {q : Nat → Nat} {X : va_W} : AI (fun S => wM k q S X) 18 (q 29) (k 1) 2 29 := ⟨fun _ => rfl, fun _ _ => rfl, Nat.le_of_ble_eq_true rfl⟩
section XG
variable {p : Program} {l : Launch} {e : Env} {R : Room} {s : State} {m : MethodId} {args : Array Value} {below : List Frame} {meth : Method} {c : Code} {H : Heap} {locs : List Loc} {cells slots : Nat} {Q : State → Prop}
variable {cc : ByteArray} {pc : Nat} {ls : Array Slot} {rest : List Value} {D : va_G} {k : Nat → ClassId} {A : Nat → Prop} {nL d mc ms : Nat} {own : String} {H0 : Heap}
theorem x_grow {w : va_W} {p0 a n : Nat} {b : Nat → Nat} {i : Int32} (ha : GI k w p0 a n b) (F : Fx p R s m args c cc nL own D k d mc ms) (hw : Wd D A H0 H locs w) (i' : Nat) (hi : i = nI i') (hlt : i' < n) (hdg : decode cc pc = .ok (.aaload, 1))
    (kk : W p l e R s m args below meth c H locs cells slots Q (F0 m (pc + 1) ls (.ref (b i') :: rest))) : W p l e R s m args below meth c H locs cells slots Q (F0 m pc ls (.int i :: .ref a :: rest)) :=
  x_gald p0 ha.1 ha.2 F hw i' hi hlt (if_pos hlt) hdg kk
/-- branches between small numbers: as naturals -/
theorem x_icmp_lt (a b : Nat) (F : Fx p R s m args c cc nL own D k d mc ms) (ha : a < 2 ^ 31) (hb : b < 2 ^ 31) {off : Int} {tgt : Nat} (hdg : decode cc pc = .ok (.if_icmp .lt off, 3)) (ht : (pc : Int) + off = (tgt : Int)) (kt : a < b → W p l e R s m args below meth c H locs cells slots Q (F0 m tgt ls rest)) (kf : b ≤ a → W p l e R s m args below meth c H locs cells slots Q (F0 m (pc + 3) ls rest)) : W p l e R s m args below meth c H locs cells slots Q (F0 m pc ls (.int (nI b) :: .int (nI a) :: rest)) :=
  lv_icmp_lt F.1.1 F.1.2 hdg ht (fun h => kt ((nI_ltI ha hb).mp h)) (fun h => kf (Nat.le_of_not_lt fun q => h ((nI_ltI ha hb).mpr q)))
theorem x_icmp_ge (a b : Nat) (F : Fx p R s m args c cc nL own D k d mc ms) (ha : a < 2 ^ 31) (hb : b < 2 ^ 31) {off : Int} {tgt : Nat} (hdg : decode cc pc = .ok (.if_icmp .ge off, 3)) (ht : (pc : Int) + off = (tgt : Int)) (kt : b ≤ a → W p l e R s m args below meth c H locs cells slots Q (F0 m tgt ls rest)) (kf : a < b → W p l e R s m args below meth c H locs cells slots Q (F0 m (pc + 3) ls rest)) : W p l e R s m args below meth c H locs cells slots Q (F0 m pc ls (.int (nI b) :: .int (nI a) :: rest)) :=
  lv_icmp_ge F.1.1 F.1.2 hdg ht (fun h => kt ((nI_leI hb ha).mp h)) (fun h => kf (Nat.lt_of_not_le fun q => h ((nI_leI hb ha).mpr q)))
theorem x_icmp_gt (a b : Nat) (F : Fx p R s m args c cc nL own D k d mc ms) (ha : a < 2 ^ 31) (hb : b < 2 ^ 31) {off : Int} {tgt : Nat} (hdg : decode cc pc = .ok (.if_icmp .gt off, 3)) (ht : (pc : Int) + off = (tgt : Int)) (kt : b < a → W p l e R s m args below meth c H locs cells slots Q (F0 m tgt ls rest)) (kf : a ≤ b → W p l e R s m args below meth c H locs cells slots Q (F0 m (pc + 3) ls rest)) : W p l e R s m args below meth c H locs cells slots Q (F0 m pc ls (.int (nI b) :: .int (nI a) :: rest)) :=
  lv_icmp_gt F.1.1 F.1.2 hdg ht (fun h => kt ((nI_ltI hb ha).mp h)) (fun h => kf (Nat.le_of_not_lt fun q => h ((nI_ltI hb ha).mpr q)))
theorem x_icmp_le (a b : Nat) (F : Fx p R s m args c cc nL own D k d mc ms) (ha : a < 2 ^ 31) (hb : b < 2 ^ 31) {off : Int} {tgt : Nat} (hdg : decode cc pc = .ok (.if_icmp .le off, 3)) (ht : (pc : Int) + off = (tgt : Int)) (kt : a ≤ b → W p l e R s m args below meth c H locs cells slots Q (F0 m tgt ls rest)) (kf : b < a → W p l e R s m args below meth c H locs cells slots Q (F0 m (pc + 3) ls rest)) : W p l e R s m args below meth c H locs cells slots Q (F0 m pc ls (.int (nI b) :: .int (nI a) :: rest)) :=
  lv_icmp_le F.1.1 F.1.2 hdg ht (fun h => kt ((nI_leI ha hb).mp h)) (fun h => kf (Nat.lt_of_not_le fun q => h ((nI_leI ha hb).mpr q)))
theorem x_icmp_eq (a b : Nat) (F : Fx p R s m args c cc nL own D k d mc ms) (ha : a < 2 ^ 31) (hb : b < 2 ^ 31) {off : Int} {tgt : Nat} (hdg : decode cc pc = .ok (.if_icmp .eq off, 3)) (ht : (pc : Int) + off = (tgt : Int)) (kt : a = b → W p l e R s m args below meth c H locs cells slots Q (F0 m tgt ls rest)) (kf : ¬ a = b → W p l e R s m args below meth c H locs cells slots Q (F0 m (pc + 3) ls rest)) : W p l e R s m args below meth c H locs cells slots Q (F0 m pc ls (.int (nI b) :: .int (nI a) :: rest)) :=
  lv_icmp_eq F.1.1 F.1.2 hdg ht (fun h => kt ((nI_eq ha hb).mp h)) (fun h => kf fun q => h ((nI_eq ha hb).mpr q))
theorem x_icmp_ne (a b : Nat) (F : Fx p R s m args c cc nL own D k d mc ms) (ha : a < 2 ^ 31) (hb : b < 2 ^ 31) {off : Int} {tgt : Nat} (hdg : decode cc pc = .ok (.if_icmp .ne off, 3)) (ht : (pc : Int) + off = (tgt : Int)) (kt : ¬ a = b → W p l e R s m args below meth c H locs cells slots Q (F0 m tgt ls rest)) (kf : a = b → W p l e R s m args below meth c H locs cells slots Q (F0 m (pc + 3) ls rest)) : W p l e R s m args below meth c H locs cells slots Q (F0 m pc ls (.int (nI b) :: .int (nI a) :: rest)) :=
  lv_icmp_ne F.1.1 F.1.2 hdg ht (fun h => kt fun q => h ((nI_eq ha hb).mpr q)) (fun h => kf ((nI_eq ha hb).mp h))
theorem x_if_eq (a : Nat) (F : Fx p R s m args c cc nL own D k d mc ms) (ha : a < 2 ^ 31) {off : Int} {tgt : Nat} (hdg : decode cc pc = .ok (.ifCond .eq off, 3)) (ht : (pc : Int) + off = (tgt : Int)) (kt : a = 0 → W p l e R s m args below meth c H locs cells slots Q (F0 m tgt ls rest)) (kf : ¬ a = 0 → W p l e R s m args below meth c H locs cells slots Q (F0 m (pc + 3) ls rest)) : W p l e R s m args below meth c H locs cells slots Q (F0 m pc ls (.int (nI a) :: rest)) :=
  lv_if_eq F.1.1 F.1.2 hdg ht (fun h => kt ((nI_eq ha (by decide)).mp (h.trans nI_0.symm))) (fun h => kf fun q => h (by rw [q]; exact nI_0))
theorem x_if_ne (a : Nat) (F : Fx p R s m args c cc nL own D k d mc ms) (ha : a < 2 ^ 31) {off : Int} {tgt : Nat} (hdg : decode cc pc = .ok (.ifCond .ne off, 3)) (ht : (pc : Int) + off = (tgt : Int)) (kt : ¬ a = 0 → W p l e R s m args below meth c H locs cells slots Q (F0 m tgt ls rest)) (kf : a = 0 → W p l e R s m args below meth c H locs cells slots Q (F0 m (pc + 3) ls rest)) : W p l e R s m args below meth c H locs cells slots Q (F0 m pc ls (.int (nI a) :: rest)) :=
  lv_if_ne F.1.1 F.1.2 hdg ht (fun h => kt fun q => h (by rw [q]; exact nI_0)) (fun h => kf ((nI_eq ha (by decide)).mp (h.trans nI_0.symm)))
theorem x_cs {mc' ms' : Nat} (F : Fx p R s m args c cc nL own D k d mc ms) (h1 : cells + mc' ≤ mc) (h2 : slots + ms' ≤ ms) : cells + mc' ≤ R.cells ∧ slots + ms' ≤ R.slots := ⟨Nat.le_trans h1 F.2.2.2.2.2.1, Nat.le_trans h2 F.2.2.2.2.2.2⟩
theorem x_ldc {idx : Nat} {v : Int32} (F : Fx p R s m args c cc nL own D k d mc ms) (h : Cond.constant own idx v ∈ gT) (hdg : decode cc pc = .ok (.ldc idx, 2)) (kk : W p l e R s m args below meth c H locs cells slots Q (F0 m (pc + 2) ls (.int v :: rest))) : W p l e R s m args below meth c H locs cells slots Q (F0 m pc ls rest) := lv_ldc F.1.1 F.1.2 F.2.1.2.1 (F.2.1.2.2 _ h) hdg kk
end XG
theorem ld_X6_252 : Cond.constant RX6 252 (nI 65535) ∈ gT := gT_tb 270 (by decide +kernel) rfl
set_option maxRecDepth 20000 in
theorem ld_X7_73 : Cond.constant RX7 73 (nI 65535) ∈ gT := gT_tb 698 (by decide +kernel) rfl
set_option maxRecDepth 20000 in
theorem ld_X7_111 : Cond.constant RX7 111 (nI 100000000) ∈ gT := gT_tb 768 (by decide +kernel) rfl
end
section
/-! ===== pure words ===== -/
def f_in (v a b : Int32) : Int32 := if a ≤ v ∧ v ≤ b then nI 1 else nI 0
theorem f_in_n (v a b : Int32) : narrow .boolean (.int (f_in v a b)) = .int (f_in v a b) := by
  unfold f_in
  split <;> rfl
theorem f_in_0 {v a b : Int32} : f_in v a b = 0 ↔ ¬ (a ≤ v ∧ v ≤ b) := by
  unfold f_in
  split
  · rename_i h; exact ⟨fun q => absurd q (by decide), fun q => absurd h q⟩
  · rename_i h; exact ⟨fun _ => h, fun _ => rfl⟩
/-- what a stroke of a drawing is -/
def stkI (d s : Int32) : Int32 := (d >>> ((nI 2 * (nI 7 - s)) &&& 31)) &&& nI 3
def stk (d : Int32) (s : Nat) : Nat := (stkI d (nI s)).toNatClampNeg
theorem stk_ex (d : Int32) (s : Nat) : stkI d (nI s) = nI (stk d s) ∧ stk d s < 4 := by
  obtain ⟨j, hj, e⟩ := pk_andE (d >>> ((nI 2 * (nI 7 - nI s)) &&& 31)) (m := nI 3) 2 (by decide)
  have h : stk d s = j := by
    unfold stk stkI
    rw [e]
    exact nI_clamp (by omega)
  refine ⟨?_, by rw [h]; exact hj⟩
  rw [h]
  exact e
theorem stk_lt (d : Int32) (s : Nat) : stk d s < 4 := (stk_ex d s).2
theorem stk_14 : ∀ s : Nat, s < 8 → nI 14 - nI (2 * s) = nI 2 * (nI 7 - nI s) := by decide
/-- the bits of those that fit -/
def orB (p : Nat → Bool) : Nat → Int32
  | 0 => nI 0
  | n + 1 => if p n then orB p n ||| (nI 1 <<< (nI n &&& 31)) else orB p n
def allB (p : Nat → Bool) : Nat → Bool
  | 0 => true
  | n + 1 => allB p n && p n
theorem allB_le {p : Nat → Bool} : ∀ {n m : Nat}, n ≤ m → allB p m = true → allB p n = true
  | n, 0, h, _ => by rw [Nat.le_zero.mp h]; rfl
  | n, m + 1, h, q => by
    simp only [allB, Bool.and_eq_true] at q
    rcases Nat.lt_or_ge n (m + 1) with h1 | h1
    · exact allB_le (by omega) q.1
    · rw [show n = m + 1 by omega]; simp only [allB, Bool.and_eq_true]; exact q
theorem allB_no {p : Nat → Bool} {n m : Nat} (h : n < m) (hp : p n = false) : allB p m = false := by
  cases hq : allB p m with
  | false => rfl
  | true =>
    have := allB_le (p := p) (n := n + 1) (m := m) h hq
    simp [allB, hp] at this
def b01 (b : Bool) : Int32 := if b then nI 1 else nI 0
theorem b01_n (b : Bool) : narrow .boolean (.int (b01 b)) = .int (b01 b) := by cases b <;> rfl
theorem b01_0 {b : Bool} : b01 b = 0 ↔ b = false := by cases b <;> decide
def hbt (x : Int32) (n : Nat) : Bool := (x >>> (nI n &&& 31)) &&& nI 1 != 0
def inkN (d : Int32) : Nat → Nat
  | 0 => 0
  | n + 1 => inkN d n + (if stk d n = 0 then 0 else if stk d n = 3 then 2 else 1)
theorem inkN_le (d : Int32) : ∀ n, inkN d n ≤ 2 * n
  | 0 => Nat.le_refl _
  | n + 1 => by
    have := inkN_le d n
    unfold inkN
    split <;> (try split) <;> omega
def isDr (d : Int32) : Int32 := f_in d (nI 0) (nI 65535)
def spanP (a b lo hi : Int32) : Prop := lo ≤ a ∧ a ≤ b ∧ b ≤ hi
set_option maxHeartbeats 4000000 in
set_option maxRecDepth 20000 in
theorem c_X6_within (l : Launch) (D : va_G) (k : Nat → ClassId) (X : va_W) (v : Int32) (a : Int32) (b : Int32) : CI l D k yX6_within cX6_within 3 (some .boolean) 0 0 0 [.int v, .int a, .int b] X (fun r w' => w' = X ∧ r = f_in v a b) := by
  refine CI.mk (by decide) (Nat.le_of_ble_eq_true rfl) ?_
  intro p e R s m args below meth c A Q ls F hret hw hl
  have hx := xs_hx F
  have hb := xs_hb F
  have hl : lv_has ls 3 [(0, .int v), (1, .int a), (2, .int b)] := hl
  refine lv_iload_n hx hb dX6_within_0 rfl (lv_at hl 0 rfl) ?_
  refine lv_iload_n hx hb dX6_within_1 rfl (lv_at hl 1 rfl) ?_
  refine lv_icmp_lt (tgt := 14) hx hb dX6_within_2 rfl (fun c2 => ?_) (fun c2 => ?_)
  · refine lv_iconst (v := nI 0) hx hb dX6_within_14 rfl ?_
    exact hret _ _ _ _ _ _ dX6_within_15 hw rfl ⟨rfl, by first | exact (if_neg (fun q => Int32.not_le.mpr c7 q.2)).symm | exact (if_neg (fun q => Int32.not_le.mpr c2 q.1)).symm | exact (if_pos ⟨Int32.not_lt.mp c2, Int32.not_lt.mp c7⟩).symm⟩
  · refine lv_iload_n hx hb dX6_within_5 rfl (lv_at hl 0 rfl) ?_
    refine lv_iload_n hx hb dX6_within_6 rfl (lv_at hl 2 rfl) ?_
    refine lv_icmp_gt (tgt := 14) hx hb dX6_within_7 rfl (fun c7 => ?_) (fun c7 => ?_)
    · refine lv_iconst (v := nI 0) hx hb dX6_within_14 rfl ?_
      exact hret _ _ _ _ _ _ dX6_within_15 hw rfl ⟨rfl, by first | exact (if_neg (fun q => Int32.not_le.mpr c7 q.2)).symm | exact (if_neg (fun q => Int32.not_le.mpr c2 q.1)).symm | exact (if_pos ⟨Int32.not_lt.mp c2, Int32.not_lt.mp c7⟩).symm⟩
    · refine lv_iconst (v := nI 1) hx hb dX6_within_10 rfl ?_
      refine lv_goto (tgt := 15) hx hb dX6_within_11 rfl ?_
      exact hret _ _ _ _ _ _ dX6_within_15 hw rfl ⟨rfl, by first | exact (if_neg (fun q => Int32.not_le.mpr c7 q.2)).symm | exact (if_neg (fun q => Int32.not_le.mpr c2 q.1)).symm | exact (if_pos ⟨Int32.not_lt.mp c2, Int32.not_lt.mp c7⟩).symm⟩
set_option maxHeartbeats 4000000 in
set_option maxRecDepth 20000 in
theorem c_X7_in (l : Launch) (D : va_G) (k : Nat → ClassId) (X : va_W) (v : Int32) (a : Int32) (b : Int32) : CI l D k yX7_in cX7_in 3 (some .boolean) 0 0 0 [.int v, .int a, .int b] X (fun r w' => w' = X ∧ r = f_in v a b) := by
  refine CI.mk (by decide) (Nat.le_of_ble_eq_true rfl) ?_
  intro p e R s m args below meth c A Q ls F hret hw hl
  have hx := xs_hx F
  have hb := xs_hb F
  have hl : lv_has ls 3 [(0, .int v), (1, .int a), (2, .int b)] := hl
  refine lv_iload_n hx hb dX7_in_0 rfl (lv_at hl 0 rfl) ?_
  refine lv_iload_n hx hb dX7_in_1 rfl (lv_at hl 1 rfl) ?_
  refine lv_icmp_lt (tgt := 14) hx hb dX7_in_2 rfl (fun c2 => ?_) (fun c2 => ?_)
  · refine lv_iconst (v := nI 0) hx hb dX7_in_14 rfl ?_
    exact hret _ _ _ _ _ _ dX7_in_15 hw rfl ⟨rfl, by first | exact (if_neg (fun q => Int32.not_le.mpr c7 q.2)).symm | exact (if_neg (fun q => Int32.not_le.mpr c2 q.1)).symm | exact (if_pos ⟨Int32.not_lt.mp c2, Int32.not_lt.mp c7⟩).symm⟩
  · refine lv_iload_n hx hb dX7_in_5 rfl (lv_at hl 0 rfl) ?_
    refine lv_iload_n hx hb dX7_in_6 rfl (lv_at hl 2 rfl) ?_
    refine lv_icmp_gt (tgt := 14) hx hb dX7_in_7 rfl (fun c7 => ?_) (fun c7 => ?_)
    · refine lv_iconst (v := nI 0) hx hb dX7_in_14 rfl ?_
      exact hret _ _ _ _ _ _ dX7_in_15 hw rfl ⟨rfl, by first | exact (if_neg (fun q => Int32.not_le.mpr c7 q.2)).symm | exact (if_neg (fun q => Int32.not_le.mpr c2 q.1)).symm | exact (if_pos ⟨Int32.not_lt.mp c2, Int32.not_lt.mp c7⟩).symm⟩
    · refine lv_iconst (v := nI 1) hx hb dX7_in_10 rfl ?_
      refine lv_goto (tgt := 15) hx hb dX7_in_11 rfl ?_
      exact hret _ _ _ _ _ _ dX7_in_15 hw rfl ⟨rfl, by first | exact (if_neg (fun q => Int32.not_le.mpr c7 q.2)).symm | exact (if_neg (fun q => Int32.not_le.mpr c2 q.1)).symm | exact (if_pos ⟨Int32.not_lt.mp c2, Int32.not_lt.mp c7⟩).symm⟩
set_option maxHeartbeats 4000000 in
set_option maxRecDepth 20000 in
theorem c_X6_isDrawing (l : Launch) (D : va_G) (k : Nat → ClassId) (X : va_W) (d : Int32) : CI l D k yX6_isDrawing cX6_isDrawing 1 (some .boolean) 1 0 0 [.int d] X (fun r w' => w' = X ∧ r = isDr d) := by
  refine CI.mk (by decide) (Nat.le_of_ble_eq_true rfl) ?_
  intro p e R s m args below meth c A Q ls F hret hw hl
  have hx := xs_hx F
  have hb := xs_hb F
  have hl : lv_has ls 1 [(0, .int d)] := hl
  refine lv_iload_n hx hb dX6_isDrawing_0 rfl (lv_at hl 0 rfl) ?_
  refine lv_iconst (v := nI 0) hx hb dX6_isDrawing_1 rfl ?_
  refine x_ldc F ld_X6_252 dX6_isDrawing_2 ?_
  refine x_fSI (rest := []) (c_X6_within l D k X d (nI 0) (nI 65535)) mo_X6_93 F hw (Nat.le_of_ble_eq_true rfl) (x_cs F (Nat.le_of_ble_eq_true rfl) (Nat.le_of_ble_eq_true rfl)) rfl rfl hl.1 (Nat.le_of_ble_eq_true rfl) dX6_isDrawing_4 (fun H locs hw => ?_)
  exact hret _ _ _ _ _ _ dX6_isDrawing_7 hw (f_in_n _ _ _) ⟨rfl, rfl⟩
set_option maxHeartbeats 4000000 in
set_option maxRecDepth 20000 in
theorem c_X7_isDrawing (l : Launch) (D : va_G) (k : Nat → ClassId) (X : va_W) (d : Int32) : CI l D k yX7_isDrawing cX7_isDrawing 1 (some .boolean) 1 0 0 [.int d] X (fun r w' => w' = X ∧ r = isDr d) := by
  refine CI.mk (by decide) (Nat.le_of_ble_eq_true rfl) ?_
  intro p e R s m args below meth c A Q ls F hret hw hl
  have hx := xs_hx F
  have hb := xs_hb F
  have hl : lv_has ls 1 [(0, .int d)] := hl
  refine lv_iload_n hx hb dX7_isDrawing_0 rfl (lv_at hl 0 rfl) ?_
  refine lv_iconst (v := nI 0) hx hb dX7_isDrawing_1 rfl ?_
  refine x_ldc F ld_X7_73 dX7_isDrawing_2 ?_
  refine x_fSI (rest := []) (c_X7_in l D k X d (nI 0) (nI 65535)) mo_X7_69 F hw (Nat.le_of_ble_eq_true rfl) (x_cs F (Nat.le_of_ble_eq_true rfl) (Nat.le_of_ble_eq_true rfl)) rfl rfl hl.1 (Nat.le_of_ble_eq_true rfl) dX7_isDrawing_4 (fun H locs hw => ?_)
  exact hret _ _ _ _ _ _ dX7_isDrawing_7 hw (f_in_n _ _ _) ⟨rfl, rfl⟩
set_option maxHeartbeats 4000000 in
set_option maxRecDepth 20000 in
theorem c_X7_isYear (l : Launch) (D : va_G) (k : Nat → ClassId) (X : va_W) (y : Int32) : CI l D k yX7_isYear cX7_isYear 1 (some .boolean) 1 0 0 [.int y] X (fun r w' => w' = X ∧ r = f_in y (nI 0) (nI 99)) := by
  refine CI.mk (by decide) (Nat.le_of_ble_eq_true rfl) ?_
  intro p e R s m args below meth c A Q ls F hret hw hl
  have hx := xs_hx F
  have hb := xs_hb F
  have hl : lv_has ls 1 [(0, .int y)] := hl
  refine lv_iload_n hx hb dX7_isYear_0 rfl (lv_at hl 0 rfl) ?_
  refine lv_iconst (v := nI 0) hx hb dX7_isYear_1 rfl ?_
  refine lv_bipush (v := nI 99) hx hb dX7_isYear_2 rfl ?_
  refine x_fSI (rest := []) (c_X7_in l D k X y (nI 0) (nI 99)) mo_X7_69 F hw (Nat.le_of_ble_eq_true rfl) (x_cs F (Nat.le_of_ble_eq_true rfl) (Nat.le_of_ble_eq_true rfl)) rfl rfl hl.1 (Nat.le_of_ble_eq_true rfl) dX7_isYear_4 (fun H locs hw => ?_)
  exact hret _ _ _ _ _ _ dX7_isYear_7 hw (f_in_n _ _ _) ⟨rfl, rfl⟩
set_option maxHeartbeats 4000000 in
set_option maxRecDepth 20000 in
theorem c_X6_isSpan (l : Launch) (D : va_G) (k : Nat → ClassId) (X : va_W) (a : Int32) (b : Int32) (lo : Int32) (hi : Int32) : CI l D k yX6_isSpan cX6_isSpan 4 (some .boolean) 0 0 0 [.int a, .int b, .int lo, .int hi] X (fun r w' => w' = X ∧ r = (if lo ≤ a ∧ a ≤ b ∧ b ≤ hi then nI 1 else nI 0)) := by
  refine CI.mk (by decide) (Nat.le_of_ble_eq_true rfl) ?_
  intro p e R s m args below meth c A Q ls F hret hw hl
  have hx := xs_hx F
  have hb := xs_hb F
  have hl : lv_has ls 4 [(0, .int a), (1, .int b), (2, .int lo), (3, .int hi)] := hl
  refine lv_iload_n hx hb dX6_isSpan_0 rfl (lv_at hl 0 rfl) ?_
  refine lv_iload_n hx hb dX6_isSpan_1 rfl (lv_at hl 2 rfl) ?_
  refine lv_icmp_lt (tgt := 19) hx hb dX6_isSpan_2 rfl (fun c2 => ?_) (fun c2 => ?_)
  · refine lv_iconst (v := nI 0) hx hb dX6_isSpan_19 rfl ?_
    exact hret _ _ _ _ _ _ dX6_isSpan_20 hw rfl ⟨rfl, by first | exact (if_neg (fun q => Int32.not_le.mpr c12 q.2.2)).symm | exact (if_neg (fun q => Int32.not_le.mpr c7 q.2.1)).symm | exact (if_neg (fun q => Int32.not_le.mpr c2 q.1)).symm | exact (if_pos ⟨Int32.not_lt.mp c2, Int32.not_lt.mp c7, Int32.not_lt.mp c12⟩).symm⟩
  · refine lv_iload_n hx hb dX6_isSpan_5 rfl (lv_at hl 0 rfl) ?_
    refine lv_iload_n hx hb dX6_isSpan_6 rfl (lv_at hl 1 rfl) ?_
    refine lv_icmp_gt (tgt := 19) hx hb dX6_isSpan_7 rfl (fun c7 => ?_) (fun c7 => ?_)
    · refine lv_iconst (v := nI 0) hx hb dX6_isSpan_19 rfl ?_
      exact hret _ _ _ _ _ _ dX6_isSpan_20 hw rfl ⟨rfl, by first | exact (if_neg (fun q => Int32.not_le.mpr c12 q.2.2)).symm | exact (if_neg (fun q => Int32.not_le.mpr c7 q.2.1)).symm | exact (if_neg (fun q => Int32.not_le.mpr c2 q.1)).symm | exact (if_pos ⟨Int32.not_lt.mp c2, Int32.not_lt.mp c7, Int32.not_lt.mp c12⟩).symm⟩
    · refine lv_iload_n hx hb dX6_isSpan_10 rfl (lv_at hl 1 rfl) ?_
      refine lv_iload_n hx hb dX6_isSpan_11 rfl (lv_at hl 3 rfl) ?_
      refine lv_icmp_gt (tgt := 19) hx hb dX6_isSpan_12 rfl (fun c12 => ?_) (fun c12 => ?_)
      · refine lv_iconst (v := nI 0) hx hb dX6_isSpan_19 rfl ?_
        exact hret _ _ _ _ _ _ dX6_isSpan_20 hw rfl ⟨rfl, by first | exact (if_neg (fun q => Int32.not_le.mpr c12 q.2.2)).symm | exact (if_neg (fun q => Int32.not_le.mpr c7 q.2.1)).symm | exact (if_neg (fun q => Int32.not_le.mpr c2 q.1)).symm | exact (if_pos ⟨Int32.not_lt.mp c2, Int32.not_lt.mp c7, Int32.not_lt.mp c12⟩).symm⟩
      · refine lv_iconst (v := nI 1) hx hb dX6_isSpan_15 rfl ?_
        refine lv_goto (tgt := 20) hx hb dX6_isSpan_16 rfl ?_
        exact hret _ _ _ _ _ _ dX6_isSpan_20 hw rfl ⟨rfl, by first | exact (if_neg (fun q => Int32.not_le.mpr c12 q.2.2)).symm | exact (if_neg (fun q => Int32.not_le.mpr c7 q.2.1)).symm | exact (if_neg (fun q => Int32.not_le.mpr c2 q.1)).symm | exact (if_pos ⟨Int32.not_lt.mp c2, Int32.not_lt.mp c7, Int32.not_lt.mp c12⟩).symm⟩
set_option maxHeartbeats 4000000 in
set_option maxRecDepth 20000 in
theorem c_X6_hasBit (l : Launch) (D : va_G) (k : Nat → ClassId) (X : va_W) (x : Int32) (n : Nat) : CI l D k yX6_hasBit cX6_hasBit 2 (some .boolean) 0 0 0 [.int x, .int (nI n)] X (fun r w' => w' = X ∧ r = b01 (hbt x n)) := by
  refine CI.mk (by decide) (Nat.le_of_ble_eq_true rfl) ?_
  intro p e R s m args below meth c A Q ls F hret hw hl
  have hx := xs_hx F
  have hb := xs_hb F
  have hl : lv_has ls 2 [(0, .int x), (1, .int (nI n))] := hl
  refine lv_iload_n hx hb dX6_hasBit_0 rfl (lv_at hl 0 rfl) ?_
  refine lv_iload_n hx hb dX6_hasBit_1 rfl (lv_at hl 1 rfl) ?_
  refine lv_ishr hx hb dX6_hasBit_2 ?_
  refine lv_iconst (v := nI 1) hx hb dX6_hasBit_3 rfl ?_
  refine lv_iand hx hb dX6_hasBit_4 ?_
  refine lv_if_eq (tgt := 12) hx hb dX6_hasBit_5 rfl (fun c5 => ?_) (fun c5 => ?_)
  · refine lv_iconst (v := nI 0) hx hb dX6_hasBit_12 rfl ?_
    exact hret _ _ _ _ _ _ dX6_hasBit_13 hw rfl ⟨rfl, by simp_all [b01, hbt]⟩
  · refine lv_iconst (v := nI 1) hx hb dX6_hasBit_8 rfl ?_
    refine lv_goto (tgt := 13) hx hb dX6_hasBit_9 rfl ?_
    exact hret _ _ _ _ _ _ dX6_hasBit_13 hw rfl ⟨rfl, by simp_all [b01, hbt]⟩
set_option maxHeartbeats 4000000 in
set_option maxRecDepth 20000 in
theorem c_X6_strokeOf (l : Launch) (D : va_G) (k : Nat → ClassId) (X : va_W) (dr : Int32) (sk : Nat) : CI l D k yX6_strokeOf cX6_strokeOf 2 (some .int) 0 0 0 [.int dr, .int (nI sk)] X (fun r w' => w' = X ∧ r = nI (stk dr sk)) := by
  refine CI.mk (by decide) (Nat.le_of_ble_eq_true rfl) ?_
  intro p e R s m args below meth c A Q ls F hret hw hl
  have hx := xs_hx F
  have hb := xs_hb F
  have hl : lv_has ls 2 [(0, .int dr), (1, .int (nI sk))] := hl
  refine lv_iload_n hx hb dX6_strokeOf_0 rfl (lv_at hl 0 rfl) ?_
  refine lv_iconst (v := nI 2) hx hb dX6_strokeOf_1 rfl ?_
  refine lv_bipush (v := nI 7) hx hb dX6_strokeOf_2 rfl ?_
  refine lv_iload_n hx hb dX6_strokeOf_4 rfl (lv_at hl 1 rfl) ?_
  refine lv_isub hx hb dX6_strokeOf_5 ?_
  refine lv_imul hx hb dX6_strokeOf_6 ?_
  refine lv_ishr hx hb dX6_strokeOf_7 ?_
  refine lv_iconst (v := nI 3) hx hb dX6_strokeOf_8 rfl ?_
  refine lv_iand hx hb dX6_strokeOf_9 ?_
  exact hret _ _ _ _ _ _ dX6_strokeOf_10 hw rfl ⟨rfl, (stk_ex dr sk).1⟩
set_option maxHeartbeats 4000000 in
set_option maxRecDepth 20000 in
theorem c_X7_strokeOf (l : Launch) (D : va_G) (k : Nat → ClassId) (X : va_W) (dr : Int32) (sk : Nat) (hs : sk < 8) : CI l D k yX7_strokeOf cX7_strokeOf 2 (some .int) 0 0 0 [.int dr, .int (nI sk)] X (fun r w' => w' = X ∧ r = nI (stk dr sk)) := by
  refine CI.mk (by decide) (Nat.le_of_ble_eq_true rfl) ?_
  intro p e R s m args below meth c A Q ls F hret hw hl
  have hx := xs_hx F
  have hb := xs_hb F
  have hl : lv_has ls 2 [(0, .int dr), (1, .int (nI sk))] := hl
  refine lv_iload_n hx hb dX7_strokeOf_0 rfl (lv_at hl 0 rfl) ?_
  refine lv_bipush (v := nI 14) hx hb dX7_strokeOf_1 rfl ?_
  refine lv_iconst (v := nI 2) hx hb dX7_strokeOf_3 rfl ?_
  refine lv_iload_n hx hb dX7_strokeOf_4 rfl (lv_at hl 1 rfl) ?_
  refine lv_imul hx hb dX7_strokeOf_5 ?_
  refine x_top (y := nI (2 * sk)) (pk_mul _ _) ?_
  refine lv_isub hx hb dX7_strokeOf_6 ?_
  refine x_top (y := nI 2 * (nI 7 - nI sk)) (stk_14 sk hs) ?_
  refine lv_ishr hx hb dX7_strokeOf_7 ?_
  refine lv_iconst (v := nI 3) hx hb dX7_strokeOf_8 rfl ?_
  refine lv_iand hx hb dX7_strokeOf_9 ?_
  exact hret _ _ _ _ _ _ dX7_strokeOf_10 hw rfl ⟨rfl, (stk_ex dr sk).1⟩
set_option maxHeartbeats 4000000 in
set_option maxRecDepth 20000 in
theorem c_X6_strokesIn (l : Launch) (D : va_G) (k : Nat → ClassId) (X : va_W) (dr : Int32) : CI l D k yX6_strokesIn cX6_strokesIn 3 (some .int) 1 0 0 [.int dr] X (fun r w' => w' = X ∧ r = orB (fun j => stk dr j != 0) 8) := by
  refine CI.mk (by decide) (Nat.le_of_ble_eq_true rfl) ?_
  intro p e R s m args below meth c A Q ls F hret hw hl
  have hx := xs_hx F
  have hb := xs_hb F
  have hl : lv_has ls 3 [(0, .int dr)] := hl
  refine lv_iconst (v := nI 0) hx hb dX6_strokesIn_0 rfl ?_
  refine lv_istore_n (lv' := [(1, .int (nI 0)), (0, .int dr)]) hx hb dX6_strokesIn_1 rfl hl (Nat.le_of_ble_eq_true rfl) rfl (fun ls hl => ?_)
  refine lv_iconst (v := nI 0) hx hb dX6_strokesIn_2 rfl ?_
  refine lv_istore_n (lv' := [(2, .int (nI 0)), (1, .int (nI 0)), (0, .int dr)]) hx hb dX6_strokesIn_3 rfl hl (Nat.le_of_ble_eq_true rfl) rfl (fun ls hl => ?_)
  have K4 : ∀ (n4_ : Nat) (i : Nat) (x : Int32) (H : Heap) (locs : List Loc) (ls : Array Slot), 8 - i < n4_ → (i ≤ 8) → (x = orB (fun j => stk dr j != 0) i) → Wd D A s.heap H locs X → lv_has ls 3 [(0, .int dr), (1, .int x), (2, .int (nI i))] → W p l e R s m args below meth c H locs 0 0 Q (F0 m 4 ls []) := by
    intro n4_
    induction n4_ with
    | zero =>
      intro i x H locs ls hn4_
      exact absurd hn4_ (Nat.not_lt_zero _)
    | succ n4_ ih4_ =>
      intro i x H locs ls hn4_ hi h1 hw hl
      refine lv_iload_n hx hb dX6_strokesIn_4 rfl (lv_at hl 2 rfl) ?_
      refine lv_bipush (v := nI 8) hx hb dX6_strokesIn_5 rfl ?_
      refine x_icmp_ge i 8 F (by omega) (by omega) (tgt := 30) dX6_strokesIn_7 rfl (fun c7 => ?_) (fun c7 => ?_)
      · refine lv_iload_n hx hb dX6_strokesIn_30 rfl (lv_at hl 1 rfl) ?_
        exact hret _ _ _ _ _ _ dX6_strokesIn_31 hw rfl ⟨rfl, by rw [h1, show i = 8 by omega]⟩
      · refine lv_iload_n hx hb dX6_strokesIn_10 rfl (lv_at hl 0 rfl) ?_
        refine lv_iload_n hx hb dX6_strokesIn_11 rfl (lv_at hl 2 rfl) ?_
        refine x_fSI (rest := []) (c_X6_strokeOf l D k X dr i) mo_X6_253 F hw (Nat.le_of_ble_eq_true rfl) (x_cs F (Nat.le_of_ble_eq_true rfl) (Nat.le_of_ble_eq_true rfl)) rfl rfl hl.1 (Nat.le_of_ble_eq_true rfl) dX6_strokesIn_12 (fun H locs hw => ?_)
        have := stk_lt dr i
        refine x_if_eq (stk dr i) F (by omega) (tgt := 24) dX6_strokesIn_15 rfl (fun c15 => ?_) (fun c15 => ?_)
        · refine lv_iinc (v := nI (i + 1)) (lv' := [(2, .int (nI (i + 1))), (0, .int dr), (1, .int x)]) hx hb dX6_strokesIn_24 hl (k := 2) rfl (nI_1 _) (Nat.le_of_ble_eq_true rfl) rfl (fun ls hl => ?_)
          refine lv_goto (tgt := 4) hx hb dX6_strokesIn_27 rfl ?_
          exact ih4_ (i + 1) x _ _ _ (by first | omega | (simp only [] at *; omega)) (by first | assumption | omega | rfl) (by simp [orB, h1, c15]) hw (lv_sub hl [1, 2, 0] rfl)
        · refine lv_iload_n hx hb dX6_strokesIn_18 rfl (lv_at hl 1 rfl) ?_
          refine lv_iconst (v := nI 1) hx hb dX6_strokesIn_19 rfl ?_
          refine lv_iload_n hx hb dX6_strokesIn_20 rfl (lv_at hl 2 rfl) ?_
          refine lv_ishl hx hb dX6_strokesIn_21 ?_
          refine lv_ior hx hb dX6_strokesIn_22 ?_
          refine lv_istore_n (lv' := [(1, .int (x ||| ((nI 1) <<< ((nI i) &&& 31)))), (0, .int dr), (2, .int (nI i))]) hx hb dX6_strokesIn_23 rfl hl (Nat.le_of_ble_eq_true rfl) rfl (fun ls hl => ?_)
          refine lv_iinc (v := nI (i + 1)) (lv' := [(2, .int (nI (i + 1))), (1, .int (x ||| ((nI 1) <<< ((nI i) &&& 31)))), (0, .int dr)]) hx hb dX6_strokesIn_24 hl (k := 2) rfl (nI_1 _) (Nat.le_of_ble_eq_true rfl) rfl (fun ls hl => ?_)
          refine lv_goto (tgt := 4) hx hb dX6_strokesIn_27 rfl ?_
          exact ih4_ (i + 1) (x ||| ((nI 1) <<< ((nI i) &&& 31))) _ _ _ (by first | omega | (simp only [] at *; omega)) (by first | assumption | omega | rfl) (by simp [orB, h1, c15]) hw (lv_sub hl [2, 1, 0] rfl)
  exact K4 _ 0 (nI 0) _ _ _ (Nat.lt_succ_self _) (by first | assumption | omega | rfl) (by rfl) hw (lv_sub hl [2, 1, 0] rfl)
set_option maxHeartbeats 4000000 in
set_option maxRecDepth 20000 in
theorem c_X6_inkOf (l : Launch) (D : va_G) (k : Nat → ClassId) (X : va_W) (dr : Int32) : CI l D k yX6_inkOf cX6_inkOf 4 (some .int) 1 0 0 [.int dr] X (fun r w' => w' = X ∧ r = nI (inkN dr 8)) := by
  refine CI.mk (by decide) (Nat.le_of_ble_eq_true rfl) ?_
  intro p e R s m args below meth c A Q ls F hret hw hl
  have hx := xs_hx F
  have hb := xs_hb F
  have hl : lv_has ls 4 [(0, .int dr)] := hl
  refine lv_iconst (v := nI 0) hx hb dX6_inkOf_0 rfl ?_
  refine lv_istore_n (lv' := [(1, .int (nI 0)), (0, .int dr)]) hx hb dX6_inkOf_1 rfl hl (Nat.le_of_ble_eq_true rfl) rfl (fun ls hl => ?_)
  refine lv_iconst (v := nI 0) hx hb dX6_inkOf_2 rfl ?_
  refine lv_istore_n (lv' := [(2, .int (nI 0)), (1, .int (nI 0)), (0, .int dr)]) hx hb dX6_inkOf_3 rfl hl (Nat.le_of_ble_eq_true rfl) rfl (fun ls hl => ?_)
  have K4 : ∀ (n4_ : Nat) (i : Nat) (x : Nat) (H : Heap) (locs : List Loc) (ls : Array Slot), 8 - i < n4_ → (i ≤ 8) → (x = inkN dr i) → Wd D A s.heap H locs X → lv_has ls 4 [(0, .int dr), (1, .int (nI x)), (2, .int (nI i))] → W p l e R s m args below meth c H locs 0 0 Q (F0 m 4 ls []) := by
    intro n4_
    induction n4_ with
    | zero =>
      intro i x H locs ls hn4_
      exact absurd hn4_ (Nat.not_lt_zero _)
    | succ n4_ ih4_ =>
      intro i x H locs ls hn4_ hi h1 hw hl
      refine lv_iload_n hx hb dX6_inkOf_4 rfl (lv_at hl 2 rfl) ?_
      refine lv_bipush (v := nI 8) hx hb dX6_inkOf_5 rfl ?_
      refine x_icmp_ge i 8 F (by omega) (by omega) (tgt := 40) dX6_inkOf_7 rfl (fun c7 => ?_) (fun c7 => ?_)
      · refine lv_iload_n hx hb dX6_inkOf_40 rfl (lv_at hl 1 rfl) ?_
        exact hret _ _ _ _ _ _ dX6_inkOf_41 hw rfl ⟨rfl, by rw [h1, show i = 8 by omega]⟩
      · refine lv_iload_n hx hb dX6_inkOf_10 rfl (lv_at hl 0 rfl) ?_
        refine lv_iload_n hx hb dX6_inkOf_11 rfl (lv_at hl 2 rfl) ?_
        refine x_fSI (rest := []) (c_X6_strokeOf l D k X dr i) mo_X6_253 F hw (Nat.le_of_ble_eq_true rfl) (x_cs F (Nat.le_of_ble_eq_true rfl) (Nat.le_of_ble_eq_true rfl)) rfl rfl hl.1 (Nat.le_of_ble_eq_true rfl) dX6_inkOf_12 (fun H locs hw => ?_)
        have := stk_lt dr i
        refine lv_istore_n (lv' := [(3, .int (nI ((stk dr i)))), (0, .int dr), (1, .int (nI x)), (2, .int (nI i))]) hx hb dX6_inkOf_15 rfl hl (Nat.le_of_ble_eq_true rfl) rfl (fun ls hl => ?_)
        refine lv_iload_n hx hb dX6_inkOf_16 rfl (lv_at hl 0 rfl) ?_
        refine lv_iconst (v := nI 3) hx hb dX6_inkOf_17 rfl ?_
        refine x_icmp_ne (stk dr i) 3 F (by omega) (by omega) (tgt := 27) dX6_inkOf_18 rfl (fun c18 => ?_) (fun c18 => ?_)
        · refine lv_iload_n hx hb dX6_inkOf_27 rfl (lv_at hl 0 rfl) ?_
          refine x_if_eq (stk dr i) F (by omega) (tgt := 34) dX6_inkOf_28 rfl (fun c28 => ?_) (fun c28 => ?_)
          · refine lv_iinc (v := nI (i + 1)) (lv' := [(2, .int (nI (i + 1))), (3, .int (nI ((stk dr i)))), (0, .int dr), (1, .int (nI x))]) hx hb dX6_inkOf_34 hl (k := 3) rfl (nI_1 _) (Nat.le_of_ble_eq_true rfl) rfl (fun ls hl => ?_)
            refine lv_goto (tgt := 4) hx hb dX6_inkOf_37 rfl ?_
            exact ih4_ (i + 1) x _ _ _ (by first | omega | (simp only [] at *; omega)) (by first | assumption | omega | rfl) (by simp [inkN, h1, *]) hw (lv_sub hl [2, 3, 0] rfl)
          · refine lv_iinc (v := nI (x + 1)) (lv' := [(1, .int (nI (x + 1))), (3, .int (nI ((stk dr i)))), (0, .int dr), (2, .int (nI i))]) hx hb dX6_inkOf_31 hl (k := 2) rfl (nI_1 _) (Nat.le_of_ble_eq_true rfl) rfl (fun ls hl => ?_)
            refine lv_iinc (v := nI (i + 1)) (lv' := [(2, .int (nI (i + 1))), (1, .int (nI (x + 1))), (3, .int (nI ((stk dr i)))), (0, .int dr)]) hx hb dX6_inkOf_34 hl (k := 3) rfl (nI_1 _) (Nat.le_of_ble_eq_true rfl) rfl (fun ls hl => ?_)
            refine lv_goto (tgt := 4) hx hb dX6_inkOf_37 rfl ?_
            exact ih4_ (i + 1) (x + 1) _ _ _ (by first | omega | (simp only [] at *; omega)) (by first | assumption | omega | rfl) (by simp [inkN, h1, *]) hw (lv_sub hl [3, 1, 0] rfl)
        · refine lv_iinc (v := nI (x + 2)) (lv' := [(1, .int (nI (x + 2))), (3, .int (nI ((stk dr i)))), (0, .int dr), (2, .int (nI i))]) hx hb dX6_inkOf_21 hl (k := 2) rfl (nI_add _ 2) (Nat.le_of_ble_eq_true rfl) rfl (fun ls hl => ?_)
          refine lv_goto (tgt := 34) hx hb dX6_inkOf_24 rfl ?_
          refine lv_iinc (v := nI (i + 1)) (lv' := [(2, .int (nI (i + 1))), (1, .int (nI (x + 2))), (3, .int (nI ((stk dr i)))), (0, .int dr)]) hx hb dX6_inkOf_34 hl (k := 3) rfl (nI_1 _) (Nat.le_of_ble_eq_true rfl) rfl (fun ls hl => ?_)
          refine lv_goto (tgt := 4) hx hb dX6_inkOf_37 rfl ?_
          exact ih4_ (i + 1) (x + 2) _ _ _ (by first | omega | (simp only [] at *; omega)) (by first | assumption | omega | rfl) (by simp [inkN, h1, *]) hw (lv_sub hl [3, 1, 0] rfl)
  exact K4 _ 0 0 _ _ _ (Nat.lt_succ_self _) (by first | assumption | omega | rfl) (by rfl) hw (lv_sub hl [2, 1, 0] rfl)
set_option maxHeartbeats 4000000 in
set_option maxRecDepth 20000 in
theorem c_X7_ink (l : Launch) (D : va_G) (k : Nat → ClassId) (X : va_W) (dr : Int32) : CI l D k yX7_ink cX7_ink 4 (some .int) 1 0 0 [.int dr] X (fun r w' => w' = X ∧ r = nI (inkN dr 8)) := by
  refine CI.mk (by decide) (Nat.le_of_ble_eq_true rfl) ?_
  intro p e R s m args below meth c A Q ls F hret hw hl
  have hx := xs_hx F
  have hb := xs_hb F
  have hl : lv_has ls 4 [(0, .int dr)] := hl
  refine lv_iconst (v := nI 0) hx hb dX7_ink_0 rfl ?_
  refine lv_istore_n (lv' := [(1, .int (nI 0)), (0, .int dr)]) hx hb dX7_ink_1 rfl hl (Nat.le_of_ble_eq_true rfl) rfl (fun ls hl => ?_)
  refine lv_iconst (v := nI 0) hx hb dX7_ink_2 rfl ?_
  refine lv_istore_n (lv' := [(2, .int (nI 0)), (1, .int (nI 0)), (0, .int dr)]) hx hb dX7_ink_3 rfl hl (Nat.le_of_ble_eq_true rfl) rfl (fun ls hl => ?_)
  have K4 : ∀ (n4_ : Nat) (i : Nat) (x : Nat) (H : Heap) (locs : List Loc) (ls : Array Slot), 8 - i < n4_ → (i ≤ 8) → (x = inkN dr i) → Wd D A s.heap H locs X → lv_has ls 4 [(0, .int dr), (1, .int (nI x)), (2, .int (nI i))] → W p l e R s m args below meth c H locs 0 0 Q (F0 m 4 ls []) := by
    intro n4_
    induction n4_ with
    | zero =>
      intro i x H locs ls hn4_
      exact absurd hn4_ (Nat.not_lt_zero _)
    | succ n4_ ih4_ =>
      intro i x H locs ls hn4_ hi h1 hw hl
      refine lv_iload_n hx hb dX7_ink_4 rfl (lv_at hl 2 rfl) ?_
      refine lv_bipush (v := nI 8) hx hb dX7_ink_5 rfl ?_
      refine x_icmp_ge i 8 F (by omega) (by omega) (tgt := 43) dX7_ink_7 rfl (fun c7 => ?_) (fun c7 => ?_)
      · refine lv_iload_n hx hb dX7_ink_43 rfl (lv_at hl 1 rfl) ?_
        exact hret _ _ _ _ _ _ dX7_ink_44 hw rfl ⟨rfl, by rw [h1, show i = 8 by omega]⟩
      · refine lv_iload_n hx hb dX7_ink_10 rfl (lv_at hl 0 rfl) ?_
        refine lv_iload_n hx hb dX7_ink_11 rfl (lv_at hl 2 rfl) ?_
        refine x_fSI (rest := []) (c_X7_strokeOf l D k X dr i (by first | assumption | omega)) mo_X7_104 F hw (Nat.le_of_ble_eq_true rfl) (x_cs F (Nat.le_of_ble_eq_true rfl) (Nat.le_of_ble_eq_true rfl)) rfl rfl hl.1 (Nat.le_of_ble_eq_true rfl) dX7_ink_12 (fun H locs hw => ?_)
        have := stk_lt dr i
        refine lv_istore_n (lv' := [(3, .int (nI ((stk dr i)))), (0, .int dr), (1, .int (nI x)), (2, .int (nI i))]) hx hb dX7_ink_15 rfl hl (Nat.le_of_ble_eq_true rfl) rfl (fun ls hl => ?_)
        refine lv_iload_n hx hb dX7_ink_16 rfl (lv_at hl 2 rfl) ?_
        refine lv_iload_n hx hb dX7_ink_17 rfl (lv_at hl 0 rfl) ?_
        refine x_if_ne (stk dr i) F (by omega) (tgt := 25) dX7_ink_18 rfl (fun c18 => ?_) (fun c18 => ?_)
        · refine lv_iload_n hx hb dX7_ink_25 rfl (lv_at hl 0 rfl) ?_
          refine lv_iconst (v := nI 3) hx hb dX7_ink_26 rfl ?_
          refine x_icmp_ne (stk dr i) 3 F (by omega) (by omega) (tgt := 34) dX7_ink_27 rfl (fun c27 => ?_) (fun c27 => ?_)
          · refine lv_iconst (v := nI 1) hx hb dX7_ink_34 rfl ?_
            refine lv_iadd hx hb dX7_ink_35 ?_
            refine x_top (y := nI (x + 1)) (nI_add _ _) ?_
            refine lv_istore_n (lv' := [(1, .int (nI (x + 1))), (3, .int (nI ((stk dr i)))), (0, .int dr), (2, .int (nI i))]) hx hb dX7_ink_36 rfl hl (Nat.le_of_ble_eq_true rfl) rfl (fun ls hl => ?_)
            refine lv_iinc (v := nI (i + 1)) (lv' := [(2, .int (nI (i + 1))), (1, .int (nI (x + 1))), (3, .int (nI ((stk dr i)))), (0, .int dr)]) hx hb dX7_ink_37 hl (k := 3) rfl (nI_1 _) (Nat.le_of_ble_eq_true rfl) rfl (fun ls hl => ?_)
            refine lv_goto (tgt := 4) hx hb dX7_ink_40 rfl ?_
            exact ih4_ (i + 1) (x + 1) _ _ _ (by first | omega | (simp only [] at *; omega)) (by first | assumption | omega | rfl) (by simp [inkN, h1, *]) hw (lv_sub hl [3, 1, 0] rfl)
          · refine lv_iconst (v := nI 2) hx hb dX7_ink_30 rfl ?_
            refine lv_goto (tgt := 35) hx hb dX7_ink_31 rfl ?_
            refine lv_iadd hx hb dX7_ink_35 ?_
            refine x_top (y := nI (x + 2)) (nI_add _ _) ?_
            refine lv_istore_n (lv' := [(1, .int (nI (x + 2))), (3, .int (nI ((stk dr i)))), (0, .int dr), (2, .int (nI i))]) hx hb dX7_ink_36 rfl hl (Nat.le_of_ble_eq_true rfl) rfl (fun ls hl => ?_)
            refine lv_iinc (v := nI (i + 1)) (lv' := [(2, .int (nI (i + 1))), (1, .int (nI (x + 2))), (3, .int (nI ((stk dr i)))), (0, .int dr)]) hx hb dX7_ink_37 hl (k := 3) rfl (nI_1 _) (Nat.le_of_ble_eq_true rfl) rfl (fun ls hl => ?_)
            refine lv_goto (tgt := 4) hx hb dX7_ink_40 rfl ?_
            exact ih4_ (i + 1) (x + 2) _ _ _ (by first | omega | (simp only [] at *; omega)) (by first | assumption | omega | rfl) (by simp [inkN, h1, *]) hw (lv_sub hl [3, 1, 0] rfl)
        · refine lv_iconst (v := nI 0) hx hb dX7_ink_21 rfl ?_
          refine lv_goto (tgt := 35) hx hb dX7_ink_22 rfl ?_
          refine lv_iadd hx hb dX7_ink_35 ?_
          refine x_top (y := nI (x + 0)) (nI_add _ _) ?_
          refine lv_istore_n (lv' := [(1, .int (nI (x + 0))), (3, .int (nI ((stk dr i)))), (0, .int dr), (2, .int (nI i))]) hx hb dX7_ink_36 rfl hl (Nat.le_of_ble_eq_true rfl) rfl (fun ls hl => ?_)
          refine lv_iinc (v := nI (i + 1)) (lv' := [(2, .int (nI (i + 1))), (1, .int (nI (x + 0))), (3, .int (nI ((stk dr i)))), (0, .int dr)]) hx hb dX7_ink_37 hl (k := 3) rfl (nI_1 _) (Nat.le_of_ble_eq_true rfl) rfl (fun ls hl => ?_)
          refine lv_goto (tgt := 4) hx hb dX7_ink_40 rfl ?_
          exact ih4_ (i + 1) (x + 0) _ _ _ (by first | omega | (simp only [] at *; omega)) (by first | assumption | omega | rfl) (by simp [inkN, h1, *]) hw (lv_sub hl [3, 1, 0] rfl)
  exact K4 _ 0 0 _ _ _ (Nat.lt_succ_self _) (by first | assumption | omega | rfl) (by rfl) hw (lv_sub hl [2, 1, 0] rfl)
set_option maxHeartbeats 4000000 in
set_option maxRecDepth 20000 in
theorem c_X6_mayLieUnder (l : Launch) (D : va_G) (k : Nat → ClassId) (X : va_W) (od : Int32) (sw : Int32) (hi : Int32) : CI l D k yX6_mayLieUnder cX6_mayLieUnder 5 (some .boolean) 1 0 0 [.int od, .int sw, .int hi] X (fun r w' => w' = X ∧ r = b01 (allB (fun j => stk od j == 0 || hbt hi j || stk od j == stk sw j) 8)) := by
  refine CI.mk (by decide) (Nat.le_of_ble_eq_true rfl) ?_
  intro p e R s m args below meth c A Q ls F hret hw hl
  have hx := xs_hx F
  have hb := xs_hb F
  have hl : lv_has ls 5 [(0, .int od), (1, .int sw), (2, .int hi)] := hl
  refine lv_iconst (v := nI 0) hx hb dX6_mayLieUnder_0 rfl ?_
  refine lv_istore_n (lv' := [(3, .int (nI 0)), (0, .int od), (1, .int sw), (2, .int hi)]) hx hb dX6_mayLieUnder_1 rfl hl (Nat.le_of_ble_eq_true rfl) rfl (fun ls hl => ?_)
  have K2 : ∀ (n2_ : Nat) (i : Nat) (H : Heap) (locs : List Loc) (ls : Array Slot), 8 - i < n2_ → (i ≤ 8) → (allB (fun j => stk od j == 0 || hbt hi j || stk od j == stk sw j) i = true) → Wd D A s.heap H locs X → lv_has ls 5 [(0, .int od), (1, .int sw), (2, .int hi), (3, .int (nI i))] → W p l e R s m args below meth c H locs 0 0 Q (F0 m 2 ls []) := by
    intro n2_
    induction n2_ with
    | zero =>
      intro i H locs ls hn2_
      exact absurd hn2_ (Nat.not_lt_zero _)
    | succ n2_ ih2_ =>
      intro i H locs ls hn2_ hi8 h1 hw hl
      refine lv_iload_n hx hb dX6_mayLieUnder_2 rfl (lv_at hl 3 rfl) ?_
      refine lv_bipush (v := nI 8) hx hb dX6_mayLieUnder_3 rfl ?_
      refine x_icmp_ge i 8 F (by omega) (by omega) (tgt := 46) dX6_mayLieUnder_5 rfl (fun c5 => ?_) (fun c5 => ?_)
      · refine lv_iconst (v := nI 1) hx hb dX6_mayLieUnder_46 rfl ?_
        exact hret _ _ _ _ _ _ dX6_mayLieUnder_47 hw rfl ⟨rfl, by rw [show 8 = i by omega, h1]; rfl⟩
      · refine lv_iload_n hx hb dX6_mayLieUnder_8 rfl (lv_at hl 0 rfl) ?_
        refine lv_iload_n hx hb dX6_mayLieUnder_9 rfl (lv_at hl 3 rfl) ?_
        refine x_fSI (rest := []) (c_X6_strokeOf l D k X od i) mo_X6_253 F hw (Nat.le_of_ble_eq_true rfl) (x_cs F (Nat.le_of_ble_eq_true rfl) (Nat.le_of_ble_eq_true rfl)) rfl rfl hl.1 (Nat.le_of_ble_eq_true rfl) dX6_mayLieUnder_10 (fun H locs hw => ?_)
        have := stk_lt od i
        refine lv_istore (lv' := [(4, .int (nI ((stk od i)))), (0, .int od), (1, .int sw), (2, .int hi), (3, .int (nI i))]) hx hb dX6_mayLieUnder_13 hl (Nat.le_of_ble_eq_true rfl) rfl (fun ls hl => ?_)
        refine lv_iload hx hb dX6_mayLieUnder_15 (lv_at hl 0 rfl) ?_
        refine x_if_eq (stk od i) F (by omega) (tgt := 40) dX6_mayLieUnder_17 rfl (fun c17 => ?_) (fun c17 => ?_)
        · refine lv_iinc (v := nI (i + 1)) (lv' := [(3, .int (nI (i + 1))), (4, .int (nI ((stk od i)))), (0, .int od), (1, .int sw), (2, .int hi)]) hx hb dX6_mayLieUnder_40 hl (k := 4) rfl (nI_1 _) (Nat.le_of_ble_eq_true rfl) rfl (fun ls hl => ?_)
          refine lv_goto (tgt := 2) hx hb dX6_mayLieUnder_43 rfl ?_
          exact ih2_ (i + 1) _ _ _ (by first | omega | (simp only [] at *; omega)) (by first | assumption | omega | rfl) (by simp [allB, h1]; simp_all [b01_0]) hw (lv_sub hl [2, 3, 4, 0] rfl)
        · refine lv_iload_n hx hb dX6_mayLieUnder_20 rfl (lv_at hl 3 rfl) ?_
          refine lv_iload_n hx hb dX6_mayLieUnder_21 rfl (lv_at hl 4 rfl) ?_
          refine x_fSI (rest := []) (c_X6_hasBit l D k X hi i) mo_X6_151 F hw (Nat.le_of_ble_eq_true rfl) (x_cs F (Nat.le_of_ble_eq_true rfl) (Nat.le_of_ble_eq_true rfl)) rfl rfl hl.1 (Nat.le_of_ble_eq_true rfl) dX6_mayLieUnder_22 (fun H locs hw => ?_)
          refine lv_if_ne (tgt := 40) hx hb dX6_mayLieUnder_25 rfl (fun c25 => ?_) (fun c25 => ?_)
          · refine lv_iinc (v := nI (i + 1)) (lv' := [(3, .int (nI (i + 1))), (4, .int (nI ((stk od i)))), (0, .int od), (1, .int sw), (2, .int hi)]) hx hb dX6_mayLieUnder_40 hl (k := 4) rfl (nI_1 _) (Nat.le_of_ble_eq_true rfl) rfl (fun ls hl => ?_)
            refine lv_goto (tgt := 2) hx hb dX6_mayLieUnder_43 rfl ?_
            exact ih2_ (i + 1) _ _ _ (by first | omega | (simp only [] at *; omega)) (by first | assumption | omega | rfl) (by simp [allB, h1]; simp_all [b01_0]) hw (lv_sub hl [2, 3, 4, 0] rfl)
          · refine lv_iload hx hb dX6_mayLieUnder_28 (lv_at hl 0 rfl) ?_
            refine lv_iload_n hx hb dX6_mayLieUnder_30 rfl (lv_at hl 2 rfl) ?_
            refine lv_iload_n hx hb dX6_mayLieUnder_31 rfl (lv_at hl 4 rfl) ?_
            refine x_fSI (rest := [.int (nI ((stk od i)))]) (c_X6_strokeOf l D k X sw i) mo_X6_253 F hw (Nat.le_of_ble_eq_true rfl) (x_cs F (Nat.le_of_ble_eq_true rfl) (Nat.le_of_ble_eq_true rfl)) rfl rfl hl.1 (Nat.le_of_ble_eq_true rfl) dX6_mayLieUnder_32 (fun H locs hw => ?_)
            have := stk_lt sw i
            refine x_icmp_eq (stk od i) (stk sw i) F (by omega) (by omega) (tgt := 40) dX6_mayLieUnder_35 rfl (fun c35 => ?_) (fun c35 => ?_)
            · refine lv_iinc (v := nI (i + 1)) (lv' := [(3, .int (nI (i + 1))), (4, .int (nI ((stk od i)))), (0, .int od), (1, .int sw), (2, .int hi)]) hx hb dX6_mayLieUnder_40 hl (k := 4) rfl (nI_1 _) (Nat.le_of_ble_eq_true rfl) rfl (fun ls hl => ?_)
              refine lv_goto (tgt := 2) hx hb dX6_mayLieUnder_43 rfl ?_
              exact ih2_ (i + 1) _ _ _ (by first | omega | (simp only [] at *; omega)) (by first | assumption | omega | rfl) (by simp [allB, h1]; simp_all [b01_0]) hw (lv_sub hl [2, 3, 4, 0] rfl)
            · refine lv_iconst (v := nI 0) hx hb dX6_mayLieUnder_38 rfl ?_
              exact hret _ _ _ _ _ _ dX6_mayLieUnder_39 hw rfl ⟨rfl, by rw [allB_no (n := i) (by omega) (by simp_all [b01_0])]; rfl⟩
  exact K2 _ 0 _ _ _ (Nat.lt_succ_self _) (by first | assumption | omega | rfl) (by rfl) hw (lv_sub hl [1, 2, 3, 0] rfl)
def srcIn (row : Int32) (p : Nat) : Int32 := (row >>> (nI (4 * p) &&& 31)) &&& nI 15
def isDg (c : Int32) : Bool := decide (nI 48 ≤ c ∧ c ≤ nI 57)
/-- the places of a law's text: 0 from, 1 to, 2 =, 3 a digit, 4 behind one, 5 behind two -/
def nxt (pl : Nat) (c : Int32) : Option Nat :=
  if pl < 2 then (if c = nI 42 ∨ (nI 48 ≤ c ∧ c ≤ nI 51) then some (pl + 1) else none)
  else if pl = 2 then (if c = nI 61 then some 3 else none)
  else if pl = 3 then (if isDg c then some 4 else none)
  else if pl = 4 then (if isDg c then some 5 else if c = nI 59 then some 0 else none)
  else (if c = nI 59 then some 0 else none)
def nxI (o : Option Nat) (no : Int32) : Int32 := match o with
  | some j => nI j
  | none => no
theorem nxt_lt {pl j : Nat} {c : Int32} (h : nxt pl c = some j) : j ≤ 5 := by
  unfold nxt at h
  repeat' split at h
  all_goals first | (cases h; omega) | (cases h)
def fitK (sg : Int32) (kd : Nat) : Bool := sg == nI 42 || sg - nI 48 == nI kd
theorem x_tab4 {x : Int32} (h0 : ¬ x = nI 0) (h1 : ¬ x = nI 1) (h2 : ¬ x = nI 2) (h3 : ¬ x = nI 3) (h4 : ¬ x = nI 4) : x.toInt < 0 ∨ 4 < x.toInt := by
  rcases pk_ix x (n := 5) (by decide) with h | h | ⟨j, hj, rfl⟩
  · exact Or.inl ((Int32.lt_iff_toInt_lt).mp h)
  · right
    have := (Int32.le_iff_toInt_le).mp h
    have e : (nI 5).toInt = 5 := rfl
    omega
  · rcases (show j = 0 ∨ j = 1 ∨ j = 2 ∨ j = 3 ∨ j = 4 by omega) with rfl | rfl | rfl | rfl | rfl <;> contradiction
set_option maxHeartbeats 4000000 in
set_option maxRecDepth 20000 in
theorem c_X5_sourceIn (l : Launch) (D : va_G) (k : Nat → ClassId) (X : va_W) (rw : Int32) (pi : Nat) : CI l D k yX5_sourceIn cX5_sourceIn 2 (some .int) 0 0 0 [.int rw, .int (nI pi)] X (fun r w' => w' = X ∧ r = srcIn rw pi) := by
  refine CI.mk (by decide) (Nat.le_of_ble_eq_true rfl) ?_
  intro p e R s m args below meth c A Q ls F hret hw hl
  have hx := xs_hx F
  have hb := xs_hb F
  have hl : lv_has ls 2 [(0, .int rw), (1, .int (nI pi))] := hl
  refine lv_iload_n hx hb dX5_sourceIn_0 rfl (lv_at hl 0 rfl) ?_
  refine lv_iconst (v := nI 4) hx hb dX5_sourceIn_1 rfl ?_
  refine lv_iload_n hx hb dX5_sourceIn_2 rfl (lv_at hl 1 rfl) ?_
  refine lv_imul hx hb dX5_sourceIn_3 ?_
  refine x_top (y := nI (4 * pi)) (pk_mul _ _) ?_
  refine lv_ishr hx hb dX5_sourceIn_4 ?_
  refine lv_bipush (v := nI 15) hx hb dX5_sourceIn_5 rfl ?_
  refine lv_iand hx hb dX5_sourceIn_7 ?_
  exact hret _ _ _ _ _ _ dX5_sourceIn_8 hw rfl ⟨rfl, rfl⟩
set_option maxHeartbeats 4000000 in
set_option maxRecDepth 20000 in
theorem c_X3_isDigit (l : Launch) (D : va_G) (k : Nat → ClassId) (X : va_W) (cr : Int32) : CI l D k yX3_isDigit cX3_isDigit 1 (some .boolean) 1 0 0 [.int cr] X (fun r w' => w' = X ∧ r = b01 (isDg cr)) := by
  refine CI.mk (by decide) (Nat.le_of_ble_eq_true rfl) ?_
  intro p e R s m args below meth c A Q ls F hret hw hl
  have hx := xs_hx F
  have hb := xs_hb F
  have hl : lv_has ls 1 [(0, .int cr)] := hl
  refine lv_iload_n hx hb dX3_isDigit_0 rfl (lv_at hl 0 rfl) ?_
  refine lv_bipush (v := nI 48) hx hb dX3_isDigit_1 rfl ?_
  refine lv_bipush (v := nI 57) hx hb dX3_isDigit_3 rfl ?_
  refine x_fSI (rest := []) (c_X6_within l D k X cr (nI 48) (nI 57)) mo_X3_23 F hw (Nat.le_of_ble_eq_true rfl) (x_cs F (Nat.le_of_ble_eq_true rfl) (Nat.le_of_ble_eq_true rfl)) rfl rfl hl.1 (Nat.le_of_ble_eq_true rfl) dX3_isDigit_5 (fun H locs hw => ?_)
  exact hret _ _ _ _ _ _ dX3_isDigit_8 hw (f_in_n _ _ _) ⟨rfl, by unfold f_in b01 isDg; simp⟩
set_option maxHeartbeats 4000000 in
set_option maxRecDepth 20000 in
theorem c_X3_afterLine (l : Launch) (D : va_G) (k : Nat → ClassId) (X : va_W) (cr : Int32) : CI l D k yX3_afterLine cX3_afterLine 1 (some .int) 0 0 0 [.int cr] X (fun r w' => w' = X ∧ r = (if cr = nI 59 then nI 0 else (-1))) := by
  refine CI.mk (by decide) (Nat.le_of_ble_eq_true rfl) ?_
  intro p e R s m args below meth c A Q ls F hret hw hl
  have hx := xs_hx F
  have hb := xs_hb F
  have hl : lv_has ls 1 [(0, .int cr)] := hl
  refine lv_iload_n hx hb dX3_afterLine_0 rfl (lv_at hl 0 rfl) ?_
  refine lv_bipush (v := nI 59) hx hb dX3_afterLine_1 rfl ?_
  refine lv_icmp_ne (tgt := 10) hx hb dX3_afterLine_3 rfl (fun c3 => ?_) (fun c3 => ?_)
  · refine lv_iconst (v := (-1)) hx hb dX3_afterLine_10 rfl ?_
    exact hret _ _ _ _ _ _ dX3_afterLine_11 hw rfl ⟨rfl, by simp [c3]⟩
  · refine lv_iconst (v := nI 0) hx hb dX3_afterLine_6 rfl ?_
    refine lv_goto (tgt := 11) hx hb dX3_afterLine_7 rfl ?_
    exact hret _ _ _ _ _ _ dX3_afterLine_11 hw rfl ⟨rfl, by simp [c3]⟩
set_option maxHeartbeats 4000000 in
set_option maxRecDepth 20000 in
theorem c_X3_placeAfter (l : Launch) (D : va_G) (k : Nat → ClassId) (X : va_W) (pl : Nat) (cr : Int32) (hp : pl ≤ 5) : CI l D k yX3_placeAfter cX3_placeAfter 2 (some .int) 2 0 0 [.int (nI pl), .int cr] X (fun r w' => w' = X ∧ r = nxI (nxt pl cr) (-1)) := by
  refine CI.mk (by decide) (Nat.le_of_ble_eq_true rfl) ?_
  intro p e R s m args below meth c A Q ls F hret hw hl
  have hx := xs_hx F
  have hb := xs_hb F
  have hl : lv_has ls 2 [(0, .int (nI pl)), (1, .int cr)] := hl
  refine lv_iload_n hx hb dX3_placeAfter_0 rfl (lv_at hl 0 rfl) ?_
  rcases Decidable.em (pl = 0) with c1_0 | c1_0
  · refine lv_tableIn (tgt := 36) hx hb dX3_placeAfter_1 (by rw [c1_0]; decide) (by rw [c1_0]; decide) (by rw [c1_0]; rfl) rfl ?_
    refine lv_iload_n hx hb dX3_placeAfter_36 rfl (lv_at hl 1 rfl) ?_
    refine lv_bipush (v := nI 42) hx hb dX3_placeAfter_37 rfl ?_
    refine lv_icmp_eq (tgt := 53) hx hb dX3_placeAfter_39 rfl (fun c39 => ?_) (fun c39 => ?_)
    · refine lv_iload_n hx hb dX3_placeAfter_53 rfl (lv_at hl 0 rfl) ?_
      refine lv_iconst (v := nI 1) hx hb dX3_placeAfter_54 rfl ?_
      refine lv_iadd hx hb dX3_placeAfter_55 ?_
      refine x_top (y := nI (pl + 1)) (nI_add _ _) ?_
      refine lv_goto (tgt := 60) hx hb dX3_placeAfter_56 rfl ?_
      exact hret _ _ _ _ _ _ dX3_placeAfter_60 hw rfl ⟨rfl, by first | (unfold nxt; rw [if_pos (by omega), if_neg (by intro h; rcases h with h | h; exact c39 h; exact f_in_0.mp c50 h)]; rfl) | (simp_all [nxt, nxI, b01_0, f_in_0]; done) | (simp_all [nxt, nxI, b01_0, f_in_0]; split <;> simp_all)⟩
    · refine lv_iload_n hx hb dX3_placeAfter_42 rfl (lv_at hl 1 rfl) ?_
      refine lv_bipush (v := nI 48) hx hb dX3_placeAfter_43 rfl ?_
      refine lv_bipush (v := nI 51) hx hb dX3_placeAfter_45 rfl ?_
      refine x_fSI (rest := []) (c_X6_within l D k X cr (nI 48) (nI 51)) mo_X3_23 F hw (Nat.le_of_ble_eq_true rfl) (x_cs F (Nat.le_of_ble_eq_true rfl) (Nat.le_of_ble_eq_true rfl)) rfl rfl hl.1 (Nat.le_of_ble_eq_true rfl) dX3_placeAfter_47 (fun H locs hw => ?_)
      refine lv_if_eq (tgt := 59) hx hb dX3_placeAfter_50 rfl (fun c50 => ?_) (fun c50 => ?_)
      · refine lv_iconst (v := (-1)) hx hb dX3_placeAfter_59 rfl ?_
        exact hret _ _ _ _ _ _ dX3_placeAfter_60 hw rfl ⟨rfl, by first | (unfold nxt; rw [if_pos (by omega), if_neg (by intro h; rcases h with h | h; exact c39 h; exact f_in_0.mp c50 h)]; rfl) | (simp_all [nxt, nxI, b01_0, f_in_0]; done) | (simp_all [nxt, nxI, b01_0, f_in_0]; split <;> simp_all)⟩
      · refine lv_iload_n hx hb dX3_placeAfter_53 rfl (lv_at hl 0 rfl) ?_
        refine lv_iconst (v := nI 1) hx hb dX3_placeAfter_54 rfl ?_
        refine lv_iadd hx hb dX3_placeAfter_55 ?_
        refine x_top (y := nI (pl + 1)) (nI_add _ _) ?_
        refine lv_goto (tgt := 60) hx hb dX3_placeAfter_56 rfl ?_
        exact hret _ _ _ _ _ _ dX3_placeAfter_60 hw rfl ⟨rfl, by first | (unfold nxt; rw [if_pos (by omega), if_neg (by intro h; rcases h with h | h; exact c39 h; exact f_in_0.mp c50 h)]; rfl) | (simp_all [nxt, nxI, b01_0, f_in_0]; done) | (simp_all [nxt, nxI, b01_0, f_in_0]; split <;> simp_all)⟩
  rcases Decidable.em (pl = 1) with c1_1 | c1_1
  · refine lv_tableIn (tgt := 36) hx hb dX3_placeAfter_1 (by rw [c1_1]; decide) (by rw [c1_1]; decide) (by rw [c1_1]; rfl) rfl ?_
    refine lv_iload_n hx hb dX3_placeAfter_36 rfl (lv_at hl 1 rfl) ?_
    refine lv_bipush (v := nI 42) hx hb dX3_placeAfter_37 rfl ?_
    refine lv_icmp_eq (tgt := 53) hx hb dX3_placeAfter_39 rfl (fun c39 => ?_) (fun c39 => ?_)
    · refine lv_iload_n hx hb dX3_placeAfter_53 rfl (lv_at hl 0 rfl) ?_
      refine lv_iconst (v := nI 1) hx hb dX3_placeAfter_54 rfl ?_
      refine lv_iadd hx hb dX3_placeAfter_55 ?_
      refine x_top (y := nI (pl + 1)) (nI_add _ _) ?_
      refine lv_goto (tgt := 60) hx hb dX3_placeAfter_56 rfl ?_
      exact hret _ _ _ _ _ _ dX3_placeAfter_60 hw rfl ⟨rfl, by first | (unfold nxt; rw [if_pos (by omega), if_neg (by intro h; rcases h with h | h; exact c39 h; exact f_in_0.mp c50 h)]; rfl) | (simp_all [nxt, nxI, b01_0, f_in_0]; done) | (simp_all [nxt, nxI, b01_0, f_in_0]; split <;> simp_all)⟩
    · refine lv_iload_n hx hb dX3_placeAfter_42 rfl (lv_at hl 1 rfl) ?_
      refine lv_bipush (v := nI 48) hx hb dX3_placeAfter_43 rfl ?_
      refine lv_bipush (v := nI 51) hx hb dX3_placeAfter_45 rfl ?_
      refine x_fSI (rest := []) (c_X6_within l D k X cr (nI 48) (nI 51)) mo_X3_23 F hw (Nat.le_of_ble_eq_true rfl) (x_cs F (Nat.le_of_ble_eq_true rfl) (Nat.le_of_ble_eq_true rfl)) rfl rfl hl.1 (Nat.le_of_ble_eq_true rfl) dX3_placeAfter_47 (fun H locs hw => ?_)
      refine lv_if_eq (tgt := 59) hx hb dX3_placeAfter_50 rfl (fun c50 => ?_) (fun c50 => ?_)
      · refine lv_iconst (v := (-1)) hx hb dX3_placeAfter_59 rfl ?_
        exact hret _ _ _ _ _ _ dX3_placeAfter_60 hw rfl ⟨rfl, by first | (unfold nxt; rw [if_pos (by omega), if_neg (by intro h; rcases h with h | h; exact c39 h; exact f_in_0.mp c50 h)]; rfl) | (simp_all [nxt, nxI, b01_0, f_in_0]; done) | (simp_all [nxt, nxI, b01_0, f_in_0]; split <;> simp_all)⟩
      · refine lv_iload_n hx hb dX3_placeAfter_53 rfl (lv_at hl 0 rfl) ?_
        refine lv_iconst (v := nI 1) hx hb dX3_placeAfter_54 rfl ?_
        refine lv_iadd hx hb dX3_placeAfter_55 ?_
        refine x_top (y := nI (pl + 1)) (nI_add _ _) ?_
        refine lv_goto (tgt := 60) hx hb dX3_placeAfter_56 rfl ?_
        exact hret _ _ _ _ _ _ dX3_placeAfter_60 hw rfl ⟨rfl, by first | (unfold nxt; rw [if_pos (by omega), if_neg (by intro h; rcases h with h | h; exact c39 h; exact f_in_0.mp c50 h)]; rfl) | (simp_all [nxt, nxI, b01_0, f_in_0]; done) | (simp_all [nxt, nxI, b01_0, f_in_0]; split <;> simp_all)⟩
  rcases Decidable.em (pl = 2) with c1_2 | c1_2
  · refine lv_tableIn (tgt := 61) hx hb dX3_placeAfter_1 (by rw [c1_2]; decide) (by rw [c1_2]; decide) (by rw [c1_2]; rfl) rfl ?_
    refine lv_iload_n hx hb dX3_placeAfter_61 rfl (lv_at hl 1 rfl) ?_
    refine lv_bipush (v := nI 61) hx hb dX3_placeAfter_62 rfl ?_
    refine lv_icmp_ne (tgt := 71) hx hb dX3_placeAfter_64 rfl (fun c64 => ?_) (fun c64 => ?_)
    · refine lv_iconst (v := (-1)) hx hb dX3_placeAfter_71 rfl ?_
      exact hret _ _ _ _ _ _ dX3_placeAfter_72 hw rfl ⟨rfl, by first | (unfold nxt; rw [if_pos (by omega), if_neg (by intro h; rcases h with h | h; exact c39 h; exact f_in_0.mp c50 h)]; rfl) | (simp_all [nxt, nxI, b01_0, f_in_0]; done) | (simp_all [nxt, nxI, b01_0, f_in_0]; split <;> simp_all)⟩
    · refine lv_iconst (v := nI 3) hx hb dX3_placeAfter_67 rfl ?_
      refine lv_goto (tgt := 72) hx hb dX3_placeAfter_68 rfl ?_
      exact hret _ _ _ _ _ _ dX3_placeAfter_72 hw rfl ⟨rfl, by first | (unfold nxt; rw [if_pos (by omega), if_neg (by intro h; rcases h with h | h; exact c39 h; exact f_in_0.mp c50 h)]; rfl) | (simp_all [nxt, nxI, b01_0, f_in_0]; done) | (simp_all [nxt, nxI, b01_0, f_in_0]; split <;> simp_all)⟩
  rcases Decidable.em (pl = 3) with c1_3 | c1_3
  · refine lv_tableIn (tgt := 73) hx hb dX3_placeAfter_1 (by rw [c1_3]; decide) (by rw [c1_3]; decide) (by rw [c1_3]; rfl) rfl ?_
    refine lv_iload_n hx hb dX3_placeAfter_73 rfl (lv_at hl 1 rfl) ?_
    refine x_fSI (rest := []) (c_X3_isDigit l D k X cr) mo_X3_27 F hw (Nat.le_of_ble_eq_true rfl) (x_cs F (Nat.le_of_ble_eq_true rfl) (Nat.le_of_ble_eq_true rfl)) rfl rfl hl.1 (Nat.le_of_ble_eq_true rfl) dX3_placeAfter_74 (fun H locs hw => ?_)
    refine lv_if_eq (tgt := 84) hx hb dX3_placeAfter_77 rfl (fun c77 => ?_) (fun c77 => ?_)
    · refine lv_iconst (v := (-1)) hx hb dX3_placeAfter_84 rfl ?_
      exact hret _ _ _ _ _ _ dX3_placeAfter_85 hw rfl ⟨rfl, by first | (unfold nxt; rw [if_pos (by omega), if_neg (by intro h; rcases h with h | h; exact c39 h; exact f_in_0.mp c50 h)]; rfl) | (simp_all [nxt, nxI, b01_0, f_in_0]; done) | (simp_all [nxt, nxI, b01_0, f_in_0]; split <;> simp_all)⟩
    · refine lv_iconst (v := nI 4) hx hb dX3_placeAfter_80 rfl ?_
      refine lv_goto (tgt := 85) hx hb dX3_placeAfter_81 rfl ?_
      exact hret _ _ _ _ _ _ dX3_placeAfter_85 hw rfl ⟨rfl, by first | (unfold nxt; rw [if_pos (by omega), if_neg (by intro h; rcases h with h | h; exact c39 h; exact f_in_0.mp c50 h)]; rfl) | (simp_all [nxt, nxI, b01_0, f_in_0]; done) | (simp_all [nxt, nxI, b01_0, f_in_0]; split <;> simp_all)⟩
  rcases Decidable.em (pl = 4) with c1_4 | c1_4
  · refine lv_tableIn (tgt := 86) hx hb dX3_placeAfter_1 (by rw [c1_4]; decide) (by rw [c1_4]; decide) (by rw [c1_4]; rfl) rfl ?_
    refine lv_iload_n hx hb dX3_placeAfter_86 rfl (lv_at hl 1 rfl) ?_
    refine x_fSI (rest := []) (c_X3_isDigit l D k X cr) mo_X3_27 F hw (Nat.le_of_ble_eq_true rfl) (x_cs F (Nat.le_of_ble_eq_true rfl) (Nat.le_of_ble_eq_true rfl)) rfl rfl hl.1 (Nat.le_of_ble_eq_true rfl) dX3_placeAfter_87 (fun H locs hw => ?_)
    refine lv_if_eq (tgt := 97) hx hb dX3_placeAfter_90 rfl (fun c90 => ?_) (fun c90 => ?_)
    · refine lv_iload_n hx hb dX3_placeAfter_97 rfl (lv_at hl 1 rfl) ?_
      refine x_fSI (rest := []) (c_X3_afterLine l D k X cr) mo_X3_31 F hw (Nat.le_of_ble_eq_true rfl) (x_cs F (Nat.le_of_ble_eq_true rfl) (Nat.le_of_ble_eq_true rfl)) rfl rfl hl.1 (Nat.le_of_ble_eq_true rfl) dX3_placeAfter_98 (fun H locs hw => ?_)
      exact hret _ _ _ _ _ _ dX3_placeAfter_101 hw rfl ⟨rfl, by first | (unfold nxt; rw [if_pos (by omega), if_neg (by intro h; rcases h with h | h; exact c39 h; exact f_in_0.mp c50 h)]; rfl) | (simp_all [nxt, nxI, b01_0, f_in_0]; done) | (simp_all [nxt, nxI, b01_0, f_in_0]; split <;> simp_all)⟩
    · refine lv_iconst (v := nI 5) hx hb dX3_placeAfter_93 rfl ?_
      refine lv_goto (tgt := 101) hx hb dX3_placeAfter_94 rfl ?_
      exact hret _ _ _ _ _ _ dX3_placeAfter_101 hw rfl ⟨rfl, by first | (unfold nxt; rw [if_pos (by omega), if_neg (by intro h; rcases h with h | h; exact c39 h; exact f_in_0.mp c50 h)]; rfl) | (simp_all [nxt, nxI, b01_0, f_in_0]; done) | (simp_all [nxt, nxI, b01_0, f_in_0]; split <;> simp_all)⟩
  refine lv_tableOut (tgt := 102) hx hb dX3_placeAfter_1 (x_tab4 (fun h => c1_0 ((nI_eq (by omega) (by omega)).mp h)) (fun h => c1_1 ((nI_eq (by omega) (by omega)).mp h)) (fun h => c1_2 ((nI_eq (by omega) (by omega)).mp h)) (fun h => c1_3 ((nI_eq (by omega) (by omega)).mp h)) (fun h => c1_4 ((nI_eq (by omega) (by omega)).mp h))) rfl ?_
  have c5 : pl = 5 := by omega
  refine lv_iload_n hx hb dX3_placeAfter_102 rfl (lv_at hl 1 rfl) ?_
  refine x_fSI (rest := []) (c_X3_afterLine l D k X cr) mo_X3_31 F hw (Nat.le_of_ble_eq_true rfl) (x_cs F (Nat.le_of_ble_eq_true rfl) (Nat.le_of_ble_eq_true rfl)) rfl rfl hl.1 (Nat.le_of_ble_eq_true rfl) dX3_placeAfter_103 (fun H locs hw => ?_)
  exact hret _ _ _ _ _ _ dX3_placeAfter_106 hw rfl ⟨rfl, by first | (unfold nxt; rw [if_pos (by omega), if_neg (by intro h; rcases h with h | h; exact c39 h; exact f_in_0.mp c50 h)]; rfl) | (simp_all [nxt, nxI, b01_0, f_in_0]; done) | (simp_all [nxt, nxI, b01_0, f_in_0]; split <;> simp_all)⟩
set_option maxHeartbeats 4000000 in
set_option maxRecDepth 20000 in
theorem c_X3_fits (l : Launch) (D : va_G) (k : Nat → ClassId) (X : va_W) (sg : Int32) (kd : Nat) : CI l D k yX3_fits cX3_fits 2 (some .boolean) 0 0 0 [.int sg, .int (nI kd)] X (fun r w' => w' = X ∧ r = b01 (fitK sg kd)) := by
  refine CI.mk (by decide) (Nat.le_of_ble_eq_true rfl) ?_
  intro p e R s m args below meth c A Q ls F hret hw hl
  have hx := xs_hx F
  have hb := xs_hb F
  have hl : lv_has ls 2 [(0, .int sg), (1, .int (nI kd))] := hl
  refine lv_iload_n hx hb dX3_fits_0 rfl (lv_at hl 0 rfl) ?_
  refine lv_bipush (v := nI 42) hx hb dX3_fits_1 rfl ?_
  refine lv_icmp_eq (tgt := 14) hx hb dX3_fits_3 rfl (fun c3 => ?_) (fun c3 => ?_)
  · refine lv_iconst (v := nI 1) hx hb dX3_fits_14 rfl ?_
    refine lv_goto (tgt := 19) hx hb dX3_fits_15 rfl ?_
    exact hret _ _ _ _ _ _ dX3_fits_19 hw rfl ⟨rfl, by simp_all [b01, fitK]⟩
  · refine lv_iload_n hx hb dX3_fits_6 rfl (lv_at hl 0 rfl) ?_
    refine lv_bipush (v := nI 48) hx hb dX3_fits_7 rfl ?_
    refine lv_isub hx hb dX3_fits_9 ?_
    refine lv_iload_n hx hb dX3_fits_10 rfl (lv_at hl 1 rfl) ?_
    refine lv_icmp_ne (tgt := 18) hx hb dX3_fits_11 rfl (fun c11 => ?_) (fun c11 => ?_)
    · refine lv_iconst (v := nI 0) hx hb dX3_fits_18 rfl ?_
      exact hret _ _ _ _ _ _ dX3_fits_19 hw rfl ⟨rfl, by simp_all [b01, fitK]⟩
    · refine lv_iconst (v := nI 1) hx hb dX3_fits_14 rfl ?_
      refine lv_goto (tgt := 19) hx hb dX3_fits_15 rfl ?_
      exact hret _ _ _ _ _ _ dX3_fits_19 hw rfl ⟨rfl, by simp_all [b01, fitK]⟩
end
section
/-! ===== the album: pure words ===== -/
def picN (S : St) : Nat := (S 40 0).toNatClampNeg
def okP (S : St) : Prop := S 40 0 = nI (picN S) ∧ picN S ≤ 6
def slC (S : St) (a b : Nat) : Int32 := S (8 + a) b
def costF (sl : Nat → Nat → Int32) (d1 d2 : Int32) : Nat → Int32
  | 0 => nI 0
  | n + 1 => costF sl d1 d2 n + sl (stk d1 n) (stk d2 n)
def sumIf (o : Int32) (f : Nat → Int32) (x0 : Int32) : Nat → Int32
  | 0 => x0
  | n + 1 => if hbt o n then sumIf o f x0 n + f n else sumIf o f x0 n
/-- the place of the least of f 0 .. f m, the first of several -/
def amin (f : Nat → Int32) : Nat → Nat
  | 0 => 0
  | m + 1 => if f (m + 1) < f (amin f m) then m + 1 else amin f m
theorem amin_le (f : Nat → Int32) : ∀ m, amin f m ≤ m
  | 0 => Nat.le_refl _
  | m + 1 => by
    unfold amin
    have := amin_le f m
    split <;> omega
/-- what a stroke of a lost drawing costs: from the picture (or none), to the others -/
def lscF (sl : Nat → Nat → Int32) (dr : Nat → Int32) (n : Nat) (pi o : Int32) (sk kd : Nat) : Int32 :=
  sumIf o (fun p => sl kd (stk (dr p) sk)) (if 0 ≤ pi then sl (stk (dr pi.toNatClampNeg) sk) kd else nI 0) n
def ldN (sl : Nat → Nat → Int32) (dr : Nat → Int32) (n : Nat) (pi o : Int32) : Nat → Nat
  | 0 => 0
  | s + 1 => ldN sl dr n pi o s * 4 + amin (lscF sl dr n pi o s) 3
def thrF (sl : Nat → Nat → Int32) (dr : Nat → Int32) (n : Nat) (nw pi : Int32) (d o : Int32) : Int32 :=
  sumIf o (fun p => costF sl d (dr p) 8) (if 0 ≤ pi then costF sl (dr pi.toNatClampNeg) d 8 else nw) n
def strF (sl : Nat → Nat → Int32) (dr : Nat → Int32) (n : Nat) (nw pi : Int32) (o : Int32) : Int32 :=
  sumIf o (fun p => if 0 ≤ pi then costF sl (dr pi.toNatClampNeg) (dr p) 8 else nw) (nI 0) n
def hidF (pl th : Nat → Int32) (d : Int32) : Nat → Int32
  | 0 => nI 0
  | n + 1 => if stk d n = 3 then hidF pl th d n ||| th n else if stk d n = 0 then hidF pl th d n else hidF pl th d n ||| pl n
theorem nn_of {x : Int32} (h : 0 ≤ x) : x = nI x.toNatClampNeg := by
  obtain ⟨j, hj, e⟩ := nI_of (x := x) (fun q => absurd h (Int32.not_le.mpr q))
  rw [e, nI_clamp hj]
theorem b01_1 {b : Bool} : ¬ b01 b = 0 ↔ b = true := by cases b <;> decide
theorem sumIf_y {o : Int32} {f : Nat → Int32} {x0 : Int32} {n : Nat} (h : hbt o n = true) : sumIf o f x0 (n + 1) = sumIf o f x0 n + f n := if_pos h
theorem sumIf_n {o : Int32} {f : Nat → Int32} {x0 : Int32} {n : Nat} (h : hbt o n = false) : sumIf o f x0 (n + 1) = sumIf o f x0 n := if_neg (by rw [h]; decide)
def haP (S : St) (pi : Int32) : Int32 := b01 (decide (0 ≤ pi ∧ pi < S 40 0))
set_option maxHeartbeats 4000000 in
set_option maxRecDepth 20000 in
theorem c_X1_hasPicture (l : Launch) (D : va_G) (k : Nat → ClassId) (q z : Nat → Nat) (g : Nat → Option Nat) (S : St) (X : va_W) (pi : Int32) : CI l D k yX1_hasPicture cX1_hasPicture 2 (some .boolean) 0 0 0 [.ref (q 2), .int pi] (wC k q z g S X) (fun r w' => w' = wC k q z g S X ∧ r = haP S pi) := by
  refine CI.mk (by decide) (Nat.le_of_ble_eq_true rfl) ?_
  intro p e R s m args below meth c A Q ls F hret hw hl
  have hx := xs_hx F
  have hb := xs_hb F
  have hl : lv_has ls 2 [(0, .ref (q 2)), (1, .int pi)] := hl
  refine lv_iload_n hx hb dX1_hasPicture_0 rfl (lv_at hl 1 rfl) ?_
  refine lv_if_lt (tgt := 16) hx hb dX1_hasPicture_1 rfl (fun c1 => ?_) (fun c1 => ?_)
  · refine lv_iconst (v := nI 0) hx hb dX1_hasPicture_16 rfl ?_
    exact hret _ _ _ _ _ _ dX1_hasPicture_17 hw rfl ⟨rfl, by unfold haP; first | (rw [show decide (0 ≤ pi ∧ pi < S 40 0) = false from decide_eq_false (fun q => absurd q.2 (Int32.not_lt.mpr c9))]; rfl) | (rw [show decide (0 ≤ pi ∧ pi < S 40 0) = false from decide_eq_false (fun q => absurd q.1 (Int32.not_le.mpr c1))]; rfl) | (rw [show decide (0 ≤ pi ∧ pi < S 40 0) = true from decide_eq_true ⟨Int32.not_lt.mp c1, Int32.not_le.mp c9⟩]; rfl)⟩
  · refine lv_iload_n hx hb dX1_hasPicture_4 rfl (lv_at hl 1 rfl) ?_
    refine lv_aload_n hx hb dX1_hasPicture_5 rfl (lv_at hl 0 rfl) ?_
    refine x_geti fiC_40 F hw fo_X1_44 dX1_hasPicture_6 ?_
    refine lv_icmp_ge (tgt := 16) hx hb dX1_hasPicture_9 rfl (fun c9 => ?_) (fun c9 => ?_)
    · refine lv_iconst (v := nI 0) hx hb dX1_hasPicture_16 rfl ?_
      exact hret _ _ _ _ _ _ dX1_hasPicture_17 hw rfl ⟨rfl, by unfold haP; first | (rw [show decide (0 ≤ pi ∧ pi < S 40 0) = false from decide_eq_false (fun q => absurd q.2 (Int32.not_lt.mpr c9))]; rfl) | (rw [show decide (0 ≤ pi ∧ pi < S 40 0) = false from decide_eq_false (fun q => absurd q.1 (Int32.not_le.mpr c1))]; rfl) | (rw [show decide (0 ≤ pi ∧ pi < S 40 0) = true from decide_eq_true ⟨Int32.not_lt.mp c1, Int32.not_le.mp c9⟩]; rfl)⟩
    · refine lv_iconst (v := nI 1) hx hb dX1_hasPicture_12 rfl ?_
      refine lv_goto (tgt := 17) hx hb dX1_hasPicture_13 rfl ?_
      exact hret _ _ _ _ _ _ dX1_hasPicture_17 hw rfl ⟨rfl, by unfold haP; first | (rw [show decide (0 ≤ pi ∧ pi < S 40 0) = false from decide_eq_false (fun q => absurd q.2 (Int32.not_lt.mpr c9))]; rfl) | (rw [show decide (0 ≤ pi ∧ pi < S 40 0) = false from decide_eq_false (fun q => absurd q.1 (Int32.not_le.mpr c1))]; rfl) | (rw [show decide (0 ≤ pi ∧ pi < S 40 0) = true from decide_eq_true ⟨Int32.not_lt.mp c1, Int32.not_le.mp c9⟩]; rfl)⟩
set_option maxHeartbeats 4000000 in
set_option maxRecDepth 20000 in
theorem c_X1_addPicture (l : Launch) (D : va_G) (k : Nat → ClassId) (q z : Nat → Nat) (g : Nat → Option Nat) (S : St) (X : va_W) (dr : Int32) (lo : Int32) (hi : Int32) (hP : S 40 0 = nI (picN S)) (h5 : picN S < 6) : CI l D k yX1_addPicture cX1_addPicture 5 (some .int) 0 0 0 [.ref (q 2), .int dr, .int lo, .int hi] (wC k q z g S X) (fun r w' => w' = wC k q z g (va_up (va_up (va_up (va_up (va_up S 3 (upd (S 3) (picN S) dr)) 4 (upd (S 4) (picN S) lo)) 5 (upd (S 5) (picN S) hi)) 6 (upd (S 6) (picN S) (nI 0))) 40 (fun _ => nI (picN S + 1))) X ∧ r = nI (picN S)) := by
  refine CI.mk (by decide) (Nat.le_of_ble_eq_true rfl) ?_
  intro p e R s m args below meth c A Q ls F hret hw hl
  have hx := xs_hx F
  have hb := xs_hb F
  have hl : lv_has ls 5 [(0, .ref (q 2)), (1, .int dr), (2, .int lo), (3, .int hi)] := hl
  refine lv_aload_n hx hb dX1_addPicture_0 rfl (lv_at hl 0 rfl) ?_
  refine x_geti fiC_40 F hw fo_X1_44 dX1_addPicture_1 ?_
  refine x_top (y := nI (picN S)) hP ?_
  refine lv_istore (lv' := [(4, .int (nI (picN S))), (0, .ref (q 2)), (1, .int dr), (2, .int lo), (3, .int hi)]) hx hb dX1_addPicture_4 hl (Nat.le_of_ble_eq_true rfl) rfl (fun ls hl => ?_)
  refine lv_aload_n hx hb dX1_addPicture_6 rfl (lv_at hl 1 rfl) ?_
  refine x_getr frC_2_2 F hw fo_X1_9 dX1_addPicture_7 ?_
  refine lv_iload hx hb dX1_addPicture_10 (lv_at hl 0 rfl) ?_
  refine lv_iload_n hx hb dX1_addPicture_12 rfl (lv_at hl 2 rfl) ?_
  refine x_iast aiC_3 F hw (picN S) rfl (by omega) dX1_addPicture_13 (fun H locs hw => ?_)
  refine lv_aload_n hx hb dX1_addPicture_14 rfl (lv_at hl 1 rfl) ?_
  refine x_getr frC_2_3 F hw fo_X1_15 dX1_addPicture_15 ?_
  refine lv_iload hx hb dX1_addPicture_18 (lv_at hl 0 rfl) ?_
  refine lv_iload_n hx hb dX1_addPicture_20 rfl (lv_at hl 3 rfl) ?_
  refine x_iast aiC_4 F hw (picN S) rfl (by omega) dX1_addPicture_21 (fun H locs hw => ?_)
  refine lv_aload_n hx hb dX1_addPicture_22 rfl (lv_at hl 1 rfl) ?_
  refine x_getr frC_2_4 F hw fo_X1_18 dX1_addPicture_23 ?_
  refine lv_iload hx hb dX1_addPicture_26 (lv_at hl 0 rfl) ?_
  refine lv_iload_n hx hb dX1_addPicture_28 rfl (lv_at hl 4 rfl) ?_
  refine x_iast aiC_5 F hw (picN S) rfl (by omega) dX1_addPicture_29 (fun H locs hw => ?_)
  refine lv_aload_n hx hb dX1_addPicture_30 rfl (lv_at hl 1 rfl) ?_
  refine x_getr frC_2_5 F hw fo_X1_21 dX1_addPicture_31 ?_
  refine lv_iload hx hb dX1_addPicture_34 (lv_at hl 0 rfl) ?_
  refine lv_iconst (v := nI 0) hx hb dX1_addPicture_36 rfl ?_
  refine x_iast aiC_6 F hw (picN S) rfl (by omega) dX1_addPicture_37 (fun H locs hw => ?_)
  refine lv_aload_n hx hb dX1_addPicture_38 rfl (lv_at hl 1 rfl) ?_
  refine lv_dup hx hb dX1_addPicture_39 rfl ?_
  refine x_geti fiC_40 F hw fo_X1_44 dX1_addPicture_40 ?_
  refine x_top (y := S 40 0) rfl ?_
  refine x_top (y := nI (picN S)) hP ?_
  refine lv_iconst (v := nI 1) hx hb dX1_addPicture_43 rfl ?_
  refine lv_iadd hx hb dX1_addPicture_44 ?_
  refine x_top (y := nI ((picN S) + 1)) (nI_add _ _) ?_
  refine x_puti fiC_40 F hw fo_X1_44 rfl rfl dX1_addPicture_45 (fun H locs hw => ?_)
  refine lv_iload hx hb dX1_addPicture_48 (lv_at hl 0 rfl) ?_
  exact hret _ _ _ _ _ _ dX1_addPicture_50 hw rfl ⟨rfl, rfl⟩
set_option maxHeartbeats 4000000 in
set_option maxRecDepth 20000 in
theorem c_X1_widthOrNone (l : Launch) (D : va_G) (k : Nat → ClassId) (q z : Nat → Nat) (g : Nat → Option Nat) (S : St) (X : va_W) (pn : Nat) (hp : pn < 6) : CI l D k yX1_widthOrNone cX1_widthOrNone 2 (some .int) 0 0 0 [.ref (q 2), .int (nI pn)] (wC k q z g S X) (fun r w' => w' = wC k q z g S X ∧ r = (if S 6 pn = 0 then (-6) else S 6 pn)) := by
  refine CI.mk (by decide) (Nat.le_of_ble_eq_true rfl) ?_
  intro p e R s m args below meth c A Q ls F hret hw hl
  have hx := xs_hx F
  have hb := xs_hb F
  have hl : lv_has ls 2 [(0, .ref (q 2)), (1, .int (nI pn))] := hl
  refine lv_aload_n hx hb dX1_widthOrNone_0 rfl (lv_at hl 0 rfl) ?_
  refine x_getr frC_2_5 F hw fo_X1_21 dX1_widthOrNone_1 ?_
  refine lv_iload_n hx hb dX1_widthOrNone_4 rfl (lv_at hl 1 rfl) ?_
  refine x_iald aiC_6 F hw pn rfl (by omega) dX1_widthOrNone_5 ?_
  refine lv_if_ne (tgt := 14) hx hb dX1_widthOrNone_6 rfl (fun c6 => ?_) (fun c6 => ?_)
  · refine lv_aload_n hx hb dX1_widthOrNone_14 rfl (lv_at hl 0 rfl) ?_
    refine x_getr frC_2_5 F hw fo_X1_21 dX1_widthOrNone_15 ?_
    refine lv_iload_n hx hb dX1_widthOrNone_18 rfl (lv_at hl 1 rfl) ?_
    refine x_iald aiC_6 F hw pn rfl (by omega) dX1_widthOrNone_19 ?_
    exact hret _ _ _ _ _ _ dX1_widthOrNone_20 hw rfl ⟨rfl, by simp [c6]⟩
  · refine lv_bipush (v := (-6)) hx hb dX1_widthOrNone_9 rfl ?_
    refine lv_goto (tgt := 20) hx hb dX1_widthOrNone_11 rfl ?_
    exact hret _ _ _ _ _ _ dX1_widthOrNone_20 hw rfl ⟨rfl, by simp [c6]⟩
set_option maxHeartbeats 4000000 in
set_option maxRecDepth 20000 in
theorem c_X1_tracingCost (l : Launch) (D : va_G) (k : Nat → ClassId) (q z : Nat → Nat) (g : Nat → Option Nat) (S : St) (X : va_W) (d1 : Int32) (d2 : Int32) : CI l D k yX1_tracingCost cX1_tracingCost 5 (some .int) 1 0 0 [.ref (q 2), .int d1, .int d2] (wC k q z g S X) (fun r w' => w' = wC k q z g S X ∧ r = costF (slC S) d1 d2 8) := by
  refine CI.mk (by decide) (Nat.le_of_ble_eq_true rfl) ?_
  intro p e R s m args below meth c A Q ls F hret hw hl
  have hx := xs_hx F
  have hb := xs_hb F
  have hl : lv_has ls 5 [(0, .ref (q 2)), (1, .int d1), (2, .int d2)] := hl
  refine lv_iconst (v := nI 0) hx hb dX1_tracingCost_0 rfl ?_
  refine lv_istore_n (lv' := [(3, .int (nI 0)), (0, .ref (q 2)), (1, .int d1), (2, .int d2)]) hx hb dX1_tracingCost_1 rfl hl (Nat.le_of_ble_eq_true rfl) rfl (fun ls hl => ?_)
  refine lv_iconst (v := nI 0) hx hb dX1_tracingCost_2 rfl ?_
  refine lv_istore (lv' := [(4, .int (nI 0)), (3, .int (nI 0)), (0, .ref (q 2)), (1, .int d1), (2, .int d2)]) hx hb dX1_tracingCost_3 hl (Nat.le_of_ble_eq_true rfl) rfl (fun ls hl => ?_)
  have K5 : ∀ (n5_ : Nat) (i : Nat) (x : Int32) (H : Heap) (locs : List Loc) (ls : Array Slot), 8 - i < n5_ → (i ≤ 8) → (x = costF (slC S) d1 d2 i) → Wd D A s.heap H locs (wC k q z g S X) → lv_has ls 5 [(0, .ref (q 2)), (1, .int d1), (2, .int d2), (3, .int x), (4, .int (nI i))] → W p l e R s m args below meth c H locs 0 0 Q (F0 m 5 ls []) := by
    intro n5_
    induction n5_ with
    | zero =>
      intro i x H locs ls hn5_
      exact absurd hn5_ (Nat.not_lt_zero _)
    | succ n5_ ih5_ =>
      intro i x H locs ls hn5_ hi h1 hw hl
      refine lv_iload hx hb dX1_tracingCost_5 (lv_at hl 4 rfl) ?_
      refine lv_bipush (v := nI 8) hx hb dX1_tracingCost_7 rfl ?_
      refine x_icmp_ge i 8 F (by omega) (by omega) (tgt := 39) dX1_tracingCost_9 rfl (fun c9 => ?_) (fun c9 => ?_)
      · refine lv_iload_n hx hb dX1_tracingCost_39 rfl (lv_at hl 3 rfl) ?_
        exact hret _ _ _ _ _ _ dX1_tracingCost_40 hw rfl ⟨rfl, by rw [h1, show i = 8 by omega]⟩
      · refine lv_iload_n hx hb dX1_tracingCost_12 rfl (lv_at hl 3 rfl) ?_
        refine lv_aload_n hx hb dX1_tracingCost_13 rfl (lv_at hl 0 rfl) ?_
        refine x_getr frC_2_6 F hw fo_X1_26 dX1_tracingCost_14 ?_
        refine lv_iload_n hx hb dX1_tracingCost_17 rfl (lv_at hl 1 rfl) ?_
        refine lv_iload hx hb dX1_tracingCost_18 (lv_at hl 4 rfl) ?_
        refine x_fSI (rest := [.ref (q 7), .int x]) (c_X6_strokeOf l D k (wC k q z g S X) d1 i) mo_X1_57 F hw (Nat.le_of_ble_eq_true rfl) (x_cs F (Nat.le_of_ble_eq_true rfl) (Nat.le_of_ble_eq_true rfl)) rfl rfl hl.1 (Nat.le_of_ble_eq_true rfl) dX1_tracingCost_20 (fun H locs hw => ?_)
        have := stk_lt d1 i
        refine x_grow giC_7 F hw (stk d1 i) rfl (by omega) dX1_tracingCost_23 ?_
        refine lv_iload_n hx hb dX1_tracingCost_24 rfl (lv_at hl 2 rfl) ?_
        refine lv_iload hx hb dX1_tracingCost_25 (lv_at hl 4 rfl) ?_
        refine x_fSI (rest := [.ref (q (8 + (stk d1 i))), .int x]) (c_X6_strokeOf l D k (wC k q z g S X) d2 i) mo_X1_57 F hw (Nat.le_of_ble_eq_true rfl) (x_cs F (Nat.le_of_ble_eq_true rfl) (Nat.le_of_ble_eq_true rfl)) rfl rfl hl.1 (Nat.le_of_ble_eq_true rfl) dX1_tracingCost_27 (fun H locs hw => ?_)
        have := stk_lt d2 i
        refine x_iald (aiC_slip (j := (stk d1 i)) (by omega)) F hw (stk d2 i) rfl (by omega) dX1_tracingCost_30 ?_
        refine lv_iadd hx hb dX1_tracingCost_31 ?_
        refine lv_istore_n (lv' := [(3, .int (x + (S (8 + (stk d1 i)) (stk d2 i)))), (0, .ref (q 2)), (1, .int d1), (2, .int d2), (4, .int (nI i))]) hx hb dX1_tracingCost_32 rfl hl (Nat.le_of_ble_eq_true rfl) rfl (fun ls hl => ?_)
        refine lv_iinc (v := nI (i + 1)) (lv' := [(4, .int (nI (i + 1))), (3, .int (x + (S (8 + (stk d1 i)) (stk d2 i)))), (0, .ref (q 2)), (1, .int d1), (2, .int d2)]) hx hb dX1_tracingCost_33 hl (k := 4) rfl (nI_1 _) (Nat.le_of_ble_eq_true rfl) rfl (fun ls hl => ?_)
        refine lv_goto (tgt := 5) hx hb dX1_tracingCost_36 rfl ?_
        exact ih5_ (i + 1) (x + (S (8 + (stk d1 i)) (stk d2 i))) _ _ _ (by first | omega | (simp only [] at *; omega)) (by first | assumption | omega | rfl) (by rw [h1]; rfl) hw (lv_sub hl [2, 3, 4, 1, 0] rfl)
  exact K5 _ 0 (nI 0) _ _ _ (Nat.lt_succ_self _) (by first | assumption | omega | rfl) (by rfl) hw (lv_sub hl [2, 3, 4, 1, 0] rfl)
set_option maxHeartbeats 4000000 in
set_option maxRecDepth 20000 in
theorem c_X1_lostStrokeCost (l : Launch) (D : va_G) (k : Nat → ClassId) (q z : Nat → Nat) (g : Nat → Option Nat) (S : St) (X : va_W) (pi : Int32) (o : Int32) (sk : Nat) (kd : Nat) (hP : okP S) (hpi : 0 ≤ pi → pi.toNatClampNeg < 6) (hk : kd < 4) : CI l D k yX1_lostStrokeCost cX1_lostStrokeCost 7 (some .int) 1 0 0 [.ref (q 2), .int pi, .int o, .int (nI sk), .int (nI kd)] (wC k q z g S X) (fun r w' => w' = wC k q z g S X ∧ r = lscF (slC S) (S 3) (picN S) pi o sk kd) := by
  refine CI.mk (by decide) (Nat.le_of_ble_eq_true rfl) ?_
  intro p e R s m args below meth c A Q ls F hret hw hl
  have hx := xs_hx F
  have hb := xs_hb F
  have hl : lv_has ls 7 [(0, .ref (q 2)), (1, .int pi), (2, .int o), (3, .int (nI sk)), (4, .int (nI kd))] := hl
  have h6 := hP.2
  refine lv_iload_n hx hb dX1_lostStrokeCost_0 rfl (lv_at hl 1 rfl) ?_
  have K26 : ∀ (x : Int32) (H : Heap) (locs : List Loc) (ls : Array Slot), (x = (if 0 ≤ pi then slC S (stk (S 3 pi.toNatClampNeg) sk) kd else nI 0)) → Wd D A s.heap H locs (wC k q z g S X) → lv_has ls 7 [(0, .ref (q 2)), (1, .int pi), (2, .int o), (3, .int (nI sk)), (4, .int (nI kd))] → W p l e R s m args below meth c H locs 0 0 Q (F0 m 26 ls [.int x]) := by
    intro x H locs ls h0 hw hl
    refine lv_istore (lv' := [(5, .int x), (0, .ref (q 2)), (1, .int pi), (2, .int o), (3, .int (nI sk)), (4, .int (nI kd))]) hx hb dX1_lostStrokeCost_26 hl (Nat.le_of_ble_eq_true rfl) rfl (fun ls hl => ?_)
    refine lv_iconst (v := nI 0) hx hb dX1_lostStrokeCost_28 rfl ?_
    refine lv_istore (lv' := [(6, .int (nI 0)), (5, .int x), (0, .ref (q 2)), (1, .int pi), (2, .int o), (3, .int (nI sk)), (4, .int (nI kd))]) hx hb dX1_lostStrokeCost_29 hl (Nat.le_of_ble_eq_true rfl) rfl (fun ls hl => ?_)
    have K31 : ∀ (n31_ : Nat) (i : Nat) (x : Int32) (H : Heap) (locs : List Loc) (ls : Array Slot), picN S - i < n31_ → (i ≤ picN S) → (x = sumIf o (fun p => slC S kd (stk (S 3 p) sk)) (if 0 ≤ pi then slC S (stk (S 3 pi.toNatClampNeg) sk) kd else nI 0) i) → Wd D A s.heap H locs (wC k q z g S X) → lv_has ls 7 [(0, .ref (q 2)), (1, .int pi), (2, .int o), (3, .int (nI sk)), (4, .int (nI kd)), (5, .int x), (6, .int (nI i))] → W p l e R s m args below meth c H locs 0 0 Q (F0 m 31 ls []) := by
      intro n31_
      induction n31_ with
      | zero =>
        intro i x H locs ls hn31_
        exact absurd hn31_ (Nat.not_lt_zero _)
      | succ n31_ ih31_ =>
        intro i x H locs ls hn31_ hi h1 hw hl
        refine lv_iload hx hb dX1_lostStrokeCost_31 (lv_at hl 6 rfl) ?_
        refine lv_aload_n hx hb dX1_lostStrokeCost_33 rfl (lv_at hl 0 rfl) ?_
        refine x_geti fiC_40 F hw fo_X1_44 dX1_lostStrokeCost_34 ?_
        refine x_top (y := nI (picN S)) hP.1 ?_
        refine x_icmp_ge i (picN S) F (by omega) (by omega) (tgt := 79) dX1_lostStrokeCost_37 rfl (fun c37 => ?_) (fun c37 => ?_)
        · refine lv_iload hx hb dX1_lostStrokeCost_79 (lv_at hl 5 rfl) ?_
          exact hret _ _ _ _ _ _ dX1_lostStrokeCost_81 hw rfl ⟨rfl, by rw [h1, show i = picN S by omega]; rfl⟩
        · refine lv_iload_n hx hb dX1_lostStrokeCost_40 rfl (lv_at hl 2 rfl) ?_
          refine lv_iload hx hb dX1_lostStrokeCost_41 (lv_at hl 6 rfl) ?_
          refine x_fSI (rest := []) (c_X6_hasBit l D k (wC k q z g S X) o i) mo_X1_65 F hw (Nat.le_of_ble_eq_true rfl) (x_cs F (Nat.le_of_ble_eq_true rfl) (Nat.le_of_ble_eq_true rfl)) rfl rfl hl.1 (Nat.le_of_ble_eq_true rfl) dX1_lostStrokeCost_43 (fun H locs hw => ?_)
          refine lv_if_eq (tgt := 73) hx hb dX1_lostStrokeCost_46 rfl (fun c46 => ?_) (fun c46 => ?_)
          · refine lv_iinc (v := nI (i + 1)) (lv' := [(6, .int (nI (i + 1))), (0, .ref (q 2)), (1, .int pi), (2, .int o), (3, .int (nI sk)), (4, .int (nI kd)), (5, .int x)]) hx hb dX1_lostStrokeCost_73 hl (k := 6) rfl (nI_1 _) (Nat.le_of_ble_eq_true rfl) rfl (fun ls hl => ?_)
            refine lv_goto (tgt := 31) hx hb dX1_lostStrokeCost_76 rfl ?_
            exact ih31_ (i + 1) x _ _ _ (by first | omega | (simp only [] at *; omega)) (by first | assumption | omega | rfl) (by rw [h1]; first | exact (sumIf_n (b01_0.mp c46)).symm | exact (sumIf_y (b01_1.mp c46)).symm) hw (lv_sub hl [1, 2, 3, 4, 5, 6, 0] rfl)
          · refine lv_iload hx hb dX1_lostStrokeCost_49 (lv_at hl 5 rfl) ?_
            refine lv_aload_n hx hb dX1_lostStrokeCost_51 rfl (lv_at hl 0 rfl) ?_
            refine x_getr frC_2_6 F hw fo_X1_26 dX1_lostStrokeCost_52 ?_
            refine lv_iload hx hb dX1_lostStrokeCost_55 (lv_at hl 4 rfl) ?_
            refine x_grow giC_7 F hw kd rfl (by omega) dX1_lostStrokeCost_57 ?_
            refine lv_aload_n hx hb dX1_lostStrokeCost_58 rfl (lv_at hl 0 rfl) ?_
            refine x_getr frC_2_2 F hw fo_X1_9 dX1_lostStrokeCost_59 ?_
            refine lv_iload hx hb dX1_lostStrokeCost_62 (lv_at hl 6 rfl) ?_
            refine x_iald aiC_3 F hw i rfl (by omega) dX1_lostStrokeCost_64 ?_
            refine lv_iload_n hx hb dX1_lostStrokeCost_65 rfl (lv_at hl 3 rfl) ?_
            refine x_fSI (rest := [.ref (q (8 + kd)), .int x]) (c_X6_strokeOf l D k (wC k q z g S X) (S 3 i) sk) mo_X1_57 F hw (Nat.le_of_ble_eq_true rfl) (x_cs F (Nat.le_of_ble_eq_true rfl) (Nat.le_of_ble_eq_true rfl)) rfl rfl hl.1 (Nat.le_of_ble_eq_true rfl) dX1_lostStrokeCost_66 (fun H locs hw => ?_)
            have := stk_lt (S 3 i) sk
            refine x_iald (aiC_slip (j := kd) (by omega)) F hw (stk (S 3 i) sk) rfl (by omega) dX1_lostStrokeCost_69 ?_
            refine lv_iadd hx hb dX1_lostStrokeCost_70 ?_
            refine lv_istore (lv' := [(5, .int (x + (S (8 + kd) (stk (S 3 i) sk)))), (0, .ref (q 2)), (1, .int pi), (2, .int o), (3, .int (nI sk)), (4, .int (nI kd)), (6, .int (nI i))]) hx hb dX1_lostStrokeCost_71 hl (Nat.le_of_ble_eq_true rfl) rfl (fun ls hl => ?_)
            refine lv_iinc (v := nI (i + 1)) (lv' := [(6, .int (nI (i + 1))), (5, .int (x + (S (8 + kd) (stk (S 3 i) sk)))), (0, .ref (q 2)), (1, .int pi), (2, .int o), (3, .int (nI sk)), (4, .int (nI kd))]) hx hb dX1_lostStrokeCost_73 hl (k := 6) rfl (nI_1 _) (Nat.le_of_ble_eq_true rfl) rfl (fun ls hl => ?_)
            refine lv_goto (tgt := 31) hx hb dX1_lostStrokeCost_76 rfl ?_
            exact ih31_ (i + 1) (x + (S (8 + kd) (stk (S 3 i) sk))) _ _ _ (by first | omega | (simp only [] at *; omega)) (by first | assumption | omega | rfl) (by rw [h1]; first | exact (sumIf_n (b01_0.mp c46)).symm | exact (sumIf_y (b01_1.mp c46)).symm) hw (lv_sub hl [2, 3, 4, 5, 6, 1, 0] rfl)
    exact K31 _ 0 x _ _ _ (Nat.lt_succ_self _) (by first | assumption | omega | rfl) (by exact h0) hw (lv_sub hl [2, 3, 4, 5, 6, 1, 0] rfl)
  refine lv_if_ge (tgt := 8) hx hb dX1_lostStrokeCost_1 rfl (fun c1 => ?_) (fun c1 => ?_)
  · refine lv_aload_n hx hb dX1_lostStrokeCost_8 rfl (lv_at hl 0 rfl) ?_
    refine x_getr frC_2_6 F hw fo_X1_26 dX1_lostStrokeCost_9 ?_
    refine lv_aload_n hx hb dX1_lostStrokeCost_12 rfl (lv_at hl 0 rfl) ?_
    refine x_getr frC_2_2 F hw fo_X1_9 dX1_lostStrokeCost_13 ?_
    refine lv_iload_n hx hb dX1_lostStrokeCost_16 rfl (lv_at hl 1 rfl) ?_
    refine x_iald aiC_3 F hw pi.toNatClampNeg (nn_of c1) (hpi c1) dX1_lostStrokeCost_17 ?_
    refine lv_iload_n hx hb dX1_lostStrokeCost_18 rfl (lv_at hl 3 rfl) ?_
    refine x_fSI (rest := [.ref (q 7)]) (c_X6_strokeOf l D k (wC k q z g S X) (S 3 pi.toNatClampNeg) sk) mo_X1_57 F hw (Nat.le_of_ble_eq_true rfl) (x_cs F (Nat.le_of_ble_eq_true rfl) (Nat.le_of_ble_eq_true rfl)) rfl rfl hl.1 (Nat.le_of_ble_eq_true rfl) dX1_lostStrokeCost_19 (fun H locs hw => ?_)
    have := stk_lt (S 3 pi.toNatClampNeg) sk
    refine x_grow giC_7 F hw (stk (S 3 pi.toNatClampNeg) sk) rfl (by omega) dX1_lostStrokeCost_22 ?_
    refine lv_iload hx hb dX1_lostStrokeCost_23 (lv_at hl 4 rfl) ?_
    refine x_iald (aiC_slip (j := (stk (S 3 pi.toNatClampNeg) sk)) (by omega)) F hw kd rfl (by omega) dX1_lostStrokeCost_25 ?_
    exact K26 (S (8 + (stk (S 3 pi.toNatClampNeg) sk)) kd) _ _ _ (by first | exact (if_pos c1).symm | exact (if_neg c1).symm) hw (lv_sub hl [0, 1, 2, 3, 4] rfl)
  · refine lv_iconst (v := nI 0) hx hb dX1_lostStrokeCost_4 rfl ?_
    refine lv_goto (tgt := 26) hx hb dX1_lostStrokeCost_5 rfl ?_
    exact K26 (nI 0) _ _ _ (by first | exact (if_pos c1).symm | exact (if_neg c1).symm) hw (lv_sub hl [0, 1, 2, 3, 4] rfl)
set_option maxHeartbeats 4000000 in
set_option maxRecDepth 20000 in
theorem c_X1_lostDrawing (l : Launch) (D : va_G) (k : Nat → ClassId) (q z : Nat → Nat) (g : Nat → Option Nat) (S : St) (X : va_W) (pi : Int32) (o : Int32) (hP : okP S) (hpi : 0 ≤ pi → pi.toNatClampNeg < 6) : CI l D k yX1_lostDrawing cX1_lostDrawing 9 (some .int) 2 0 0 [.ref (q 2), .int pi, .int o] (wC k q z g S X) (fun r w' => w' = wC k q z g S X ∧ r = nI (ldN (slC S) (S 3) (picN S) pi o 8)) := by
  refine CI.mk (by decide) (Nat.le_of_ble_eq_true rfl) ?_
  intro p e R s m args below meth c A Q ls F hret hw hl
  have hx := xs_hx F
  have hb := xs_hb F
  have hl : lv_has ls 9 [(0, .ref (q 2)), (1, .int pi), (2, .int o)] := hl
  have h6 := hP.2
  refine lv_iconst (v := nI 0) hx hb dX1_lostDrawing_0 rfl ?_
  refine lv_istore_n (lv' := [(3, .int (nI 0)), (0, .ref (q 2)), (1, .int pi), (2, .int o)]) hx hb dX1_lostDrawing_1 rfl hl (Nat.le_of_ble_eq_true rfl) rfl (fun ls hl => ?_)
  refine lv_iconst (v := nI 0) hx hb dX1_lostDrawing_2 rfl ?_
  refine lv_istore (lv' := [(4, .int (nI 0)), (3, .int (nI 0)), (0, .ref (q 2)), (1, .int pi), (2, .int o)]) hx hb dX1_lostDrawing_3 hl (Nat.le_of_ble_eq_true rfl) rfl (fun ls hl => ?_)
  have K5 : ∀ (n5_ : Nat) (i : Nat) (y : Nat) (H : Heap) (locs : List Loc) (ls : Array Slot), 8 - i < n5_ → (i ≤ 8) → (y = ldN (slC S) (S 3) (picN S) pi o i) → Wd D A s.heap H locs (wC k q z g S X) → lv_has ls 9 [(0, .ref (q 2)), (1, .int pi), (2, .int o), (3, .int (nI y)), (4, .int (nI i))] → W p l e R s m args below meth c H locs 0 0 Q (F0 m 5 ls []) := by
    intro n5_
    induction n5_ with
    | zero =>
      intro i y H locs ls hn5_
      exact absurd hn5_ (Nat.not_lt_zero _)
    | succ n5_ ih5_ =>
      intro i y H locs ls hn5_ hi h1 hw hl
      refine lv_iload hx hb dX1_lostDrawing_5 (lv_at hl 4 rfl) ?_
      refine lv_bipush (v := nI 8) hx hb dX1_lostDrawing_7 rfl ?_
      refine x_icmp_ge i 8 F (by omega) (by omega) (tgt := 81) dX1_lostDrawing_9 rfl (fun c9 => ?_) (fun c9 => ?_)
      · refine lv_iload_n hx hb dX1_lostDrawing_81 rfl (lv_at hl 3 rfl) ?_
        exact hret _ _ _ _ _ _ dX1_lostDrawing_82 hw rfl ⟨rfl, by rw [h1, show i = 8 by omega]⟩
      · refine lv_iconst (v := nI 0) hx hb dX1_lostDrawing_12 rfl ?_
        refine lv_istore (lv' := [(5, .int (nI 0)), (0, .ref (q 2)), (1, .int pi), (2, .int o), (3, .int (nI y)), (4, .int (nI i))]) hx hb dX1_lostDrawing_13 hl (Nat.le_of_ble_eq_true rfl) rfl (fun ls hl => ?_)
        refine lv_aload_n hx hb dX1_lostDrawing_15 rfl (lv_at hl 1 rfl) ?_
        refine lv_iload_n hx hb dX1_lostDrawing_16 rfl (lv_at hl 2 rfl) ?_
        refine lv_iload_n hx hb dX1_lostDrawing_17 rfl (lv_at hl 3 rfl) ?_
        refine lv_iload hx hb dX1_lostDrawing_18 (lv_at hl 5 rfl) ?_
        refine lv_iconst (v := nI 0) hx hb dX1_lostDrawing_20 rfl ?_
        refine x_fVI (rest := []) (c_X1_lostStrokeCost l D k q z g S X pi o i 0 (by first | assumption | omega) (by first | assumption | omega) (by first | assumption | omega)) mo_X1_61 obC_2 F hw (Nat.le_of_ble_eq_true rfl) (x_cs F (Nat.le_of_ble_eq_true rfl) (Nat.le_of_ble_eq_true rfl)) rfl rfl hl.1 (Nat.le_of_ble_eq_true rfl) dX1_lostDrawing_21 (fun H locs hw => ?_)
        refine lv_istore (lv' := [(6, .int (lscF (slC S) (S 3) (picN S) pi o i 0)), (5, .int (nI 0)), (0, .ref (q 2)), (1, .int pi), (2, .int o), (3, .int (nI y)), (4, .int (nI i))]) hx hb dX1_lostDrawing_24 hl (Nat.le_of_ble_eq_true rfl) rfl (fun ls hl => ?_)
        refine lv_iconst (v := nI 1) hx hb dX1_lostDrawing_26 rfl ?_
        refine lv_istore (lv' := [(7, .int (nI 1)), (6, .int (lscF (slC S) (S 3) (picN S) pi o i 0)), (5, .int (nI 0)), (0, .ref (q 2)), (1, .int pi), (2, .int o), (3, .int (nI y)), (4, .int (nI i))]) hx hb dX1_lostDrawing_27 hl (Nat.le_of_ble_eq_true rfl) rfl (fun ls hl => ?_)
        have K29 : ∀ (n29_ : Nat) (j : Nat) (b : Nat) (x : Int32) (H : Heap) (locs : List Loc) (ls : Array Slot), 3 - j < n29_ → (j ≤ 3) → (b = amin (lscF (slC S) (S 3) (picN S) pi o i) j) → (x = lscF (slC S) (S 3) (picN S) pi o i b) → Wd D A s.heap H locs (wC k q z g S X) → lv_has ls 9 [(0, .ref (q 2)), (1, .int pi), (2, .int o), (3, .int (nI y)), (4, .int (nI i)), (5, .int (nI b)), (6, .int x), (7, .int (nI (j + 1)))] → W p l e R s m args below meth c H locs 0 0 Q (F0 m 29 ls []) := by
          intro n29_
          induction n29_ with
          | zero =>
            intro j b x H locs ls hn29_
            exact absurd hn29_ (Nat.not_lt_zero _)
          | succ n29_ ih29_ =>
            intro j b x H locs ls hn29_ hj h2 h3 hw hl
            refine lv_iload hx hb dX1_lostDrawing_29 (lv_at hl 7 rfl) ?_
            refine lv_iconst (v := nI 4) hx hb dX1_lostDrawing_31 rfl ?_
            refine x_icmp_ge (j + 1) 4 F (by omega) (by omega) (tgt := 68) dX1_lostDrawing_32 rfl (fun c32 => ?_) (fun c32 => ?_)
            · refine lv_iload_n hx hb dX1_lostDrawing_68 rfl (lv_at hl 3 rfl) ?_
              refine lv_iconst (v := nI 4) hx hb dX1_lostDrawing_69 rfl ?_
              refine lv_imul hx hb dX1_lostDrawing_70 ?_
              refine x_top (y := nI (y * 4)) (pk_mul _ _) ?_
              refine lv_iload hx hb dX1_lostDrawing_71 (lv_at hl 5 rfl) ?_
              refine lv_iadd hx hb dX1_lostDrawing_73 ?_
              refine x_top (y := nI ((y * 4) + b)) (nI_add _ _) ?_
              refine lv_istore_n (lv' := [(3, .int (nI ((y * 4) + b))), (0, .ref (q 2)), (1, .int pi), (2, .int o), (4, .int (nI i)), (5, .int (nI b)), (6, .int x), (7, .int (nI (j + 1)))]) hx hb dX1_lostDrawing_74 rfl hl (Nat.le_of_ble_eq_true rfl) rfl (fun ls hl => ?_)
              refine lv_iinc (v := nI (i + 1)) (lv' := [(4, .int (nI (i + 1))), (3, .int (nI ((y * 4) + b))), (0, .ref (q 2)), (1, .int pi), (2, .int o), (5, .int (nI b)), (6, .int x), (7, .int (nI (j + 1)))]) hx hb dX1_lostDrawing_75 hl (k := 4) rfl (nI_1 _) (Nat.le_of_ble_eq_true rfl) rfl (fun ls hl => ?_)
              refine lv_goto (tgt := 5) hx hb dX1_lostDrawing_78 rfl ?_
              exact ih5_ (i + 1) ((y * 4) + b) _ _ _ (by first | omega | (simp only [] at *; omega)) (by first | assumption | omega | rfl) (by rw [h1, h2, show j = 3 by omega]; rfl) hw (lv_sub hl [2, 3, 4, 1, 0] rfl)
            · refine lv_aload_n hx hb dX1_lostDrawing_35 rfl (lv_at hl 0 rfl) ?_
              refine lv_iload_n hx hb dX1_lostDrawing_36 rfl (lv_at hl 1 rfl) ?_
              refine lv_iload_n hx hb dX1_lostDrawing_37 rfl (lv_at hl 2 rfl) ?_
              refine lv_iload hx hb dX1_lostDrawing_38 (lv_at hl 4 rfl) ?_
              refine lv_iload hx hb dX1_lostDrawing_40 (lv_at hl 7 rfl) ?_
              refine x_fVI (rest := []) (c_X1_lostStrokeCost l D k q z g S X pi o i (j + 1) (by first | assumption | omega) (by first | assumption | omega) (by first | assumption | omega)) mo_X1_61 obC_2 F hw (Nat.le_of_ble_eq_true rfl) (x_cs F (Nat.le_of_ble_eq_true rfl) (Nat.le_of_ble_eq_true rfl)) rfl rfl hl.1 (Nat.le_of_ble_eq_true rfl) dX1_lostDrawing_42 (fun H locs hw => ?_)
              refine lv_istore (lv' := [(8, .int (lscF (slC S) (S 3) (picN S) pi o i (j + 1))), (0, .ref (q 2)), (1, .int pi), (2, .int o), (3, .int (nI y)), (4, .int (nI i)), (5, .int (nI b)), (6, .int x), (7, .int (nI (j + 1)))]) hx hb dX1_lostDrawing_45 hl (Nat.le_of_ble_eq_true rfl) rfl (fun ls hl => ?_)
              refine lv_iload hx hb dX1_lostDrawing_47 (lv_at hl 0 rfl) ?_
              refine lv_iload hx hb dX1_lostDrawing_49 (lv_at hl 7 rfl) ?_
              refine lv_icmp_ge (tgt := 62) hx hb dX1_lostDrawing_51 rfl (fun c51 => ?_) (fun c51 => ?_)
              · refine lv_iinc (v := nI (j + 1 + 1)) (lv' := [(7, .int (nI (j + 1 + 1))), (8, .int (lscF (slC S) (S 3) (picN S) pi o i (j + 1))), (0, .ref (q 2)), (1, .int pi), (2, .int o), (3, .int (nI y)), (4, .int (nI i)), (5, .int (nI b)), (6, .int x)]) hx hb dX1_lostDrawing_62 hl (k := 8) rfl (nI_1 _) (Nat.le_of_ble_eq_true rfl) rfl (fun ls hl => ?_)
                refine lv_goto (tgt := 29) hx hb dX1_lostDrawing_65 rfl ?_
                exact ih29_ (j + 1) b x _ _ _ (by first | omega | (simp only [] at *; omega)) (by first | assumption | omega | rfl) (by first | (rw [show amin _ (j + 1) = _ from if_neg (by rw [← h2, ← h3]; exact Int32.not_lt.mpr c51)]; exact h2) | exact (if_pos (by rw [← h2, ← h3]; exact Int32.not_le.mp c51)).symm) (by first | exact h3 | rfl) hw (lv_sub hl [2, 3, 4, 5, 6, 7, 8, 0] rfl)
              · refine lv_iload hx hb dX1_lostDrawing_54 (lv_at hl 8 rfl) ?_
                refine lv_istore (lv' := [(5, .int (nI (j + 1))), (8, .int (lscF (slC S) (S 3) (picN S) pi o i (j + 1))), (0, .ref (q 2)), (1, .int pi), (2, .int o), (3, .int (nI y)), (4, .int (nI i)), (6, .int x), (7, .int (nI (j + 1)))]) hx hb dX1_lostDrawing_56 hl (Nat.le_of_ble_eq_true rfl) rfl (fun ls hl => ?_)
                refine lv_iload hx hb dX1_lostDrawing_58 (lv_at hl 1 rfl) ?_
                refine lv_istore (lv' := [(6, .int (lscF (slC S) (S 3) (picN S) pi o i (j + 1))), (5, .int (nI (j + 1))), (8, .int (lscF (slC S) (S 3) (picN S) pi o i (j + 1))), (0, .ref (q 2)), (1, .int pi), (2, .int o), (3, .int (nI y)), (4, .int (nI i)), (7, .int (nI (j + 1)))]) hx hb dX1_lostDrawing_60 hl (Nat.le_of_ble_eq_true rfl) rfl (fun ls hl => ?_)
                refine lv_iinc (v := nI (j + 1 + 1)) (lv' := [(7, .int (nI (j + 1 + 1))), (6, .int (lscF (slC S) (S 3) (picN S) pi o i (j + 1))), (5, .int (nI (j + 1))), (8, .int (lscF (slC S) (S 3) (picN S) pi o i (j + 1))), (0, .ref (q 2)), (1, .int pi), (2, .int o), (3, .int (nI y)), (4, .int (nI i))]) hx hb dX1_lostDrawing_62 hl (k := 8) rfl (nI_1 _) (Nat.le_of_ble_eq_true rfl) rfl (fun ls hl => ?_)
                refine lv_goto (tgt := 29) hx hb dX1_lostDrawing_65 rfl ?_
                exact ih29_ (j + 1) (j + 1) (lscF (slC S) (S 3) (picN S) pi o i (j + 1)) _ _ _ (by first | omega | (simp only [] at *; omega)) (by first | assumption | omega | rfl) (by first | (rw [show amin _ (j + 1) = _ from if_neg (by rw [← h2, ← h3]; exact Int32.not_lt.mpr c51)]; exact h2) | exact (if_pos (by rw [← h2, ← h3]; exact Int32.not_le.mp c51)).symm) (by first | exact h3 | rfl) hw (lv_sub hl [4, 5, 6, 7, 8, 2, 1, 0] rfl)
        exact K29 _ 0 0 (lscF (slC S) (S 3) (picN S) pi o i 0) _ _ _ (Nat.lt_succ_self _) (by first | assumption | omega | rfl) (by rfl) (by rfl) hw (lv_sub hl [3, 4, 5, 6, 7, 2, 1, 0] rfl)
  exact K5 _ 0 0 _ _ _ (Nat.lt_succ_self _) (by first | assumption | omega | rfl) (by rfl) hw (lv_sub hl [2, 3, 4, 1, 0] rfl)
set_option maxHeartbeats 4000000 in
set_option maxRecDepth 20000 in
theorem c_X1_throughCost (l : Launch) (D : va_G) (k : Nat → ClassId) (q z : Nat → Nat) (g : Nat → Option Nat) (S : St) (X : va_W) (pi : Int32) (d : Int32) (o : Int32) (hP : okP S) (hpi : 0 ≤ pi → pi.toNatClampNeg < 6) : CI l D k yX1_throughCost cX1_throughCost 6 (some .int) 2 0 0 [.ref (q 2), .int pi, .int d, .int o] (wC k q z g S X) (fun r w' => w' = wC k q z g S X ∧ r = thrF (slC S) (S 3) (picN S) (S 12 0) pi d o) := by
  refine CI.mk (by decide) (Nat.le_of_ble_eq_true rfl) ?_
  intro p e R s m args below meth c A Q ls F hret hw hl
  have hx := xs_hx F
  have hb := xs_hb F
  have hl : lv_has ls 6 [(0, .ref (q 2)), (1, .int pi), (2, .int d), (3, .int o)] := hl
  have h6 := hP.2
  refine lv_iload_n hx hb dX1_throughCost_0 rfl (lv_at hl 1 rfl) ?_
  have K24 : ∀ (x : Int32) (H : Heap) (locs : List Loc) (ls : Array Slot), (x = (if 0 ≤ pi then costF (slC S) (S 3 pi.toNatClampNeg) d 8 else S 12 0)) → Wd D A s.heap H locs (wC k q z g S X) → lv_has ls 6 [(0, .ref (q 2)), (1, .int pi), (2, .int d), (3, .int o)] → W p l e R s m args below meth c H locs 0 0 Q (F0 m 24 ls [.int x]) := by
    intro x H locs ls h0 hw hl
    refine lv_istore (lv' := [(4, .int x), (0, .ref (q 2)), (1, .int pi), (2, .int d), (3, .int o)]) hx hb dX1_throughCost_24 hl (Nat.le_of_ble_eq_true rfl) rfl (fun ls hl => ?_)
    refine lv_iconst (v := nI 0) hx hb dX1_throughCost_26 rfl ?_
    refine lv_istore (lv' := [(5, .int (nI 0)), (4, .int x), (0, .ref (q 2)), (1, .int pi), (2, .int d), (3, .int o)]) hx hb dX1_throughCost_27 hl (Nat.le_of_ble_eq_true rfl) rfl (fun ls hl => ?_)
    have K29 : ∀ (n29_ : Nat) (i : Nat) (x : Int32) (H : Heap) (locs : List Loc) (ls : Array Slot), picN S - i < n29_ → (i ≤ picN S) → (x = sumIf o (fun p => costF (slC S) d (S 3 p) 8) (if 0 ≤ pi then costF (slC S) (S 3 pi.toNatClampNeg) d 8 else S 12 0) i) → Wd D A s.heap H locs (wC k q z g S X) → lv_has ls 6 [(0, .ref (q 2)), (1, .int pi), (2, .int d), (3, .int o), (4, .int x), (5, .int (nI i))] → W p l e R s m args below meth c H locs 0 0 Q (F0 m 29 ls []) := by
      intro n29_
      induction n29_ with
      | zero =>
        intro i x H locs ls hn29_
        exact absurd hn29_ (Nat.not_lt_zero _)
      | succ n29_ ih29_ =>
        intro i x H locs ls hn29_ hi h1 hw hl
        refine lv_iload hx hb dX1_throughCost_29 (lv_at hl 5 rfl) ?_
        refine lv_aload_n hx hb dX1_throughCost_31 rfl (lv_at hl 0 rfl) ?_
        refine x_geti fiC_40 F hw fo_X1_44 dX1_throughCost_32 ?_
        refine x_top (y := nI (picN S)) hP.1 ?_
        refine x_icmp_ge i (picN S) F (by omega) (by omega) (tgt := 70) dX1_throughCost_35 rfl (fun c35 => ?_) (fun c35 => ?_)
        · refine lv_iload hx hb dX1_throughCost_70 (lv_at hl 4 rfl) ?_
          exact hret _ _ _ _ _ _ dX1_throughCost_72 hw rfl ⟨rfl, by rw [h1, show i = picN S by omega]; rfl⟩
        · refine lv_iload_n hx hb dX1_throughCost_38 rfl (lv_at hl 3 rfl) ?_
          refine lv_iload hx hb dX1_throughCost_39 (lv_at hl 5 rfl) ?_
          refine x_fSI (rest := []) (c_X6_hasBit l D k (wC k q z g S X) o i) mo_X1_65 F hw (Nat.le_of_ble_eq_true rfl) (x_cs F (Nat.le_of_ble_eq_true rfl) (Nat.le_of_ble_eq_true rfl)) rfl rfl hl.1 (Nat.le_of_ble_eq_true rfl) dX1_throughCost_41 (fun H locs hw => ?_)
          refine lv_if_eq (tgt := 64) hx hb dX1_throughCost_44 rfl (fun c44 => ?_) (fun c44 => ?_)
          · refine lv_iinc (v := nI (i + 1)) (lv' := [(5, .int (nI (i + 1))), (0, .ref (q 2)), (1, .int pi), (2, .int d), (3, .int o), (4, .int x)]) hx hb dX1_throughCost_64 hl (k := 5) rfl (nI_1 _) (Nat.le_of_ble_eq_true rfl) rfl (fun ls hl => ?_)
            refine lv_goto (tgt := 29) hx hb dX1_throughCost_67 rfl ?_
            exact ih29_ (i + 1) x _ _ _ (by first | omega | (simp only [] at *; omega)) (by first | assumption | omega | rfl) (by rw [h1]; first | exact (sumIf_n (b01_0.mp c44)).symm | exact (sumIf_y (b01_1.mp c44)).symm) hw (lv_sub hl [1, 2, 3, 4, 5, 0] rfl)
          · refine lv_iload hx hb dX1_throughCost_47 (lv_at hl 4 rfl) ?_
            refine lv_aload_n hx hb dX1_throughCost_49 rfl (lv_at hl 0 rfl) ?_
            refine lv_iload_n hx hb dX1_throughCost_50 rfl (lv_at hl 2 rfl) ?_
            refine lv_aload_n hx hb dX1_throughCost_51 rfl (lv_at hl 0 rfl) ?_
            refine x_getr frC_2_2 F hw fo_X1_9 dX1_throughCost_52 ?_
            refine lv_iload hx hb dX1_throughCost_55 (lv_at hl 5 rfl) ?_
            refine x_iald aiC_3 F hw i rfl (by omega) dX1_throughCost_57 ?_
            refine x_fVI (rest := [.int x]) (c_X1_tracingCost l D k q z g S X d (S 3 i)) mo_X1_69 obC_2 F hw (Nat.le_of_ble_eq_true rfl) (x_cs F (Nat.le_of_ble_eq_true rfl) (Nat.le_of_ble_eq_true rfl)) rfl rfl hl.1 (Nat.le_of_ble_eq_true rfl) dX1_throughCost_58 (fun H locs hw => ?_)
            refine lv_iadd hx hb dX1_throughCost_61 ?_
            refine lv_istore (lv' := [(4, .int (x + (costF (slC S) d (S 3 i) 8))), (0, .ref (q 2)), (1, .int pi), (2, .int d), (3, .int o), (5, .int (nI i))]) hx hb dX1_throughCost_62 hl (Nat.le_of_ble_eq_true rfl) rfl (fun ls hl => ?_)
            refine lv_iinc (v := nI (i + 1)) (lv' := [(5, .int (nI (i + 1))), (4, .int (x + (costF (slC S) d (S 3 i) 8))), (0, .ref (q 2)), (1, .int pi), (2, .int d), (3, .int o)]) hx hb dX1_throughCost_64 hl (k := 5) rfl (nI_1 _) (Nat.le_of_ble_eq_true rfl) rfl (fun ls hl => ?_)
            refine lv_goto (tgt := 29) hx hb dX1_throughCost_67 rfl ?_
            exact ih29_ (i + 1) (x + (costF (slC S) d (S 3 i) 8)) _ _ _ (by first | omega | (simp only [] at *; omega)) (by first | assumption | omega | rfl) (by rw [h1]; first | exact (sumIf_n (b01_0.mp c44)).symm | exact (sumIf_y (b01_1.mp c44)).symm) hw (lv_sub hl [2, 3, 4, 5, 1, 0] rfl)
    exact K29 _ 0 x _ _ _ (Nat.lt_succ_self _) (by first | assumption | omega | rfl) (by exact h0) hw (lv_sub hl [2, 3, 4, 5, 1, 0] rfl)
  refine lv_if_ge (tgt := 13) hx hb dX1_throughCost_1 rfl (fun c1 => ?_) (fun c1 => ?_)
  · refine lv_aload_n hx hb dX1_throughCost_13 rfl (lv_at hl 0 rfl) ?_
    refine lv_aload_n hx hb dX1_throughCost_14 rfl (lv_at hl 0 rfl) ?_
    refine x_getr frC_2_2 F hw fo_X1_9 dX1_throughCost_15 ?_
    refine lv_iload_n hx hb dX1_throughCost_18 rfl (lv_at hl 1 rfl) ?_
    refine x_iald aiC_3 F hw pi.toNatClampNeg (nn_of c1) (hpi c1) dX1_throughCost_19 ?_
    refine lv_iload_n hx hb dX1_throughCost_20 rfl (lv_at hl 2 rfl) ?_
    refine x_fVI (rest := []) (c_X1_tracingCost l D k q z g S X (S 3 pi.toNatClampNeg) d) mo_X1_69 obC_2 F hw (Nat.le_of_ble_eq_true rfl) (x_cs F (Nat.le_of_ble_eq_true rfl) (Nat.le_of_ble_eq_true rfl)) rfl rfl hl.1 (Nat.le_of_ble_eq_true rfl) dX1_throughCost_21 (fun H locs hw => ?_)
    exact K24 (costF (slC S) (S 3 pi.toNatClampNeg) d 8) _ _ _ (by first | exact (if_pos c1).symm | exact (if_neg c1).symm) hw (lv_sub hl [0, 1, 2, 3] rfl)
  · refine lv_aload_n hx hb dX1_throughCost_4 rfl (lv_at hl 0 rfl) ?_
    refine x_getr frC_2_7 F hw fo_X1_29 dX1_throughCost_5 ?_
    refine lv_iconst (v := nI 0) hx hb dX1_throughCost_8 rfl ?_
    refine x_iald aiC_12 F hw 0 rfl (by omega) dX1_throughCost_9 ?_
    refine lv_goto (tgt := 24) hx hb dX1_throughCost_10 rfl ?_
    exact K24 (S 12 0) _ _ _ (by first | exact (if_pos c1).symm | exact (if_neg c1).symm) hw (lv_sub hl [0, 1, 2, 3] rfl)
set_option maxHeartbeats 4000000 in
set_option maxRecDepth 20000 in
theorem c_X1_straightCost (l : Launch) (D : va_G) (k : Nat → ClassId) (q z : Nat → Nat) (g : Nat → Option Nat) (S : St) (X : va_W) (pi : Int32) (o : Int32) (hP : okP S) (hpi : 0 ≤ pi → pi.toNatClampNeg < 6) : CI l D k yX1_straightCost cX1_straightCost 5 (some .int) 2 0 0 [.ref (q 2), .int pi, .int o] (wC k q z g S X) (fun r w' => w' = wC k q z g S X ∧ r = strF (slC S) (S 3) (picN S) (S 12 0) pi o) := by
  refine CI.mk (by decide) (Nat.le_of_ble_eq_true rfl) ?_
  intro p e R s m args below meth c A Q ls F hret hw hl
  have hx := xs_hx F
  have hb := xs_hb F
  have hl : lv_has ls 5 [(0, .ref (q 2)), (1, .int pi), (2, .int o)] := hl
  have h6 := hP.2
  refine lv_iconst (v := nI 0) hx hb dX1_straightCost_0 rfl ?_
  refine lv_istore_n (lv' := [(3, .int (nI 0)), (0, .ref (q 2)), (1, .int pi), (2, .int o)]) hx hb dX1_straightCost_1 rfl hl (Nat.le_of_ble_eq_true rfl) rfl (fun ls hl => ?_)
  refine lv_iconst (v := nI 0) hx hb dX1_straightCost_2 rfl ?_
  refine lv_istore (lv' := [(4, .int (nI 0)), (3, .int (nI 0)), (0, .ref (q 2)), (1, .int pi), (2, .int o)]) hx hb dX1_straightCost_3 hl (Nat.le_of_ble_eq_true rfl) rfl (fun ls hl => ?_)
  have K5 : ∀ (n5_ : Nat) (i : Nat) (x : Int32) (H : Heap) (locs : List Loc) (ls : Array Slot), picN S - i < n5_ → (i ≤ picN S) → (x = sumIf o (fun p => if 0 ≤ pi then costF (slC S) (S 3 pi.toNatClampNeg) (S 3 p) 8 else S 12 0) (nI 0) i) → Wd D A s.heap H locs (wC k q z g S X) → lv_has ls 5 [(0, .ref (q 2)), (1, .int pi), (2, .int o), (3, .int x), (4, .int (nI i))] → W p l e R s m args below meth c H locs 0 0 Q (F0 m 5 ls []) := by
    intro n5_
    induction n5_ with
    | zero =>
      intro i x H locs ls hn5_
      exact absurd hn5_ (Nat.not_lt_zero _)
    | succ n5_ ih5_ =>
      intro i x H locs ls hn5_ hi h1 hw hl
      refine lv_iload hx hb dX1_straightCost_5 (lv_at hl 4 rfl) ?_
      refine lv_aload_n hx hb dX1_straightCost_7 rfl (lv_at hl 0 rfl) ?_
      refine x_geti fiC_40 F hw fo_X1_44 dX1_straightCost_8 ?_
      refine x_top (y := nI (picN S)) hP.1 ?_
      refine x_icmp_ge i (picN S) F (by omega) (by omega) (tgt := 62) dX1_straightCost_11 rfl (fun c11 => ?_) (fun c11 => ?_)
      · refine lv_iload_n hx hb dX1_straightCost_62 rfl (lv_at hl 3 rfl) ?_
        exact hret _ _ _ _ _ _ dX1_straightCost_63 hw rfl ⟨rfl, by rw [h1, show i = picN S by omega]; rfl⟩
      · refine lv_iload_n hx hb dX1_straightCost_14 rfl (lv_at hl 2 rfl) ?_
        refine lv_iload hx hb dX1_straightCost_15 (lv_at hl 4 rfl) ?_
        refine x_fSI (rest := []) (c_X6_hasBit l D k (wC k q z g S X) o i) mo_X1_65 F hw (Nat.le_of_ble_eq_true rfl) (x_cs F (Nat.le_of_ble_eq_true rfl) (Nat.le_of_ble_eq_true rfl)) rfl rfl hl.1 (Nat.le_of_ble_eq_true rfl) dX1_straightCost_17 (fun H locs hw => ?_)
        refine lv_if_eq (tgt := 56) hx hb dX1_straightCost_20 rfl (fun c20 => ?_) (fun c20 => ?_)
        · refine lv_iinc (v := nI (i + 1)) (lv' := [(4, .int (nI (i + 1))), (0, .ref (q 2)), (1, .int pi), (2, .int o), (3, .int x)]) hx hb dX1_straightCost_56 hl (k := 4) rfl (nI_1 _) (Nat.le_of_ble_eq_true rfl) rfl (fun ls hl => ?_)
          refine lv_goto (tgt := 5) hx hb dX1_straightCost_59 rfl ?_
          exact ih5_ (i + 1) x _ _ _ (by first | omega | (simp only [] at *; omega)) (by first | assumption | omega | rfl) (by rw [h1]; first | exact (sumIf_n (b01_0.mp c20)).symm | (rw [sumIf_y (b01_1.mp c20), if_pos c25]) | (rw [sumIf_y (b01_1.mp c20), if_neg c25])) hw (lv_sub hl [1, 2, 3, 4, 0] rfl)
        · refine lv_iload_n hx hb dX1_straightCost_23 rfl (lv_at hl 3 rfl) ?_
          refine lv_iload_n hx hb dX1_straightCost_24 rfl (lv_at hl 1 rfl) ?_
          refine lv_if_ge (tgt := 37) hx hb dX1_straightCost_25 rfl (fun c25 => ?_) (fun c25 => ?_)
          · refine lv_aload_n hx hb dX1_straightCost_37 rfl (lv_at hl 0 rfl) ?_
            refine lv_aload_n hx hb dX1_straightCost_38 rfl (lv_at hl 0 rfl) ?_
            refine x_getr frC_2_2 F hw fo_X1_9 dX1_straightCost_39 ?_
            refine lv_iload_n hx hb dX1_straightCost_42 rfl (lv_at hl 1 rfl) ?_
            refine x_iald aiC_3 F hw pi.toNatClampNeg (nn_of c25) (hpi c25) dX1_straightCost_43 ?_
            refine lv_aload_n hx hb dX1_straightCost_44 rfl (lv_at hl 0 rfl) ?_
            refine x_getr frC_2_2 F hw fo_X1_9 dX1_straightCost_45 ?_
            refine lv_iload hx hb dX1_straightCost_48 (lv_at hl 4 rfl) ?_
            refine x_iald aiC_3 F hw i rfl (by omega) dX1_straightCost_50 ?_
            refine x_fVI (rest := [.int x]) (c_X1_tracingCost l D k q z g S X (S 3 pi.toNatClampNeg) (S 3 i)) mo_X1_69 obC_2 F hw (Nat.le_of_ble_eq_true rfl) (x_cs F (Nat.le_of_ble_eq_true rfl) (Nat.le_of_ble_eq_true rfl)) rfl rfl hl.1 (Nat.le_of_ble_eq_true rfl) dX1_straightCost_51 (fun H locs hw => ?_)
            refine lv_iadd hx hb dX1_straightCost_54 ?_
            refine lv_istore_n (lv' := [(3, .int (x + (costF (slC S) (S 3 pi.toNatClampNeg) (S 3 i) 8))), (0, .ref (q 2)), (1, .int pi), (2, .int o), (4, .int (nI i))]) hx hb dX1_straightCost_55 rfl hl (Nat.le_of_ble_eq_true rfl) rfl (fun ls hl => ?_)
            refine lv_iinc (v := nI (i + 1)) (lv' := [(4, .int (nI (i + 1))), (3, .int (x + (costF (slC S) (S 3 pi.toNatClampNeg) (S 3 i) 8))), (0, .ref (q 2)), (1, .int pi), (2, .int o)]) hx hb dX1_straightCost_56 hl (k := 4) rfl (nI_1 _) (Nat.le_of_ble_eq_true rfl) rfl (fun ls hl => ?_)
            refine lv_goto (tgt := 5) hx hb dX1_straightCost_59 rfl ?_
            exact ih5_ (i + 1) (x + (costF (slC S) (S 3 pi.toNatClampNeg) (S 3 i) 8)) _ _ _ (by first | omega | (simp only [] at *; omega)) (by first | assumption | omega | rfl) (by rw [h1]; first | exact (sumIf_n (b01_0.mp c20)).symm | (rw [sumIf_y (b01_1.mp c20), if_pos c25]) | (rw [sumIf_y (b01_1.mp c20), if_neg c25])) hw (lv_sub hl [2, 3, 4, 1, 0] rfl)
          · refine lv_aload_n hx hb dX1_straightCost_28 rfl (lv_at hl 0 rfl) ?_
            refine x_getr frC_2_7 F hw fo_X1_29 dX1_straightCost_29 ?_
            refine lv_iconst (v := nI 0) hx hb dX1_straightCost_32 rfl ?_
            refine x_iald aiC_12 F hw 0 rfl (by omega) dX1_straightCost_33 ?_
            refine lv_goto (tgt := 54) hx hb dX1_straightCost_34 rfl ?_
            refine lv_iadd hx hb dX1_straightCost_54 ?_
            refine lv_istore_n (lv' := [(3, .int (x + (S 12 0))), (0, .ref (q 2)), (1, .int pi), (2, .int o), (4, .int (nI i))]) hx hb dX1_straightCost_55 rfl hl (Nat.le_of_ble_eq_true rfl) rfl (fun ls hl => ?_)
            refine lv_iinc (v := nI (i + 1)) (lv' := [(4, .int (nI (i + 1))), (3, .int (x + (S 12 0))), (0, .ref (q 2)), (1, .int pi), (2, .int o)]) hx hb dX1_straightCost_56 hl (k := 4) rfl (nI_1 _) (Nat.le_of_ble_eq_true rfl) rfl (fun ls hl => ?_)
            refine lv_goto (tgt := 5) hx hb dX1_straightCost_59 rfl ?_
            exact ih5_ (i + 1) (x + (S 12 0)) _ _ _ (by first | omega | (simp only [] at *; omega)) (by first | assumption | omega | rfl) (by rw [h1]; first | exact (sumIf_n (b01_0.mp c20)).symm | (rw [sumIf_y (b01_1.mp c20), if_pos c25]) | (rw [sumIf_y (b01_1.mp c20), if_neg c25])) hw (lv_sub hl [2, 3, 4, 1, 0] rfl)
  exact K5 _ 0 (nI 0) _ _ _ (Nat.lt_succ_self _) (by first | assumption | omega | rfl) (by rfl) hw (lv_sub hl [2, 3, 4, 1, 0] rfl)
set_option maxHeartbeats 4000000 in
set_option maxRecDepth 20000 in
theorem c_X1_hiddenBy (l : Launch) (D : va_G) (k : Nat → ClassId) (q z : Nat → Nat) (g : Nat → Option Nat) (S : St) (X : va_W) (dr : Int32) : CI l D k yX1_hiddenBy cX1_hiddenBy 5 (some .int) 1 0 0 [.ref (q 2), .int dr] (wC k q z g S X) (fun r w' => w' = wC k q z g S X ∧ r = hidF (S 15) (S 16) dr 8) := by
  refine CI.mk (by decide) (Nat.le_of_ble_eq_true rfl) ?_
  intro p e R s m args below meth c A Q ls F hret hw hl
  have hx := xs_hx F
  have hb := xs_hb F
  have hl : lv_has ls 5 [(0, .ref (q 2)), (1, .int dr)] := hl
  refine lv_iconst (v := nI 0) hx hb dX1_hiddenBy_0 rfl ?_
  refine lv_istore_n (lv' := [(2, .int (nI 0)), (0, .ref (q 2)), (1, .int dr)]) hx hb dX1_hiddenBy_1 rfl hl (Nat.le_of_ble_eq_true rfl) rfl (fun ls hl => ?_)
  refine lv_iconst (v := nI 0) hx hb dX1_hiddenBy_2 rfl ?_
  refine lv_istore_n (lv' := [(3, .int (nI 0)), (2, .int (nI 0)), (0, .ref (q 2)), (1, .int dr)]) hx hb dX1_hiddenBy_3 rfl hl (Nat.le_of_ble_eq_true rfl) rfl (fun ls hl => ?_)
  have K4 : ∀ (n4_ : Nat) (i : Nat) (x : Int32) (H : Heap) (locs : List Loc) (ls : Array Slot), 8 - i < n4_ → (i ≤ 8) → (x = hidF (S 15) (S 16) dr i) → Wd D A s.heap H locs (wC k q z g S X) → lv_has ls 5 [(0, .ref (q 2)), (1, .int dr), (2, .int x), (3, .int (nI i))] → W p l e R s m args below meth c H locs 0 0 Q (F0 m 4 ls []) := by
    intro n4_
    induction n4_ with
    | zero =>
      intro i x H locs ls hn4_
      exact absurd hn4_ (Nat.not_lt_zero _)
    | succ n4_ ih4_ =>
      intro i x H locs ls hn4_ hi h1 hw hl
      refine lv_iload_n hx hb dX1_hiddenBy_4 rfl (lv_at hl 3 rfl) ?_
      refine lv_bipush (v := nI 8) hx hb dX1_hiddenBy_5 rfl ?_
      refine x_icmp_ge i 8 F (by omega) (by omega) (tgt := 55) dX1_hiddenBy_7 rfl (fun c7 => ?_) (fun c7 => ?_)
      · refine lv_iload_n hx hb dX1_hiddenBy_55 rfl (lv_at hl 2 rfl) ?_
        exact hret _ _ _ _ _ _ dX1_hiddenBy_56 hw rfl ⟨rfl, by rw [h1, show i = 8 by omega]⟩
      · refine lv_iload_n hx hb dX1_hiddenBy_10 rfl (lv_at hl 1 rfl) ?_
        refine lv_iload_n hx hb dX1_hiddenBy_11 rfl (lv_at hl 3 rfl) ?_
        refine x_fSI (rest := []) (c_X6_strokeOf l D k (wC k q z g S X) dr i) mo_X1_57 F hw (Nat.le_of_ble_eq_true rfl) (x_cs F (Nat.le_of_ble_eq_true rfl) (Nat.le_of_ble_eq_true rfl)) rfl rfl hl.1 (Nat.le_of_ble_eq_true rfl) dX1_hiddenBy_12 (fun H locs hw => ?_)
        have := stk_lt dr i
        refine lv_istore (lv' := [(4, .int (nI ((stk dr i)))), (0, .ref (q 2)), (1, .int dr), (2, .int x), (3, .int (nI i))]) hx hb dX1_hiddenBy_15 hl (Nat.le_of_ble_eq_true rfl) rfl (fun ls hl => ?_)
        refine lv_iload hx hb dX1_hiddenBy_17 (lv_at hl 0 rfl) ?_
        refine lv_iconst (v := nI 3) hx hb dX1_hiddenBy_19 rfl ?_
        refine x_icmp_ne (stk dr i) 3 F (by omega) (by omega) (tgt := 35) dX1_hiddenBy_20 rfl (fun c20 => ?_) (fun c20 => ?_)
        · refine lv_iload hx hb dX1_hiddenBy_35 (lv_at hl 0 rfl) ?_
          refine x_if_eq (stk dr i) F (by omega) (tgt := 49) dX1_hiddenBy_37 rfl (fun c37 => ?_) (fun c37 => ?_)
          · refine lv_iinc (v := nI (i + 1)) (lv' := [(3, .int (nI (i + 1))), (4, .int (nI ((stk dr i)))), (0, .ref (q 2)), (1, .int dr), (2, .int x)]) hx hb dX1_hiddenBy_49 hl (k := 4) rfl (nI_1 _) (Nat.le_of_ble_eq_true rfl) rfl (fun ls hl => ?_)
            refine lv_goto (tgt := 4) hx hb dX1_hiddenBy_52 rfl ?_
            exact ih4_ (i + 1) x _ _ _ (by first | omega | (simp only [] at *; omega)) (by first | assumption | omega | rfl) (by rw [h1]; simp [hidF, *]) hw (lv_sub hl [2, 3, 4, 0] rfl)
          · refine lv_iload_n hx hb dX1_hiddenBy_40 rfl (lv_at hl 3 rfl) ?_
            refine lv_aload_n hx hb dX1_hiddenBy_41 rfl (lv_at hl 1 rfl) ?_
            refine x_getr frC_2_10 F hw fo_X1_38 dX1_hiddenBy_42 ?_
            refine lv_iload_n hx hb dX1_hiddenBy_45 rfl (lv_at hl 4 rfl) ?_
            refine x_iald aiC_15 F hw i rfl (by omega) dX1_hiddenBy_46 ?_
            refine lv_ior hx hb dX1_hiddenBy_47 ?_
            refine lv_istore_n (lv' := [(2, .int (x ||| (S 15 i))), (4, .int (nI ((stk dr i)))), (0, .ref (q 2)), (1, .int dr), (3, .int (nI i))]) hx hb dX1_hiddenBy_48 rfl hl (Nat.le_of_ble_eq_true rfl) rfl (fun ls hl => ?_)
            refine lv_iinc (v := nI (i + 1)) (lv' := [(3, .int (nI (i + 1))), (2, .int (x ||| (S 15 i))), (4, .int (nI ((stk dr i)))), (0, .ref (q 2)), (1, .int dr)]) hx hb dX1_hiddenBy_49 hl (k := 4) rfl (nI_1 _) (Nat.le_of_ble_eq_true rfl) rfl (fun ls hl => ?_)
            refine lv_goto (tgt := 4) hx hb dX1_hiddenBy_52 rfl ?_
            exact ih4_ (i + 1) (x ||| (S 15 i)) _ _ _ (by first | omega | (simp only [] at *; omega)) (by first | assumption | omega | rfl) (by rw [h1]; simp [hidF, *]) hw (lv_sub hl [3, 4, 1, 0] rfl)
        · refine lv_iload_n hx hb dX1_hiddenBy_23 rfl (lv_at hl 3 rfl) ?_
          refine lv_aload_n hx hb dX1_hiddenBy_24 rfl (lv_at hl 1 rfl) ?_
          refine x_getr frC_2_11 F hw fo_X1_41 dX1_hiddenBy_25 ?_
          refine lv_iload_n hx hb dX1_hiddenBy_28 rfl (lv_at hl 4 rfl) ?_
          refine x_iald aiC_16 F hw i rfl (by omega) dX1_hiddenBy_29 ?_
          refine lv_ior hx hb dX1_hiddenBy_30 ?_
          refine lv_istore_n (lv' := [(2, .int (x ||| (S 16 i))), (4, .int (nI ((stk dr i)))), (0, .ref (q 2)), (1, .int dr), (3, .int (nI i))]) hx hb dX1_hiddenBy_31 rfl hl (Nat.le_of_ble_eq_true rfl) rfl (fun ls hl => ?_)
          refine lv_goto (tgt := 49) hx hb dX1_hiddenBy_32 rfl ?_
          refine lv_iinc (v := nI (i + 1)) (lv' := [(3, .int (nI (i + 1))), (2, .int (x ||| (S 16 i))), (4, .int (nI ((stk dr i)))), (0, .ref (q 2)), (1, .int dr)]) hx hb dX1_hiddenBy_49 hl (k := 4) rfl (nI_1 _) (Nat.le_of_ble_eq_true rfl) rfl (fun ls hl => ?_)
          refine lv_goto (tgt := 4) hx hb dX1_hiddenBy_52 rfl ?_
          exact ih4_ (i + 1) (x ||| (S 16 i)) _ _ _ (by first | omega | (simp only [] at *; omega)) (by first | assumption | omega | rfl) (by rw [h1]; simp [hidF, *]) hw (lv_sub hl [3, 4, 1, 0] rfl)
  exact K4 _ 0 (nI 0) _ _ _ (Nat.lt_succ_self _) (by first | assumption | omega | rfl) (by rfl) hw (lv_sub hl [2, 3, 1, 0] rfl)
end
section
/-! ===== the needle: pure words ===== -/
def menN (S : St) : Nat := (S 53 0).toNatClampNeg
def metN (S : St) : Nat := (S 54 0).toNatClampNeg
def okN (S : St) : Prop := (S 53 0 = nI (menN S) ∧ menN S ≤ 8) ∧ (S 54 0 = nI (metN S) ∧ metN S ≤ 16) ∧ ∀ j, j < metN S → ∃ m, m < 8 ∧ S 35 j = nI m
def haM (S : St) (mn : Int32) : Int32 := b01 (decide (0 ≤ mn ∧ mn < S 53 0))
def cgv (sk day wt op : Int32) : Bool := decide (¬ sk = (-1) ∧ sk - wt ≤ day ∧ day - (op - nI 1) ≤ sk - nI 1)
def gvB (sk mm md : Nat → Int32) (mn : Nat) (wt op : Int32) (j : Nat) : Bool := decide (mm (j + 1) = nI mn ∧ ¬ mm j = nI mn) && (f_in (sk mn - md (j + 1)) (nI 1) wt != 0) && cgv (sk (mm j).toNatClampNeg) (md (j + 1)) wt op
def gvF (sk mm md : Nat → Int32) (mn : Nat) (wt op : Int32) : Nat → Int32
  | 0 => nI 0
  | j + 1 => if gvB sk mm md mn wt op j then gvF sk mm md mn wt op j ||| (nI 1 <<< (mm j &&& 31)) else gvF sk mm md mn wt op j
theorem gvF_y {sk mm md : Nat → Int32} {mn : Nat} {wt op : Int32} {j : Nat} (h : gvB sk mm md mn wt op j = true) : gvF sk mm md mn wt op (j + 1) = gvF sk mm md mn wt op j ||| (nI 1 <<< (mm j &&& 31)) := if_pos h
theorem gvF_n {sk mm md : Nat → Int32} {mn : Nat} {wt op : Int32} {j : Nat} (h : gvB sk mm md mn wt op j = false) : gvF sk mm md mn wt op (j + 1) = gvF sk mm md mn wt op j := if_neg (by rw [h]; decide)
def gvs (S : St) (mn : Nat) (wt op : Int32) : Int32 := if S 34 mn = (-1) then nI 0 else gvF (S 34) (S 35) (S 36) mn wt op (metN S - 1)
def sckF (S : St) : Int32 := orB (fun j => S 34 j != (-1)) (menN S)
def gvRow (S : St) (wt op : Int32) : Nat → Int32 := fun j => if j < menN S then gvs S j wt op else S 37 j
def fstM (S : St) (wt op : Int32) : Int32 := orB (fun j => hbt (sckF S) j && gvs S j wt op == 0) (menN S)
def traS (S : St) (wt op : Int32) : St := va_up (va_up S 55 (fun _ => fstM S wt op)) 37 (gvRow S wt op)
/-- the first j below n that fits, and one more; 0: none -/
def fstF (h : Nat → Bool) : Nat → Nat
  | 0 => 0
  | n + 1 => if fstF h n = 0 then (if h n then n + 1 else 0) else fstF h n
theorem fstF_stay {h : Nat → Bool} {n : Nat} (hn : ¬ fstF h n = 0) : ∀ m, n ≤ m → fstF h m = fstF h n
  | 0, hm => by rw [Nat.le_zero.mp hm]
  | m + 1, hm => by
    rcases Nat.lt_or_ge m n with h1 | h1
    · rw [show m + 1 = n by omega]
    · have e := fstF_stay hn m h1
      show (if fstF h m = 0 then _ else fstF h m) = _
      rw [if_neg (by rw [e]; exact hn), e]
theorem fstF_hit {h : Nat → Bool} {n : Nat} (h0 : fstF h n = 0) (hh : h n = true) : fstF h (n + 1) = n + 1 := by
  show (if fstF h n = 0 then _ else _) = _
  rw [if_pos h0, if_pos hh]
theorem fstF_go {h : Nat → Bool} {n : Nat} (h0 : fstF h n = 0) (hh : h n = false) : fstF h (n + 1) = 0 := by
  show (if fstF h n = 0 then _ else _) = _
  rw [if_pos h0, if_neg (by rw [hh]; decide)]
def nxtB (gv : Nat → Int32) (n : Nat) (x : Int32) : Int32 := orB (fun j => gv j &&& x != 0) n
def rchF (gv : Nat → Int32) (n : Nat) (fm al : Int32) : Nat → Int32
  | 0 => fm &&& al
  | i + 1 => rchF gv n fm al i ||| (nxtB gv n (rchF gv n fm al i) &&& al)
def spF (gv : Nat → Int32) (n : Nat) (fm : Int32) (mn : Nat) (al : Int32) : Nat := fstF (fun i => hbt (rchF gv n fm al i) mn) n
def oapF (S : St) (mn : Nat) : Int32 := if spF (S 37) (menN S) (S 55 0) mn (sckF S) = 0 then nI 0 else orB (fun j => spF (S 37) (menN S) (S 55 0) mn (sckF S &&& ((nI 1 <<< (nI j &&& 31)) ^^^ (-1))) == 0) (menN S)
theorem fstF_le (h : Nat → Bool) : ∀ n, fstF h n ≤ n
  | 0 => Nat.le_refl _
  | n + 1 => by
    have := fstF_le h n
    show (if fstF h n = 0 then _ else fstF h n) ≤ n + 1
    split
    · split <;> omega
    · omega
/-! ===== ages: pure words ===== -/
def anyB (p : Nat → Bool) : Nat → Bool
  | 0 => false
  | n + 1 => anyB p n || p n
theorem anyB_yes {p : Nat → Bool} {n : Nat} (hp : p n = true) : ∀ {m : Nat}, n < m → anyB p m = true
  | 0, h => absurd h (Nat.not_lt_zero _)
  | m + 1, h => by
    simp only [anyB, Bool.or_eq_true]
    rcases Nat.lt_or_ge n m with h1 | h1
    · exact Or.inl (anyB_yes hp h1)
    · exact Or.inr (by rw [show m = n by omega]; exact hp)
theorem anyB_le {p : Nat → Bool} {n : Nat} : ∀ {m : Nat}, n ≤ m → anyB p m = false → anyB p n = false
  | 0, h, q => by rw [Nat.le_zero.mp h]; exact q
  | m + 1, h, q => by
    rcases Nat.lt_or_ge m n with h1 | h1
    · rw [show n = m + 1 by omega]; exact q
    · simp only [anyB, Bool.or_eq_false_iff] at q
      exact anyB_le h1 q.1
theorem bA0 {a b : Bool} (h : a = false) : (a && b) = false := by rw [h]; rfl
theorem bA1 {a b : Bool} (h : b = false) : (a && b) = false := by rw [h]; cases a <;> rfl
theorem bAt {a b : Bool} (h : a = true) (h2 : b = true) : (a && b) = true := by rw [h, h2]; rfl
theorem beqF {a b : Int32} (h : ¬ a = b) : (a == b) = false := by simp [h]
theorem beqT {a b : Int32} (h : a = b) : (a == b) = true := by simp [h]
theorem bneF {a b : Int32} (h : a = b) : (a != b) = false := by simp [h]
theorem bneT {a b : Int32} (h : ¬ a = b) : (a != b) = true := by simp [h]
theorem beqFn {a b : Nat} (h : ¬ a = b) : (a == b) = false := by simp [h]
theorem beqTn {a b : Nat} (h : a = b) : (a == b) = true := by simp [h]
def cntB (p : Nat → Bool) : Nat → Nat
  | 0 => 0
  | n + 1 => if p n then cntB p n + 1 else cntB p n
def lstB (p : Nat → Bool) : Nat → Nat
  | 0 => 0
  | n + 1 => if p n then n else lstB p n
def frsB (p : Nat → Bool) : Nat → Nat
  | 0 => 0
  | n + 1 => if p n && cntB p n == 0 then n else frsB p n
theorem cntB_le (p : Nat → Bool) : ∀ n, cntB p n ≤ n
  | 0 => Nat.le_refl _
  | n + 1 => by
    have := cntB_le p n
    unfold cntB
    split <;> omega
/-- FIRST and SPREAD as spans, NOW: small numbers -/
def okG (S : St) : Prop := ∃ a b w : Nat, S 13 1 = nI a ∧ S 14 1 = nI b ∧ S 12 1 = nI w ∧ a ≤ 99 ∧ b ≤ 99 ∧ w ≤ 99
def clN (x : Int32) : Nat := x.toNatClampNeg
def reB (f0 f1 wd yr : Int32) (a b : Nat) : Bool := anyB (fun i => f_in (wd - nI (a + i) * yr) f0 f1 != 0) (b + 1 - a)
def reS (S : St) (wd : Int32) (y : Nat) : Bool := reB (S 13 0) (S 14 0) wd (nI (clN (S 12 1)) - nI y) (clN (S 13 1)) (clN (S 14 1))
def meaS (S : St) (wd : Int32) : St := va_up (va_up (va_up S 48 (fun _ => nI (frsB (reS S wd) (clN (S 12 1) + 1)))) 49 (fun _ => nI (lstB (reS S wd) (clN (S 12 1) + 1)))) 50 (fun _ => nI (cntB (reS S wd) (clN (S 12 1) + 1)))
theorem okG.cl {S : St} (h : okG S) : S 13 1 = nI (clN (S 13 1)) ∧ S 14 1 = nI (clN (S 14 1)) ∧ S 12 1 = nI (clN (S 12 1)) ∧ clN (S 13 1) ≤ 99 ∧ clN (S 14 1) ≤ 99 ∧ clN (S 12 1) ≤ 99 := by
  obtain ⟨a, b, w, h1, h2, h3, h4, h5, h6⟩ := h
  have e1 : clN (S 13 1) = a := by unfold clN; rw [h1]; exact nI_clamp (by omega)
  have e2 : clN (S 14 1) = b := by unfold clN; rw [h2]; exact nI_clamp (by omega)
  have e3 : clN (S 12 1) = w := by unfold clN; rw [h3]; exact nI_clamp (by omega)
  rw [e1, e2, e3]
  exact ⟨h1, h2, h3, h4, h5, h6⟩
set_option maxHeartbeats 4000000 in
set_option maxRecDepth 20000 in
theorem c_X4_hasMan (l : Launch) (D : va_G) (k : Nat → ClassId) (q z : Nat → Nat) (g : Nat → Option Nat) (S : St) (X : va_W) (mn : Int32) : CI l D k yX4_hasMan cX4_hasMan 2 (some .boolean) 0 0 0 [.ref (q 33), .int mn] (wC k q z g S X) (fun r w' => w' = wC k q z g S X ∧ r = haM S mn) := by
  refine CI.mk (by decide) (Nat.le_of_ble_eq_true rfl) ?_
  intro p e R s m args below meth c A Q ls F hret hw hl
  have hx := xs_hx F
  have hb := xs_hb F
  have hl : lv_has ls 2 [(0, .ref (q 33)), (1, .int mn)] := hl
  refine lv_iload_n hx hb dX4_hasMan_0 rfl (lv_at hl 1 rfl) ?_
  refine lv_if_lt (tgt := 16) hx hb dX4_hasMan_1 rfl (fun c1 => ?_) (fun c1 => ?_)
  · refine lv_iconst (v := nI 0) hx hb dX4_hasMan_16 rfl ?_
    exact hret _ _ _ _ _ _ dX4_hasMan_17 hw rfl ⟨rfl, by unfold haM; first | (rw [show decide (0 ≤ mn ∧ mn < S 53 0) = false from decide_eq_false (fun q => absurd q.2 (Int32.not_lt.mpr c9))]; rfl) | (rw [show decide (0 ≤ mn ∧ mn < S 53 0) = false from decide_eq_false (fun q => absurd q.1 (Int32.not_le.mpr c1))]; rfl) | (rw [show decide (0 ≤ mn ∧ mn < S 53 0) = true from decide_eq_true ⟨Int32.not_lt.mp c1, Int32.not_le.mp c9⟩]; rfl)⟩
  · refine lv_iload_n hx hb dX4_hasMan_4 rfl (lv_at hl 1 rfl) ?_
    refine lv_aload_n hx hb dX4_hasMan_5 rfl (lv_at hl 0 rfl) ?_
    refine x_geti fiC_53 F hw fo_X4_24 dX4_hasMan_6 ?_
    refine lv_icmp_ge (tgt := 16) hx hb dX4_hasMan_9 rfl (fun c9 => ?_) (fun c9 => ?_)
    · refine lv_iconst (v := nI 0) hx hb dX4_hasMan_16 rfl ?_
      exact hret _ _ _ _ _ _ dX4_hasMan_17 hw rfl ⟨rfl, by unfold haM; first | (rw [show decide (0 ≤ mn ∧ mn < S 53 0) = false from decide_eq_false (fun q => absurd q.2 (Int32.not_lt.mpr c9))]; rfl) | (rw [show decide (0 ≤ mn ∧ mn < S 53 0) = false from decide_eq_false (fun q => absurd q.1 (Int32.not_le.mpr c1))]; rfl) | (rw [show decide (0 ≤ mn ∧ mn < S 53 0) = true from decide_eq_true ⟨Int32.not_lt.mp c1, Int32.not_le.mp c9⟩]; rfl)⟩
    · refine lv_iconst (v := nI 1) hx hb dX4_hasMan_12 rfl ?_
      refine lv_goto (tgt := 17) hx hb dX4_hasMan_13 rfl ?_
      exact hret _ _ _ _ _ _ dX4_hasMan_17 hw rfl ⟨rfl, by unfold haM; first | (rw [show decide (0 ≤ mn ∧ mn < S 53 0) = false from decide_eq_false (fun q => absurd q.2 (Int32.not_lt.mpr c9))]; rfl) | (rw [show decide (0 ≤ mn ∧ mn < S 53 0) = false from decide_eq_false (fun q => absurd q.1 (Int32.not_le.mpr c1))]; rfl) | (rw [show decide (0 ≤ mn ∧ mn < S 53 0) = true from decide_eq_true ⟨Int32.not_lt.mp c1, Int32.not_le.mp c9⟩]; rfl)⟩
set_option maxHeartbeats 4000000 in
set_option maxRecDepth 20000 in
theorem c_X4_lastDay (l : Launch) (D : va_G) (k : Nat → ClassId) (q z : Nat → Nat) (g : Nat → Option Nat) (S : St) (X : va_W) (hN : okN S) : CI l D k yX4_lastDay cX4_lastDay 1 (some .int) 0 0 0 [.ref (q 33)] (wC k q z g S X) (fun r w' => w' = wC k q z g S X ∧ r = (if metN S = 0 then nI 0 else S 36 (metN S - 1))) := by
  refine CI.mk (by decide) (Nat.le_of_ble_eq_true rfl) ?_
  intro p e R s m args below meth c A Q ls F hret hw hl
  have hx := xs_hx F
  have hb := xs_hb F
  have hl : lv_has ls 1 [(0, .ref (q 33))] := hl
  have h8 := hN.1.2
  have h16 := hN.2.1.2
  refine lv_aload_n hx hb dX4_lastDay_0 rfl (lv_at hl 0 rfl) ?_
  refine x_geti fiC_54 F hw fo_X4_28 dX4_lastDay_1 ?_
  refine x_top (y := nI (metN S)) hN.2.1.1 ?_
  refine x_if_ne (metN S) F (by omega) (tgt := 11) dX4_lastDay_4 rfl (fun c4 => ?_) (fun c4 => ?_)
  · refine lv_aload_n hx hb dX4_lastDay_11 rfl (lv_at hl 0 rfl) ?_
    refine x_getr frC_33_5 F hw fo_X4_18 dX4_lastDay_12 ?_
    refine lv_aload_n hx hb dX4_lastDay_15 rfl (lv_at hl 0 rfl) ?_
    refine x_geti fiC_54 F hw fo_X4_28 dX4_lastDay_16 ?_
    refine x_top (y := nI (metN S)) hN.2.1.1 ?_
    refine lv_iconst (v := nI 1) hx hb dX4_lastDay_19 rfl ?_
    refine lv_isub hx hb dX4_lastDay_20 ?_
    refine x_top (y := nI (metN S - 1)) (pk_sub (by omega)) ?_
    refine x_iald aiC_36 F hw (metN S - 1) rfl (by omega) dX4_lastDay_21 ?_
    exact hret _ _ _ _ _ _ dX4_lastDay_22 hw rfl ⟨rfl, by simp [c4]⟩
  · refine lv_iconst (v := nI 0) hx hb dX4_lastDay_7 rfl ?_
    refine lv_goto (tgt := 22) hx hb dX4_lastDay_8 rfl ?_
    exact hret _ _ _ _ _ _ dX4_lastDay_22 hw rfl ⟨rfl, by simp [c4]⟩
set_option maxHeartbeats 4000000 in
set_option maxRecDepth 20000 in
theorem c_X4_addMeeting (l : Launch) (D : va_G) (k : Nat → ClassId) (q z : Nat → Nat) (g : Nat → Option Nat) (S : St) (X : va_W) (mn : Int32) (dy : Int32) (hN : S 54 0 = nI (metN S)) (h15 : metN S < 16) : CI l D k yX4_addMeeting cX4_addMeeting 4 (some .int) 0 0 0 [.ref (q 33), .int mn, .int dy] (wC k q z g S X) (fun r w' => w' = wC k q z g (va_up (va_up (va_up S 35 (upd (S 35) (metN S) mn)) 36 (upd (S 36) (metN S) dy)) 54 (fun _ => nI (metN S + 1))) X ∧ r = nI (metN S)) := by
  refine CI.mk (by decide) (Nat.le_of_ble_eq_true rfl) ?_
  intro p e R s m args below meth c A Q ls F hret hw hl
  have hx := xs_hx F
  have hb := xs_hb F
  have hl : lv_has ls 4 [(0, .ref (q 33)), (1, .int mn), (2, .int dy)] := hl
  refine lv_aload_n hx hb dX4_addMeeting_0 rfl (lv_at hl 0 rfl) ?_
  refine x_geti fiC_54 F hw fo_X4_28 dX4_addMeeting_1 ?_
  refine x_top (y := nI (metN S)) hN ?_
  refine lv_istore_n (lv' := [(3, .int (nI (metN S))), (0, .ref (q 33)), (1, .int mn), (2, .int dy)]) hx hb dX4_addMeeting_4 rfl hl (Nat.le_of_ble_eq_true rfl) rfl (fun ls hl => ?_)
  refine lv_aload_n hx hb dX4_addMeeting_5 rfl (lv_at hl 1 rfl) ?_
  refine x_getr frC_33_4 F hw fo_X4_15 dX4_addMeeting_6 ?_
  refine lv_iload_n hx hb dX4_addMeeting_9 rfl (lv_at hl 0 rfl) ?_
  refine lv_iload_n hx hb dX4_addMeeting_10 rfl (lv_at hl 2 rfl) ?_
  refine x_iast aiC_35 F hw (metN S) rfl (by omega) dX4_addMeeting_11 (fun H locs hw => ?_)
  refine lv_aload_n hx hb dX4_addMeeting_12 rfl (lv_at hl 1 rfl) ?_
  refine x_getr frC_33_5 F hw fo_X4_18 dX4_addMeeting_13 ?_
  refine lv_iload_n hx hb dX4_addMeeting_16 rfl (lv_at hl 0 rfl) ?_
  refine lv_iload_n hx hb dX4_addMeeting_17 rfl (lv_at hl 3 rfl) ?_
  refine x_iast aiC_36 F hw (metN S) rfl (by omega) dX4_addMeeting_18 (fun H locs hw => ?_)
  refine lv_aload_n hx hb dX4_addMeeting_19 rfl (lv_at hl 1 rfl) ?_
  refine lv_dup hx hb dX4_addMeeting_20 rfl ?_
  refine x_geti fiC_54 F hw fo_X4_28 dX4_addMeeting_21 ?_
  refine x_top (y := S 54 0) rfl ?_
  refine x_top (y := nI (metN S)) hN ?_
  refine lv_iconst (v := nI 1) hx hb dX4_addMeeting_24 rfl ?_
  refine lv_iadd hx hb dX4_addMeeting_25 ?_
  refine x_top (y := nI ((metN S) + 1)) (nI_add _ _) ?_
  refine x_puti fiC_54 F hw fo_X4_28 rfl rfl dX4_addMeeting_26 (fun H locs hw => ?_)
  refine lv_iload_n hx hb dX4_addMeeting_29 rfl (lv_at hl 0 rfl) ?_
  exact hret _ _ _ _ _ _ dX4_addMeeting_30 hw rfl ⟨rfl, rfl⟩
set_option maxHeartbeats 4000000 in
set_option maxRecDepth 20000 in
theorem c_X4_sickMen (l : Launch) (D : va_G) (k : Nat → ClassId) (q z : Nat → Nat) (g : Nat → Option Nat) (S : St) (X : va_W) (hN : okN S) : CI l D k yX4_sickMen cX4_sickMen 3 (some .int) 0 0 0 [.ref (q 33)] (wC k q z g S X) (fun r w' => w' = wC k q z g S X ∧ r = sckF S) := by
  refine CI.mk (by decide) (Nat.le_of_ble_eq_true rfl) ?_
  intro p e R s m args below meth c A Q ls F hret hw hl
  have hx := xs_hx F
  have hb := xs_hb F
  have hl : lv_has ls 3 [(0, .ref (q 33))] := hl
  have h8 := hN.1.2
  have h16 := hN.2.1.2
  refine lv_iconst (v := nI 0) hx hb dX4_sickMen_0 rfl ?_
  refine lv_istore_n (lv' := [(1, .int (nI 0)), (0, .ref (q 33))]) hx hb dX4_sickMen_1 rfl hl (Nat.le_of_ble_eq_true rfl) rfl (fun ls hl => ?_)
  refine lv_iconst (v := nI 0) hx hb dX4_sickMen_2 rfl ?_
  refine lv_istore_n (lv' := [(2, .int (nI 0)), (1, .int (nI 0)), (0, .ref (q 33))]) hx hb dX4_sickMen_3 rfl hl (Nat.le_of_ble_eq_true rfl) rfl (fun ls hl => ?_)
  have K4 : ∀ (n4_ : Nat) (i : Nat) (x : Int32) (H : Heap) (locs : List Loc) (ls : Array Slot), menN S - i < n4_ → (i ≤ menN S) → (x = orB (fun j => S 34 j != (-1)) i) → Wd D A s.heap H locs (wC k q z g S X) → lv_has ls 3 [(0, .ref (q 33)), (1, .int x), (2, .int (nI i))] → W p l e R s m args below meth c H locs 0 0 Q (F0 m 4 ls []) := by
    intro n4_
    induction n4_ with
    | zero =>
      intro i x H locs ls hn4_
      exact absurd hn4_ (Nat.not_lt_zero _)
    | succ n4_ ih4_ =>
      intro i x H locs ls hn4_ hi h1 hw hl
      refine lv_iload_n hx hb dX4_sickMen_4 rfl (lv_at hl 2 rfl) ?_
      refine lv_aload_n hx hb dX4_sickMen_5 rfl (lv_at hl 0 rfl) ?_
      refine x_geti fiC_53 F hw fo_X4_24 dX4_sickMen_6 ?_
      refine x_top (y := nI (menN S)) hN.1.1 ?_
      refine x_icmp_ge i (menN S) F (by omega) (by omega) (tgt := 34) dX4_sickMen_9 rfl (fun c9 => ?_) (fun c9 => ?_)
      · refine lv_iload_n hx hb dX4_sickMen_34 rfl (lv_at hl 1 rfl) ?_
        exact hret _ _ _ _ _ _ dX4_sickMen_35 hw rfl ⟨rfl, by rw [h1, show i = menN S by omega]; rfl⟩
      · refine lv_aload_n hx hb dX4_sickMen_12 rfl (lv_at hl 0 rfl) ?_
        refine x_getr frC_33_3 F hw fo_X4_9 dX4_sickMen_13 ?_
        refine lv_iload_n hx hb dX4_sickMen_16 rfl (lv_at hl 2 rfl) ?_
        refine x_iald aiC_34 F hw i rfl (by omega) dX4_sickMen_17 ?_
        refine lv_iconst (v := (-1)) hx hb dX4_sickMen_18 rfl ?_
        refine lv_icmp_eq (tgt := 28) hx hb dX4_sickMen_19 rfl (fun c19 => ?_) (fun c19 => ?_)
        · refine lv_iinc (v := nI (i + 1)) (lv' := [(2, .int (nI (i + 1))), (0, .ref (q 33)), (1, .int x)]) hx hb dX4_sickMen_28 hl (k := 2) rfl (nI_1 _) (Nat.le_of_ble_eq_true rfl) rfl (fun ls hl => ?_)
          refine lv_goto (tgt := 4) hx hb dX4_sickMen_31 rfl ?_
          exact ih4_ (i + 1) x _ _ _ (by first | omega | (simp only [] at *; omega)) (by first | assumption | omega | rfl) (by simp [orB, h1, c19]) hw (lv_sub hl [1, 2, 0] rfl)
        · refine lv_iload_n hx hb dX4_sickMen_22 rfl (lv_at hl 1 rfl) ?_
          refine lv_iconst (v := nI 1) hx hb dX4_sickMen_23 rfl ?_
          refine lv_iload_n hx hb dX4_sickMen_24 rfl (lv_at hl 2 rfl) ?_
          refine lv_ishl hx hb dX4_sickMen_25 ?_
          refine lv_ior hx hb dX4_sickMen_26 ?_
          refine lv_istore_n (lv' := [(1, .int (x ||| ((nI 1) <<< ((nI i) &&& 31)))), (0, .ref (q 33)), (2, .int (nI i))]) hx hb dX4_sickMen_27 rfl hl (Nat.le_of_ble_eq_true rfl) rfl (fun ls hl => ?_)
          refine lv_iinc (v := nI (i + 1)) (lv' := [(2, .int (nI (i + 1))), (1, .int (x ||| ((nI 1) <<< ((nI i) &&& 31)))), (0, .ref (q 33))]) hx hb dX4_sickMen_28 hl (k := 2) rfl (nI_1 _) (Nat.le_of_ble_eq_true rfl) rfl (fun ls hl => ?_)
          refine lv_goto (tgt := 4) hx hb dX4_sickMen_31 rfl ?_
          exact ih4_ (i + 1) (x ||| ((nI 1) <<< ((nI i) &&& 31))) _ _ _ (by first | omega | (simp only [] at *; omega)) (by first | assumption | omega | rfl) (by simp [orB, h1, c19]) hw (lv_sub hl [2, 1, 0] rfl)
  exact K4 _ 0 (nI 0) _ _ _ (Nat.lt_succ_self _) (by first | assumption | omega | rfl) (by rfl) hw (lv_sub hl [2, 1, 0] rfl)
set_option maxHeartbeats 4000000 in
set_option maxRecDepth 20000 in
theorem c_X4_couldGive (l : Launch) (D : va_G) (k : Nat → ClassId) (q z : Nat → Nat) (g : Nat → Option Nat) (S : St) (X : va_W) (gr : Nat) (dy : Int32) (wt : Int32) (op : Int32) (hg : gr < 8) : CI l D k yX4_couldGive cX4_couldGive 6 (some .boolean) 0 0 0 [.ref (q 33), .int (nI gr), .int dy, .int wt, .int op] (wC k q z g S X) (fun r w' => w' = wC k q z g S X ∧ r = b01 (cgv (S 34 gr) dy wt op)) := by
  refine CI.mk (by decide) (Nat.le_of_ble_eq_true rfl) ?_
  intro p e R s m args below meth c A Q ls F hret hw hl
  have hx := xs_hx F
  have hb := xs_hb F
  have hl : lv_has ls 6 [(0, .ref (q 33)), (1, .int (nI gr)), (2, .int dy), (3, .int wt), (4, .int op)] := hl
  refine lv_aload_n hx hb dX4_couldGive_0 rfl (lv_at hl 0 rfl) ?_
  refine x_getr frC_33_3 F hw fo_X4_9 dX4_couldGive_1 ?_
  refine lv_iload_n hx hb dX4_couldGive_4 rfl (lv_at hl 1 rfl) ?_
  refine x_iald aiC_34 F hw gr rfl (by omega) dX4_couldGive_5 ?_
  refine lv_istore (lv' := [(5, .int (S 34 gr)), (0, .ref (q 33)), (1, .int (nI gr)), (2, .int dy), (3, .int wt), (4, .int op)]) hx hb dX4_couldGive_6 hl (Nat.le_of_ble_eq_true rfl) rfl (fun ls hl => ?_)
  refine lv_iload hx hb dX4_couldGive_8 (lv_at hl 0 rfl) ?_
  refine lv_iconst (v := (-1)) hx hb dX4_couldGive_10 rfl ?_
  refine lv_icmp_eq (tgt := 39) hx hb dX4_couldGive_11 rfl (fun c11 => ?_) (fun c11 => ?_)
  · refine lv_iconst (v := nI 0) hx hb dX4_couldGive_39 rfl ?_
    exact hret _ _ _ _ _ _ dX4_couldGive_40 hw rfl ⟨rfl, by unfold cgv; first | (rw [decide_eq_true ⟨c11, Int32.not_lt.mp c19, Int32.not_lt.mp c32⟩]; rfl) | (rw [decide_eq_false (fun q => absurd c32 (Int32.not_lt.mpr q.2.2))]; rfl) | (rw [decide_eq_false (fun q => absurd c19 (Int32.not_lt.mpr q.2.1))]; rfl) | (rw [decide_eq_false (fun q => q.1 c11)]; rfl)⟩
  · refine lv_iload hx hb dX4_couldGive_14 (lv_at hl 0 rfl) ?_
    refine lv_iload_n hx hb dX4_couldGive_16 rfl (lv_at hl 4 rfl) ?_
    refine lv_isub hx hb dX4_couldGive_17 ?_
    refine lv_iload_n hx hb dX4_couldGive_18 rfl (lv_at hl 3 rfl) ?_
    refine lv_icmp_gt (tgt := 39) hx hb dX4_couldGive_19 rfl (fun c19 => ?_) (fun c19 => ?_)
    · refine lv_iconst (v := nI 0) hx hb dX4_couldGive_39 rfl ?_
      exact hret _ _ _ _ _ _ dX4_couldGive_40 hw rfl ⟨rfl, by unfold cgv; first | (rw [decide_eq_true ⟨c11, Int32.not_lt.mp c19, Int32.not_lt.mp c32⟩]; rfl) | (rw [decide_eq_false (fun q => absurd c32 (Int32.not_lt.mpr q.2.2))]; rfl) | (rw [decide_eq_false (fun q => absurd c19 (Int32.not_lt.mpr q.2.1))]; rfl) | (rw [decide_eq_false (fun q => q.1 c11)]; rfl)⟩
    · refine lv_iload_n hx hb dX4_couldGive_22 rfl (lv_at hl 3 rfl) ?_
      refine lv_iload hx hb dX4_couldGive_23 (lv_at hl 5 rfl) ?_
      refine lv_iconst (v := nI 1) hx hb dX4_couldGive_25 rfl ?_
      refine lv_isub hx hb dX4_couldGive_26 ?_
      refine lv_isub hx hb dX4_couldGive_27 ?_
      refine lv_iload hx hb dX4_couldGive_28 (lv_at hl 0 rfl) ?_
      refine lv_iconst (v := nI 1) hx hb dX4_couldGive_30 rfl ?_
      refine lv_isub hx hb dX4_couldGive_31 ?_
      refine lv_icmp_gt (tgt := 39) hx hb dX4_couldGive_32 rfl (fun c32 => ?_) (fun c32 => ?_)
      · refine lv_iconst (v := nI 0) hx hb dX4_couldGive_39 rfl ?_
        exact hret _ _ _ _ _ _ dX4_couldGive_40 hw rfl ⟨rfl, by unfold cgv; first | (rw [decide_eq_true ⟨c11, Int32.not_lt.mp c19, Int32.not_lt.mp c32⟩]; rfl) | (rw [decide_eq_false (fun q => absurd c32 (Int32.not_lt.mpr q.2.2))]; rfl) | (rw [decide_eq_false (fun q => absurd c19 (Int32.not_lt.mpr q.2.1))]; rfl) | (rw [decide_eq_false (fun q => q.1 c11)]; rfl)⟩
      · refine lv_iconst (v := nI 1) hx hb dX4_couldGive_35 rfl ?_
        refine lv_goto (tgt := 40) hx hb dX4_couldGive_36 rfl ?_
        exact hret _ _ _ _ _ _ dX4_couldGive_40 hw rfl ⟨rfl, by unfold cgv; first | (rw [decide_eq_true ⟨c11, Int32.not_lt.mp c19, Int32.not_lt.mp c32⟩]; rfl) | (rw [decide_eq_false (fun q => absurd c32 (Int32.not_lt.mpr q.2.2))]; rfl) | (rw [decide_eq_false (fun q => absurd c19 (Int32.not_lt.mpr q.2.1))]; rfl) | (rw [decide_eq_false (fun q => q.1 c11)]; rfl)⟩
set_option maxHeartbeats 4000000 in
set_option maxRecDepth 20000 in
theorem c_X4_giversOf (l : Launch) (D : va_G) (k : Nat → ClassId) (q z : Nat → Nat) (g : Nat → Option Nat) (S : St) (X : va_W) (mn : Nat) (wt : Int32) (op : Int32) (hN : okN S) (hm : mn < 8) : CI l D k yX4_giversOf cX4_giversOf 9 (some .int) 1 0 0 [.ref (q 33), .int (nI mn), .int wt, .int op] (wC k q z g S X) (fun r w' => w' = wC k q z g S X ∧ r = gvs S mn wt op) := by
  refine CI.mk (by decide) (Nat.le_of_ble_eq_true rfl) ?_
  intro p e R s m args below meth c A Q ls F hret hw hl
  have hx := xs_hx F
  have hb := xs_hb F
  have hl : lv_has ls 9 [(0, .ref (q 33)), (1, .int (nI mn)), (2, .int wt), (3, .int op)] := hl
  have h8 := hN.1.2
  have h16 := hN.2.1.2
  refine lv_iconst (v := nI 0) hx hb dX4_giversOf_0 rfl ?_
  refine lv_istore (lv' := [(4, .int (nI 0)), (0, .ref (q 33)), (1, .int (nI mn)), (2, .int wt), (3, .int op)]) hx hb dX4_giversOf_1 hl (Nat.le_of_ble_eq_true rfl) rfl (fun ls hl => ?_)
  refine lv_aload_n hx hb dX4_giversOf_3 rfl (lv_at hl 1 rfl) ?_
  refine x_getr frC_33_3 F hw fo_X4_9 dX4_giversOf_4 ?_
  refine lv_iload_n hx hb dX4_giversOf_7 rfl (lv_at hl 2 rfl) ?_
  refine x_iald aiC_34 F hw mn rfl (by omega) dX4_giversOf_8 ?_
  refine lv_iconst (v := (-1)) hx hb dX4_giversOf_9 rfl ?_
  refine lv_icmp_ne (tgt := 16) hx hb dX4_giversOf_10 rfl (fun c10 => ?_) (fun c10 => ?_)
  · refine lv_iconst (v := nI 1) hx hb dX4_giversOf_16 rfl ?_
    refine lv_istore (lv' := [(5, .int (nI 1)), (4, .int (nI 0)), (0, .ref (q 33)), (1, .int (nI mn)), (2, .int wt), (3, .int op)]) hx hb dX4_giversOf_17 hl (Nat.le_of_ble_eq_true rfl) rfl (fun ls hl => ?_)
    have K19 : ∀ (n19_ : Nat) (i : Nat) (x : Int32) (H : Heap) (locs : List Loc) (ls : Array Slot), metN S - i < n19_ → (i ≤ metN S - 1) → (x = gvF (S 34) (S 35) (S 36) mn wt op i) → Wd D A s.heap H locs (wC k q z g S X) → lv_has ls 9 [(0, .ref (q 33)), (1, .int (nI mn)), (2, .int wt), (3, .int op), (4, .int x), (5, .int (nI (i + 1)))] → W p l e R s m args below meth c H locs 0 0 Q (F0 m 19 ls []) := by
      intro n19_
      induction n19_ with
      | zero =>
        intro i x H locs ls hn19_
        exact absurd hn19_ (Nat.not_lt_zero _)
      | succ n19_ ih19_ =>
        intro i x H locs ls hn19_ hi h1 hw hl
        refine lv_iload hx hb dX4_giversOf_19 (lv_at hl 5 rfl) ?_
        refine lv_aload_n hx hb dX4_giversOf_21 rfl (lv_at hl 0 rfl) ?_
        refine x_geti fiC_54 F hw fo_X4_28 dX4_giversOf_22 ?_
        refine x_top (y := nI (metN S)) hN.2.1.1 ?_
        refine x_icmp_ge (i + 1) (metN S) F (by omega) (by omega) (tgt := 122) dX4_giversOf_25 rfl (fun c25 => ?_) (fun c25 => ?_)
        · refine lv_iload hx hb dX4_giversOf_122 (lv_at hl 4 rfl) ?_
          exact hret _ _ _ _ _ _ dX4_giversOf_124 hw rfl ⟨rfl, by unfold gvs; rw [if_neg c10, h1, show i = metN S - 1 by omega]⟩
        · obtain ⟨gm, hgm, egm⟩ := hN.2.2 i (by omega)
          refine lv_aload_n hx hb dX4_giversOf_28 rfl (lv_at hl 0 rfl) ?_
          refine x_getr frC_33_4 F hw fo_X4_15 dX4_giversOf_29 ?_
          refine lv_iload hx hb dX4_giversOf_32 (lv_at hl 5 rfl) ?_
          refine lv_iconst (v := nI 1) hx hb dX4_giversOf_34 rfl ?_
          refine lv_isub hx hb dX4_giversOf_35 ?_
          refine x_top (y := nI i) (nI_pred _) ?_
          refine x_iald aiC_35 F hw i rfl (by omega) dX4_giversOf_36 ?_
          refine x_top (y := nI gm) egm ?_
          refine lv_istore (lv' := [(6, .int (nI gm)), (0, .ref (q 33)), (1, .int (nI mn)), (2, .int wt), (3, .int op), (4, .int x), (5, .int (nI (i + 1)))]) hx hb dX4_giversOf_37 hl (Nat.le_of_ble_eq_true rfl) rfl (fun ls hl => ?_)
          refine lv_aload_n hx hb dX4_giversOf_39 rfl (lv_at hl 1 rfl) ?_
          refine x_getr frC_33_5 F hw fo_X4_18 dX4_giversOf_40 ?_
          refine lv_iload hx hb dX4_giversOf_43 (lv_at hl 6 rfl) ?_
          refine x_iald aiC_36 F hw (i + 1) rfl (by omega) dX4_giversOf_45 ?_
          refine lv_istore (lv' := [(7, .int (S 36 (i + 1))), (6, .int (nI gm)), (0, .ref (q 33)), (1, .int (nI mn)), (2, .int wt), (3, .int op), (4, .int x), (5, .int (nI (i + 1)))]) hx hb dX4_giversOf_46 hl (Nat.le_of_ble_eq_true rfl) rfl (fun ls hl => ?_)
          refine lv_aload_n hx hb dX4_giversOf_48 rfl (lv_at hl 2 rfl) ?_
          refine x_getr frC_33_4 F hw fo_X4_15 dX4_giversOf_49 ?_
          refine lv_iload hx hb dX4_giversOf_52 (lv_at hl 7 rfl) ?_
          refine x_iald aiC_35 F hw (i + 1) rfl (by omega) dX4_giversOf_54 ?_
          refine lv_iload_n hx hb dX4_giversOf_55 rfl (lv_at hl 3 rfl) ?_
          have K70 : ∀ (t : Bool) (H : Heap) (locs : List Loc) (ls : Array Slot), (t = decide (S 35 (i + 1) = nI mn ∧ ¬ S 35 i = nI mn)) → Wd D A s.heap H locs (wC k q z g S X) → lv_has ls 9 [(0, .ref (q 33)), (1, .int (nI mn)), (2, .int wt), (3, .int op), (4, .int x), (5, .int (nI (i + 1))), (6, .int (nI gm)), (7, .int (S 36 (i + 1)))] → W p l e R s m args below meth c H locs 0 0 Q (F0 m 70 ls [.int (b01 t)]) := by
            intro t H locs ls h70 hw hl
            refine lv_istore (lv' := [(8, .int (b01 t)), (0, .ref (q 33)), (1, .int (nI mn)), (2, .int wt), (3, .int op), (4, .int x), (5, .int (nI (i + 1))), (6, .int (nI gm)), (7, .int (S 36 (i + 1)))]) hx hb dX4_giversOf_70 hl (Nat.le_of_ble_eq_true rfl) rfl (fun ls hl => ?_)
            refine lv_iload hx hb dX4_giversOf_72 (lv_at hl 0 rfl) ?_
            refine lv_if_eq (tgt := 116) hx hb dX4_giversOf_74 rfl (fun c74 => ?_) (fun c74 => ?_)
            · refine lv_iinc (v := nI (i + 1 + 1)) (lv' := [(5, .int (nI (i + 1 + 1))), (8, .int (b01 t)), (0, .ref (q 33)), (1, .int (nI mn)), (2, .int wt), (3, .int op), (4, .int x), (6, .int (nI gm)), (7, .int (S 36 (i + 1)))]) hx hb dX4_giversOf_116 hl (k := 6) rfl (nI_1 _) (Nat.le_of_ble_eq_true rfl) rfl (fun ls hl => ?_)
              refine lv_goto (tgt := 19) hx hb dX4_giversOf_119 rfl ?_
              exact ih19_ (i + 1) x _ _ _ (by first | omega | (simp only [] at *; omega)) (by first | assumption | omega | rfl) (by rw [h1]; first | exact (gvF_n (by unfold gvB; rw [h70.symm.trans (b01_0.mp c74)]; rfl)).symm | exact (gvF_n (by unfold gvB; rw [c91]; simp)).symm | exact (gvF_n (by unfold gvB; rw [egm, nI_clamp (by omega), b01_0.mp c104]; simp)).symm | (rw [gvF_y (by unfold gvB; rw [h70.symm.trans (b01_1.mp c74), bne_iff_ne.mpr c91, egm, nI_clamp (by omega), b01_1.mp c104]; rfl), egm])) hw (lv_sub hl [2, 3, 4, 5, 6, 0] rfl)
            · refine lv_aload_n hx hb dX4_giversOf_77 rfl (lv_at hl 1 rfl) ?_
              refine x_getr frC_33_3 F hw fo_X4_9 dX4_giversOf_78 ?_
              refine lv_iload_n hx hb dX4_giversOf_81 rfl (lv_at hl 2 rfl) ?_
              refine x_iald aiC_34 F hw mn rfl (by omega) dX4_giversOf_82 ?_
              refine lv_iload hx hb dX4_giversOf_83 (lv_at hl 8 rfl) ?_
              refine lv_isub hx hb dX4_giversOf_85 ?_
              refine lv_iconst (v := nI 1) hx hb dX4_giversOf_86 rfl ?_
              refine lv_iload_n hx hb dX4_giversOf_87 rfl (lv_at hl 3 rfl) ?_
              refine x_fSI (rest := []) (c_X6_within l D k (wC k q z g S X) ((S 34 mn) - (S 36 (i + 1))) (nI 1) wt) mo_X4_31 F hw (Nat.le_of_ble_eq_true rfl) (x_cs F (Nat.le_of_ble_eq_true rfl) (Nat.le_of_ble_eq_true rfl)) rfl rfl hl.1 (Nat.le_of_ble_eq_true rfl) dX4_giversOf_88 (fun H locs hw => ?_)
              refine lv_if_eq (tgt := 116) hx hb dX4_giversOf_91 rfl (fun c91 => ?_) (fun c91 => ?_)
              · refine lv_iinc (v := nI (i + 1 + 1)) (lv' := [(5, .int (nI (i + 1 + 1))), (8, .int (b01 t)), (0, .ref (q 33)), (1, .int (nI mn)), (2, .int wt), (3, .int op), (4, .int x), (6, .int (nI gm)), (7, .int (S 36 (i + 1)))]) hx hb dX4_giversOf_116 hl (k := 6) rfl (nI_1 _) (Nat.le_of_ble_eq_true rfl) rfl (fun ls hl => ?_)
                refine lv_goto (tgt := 19) hx hb dX4_giversOf_119 rfl ?_
                exact ih19_ (i + 1) x _ _ _ (by first | omega | (simp only [] at *; omega)) (by first | assumption | omega | rfl) (by rw [h1]; first | exact (gvF_n (by unfold gvB; rw [h70.symm.trans (b01_0.mp c74)]; rfl)).symm | exact (gvF_n (by unfold gvB; rw [c91]; simp)).symm | exact (gvF_n (by unfold gvB; rw [egm, nI_clamp (by omega), b01_0.mp c104]; simp)).symm | (rw [gvF_y (by unfold gvB; rw [h70.symm.trans (b01_1.mp c74), bne_iff_ne.mpr c91, egm, nI_clamp (by omega), b01_1.mp c104]; rfl), egm])) hw (lv_sub hl [2, 3, 4, 5, 6, 0] rfl)
              · refine lv_aload_n hx hb dX4_giversOf_94 rfl (lv_at hl 1 rfl) ?_
                refine lv_iload hx hb dX4_giversOf_95 (lv_at hl 7 rfl) ?_
                refine lv_iload hx hb dX4_giversOf_97 (lv_at hl 8 rfl) ?_
                refine lv_iload_n hx hb dX4_giversOf_99 rfl (lv_at hl 3 rfl) ?_
                refine lv_iload_n hx hb dX4_giversOf_100 rfl (lv_at hl 4 rfl) ?_
                refine x_fVI (rest := []) (c_X4_couldGive l D k q z g S X gm (S 36 (i + 1)) wt op (by first | assumption | omega)) mo_X4_35 obC_33 F hw (Nat.le_of_ble_eq_true rfl) (x_cs F (Nat.le_of_ble_eq_true rfl) (Nat.le_of_ble_eq_true rfl)) rfl rfl hl.1 (Nat.le_of_ble_eq_true rfl) dX4_giversOf_101 (fun H locs hw => ?_)
                refine lv_if_eq (tgt := 116) hx hb dX4_giversOf_104 rfl (fun c104 => ?_) (fun c104 => ?_)
                · refine lv_iinc (v := nI (i + 1 + 1)) (lv' := [(5, .int (nI (i + 1 + 1))), (8, .int (b01 t)), (0, .ref (q 33)), (1, .int (nI mn)), (2, .int wt), (3, .int op), (4, .int x), (6, .int (nI gm)), (7, .int (S 36 (i + 1)))]) hx hb dX4_giversOf_116 hl (k := 6) rfl (nI_1 _) (Nat.le_of_ble_eq_true rfl) rfl (fun ls hl => ?_)
                  refine lv_goto (tgt := 19) hx hb dX4_giversOf_119 rfl ?_
                  exact ih19_ (i + 1) x _ _ _ (by first | omega | (simp only [] at *; omega)) (by first | assumption | omega | rfl) (by rw [h1]; first | exact (gvF_n (by unfold gvB; rw [h70.symm.trans (b01_0.mp c74)]; rfl)).symm | exact (gvF_n (by unfold gvB; rw [c91]; simp)).symm | exact (gvF_n (by unfold gvB; rw [egm, nI_clamp (by omega), b01_0.mp c104]; simp)).symm | (rw [gvF_y (by unfold gvB; rw [h70.symm.trans (b01_1.mp c74), bne_iff_ne.mpr c91, egm, nI_clamp (by omega), b01_1.mp c104]; rfl), egm])) hw (lv_sub hl [2, 3, 4, 5, 6, 0] rfl)
                · refine lv_iload hx hb dX4_giversOf_107 (lv_at hl 5 rfl) ?_
                  refine lv_iconst (v := nI 1) hx hb dX4_giversOf_109 rfl ?_
                  refine lv_iload hx hb dX4_giversOf_110 (lv_at hl 7 rfl) ?_
                  refine lv_ishl hx hb dX4_giversOf_112 ?_
                  refine lv_ior hx hb dX4_giversOf_113 ?_
                  refine lv_istore (lv' := [(4, .int (x ||| ((nI 1) <<< ((nI gm) &&& 31)))), (8, .int (b01 t)), (0, .ref (q 33)), (1, .int (nI mn)), (2, .int wt), (3, .int op), (5, .int (nI (i + 1))), (6, .int (nI gm)), (7, .int (S 36 (i + 1)))]) hx hb dX4_giversOf_114 hl (Nat.le_of_ble_eq_true rfl) rfl (fun ls hl => ?_)
                  refine lv_iinc (v := nI (i + 1 + 1)) (lv' := [(5, .int (nI (i + 1 + 1))), (4, .int (x ||| ((nI 1) <<< ((nI gm) &&& 31)))), (8, .int (b01 t)), (0, .ref (q 33)), (1, .int (nI mn)), (2, .int wt), (3, .int op), (6, .int (nI gm)), (7, .int (S 36 (i + 1)))]) hx hb dX4_giversOf_116 hl (k := 6) rfl (nI_1 _) (Nat.le_of_ble_eq_true rfl) rfl (fun ls hl => ?_)
                  refine lv_goto (tgt := 19) hx hb dX4_giversOf_119 rfl ?_
                  exact ih19_ (i + 1) (x ||| ((nI 1) <<< ((nI gm) &&& 31))) _ _ _ (by first | omega | (simp only [] at *; omega)) (by first | assumption | omega | rfl) (by rw [h1]; first | exact (gvF_n (by unfold gvB; rw [h70.symm.trans (b01_0.mp c74)]; rfl)).symm | exact (gvF_n (by unfold gvB; rw [c91]; simp)).symm | exact (gvF_n (by unfold gvB; rw [egm, nI_clamp (by omega), b01_0.mp c104]; simp)).symm | (rw [gvF_y (by unfold gvB; rw [h70.symm.trans (b01_1.mp c74), bne_iff_ne.mpr c91, egm, nI_clamp (by omega), b01_1.mp c104]; rfl), egm])) hw (lv_sub hl [3, 4, 5, 6, 1, 0] rfl)
          refine lv_icmp_ne (tgt := 69) hx hb dX4_giversOf_56 rfl (fun c56 => ?_) (fun c56 => ?_)
          · refine lv_iconst (v := nI 0) hx hb dX4_giversOf_69 rfl ?_
            exact K70 false _ _ _ (by first | exact (decide_eq_false (fun q => c56 q.1)).symm | exact (decide_eq_false (fun q => q.2 (by rw [egm, c62]))).symm | exact (decide_eq_true ⟨c56, fun q => c62 ((nI_eq (by omega) (by omega)).mp (egm.symm.trans q))⟩).symm) hw (lv_sub hl [2, 3, 4, 5, 6, 7, 1, 0] rfl)
          · refine lv_iload hx hb dX4_giversOf_59 (lv_at hl 1 rfl) ?_
            refine lv_iload_n hx hb dX4_giversOf_61 rfl (lv_at hl 3 rfl) ?_
            refine x_icmp_eq gm mn F (by omega) (by omega) (tgt := 69) dX4_giversOf_62 rfl (fun c62 => ?_) (fun c62 => ?_)
            · refine lv_iconst (v := nI 0) hx hb dX4_giversOf_69 rfl ?_
              exact K70 false _ _ _ (by first | exact (decide_eq_false (fun q => c56 q.1)).symm | exact (decide_eq_false (fun q => q.2 (by rw [egm, c62]))).symm | exact (decide_eq_true ⟨c56, fun q => c62 ((nI_eq (by omega) (by omega)).mp (egm.symm.trans q))⟩).symm) hw (lv_sub hl [2, 3, 4, 5, 6, 7, 1, 0] rfl)
            · refine lv_iconst (v := nI 1) hx hb dX4_giversOf_65 rfl ?_
              refine lv_goto (tgt := 70) hx hb dX4_giversOf_66 rfl ?_
              exact K70 true _ _ _ (by first | exact (decide_eq_false (fun q => c56 q.1)).symm | exact (decide_eq_false (fun q => q.2 (by rw [egm, c62]))).symm | exact (decide_eq_true ⟨c56, fun q => c62 ((nI_eq (by omega) (by omega)).mp (egm.symm.trans q))⟩).symm) hw (lv_sub hl [2, 3, 4, 5, 6, 7, 1, 0] rfl)
    exact K19 _ 0 (nI 0) _ _ _ (Nat.lt_succ_self _) (by first | assumption | omega | rfl) (by rfl) hw (lv_sub hl [2, 3, 4, 5, 1, 0] rfl)
  · refine lv_iload hx hb dX4_giversOf_13 (lv_at hl 0 rfl) ?_
    exact hret _ _ _ _ _ _ dX4_giversOf_15 hw rfl ⟨rfl, by unfold gvs; rw [if_pos c10]⟩
theorem gvs_up {S : St} {x : Int32} {f : Nat → Int32} {mn : Nat} {wt op : Int32} : gvs (va_up (va_up S 55 (fun _ => x)) 37 f) mn wt op = gvs S mn wt op := rfl
theorem okN_up {S : St} {x : Int32} {f : Nat → Int32} (h : okN S) : okN (va_up (va_up S 55 (fun _ => x)) 37 f) := h
theorem upd_lt {f g : Nat → Int32} {i : Nat} {v : Int32} (hv : v = g i) : upd (fun j => if j < i then g j else f j) i v = fun j => if j < i + 1 then g j else f j := by
  funext j
  by_cases hj : j = i
  · rw [hj, pk_us, if_pos (Nat.lt_succ_self i), hv]
  · rw [pk_un hj]
    by_cases hl : j < i
    · rw [if_pos hl, if_pos (by omega)]
    · rw [if_neg hl, if_neg (by omega)]
theorem orB_y {p : Nat → Bool} {n : Nat} (h : p n = true) : orB p (n + 1) = orB p n ||| (nI 1 <<< (nI n &&& 31)) := if_pos h
theorem orB_n {p : Nat → Bool} {n : Nat} (h : p n = false) : orB p (n + 1) = orB p n := if_neg (by rw [h]; decide)
set_option maxHeartbeats 4000000 in
set_option maxRecDepth 20000 in
theorem c_X4_trace (l : Launch) (D : va_G) (k : Nat → ClassId) (q z : Nat → Nat) (g : Nat → Option Nat) (S : St) (X : va_W) (wt : Int32) (op : Int32) (hN : okN S) : CV l D k yX4_trace cX4_trace 5 2 0 0 [.ref (q 33), .int wt, .int op] (wC k q z g S X) (fun w' => w' = wC k q z g (traS S wt op) X) := by
  refine CV.mk (by decide) (Nat.le_of_ble_eq_true rfl) ?_
  intro p e R s m args below meth c A Q ls F hnm hret hw hl
  have hx := xs_hx F
  have hb := xs_hb F
  have hl : lv_has ls 5 [(0, .ref (q 33)), (1, .int wt), (2, .int op)] := hl
  have h8 := hN.1.2
  have h16 := hN.2.1.2
  refine lv_aload_n hx hb dX4_trace_0 rfl (lv_at hl 0 rfl) ?_
  refine lv_iconst (v := nI 0) hx hb dX4_trace_1 rfl ?_
  refine x_puti fiC_55 F hw fo_X4_39 rfl rfl dX4_trace_2 (fun H locs hw => ?_)
  refine lv_aload_n hx hb dX4_trace_5 rfl (lv_at hl 0 rfl) ?_
  refine x_fVI (rest := []) (c_X4_sickMen l D k q z g (va_up S 55 (fun _ => nI 0)) X (by exact hN)) mo_X4_42 obC_33 F hw (Nat.le_of_ble_eq_true rfl) (x_cs F (Nat.le_of_ble_eq_true rfl) (Nat.le_of_ble_eq_true rfl)) rfl rfl hl.1 (Nat.le_of_ble_eq_true rfl) dX4_trace_6 (fun H locs hw => ?_)
  refine x_top (y := sckF S) rfl ?_
  refine lv_istore_n (lv' := [(3, .int (sckF S)), (0, .ref (q 33)), (1, .int wt), (2, .int op)]) hx hb dX4_trace_9 rfl hl (Nat.le_of_ble_eq_true rfl) rfl (fun ls hl => ?_)
  refine lv_iconst (v := nI 0) hx hb dX4_trace_10 rfl ?_
  refine lv_istore (lv' := [(4, .int (nI 0)), (3, .int (sckF S)), (0, .ref (q 33)), (1, .int wt), (2, .int op)]) hx hb dX4_trace_11 hl (Nat.le_of_ble_eq_true rfl) rfl (fun ls hl => ?_)
  have K13 : ∀ (n13_ : Nat) (i : Nat) (x : Int32) (f : Nat → Int32) (H : Heap) (locs : List Loc) (ls : Array Slot), menN S - i < n13_ → (i ≤ menN S) → (x = orB (fun j => hbt (sckF S) j && gvs S j wt op == 0) i) → (f = fun j => if j < i then gvs S j wt op else S 37 j) → Wd D A s.heap H locs (wC k q z g (va_up (va_up S 55 (fun _ => x)) 37 f) X) → lv_has ls 5 [(0, .ref (q 33)), (1, .int wt), (2, .int op), (3, .int (sckF S)), (4, .int (nI i))] → W p l e R s m args below meth c H locs 0 0 Q (F0 m 13 ls []) := by
    intro n13_
    induction n13_ with
    | zero =>
      intro i x f H locs ls hn13_
      exact absurd hn13_ (Nat.not_lt_zero _)
    | succ n13_ ih13_ =>
      intro i x f H locs ls hn13_ hi h1 h2 hw hl
      refine lv_iload hx hb dX4_trace_13 (lv_at hl 4 rfl) ?_
      refine lv_aload_n hx hb dX4_trace_15 rfl (lv_at hl 0 rfl) ?_
      refine x_geti fiC_53 F hw fo_X4_24 dX4_trace_16 ?_
      refine x_top (y := S 53 0) rfl ?_
      refine x_top (y := nI (menN S)) hN.1.1 ?_
      refine x_icmp_ge i (menN S) F (by omega) (by omega) (tgt := 75) dX4_trace_19 rfl (fun c19 => ?_) (fun c19 => ?_)
      · exact hret _ _ _ _ _ dX4_trace_75 hw (by rw [h1, h2, show i = menN S by omega]; rfl)
      · refine lv_aload_n hx hb dX4_trace_22 rfl (lv_at hl 0 rfl) ?_
        refine x_getr frC_33_6 F hw fo_X4_21 dX4_trace_23 ?_
        refine lv_iload hx hb dX4_trace_26 (lv_at hl 4 rfl) ?_
        refine lv_aload_n hx hb dX4_trace_28 rfl (lv_at hl 0 rfl) ?_
        refine lv_iload hx hb dX4_trace_29 (lv_at hl 4 rfl) ?_
        refine lv_iload_n hx hb dX4_trace_31 rfl (lv_at hl 1 rfl) ?_
        refine lv_iload_n hx hb dX4_trace_32 rfl (lv_at hl 2 rfl) ?_
        refine x_fVI (rest := [.int (nI i), .ref (q 37)]) (c_X4_giversOf l D k q z g (va_up (va_up S 55 (fun _ => x)) 37 f) X i wt op (by exact hN) (by first | assumption | omega)) mo_X4_46 obC_33 F hw (Nat.le_of_ble_eq_true rfl) (x_cs F (Nat.le_of_ble_eq_true rfl) (Nat.le_of_ble_eq_true rfl)) rfl rfl hl.1 (Nat.le_of_ble_eq_true rfl) dX4_trace_33 (fun H locs hw => ?_)
        refine x_top (y := gvs S i wt op) rfl ?_
        refine x_iast aiC_37 F hw i rfl (by omega) dX4_trace_36 (fun H locs hw => ?_)
        refine lv_iload_n hx hb dX4_trace_37 rfl (lv_at hl 3 rfl) ?_
        refine lv_iload hx hb dX4_trace_38 (lv_at hl 4 rfl) ?_
        refine x_fSI (rest := []) (c_X6_hasBit l D k (wC k q z g (va_up (va_up (va_up S 55 (fun _ => x)) 37 f) 37 (upd f i (gvs S i wt op))) X) (sckF S) i) mo_X4_50 F hw (Nat.le_of_ble_eq_true rfl) (x_cs F (Nat.le_of_ble_eq_true rfl) (Nat.le_of_ble_eq_true rfl)) rfl rfl hl.1 (Nat.le_of_ble_eq_true rfl) dX4_trace_40 (fun H locs hw => ?_)
        refine lv_if_eq (tgt := 69) hx hb dX4_trace_43 rfl (fun c43 => ?_) (fun c43 => ?_)
        · refine lv_iinc (v := nI (i + 1)) (lv' := [(4, .int (nI (i + 1))), (0, .ref (q 33)), (1, .int wt), (2, .int op), (3, .int (sckF S))]) hx hb dX4_trace_69 hl (k := 4) rfl (nI_1 _) (Nat.le_of_ble_eq_true rfl) rfl (fun ls hl => ?_)
          refine lv_goto (tgt := 13) hx hb dX4_trace_72 rfl ?_
          exact ih13_ (i + 1) x (upd f i (gvs S i wt op)) _ _ _ (by first | omega | (simp only [] at *; omega)) (by first | assumption | omega | rfl) (by rw [h1]; first | exact (orB_n (bA0 (b01_0.mp c43))).symm | exact (orB_n (bA1 (beqF c53))).symm | exact (orB_y (bAt (b01_1.mp c43) (beqT c53))).symm) (by rw [h2]; exact upd_lt rfl) hw (lv_sub hl [1, 2, 3, 4, 0] rfl)
        · refine lv_aload_n hx hb dX4_trace_46 rfl (lv_at hl 0 rfl) ?_
          refine x_getr frC_33_6 F hw fo_X4_21 dX4_trace_47 ?_
          refine lv_iload hx hb dX4_trace_50 (lv_at hl 4 rfl) ?_
          refine x_iald aiC_37 F hw i rfl (by omega) dX4_trace_52 ?_
          refine x_top (y := (upd f i (gvs S i wt op)) i) rfl ?_
          refine x_top (y := gvs S i wt op) pk_us ?_
          refine lv_if_ne (tgt := 69) hx hb dX4_trace_53 rfl (fun c53 => ?_) (fun c53 => ?_)
          · refine lv_iinc (v := nI (i + 1)) (lv' := [(4, .int (nI (i + 1))), (0, .ref (q 33)), (1, .int wt), (2, .int op), (3, .int (sckF S))]) hx hb dX4_trace_69 hl (k := 4) rfl (nI_1 _) (Nat.le_of_ble_eq_true rfl) rfl (fun ls hl => ?_)
            refine lv_goto (tgt := 13) hx hb dX4_trace_72 rfl ?_
            exact ih13_ (i + 1) x (upd f i (gvs S i wt op)) _ _ _ (by first | omega | (simp only [] at *; omega)) (by first | assumption | omega | rfl) (by rw [h1]; first | exact (orB_n (bA0 (b01_0.mp c43))).symm | exact (orB_n (bA1 (beqF c53))).symm | exact (orB_y (bAt (b01_1.mp c43) (beqT c53))).symm) (by rw [h2]; exact upd_lt rfl) hw (lv_sub hl [1, 2, 3, 4, 0] rfl)
          · refine lv_aload_n hx hb dX4_trace_56 rfl (lv_at hl 0 rfl) ?_
            refine lv_dup hx hb dX4_trace_57 rfl ?_
            refine x_geti fiC_55 F hw fo_X4_39 dX4_trace_58 ?_
            refine x_top (y := x) rfl ?_
            refine lv_iconst (v := nI 1) hx hb dX4_trace_61 rfl ?_
            refine lv_iload hx hb dX4_trace_62 (lv_at hl 4 rfl) ?_
            refine lv_ishl hx hb dX4_trace_64 ?_
            refine lv_ior hx hb dX4_trace_65 ?_
            refine x_puti fiC_55 F hw fo_X4_39 rfl rfl dX4_trace_66 (fun H locs hw => ?_)
            refine lv_iinc (v := nI (i + 1)) (lv' := [(4, .int (nI (i + 1))), (0, .ref (q 33)), (1, .int wt), (2, .int op), (3, .int (sckF S))]) hx hb dX4_trace_69 hl (k := 4) rfl (nI_1 _) (Nat.le_of_ble_eq_true rfl) rfl (fun ls hl => ?_)
            refine lv_goto (tgt := 13) hx hb dX4_trace_72 rfl ?_
            exact ih13_ (i + 1) (x ||| ((nI 1) <<< ((nI i) &&& 31))) (upd f i (gvs S i wt op)) _ _ _ (by first | omega | (simp only [] at *; omega)) (by first | assumption | omega | rfl) (by rw [h1]; first | exact (orB_n (bA0 (b01_0.mp c43))).symm | exact (orB_n (bA1 (beqF c53))).symm | exact (orB_y (bAt (b01_1.mp c43) (beqT c53))).symm) (by rw [h2]; exact upd_lt rfl) hw (lv_sub hl [1, 2, 3, 4, 0] rfl)
  exact K13 _ 0 (nI 0) (S 37) _ _ _ (Nat.lt_succ_self _) (by first | assumption | omega | rfl) (by rfl) (by funext j; simp) hw (lv_sub hl [2, 3, 4, 1, 0] rfl)
set_option maxHeartbeats 4000000 in
set_option maxRecDepth 20000 in
theorem c_X4_nextTo (l : Launch) (D : va_G) (k : Nat → ClassId) (q z : Nat → Nat) (g : Nat → Option Nat) (S : St) (X : va_W) (rd : Int32) (hN : okN S) : CI l D k yX4_nextTo cX4_nextTo 4 (some .int) 0 0 0 [.ref (q 33), .int rd] (wC k q z g S X) (fun r w' => w' = wC k q z g S X ∧ r = nxtB (S 37) (menN S) rd) := by
  refine CI.mk (by decide) (Nat.le_of_ble_eq_true rfl) ?_
  intro p e R s m args below meth c A Q ls F hret hw hl
  have hx := xs_hx F
  have hb := xs_hb F
  have hl : lv_has ls 4 [(0, .ref (q 33)), (1, .int rd)] := hl
  have h8 := hN.1.2
  have h16 := hN.2.1.2
  refine lv_iconst (v := nI 0) hx hb dX4_nextTo_0 rfl ?_
  refine lv_istore_n (lv' := [(2, .int (nI 0)), (0, .ref (q 33)), (1, .int rd)]) hx hb dX4_nextTo_1 rfl hl (Nat.le_of_ble_eq_true rfl) rfl (fun ls hl => ?_)
  refine lv_iconst (v := nI 0) hx hb dX4_nextTo_2 rfl ?_
  refine lv_istore_n (lv' := [(3, .int (nI 0)), (2, .int (nI 0)), (0, .ref (q 33)), (1, .int rd)]) hx hb dX4_nextTo_3 rfl hl (Nat.le_of_ble_eq_true rfl) rfl (fun ls hl => ?_)
  have K4 : ∀ (n4_ : Nat) (i : Nat) (x : Int32) (H : Heap) (locs : List Loc) (ls : Array Slot), menN S - i < n4_ → (i ≤ menN S) → (x = orB (fun j => S 37 j &&& rd != 0) i) → Wd D A s.heap H locs (wC k q z g S X) → lv_has ls 4 [(0, .ref (q 33)), (1, .int rd), (2, .int x), (3, .int (nI i))] → W p l e R s m args below meth c H locs 0 0 Q (F0 m 4 ls []) := by
    intro n4_
    induction n4_ with
    | zero =>
      intro i x H locs ls hn4_
      exact absurd hn4_ (Nat.not_lt_zero _)
    | succ n4_ ih4_ =>
      intro i x H locs ls hn4_ hi h1 hw hl
      refine lv_iload_n hx hb dX4_nextTo_4 rfl (lv_at hl 3 rfl) ?_
      refine lv_aload_n hx hb dX4_nextTo_5 rfl (lv_at hl 0 rfl) ?_
      refine x_geti fiC_53 F hw fo_X4_24 dX4_nextTo_6 ?_
      refine x_top (y := nI (menN S)) hN.1.1 ?_
      refine x_icmp_ge i (menN S) F (by omega) (by omega) (tgt := 35) dX4_nextTo_9 rfl (fun c9 => ?_) (fun c9 => ?_)
      · refine lv_iload_n hx hb dX4_nextTo_35 rfl (lv_at hl 2 rfl) ?_
        exact hret _ _ _ _ _ _ dX4_nextTo_36 hw rfl ⟨rfl, by rw [h1, show i = menN S by omega]; rfl⟩
      · refine lv_aload_n hx hb dX4_nextTo_12 rfl (lv_at hl 0 rfl) ?_
        refine x_getr frC_33_6 F hw fo_X4_21 dX4_nextTo_13 ?_
        refine lv_iload_n hx hb dX4_nextTo_16 rfl (lv_at hl 3 rfl) ?_
        refine x_iald aiC_37 F hw i rfl (by omega) dX4_nextTo_17 ?_
        refine lv_iload_n hx hb dX4_nextTo_18 rfl (lv_at hl 1 rfl) ?_
        refine lv_iand hx hb dX4_nextTo_19 ?_
        refine lv_if_eq (tgt := 29) hx hb dX4_nextTo_20 rfl (fun c20 => ?_) (fun c20 => ?_)
        · refine lv_iinc (v := nI (i + 1)) (lv' := [(3, .int (nI (i + 1))), (0, .ref (q 33)), (1, .int rd), (2, .int x)]) hx hb dX4_nextTo_29 hl (k := 3) rfl (nI_1 _) (Nat.le_of_ble_eq_true rfl) rfl (fun ls hl => ?_)
          refine lv_goto (tgt := 4) hx hb dX4_nextTo_32 rfl ?_
          exact ih4_ (i + 1) x _ _ _ (by first | omega | (simp only [] at *; omega)) (by first | assumption | omega | rfl) (by rw [h1]; first | exact (orB_n (bneF c20)).symm | exact (orB_y (bneT c20)).symm) hw (lv_sub hl [1, 2, 3, 0] rfl)
        · refine lv_iload_n hx hb dX4_nextTo_23 rfl (lv_at hl 2 rfl) ?_
          refine lv_iconst (v := nI 1) hx hb dX4_nextTo_24 rfl ?_
          refine lv_iload_n hx hb dX4_nextTo_25 rfl (lv_at hl 3 rfl) ?_
          refine lv_ishl hx hb dX4_nextTo_26 ?_
          refine lv_ior hx hb dX4_nextTo_27 ?_
          refine lv_istore_n (lv' := [(2, .int (x ||| ((nI 1) <<< ((nI i) &&& 31)))), (0, .ref (q 33)), (1, .int rd), (3, .int (nI i))]) hx hb dX4_nextTo_28 rfl hl (Nat.le_of_ble_eq_true rfl) rfl (fun ls hl => ?_)
          refine lv_iinc (v := nI (i + 1)) (lv' := [(3, .int (nI (i + 1))), (2, .int (x ||| ((nI 1) <<< ((nI i) &&& 31)))), (0, .ref (q 33)), (1, .int rd)]) hx hb dX4_nextTo_29 hl (k := 3) rfl (nI_1 _) (Nat.le_of_ble_eq_true rfl) rfl (fun ls hl => ?_)
          refine lv_goto (tgt := 4) hx hb dX4_nextTo_32 rfl ?_
          exact ih4_ (i + 1) (x ||| ((nI 1) <<< ((nI i) &&& 31))) _ _ _ (by first | omega | (simp only [] at *; omega)) (by first | assumption | omega | rfl) (by rw [h1]; first | exact (orB_n (bneF c20)).symm | exact (orB_y (bneT c20)).symm) hw (lv_sub hl [2, 3, 1, 0] rfl)
  exact K4 _ 0 (nI 0) _ _ _ (Nat.lt_succ_self _) (by first | assumption | omega | rfl) (by rfl) hw (lv_sub hl [2, 3, 1, 0] rfl)
set_option maxHeartbeats 4000000 in
set_option maxRecDepth 20000 in
theorem c_X4_shortestPathTo (l : Launch) (D : va_G) (k : Nat → ClassId) (q z : Nat → Nat) (g : Nat → Option Nat) (S : St) (X : va_W) (mn : Nat) (al : Int32) (hN : okN S) : CI l D k yX4_shortestPathTo cX4_shortestPathTo 5 (some .int) 1 0 0 [.ref (q 33), .int (nI mn), .int al] (wC k q z g S X) (fun r w' => w' = wC k q z g S X ∧ r = nI (spF (S 37) (menN S) (S 55 0) mn al)) := by
  refine CI.mk (by decide) (Nat.le_of_ble_eq_true rfl) ?_
  intro p e R s m args below meth c A Q ls F hret hw hl
  have hx := xs_hx F
  have hb := xs_hb F
  have hl : lv_has ls 5 [(0, .ref (q 33)), (1, .int (nI mn)), (2, .int al)] := hl
  have h8 := hN.1.2
  have h16 := hN.2.1.2
  refine lv_aload_n hx hb dX4_shortestPathTo_0 rfl (lv_at hl 0 rfl) ?_
  refine x_geti fiC_55 F hw fo_X4_39 dX4_shortestPathTo_1 ?_
  refine lv_iload_n hx hb dX4_shortestPathTo_4 rfl (lv_at hl 2 rfl) ?_
  refine lv_iand hx hb dX4_shortestPathTo_5 ?_
  refine lv_istore_n (lv' := [(3, .int ((S 55 0) &&& al)), (0, .ref (q 33)), (1, .int (nI mn)), (2, .int al)]) hx hb dX4_shortestPathTo_6 rfl hl (Nat.le_of_ble_eq_true rfl) rfl (fun ls hl => ?_)
  refine lv_iconst (v := nI 1) hx hb dX4_shortestPathTo_7 rfl ?_
  refine lv_istore (lv' := [(4, .int (nI 1)), (3, .int ((S 55 0) &&& al)), (0, .ref (q 33)), (1, .int (nI mn)), (2, .int al)]) hx hb dX4_shortestPathTo_8 hl (Nat.le_of_ble_eq_true rfl) rfl (fun ls hl => ?_)
  have K10 : ∀ (n10_ : Nat) (i : Nat) (x : Int32) (H : Heap) (locs : List Loc) (ls : Array Slot), menN S - i < n10_ → (i ≤ menN S) → (x = rchF (S 37) (menN S) (S 55 0) al i) → (fstF (fun i => hbt (rchF (S 37) (menN S) (S 55 0) al i) mn) i = 0) → Wd D A s.heap H locs (wC k q z g S X) → lv_has ls 5 [(0, .ref (q 33)), (1, .int (nI mn)), (2, .int al), (3, .int x), (4, .int (nI (i + 1)))] → W p l e R s m args below meth c H locs 0 0 Q (F0 m 10 ls []) := by
    intro n10_
    induction n10_ with
    | zero =>
      intro i x H locs ls hn10_
      exact absurd hn10_ (Nat.not_lt_zero _)
    | succ n10_ ih10_ =>
      intro i x H locs ls hn10_ hi h1 h2 hw hl
      refine lv_iload hx hb dX4_shortestPathTo_10 (lv_at hl 4 rfl) ?_
      refine lv_aload_n hx hb dX4_shortestPathTo_12 rfl (lv_at hl 0 rfl) ?_
      refine x_geti fiC_53 F hw fo_X4_24 dX4_shortestPathTo_13 ?_
      refine x_top (y := nI (menN S)) hN.1.1 ?_
      refine x_icmp_gt (i + 1) (menN S) F (by omega) (by omega) (tgt := 46) dX4_shortestPathTo_16 rfl (fun c16 => ?_) (fun c16 => ?_)
      · refine lv_iconst (v := nI 0) hx hb dX4_shortestPathTo_46 rfl ?_
        exact hret _ _ _ _ _ _ dX4_shortestPathTo_47 hw rfl ⟨rfl, (congrArg nI ((congrArg (fstF _) (show menN S = i by omega)).trans h2)).symm⟩
      · refine lv_iload_n hx hb dX4_shortestPathTo_19 rfl (lv_at hl 3 rfl) ?_
        refine lv_iload_n hx hb dX4_shortestPathTo_20 rfl (lv_at hl 1 rfl) ?_
        refine x_fSI (rest := []) (c_X6_hasBit l D k (wC k q z g S X) x mn) mo_X4_50 F hw (Nat.le_of_ble_eq_true rfl) (x_cs F (Nat.le_of_ble_eq_true rfl) (Nat.le_of_ble_eq_true rfl)) rfl rfl hl.1 (Nat.le_of_ble_eq_true rfl) dX4_shortestPathTo_21 (fun H locs hw => ?_)
        refine lv_if_eq (tgt := 30) hx hb dX4_shortestPathTo_24 rfl (fun c24 => ?_) (fun c24 => ?_)
        · refine lv_iload_n hx hb dX4_shortestPathTo_30 rfl (lv_at hl 3 rfl) ?_
          refine lv_aload_n hx hb dX4_shortestPathTo_31 rfl (lv_at hl 0 rfl) ?_
          refine lv_iload_n hx hb dX4_shortestPathTo_32 rfl (lv_at hl 3 rfl) ?_
          refine x_fVI (rest := [.int x]) (c_X4_nextTo l D k q z g S X x (by first | assumption | omega)) mo_X4_54 obC_33 F hw (Nat.le_of_ble_eq_true rfl) (x_cs F (Nat.le_of_ble_eq_true rfl) (Nat.le_of_ble_eq_true rfl)) rfl rfl hl.1 (Nat.le_of_ble_eq_true rfl) dX4_shortestPathTo_33 (fun H locs hw => ?_)
          refine lv_iload_n hx hb dX4_shortestPathTo_36 rfl (lv_at hl 2 rfl) ?_
          refine lv_iand hx hb dX4_shortestPathTo_37 ?_
          refine lv_ior hx hb dX4_shortestPathTo_38 ?_
          refine lv_istore_n (lv' := [(3, .int (x ||| ((nxtB (S 37) (menN S) x) &&& al))), (0, .ref (q 33)), (1, .int (nI mn)), (2, .int al), (4, .int (nI (i + 1)))]) hx hb dX4_shortestPathTo_39 rfl hl (Nat.le_of_ble_eq_true rfl) rfl (fun ls hl => ?_)
          refine lv_iinc (v := nI (i + 1 + 1)) (lv' := [(4, .int (nI (i + 1 + 1))), (3, .int (x ||| ((nxtB (S 37) (menN S) x) &&& al))), (0, .ref (q 33)), (1, .int (nI mn)), (2, .int al)]) hx hb dX4_shortestPathTo_40 hl (k := 4) rfl (nI_1 _) (Nat.le_of_ble_eq_true rfl) rfl (fun ls hl => ?_)
          refine lv_goto (tgt := 10) hx hb dX4_shortestPathTo_43 rfl ?_
          exact ih10_ (i + 1) (x ||| ((nxtB (S 37) (menN S) x) &&& al)) _ _ _ (by first | omega | (simp only [] at *; omega)) (by first | assumption | omega | rfl) (by rw [h1]; rfl) (by exact fstF_go h2 (by show hbt _ mn = false; rw [← h1]; exact b01_0.mp c24)) hw (lv_sub hl [2, 3, 4, 1, 0] rfl)
        · refine lv_iload hx hb dX4_shortestPathTo_27 (lv_at hl 4 rfl) ?_
          exact hret _ _ _ _ _ _ dX4_shortestPathTo_29 hw rfl ⟨rfl, by unfold spF; rw [fstF_stay (n := i + 1) (by rw [fstF_hit h2 (by show hbt _ mn = true; rw [← h1]; exact b01_1.mp c24)]; omega) _ (by omega), fstF_hit h2 (by show hbt _ mn = true; rw [← h1]; exact b01_1.mp c24)]⟩
  exact K10 _ 0 ((S 55 0) &&& al) _ _ _ (Nat.lt_succ_self _) (by first | assumption | omega | rfl) (by rfl) (by rfl) hw (lv_sub hl [2, 3, 4, 1, 0] rfl)
set_option maxHeartbeats 4000000 in
set_option maxRecDepth 20000 in
theorem c_X4_onAllPathsTo (l : Launch) (D : va_G) (k : Nat → ClassId) (q z : Nat → Nat) (g : Nat → Option Nat) (S : St) (X : va_W) (mn : Nat) (hN : okN S) : CI l D k yX4_onAllPathsTo cX4_onAllPathsTo 5 (some .int) 2 0 0 [.ref (q 33), .int (nI mn)] (wC k q z g S X) (fun r w' => w' = wC k q z g S X ∧ r = oapF S mn) := by
  refine CI.mk (by decide) (Nat.le_of_ble_eq_true rfl) ?_
  intro p e R s m args below meth c A Q ls F hret hw hl
  have hx := xs_hx F
  have hb := xs_hb F
  have hl : lv_has ls 5 [(0, .ref (q 33)), (1, .int (nI mn))] := hl
  have h8 := hN.1.2
  have h16 := hN.2.1.2
  have hsp := fun al => fstF_le (fun i => hbt (rchF (S 37) (menN S) (S 55 0) al i) mn) (menN S)
  refine lv_iconst (v := nI 0) hx hb dX4_onAllPathsTo_0 rfl ?_
  refine lv_istore_n (lv' := [(2, .int (nI 0)), (0, .ref (q 33)), (1, .int (nI mn))]) hx hb dX4_onAllPathsTo_1 rfl hl (Nat.le_of_ble_eq_true rfl) rfl (fun ls hl => ?_)
  refine lv_aload_n hx hb dX4_onAllPathsTo_2 rfl (lv_at hl 1 rfl) ?_
  refine x_fVI (rest := []) (c_X4_sickMen l D k q z g S X (by first | assumption | omega)) mo_X4_42 obC_33 F hw (Nat.le_of_ble_eq_true rfl) (x_cs F (Nat.le_of_ble_eq_true rfl) (Nat.le_of_ble_eq_true rfl)) rfl rfl hl.1 (Nat.le_of_ble_eq_true rfl) dX4_onAllPathsTo_3 (fun H locs hw => ?_)
  refine lv_istore_n (lv' := [(3, .int (sckF S)), (2, .int (nI 0)), (0, .ref (q 33)), (1, .int (nI mn))]) hx hb dX4_onAllPathsTo_6 rfl hl (Nat.le_of_ble_eq_true rfl) rfl (fun ls hl => ?_)
  refine lv_aload_n hx hb dX4_onAllPathsTo_7 rfl (lv_at hl 2 rfl) ?_
  refine lv_iload_n hx hb dX4_onAllPathsTo_8 rfl (lv_at hl 3 rfl) ?_
  refine lv_iload_n hx hb dX4_onAllPathsTo_9 rfl (lv_at hl 0 rfl) ?_
  refine x_fVI (rest := []) (c_X4_shortestPathTo l D k q z g S X mn (sckF S) (by first | assumption | omega)) mo_X4_58 obC_33 F hw (Nat.le_of_ble_eq_true rfl) (x_cs F (Nat.le_of_ble_eq_true rfl) (Nat.le_of_ble_eq_true rfl)) rfl rfl hl.1 (Nat.le_of_ble_eq_true rfl) dX4_onAllPathsTo_10 (fun H locs hw => ?_)
  have hs0 : spF (S 37) (menN S) (S 55 0) mn (sckF S) ≤ menN S := hsp _
  refine x_if_ne (spF (S 37) (menN S) (S 55 0) mn (sckF S)) F (by omega) (tgt := 18) dX4_onAllPathsTo_13 rfl (fun c13 => ?_) (fun c13 => ?_)
  · refine lv_iconst (v := nI 0) hx hb dX4_onAllPathsTo_18 rfl ?_
    refine lv_istore (lv' := [(4, .int (nI 0)), (3, .int (sckF S)), (2, .int (nI 0)), (0, .ref (q 33)), (1, .int (nI mn))]) hx hb dX4_onAllPathsTo_19 hl (Nat.le_of_ble_eq_true rfl) rfl (fun ls hl => ?_)
    have K21 : ∀ (n21_ : Nat) (i : Nat) (x : Int32) (H : Heap) (locs : List Loc) (ls : Array Slot), menN S - i < n21_ → (i ≤ menN S) → (x = orB (fun j => spF (S 37) (menN S) (S 55 0) mn (sckF S &&& ((nI 1 <<< (nI j &&& 31)) ^^^ (-1))) == 0) i) → Wd D A s.heap H locs (wC k q z g S X) → lv_has ls 5 [(0, .ref (q 33)), (1, .int (nI mn)), (2, .int x), (3, .int (sckF S)), (4, .int (nI i))] → W p l e R s m args below meth c H locs 0 0 Q (F0 m 21 ls []) := by
      intro n21_
      induction n21_ with
      | zero =>
        intro i x H locs ls hn21_
        exact absurd hn21_ (Nat.not_lt_zero _)
      | succ n21_ ih21_ =>
        intro i x H locs ls hn21_ hi h1 hw hl
        refine lv_iload hx hb dX4_onAllPathsTo_21 (lv_at hl 4 rfl) ?_
        refine lv_aload_n hx hb dX4_onAllPathsTo_23 rfl (lv_at hl 0 rfl) ?_
        refine x_geti fiC_53 F hw fo_X4_24 dX4_onAllPathsTo_24 ?_
        refine x_top (y := nI (menN S)) hN.1.1 ?_
        refine x_icmp_ge i (menN S) F (by omega) (by omega) (tgt := 59) dX4_onAllPathsTo_27 rfl (fun c27 => ?_) (fun c27 => ?_)
        · refine lv_iload_n hx hb dX4_onAllPathsTo_59 rfl (lv_at hl 2 rfl) ?_
          exact hret _ _ _ _ _ _ dX4_onAllPathsTo_60 hw rfl ⟨rfl, by unfold oapF; rw [if_neg c13, h1, show i = menN S by omega]⟩
        · refine lv_aload_n hx hb dX4_onAllPathsTo_30 rfl (lv_at hl 0 rfl) ?_
          refine lv_iload_n hx hb dX4_onAllPathsTo_31 rfl (lv_at hl 1 rfl) ?_
          refine lv_iload_n hx hb dX4_onAllPathsTo_32 rfl (lv_at hl 3 rfl) ?_
          refine lv_iconst (v := nI 1) hx hb dX4_onAllPathsTo_33 rfl ?_
          refine lv_iload hx hb dX4_onAllPathsTo_34 (lv_at hl 4 rfl) ?_
          refine lv_ishl hx hb dX4_onAllPathsTo_36 ?_
          refine lv_iconst (v := (-1)) hx hb dX4_onAllPathsTo_37 rfl ?_
          refine lv_ixor hx hb dX4_onAllPathsTo_38 ?_
          refine lv_iand hx hb dX4_onAllPathsTo_39 ?_
          refine x_fVI (rest := []) (c_X4_shortestPathTo l D k q z g S X mn ((sckF S) &&& (((nI 1) <<< ((nI i) &&& 31)) ^^^ (-1))) (by first | assumption | omega)) mo_X4_58 obC_33 F hw (Nat.le_of_ble_eq_true rfl) (x_cs F (Nat.le_of_ble_eq_true rfl) (Nat.le_of_ble_eq_true rfl)) rfl rfl hl.1 (Nat.le_of_ble_eq_true rfl) dX4_onAllPathsTo_40 (fun H locs hw => ?_)
          have hs1 : spF (S 37) (menN S) (S 55 0) mn (sckF S &&& ((nI 1 <<< (nI i &&& 31)) ^^^ (-1))) ≤ menN S := hsp _
          refine x_if_ne (spF (S 37) (menN S) (S 55 0) mn ((sckF S) &&& (((nI 1) <<< ((nI i) &&& 31)) ^^^ (-1)))) F (by omega) (tgt := 53) dX4_onAllPathsTo_43 rfl (fun c43 => ?_) (fun c43 => ?_)
          · refine lv_iinc (v := nI (i + 1)) (lv' := [(4, .int (nI (i + 1))), (0, .ref (q 33)), (1, .int (nI mn)), (2, .int x), (3, .int (sckF S))]) hx hb dX4_onAllPathsTo_53 hl (k := 4) rfl (nI_1 _) (Nat.le_of_ble_eq_true rfl) rfl (fun ls hl => ?_)
            refine lv_goto (tgt := 21) hx hb dX4_onAllPathsTo_56 rfl ?_
            exact ih21_ (i + 1) x _ _ _ (by first | omega | (simp only [] at *; omega)) (by first | assumption | omega | rfl) (by rw [h1]; first | (refine (orB_y ?_).symm; exact beqTn c43) | (refine (orB_n ?_).symm; exact beqFn c43)) hw (lv_sub hl [1, 2, 3, 4, 0] rfl)
          · refine lv_iload_n hx hb dX4_onAllPathsTo_46 rfl (lv_at hl 2 rfl) ?_
            refine lv_iconst (v := nI 1) hx hb dX4_onAllPathsTo_47 rfl ?_
            refine lv_iload hx hb dX4_onAllPathsTo_48 (lv_at hl 4 rfl) ?_
            refine lv_ishl hx hb dX4_onAllPathsTo_50 ?_
            refine lv_ior hx hb dX4_onAllPathsTo_51 ?_
            refine lv_istore_n (lv' := [(2, .int (x ||| ((nI 1) <<< ((nI i) &&& 31)))), (0, .ref (q 33)), (1, .int (nI mn)), (3, .int (sckF S)), (4, .int (nI i))]) hx hb dX4_onAllPathsTo_52 rfl hl (Nat.le_of_ble_eq_true rfl) rfl (fun ls hl => ?_)
            refine lv_iinc (v := nI (i + 1)) (lv' := [(4, .int (nI (i + 1))), (2, .int (x ||| ((nI 1) <<< ((nI i) &&& 31)))), (0, .ref (q 33)), (1, .int (nI mn)), (3, .int (sckF S))]) hx hb dX4_onAllPathsTo_53 hl (k := 4) rfl (nI_1 _) (Nat.le_of_ble_eq_true rfl) rfl (fun ls hl => ?_)
            refine lv_goto (tgt := 21) hx hb dX4_onAllPathsTo_56 rfl ?_
            exact ih21_ (i + 1) (x ||| ((nI 1) <<< ((nI i) &&& 31))) _ _ _ (by first | omega | (simp only [] at *; omega)) (by first | assumption | omega | rfl) (by rw [h1]; first | (refine (orB_y ?_).symm; exact beqTn c43) | (refine (orB_n ?_).symm; exact beqFn c43)) hw (lv_sub hl [2, 3, 1, 4, 0] rfl)
    exact K21 _ 0 (nI 0) _ _ _ (Nat.lt_succ_self _) (by first | assumption | omega | rfl) (by rfl) hw (lv_sub hl [3, 4, 2, 1, 0] rfl)
  · refine lv_iload_n hx hb dX4_onAllPathsTo_16 rfl (lv_at hl 1 rfl) ?_
    exact hret _ _ _ _ _ _ dX4_onAllPathsTo_17 hw rfl ⟨rfl, by unfold oapF; rw [if_pos c13]⟩
set_option maxHeartbeats 4000000 in
set_option maxRecDepth 20000 in
theorem c_X0_canReach (l : Launch) (D : va_G) (k : Nat → ClassId) (q z : Nat → Nat) (g : Nat → Option Nat) (S : St) (X : va_W) (wd : Int32) (yr : Int32) (hG : okG S) : CI l D k yX0_canReach cX0_canReach 5 (some .boolean) 1 0 0 [.ref (q 31), .int wd, .int yr] (wC k q z g S X) (fun r w' => w' = wC k q z g S X ∧ r = b01 (reB (S 13 0) (S 14 0) wd yr (clN (S 13 1)) (clN (S 14 1)))) := by
  refine CI.mk (by decide) (Nat.le_of_ble_eq_true rfl) ?_
  intro p e R s m args below meth c A Q ls F hret hw hl
  have hx := xs_hx F
  have hb := xs_hb F
  have hl : lv_has ls 5 [(0, .ref (q 31)), (1, .int wd), (2, .int yr)] := hl
  obtain ⟨eA, eB, eW, lA, lB, lW⟩ := hG.cl
  refine lv_aload_n hx hb dX0_canReach_0 rfl (lv_at hl 0 rfl) ?_
  refine x_getr frC_31_3 F hw fo_X0_9 dX0_canReach_1 ?_
  refine x_getr frC_2_8 F hw fo_X0_35 dX0_canReach_4 ?_
  refine lv_iconst (v := nI 1) hx hb dX0_canReach_7 rfl ?_
  refine x_iald aiC_13 F hw 1 rfl (by omega) dX0_canReach_8 ?_
  refine x_top (y := nI (clN (S 13 1))) eA ?_
  refine lv_istore_n (lv' := [(3, .int (nI (clN (S 13 1)))), (0, .ref (q 31)), (1, .int wd), (2, .int yr)]) hx hb dX0_canReach_9 rfl hl (Nat.le_of_ble_eq_true rfl) rfl (fun ls hl => ?_)
  have K10 : ∀ (n10_ : Nat) (i : Nat) (H : Heap) (locs : List Loc) (ls : Array Slot), clN (S 14 1) + 1 - i < n10_ → (i ≤ clN (S 14 1) + 1) → (anyB (fun i => f_in (wd - nI (clN (S 13 1) + i) * yr) (S 13 0) (S 14 0) != 0) i = false) → Wd D A s.heap H locs (wC k q z g S X) → lv_has ls 5 [(0, .ref (q 31)), (1, .int wd), (2, .int yr), (3, .int (nI (clN (S 13 1) + i)))] → W p l e R s m args below meth c H locs 0 0 Q (F0 m 10 ls []) := by
    intro n10_
    induction n10_ with
    | zero =>
      intro i H locs ls hn10_
      exact absurd hn10_ (Nat.not_lt_zero _)
    | succ n10_ ih10_ =>
      intro i H locs ls hn10_ hi h1 hw hl
      refine lv_iload_n hx hb dX0_canReach_10 rfl (lv_at hl 3 rfl) ?_
      refine lv_aload_n hx hb dX0_canReach_11 rfl (lv_at hl 0 rfl) ?_
      refine x_getr frC_31_3 F hw fo_X0_9 dX0_canReach_12 ?_
      refine x_getr frC_2_9 F hw fo_X0_38 dX0_canReach_15 ?_
      refine lv_iconst (v := nI 1) hx hb dX0_canReach_18 rfl ?_
      refine x_iald aiC_14 F hw 1 rfl (by omega) dX0_canReach_19 ?_
      refine x_top (y := nI (clN (S 14 1))) eB ?_
      refine x_icmp_gt (clN (S 13 1) + i) (clN (S 14 1)) F (by omega) (by omega) (tgt := 64) dX0_canReach_20 rfl (fun c20 => ?_) (fun c20 => ?_)
      · refine lv_iconst (v := nI 0) hx hb dX0_canReach_64 rfl ?_
        exact hret _ _ _ _ _ _ dX0_canReach_65 hw rfl ⟨rfl, by unfold reB; rw [anyB_le (m := i) (by omega) h1]; rfl⟩
      · refine lv_iload_n hx hb dX0_canReach_23 rfl (lv_at hl 1 rfl) ?_
        refine lv_iload_n hx hb dX0_canReach_24 rfl (lv_at hl 3 rfl) ?_
        refine lv_iload_n hx hb dX0_canReach_25 rfl (lv_at hl 2 rfl) ?_
        refine lv_imul hx hb dX0_canReach_26 ?_
        refine lv_isub hx hb dX0_canReach_27 ?_
        refine lv_istore (lv' := [(4, .int (wd - ((nI (clN (S 13 1) + i)) * yr))), (0, .ref (q 31)), (1, .int wd), (2, .int yr), (3, .int (nI (clN (S 13 1) + i)))]) hx hb dX0_canReach_28 hl (Nat.le_of_ble_eq_true rfl) rfl (fun ls hl => ?_)
        refine lv_iload hx hb dX0_canReach_30 (lv_at hl 0 rfl) ?_
        refine lv_aload_n hx hb dX0_canReach_32 rfl (lv_at hl 1 rfl) ?_
        refine x_getr frC_31_3 F hw fo_X0_9 dX0_canReach_33 ?_
        refine x_getr frC_2_8 F hw fo_X0_35 dX0_canReach_36 ?_
        refine lv_iconst (v := nI 0) hx hb dX0_canReach_39 rfl ?_
        refine x_iald aiC_13 F hw 0 rfl (by omega) dX0_canReach_40 ?_
        refine lv_aload_n hx hb dX0_canReach_41 rfl (lv_at hl 1 rfl) ?_
        refine x_getr frC_31_3 F hw fo_X0_9 dX0_canReach_42 ?_
        refine x_getr frC_2_9 F hw fo_X0_38 dX0_canReach_45 ?_
        refine lv_iconst (v := nI 0) hx hb dX0_canReach_48 rfl ?_
        refine x_iald aiC_14 F hw 0 rfl (by omega) dX0_canReach_49 ?_
        refine x_fSI (rest := []) (c_X6_within l D k (wC k q z g S X) (wd - ((nI (clN (S 13 1) + i)) * yr)) (S 13 0) (S 14 0)) mo_X0_41 F hw (Nat.le_of_ble_eq_true rfl) (x_cs F (Nat.le_of_ble_eq_true rfl) (Nat.le_of_ble_eq_true rfl)) rfl rfl hl.1 (Nat.le_of_ble_eq_true rfl) dX0_canReach_50 (fun H locs hw => ?_)
        refine lv_if_eq (tgt := 58) hx hb dX0_canReach_53 rfl (fun c53 => ?_) (fun c53 => ?_)
        · refine lv_iinc (v := nI (clN (S 13 1) + (i + 1))) (lv' := [(3, .int (nI (clN (S 13 1) + (i + 1)))), (4, .int (wd - ((nI (clN (S 13 1) + i)) * yr))), (0, .ref (q 31)), (1, .int wd), (2, .int yr)]) hx hb dX0_canReach_58 hl (k := 4) rfl (nI_1 _) (Nat.le_of_ble_eq_true rfl) rfl (fun ls hl => ?_)
          refine lv_goto (tgt := 10) hx hb dX0_canReach_61 rfl ?_
          exact ih10_ (i + 1) _ _ _ (by first | omega | (simp only [] at *; omega)) (by first | assumption | omega | rfl) (by simp only [anyB, h1]; simp [c53]) hw (lv_sub hl [2, 3, 4, 0] rfl)
        · refine lv_iconst (v := nI 1) hx hb dX0_canReach_56 rfl ?_
          exact hret _ _ _ _ _ _ dX0_canReach_57 hw rfl ⟨rfl, by unfold reB; rw [anyB_yes (n := i) (by simpa using c53) (by omega)]; rfl⟩
  exact K10 _ 0 _ _ _ (Nat.lt_succ_self _) (by first | assumption | omega | rfl) (by rfl) hw (lv_sub hl [1, 2, 3, 0] rfl)
theorem frs_y {p : Nat → Bool} {n : Nat} (h : p n = true) (h2 : cntB p n = 0) : frsB p (n + 1) = n := if_pos (by rw [h, h2]; rfl)
theorem frs_n {p : Nat → Bool} {n : Nat} (h : ¬ cntB p n = 0) : frsB p (n + 1) = frsB p n := if_neg (by rw [beqFn h]; cases p n <;> decide)
theorem frs_f {p : Nat → Bool} {n : Nat} (h : p n = false) : frsB p (n + 1) = frsB p n := if_neg (by rw [h]; simp)
theorem lst_y {p : Nat → Bool} {n : Nat} (h : p n = true) : lstB p (n + 1) = n := if_pos h
theorem lst_f {p : Nat → Bool} {n : Nat} (h : p n = false) : lstB p (n + 1) = lstB p n := if_neg (by rw [h]; decide)
theorem cnt_y {p : Nat → Bool} {n : Nat} (h : p n = true) : cntB p (n + 1) = cntB p n + 1 := if_pos h
theorem cnt_f {p : Nat → Bool} {n : Nat} (h : p n = false) : cntB p (n + 1) = cntB p n := if_neg (by rw [h]; decide)
set_option maxHeartbeats 4000000 in
set_option maxRecDepth 20000 in
theorem c_X0_measure (l : Launch) (D : va_G) (k : Nat → ClassId) (q z : Nat → Nat) (g : Nat → Option Nat) (S : St) (X : va_W) (wd : Int32) (hG : okG S) : CV l D k yX0_measure cX0_measure 4 2 0 0 [.ref (q 31), .int wd] (wC k q z g S X) (fun w' => w' = wC k q z g (meaS S wd) X) := by
  refine CV.mk (by decide) (Nat.le_of_ble_eq_true rfl) ?_
  intro p e R s m args below meth c A Q ls F hnm hret hw hl
  have hx := xs_hx F
  have hb := xs_hb F
  have hl : lv_has ls 4 [(0, .ref (q 31)), (1, .int wd)] := hl
  obtain ⟨eA, eB, eW, lA, lB, lW⟩ := hG.cl
  refine lv_aload_n hx hb dX0_measure_0 rfl (lv_at hl 0 rfl) ?_
  refine lv_iconst (v := nI 0) hx hb dX0_measure_1 rfl ?_
  refine x_puti fiC_48 F hw fo_X0_15 rfl rfl dX0_measure_2 (fun H locs hw => ?_)
  refine lv_aload_n hx hb dX0_measure_5 rfl (lv_at hl 0 rfl) ?_
  refine lv_iconst (v := nI 0) hx hb dX0_measure_6 rfl ?_
  refine x_puti fiC_49 F hw fo_X0_19 rfl rfl dX0_measure_7 (fun H locs hw => ?_)
  refine lv_aload_n hx hb dX0_measure_10 rfl (lv_at hl 0 rfl) ?_
  refine lv_iconst (v := nI 0) hx hb dX0_measure_11 rfl ?_
  refine x_puti fiC_50 F hw fo_X0_22 rfl rfl dX0_measure_12 (fun H locs hw => ?_)
  refine lv_aload_n hx hb dX0_measure_15 rfl (lv_at hl 0 rfl) ?_
  refine x_getr frC_31_3 F hw fo_X0_9 dX0_measure_16 ?_
  refine x_getr frC_2_7 F hw fo_X0_25 dX0_measure_19 ?_
  refine lv_iconst (v := nI 1) hx hb dX0_measure_22 rfl ?_
  refine x_iald aiC_12 F hw 1 rfl (by omega) dX0_measure_23 ?_
  refine x_top (y := S 12 1) rfl ?_
  refine x_top (y := nI (clN (S 12 1))) eW ?_
  refine lv_istore_n (lv' := [(2, .int (nI (clN (S 12 1)))), (0, .ref (q 31)), (1, .int wd)]) hx hb dX0_measure_24 rfl hl (Nat.le_of_ble_eq_true rfl) rfl (fun ls hl => ?_)
  refine lv_iconst (v := nI 0) hx hb dX0_measure_25 rfl ?_
  refine lv_istore_n (lv' := [(3, .int (nI 0)), (2, .int (nI (clN (S 12 1)))), (0, .ref (q 31)), (1, .int wd)]) hx hb dX0_measure_26 rfl hl (Nat.le_of_ble_eq_true rfl) rfl (fun ls hl => ?_)
  have K27 : ∀ (n27_ : Nat) (i : Nat) (ff : Nat) (ll : Nat) (cc : Nat) (H : Heap) (locs : List Loc) (ls : Array Slot), clN (S 12 1) + 1 - i < n27_ → (i ≤ clN (S 12 1) + 1) → (ff = frsB (reS S wd) i) → (ll = lstB (reS S wd) i) → (cc = cntB (reS S wd) i) → Wd D A s.heap H locs (wC k q z g (va_up (va_up (va_up S 48 (fun _ => nI ff)) 49 (fun _ => nI ll)) 50 (fun _ => nI cc)) X) → lv_has ls 4 [(0, .ref (q 31)), (1, .int wd), (2, .int (nI (clN (S 12 1)))), (3, .int (nI i))] → W p l e R s m args below meth c H locs 0 0 Q (F0 m 27 ls []) := by
    intro n27_
    induction n27_ with
    | zero =>
      intro i ff ll cc H locs ls hn27_
      exact absurd hn27_ (Nat.not_lt_zero _)
    | succ n27_ ih27_ =>
      intro i ff ll cc H locs ls hn27_ hi h1 h2 h3 hw hl
      refine lv_iload_n hx hb dX0_measure_27 rfl (lv_at hl 3 rfl) ?_
      refine lv_iload_n hx hb dX0_measure_28 rfl (lv_at hl 2 rfl) ?_
      refine x_icmp_gt i (clN (S 12 1)) F (by omega) (by omega) (tgt := 76) dX0_measure_29 rfl (fun c29 => ?_) (fun c29 => ?_)
      · exact hret _ _ _ _ _ dX0_measure_76 hw (by rw [h1, h2, h3, show i = clN (S 12 1) + 1 by omega]; rfl)
      · refine lv_aload_n hx hb dX0_measure_32 rfl (lv_at hl 0 rfl) ?_
        refine lv_iload_n hx hb dX0_measure_33 rfl (lv_at hl 1 rfl) ?_
        refine lv_iload_n hx hb dX0_measure_34 rfl (lv_at hl 2 rfl) ?_
        refine lv_iload_n hx hb dX0_measure_35 rfl (lv_at hl 3 rfl) ?_
        refine lv_isub hx hb dX0_measure_36 ?_
        refine x_fVI (rest := []) (c_X0_canReach l D k q z g (va_up (va_up (va_up S 48 (fun _ => nI ff)) 49 (fun _ => nI ll)) 50 (fun _ => nI cc)) X wd ((nI (clN (S 12 1))) - (nI i)) (by exact hG)) mo_X0_31 obC_31 F hw (Nat.le_of_ble_eq_true rfl) (x_cs F (Nat.le_of_ble_eq_true rfl) (Nat.le_of_ble_eq_true rfl)) rfl rfl hl.1 (Nat.le_of_ble_eq_true rfl) dX0_measure_37 (fun H locs hw => ?_)
        refine x_top (y := b01 (reS S wd i)) rfl ?_
        refine lv_if_eq (tgt := 70) hx hb dX0_measure_40 rfl (fun c40 => ?_) (fun c40 => ?_)
        · refine lv_iinc (v := nI (i + 1)) (lv' := [(3, .int (nI (i + 1))), (0, .ref (q 31)), (1, .int wd), (2, .int (nI (clN (S 12 1))))]) hx hb dX0_measure_70 hl (k := 3) rfl (nI_1 _) (Nat.le_of_ble_eq_true rfl) rfl (fun ls hl => ?_)
          refine lv_goto (tgt := 27) hx hb dX0_measure_73 rfl ?_
          exact ih27_ (i + 1) ff ll cc _ _ _ (by first | omega | (simp only [] at *; omega)) (by first | assumption | omega | rfl) (by first | exact (frs_y (n := i) (b01_1.mp c40) (h3.symm.trans c47)).symm | exact h1.trans (frs_n (n := i) (fun q => c47 (h3.trans q))).symm | exact h1.trans (frs_f (n := i) (b01_0.mp c40)).symm) (by first | exact (lst_y (n := i) (b01_1.mp c40)).symm | exact h2.trans (lst_f (n := i) (b01_0.mp c40)).symm) (by first | (rw [h3]; exact (cnt_y (n := i) (b01_1.mp c40)).symm) | exact h3.trans (cnt_f (n := i) (b01_0.mp c40)).symm) hw (lv_sub hl [1, 2, 3, 0] rfl)
        · refine lv_aload_n hx hb dX0_measure_43 rfl (lv_at hl 0 rfl) ?_
          have hc9 := cntB_le (reS S wd) i
          refine x_geti fiC_50 F hw fo_X0_22 dX0_measure_44 ?_
          refine x_top (y := nI cc) rfl ?_
          refine x_top (y := nI cc) rfl ?_
          refine x_if_ne cc F (by omega) (tgt := 55) dX0_measure_47 rfl (fun c47 => ?_) (fun c47 => ?_)
          · refine lv_aload_n hx hb dX0_measure_55 rfl (lv_at hl 0 rfl) ?_
            refine lv_iload_n hx hb dX0_measure_56 rfl (lv_at hl 3 rfl) ?_
            refine x_puti fiC_49 F hw fo_X0_19 rfl rfl dX0_measure_57 (fun H locs hw => ?_)
            refine lv_aload_n hx hb dX0_measure_60 rfl (lv_at hl 0 rfl) ?_
            refine lv_dup hx hb dX0_measure_61 rfl ?_
            refine x_geti fiC_50 F hw fo_X0_22 dX0_measure_62 ?_
            refine x_top (y := nI cc) rfl ?_
            refine x_top (y := nI cc) rfl ?_
            refine lv_iconst (v := nI 1) hx hb dX0_measure_65 rfl ?_
            refine lv_iadd hx hb dX0_measure_66 ?_
            refine x_top (y := nI (cc + 1)) (nI_add _ _) ?_
            refine x_puti fiC_50 F hw fo_X0_22 rfl rfl dX0_measure_67 (fun H locs hw => ?_)
            refine lv_iinc (v := nI (i + 1)) (lv' := [(3, .int (nI (i + 1))), (0, .ref (q 31)), (1, .int wd), (2, .int (nI (clN (S 12 1))))]) hx hb dX0_measure_70 hl (k := 3) rfl (nI_1 _) (Nat.le_of_ble_eq_true rfl) rfl (fun ls hl => ?_)
            refine lv_goto (tgt := 27) hx hb dX0_measure_73 rfl ?_
            exact ih27_ (i + 1) ff i (cc + 1) _ _ _ (by first | omega | (simp only [] at *; omega)) (by first | assumption | omega | rfl) (by first | exact (frs_y (n := i) (b01_1.mp c40) (h3.symm.trans c47)).symm | exact h1.trans (frs_n (n := i) (fun q => c47 (h3.trans q))).symm | exact h1.trans (frs_f (n := i) (b01_0.mp c40)).symm) (by first | exact (lst_y (n := i) (b01_1.mp c40)).symm | exact h2.trans (lst_f (n := i) (b01_0.mp c40)).symm) (by first | (rw [h3]; exact (cnt_y (n := i) (b01_1.mp c40)).symm) | exact h3.trans (cnt_f (n := i) (b01_0.mp c40)).symm) hw (lv_sub hl [1, 2, 3, 0] rfl)
          · refine lv_aload_n hx hb dX0_measure_50 rfl (lv_at hl 0 rfl) ?_
            refine lv_iload_n hx hb dX0_measure_51 rfl (lv_at hl 3 rfl) ?_
            refine x_puti fiC_48 F hw fo_X0_15 rfl rfl dX0_measure_52 (fun H locs hw => ?_)
            refine lv_aload_n hx hb dX0_measure_55 rfl (lv_at hl 0 rfl) ?_
            refine lv_iload_n hx hb dX0_measure_56 rfl (lv_at hl 3 rfl) ?_
            refine x_puti fiC_49 F hw fo_X0_19 rfl rfl dX0_measure_57 (fun H locs hw => ?_)
            refine lv_aload_n hx hb dX0_measure_60 rfl (lv_at hl 0 rfl) ?_
            refine lv_dup hx hb dX0_measure_61 rfl ?_
            refine x_geti fiC_50 F hw fo_X0_22 dX0_measure_62 ?_
            refine x_top (y := nI cc) rfl ?_
            refine x_top (y := nI cc) rfl ?_
            refine lv_iconst (v := nI 1) hx hb dX0_measure_65 rfl ?_
            refine lv_iadd hx hb dX0_measure_66 ?_
            refine x_top (y := nI (cc + 1)) (nI_add _ _) ?_
            refine x_puti fiC_50 F hw fo_X0_22 rfl rfl dX0_measure_67 (fun H locs hw => ?_)
            refine lv_iinc (v := nI (i + 1)) (lv' := [(3, .int (nI (i + 1))), (0, .ref (q 31)), (1, .int wd), (2, .int (nI (clN (S 12 1))))]) hx hb dX0_measure_70 hl (k := 3) rfl (nI_1 _) (Nat.le_of_ble_eq_true rfl) rfl (fun ls hl => ?_)
            refine lv_goto (tgt := 27) hx hb dX0_measure_73 rfl ?_
            exact ih27_ (i + 1) i i (cc + 1) _ _ _ (by first | omega | (simp only [] at *; omega)) (by first | assumption | omega | rfl) (by first | exact (frs_y (n := i) (b01_1.mp c40) (h3.symm.trans c47)).symm | exact h1.trans (frs_n (n := i) (fun q => c47 (h3.trans q))).symm | exact h1.trans (frs_f (n := i) (b01_0.mp c40)).symm) (by first | exact (lst_y (n := i) (b01_1.mp c40)).symm | exact h2.trans (lst_f (n := i) (b01_0.mp c40)).symm) (by first | (rw [h3]; exact (cnt_y (n := i) (b01_1.mp c40)).symm) | exact h3.trans (cnt_f (n := i) (b01_0.mp c40)).symm) hw (lv_sub hl [1, 2, 3, 0] rfl)
  exact K27 _ 0 0 0 0 _ _ _ (Nat.lt_succ_self _) (by first | assumption | omega | rfl) (by rfl) (by rfl) (by rfl) hw (lv_sub hl [2, 3, 1, 0] rfl)
end
section
/-! ===== grids in the state ===== -/
def grd (S : St) (b n : Nat) (M : Nat → Nat → Int32) : St := fun r => if b ≤ r ∧ r < b + n then M (r - b) else S r
theorem grd_at {S : St} {b n a : Nat} {M : Nat → Nat → Int32} (h : a < n) : grd S b n M (b + a) = M a := by
  unfold grd
  rw [if_pos ⟨Nat.le_add_right _ _, by omega⟩, Nat.add_sub_cancel_left]
theorem grd_upd {S : St} {b n a e : Nat} {v : Int32} {M : Nat → Nat → Int32} (h : a < n) : va_up (grd S b n M) (b + a) (upd (grd S b n M (b + a)) e v) = grd S b n (va_up M a (upd (M a) e v)) := by
  rw [grd_at h]
  funext r
  unfold grd
  by_cases hr : r = b + a
  · subst hr
    rw [if_pos ⟨Nat.le_add_right _ _, by omega⟩, Nat.add_sub_cancel_left]
    simp [va_up]
  · simp only [va_up, if_neg hr]
    by_cases hb : b ≤ r ∧ r < b + n
    · rw [if_pos hb, if_pos hb, if_neg (by omega)]
    · rw [if_neg hb, if_neg hb]
/-! ===== the law's text: pure words ===== -/
def sgnN (S : St) : Nat := (S 42 0).toNatClampNeg
def okT (S : St) : Prop := S 42 0 = nI (sgnN S) ∧ sgnN S ≤ 50
/-- how the signs are read: a place, or where they fail -/
def scn (f : Nat → Int32) : Nat → Sum Nat Nat
  | 0 => .inl 0
  | n + 1 => match scn f n with
    | .inr i => .inr i
    | .inl p => match nxt p (f n) with
      | some p' => .inl p'
      | none => .inr n
def fltR (f : Nat → Int32) (n : Nat) : Int32 := match scn f n with
  | .inr i => nI i
  | .inl p => if 4 ≤ p then (-6) else nI n
theorem scn_le (f : Nat → Int32) : ∀ n p, scn f n = .inl p → p ≤ 5
  | 0, p, h => by cases h; omega
  | n + 1, p, h => by
    unfold scn at h
    split at h
    · cases h
    · split at h
      · rename_i h2; cases h; exact nxt_lt h2
      · cases h
theorem scn_bad {f : Nat → Int32} {n i : Nat} (h : scn f n = .inr i) : ∀ m, n ≤ m → scn f m = .inr i
  | 0, hm => by rw [← Nat.le_zero.mp hm]; exact h
  | m + 1, hm => by
    rcases Nat.lt_or_ge m n with h1 | h1
    · rw [show m + 1 = n by omega]; exact h
    · unfold scn; rw [scn_bad h m h1]
theorem scn_some {f : Nat → Int32} {n p p' : Nat} (h : scn f n = .inl p) (h2 : nxt p (f n) = some p') : scn f (n + 1) = .inl p' := by unfold scn; rw [h]; simp only [h2]
theorem scn_none {f : Nat → Int32} {n p : Nat} (h : scn f n = .inl p) (h2 : nxt p (f n) = none) : scn f (n + 1) = .inr n := by unfold scn; rw [h]; simp only [h2]
theorem nxI_no {o : Option Nat} (h : nxI o (-1) = (-1)) (hb : ∀ j, o = some j → j ≤ 5) : o = none := by
  cases o with
  | none => rfl
  | some j =>
    have := hb j rfl
    rcases (show j = 0 ∨ j = 1 ∨ j = 2 ∨ j = 3 ∨ j = 4 ∨ j = 5 by omega) with rfl | rfl | rfl | rfl | rfl | rfl <;> exact absurd h (by decide)
theorem nxI_yes {o : Option Nat} {x : Int32} (h : ¬ nxI o x = x) : ∃ j, o = some j := by
  cases o with
  | none => exact absurd rfl h
  | some j => exact ⟨j, rfl⟩
set_option maxHeartbeats 4000000 in
set_option maxRecDepth 20000 in
theorem c_X3_append (l : Launch) (D : va_G) (k : Nat → ClassId) (q z : Nat → Nat) (g : Nat → Option Nat) (S : St) (X : va_W) (sg : Int32) (hT : S 42 0 = nI (sgnN S)) (h49 : sgnN S < 50) : CV l D k yX3_append cX3_append 2 0 0 0 [.ref (q 17), .int sg] (wC k q z g S X) (fun w' => w' = wC k q z g (va_up (va_up S 18 (upd (S 18) (sgnN S) sg)) 42 (fun _ => nI (sgnN S + 1))) X) := by
  refine CV.mk (by decide) (Nat.le_of_ble_eq_true rfl) ?_
  intro p e R s m args below meth c A Q ls F hnm hret hw hl
  have hx := xs_hx F
  have hb := xs_hb F
  have hl : lv_has ls 2 [(0, .ref (q 17)), (1, .int sg)] := hl
  refine lv_aload_n hx hb dX3_append_0 rfl (lv_at hl 0 rfl) ?_
  refine x_geti fiC_42 F hw fo_X3_15 dX3_append_1 ?_
  refine x_top (y := nI (sgnN S)) hT ?_
  refine lv_bipush (v := nI 50) hx hb dX3_append_4 rfl ?_
  refine x_icmp_ge (sgnN S) 50 F (by omega) (by omega) (tgt := 29) dX3_append_6 rfl (fun c6 => ?_) (fun c6 => ?_)
  · exact absurd c6 (by omega)
  · refine lv_aload_n hx hb dX3_append_9 rfl (lv_at hl 0 rfl) ?_
    refine x_getr frC_17_1 F hw fo_X3_9 dX3_append_10 ?_
    refine lv_aload_n hx hb dX3_append_13 rfl (lv_at hl 0 rfl) ?_
    refine x_geti fiC_42 F hw fo_X3_15 dX3_append_14 ?_
    refine x_top (y := nI (sgnN S)) hT ?_
    refine lv_iload_n hx hb dX3_append_17 rfl (lv_at hl 1 rfl) ?_
    refine x_iast aiC_18 F hw (sgnN S) rfl (by omega) dX3_append_18 (fun H locs hw => ?_)
    refine lv_aload_n hx hb dX3_append_19 rfl (lv_at hl 0 rfl) ?_
    refine lv_dup hx hb dX3_append_20 rfl ?_
    refine x_geti fiC_42 F hw fo_X3_15 dX3_append_21 ?_
    refine x_top (y := S 42 0) rfl ?_
    refine x_top (y := nI (sgnN S)) hT ?_
    refine lv_iconst (v := nI 1) hx hb dX3_append_24 rfl ?_
    refine lv_iadd hx hb dX3_append_25 ?_
    refine x_top (y := nI ((sgnN S) + 1)) (nI_add _ _) ?_
    refine x_puti fiC_42 F hw fo_X3_15 rfl rfl dX3_append_26 (fun H locs hw => ?_)
    exact hret _ _ _ _ _ dX3_append_29 hw rfl
set_option maxHeartbeats 4000000 in
set_option maxRecDepth 20000 in
theorem c_X3_faultPlace (l : Launch) (D : va_G) (k : Nat → ClassId) (q z : Nat → Nat) (g : Nat → Option Nat) (S : St) (X : va_W) (hT : okT S) : CI l D k yX3_faultPlace cX3_faultPlace 3 (some .int) 3 0 0 [.ref (q 17)] (wC k q z g S X) (fun r w' => w' = wC k q z g S X ∧ r = fltR (S 18) (sgnN S)) := by
  refine CI.mk (by decide) (Nat.le_of_ble_eq_true rfl) ?_
  intro p e R s m args below meth c A Q ls F hret hw hl
  have hx := xs_hx F
  have hb := xs_hb F
  have hl : lv_has ls 3 [(0, .ref (q 17))] := hl
  have h50 := hT.2
  refine lv_iconst (v := nI 0) hx hb dX3_faultPlace_0 rfl ?_
  refine lv_istore_n (lv' := [(1, .int (nI 0)), (0, .ref (q 17))]) hx hb dX3_faultPlace_1 rfl hl (Nat.le_of_ble_eq_true rfl) rfl (fun ls hl => ?_)
  refine lv_iconst (v := nI 0) hx hb dX3_faultPlace_2 rfl ?_
  refine lv_istore_n (lv' := [(2, .int (nI 0)), (1, .int (nI 0)), (0, .ref (q 17))]) hx hb dX3_faultPlace_3 rfl hl (Nat.le_of_ble_eq_true rfl) rfl (fun ls hl => ?_)
  have K4 : ∀ (n4_ : Nat) (i : Nat) (pl : Nat) (H : Heap) (locs : List Loc) (ls : Array Slot), sgnN S - i < n4_ → (i ≤ sgnN S) → (scn (S 18) i = .inl pl) → Wd D A s.heap H locs (wC k q z g S X) → lv_has ls 3 [(0, .ref (q 17)), (1, .int (nI pl)), (2, .int (nI i))] → W p l e R s m args below meth c H locs 0 0 Q (F0 m 4 ls []) := by
    intro n4_
    induction n4_ with
    | zero =>
      intro i pl H locs ls hn4_
      exact absurd hn4_ (Nat.not_lt_zero _)
    | succ n4_ ih4_ =>
      intro i pl H locs ls hn4_ hi h1 hw hl
      have hp5 := scn_le (S 18) i pl h1
      refine lv_iload_n hx hb dX3_faultPlace_4 rfl (lv_at hl 2 rfl) ?_
      refine lv_aload_n hx hb dX3_faultPlace_5 rfl (lv_at hl 0 rfl) ?_
      refine x_geti fiC_42 F hw fo_X3_15 dX3_faultPlace_6 ?_
      refine x_top (y := nI (sgnN S)) hT.1 ?_
      refine x_icmp_ge i (sgnN S) F (by omega) (by omega) (tgt := 36) dX3_faultPlace_9 rfl (fun c9 => ?_) (fun c9 => ?_)
      · refine lv_iload_n hx hb dX3_faultPlace_36 rfl (lv_at hl 1 rfl) ?_
        refine lv_iconst (v := nI 4) hx hb dX3_faultPlace_37 rfl ?_
        refine x_icmp_lt pl 4 F (by omega) (by omega) (tgt := 46) dX3_faultPlace_38 rfl (fun c38 => ?_) (fun c38 => ?_)
        · refine lv_aload_n hx hb dX3_faultPlace_46 rfl (lv_at hl 0 rfl) ?_
          refine x_geti fiC_42 F hw fo_X3_15 dX3_faultPlace_47 ?_
          refine x_top (y := nI (sgnN S)) hT.1 ?_
          exact hret _ _ _ _ _ _ dX3_faultPlace_50 hw rfl ⟨rfl, by unfold fltR; rw [show sgnN S = i by omega, h1]; first | exact (if_pos c38).symm | exact (if_neg (by omega)).symm⟩
        · refine lv_bipush (v := (-6)) hx hb dX3_faultPlace_41 rfl ?_
          refine lv_goto (tgt := 50) hx hb dX3_faultPlace_43 rfl ?_
          exact hret _ _ _ _ _ _ dX3_faultPlace_50 hw rfl ⟨rfl, by unfold fltR; rw [show sgnN S = i by omega, h1]; first | exact (if_pos c38).symm | exact (if_neg (by omega)).symm⟩
      · refine lv_iload_n hx hb dX3_faultPlace_12 rfl (lv_at hl 1 rfl) ?_
        refine lv_aload_n hx hb dX3_faultPlace_13 rfl (lv_at hl 0 rfl) ?_
        refine x_getr frC_17_1 F hw fo_X3_9 dX3_faultPlace_14 ?_
        refine lv_iload_n hx hb dX3_faultPlace_17 rfl (lv_at hl 2 rfl) ?_
        refine x_iald aiC_18 F hw i rfl (by omega) dX3_faultPlace_18 ?_
        refine x_fSI (rest := []) (c_X3_placeAfter l D k (wC k q z g S X) pl (S 18 i) (by first | assumption | omega)) mo_X3_19 F hw (Nat.le_of_ble_eq_true rfl) (x_cs F (Nat.le_of_ble_eq_true rfl) (Nat.le_of_ble_eq_true rfl)) rfl rfl hl.1 (Nat.le_of_ble_eq_true rfl) dX3_faultPlace_19 (fun H locs hw => ?_)
        refine lv_istore_n (lv' := [(1, .int (nxI (nxt pl (S 18 i)) (-1))), (0, .ref (q 17)), (2, .int (nI i))]) hx hb dX3_faultPlace_22 rfl hl (Nat.le_of_ble_eq_true rfl) rfl (fun ls hl => ?_)
        refine lv_iload_n hx hb dX3_faultPlace_23 rfl (lv_at hl 0 rfl) ?_
        refine lv_iconst (v := (-1)) hx hb dX3_faultPlace_24 rfl ?_
        refine lv_icmp_ne (tgt := 30) hx hb dX3_faultPlace_25 rfl (fun c25 => ?_) (fun c25 => ?_)
        · obtain ⟨p2, hp2⟩ := nxI_yes c25
          have hq2 := nxt_lt hp2
          have hl : lv_has ls 3 [(1, .int (nI p2)), (0, .ref (q 17)), (2, .int (nI i))] := by rw [hp2] at hl; exact hl
          refine lv_iinc (v := nI (i + 1)) (lv' := [(2, .int (nI (i + 1))), (1, .int (nI p2)), (0, .ref (q 17))]) hx hb dX3_faultPlace_30 hl (k := 2) rfl (nI_1 _) (Nat.le_of_ble_eq_true rfl) rfl (fun ls hl => ?_)
          refine lv_goto (tgt := 4) hx hb dX3_faultPlace_33 rfl ?_
          exact ih4_ (i + 1) p2 _ _ _ (by first | omega | (simp only [] at *; omega)) (by first | assumption | omega | rfl) (by exact scn_some h1 hp2) hw (lv_sub hl [2, 1, 0] rfl)
        · refine lv_iload_n hx hb dX3_faultPlace_28 rfl (lv_at hl 2 rfl) ?_
          exact hret _ _ _ _ _ _ dX3_faultPlace_29 hw rfl ⟨rfl, by unfold fltR; rw [scn_bad (scn_none h1 (nxI_no c25 (fun j hj => nxt_lt hj))) _ (by omega)]⟩
  exact K4 _ 0 0 _ _ _ (Nat.lt_succ_self _) (by first | assumption | omega | rfl) (by rfl) hw (lv_sub hl [2, 1, 0] rfl)
def fillU (M : Nat → Nat → Int32) (fr to co : Int32) (n : Nat) : Nat → Nat → Int32 := fun i j => if 4 * i + j < n ∧ j < 4 ∧ (fitK fr i && fitK to j && M i j == (-1)) = true then co else M i j
theorem fillU_at {M : Nat → Nat → Int32} {fr to co : Int32} {a b : Nat} : fillU M fr to co (4 * a + b) a b = M a b := by
  unfold fillU
  rw [if_neg (fun h => absurd h.1 (Nat.lt_irrefl _))]
theorem fillU_y {M : Nat → Nat → Int32} {fr to co : Int32} {a b : Nat} (hb : b < 4) (h : (fitK fr a && fitK to b && M a b == (-1)) = true) : va_up (fillU M fr to co (4 * a + b)) a (upd (fillU M fr to co (4 * a + b) a) b co) = fillU M fr to co (4 * a + (b + 1)) := by
  funext i j
  by_cases hi : i = a
  · subst hi
    by_cases hj : j = b
    · subst hj
      simp only [va_up, if_true, pk_us]
      unfold fillU
      rw [if_pos ⟨by omega, hb, h⟩]
    · simp only [va_up, if_true, pk_un hj]
      unfold fillU
      by_cases q : 4 * i + j < 4 * i + b ∧ j < 4 ∧ (fitK fr i && fitK to j && M i j == (-1)) = true
      · rw [if_pos q, if_pos ⟨by omega, q.2⟩]
      · rw [if_neg q, if_neg (fun z => q ⟨by omega, z.2⟩)]
  · simp only [va_up, if_neg hi]
    unfold fillU
    by_cases q : 4 * i + j < 4 * a + b ∧ j < 4 ∧ (fitK fr i && fitK to j && M i j == (-1)) = true
    · rw [if_pos q, if_pos ⟨by omega, q.2⟩]
    · rw [if_neg q, if_neg (fun z => q ⟨by omega, z.2⟩)]
theorem fillU_n {M : Nat → Nat → Int32} {fr to co : Int32} {a b : Nat} (hb : b < 4) (h : (fitK fr a && fitK to b && M a b == (-1)) = false) : fillU M fr to co (4 * a + b) = fillU M fr to co (4 * a + (b + 1)) := by
  funext i j
  unfold fillU
  by_cases q : 4 * i + j < 4 * a + b ∧ j < 4 ∧ (fitK fr i && fitK to j && M i j == (-1)) = true
  · rw [if_pos q, if_pos ⟨by omega, q.2⟩]
  · rw [if_neg q, if_neg (fun z => ?_)]
    by_cases e : i = a ∧ j = b
    · rw [e.1, e.2, h] at z; exact absurd z.2.2 (by decide)
    · exact q ⟨by omega, z.2⟩
theorem fillU_0 {M : Nat → Nat → Int32} {fr to co : Int32} : fillU M fr to co 0 = M := by
  funext i j
  unfold fillU
  rw [if_neg (fun h => absurd h.1 (Nat.not_lt_zero _))]
/-- the slips before a law is read: 0 where alike, else -1 -/
def inU (M : Nat → Nat → Int32) (n : Nat) : Nat → Nat → Int32 := fun i j => if 4 * i + j < n ∧ j < 4 then (if i = j then nI 0 else (-1)) else M i j
theorem inU_s {M : Nat → Nat → Int32} {a b : Nat} {v : Int32} (hb : b < 4) (hv : v = if a = b then nI 0 else (-1)) : va_up (inU M (4 * a + b)) a (upd (inU M (4 * a + b) a) b v) = inU M (4 * a + (b + 1)) := by
  funext i j
  by_cases hi : i = a
  · subst hi
    by_cases hj : j = b
    · subst hj
      simp only [va_up, if_true, pk_us]
      unfold inU
      rw [if_pos ⟨by omega, hb⟩, hv]
    · simp only [va_up, if_true, pk_un hj]
      unfold inU
      by_cases q : 4 * i + j < 4 * i + b ∧ j < 4
      · rw [if_pos q]; exact (if_pos ⟨by omega, q.2⟩).symm
      · rw [if_neg q, if_neg (fun z => q ⟨by omega, z.2⟩)]
  · simp only [va_up, if_neg hi]
    unfold inU
    by_cases q : 4 * i + j < 4 * a + b ∧ j < 4
    · rw [if_pos q]; exact (if_pos ⟨by omega, q.2⟩).symm
    · rw [if_neg q, if_neg (fun z => q ⟨by omega, z.2⟩)]
theorem inU_0 {M : Nat → Nat → Int32} : inU M 0 = M := by
  funext i j
  unfold inU
  rw [if_neg (fun h => absurd h.1 (Nat.not_lt_zero _))]
set_option maxHeartbeats 4000000 in
set_option maxRecDepth 20000 in
theorem c_X3_fill (l : Launch) (D : va_G) (k : Nat → ClassId) (q z : Nat → Nat) (g : Nat → Option Nat) (S : St) (X : va_W) (M : Nat → Nat → Int32) (fr to co : Int32) : CV l D k yX3_fill cX3_fill 6 1 0 0 [.ref (q 7), .int fr, .int to, .int co] (wC k q z g (grd S 8 4 M) X) (fun w' => w' = wC k q z g (grd S 8 4 (fillU M fr to co 16)) X) := by
  refine CV.mk (by decide) (Nat.le_of_ble_eq_true rfl) ?_
  intro p e R s m args below meth c A Q ls F hnm hret hw hl
  have hx := xs_hx F
  have hb := xs_hb F
  have hl : lv_has ls 6 [(0, .ref (q 7)), (1, .int fr), (2, .int to), (3, .int co)] := hl
  refine lv_iconst (v := nI 0) hx hb dX3_fill_0 rfl ?_
  refine lv_istore (lv' := [(4, .int (nI 0)), (0, .ref (q 7)), (1, .int fr), (2, .int to), (3, .int co)]) hx hb dX3_fill_1 hl (Nat.le_of_ble_eq_true rfl) rfl (fun ls hl => ?_)
  have K3 : ∀ (n3_ : Nat) (i : Nat) (T : Nat → Nat → Int32) (H : Heap) (locs : List Loc) (ls : Array Slot), 4 - i < n3_ → (i ≤ 4) → (T = fillU M fr to co (4 * i)) → Wd D A s.heap H locs (wC k q z g (grd S 8 4 T) X) → lv_has ls 6 [(0, .ref (q 7)), (1, .int fr), (2, .int to), (3, .int co), (4, .int (nI i))] → W p l e R s m args below meth c H locs 0 0 Q (F0 m 3 ls []) := by
    intro n3_
    induction n3_ with
    | zero =>
      intro i T H locs ls hn3_
      exact absurd hn3_ (Nat.not_lt_zero _)
    | succ n3_ ih3_ =>
      intro i T H locs ls hn3_ hi h1 hw hl
      refine lv_iload hx hb dX3_fill_3 (lv_at hl 4 rfl) ?_
      refine lv_iconst (v := nI 4) hx hb dX3_fill_5 rfl ?_
      refine x_icmp_ge i 4 F (by omega) (by omega) (tgt := 67) dX3_fill_6 rfl (fun c6 => ?_) (fun c6 => ?_)
      · exact hret _ _ _ _ _ dX3_fill_67 hw (by rw [h1, show 4 * i = 16 by omega])
      · refine lv_iconst (v := nI 0) hx hb dX3_fill_9 rfl ?_
        refine lv_istore (lv' := [(5, .int (nI 0)), (0, .ref (q 7)), (1, .int fr), (2, .int to), (3, .int co), (4, .int (nI i))]) hx hb dX3_fill_10 hl (Nat.le_of_ble_eq_true rfl) rfl (fun ls hl => ?_)
        have K12 : ∀ (n12_ : Nat) (j : Nat) (T : Nat → Nat → Int32) (H : Heap) (locs : List Loc) (ls : Array Slot), 4 - j < n12_ → (j ≤ 4) → (T = fillU M fr to co (4 * i + j)) → Wd D A s.heap H locs (wC k q z g (grd S 8 4 T) X) → lv_has ls 6 [(0, .ref (q 7)), (1, .int fr), (2, .int to), (3, .int co), (4, .int (nI i)), (5, .int (nI j))] → W p l e R s m args below meth c H locs 0 0 Q (F0 m 12 ls []) := by
          intro n12_
          induction n12_ with
          | zero =>
            intro j T H locs ls hn12_
            exact absurd hn12_ (Nat.not_lt_zero _)
          | succ n12_ ih12_ =>
            intro j T H locs ls hn12_ hj h2 hw hl
            refine lv_iload hx hb dX3_fill_12 (lv_at hl 5 rfl) ?_
            refine lv_iconst (v := nI 4) hx hb dX3_fill_14 rfl ?_
            refine x_icmp_ge j 4 F (by omega) (by omega) (tgt := 61) dX3_fill_15 rfl (fun c15 => ?_) (fun c15 => ?_)
            · refine lv_iinc (v := nI (i + 1)) (lv' := [(4, .int (nI (i + 1))), (0, .ref (q 7)), (1, .int fr), (2, .int to), (3, .int co), (5, .int (nI j))]) hx hb dX3_fill_61 hl (k := 4) rfl (nI_1 _) (Nat.le_of_ble_eq_true rfl) rfl (fun ls hl => ?_)
              refine lv_goto (tgt := 3) hx hb dX3_fill_64 rfl ?_
              exact ih3_ (i + 1) T _ _ _ (by first | omega | (simp only [] at *; omega)) (by first | assumption | omega | rfl) (by rw [h2, show 4 * i + j = 4 * (i + 1) by omega]) hw (lv_sub hl [1, 2, 3, 4, 0] rfl)
            · refine lv_iload_n hx hb dX3_fill_18 rfl (lv_at hl 1 rfl) ?_
              refine lv_iload hx hb dX3_fill_19 (lv_at hl 4 rfl) ?_
              refine x_fSI (rest := []) (c_X3_fits l D k (wC k q z g (grd S 8 4 T) X) fr i) mo_X3_39 F hw (Nat.le_of_ble_eq_true rfl) (x_cs F (Nat.le_of_ble_eq_true rfl) (Nat.le_of_ble_eq_true rfl)) rfl rfl hl.1 (Nat.le_of_ble_eq_true rfl) dX3_fill_21 (fun H locs hw => ?_)
              refine lv_if_eq (tgt := 55) hx hb dX3_fill_24 rfl (fun c24 => ?_) (fun c24 => ?_)
              · refine lv_iinc (v := nI (j + 1)) (lv' := [(5, .int (nI (j + 1))), (0, .ref (q 7)), (1, .int fr), (2, .int to), (3, .int co), (4, .int (nI i))]) hx hb dX3_fill_55 hl (k := 5) rfl (nI_1 _) (Nat.le_of_ble_eq_true rfl) rfl (fun ls hl => ?_)
                refine lv_goto (tgt := 12) hx hb dX3_fill_58 rfl ?_
                exact ih12_ (j + 1) T _ _ _ (by first | omega | (simp only [] at *; omega)) (by first | assumption | omega | rfl) (by first | exact h2.trans (fillU_n (by omega) (bA0 (bA0 (b01_0.mp c24)))) | exact h2.trans (fillU_n (by omega) (bA0 (bA1 (b01_0.mp c33)))) | exact h2.trans (fillU_n (by omega) (bA1 (beqF c44))) | (rw [h2]; exact fillU_y (by omega) (bAt (bAt (b01_1.mp c24) (b01_1.mp c33)) (beqT c44)))) hw (lv_sub hl [1, 2, 3, 4, 5, 0] rfl)
              · refine lv_iload_n hx hb dX3_fill_27 rfl (lv_at hl 2 rfl) ?_
                refine lv_iload hx hb dX3_fill_28 (lv_at hl 5 rfl) ?_
                refine x_fSI (rest := []) (c_X3_fits l D k (wC k q z g (grd S 8 4 T) X) to j) mo_X3_39 F hw (Nat.le_of_ble_eq_true rfl) (x_cs F (Nat.le_of_ble_eq_true rfl) (Nat.le_of_ble_eq_true rfl)) rfl rfl hl.1 (Nat.le_of_ble_eq_true rfl) dX3_fill_30 (fun H locs hw => ?_)
                refine lv_if_eq (tgt := 55) hx hb dX3_fill_33 rfl (fun c33 => ?_) (fun c33 => ?_)
                · refine lv_iinc (v := nI (j + 1)) (lv' := [(5, .int (nI (j + 1))), (0, .ref (q 7)), (1, .int fr), (2, .int to), (3, .int co), (4, .int (nI i))]) hx hb dX3_fill_55 hl (k := 5) rfl (nI_1 _) (Nat.le_of_ble_eq_true rfl) rfl (fun ls hl => ?_)
                  refine lv_goto (tgt := 12) hx hb dX3_fill_58 rfl ?_
                  exact ih12_ (j + 1) T _ _ _ (by first | omega | (simp only [] at *; omega)) (by first | assumption | omega | rfl) (by first | exact h2.trans (fillU_n (by omega) (bA0 (bA0 (b01_0.mp c24)))) | exact h2.trans (fillU_n (by omega) (bA0 (bA1 (b01_0.mp c33)))) | exact h2.trans (fillU_n (by omega) (bA1 (beqF c44))) | (rw [h2]; exact fillU_y (by omega) (bAt (bAt (b01_1.mp c24) (b01_1.mp c33)) (beqT c44)))) hw (lv_sub hl [1, 2, 3, 4, 5, 0] rfl)
                · refine lv_aload_n hx hb dX3_fill_36 rfl (lv_at hl 0 rfl) ?_
                  refine lv_iload hx hb dX3_fill_37 (lv_at hl 4 rfl) ?_
                  refine x_grow giC_7 F hw i rfl (by omega) dX3_fill_39 ?_
                  refine lv_iload hx hb dX3_fill_40 (lv_at hl 5 rfl) ?_
                  refine x_iald (aiC_slip (j := i) (by omega)) F hw j rfl (by omega) dX3_fill_42 ?_
                  refine x_top (y := T i j) (congrFun (grd_at (by omega)) _) ?_
                  refine x_top (y := M i j) (by rw [h2]; exact fillU_at) ?_
                  refine lv_iconst (v := (-1)) hx hb dX3_fill_43 rfl ?_
                  refine lv_icmp_ne (tgt := 55) hx hb dX3_fill_44 rfl (fun c44 => ?_) (fun c44 => ?_)
                  · refine lv_iinc (v := nI (j + 1)) (lv' := [(5, .int (nI (j + 1))), (0, .ref (q 7)), (1, .int fr), (2, .int to), (3, .int co), (4, .int (nI i))]) hx hb dX3_fill_55 hl (k := 5) rfl (nI_1 _) (Nat.le_of_ble_eq_true rfl) rfl (fun ls hl => ?_)
                    refine lv_goto (tgt := 12) hx hb dX3_fill_58 rfl ?_
                    exact ih12_ (j + 1) T _ _ _ (by first | omega | (simp only [] at *; omega)) (by first | assumption | omega | rfl) (by first | exact h2.trans (fillU_n (by omega) (bA0 (bA0 (b01_0.mp c24)))) | exact h2.trans (fillU_n (by omega) (bA0 (bA1 (b01_0.mp c33)))) | exact h2.trans (fillU_n (by omega) (bA1 (beqF c44))) | (rw [h2]; exact fillU_y (by omega) (bAt (bAt (b01_1.mp c24) (b01_1.mp c33)) (beqT c44)))) hw (lv_sub hl [1, 2, 3, 4, 5, 0] rfl)
                  · refine lv_aload_n hx hb dX3_fill_47 rfl (lv_at hl 0 rfl) ?_
                    refine lv_iload hx hb dX3_fill_48 (lv_at hl 4 rfl) ?_
                    refine x_grow giC_7 F hw i rfl (by omega) dX3_fill_50 ?_
                    refine lv_iload hx hb dX3_fill_51 (lv_at hl 5 rfl) ?_
                    refine lv_iload_n hx hb dX3_fill_53 rfl (lv_at hl 3 rfl) ?_
                    refine x_iast (aiC_slip (j := i) (by omega)) F hw j rfl (by omega) dX3_fill_54 (fun H locs hw => ?_)
                    rw [grd_upd (by omega)] at hw
                    refine lv_iinc (v := nI (j + 1)) (lv' := [(5, .int (nI (j + 1))), (0, .ref (q 7)), (1, .int fr), (2, .int to), (3, .int co), (4, .int (nI i))]) hx hb dX3_fill_55 hl (k := 5) rfl (nI_1 _) (Nat.le_of_ble_eq_true rfl) rfl (fun ls hl => ?_)
                    refine lv_goto (tgt := 12) hx hb dX3_fill_58 rfl ?_
                    exact ih12_ (j + 1) (va_up T i (upd (T i) j co)) _ _ _ (by first | omega | (simp only [] at *; omega)) (by first | assumption | omega | rfl) (by first | exact h2.trans (fillU_n (by omega) (bA0 (bA0 (b01_0.mp c24)))) | exact h2.trans (fillU_n (by omega) (bA0 (bA1 (b01_0.mp c33)))) | exact h2.trans (fillU_n (by omega) (bA1 (beqF c44))) | (rw [h2]; exact fillU_y (by omega) (bAt (bAt (b01_1.mp c24) (b01_1.mp c33)) (beqT c44)))) hw (lv_sub hl [1, 2, 3, 4, 5, 0] rfl)
        exact K12 _ 0 T _ _ _ (Nat.lt_succ_self _) (by first | assumption | omega | rfl) (by exact h1) hw (lv_sub hl [1, 2, 3, 4, 5, 0] rfl)
  exact K3 _ 0 M _ _ _ (Nat.lt_succ_self _) (by first | assumption | omega | rfl) (by exact fillU_0.symm) hw (lv_sub hl [1, 2, 3, 4, 0] rfl)
def plF (f : Nat → Int32) : Nat → Nat
  | 0 => 0
  | i + 1 => (nxt (plF f i) (f i)).getD 9
def frF (f : Nat → Int32) : Nat → Int32
  | 0 => nI 0
  | i + 1 => if plF f i = 0 then f i else frF f i
def toF (f : Nat → Int32) : Nat → Int32
  | 0 => nI 0
  | i + 1 => if plF f i = 1 then f i else toF f i
def coF (f : Nat → Int32) : Nat → Int32
  | 0 => nI 0
  | i + 1 => if plF f i = 3 then f i - nI 48 else if plF f i = 4 ∧ isDg (f i) = true then coF f i * nI 10 + f i - nI 48 else coF f i
def lnE (f : Nat → Int32) (n i : Nat) : Bool := decide (i = n - 1) || f i == nI 59
def liF (f : Nat → Int32) (n : Nat) : Nat → Nat
  | 0 => 0
  | i + 1 => if lnE f n i then liF f n i + 1 else liF f n i
def mF (f : Nat → Int32) (n : Nat) (M0 : Nat → Nat → Int32) : Nat → Nat → Nat → Int32
  | 0 => M0
  | i + 1 => if lnE f n i then fillU (mF f n M0 i) (frF f (i + 1)) (toF f (i + 1)) (coF f (i + 1)) 16 else mF f n M0 i
theorem scn_pl {f : Nat → Int32} {n p : Nat} (h : scn f n = .inl p) : plF f n = p ∧ ∀ i, i ≤ n → scn f i = .inl (plF f i) := by
  induction n generalizing p with
  | zero => cases h; exact ⟨rfl, fun i hi => by rw [Nat.le_zero.mp hi]; rfl⟩
  | succ n ih =>
    cases hs : scn f n with
    | inr i => exact absurd (h.symm.trans (scn_bad hs _ (Nat.le_succ n))) (by simp)
    | inl p0 =>
      obtain ⟨e1, e2⟩ := ih hs
      cases hx : nxt p0 (f n) with
      | none => exact absurd (h.symm.trans (scn_none hs hx)) (by simp)
      | some p1 =>
        have h3 := h.symm.trans (scn_some hs hx)
        cases h3
        have e3 : plF f (n + 1) = p := by unfold plF; rw [e1, hx]; rfl
        refine ⟨e3, fun i hi => ?_⟩
        rcases Nat.lt_or_ge n i with q | q
        · rw [show i = n + 1 by omega, e3]; exact h
        · exact e2 i q
theorem pl_go {f : Nat → Int32} {n p i : Nat} (h : scn f n = .inl p) (hi : i < n) : plF f i ≤ 5 ∧ nxt (plF f i) (f i) = some (plF f (i + 1)) ∧ plF f (i + 1) ≤ 5 := by
  have h1 := (scn_pl h).2 i (by omega)
  have h2 := (scn_pl h).2 (i + 1) hi
  have b2 := scn_le f _ _ h2
  refine ⟨scn_le f _ _ h1, ?_, b2⟩
  cases hx : nxt (plF f i) (f i) with
  | none => exact absurd (h2.symm.trans (scn_none h1 hx)) (by simp)
  | some p1 => have := h2.symm.trans (scn_some h1 hx); cases this; rfl
def rdM (f : Nat → Int32) (n : Nat) (M : Nat → Nat → Int32) : Nat → Nat → Int32 := fillU (mF f n (inU M 16) n) (nI 42) (nI 42) (nI 10) 16
set_option maxHeartbeats 4000000 in
set_option maxRecDepth 20000 in
theorem c_X3_readInto (l : Launch) (D : va_G) (k : Nat → ClassId) (q z : Nat → Nat) (g : Nat → Option Nat) (S : St) (X : va_W) (hT : okT S) (hF : ∃ pq, scn (S 18) (sgnN S) = .inl pq) : CI l D k yX3_readInto cX3_readInto 10 (some .int) 4 0 0 [.ref (q 17), .ref (q 7)] (wC k q z g S X) (fun r w' => w' = wC k q z g (grd S 8 4 (rdM (S 18) (sgnN S) (fun a => S (8 + a)))) X ∧ r = nI (liF (S 18) (sgnN S) (sgnN S))) := by
  refine CI.mk (by decide) (Nat.le_of_ble_eq_true rfl) ?_
  intro p e R s m args below meth c A Q ls F hret hw hl
  have hx := xs_hx F
  have hb := xs_hb F
  have hl : lv_has ls 10 [(0, .ref (q 17)), (1, .ref (q 7))] := hl
  have h50 := hT.2
  obtain ⟨pq, hq⟩ := hF
  have hw : Wd D A s.heap s.heap [] (wC k q z g (grd S 8 4 (fun a => S (8 + a))) X) := hw
  refine lv_iconst (v := nI 0) hx hb dX3_readInto_0 rfl ?_
  refine lv_istore_n (lv' := [(2, .int (nI 0)), (0, .ref (q 17)), (1, .ref (q 7))]) hx hb dX3_readInto_1 rfl hl (Nat.le_of_ble_eq_true rfl) rfl (fun ls hl => ?_)
  have K2 : ∀ (n2_ : Nat) (i : Nat) (T : Nat → Nat → Int32) (H : Heap) (locs : List Loc) (ls : Array Slot), 4 - i < n2_ → (i ≤ 4) → (T = inU (fun a => S (8 + a)) (4 * i)) → Wd D A s.heap H locs (wC k q z g (grd S 8 4 T) X) → lv_has ls 10 [(0, .ref (q 17)), (1, .ref (q 7)), (2, .int (nI i))] → W p l e R s m args below meth c H locs 0 0 Q (F0 m 2 ls []) := by
    intro n2_
    induction n2_ with
    | zero =>
      intro i T H locs ls hn2_
      exact absurd hn2_ (Nat.not_lt_zero _)
    | succ n2_ ih2_ =>
      intro i T H locs ls hn2_ hi h1 hw hl
      refine lv_iload_n hx hb dX3_readInto_2 rfl (lv_at hl 2 rfl) ?_
      refine lv_iconst (v := nI 4) hx hb dX3_readInto_3 rfl ?_
      refine x_icmp_ge i 4 F (by omega) (by omega) (tgt := 41) dX3_readInto_4 rfl (fun c4 => ?_) (fun c4 => ?_)
      · refine lv_iconst (v := nI 0) hx hb dX3_readInto_41 rfl ?_
        refine lv_istore_n (lv' := [(2, .int (nI 0)), (0, .ref (q 17)), (1, .ref (q 7))]) hx hb dX3_readInto_42 rfl hl (Nat.le_of_ble_eq_true rfl) rfl (fun ls hl => ?_)
        refine lv_iconst (v := nI 0) hx hb dX3_readInto_43 rfl ?_
        refine lv_istore_n (lv' := [(3, .int (nI 0)), (2, .int (nI 0)), (0, .ref (q 17)), (1, .ref (q 7))]) hx hb dX3_readInto_44 rfl hl (Nat.le_of_ble_eq_true rfl) rfl (fun ls hl => ?_)
        refine lv_iconst (v := nI 0) hx hb dX3_readInto_45 rfl ?_
        refine lv_istore (lv' := [(4, .int (nI 0)), (3, .int (nI 0)), (2, .int (nI 0)), (0, .ref (q 17)), (1, .ref (q 7))]) hx hb dX3_readInto_46 hl (Nat.le_of_ble_eq_true rfl) rfl (fun ls hl => ?_)
        refine lv_iconst (v := nI 0) hx hb dX3_readInto_48 rfl ?_
        refine lv_istore (lv' := [(5, .int (nI 0)), (4, .int (nI 0)), (3, .int (nI 0)), (2, .int (nI 0)), (0, .ref (q 17)), (1, .ref (q 7))]) hx hb dX3_readInto_49 hl (Nat.le_of_ble_eq_true rfl) rfl (fun ls hl => ?_)
        refine lv_iconst (v := nI 0) hx hb dX3_readInto_51 rfl ?_
        refine lv_istore (lv' := [(6, .int (nI 0)), (5, .int (nI 0)), (4, .int (nI 0)), (3, .int (nI 0)), (2, .int (nI 0)), (0, .ref (q 17)), (1, .ref (q 7))]) hx hb dX3_readInto_52 hl (Nat.le_of_ble_eq_true rfl) rfl (fun ls hl => ?_)
        refine lv_iconst (v := nI 0) hx hb dX3_readInto_54 rfl ?_
        refine lv_istore (lv' := [(7, .int (nI 0)), (6, .int (nI 0)), (5, .int (nI 0)), (4, .int (nI 0)), (3, .int (nI 0)), (2, .int (nI 0)), (0, .ref (q 17)), (1, .ref (q 7))]) hx hb dX3_readInto_55 hl (Nat.le_of_ble_eq_true rfl) rfl (fun ls hl => ?_)
        have K57 : ∀ (n57_ : Nat) (i : Nat) (ln : Nat) (pl : Nat) (fr : Int32) (to : Int32) (co : Int32) (T : Nat → Nat → Int32) (H : Heap) (locs : List Loc) (ls : Array Slot), sgnN S - i < n57_ → (i ≤ sgnN S) → (pl = plF (S 18) i) → (fr = frF (S 18) i) → (to = toF (S 18) i) → (co = coF (S 18) i) → (ln = liF (S 18) (sgnN S) i) → (T = mF (S 18) (sgnN S) (inU (fun a => S (8 + a)) 16) i) → Wd D A s.heap H locs (wC k q z g (grd S 8 4 T) X) → lv_has ls 10 [(0, .ref (q 17)), (1, .ref (q 7)), (2, .int (nI ln)), (3, .int (nI pl)), (4, .int fr), (5, .int to), (6, .int co), (7, .int (nI i))] → W p l e R s m args below meth c H locs 0 0 Q (F0 m 57 ls []) := by
          intro n57_
          induction n57_ with
          | zero =>
            intro i ln pl fr to co T H locs ls hn57_
            exact absurd hn57_ (Nat.not_lt_zero _)
          | succ n57_ ih57_ =>
            intro i ln pl fr to co T H locs ls hn57_ hi e1 e2 e3 e4 e5 e6 hw hl
            have hp5 : pl ≤ 5 := by rw [e1]; exact scn_le _ _ _ ((scn_pl hq).2 i (by omega))
            refine lv_iload hx hb dX3_readInto_57 (lv_at hl 7 rfl) ?_
            refine lv_aload_n hx hb dX3_readInto_59 rfl (lv_at hl 0 rfl) ?_
            refine x_geti fiC_42 F hw fo_X3_15 dX3_readInto_60 ?_
            refine x_top (y := S 42 0) rfl ?_
            refine x_top (y := nI (sgnN S)) hT.1 ?_
            refine x_icmp_ge i (sgnN S) F (by omega) (by omega) (tgt := 195) dX3_readInto_63 rfl (fun c63 => ?_) (fun c63 => ?_)
            · refine lv_aload_n hx hb dX3_readInto_195 rfl (lv_at hl 1 rfl) ?_
              refine lv_bipush (v := nI 42) hx hb dX3_readInto_196 rfl ?_
              refine lv_bipush (v := nI 42) hx hb dX3_readInto_198 rfl ?_
              refine lv_bipush (v := nI 10) hx hb dX3_readInto_200 rfl ?_
              refine x_fSV (rest := []) (c_X3_fill l D k q z g S X T (nI 42) (nI 42) (nI 10)) mo_X3_35 F hw (Nat.le_of_ble_eq_true rfl) (x_cs F (Nat.le_of_ble_eq_true rfl) (Nat.le_of_ble_eq_true rfl)) rfl rfl hl.1 (Nat.le_of_ble_eq_true rfl) dX3_readInto_202 (fun H locs hw => ?_)
              refine lv_iload_n hx hb dX3_readInto_205 rfl (lv_at hl 2 rfl) ?_
              exact hret _ _ _ _ _ _ dX3_readInto_206 hw rfl ⟨by rw [e6, show i = sgnN S by omega]; rfl, by rw [e5, show i = sgnN S by omega]⟩
            · refine lv_aload_n hx hb dX3_readInto_66 rfl (lv_at hl 0 rfl) ?_
              refine x_getr frC_17_1 F hw fo_X3_9 dX3_readInto_67 ?_
              refine lv_iload hx hb dX3_readInto_70 (lv_at hl 7 rfl) ?_
              refine x_iald aiC_18 F hw i rfl (by omega) dX3_readInto_72 ?_
              refine x_top (y := S 18 i) rfl ?_
              refine lv_istore (lv' := [(8, .int (S 18 i)), (0, .ref (q 17)), (1, .ref (q 7)), (2, .int (nI ln)), (3, .int (nI pl)), (4, .int fr), (5, .int to), (6, .int co), (7, .int (nI i))]) hx hb dX3_readInto_73 hl (Nat.le_of_ble_eq_true rfl) rfl (fun ls hl => ?_)
              have K139 : ∀ (fr2 : Int32) (to2 : Int32) (co2 : Int32) (H : Heap) (locs : List Loc) (ls : Array Slot), (fr2 = frF (S 18) (i + 1)) → (to2 = toF (S 18) (i + 1)) → (co2 = coF (S 18) (i + 1)) → Wd D A s.heap H locs (wC k q z g (grd S 8 4 T) X) → lv_has ls 10 [(0, .ref (q 17)), (1, .ref (q 7)), (2, .int (nI ln)), (3, .int (nI pl)), (4, .int fr2), (5, .int to2), (6, .int co2), (7, .int (nI i)), (8, .int (S 18 i))] → W p l e R s m args below meth c H locs 0 0 Q (F0 m 139 ls []) := by
                intro fr2 to2 co2 H locs ls e2n e3n e4n hw hl
                refine lv_iload_n hx hb dX3_readInto_139 rfl (lv_at hl 3 rfl) ?_
                refine lv_iload hx hb dX3_readInto_140 (lv_at hl 8 rfl) ?_
                refine x_fSI (rest := []) (c_X3_placeAfter l D k (wC k q z g (grd S 8 4 T) X) pl (S 18 i) (by first | assumption | omega)) mo_X3_19 F hw (Nat.le_of_ble_eq_true rfl) (x_cs F (Nat.le_of_ble_eq_true rfl) (Nat.le_of_ble_eq_true rfl)) rfl rfl hl.1 (Nat.le_of_ble_eq_true rfl) dX3_readInto_142 (fun H locs hw => ?_)
                refine x_top (y := nI (plF (S 18) (i + 1))) (by rw [e1, (pl_go hq (by omega)).2.1]; rfl) ?_
                refine lv_istore_n (lv' := [(3, .int (nI (plF (S 18) (i + 1)))), (0, .ref (q 17)), (1, .ref (q 7)), (2, .int (nI ln)), (4, .int fr2), (5, .int to2), (6, .int co2), (7, .int (nI i)), (8, .int (S 18 i))]) hx hb dX3_readInto_145 rfl hl (Nat.le_of_ble_eq_true rfl) rfl (fun ls hl => ?_)
                refine lv_iload hx hb dX3_readInto_146 (lv_at hl 7 rfl) ?_
                refine lv_aload_n hx hb dX3_readInto_148 rfl (lv_at hl 1 rfl) ?_
                refine x_geti fiC_42 F hw fo_X3_15 dX3_readInto_149 ?_
                refine x_top (y := S 42 0) rfl ?_
                refine x_top (y := nI (sgnN S)) hT.1 ?_
                refine lv_iconst (v := nI 1) hx hb dX3_readInto_152 rfl ?_
                refine lv_isub hx hb dX3_readInto_153 ?_
                refine x_top (y := nI (sgnN S - 1)) (pk_sub (by omega)) ?_
                have K169 : ∀ (t : Bool) (H : Heap) (locs : List Loc) (ls : Array Slot), (t = lnE (S 18) (sgnN S) i) → Wd D A s.heap H locs (wC k q z g (grd S 8 4 T) X) → lv_has ls 10 [(0, .ref (q 17)), (1, .ref (q 7)), (2, .int (nI ln)), (3, .int (nI (plF (S 18) (i + 1)))), (4, .int fr2), (5, .int to2), (6, .int co2), (7, .int (nI i)), (8, .int (S 18 i))] → W p l e R s m args below meth c H locs 0 0 Q (F0 m 169 ls [.int (b01 t)]) := by
                  intro t H locs ls h169 hw hl
                  refine lv_istore (lv' := [(9, .int (b01 t)), (0, .ref (q 17)), (1, .ref (q 7)), (2, .int (nI ln)), (3, .int (nI (plF (S 18) (i + 1)))), (4, .int fr2), (5, .int to2), (6, .int co2), (7, .int (nI i)), (8, .int (S 18 i))]) hx hb dX3_readInto_169 hl (Nat.le_of_ble_eq_true rfl) rfl (fun ls hl => ?_)
                  refine lv_iload hx hb dX3_readInto_171 (lv_at hl 0 rfl) ?_
                  refine lv_if_eq (tgt := 189) hx hb dX3_readInto_173 rfl (fun c173 => ?_) (fun c173 => ?_)
                  · refine lv_iinc (v := nI (i + 1)) (lv' := [(7, .int (nI (i + 1))), (9, .int (b01 t)), (0, .ref (q 17)), (1, .ref (q 7)), (2, .int (nI ln)), (3, .int (nI (plF (S 18) (i + 1)))), (4, .int fr2), (5, .int to2), (6, .int co2), (8, .int (S 18 i))]) hx hb dX3_readInto_189 hl (k := 8) rfl (nI_1 _) (Nat.le_of_ble_eq_true rfl) rfl (fun ls hl => ?_)
                    refine lv_goto (tgt := 57) hx hb dX3_readInto_192 rfl ?_
                    exact ih57_ (i + 1) ln (plF (S 18) (i + 1)) fr2 to2 co2 T _ _ _ (by first | omega | (simp only [] at *; omega)) (by first | assumption | omega | rfl) (by rfl) (by exact e2n) (by exact e3n) (by exact e4n) (by rw [e5]; first | exact (if_pos (h169.symm.trans (b01_1.mp c173))).symm | exact (if_neg (by rw [← h169, b01_0.mp c173]; decide)).symm) (by first | (rw [e6, e2n, e3n, e4n]; exact (if_pos (h169.symm.trans (b01_1.mp c173))).symm) | exact e6.trans (if_neg (by rw [← h169, b01_0.mp c173]; decide)).symm) hw (lv_sub hl [2, 3, 4, 5, 6, 7, 8, 0] rfl)
                  · refine lv_aload_n hx hb dX3_readInto_176 rfl (lv_at hl 2 rfl) ?_
                    refine lv_iload hx hb dX3_readInto_177 (lv_at hl 5 rfl) ?_
                    refine lv_iload hx hb dX3_readInto_179 (lv_at hl 6 rfl) ?_
                    refine lv_iload hx hb dX3_readInto_181 (lv_at hl 7 rfl) ?_
                    refine x_fSV (rest := []) (c_X3_fill l D k q z g S X T fr2 to2 co2) mo_X3_35 F hw (Nat.le_of_ble_eq_true rfl) (x_cs F (Nat.le_of_ble_eq_true rfl) (Nat.le_of_ble_eq_true rfl)) rfl rfl hl.1 (Nat.le_of_ble_eq_true rfl) dX3_readInto_183 (fun H locs hw => ?_)
                    refine lv_iinc (v := nI (ln + 1)) (lv' := [(2, .int (nI (ln + 1))), (9, .int (b01 t)), (0, .ref (q 17)), (1, .ref (q 7)), (3, .int (nI (plF (S 18) (i + 1)))), (4, .int fr2), (5, .int to2), (6, .int co2), (7, .int (nI i)), (8, .int (S 18 i))]) hx hb dX3_readInto_186 hl (k := 3) rfl (nI_1 _) (Nat.le_of_ble_eq_true rfl) rfl (fun ls hl => ?_)
                    refine lv_iinc (v := nI (i + 1)) (lv' := [(7, .int (nI (i + 1))), (2, .int (nI (ln + 1))), (9, .int (b01 t)), (0, .ref (q 17)), (1, .ref (q 7)), (3, .int (nI (plF (S 18) (i + 1)))), (4, .int fr2), (5, .int to2), (6, .int co2), (8, .int (S 18 i))]) hx hb dX3_readInto_189 hl (k := 8) rfl (nI_1 _) (Nat.le_of_ble_eq_true rfl) rfl (fun ls hl => ?_)
                    refine lv_goto (tgt := 57) hx hb dX3_readInto_192 rfl ?_
                    exact ih57_ (i + 1) (ln + 1) (plF (S 18) (i + 1)) fr2 to2 co2 (fillU T fr2 to2 co2 16) _ _ _ (by first | omega | (simp only [] at *; omega)) (by first | assumption | omega | rfl) (by rfl) (by exact e2n) (by exact e3n) (by exact e4n) (by rw [e5]; first | exact (if_pos (h169.symm.trans (b01_1.mp c173))).symm | exact (if_neg (by rw [← h169, b01_0.mp c173]; decide)).symm) (by first | (rw [e6, e2n, e3n, e4n]; exact (if_pos (h169.symm.trans (b01_1.mp c173))).symm) | exact e6.trans (if_neg (by rw [← h169, b01_0.mp c173]; decide)).symm) hw (lv_sub hl [3, 4, 1, 5, 6, 7, 8, 0] rfl)
                refine x_icmp_eq i (sgnN S - 1) F (by omega) (by omega) (tgt := 164) dX3_readInto_154 rfl (fun c154 => ?_) (fun c154 => ?_)
                · refine lv_iconst (v := nI 1) hx hb dX3_readInto_164 rfl ?_
                  refine lv_goto (tgt := 169) hx hb dX3_readInto_165 rfl ?_
                  exact K169 true _ _ _ (by unfold lnE; first | (rw [decide_eq_true c154]; rfl) | (rw [decide_eq_false c154, beqF c161]; rfl) | (rw [decide_eq_false c154, beqT c161]; rfl)) hw (lv_sub hl [1, 2, 3, 0, 4, 5, 6, 7, 8] rfl)
                · refine lv_iload hx hb dX3_readInto_157 (lv_at hl 8 rfl) ?_
                  refine lv_bipush (v := nI 59) hx hb dX3_readInto_159 rfl ?_
                  refine lv_icmp_ne (tgt := 168) hx hb dX3_readInto_161 rfl (fun c161 => ?_) (fun c161 => ?_)
                  · refine lv_iconst (v := nI 0) hx hb dX3_readInto_168 rfl ?_
                    exact K169 false _ _ _ (by unfold lnE; first | (rw [decide_eq_true c154]; rfl) | (rw [decide_eq_false c154, beqF c161]; rfl) | (rw [decide_eq_false c154, beqT c161]; rfl)) hw (lv_sub hl [1, 2, 3, 0, 4, 5, 6, 7, 8] rfl)
                  · refine lv_iconst (v := nI 1) hx hb dX3_readInto_164 rfl ?_
                    refine lv_goto (tgt := 169) hx hb dX3_readInto_165 rfl ?_
                    exact K169 true _ _ _ (by unfold lnE; first | (rw [decide_eq_true c154]; rfl) | (rw [decide_eq_false c154, beqF c161]; rfl) | (rw [decide_eq_false c154, beqT c161]; rfl)) hw (lv_sub hl [1, 2, 3, 0, 4, 5, 6, 7, 8] rfl)
              refine lv_iload_n hx hb dX3_readInto_75 rfl (lv_at hl 4 rfl) ?_
              refine x_if_ne pl F (by omega) (tgt := 86) dX3_readInto_76 rfl (fun c76 => ?_) (fun c76 => ?_)
              · refine lv_iload_n hx hb dX3_readInto_86 rfl (lv_at hl 4 rfl) ?_
                refine lv_iconst (v := nI 1) hx hb dX3_readInto_87 rfl ?_
                refine x_icmp_ne pl 1 F (by omega) (by omega) (tgt := 98) dX3_readInto_88 rfl (fun c88 => ?_) (fun c88 => ?_)
                · refine lv_iload_n hx hb dX3_readInto_98 rfl (lv_at hl 4 rfl) ?_
                  refine lv_iconst (v := nI 3) hx hb dX3_readInto_99 rfl ?_
                  refine x_icmp_ne pl 3 F (by omega) (by omega) (tgt := 113) dX3_readInto_100 rfl (fun c100 => ?_) (fun c100 => ?_)
                  · refine lv_iload_n hx hb dX3_readInto_113 rfl (lv_at hl 4 rfl) ?_
                    refine lv_iconst (v := nI 4) hx hb dX3_readInto_114 rfl ?_
                    refine x_icmp_ne pl 4 F (by omega) (by omega) (tgt := 139) dX3_readInto_115 rfl (fun c115 => ?_) (fun c115 => ?_)
                    · exact K139 fr to co _ _ _ (by first | exact (if_pos (by omega)).symm | exact e2.trans (if_neg (by omega)).symm) (by first | exact (if_pos (by omega)).symm | exact e3.trans (if_neg (by omega)).symm) (by first | exact (if_pos (by omega)).symm | (rw [e4]; exact ((if_neg (by omega)).trans (if_pos ⟨by omega, b01_1.mp c123⟩)).symm) | exact e4.trans ((if_neg (by omega)).trans (if_neg (fun q => by omega))).symm | exact e4.trans ((if_neg (by omega)).trans (if_neg (fun q => absurd q.2 (by rw [b01_0.mp c123]; decide)))).symm) hw (lv_sub hl [1, 2, 3, 4, 5, 6, 7, 8, 0] rfl)
                    · refine lv_iload hx hb dX3_readInto_118 (lv_at hl 0 rfl) ?_
                      refine x_fSI (rest := []) (c_X3_isDigit l D k (wC k q z g (grd S 8 4 T) X) (S 18 i)) mo_X3_27 F hw (Nat.le_of_ble_eq_true rfl) (x_cs F (Nat.le_of_ble_eq_true rfl) (Nat.le_of_ble_eq_true rfl)) rfl rfl hl.1 (Nat.le_of_ble_eq_true rfl) dX3_readInto_120 (fun H locs hw => ?_)
                      refine lv_if_eq (tgt := 139) hx hb dX3_readInto_123 rfl (fun c123 => ?_) (fun c123 => ?_)
                      · exact K139 fr to co _ _ _ (by first | exact (if_pos (by omega)).symm | exact e2.trans (if_neg (by omega)).symm) (by first | exact (if_pos (by omega)).symm | exact e3.trans (if_neg (by omega)).symm) (by first | exact (if_pos (by omega)).symm | (rw [e4]; exact ((if_neg (by omega)).trans (if_pos ⟨by omega, b01_1.mp c123⟩)).symm) | exact e4.trans ((if_neg (by omega)).trans (if_neg (fun q => by omega))).symm | exact e4.trans ((if_neg (by omega)).trans (if_neg (fun q => absurd q.2 (by rw [b01_0.mp c123]; decide)))).symm) hw (lv_sub hl [1, 2, 3, 4, 5, 6, 7, 8, 0] rfl)
                      · refine lv_iload hx hb dX3_readInto_126 (lv_at hl 7 rfl) ?_
                        refine lv_bipush (v := nI 10) hx hb dX3_readInto_128 rfl ?_
                        refine lv_imul hx hb dX3_readInto_130 ?_
                        refine lv_iload hx hb dX3_readInto_131 (lv_at hl 0 rfl) ?_
                        refine lv_iadd hx hb dX3_readInto_133 ?_
                        refine lv_bipush (v := nI 48) hx hb dX3_readInto_134 rfl ?_
                        refine lv_isub hx hb dX3_readInto_136 ?_
                        refine lv_istore (lv' := [(6, .int (((co * (nI 10)) + (S 18 i)) - (nI 48))), (8, .int (S 18 i)), (0, .ref (q 17)), (1, .ref (q 7)), (2, .int (nI ln)), (3, .int (nI pl)), (4, .int fr), (5, .int to), (7, .int (nI i))]) hx hb dX3_readInto_137 hl (Nat.le_of_ble_eq_true rfl) rfl (fun ls hl => ?_)
                        exact K139 fr to (((co * (nI 10)) + (S 18 i)) - (nI 48)) _ _ _ (by first | exact (if_pos (by omega)).symm | exact e2.trans (if_neg (by omega)).symm) (by first | exact (if_pos (by omega)).symm | exact e3.trans (if_neg (by omega)).symm) (by first | exact (if_pos (by omega)).symm | (rw [e4]; exact ((if_neg (by omega)).trans (if_pos ⟨by omega, b01_1.mp c123⟩)).symm) | exact e4.trans ((if_neg (by omega)).trans (if_neg (fun q => by omega))).symm | exact e4.trans ((if_neg (by omega)).trans (if_neg (fun q => absurd q.2 (by rw [b01_0.mp c123]; decide)))).symm) hw (lv_sub hl [2, 3, 4, 5, 6, 7, 0, 8, 1] rfl)
                  · refine lv_iload hx hb dX3_readInto_103 (lv_at hl 0 rfl) ?_
                    refine lv_bipush (v := nI 48) hx hb dX3_readInto_105 rfl ?_
                    refine lv_isub hx hb dX3_readInto_107 ?_
                    refine lv_istore (lv' := [(6, .int ((S 18 i) - (nI 48))), (8, .int (S 18 i)), (0, .ref (q 17)), (1, .ref (q 7)), (2, .int (nI ln)), (3, .int (nI pl)), (4, .int fr), (5, .int to), (7, .int (nI i))]) hx hb dX3_readInto_108 hl (Nat.le_of_ble_eq_true rfl) rfl (fun ls hl => ?_)
                    refine lv_goto (tgt := 139) hx hb dX3_readInto_110 rfl ?_
                    exact K139 fr to ((S 18 i) - (nI 48)) _ _ _ (by first | exact (if_pos (by omega)).symm | exact e2.trans (if_neg (by omega)).symm) (by first | exact (if_pos (by omega)).symm | exact e3.trans (if_neg (by omega)).symm) (by first | exact (if_pos (by omega)).symm | (rw [e4]; exact ((if_neg (by omega)).trans (if_pos ⟨by omega, b01_1.mp c123⟩)).symm) | exact e4.trans ((if_neg (by omega)).trans (if_neg (fun q => by omega))).symm | exact e4.trans ((if_neg (by omega)).trans (if_neg (fun q => absurd q.2 (by rw [b01_0.mp c123]; decide)))).symm) hw (lv_sub hl [2, 3, 4, 5, 6, 7, 0, 8, 1] rfl)
                · refine lv_iload hx hb dX3_readInto_91 (lv_at hl 0 rfl) ?_
                  refine lv_istore (lv' := [(5, .int (S 18 i)), (8, .int (S 18 i)), (0, .ref (q 17)), (1, .ref (q 7)), (2, .int (nI ln)), (3, .int (nI pl)), (4, .int fr), (6, .int co), (7, .int (nI i))]) hx hb dX3_readInto_93 hl (Nat.le_of_ble_eq_true rfl) rfl (fun ls hl => ?_)
                  refine lv_goto (tgt := 139) hx hb dX3_readInto_95 rfl ?_
                  exact K139 fr (S 18 i) co _ _ _ (by first | exact (if_pos (by omega)).symm | exact e2.trans (if_neg (by omega)).symm) (by first | exact (if_pos (by omega)).symm | exact e3.trans (if_neg (by omega)).symm) (by first | exact (if_pos (by omega)).symm | (rw [e4]; exact ((if_neg (by omega)).trans (if_pos ⟨by omega, b01_1.mp c123⟩)).symm) | exact e4.trans ((if_neg (by omega)).trans (if_neg (fun q => by omega))).symm | exact e4.trans ((if_neg (by omega)).trans (if_neg (fun q => absurd q.2 (by rw [b01_0.mp c123]; decide)))).symm) hw (lv_sub hl [2, 3, 4, 5, 6, 0, 7, 8, 1] rfl)
              · refine lv_iload hx hb dX3_readInto_79 (lv_at hl 0 rfl) ?_
                refine lv_istore (lv' := [(4, .int (S 18 i)), (8, .int (S 18 i)), (0, .ref (q 17)), (1, .ref (q 7)), (2, .int (nI ln)), (3, .int (nI pl)), (5, .int to), (6, .int co), (7, .int (nI i))]) hx hb dX3_readInto_81 hl (Nat.le_of_ble_eq_true rfl) rfl (fun ls hl => ?_)
                refine lv_goto (tgt := 139) hx hb dX3_readInto_83 rfl ?_
                exact K139 (S 18 i) to co _ _ _ (by first | exact (if_pos (by omega)).symm | exact e2.trans (if_neg (by omega)).symm) (by first | exact (if_pos (by omega)).symm | exact e3.trans (if_neg (by omega)).symm) (by first | exact (if_pos (by omega)).symm | (rw [e4]; exact ((if_neg (by omega)).trans (if_pos ⟨by omega, b01_1.mp c123⟩)).symm) | exact e4.trans ((if_neg (by omega)).trans (if_neg (fun q => by omega))).symm | exact e4.trans ((if_neg (by omega)).trans (if_neg (fun q => absurd q.2 (by rw [b01_0.mp c123]; decide)))).symm) hw (lv_sub hl [2, 3, 4, 5, 0, 6, 7, 8, 1] rfl)
        exact K57 _ 0 0 0 (nI 0) (nI 0) (nI 0) T _ _ _ (Nat.lt_succ_self _) (by first | assumption | omega | rfl) (by rfl) (by rfl) (by rfl) (by rfl) (by rfl) (by rw [h1, show 4 * i = 16 by omega]; rfl) hw (lv_sub hl [6, 7, 5, 4, 3, 2, 1, 0] rfl)
      · refine lv_iconst (v := nI 0) hx hb dX3_readInto_7 rfl ?_
        refine lv_istore_n (lv' := [(3, .int (nI 0)), (0, .ref (q 17)), (1, .ref (q 7)), (2, .int (nI i))]) hx hb dX3_readInto_8 rfl hl (Nat.le_of_ble_eq_true rfl) rfl (fun ls hl => ?_)
        have K9 : ∀ (n9_ : Nat) (j : Nat) (T : Nat → Nat → Int32) (H : Heap) (locs : List Loc) (ls : Array Slot), 4 - j < n9_ → (j ≤ 4) → (T = inU (fun a => S (8 + a)) (4 * i + j)) → Wd D A s.heap H locs (wC k q z g (grd S 8 4 T) X) → lv_has ls 10 [(0, .ref (q 17)), (1, .ref (q 7)), (2, .int (nI i)), (3, .int (nI j))] → W p l e R s m args below meth c H locs 0 0 Q (F0 m 9 ls []) := by
          intro n9_
          induction n9_ with
          | zero =>
            intro j T H locs ls hn9_
            exact absurd hn9_ (Nat.not_lt_zero _)
          | succ n9_ ih9_ =>
            intro j T H locs ls hn9_ hj h2 hw hl
            refine lv_iload_n hx hb dX3_readInto_9 rfl (lv_at hl 3 rfl) ?_
            refine lv_iconst (v := nI 4) hx hb dX3_readInto_10 rfl ?_
            refine x_icmp_ge j 4 F (by omega) (by omega) (tgt := 35) dX3_readInto_11 rfl (fun c11 => ?_) (fun c11 => ?_)
            · refine lv_iinc (v := nI (i + 1)) (lv' := [(2, .int (nI (i + 1))), (0, .ref (q 17)), (1, .ref (q 7)), (3, .int (nI j))]) hx hb dX3_readInto_35 hl (k := 2) rfl (nI_1 _) (Nat.le_of_ble_eq_true rfl) rfl (fun ls hl => ?_)
              refine lv_goto (tgt := 2) hx hb dX3_readInto_38 rfl ?_
              exact ih2_ (i + 1) T _ _ _ (by first | omega | (simp only [] at *; omega)) (by first | assumption | omega | rfl) (by rw [h2, show 4 * i + j = 4 * (i + 1) by omega]) hw (lv_sub hl [1, 2, 0] rfl)
            · refine lv_aload_n hx hb dX3_readInto_14 rfl (lv_at hl 1 rfl) ?_
              refine lv_iload_n hx hb dX3_readInto_15 rfl (lv_at hl 2 rfl) ?_
              refine x_grow giC_7 F hw i rfl (by omega) dX3_readInto_16 ?_
              refine lv_iload_n hx hb dX3_readInto_17 rfl (lv_at hl 3 rfl) ?_
              refine lv_iload_n hx hb dX3_readInto_18 rfl (lv_at hl 2 rfl) ?_
              refine lv_iload_n hx hb dX3_readInto_19 rfl (lv_at hl 3 rfl) ?_
              have K28 : ∀ (x : Int32) (H : Heap) (locs : List Loc) (ls : Array Slot), (x = if i = j then nI 0 else (-1)) → Wd D A s.heap H locs (wC k q z g (grd S 8 4 T) X) → lv_has ls 10 [(0, .ref (q 17)), (1, .ref (q 7)), (2, .int (nI i)), (3, .int (nI j))] → W p l e R s m args below meth c H locs 0 0 Q (F0 m 28 ls [.int x, .int (nI j), .ref (q (8 + i))]) := by
                intro x H locs ls h28 hw hl
                refine x_iast (aiC_slip (j := i) (by omega)) F hw j rfl (by omega) dX3_readInto_28 (fun H locs hw => ?_)
                rw [grd_upd (by omega)] at hw
                refine lv_iinc (v := nI (j + 1)) (lv' := [(3, .int (nI (j + 1))), (0, .ref (q 17)), (1, .ref (q 7)), (2, .int (nI i))]) hx hb dX3_readInto_29 hl (k := 3) rfl (nI_1 _) (Nat.le_of_ble_eq_true rfl) rfl (fun ls hl => ?_)
                refine lv_goto (tgt := 9) hx hb dX3_readInto_32 rfl ?_
                exact ih9_ (j + 1) (va_up T i (upd (T i) j x)) _ _ _ (by first | omega | (simp only [] at *; omega)) (by first | assumption | omega | rfl) (by rw [h2]; exact inU_s (by omega) h28) hw (lv_sub hl [1, 2, 3, 0] rfl)
              refine x_icmp_ne i j F (by omega) (by omega) (tgt := 27) dX3_readInto_20 rfl (fun c20 => ?_) (fun c20 => ?_)
              · refine lv_iconst (v := (-1)) hx hb dX3_readInto_27 rfl ?_
                exact K28 (-1) _ _ _ (by first | exact (if_pos c20).symm | exact (if_neg c20).symm) hw (lv_sub hl [0, 1, 2, 3] rfl)
              · refine lv_iconst (v := nI 0) hx hb dX3_readInto_23 rfl ?_
                refine lv_goto (tgt := 28) hx hb dX3_readInto_24 rfl ?_
                exact K28 (nI 0) _ _ _ (by first | exact (if_pos c20).symm | exact (if_neg c20).symm) hw (lv_sub hl [0, 1, 2, 3] rfl)
        exact K9 _ 0 T _ _ _ (Nat.lt_succ_self _) (by first | assumption | omega | rfl) (by exact h1) hw (lv_sub hl [1, 2, 3, 0] rfl)
  exact K2 _ 0 (fun a => S (8 + a)) _ _ _ (Nat.lt_succ_self _) (by first | assumption | omega | rfl) (by exact inU_0.symm) hw (lv_sub hl [1, 2, 0] rfl)
end
section
/-! ===== covers: pure words ===== -/
def unitI (sk : Nat) : Int32 := nI 1 <<< ((nI 2 * (nI 7 - nI sk)) &&& 31)
/-- the search: fuel, stroke, what is open, ink, drawing; the best so far -/
def srF (pl th : Nat → Int32) : Nat → Nat → Int32 → Nat → Int32 → Nat × Int32 → Nat × Int32
  | 0, _, _, _, _, st => st
  | n + 1, sk, op, ik, dr, st =>
    if st.1 ≤ ik then st else if op = 0 then (ik, dr) else if 8 ≤ sk then st else
      srF pl th n (sk + 1) (op &&& (th sk ^^^ (-1))) (ik + 2) (dr + nI 3 * unitI sk)
        (srF pl th n (sk + 1) (op &&& (pl sk ^^^ (-1))) (ik + 1) (dr + nI 1 * unitI sk)
          (srF pl th n (sk + 1) op ik dr st))
theorem srF_le (pl th : Nat → Int32) : ∀ (n sk : Nat) (op : Int32) (ik : Nat) (dr : Int32) (st : Nat × Int32), (srF pl th n sk op ik dr st).1 ≤ st.1
  | 0, _, _, _, _, st => Nat.le_refl _
  | n + 1, sk, op, ik, dr, st => by
    unfold srF
    split
    · exact Nat.le_refl _
    · split
      · show ik ≤ st.1; omega
      · split
        · exact Nat.le_refl _
        · exact Nat.le_trans (srF_le pl th n _ _ _ _ _) (Nat.le_trans (srF_le pl th n _ _ _ _ _) (srF_le pl th n _ _ _ _ _))
theorem srF_a {pl th : Nat → Int32} {n sk : Nat} {op : Int32} {ik : Nat} {dr : Int32} {st : Nat × Int32} (h : st.1 ≤ ik) : srF pl th (n + 1) sk op ik dr st = st := by unfold srF; rw [if_pos h]
theorem srF_b {pl th : Nat → Int32} {n sk : Nat} {op : Int32} {ik : Nat} {dr : Int32} {st : Nat × Int32} (h : ¬ st.1 ≤ ik) (h2 : op = 0) : srF pl th (n + 1) sk op ik dr st = (ik, dr) := by unfold srF; rw [if_neg h, if_pos h2]
theorem srF_c {pl th : Nat → Int32} {n sk : Nat} {op : Int32} {ik : Nat} {dr : Int32} {st : Nat × Int32} (h : ¬ st.1 ≤ ik) (h2 : ¬ op = 0) (h3 : 8 ≤ sk) : srF pl th (n + 1) sk op ik dr st = st := by unfold srF; rw [if_neg h, if_neg h2, if_pos h3]
theorem srF_d {pl th : Nat → Int32} {n sk : Nat} {op : Int32} {ik : Nat} {dr : Int32} {st : Nat × Int32} (h : ¬ st.1 ≤ ik) (h2 : ¬ op = 0) (h3 : ¬ 8 ≤ sk) : srF pl th (n + 1) sk op ik dr st = srF pl th n (sk + 1) (op &&& (th sk ^^^ (-1))) (ik + 2) (dr + nI 3 * unitI sk) (srF pl th n (sk + 1) (op &&& (pl sk ^^^ (-1))) (ik + 1) (dr + nI 1 * unitI sk) (srF pl th n (sk + 1) op ik dr st)) := by
  conv => lhs; unfold srF
  rw [if_neg h, if_neg h2, if_neg h3]
def bst (S : St) (t : Nat × Int32) : St := va_up (va_up S 51 (fun _ => nI t.1)) 52 (fun _ => t.2)
set_option maxHeartbeats 4000000 in
set_option maxRecDepth 20000 in
theorem c_X2_search_0 (l : Launch) (D : va_G) (k : Nat → ClassId) (q z : Nat → Nat) (g : Nat → Option Nat) (S : St) (X : va_W)  : ∀ (sk : Nat) (op : Int32) (ik : Nat) (dr : Int32) (t : Nat × Int32), sk + 0 = 8 → ik ≤ 2 * sk → t.1 ≤ 17 → CV l D k yX2_search cX2_search 6 0 0 0 [.ref (q 32), .int (nI sk), .int op, .int (nI ik), .int dr] (wC k q z g (bst S t) X) (fun w' => w' = wC k q z g (bst S (srF (S 15) (S 16) (0 + 1) sk op ik dr t)) X) := by
  intro sk op ik dr t h8 hik h17
  refine CV.mk (by decide) (Nat.le_of_ble_eq_true rfl) ?_
  intro p e R s m args below meth c A Q ls F hnm hret hw hl
  have hx := xs_hx F
  have hb := xs_hb F
  have hl : lv_has ls 6 [(0, .ref (q 32)), (1, .int (nI sk)), (2, .int op), (3, .int (nI ik)), (4, .int dr)] := hl
  refine lv_iload_n hx hb dX2_search_0 rfl (lv_at hl 3 rfl) ?_
  refine lv_aload_n hx hb dX2_search_1 rfl (lv_at hl 0 rfl) ?_
  refine x_geti fiC_51 F hw fo_X2_15 dX2_search_2 ?_
  refine x_top (y := nI (t.1)) rfl ?_
  refine x_icmp_lt ik t.1 F (by omega) (by omega) (tgt := 9) dX2_search_5 rfl (fun c5 => ?_) (fun c5 => ?_)
  · refine lv_iload_n hx hb dX2_search_9 rfl (lv_at hl 2 rfl) ?_
    refine lv_if_ne (tgt := 25) hx hb dX2_search_10 rfl (fun c10 => ?_) (fun c10 => ?_)
    · refine lv_iload_n hx hb dX2_search_25 rfl (lv_at hl 1 rfl) ?_
      refine lv_bipush (v := nI 8) hx hb dX2_search_26 rfl ?_
      refine x_icmp_lt sk 8 F (by omega) (by omega) (tgt := 32) dX2_search_28 rfl (fun c28 => ?_) (fun c28 => ?_)
      · exact absurd c28 (by omega)
      · exact hret _ _ _ _ _ dX2_search_31 hw (by rw [srF_c (by omega) c10 c28])
    · refine lv_aload_n hx hb dX2_search_13 rfl (lv_at hl 0 rfl) ?_
      refine lv_iload_n hx hb dX2_search_14 rfl (lv_at hl 3 rfl) ?_
      refine x_puti fiC_51 F hw fo_X2_15 rfl rfl dX2_search_15 (fun H locs hw => ?_)
      refine lv_aload_n hx hb dX2_search_18 rfl (lv_at hl 0 rfl) ?_
      refine lv_iload hx hb dX2_search_19 (lv_at hl 4 rfl) ?_
      refine x_puti fiC_52 F hw fo_X2_19 rfl rfl dX2_search_21 (fun H locs hw => ?_)
      exact hret _ _ _ _ _ dX2_search_24 hw (by rw [srF_b (by omega) c10]; rfl)
  · exact hret _ _ _ _ _ dX2_search_8 hw (by rw [srF_a c5])
set_option maxHeartbeats 4000000 in
set_option maxRecDepth 20000 in
theorem c_X2_search_s (l : Launch) (D : va_G) (k : Nat → ClassId) (q z : Nat → Nat) (g : Nat → Option Nat) (S : St) (X : va_W) (n : Nat) (ih : ∀ (sk : Nat) (op : Int32) (ik : Nat) (dr : Int32) (t : Nat × Int32), sk + n = 8 → ik ≤ 2 * sk → t.1 ≤ 17 → CV l D k yX2_search cX2_search 6 n 0 0 [.ref (q 32), .int (nI sk), .int op, .int (nI ik), .int dr] (wC k q z g (bst S t) X) (fun w' => w' = wC k q z g (bst S (srF (S 15) (S 16) (n + 1) sk op ik dr t)) X)) : ∀ (sk : Nat) (op : Int32) (ik : Nat) (dr : Int32) (t : Nat × Int32), sk + (n + 1) = 8 → ik ≤ 2 * sk → t.1 ≤ 17 → CV l D k yX2_search cX2_search 6 (n + 1) 0 0 [.ref (q 32), .int (nI sk), .int op, .int (nI ik), .int dr] (wC k q z g (bst S t) X) (fun w' => w' = wC k q z g (bst S (srF (S 15) (S 16) ((n + 1) + 1) sk op ik dr t)) X) := by
  intro sk op ik dr t h8 hik h17
  refine CV.mk (by decide) (Nat.le_of_ble_eq_true rfl) ?_
  intro p e R s m args below meth c A Q ls F hnm hret hw hl
  have hx := xs_hx F
  have hb := xs_hb F
  have hl : lv_has ls 6 [(0, .ref (q 32)), (1, .int (nI sk)), (2, .int op), (3, .int (nI ik)), (4, .int dr)] := hl
  refine lv_iload_n hx hb dX2_search_0 rfl (lv_at hl 3 rfl) ?_
  refine lv_aload_n hx hb dX2_search_1 rfl (lv_at hl 0 rfl) ?_
  refine x_geti fiC_51 F hw fo_X2_15 dX2_search_2 ?_
  refine x_top (y := nI (t.1)) rfl ?_
  refine x_icmp_lt ik t.1 F (by omega) (by omega) (tgt := 9) dX2_search_5 rfl (fun c5 => ?_) (fun c5 => ?_)
  · refine lv_iload_n hx hb dX2_search_9 rfl (lv_at hl 2 rfl) ?_
    refine lv_if_ne (tgt := 25) hx hb dX2_search_10 rfl (fun c10 => ?_) (fun c10 => ?_)
    · refine lv_iload_n hx hb dX2_search_25 rfl (lv_at hl 1 rfl) ?_
      refine lv_bipush (v := nI 8) hx hb dX2_search_26 rfl ?_
      refine x_icmp_lt sk 8 F (by omega) (by omega) (tgt := 32) dX2_search_28 rfl (fun c28 => ?_) (fun c28 => ?_)
      · refine lv_iconst (v := nI 1) hx hb dX2_search_32 rfl ?_
        refine lv_iconst (v := nI 2) hx hb dX2_search_33 rfl ?_
        refine lv_bipush (v := nI 7) hx hb dX2_search_34 rfl ?_
        refine lv_iload_n hx hb dX2_search_36 rfl (lv_at hl 1 rfl) ?_
        refine lv_isub hx hb dX2_search_37 ?_
        refine lv_imul hx hb dX2_search_38 ?_
        refine lv_ishl hx hb dX2_search_39 ?_
        refine x_top (y := unitI sk) rfl ?_
        refine lv_istore (lv' := [(5, .int (unitI sk)), (0, .ref (q 32)), (1, .int (nI sk)), (2, .int op), (3, .int (nI ik)), (4, .int dr)]) hx hb dX2_search_40 hl (Nat.le_of_ble_eq_true rfl) rfl (fun ls hl => ?_)
        refine lv_aload_n hx hb dX2_search_42 rfl (lv_at hl 1 rfl) ?_
        refine lv_iload_n hx hb dX2_search_43 rfl (lv_at hl 2 rfl) ?_
        refine lv_iconst (v := nI 1) hx hb dX2_search_44 rfl ?_
        refine lv_iadd hx hb dX2_search_45 ?_
        refine x_top (y := nI (sk + 1)) (nI_add _ _) ?_
        refine lv_iload_n hx hb dX2_search_46 rfl (lv_at hl 3 rfl) ?_
        refine lv_iload_n hx hb dX2_search_47 rfl (lv_at hl 4 rfl) ?_
        refine lv_iload hx hb dX2_search_48 (lv_at hl 5 rfl) ?_
        refine x_fSV (rest := []) (ih (sk + 1) op ik dr t (by omega) (by omega) (by omega)) mo_X2_22 F hw (Nat.le_refl _) (x_cs F (Nat.le_of_ble_eq_true rfl) (Nat.le_of_ble_eq_true rfl)) rfl rfl hl.1 (Nat.le_of_ble_eq_true rfl) dX2_search_50 (fun H locs hw => ?_)
        obtain ⟨t1, et1⟩ : ∃ t_, t_ = srF (S 15) (S 16) (n + 1) (sk + 1) op ik dr t := ⟨_, rfl⟩
        have lt1 : t1.1 ≤ 17 := by have := srF_le (S 15) (S 16) (n + 1) (sk + 1) op ik dr t; rw [← et1] at this; omega
        rw [← et1] at hw
        refine lv_aload_n hx hb dX2_search_53 rfl (lv_at hl 1 rfl) ?_
        refine lv_iload_n hx hb dX2_search_54 rfl (lv_at hl 2 rfl) ?_
        refine lv_iconst (v := nI 1) hx hb dX2_search_55 rfl ?_
        refine lv_iadd hx hb dX2_search_56 ?_
        refine x_top (y := nI (sk + 1)) (nI_add _ _) ?_
        refine lv_iload_n hx hb dX2_search_57 rfl (lv_at hl 3 rfl) ?_
        refine lv_aload_n hx hb dX2_search_58 rfl (lv_at hl 1 rfl) ?_
        refine x_getr frC_32_0 F hw fo_X2_9 dX2_search_59 ?_
        refine x_getr frC_2_10 F hw fo_X2_26 dX2_search_62 ?_
        refine lv_iload_n hx hb dX2_search_65 rfl (lv_at hl 2 rfl) ?_
        refine x_iald aiC_15 F hw sk rfl (by omega) dX2_search_66 ?_
        refine x_top (y := S 15 sk) rfl ?_
        refine lv_iconst (v := (-1)) hx hb dX2_search_67 rfl ?_
        refine lv_ixor hx hb dX2_search_68 ?_
        refine lv_iand hx hb dX2_search_69 ?_
        refine lv_iload_n hx hb dX2_search_70 rfl (lv_at hl 4 rfl) ?_
        refine lv_iconst (v := nI 1) hx hb dX2_search_71 rfl ?_
        refine lv_iadd hx hb dX2_search_72 ?_
        refine x_top (y := nI (ik + 1)) (nI_add _ _) ?_
        refine lv_iload hx hb dX2_search_73 (lv_at hl 5 rfl) ?_
        refine lv_iconst (v := nI 1) hx hb dX2_search_75 rfl ?_
        refine lv_iload hx hb dX2_search_76 (lv_at hl 0 rfl) ?_
        refine lv_imul hx hb dX2_search_78 ?_
        refine lv_iadd hx hb dX2_search_79 ?_
        refine x_fSV (rest := []) (ih (sk + 1) (op &&& (S 15 sk ^^^ (-1))) (ik + 1) (dr + nI 1 * unitI sk) t1 (by omega) (by omega) (by omega)) mo_X2_22 F hw (Nat.le_refl _) (x_cs F (Nat.le_of_ble_eq_true rfl) (Nat.le_of_ble_eq_true rfl)) rfl rfl hl.1 (Nat.le_of_ble_eq_true rfl) dX2_search_80 (fun H locs hw => ?_)
        obtain ⟨t2, et2⟩ : ∃ t_, t_ = srF (S 15) (S 16) (n + 1) (sk + 1) (op &&& (S 15 sk ^^^ (-1))) (ik + 1) (dr + nI 1 * unitI sk) t1 := ⟨_, rfl⟩
        have lt2 : t2.1 ≤ 17 := by have := srF_le (S 15) (S 16) (n + 1) (sk + 1) (op &&& (S 15 sk ^^^ (-1))) (ik + 1) (dr + nI 1 * unitI sk) t1; rw [← et2] at this; omega
        rw [← et2] at hw
        refine lv_aload_n hx hb dX2_search_83 rfl (lv_at hl 1 rfl) ?_
        refine lv_iload_n hx hb dX2_search_84 rfl (lv_at hl 2 rfl) ?_
        refine lv_iconst (v := nI 1) hx hb dX2_search_85 rfl ?_
        refine lv_iadd hx hb dX2_search_86 ?_
        refine x_top (y := nI (sk + 1)) (nI_add _ _) ?_
        refine lv_iload_n hx hb dX2_search_87 rfl (lv_at hl 3 rfl) ?_
        refine lv_aload_n hx hb dX2_search_88 rfl (lv_at hl 1 rfl) ?_
        refine x_getr frC_32_0 F hw fo_X2_9 dX2_search_89 ?_
        refine x_getr frC_2_11 F hw fo_X2_32 dX2_search_92 ?_
        refine lv_iload_n hx hb dX2_search_95 rfl (lv_at hl 2 rfl) ?_
        refine x_iald aiC_16 F hw sk rfl (by omega) dX2_search_96 ?_
        refine x_top (y := S 16 sk) rfl ?_
        refine lv_iconst (v := (-1)) hx hb dX2_search_97 rfl ?_
        refine lv_ixor hx hb dX2_search_98 ?_
        refine lv_iand hx hb dX2_search_99 ?_
        refine lv_iload_n hx hb dX2_search_100 rfl (lv_at hl 4 rfl) ?_
        refine lv_iconst (v := nI 2) hx hb dX2_search_101 rfl ?_
        refine lv_iadd hx hb dX2_search_102 ?_
        refine x_top (y := nI (ik + 2)) (nI_add _ _) ?_
        refine lv_iload hx hb dX2_search_103 (lv_at hl 5 rfl) ?_
        refine lv_iconst (v := nI 3) hx hb dX2_search_105 rfl ?_
        refine lv_iload hx hb dX2_search_106 (lv_at hl 0 rfl) ?_
        refine lv_imul hx hb dX2_search_108 ?_
        refine lv_iadd hx hb dX2_search_109 ?_
        refine x_fSV (rest := []) (ih (sk + 1) (op &&& (S 16 sk ^^^ (-1))) (ik + 2) (dr + nI 3 * unitI sk) t2 (by omega) (by omega) (by omega)) mo_X2_22 F hw (Nat.le_refl _) (x_cs F (Nat.le_of_ble_eq_true rfl) (Nat.le_of_ble_eq_true rfl)) rfl rfl hl.1 (Nat.le_of_ble_eq_true rfl) dX2_search_110 (fun H locs hw => ?_)
        obtain ⟨t3, et3⟩ : ∃ t_, t_ = srF (S 15) (S 16) (n + 1) (sk + 1) (op &&& (S 16 sk ^^^ (-1))) (ik + 2) (dr + nI 3 * unitI sk) t2 := ⟨_, rfl⟩
        have lt3 : t3.1 ≤ 17 := by have := srF_le (S 15) (S 16) (n + 1) (sk + 1) (op &&& (S 16 sk ^^^ (-1))) (ik + 2) (dr + nI 3 * unitI sk) t2; rw [← et3] at this; omega
        rw [← et3] at hw
        exact hret _ _ _ _ _ dX2_search_113 hw (by rw [srF_d (by omega) c10 (by omega), ← et1, ← et2, ← et3])
      · exact hret _ _ _ _ _ dX2_search_31 hw (by rw [srF_c (by omega) c10 c28])
    · refine lv_aload_n hx hb dX2_search_13 rfl (lv_at hl 0 rfl) ?_
      refine lv_iload_n hx hb dX2_search_14 rfl (lv_at hl 3 rfl) ?_
      refine x_puti fiC_51 F hw fo_X2_15 rfl rfl dX2_search_15 (fun H locs hw => ?_)
      refine lv_aload_n hx hb dX2_search_18 rfl (lv_at hl 0 rfl) ?_
      refine lv_iload hx hb dX2_search_19 (lv_at hl 4 rfl) ?_
      refine x_puti fiC_52 F hw fo_X2_19 rfl rfl dX2_search_21 (fun H locs hw => ?_)
      exact hret _ _ _ _ _ dX2_search_24 hw (by rw [srF_b (by omega) c10]; rfl)
  · exact hret _ _ _ _ _ dX2_search_8 hw (by rw [srF_a c5])
theorem c_X2_search (l : Launch) (D : va_G) (k : Nat → ClassId) (q z : Nat → Nat) (g : Nat → Option Nat) (S : St) (X : va_W) (n : Nat) : ∀ (sk : Nat) (op : Int32) (ik : Nat) (dr : Int32) (t : Nat × Int32), sk + n = 8 → ik ≤ 2 * sk → t.1 ≤ 17 → CV l D k yX2_search cX2_search 6 n 0 0 [.ref (q 32), .int (nI sk), .int op, .int (nI ik), .int dr] (wC k q z g (bst S t) X) (fun w' => w' = wC k q z g (bst S (srF (S 15) (S 16) (n + 1) sk op ik dr t)) X) := by
  induction n with
  | zero => exact c_X2_search_0 l D k q z g S X
  | succ n ih => exact c_X2_search_s l D k q z g S X n ih
set_option maxHeartbeats 4000000 in
set_option maxRecDepth 20000 in
theorem c_X2_leastOver (l : Launch) (D : va_G) (k : Nat → ClassId) (q z : Nat → Nat) (g : Nat → Option Nat) (S : St) (X : va_W) (op : Int32) : CI l D k yX2_leastOver cX2_leastOver 2 (some .int) 9 0 0 [.ref (q 32), .int op] (wC k q z g S X) (fun r w' => w' = wC k q z g (bst S (srF (S 15) (S 16) 9 0 op 0 (nI 0) (17, (-6)))) X ∧ r = (srF (S 15) (S 16) 9 0 op 0 (nI 0) (17, (-6))).2) := by
  refine CI.mk (by decide) (Nat.le_of_ble_eq_true rfl) ?_
  intro p e R s m args below meth c A Q ls F hret hw hl
  have hx := xs_hx F
  have hb := xs_hb F
  have hl : lv_has ls 2 [(0, .ref (q 32)), (1, .int op)] := hl
  refine lv_aload_n hx hb dX2_leastOver_0 rfl (lv_at hl 0 rfl) ?_
  refine lv_bipush (v := nI 17) hx hb dX2_leastOver_1 rfl ?_
  refine x_puti fiC_51 F hw fo_X2_15 rfl rfl dX2_leastOver_3 (fun H locs hw => ?_)
  refine lv_aload_n hx hb dX2_leastOver_6 rfl (lv_at hl 0 rfl) ?_
  refine lv_bipush (v := (-6)) hx hb dX2_leastOver_7 rfl ?_
  refine x_puti fiC_52 F hw fo_X2_19 rfl rfl dX2_leastOver_9 (fun H locs hw => ?_)
  refine lv_aload_n hx hb dX2_leastOver_12 rfl (lv_at hl 0 rfl) ?_
  refine lv_iconst (v := nI 0) hx hb dX2_leastOver_13 rfl ?_
  refine lv_iload_n hx hb dX2_leastOver_14 rfl (lv_at hl 1 rfl) ?_
  refine lv_iconst (v := nI 0) hx hb dX2_leastOver_15 rfl ?_
  refine lv_iconst (v := nI 0) hx hb dX2_leastOver_16 rfl ?_
  have hw : Wd D A s.heap H locs (wC k q z g (bst S (17, (-6))) X) := hw
  refine x_fSV (rest := []) (c_X2_search l D k q z g S X 8 0 op 0 (nI 0) (17, (-6)) rfl (Nat.le_refl _) (Nat.le_refl _)) mo_X2_22 F hw (Nat.le_of_ble_eq_true rfl) (x_cs F (Nat.le_of_ble_eq_true rfl) (Nat.le_of_ble_eq_true rfl)) rfl rfl hl.1 (Nat.le_of_ble_eq_true rfl) dX2_leastOver_17 (fun H locs hw => ?_)
  refine lv_aload_n hx hb dX2_leastOver_20 rfl (lv_at hl 0 rfl) ?_
  refine x_geti fiC_52 F hw fo_X2_19 dX2_leastOver_21 ?_
  exact hret _ _ _ _ _ _ dX2_leastOver_24 hw rfl ⟨rfl, rfl⟩
end
