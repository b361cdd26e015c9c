/-! ===== the face: lost, under, trees ===== -/
def undB (dr hi od : Int32) : Bool := allB (fun j => stk od j == 0 || hbt hi j || stk od j == stk dr j) 8
def p_under (S : St) (dr : Int32) : Int32 := if isDr dr = 0 then (-2) else orB (fun p => undB dr (hidF (S 15) (S 16) dr 8) (S 3 p)) (picN S)
theorem LR.okR {S S' : St} {z : Nat → Nat} (h : LR S S' z) : okR S' z := by
  obtain ⟨-, -, ⟨h1, -⟩, h2, h3, h4⟩ := h
  have e : treN S' = (tA S').length := by unfold treN; rw [h1]; exact nI_clamp (by omega)
  exact ⟨by rw [e]; exact h1, by omega, by omega, by omega, by omega⟩
theorem LR.okQ {S S' : St} {z : Nat → Nat} (h : LR S S' z) (hP : okP S) : okQ S' := by
  obtain ⟨h0, -, ⟨-, -, h1, -⟩, -⟩ := h
  have e1 : S' 46 0 = S 40 0 := h1.trans (by rw [h0 40 (by omega)])
  have e : tpiN S' = picN S := by unfold tpiN picN; rw [e1]
  exact ⟨by rw [e, e1]; exact hP.1, by rw [e]; exact hP.2⟩
def p_lost (S : St) (pi : Int32) (o : Int32) (wh : Int32) : Int32 × St := if pi = (-1) then if ((o.toUInt32 >>> ((nI (picN S)).toUInt32 &&& Int32.toUInt32 31)).toInt32) = 0 then if pi < 0 then if o = 0 then ((-2), S) else if (f_in wh (nI 0) (nI 2)) = 0 then ((-2), S) else if wh = 0 then (nI ((ldN (slC S) (S 3) (picN S) pi o 8)), S) else if wh = (nI 1) then (thrF (slC S) (S 3) (picN S) (S 12 0) pi (nI ((ldN (slC S) (S 3) (picN S) pi o 8))) o, S) else (((nI 10000) + (strF (slC S) (S 3) (picN S) (S 12 0) pi o)) - (thrF (slC S) (S 3) (picN S) (S 12 0) pi (nI ((ldN (slC S) (S 3) (picN S) pi o 8))) o), S) else if (b01 (hbt o (clN pi))) = 0 then if o = 0 then ((-2), S) else if (f_in wh (nI 0) (nI 2)) = 0 then ((-2), S) else if wh = 0 then (nI ((ldN (slC S) (S 3) (picN S) pi o 8)), S) else if wh = (nI 1) then (thrF (slC S) (S 3) (picN S) (S 12 0) pi (nI ((ldN (slC S) (S 3) (picN S) pi o 8))) o, S) else (((nI 10000) + (strF (slC S) (S 3) (picN S) (S 12 0) pi o)) - (thrF (slC S) (S 3) (picN S) (S 12 0) pi (nI ((ldN (slC S) (S 3) (picN S) pi o 8))) o), S) else if o = 0 then ((-2), S) else ((-2), S) else ((-1), S) else if (haP S pi) = 0 then ((-1), S) else if ((o.toUInt32 >>> ((nI (picN S)).toUInt32 &&& Int32.toUInt32 31)).toInt32) = 0 then if pi < 0 then if o = 0 then ((-2), S) else if (f_in wh (nI 0) (nI 2)) = 0 then ((-2), S) else if wh = 0 then (nI ((ldN (slC S) (S 3) (picN S) pi o 8)), S) else if wh = (nI 1) then (thrF (slC S) (S 3) (picN S) (S 12 0) pi (nI ((ldN (slC S) (S 3) (picN S) pi o 8))) o, S) else (((nI 10000) + (strF (slC S) (S 3) (picN S) (S 12 0) pi o)) - (thrF (slC S) (S 3) (picN S) (S 12 0) pi (nI ((ldN (slC S) (S 3) (picN S) pi o 8))) o), S) else if (b01 (hbt o (clN pi))) = 0 then if o = 0 then ((-2), S) else if (f_in wh (nI 0) (nI 2)) = 0 then ((-2), S) else if wh = 0 then (nI ((ldN (slC S) (S 3) (picN S) pi o 8)), S) else if wh = (nI 1) then (thrF (slC S) (S 3) (picN S) (S 12 0) pi (nI ((ldN (slC S) (S 3) (picN S) pi o 8))) o, S) else (((nI 10000) + (strF (slC S) (S 3) (picN S) (S 12 0) pi o)) - (thrF (slC S) (S 3) (picN S) (S 12 0) pi (nI ((ldN (slC S) (S 3) (picN S) pi o 8))) o), S) else if o = 0 then ((-2), S) else ((-2), S) else ((-1), S)
set_option maxHeartbeats 4000000 in
set_option maxRecDepth 20000 in
theorem c_X6_lost (l : Launch) (D : va_G) (k : Nat → ClassId) (q z : Nat → Nat) (g : Nat → Option Nat) (S : St) (X : va_W) (pi : Int32) (o : Int32) (wh : Int32) (hP : okP S) : CI l D k yX6_lost cX6_lost 7 (some .int) 3 0 0 [.ref (q 0), .int pi, .int o, .int wh] (wC k q z g S X) (fun r w' => w' = wC k q z g ((p_lost S pi o wh).2) X ∧ r = (p_lost S pi o wh).1) := by
  refine CI.mk (by decide) (Nat.le_of_ble_eq_true rfl) ?_
  intro p e R s m args below meth c A Q ls F hret hw hl
  have hx := xs_hx F
  have hb := xs_hb F
  have hl : lv_has ls 7 [(0, .ref (q 0)), (1, .int pi), (2, .int o), (3, .int wh)] := hl
  have h6 := hP.2
  refine lv_iload_n hx hb dX6_lost_0 rfl (lv_at hl 1 rfl) ?_
  refine lv_iconst (v := (-1)) hx hb dX6_lost_1 rfl ?_
  refine lv_icmp_eq (tgt := 18) hx hb dX6_lost_2 rfl (fun c2 => ?_) (fun c2 => ?_)
  · have hpi6 : 0 ≤ pi → clN pi < 6 := fun q => by rw [c2] at q; exact absurd q (by decide)
    refine lv_iload_n hx hb dX6_lost_18 rfl (lv_at hl 2 rfl) ?_
    refine lv_aload_n hx hb dX6_lost_19 rfl (lv_at hl 0 rfl) ?_
    refine x_getr frC_0_0 F hw fo_X6_10 dX6_lost_20 ?_
    refine x_geti fiC_40 F hw fo_X6_65 dX6_lost_23 ?_
    refine x_top (y := nI (picN S)) hP.1 ?_
    refine lv_iushr (v := ((o.toUInt32 >>> ((nI (picN S)).toUInt32 &&& Int32.toUInt32 31)).toInt32)) hx hb dX6_lost_26 rfl ?_
    refine lv_if_eq (tgt := 32) hx hb dX6_lost_27 rfl (fun c27 => ?_) (fun c27 => ?_)
    · refine lv_iload_n hx hb dX6_lost_32 rfl (lv_at hl 1 rfl) ?_
      refine lv_if_lt (tgt := 48) hx hb dX6_lost_33 rfl (fun c33 => ?_) (fun c33 => ?_)
      · refine lv_iconst (v := nI 0) hx hb dX6_lost_48 rfl ?_
        refine lv_istore (lv' := [(4, .int (nI 0)), (0, .ref (q 0)), (1, .int pi), (2, .int o), (3, .int wh)]) hx hb dX6_lost_49 hl (Nat.le_of_ble_eq_true rfl) rfl (fun ls hl => ?_)
        refine lv_iload_n hx hb dX6_lost_51 rfl (lv_at hl 3 rfl) ?_
        refine lv_if_eq (tgt := 69) hx hb dX6_lost_52 rfl (fun c52 => ?_) (fun c52 => ?_)
        · refine lv_bipush (v := (-2)) hx hb dX6_lost_69 rfl ?_
          have e9 : p_lost S pi o wh = ((-2), S) := by unfold p_lost; rw [if_pos c2, if_pos c27, if_pos c33, if_pos c52]
          exact hret _ _ _ _ _ _ dX6_lost_71 hw rfl ⟨by rw [e9] <;> rfl, by rw [e9] <;> rfl⟩
        · refine lv_iload hx hb dX6_lost_55 (lv_at hl 0 rfl) ?_
          refine x_if_ne 0 F (by omega) (tgt := 69) dX6_lost_57 rfl (fun c57 => ?_) (fun c57 => ?_)
          · exact absurd c57 (by decide)
          · refine lv_iload_n hx hb dX6_lost_60 rfl (lv_at hl 4 rfl) ?_
            refine lv_iconst (v := nI 0) hx hb dX6_lost_61 rfl ?_
            refine lv_iconst (v := nI 2) hx hb dX6_lost_62 rfl ?_
            refine x_fSI (rest := []) (c_X6_within l D k (wC k q z g S X) wh (nI 0) (nI 2)) mo_X6_93 F hw (Nat.le_of_ble_eq_true rfl) (x_cs F (Nat.le_of_ble_eq_true rfl) (Nat.le_of_ble_eq_true rfl)) rfl rfl hl.1 (Nat.le_of_ble_eq_true rfl) dX6_lost_63 (fun H locs hw => ?_)
            refine lv_if_ne (tgt := 72) hx hb dX6_lost_66 rfl (fun c66 => ?_) (fun c66 => ?_)
            · refine lv_aload_n hx hb dX6_lost_72 rfl (lv_at hl 1 rfl) ?_
              refine x_getr frC_0_0 F hw fo_X6_10 dX6_lost_73 ?_
              refine lv_iload_n hx hb dX6_lost_76 rfl (lv_at hl 2 rfl) ?_
              refine lv_iload_n hx hb dX6_lost_77 rfl (lv_at hl 3 rfl) ?_
              refine x_fVI (rest := []) (c_X1_lostDrawing l D k q z g S X pi o (by exact hP) (by exact hpi6)) mo_X6_155 obC_2 F hw (Nat.le_of_ble_eq_true rfl) (x_cs F (Nat.le_of_ble_eq_true rfl) (Nat.le_of_ble_eq_true rfl)) rfl rfl hl.1 (Nat.le_of_ble_eq_true rfl) dX6_lost_78 (fun H locs hw => ?_)
              refine lv_istore (lv' := [(5, .int (nI ((ldN (slC S) (S 3) (picN S) pi o 8)))), (4, .int (nI 0)), (0, .ref (q 0)), (1, .int pi), (2, .int o), (3, .int wh)]) hx hb dX6_lost_81 hl (Nat.le_of_ble_eq_true rfl) rfl (fun ls hl => ?_)
              refine lv_iload_n hx hb dX6_lost_83 rfl (lv_at hl 5 rfl) ?_
              refine lv_if_ne (tgt := 90) hx hb dX6_lost_84 rfl (fun c84 => ?_) (fun c84 => ?_)
              · refine lv_aload_n hx hb dX6_lost_90 rfl (lv_at hl 2 rfl) ?_
                refine x_getr frC_0_0 F hw fo_X6_10 dX6_lost_91 ?_
                refine lv_iload_n hx hb dX6_lost_94 rfl (lv_at hl 3 rfl) ?_
                refine lv_iload hx hb dX6_lost_95 (lv_at hl 0 rfl) ?_
                refine lv_iload_n hx hb dX6_lost_97 rfl (lv_at hl 4 rfl) ?_
                refine x_fVI (rest := []) (c_X1_throughCost l D k q z g S X pi (nI ((ldN (slC S) (S 3) (picN S) pi o 8))) o (by exact hP) (by exact hpi6)) mo_X6_158 obC_2 F hw (Nat.le_of_ble_eq_true rfl) (x_cs F (Nat.le_of_ble_eq_true rfl) (Nat.le_of_ble_eq_true rfl)) rfl rfl hl.1 (Nat.le_of_ble_eq_true rfl) dX6_lost_98 (fun H locs hw => ?_)
                refine lv_istore (lv' := [(6, .int (thrF (slC S) (S 3) (picN S) (S 12 0) pi (nI ((ldN (slC S) (S 3) (picN S) pi o 8))) o)), (5, .int (nI ((ldN (slC S) (S 3) (picN S) pi o 8)))), (4, .int (nI 0)), (0, .ref (q 0)), (1, .int pi), (2, .int o), (3, .int wh)]) hx hb dX6_lost_101 hl (Nat.le_of_ble_eq_true rfl) rfl (fun ls hl => ?_)
                refine lv_iload_n hx hb dX6_lost_103 rfl (lv_at hl 6 rfl) ?_
                refine lv_iconst (v := nI 1) hx hb dX6_lost_104 rfl ?_
                refine lv_icmp_ne (tgt := 113) hx hb dX6_lost_105 rfl (fun c105 => ?_) (fun c105 => ?_)
                · refine lv_sipush (v := nI 10000) hx hb dX6_lost_113 rfl ?_
                  refine lv_aload_n hx hb dX6_lost_116 rfl (lv_at hl 3 rfl) ?_
                  refine x_getr frC_0_0 F hw fo_X6_10 dX6_lost_117 ?_
                  refine lv_iload_n hx hb dX6_lost_120 rfl (lv_at hl 4 rfl) ?_
                  refine lv_iload_n hx hb dX6_lost_121 rfl (lv_at hl 5 rfl) ?_
                  refine x_fVI (rest := [.int (nI 10000)]) (c_X1_straightCost l D k q z g S X pi o (by exact hP) (by exact hpi6)) mo_X6_161 obC_2 F hw (Nat.le_of_ble_eq_true rfl) (x_cs F (Nat.le_of_ble_eq_true rfl) (Nat.le_of_ble_eq_true rfl)) rfl rfl hl.1 (Nat.le_of_ble_eq_true rfl) dX6_lost_122 (fun H locs hw => ?_)
                  refine lv_iadd hx hb dX6_lost_125 ?_
                  refine lv_iload hx hb dX6_lost_126 (lv_at hl 0 rfl) ?_
                  refine lv_isub hx hb dX6_lost_128 ?_
                  have e9 : p_lost S pi o wh = (((nI 10000) + (strF (slC S) (S 3) (picN S) (S 12 0) pi o)) - (thrF (slC S) (S 3) (picN S) (S 12 0) pi (nI ((ldN (slC S) (S 3) (picN S) pi o 8))) o), S) := by unfold p_lost; rw [if_pos c2, if_pos c27, if_pos c33, if_neg c52, if_neg c66, if_neg c84, if_neg c105]
                  exact hret _ _ _ _ _ _ dX6_lost_129 hw rfl ⟨by rw [e9] <;> rfl, by rw [e9] <;> rfl⟩
                · refine lv_iload hx hb dX6_lost_108 (lv_at hl 0 rfl) ?_
                  refine lv_goto (tgt := 129) hx hb dX6_lost_110 rfl ?_
                  have e9 : p_lost S pi o wh = (thrF (slC S) (S 3) (picN S) (S 12 0) pi (nI ((ldN (slC S) (S 3) (picN S) pi o 8))) o, S) := by unfold p_lost; rw [if_pos c2, if_pos c27, if_pos c33, if_neg c52, if_neg c66, if_neg c84, if_pos c105]
                  exact hret _ _ _ _ _ _ dX6_lost_129 hw rfl ⟨by rw [e9] <;> rfl, by rw [e9] <;> rfl⟩
              · refine lv_iload hx hb dX6_lost_87 (lv_at hl 0 rfl) ?_
                have e9 : p_lost S pi o wh = (nI ((ldN (slC S) (S 3) (picN S) pi o 8)), S) := by unfold p_lost; rw [if_pos c2, if_pos c27, if_pos c33, if_neg c52, if_neg c66, if_pos c84]
                exact hret _ _ _ _ _ _ dX6_lost_89 hw rfl ⟨by rw [e9] <;> rfl, by rw [e9] <;> rfl⟩
            · refine lv_bipush (v := (-2)) hx hb dX6_lost_69 rfl ?_
              have e9 : p_lost S pi o wh = ((-2), S) := by unfold p_lost; rw [if_pos c2, if_pos c27, if_pos c33, if_neg c52, if_pos c66]
              exact hret _ _ _ _ _ _ dX6_lost_71 hw rfl ⟨by rw [e9] <;> rfl, by rw [e9] <;> rfl⟩
      · refine lv_iload_n hx hb dX6_lost_36 rfl (lv_at hl 2 rfl) ?_
        refine lv_iload_n hx hb dX6_lost_37 rfl (lv_at hl 1 rfl) ?_
        refine x_top (y := nI (clN pi)) (nn_of (Int32.not_lt.mp c33)) ?_
        refine x_fSI (rest := []) (c_X6_hasBit l D k (wC k q z g S X) o (clN pi)) mo_X6_151 F hw (Nat.le_of_ble_eq_true rfl) (x_cs F (Nat.le_of_ble_eq_true rfl) (Nat.le_of_ble_eq_true rfl)) rfl rfl hl.1 (Nat.le_of_ble_eq_true rfl) dX6_lost_38 (fun H locs hw => ?_)
        refine lv_if_eq (tgt := 48) hx hb dX6_lost_41 rfl (fun c41 => ?_) (fun c41 => ?_)
        · refine lv_iconst (v := nI 0) hx hb dX6_lost_48 rfl ?_
          refine lv_istore (lv' := [(4, .int (nI 0)), (0, .ref (q 0)), (1, .int pi), (2, .int o), (3, .int wh)]) hx hb dX6_lost_49 hl (Nat.le_of_ble_eq_true rfl) rfl (fun ls hl => ?_)
          refine lv_iload_n hx hb dX6_lost_51 rfl (lv_at hl 3 rfl) ?_
          refine lv_if_eq (tgt := 69) hx hb dX6_lost_52 rfl (fun c52 => ?_) (fun c52 => ?_)
          · refine lv_bipush (v := (-2)) hx hb dX6_lost_69 rfl ?_
            have e9 : p_lost S pi o wh = ((-2), S) := by unfold p_lost; rw [if_pos c2, if_pos c27, if_neg c33, if_pos c41, if_pos c52]
            exact hret _ _ _ _ _ _ dX6_lost_71 hw rfl ⟨by rw [e9] <;> rfl, by rw [e9] <;> rfl⟩
          · refine lv_iload hx hb dX6_lost_55 (lv_at hl 0 rfl) ?_
            refine x_if_ne 0 F (by omega) (tgt := 69) dX6_lost_57 rfl (fun c57 => ?_) (fun c57 => ?_)
            · exact absurd c57 (by decide)
            · refine lv_iload_n hx hb dX6_lost_60 rfl (lv_at hl 4 rfl) ?_
              refine lv_iconst (v := nI 0) hx hb dX6_lost_61 rfl ?_
              refine lv_iconst (v := nI 2) hx hb dX6_lost_62 rfl ?_
              refine x_fSI (rest := []) (c_X6_within l D k (wC k q z g S X) wh (nI 0) (nI 2)) mo_X6_93 F hw (Nat.le_of_ble_eq_true rfl) (x_cs F (Nat.le_of_ble_eq_true rfl) (Nat.le_of_ble_eq_true rfl)) rfl rfl hl.1 (Nat.le_of_ble_eq_true rfl) dX6_lost_63 (fun H locs hw => ?_)
              refine lv_if_ne (tgt := 72) hx hb dX6_lost_66 rfl (fun c66 => ?_) (fun c66 => ?_)
              · refine lv_aload_n hx hb dX6_lost_72 rfl (lv_at hl 1 rfl) ?_
                refine x_getr frC_0_0 F hw fo_X6_10 dX6_lost_73 ?_
                refine lv_iload_n hx hb dX6_lost_76 rfl (lv_at hl 2 rfl) ?_
                refine lv_iload_n hx hb dX6_lost_77 rfl (lv_at hl 3 rfl) ?_
                refine x_fVI (rest := []) (c_X1_lostDrawing l D k q z g S X pi o (by exact hP) (by exact hpi6)) mo_X6_155 obC_2 F hw (Nat.le_of_ble_eq_true rfl) (x_cs F (Nat.le_of_ble_eq_true rfl) (Nat.le_of_ble_eq_true rfl)) rfl rfl hl.1 (Nat.le_of_ble_eq_true rfl) dX6_lost_78 (fun H locs hw => ?_)
                refine lv_istore (lv' := [(5, .int (nI ((ldN (slC S) (S 3) (picN S) pi o 8)))), (4, .int (nI 0)), (0, .ref (q 0)), (1, .int pi), (2, .int o), (3, .int wh)]) hx hb dX6_lost_81 hl (Nat.le_of_ble_eq_true rfl) rfl (fun ls hl => ?_)
                refine lv_iload_n hx hb dX6_lost_83 rfl (lv_at hl 5 rfl) ?_
                refine lv_if_ne (tgt := 90) hx hb dX6_lost_84 rfl (fun c84 => ?_) (fun c84 => ?_)
                · refine lv_aload_n hx hb dX6_lost_90 rfl (lv_at hl 2 rfl) ?_
                  refine x_getr frC_0_0 F hw fo_X6_10 dX6_lost_91 ?_
                  refine lv_iload_n hx hb dX6_lost_94 rfl (lv_at hl 3 rfl) ?_
                  refine lv_iload hx hb dX6_lost_95 (lv_at hl 0 rfl) ?_
                  refine lv_iload_n hx hb dX6_lost_97 rfl (lv_at hl 4 rfl) ?_
                  refine x_fVI (rest := []) (c_X1_throughCost l D k q z g S X pi (nI ((ldN (slC S) (S 3) (picN S) pi o 8))) o (by exact hP) (by exact hpi6)) mo_X6_158 obC_2 F hw (Nat.le_of_ble_eq_true rfl) (x_cs F (Nat.le_of_ble_eq_true rfl) (Nat.le_of_ble_eq_true rfl)) rfl rfl hl.1 (Nat.le_of_ble_eq_true rfl) dX6_lost_98 (fun H locs hw => ?_)
                  refine lv_istore (lv' := [(6, .int (thrF (slC S) (S 3) (picN S) (S 12 0) pi (nI ((ldN (slC S) (S 3) (picN S) pi o 8))) o)), (5, .int (nI ((ldN (slC S) (S 3) (picN S) pi o 8)))), (4, .int (nI 0)), (0, .ref (q 0)), (1, .int pi), (2, .int o), (3, .int wh)]) hx hb dX6_lost_101 hl (Nat.le_of_ble_eq_true rfl) rfl (fun ls hl => ?_)
                  refine lv_iload_n hx hb dX6_lost_103 rfl (lv_at hl 6 rfl) ?_
                  refine lv_iconst (v := nI 1) hx hb dX6_lost_104 rfl ?_
                  refine lv_icmp_ne (tgt := 113) hx hb dX6_lost_105 rfl (fun c105 => ?_) (fun c105 => ?_)
                  · refine lv_sipush (v := nI 10000) hx hb dX6_lost_113 rfl ?_
                    refine lv_aload_n hx hb dX6_lost_116 rfl (lv_at hl 3 rfl) ?_
                    refine x_getr frC_0_0 F hw fo_X6_10 dX6_lost_117 ?_
                    refine lv_iload_n hx hb dX6_lost_120 rfl (lv_at hl 4 rfl) ?_
                    refine lv_iload_n hx hb dX6_lost_121 rfl (lv_at hl 5 rfl) ?_
                    refine x_fVI (rest := [.int (nI 10000)]) (c_X1_straightCost l D k q z g S X pi o (by exact hP) (by exact hpi6)) mo_X6_161 obC_2 F hw (Nat.le_of_ble_eq_true rfl) (x_cs F (Nat.le_of_ble_eq_true rfl) (Nat.le_of_ble_eq_true rfl)) rfl rfl hl.1 (Nat.le_of_ble_eq_true rfl) dX6_lost_122 (fun H locs hw => ?_)
                    refine lv_iadd hx hb dX6_lost_125 ?_
                    refine lv_iload hx hb dX6_lost_126 (lv_at hl 0 rfl) ?_
                    refine lv_isub hx hb dX6_lost_128 ?_
                    have e9 : p_lost S pi o wh = (((nI 10000) + (strF (slC S) (S 3) (picN S) (S 12 0) pi o)) - (thrF (slC S) (S 3) (picN S) (S 12 0) pi (nI ((ldN (slC S) (S 3) (picN S) pi o 8))) o), S) := by unfold p_lost; rw [if_pos c2, if_pos c27, if_neg c33, if_pos c41, if_neg c52, if_neg c66, if_neg c84, if_neg c105]
                    exact hret _ _ _ _ _ _ dX6_lost_129 hw rfl ⟨by rw [e9] <;> rfl, by rw [e9] <;> rfl⟩
                  · refine lv_iload hx hb dX6_lost_108 (lv_at hl 0 rfl) ?_
                    refine lv_goto (tgt := 129) hx hb dX6_lost_110 rfl ?_
                    have e9 : p_lost S pi o wh = (thrF (slC S) (S 3) (picN S) (S 12 0) pi (nI ((ldN (slC S) (S 3) (picN S) pi o 8))) o, S) := by unfold p_lost; rw [if_pos c2, if_pos c27, if_neg c33, if_pos c41, if_neg c52, if_neg c66, if_neg c84, if_pos c105]
                    exact hret _ _ _ _ _ _ dX6_lost_129 hw rfl ⟨by rw [e9] <;> rfl, by rw [e9] <;> rfl⟩
                · refine lv_iload hx hb dX6_lost_87 (lv_at hl 0 rfl) ?_
                  have e9 : p_lost S pi o wh = (nI ((ldN (slC S) (S 3) (picN S) pi o 8)), S) := by unfold p_lost; rw [if_pos c2, if_pos c27, if_neg c33, if_pos c41, if_neg c52, if_neg c66, if_pos c84]
                  exact hret _ _ _ _ _ _ dX6_lost_89 hw rfl ⟨by rw [e9] <;> rfl, by rw [e9] <;> rfl⟩
              · refine lv_bipush (v := (-2)) hx hb dX6_lost_69 rfl ?_
                have e9 : p_lost S pi o wh = ((-2), S) := by unfold p_lost; rw [if_pos c2, if_pos c27, if_neg c33, if_pos c41, if_neg c52, if_pos c66]
                exact hret _ _ _ _ _ _ dX6_lost_71 hw rfl ⟨by rw [e9] <;> rfl, by rw [e9] <;> rfl⟩
        · refine lv_iconst (v := nI 1) hx hb dX6_lost_44 rfl ?_
          refine lv_goto (tgt := 49) hx hb dX6_lost_45 rfl ?_
          refine lv_istore (lv' := [(4, .int (nI 1)), (0, .ref (q 0)), (1, .int pi), (2, .int o), (3, .int wh)]) hx hb dX6_lost_49 hl (Nat.le_of_ble_eq_true rfl) rfl (fun ls hl => ?_)
          refine lv_iload_n hx hb dX6_lost_51 rfl (lv_at hl 3 rfl) ?_
          refine lv_if_eq (tgt := 69) hx hb dX6_lost_52 rfl (fun c52 => ?_) (fun c52 => ?_)
          · refine lv_bipush (v := (-2)) hx hb dX6_lost_69 rfl ?_
            have e9 : p_lost S pi o wh = ((-2), S) := by unfold p_lost; rw [if_pos c2, if_pos c27, if_neg c33, if_neg c41, if_pos c52]
            exact hret _ _ _ _ _ _ dX6_lost_71 hw rfl ⟨by rw [e9] <;> rfl, by rw [e9] <;> rfl⟩
          · refine lv_iload hx hb dX6_lost_55 (lv_at hl 0 rfl) ?_
            refine x_if_ne 1 F (by omega) (tgt := 69) dX6_lost_57 rfl (fun c57 => ?_) (fun c57 => ?_)
            · refine lv_bipush (v := (-2)) hx hb dX6_lost_69 rfl ?_
              have e9 : p_lost S pi o wh = ((-2), S) := by unfold p_lost; rw [if_pos c2, if_pos c27, if_neg c33, if_neg c41, if_neg c52]
              exact hret _ _ _ _ _ _ dX6_lost_71 hw rfl ⟨by rw [e9] <;> rfl, by rw [e9] <;> rfl⟩
            · exact absurd c57 (by decide)
    · refine lv_iconst (v := (-1)) hx hb dX6_lost_30 rfl ?_
      have e9 : p_lost S pi o wh = ((-1), S) := by unfold p_lost; rw [if_pos c2, if_neg c27]
      exact hret _ _ _ _ _ _ dX6_lost_31 hw rfl ⟨by rw [e9] <;> rfl, by rw [e9] <;> rfl⟩
  · refine lv_aload_n hx hb dX6_lost_5 rfl (lv_at hl 0 rfl) ?_
    refine x_getr frC_0_0 F hw fo_X6_10 dX6_lost_6 ?_
    refine lv_iload_n hx hb dX6_lost_9 rfl (lv_at hl 1 rfl) ?_
    refine x_fVI (rest := []) (c_X1_hasPicture l D k q z g S X pi) mo_X6_76 obC_2 F hw (Nat.le_of_ble_eq_true rfl) (x_cs F (Nat.le_of_ble_eq_true rfl) (Nat.le_of_ble_eq_true rfl)) rfl rfl hl.1 (Nat.le_of_ble_eq_true rfl) dX6_lost_10 (fun H locs hw => ?_)
    refine lv_if_ne (tgt := 18) hx hb dX6_lost_13 rfl (fun c13 => ?_) (fun c13 => ?_)
    · have hpi6 : 0 ≤ pi → clN pi < 6 := fun _ => by have := (haP_t hP c13).2; omega
      refine lv_iload_n hx hb dX6_lost_18 rfl (lv_at hl 2 rfl) ?_
      refine lv_aload_n hx hb dX6_lost_19 rfl (lv_at hl 0 rfl) ?_
      refine x_getr frC_0_0 F hw fo_X6_10 dX6_lost_20 ?_
      refine x_geti fiC_40 F hw fo_X6_65 dX6_lost_23 ?_
      refine x_top (y := nI (picN S)) hP.1 ?_
      refine lv_iushr (v := ((o.toUInt32 >>> ((nI (picN S)).toUInt32 &&& Int32.toUInt32 31)).toInt32)) hx hb dX6_lost_26 rfl ?_
      refine lv_if_eq (tgt := 32) hx hb dX6_lost_27 rfl (fun c27 => ?_) (fun c27 => ?_)
      · refine lv_iload_n hx hb dX6_lost_32 rfl (lv_at hl 1 rfl) ?_
        refine lv_if_lt (tgt := 48) hx hb dX6_lost_33 rfl (fun c33 => ?_) (fun c33 => ?_)
        · refine lv_iconst (v := nI 0) hx hb dX6_lost_48 rfl ?_
          refine lv_istore (lv' := [(4, .int (nI 0)), (0, .ref (q 0)), (1, .int pi), (2, .int o), (3, .int wh)]) hx hb dX6_lost_49 hl (Nat.le_of_ble_eq_true rfl) rfl (fun ls hl => ?_)
          refine lv_iload_n hx hb dX6_lost_51 rfl (lv_at hl 3 rfl) ?_
          refine lv_if_eq (tgt := 69) hx hb dX6_lost_52 rfl (fun c52 => ?_) (fun c52 => ?_)
          · refine lv_bipush (v := (-2)) hx hb dX6_lost_69 rfl ?_
            have e9 : p_lost S pi o wh = ((-2), S) := by unfold p_lost; rw [if_neg c2, if_neg c13, if_pos c27, if_pos c33, if_pos c52]
            exact hret _ _ _ _ _ _ dX6_lost_71 hw rfl ⟨by rw [e9] <;> rfl, by rw [e9] <;> rfl⟩
          · refine lv_iload hx hb dX6_lost_55 (lv_at hl 0 rfl) ?_
            refine x_if_ne 0 F (by omega) (tgt := 69) dX6_lost_57 rfl (fun c57 => ?_) (fun c57 => ?_)
            · exact absurd c57 (by decide)
            · refine lv_iload_n hx hb dX6_lost_60 rfl (lv_at hl 4 rfl) ?_
              refine lv_iconst (v := nI 0) hx hb dX6_lost_61 rfl ?_
              refine lv_iconst (v := nI 2) hx hb dX6_lost_62 rfl ?_
              refine x_fSI (rest := []) (c_X6_within l D k (wC k q z g S X) wh (nI 0) (nI 2)) mo_X6_93 F hw (Nat.le_of_ble_eq_true rfl) (x_cs F (Nat.le_of_ble_eq_true rfl) (Nat.le_of_ble_eq_true rfl)) rfl rfl hl.1 (Nat.le_of_ble_eq_true rfl) dX6_lost_63 (fun H locs hw => ?_)
              refine lv_if_ne (tgt := 72) hx hb dX6_lost_66 rfl (fun c66 => ?_) (fun c66 => ?_)
              · refine lv_aload_n hx hb dX6_lost_72 rfl (lv_at hl 1 rfl) ?_
                refine x_getr frC_0_0 F hw fo_X6_10 dX6_lost_73 ?_
                refine lv_iload_n hx hb dX6_lost_76 rfl (lv_at hl 2 rfl) ?_
                refine lv_iload_n hx hb dX6_lost_77 rfl (lv_at hl 3 rfl) ?_
                refine x_fVI (rest := []) (c_X1_lostDrawing l D k q z g S X pi o (by exact hP) (by exact hpi6)) mo_X6_155 obC_2 F hw (Nat.le_of_ble_eq_true rfl) (x_cs F (Nat.le_of_ble_eq_true rfl) (Nat.le_of_ble_eq_true rfl)) rfl rfl hl.1 (Nat.le_of_ble_eq_true rfl) dX6_lost_78 (fun H locs hw => ?_)
                refine lv_istore (lv' := [(5, .int (nI ((ldN (slC S) (S 3) (picN S) pi o 8)))), (4, .int (nI 0)), (0, .ref (q 0)), (1, .int pi), (2, .int o), (3, .int wh)]) hx hb dX6_lost_81 hl (Nat.le_of_ble_eq_true rfl) rfl (fun ls hl => ?_)
                refine lv_iload_n hx hb dX6_lost_83 rfl (lv_at hl 5 rfl) ?_
                refine lv_if_ne (tgt := 90) hx hb dX6_lost_84 rfl (fun c84 => ?_) (fun c84 => ?_)
                · refine lv_aload_n hx hb dX6_lost_90 rfl (lv_at hl 2 rfl) ?_
                  refine x_getr frC_0_0 F hw fo_X6_10 dX6_lost_91 ?_
                  refine lv_iload_n hx hb dX6_lost_94 rfl (lv_at hl 3 rfl) ?_
                  refine lv_iload hx hb dX6_lost_95 (lv_at hl 0 rfl) ?_
                  refine lv_iload_n hx hb dX6_lost_97 rfl (lv_at hl 4 rfl) ?_
                  refine x_fVI (rest := []) (c_X1_throughCost l D k q z g S X pi (nI ((ldN (slC S) (S 3) (picN S) pi o 8))) o (by exact hP) (by exact hpi6)) mo_X6_158 obC_2 F hw (Nat.le_of_ble_eq_true rfl) (x_cs F (Nat.le_of_ble_eq_true rfl) (Nat.le_of_ble_eq_true rfl)) rfl rfl hl.1 (Nat.le_of_ble_eq_true rfl) dX6_lost_98 (fun H locs hw => ?_)
                  refine lv_istore (lv' := [(6, .int (thrF (slC S) (S 3) (picN S) (S 12 0) pi (nI ((ldN (slC S) (S 3) (picN S) pi o 8))) o)), (5, .int (nI ((ldN (slC S) (S 3) (picN S) pi o 8)))), (4, .int (nI 0)), (0, .ref (q 0)), (1, .int pi), (2, .int o), (3, .int wh)]) hx hb dX6_lost_101 hl (Nat.le_of_ble_eq_true rfl) rfl (fun ls hl => ?_)
                  refine lv_iload_n hx hb dX6_lost_103 rfl (lv_at hl 6 rfl) ?_
                  refine lv_iconst (v := nI 1) hx hb dX6_lost_104 rfl ?_
                  refine lv_icmp_ne (tgt := 113) hx hb dX6_lost_105 rfl (fun c105 => ?_) (fun c105 => ?_)
                  · refine lv_sipush (v := nI 10000) hx hb dX6_lost_113 rfl ?_
                    refine lv_aload_n hx hb dX6_lost_116 rfl (lv_at hl 3 rfl) ?_
                    refine x_getr frC_0_0 F hw fo_X6_10 dX6_lost_117 ?_
                    refine lv_iload_n hx hb dX6_lost_120 rfl (lv_at hl 4 rfl) ?_
                    refine lv_iload_n hx hb dX6_lost_121 rfl (lv_at hl 5 rfl) ?_
                    refine x_fVI (rest := [.int (nI 10000)]) (c_X1_straightCost l D k q z g S X pi o (by exact hP) (by exact hpi6)) mo_X6_161 obC_2 F hw (Nat.le_of_ble_eq_true rfl) (x_cs F (Nat.le_of_ble_eq_true rfl) (Nat.le_of_ble_eq_true rfl)) rfl rfl hl.1 (Nat.le_of_ble_eq_true rfl) dX6_lost_122 (fun H locs hw => ?_)
                    refine lv_iadd hx hb dX6_lost_125 ?_
                    refine lv_iload hx hb dX6_lost_126 (lv_at hl 0 rfl) ?_
                    refine lv_isub hx hb dX6_lost_128 ?_
                    have e9 : p_lost S pi o wh = (((nI 10000) + (strF (slC S) (S 3) (picN S) (S 12 0) pi o)) - (thrF (slC S) (S 3) (picN S) (S 12 0) pi (nI ((ldN (slC S) (S 3) (picN S) pi o 8))) o), S) := by unfold p_lost; rw [if_neg c2, if_neg c13, if_pos c27, if_pos c33, if_neg c52, if_neg c66, if_neg c84, if_neg c105]
                    exact hret _ _ _ _ _ _ dX6_lost_129 hw rfl ⟨by rw [e9] <;> rfl, by rw [e9] <;> rfl⟩
                  · refine lv_iload hx hb dX6_lost_108 (lv_at hl 0 rfl) ?_
                    refine lv_goto (tgt := 129) hx hb dX6_lost_110 rfl ?_
                    have e9 : p_lost S pi o wh = (thrF (slC S) (S 3) (picN S) (S 12 0) pi (nI ((ldN (slC S) (S 3) (picN S) pi o 8))) o, S) := by unfold p_lost; rw [if_neg c2, if_neg c13, if_pos c27, if_pos c33, if_neg c52, if_neg c66, if_neg c84, if_pos c105]
                    exact hret _ _ _ _ _ _ dX6_lost_129 hw rfl ⟨by rw [e9] <;> rfl, by rw [e9] <;> rfl⟩
                · refine lv_iload hx hb dX6_lost_87 (lv_at hl 0 rfl) ?_
                  have e9 : p_lost S pi o wh = (nI ((ldN (slC S) (S 3) (picN S) pi o 8)), S) := by unfold p_lost; rw [if_neg c2, if_neg c13, if_pos c27, if_pos c33, if_neg c52, if_neg c66, if_pos c84]
                  exact hret _ _ _ _ _ _ dX6_lost_89 hw rfl ⟨by rw [e9] <;> rfl, by rw [e9] <;> rfl⟩
              · refine lv_bipush (v := (-2)) hx hb dX6_lost_69 rfl ?_
                have e9 : p_lost S pi o wh = ((-2), S) := by unfold p_lost; rw [if_neg c2, if_neg c13, if_pos c27, if_pos c33, if_neg c52, if_pos c66]
                exact hret _ _ _ _ _ _ dX6_lost_71 hw rfl ⟨by rw [e9] <;> rfl, by rw [e9] <;> rfl⟩
        · refine lv_iload_n hx hb dX6_lost_36 rfl (lv_at hl 2 rfl) ?_
          refine lv_iload_n hx hb dX6_lost_37 rfl (lv_at hl 1 rfl) ?_
          refine x_top (y := nI (clN pi)) (nn_of (Int32.not_lt.mp c33)) ?_
          refine x_fSI (rest := []) (c_X6_hasBit l D k (wC k q z g S X) o (clN pi)) mo_X6_151 F hw (Nat.le_of_ble_eq_true rfl) (x_cs F (Nat.le_of_ble_eq_true rfl) (Nat.le_of_ble_eq_true rfl)) rfl rfl hl.1 (Nat.le_of_ble_eq_true rfl) dX6_lost_38 (fun H locs hw => ?_)
          refine lv_if_eq (tgt := 48) hx hb dX6_lost_41 rfl (fun c41 => ?_) (fun c41 => ?_)
          · refine lv_iconst (v := nI 0) hx hb dX6_lost_48 rfl ?_
            refine lv_istore (lv' := [(4, .int (nI 0)), (0, .ref (q 0)), (1, .int pi), (2, .int o), (3, .int wh)]) hx hb dX6_lost_49 hl (Nat.le_of_ble_eq_true rfl) rfl (fun ls hl => ?_)
            refine lv_iload_n hx hb dX6_lost_51 rfl (lv_at hl 3 rfl) ?_
            refine lv_if_eq (tgt := 69) hx hb dX6_lost_52 rfl (fun c52 => ?_) (fun c52 => ?_)
            · refine lv_bipush (v := (-2)) hx hb dX6_lost_69 rfl ?_
              have e9 : p_lost S pi o wh = ((-2), S) := by unfold p_lost; rw [if_neg c2, if_neg c13, if_pos c27, if_neg c33, if_pos c41, if_pos c52]
              exact hret _ _ _ _ _ _ dX6_lost_71 hw rfl ⟨by rw [e9] <;> rfl, by rw [e9] <;> rfl⟩
            · refine lv_iload hx hb dX6_lost_55 (lv_at hl 0 rfl) ?_
              refine x_if_ne 0 F (by omega) (tgt := 69) dX6_lost_57 rfl (fun c57 => ?_) (fun c57 => ?_)
              · exact absurd c57 (by decide)
              · refine lv_iload_n hx hb dX6_lost_60 rfl (lv_at hl 4 rfl) ?_
                refine lv_iconst (v := nI 0) hx hb dX6_lost_61 rfl ?_
                refine lv_iconst (v := nI 2) hx hb dX6_lost_62 rfl ?_
                refine x_fSI (rest := []) (c_X6_within l D k (wC k q z g S X) wh (nI 0) (nI 2)) mo_X6_93 F hw (Nat.le_of_ble_eq_true rfl) (x_cs F (Nat.le_of_ble_eq_true rfl) (Nat.le_of_ble_eq_true rfl)) rfl rfl hl.1 (Nat.le_of_ble_eq_true rfl) dX6_lost_63 (fun H locs hw => ?_)
                refine lv_if_ne (tgt := 72) hx hb dX6_lost_66 rfl (fun c66 => ?_) (fun c66 => ?_)
                · refine lv_aload_n hx hb dX6_lost_72 rfl (lv_at hl 1 rfl) ?_
                  refine x_getr frC_0_0 F hw fo_X6_10 dX6_lost_73 ?_
                  refine lv_iload_n hx hb dX6_lost_76 rfl (lv_at hl 2 rfl) ?_
                  refine lv_iload_n hx hb dX6_lost_77 rfl (lv_at hl 3 rfl) ?_
                  refine x_fVI (rest := []) (c_X1_lostDrawing l D k q z g S X pi o (by exact hP) (by exact hpi6)) mo_X6_155 obC_2 F hw (Nat.le_of_ble_eq_true rfl) (x_cs F (Nat.le_of_ble_eq_true rfl) (Nat.le_of_ble_eq_true rfl)) rfl rfl hl.1 (Nat.le_of_ble_eq_true rfl) dX6_lost_78 (fun H locs hw => ?_)
                  refine lv_istore (lv' := [(5, .int (nI ((ldN (slC S) (S 3) (picN S) pi o 8)))), (4, .int (nI 0)), (0, .ref (q 0)), (1, .int pi), (2, .int o), (3, .int wh)]) hx hb dX6_lost_81 hl (Nat.le_of_ble_eq_true rfl) rfl (fun ls hl => ?_)
                  refine lv_iload_n hx hb dX6_lost_83 rfl (lv_at hl 5 rfl) ?_
                  refine lv_if_ne (tgt := 90) hx hb dX6_lost_84 rfl (fun c84 => ?_) (fun c84 => ?_)
                  · refine lv_aload_n hx hb dX6_lost_90 rfl (lv_at hl 2 rfl) ?_
                    refine x_getr frC_0_0 F hw fo_X6_10 dX6_lost_91 ?_
                    refine lv_iload_n hx hb dX6_lost_94 rfl (lv_at hl 3 rfl) ?_
                    refine lv_iload hx hb dX6_lost_95 (lv_at hl 0 rfl) ?_
                    refine lv_iload_n hx hb dX6_lost_97 rfl (lv_at hl 4 rfl) ?_
                    refine x_fVI (rest := []) (c_X1_throughCost l D k q z g S X pi (nI ((ldN (slC S) (S 3) (picN S) pi o 8))) o (by exact hP) (by exact hpi6)) mo_X6_158 obC_2 F hw (Nat.le_of_ble_eq_true rfl) (x_cs F (Nat.le_of_ble_eq_true rfl) (Nat.le_of_ble_eq_true rfl)) rfl rfl hl.1 (Nat.le_of_ble_eq_true rfl) dX6_lost_98 (fun H locs hw => ?_)
                    refine lv_istore (lv' := [(6, .int (thrF (slC S) (S 3) (picN S) (S 12 0) pi (nI ((ldN (slC S) (S 3) (picN S) pi o 8))) o)), (5, .int (nI ((ldN (slC S) (S 3) (picN S) pi o 8)))), (4, .int (nI 0)), (0, .ref (q 0)), (1, .int pi), (2, .int o), (3, .int wh)]) hx hb dX6_lost_101 hl (Nat.le_of_ble_eq_true rfl) rfl (fun ls hl => ?_)
                    refine lv_iload_n hx hb dX6_lost_103 rfl (lv_at hl 6 rfl) ?_
                    refine lv_iconst (v := nI 1) hx hb dX6_lost_104 rfl ?_
                    refine lv_icmp_ne (tgt := 113) hx hb dX6_lost_105 rfl (fun c105 => ?_) (fun c105 => ?_)
                    · refine lv_sipush (v := nI 10000) hx hb dX6_lost_113 rfl ?_
                      refine lv_aload_n hx hb dX6_lost_116 rfl (lv_at hl 3 rfl) ?_
                      refine x_getr frC_0_0 F hw fo_X6_10 dX6_lost_117 ?_
                      refine lv_iload_n hx hb dX6_lost_120 rfl (lv_at hl 4 rfl) ?_
                      refine lv_iload_n hx hb dX6_lost_121 rfl (lv_at hl 5 rfl) ?_
                      refine x_fVI (rest := [.int (nI 10000)]) (c_X1_straightCost l D k q z g S X pi o (by exact hP) (by exact hpi6)) mo_X6_161 obC_2 F hw (Nat.le_of_ble_eq_true rfl) (x_cs F (Nat.le_of_ble_eq_true rfl) (Nat.le_of_ble_eq_true rfl)) rfl rfl hl.1 (Nat.le_of_ble_eq_true rfl) dX6_lost_122 (fun H locs hw => ?_)
                      refine lv_iadd hx hb dX6_lost_125 ?_
                      refine lv_iload hx hb dX6_lost_126 (lv_at hl 0 rfl) ?_
                      refine lv_isub hx hb dX6_lost_128 ?_
                      have e9 : p_lost S pi o wh = (((nI 10000) + (strF (slC S) (S 3) (picN S) (S 12 0) pi o)) - (thrF (slC S) (S 3) (picN S) (S 12 0) pi (nI ((ldN (slC S) (S 3) (picN S) pi o 8))) o), S) := by unfold p_lost; rw [if_neg c2, if_neg c13, if_pos c27, if_neg c33, if_pos c41, if_neg c52, if_neg c66, if_neg c84, if_neg c105]
                      exact hret _ _ _ _ _ _ dX6_lost_129 hw rfl ⟨by rw [e9] <;> rfl, by rw [e9] <;> rfl⟩
                    · refine lv_iload hx hb dX6_lost_108 (lv_at hl 0 rfl) ?_
                      refine lv_goto (tgt := 129) hx hb dX6_lost_110 rfl ?_
                      have e9 : p_lost S pi o wh = (thrF (slC S) (S 3) (picN S) (S 12 0) pi (nI ((ldN (slC S) (S 3) (picN S) pi o 8))) o, S) := by unfold p_lost; rw [if_neg c2, if_neg c13, if_pos c27, if_neg c33, if_pos c41, if_neg c52, if_neg c66, if_neg c84, if_pos c105]
                      exact hret _ _ _ _ _ _ dX6_lost_129 hw rfl ⟨by rw [e9] <;> rfl, by rw [e9] <;> rfl⟩
                  · refine lv_iload hx hb dX6_lost_87 (lv_at hl 0 rfl) ?_
                    have e9 : p_lost S pi o wh = (nI ((ldN (slC S) (S 3) (picN S) pi o 8)), S) := by unfold p_lost; rw [if_neg c2, if_neg c13, if_pos c27, if_neg c33, if_pos c41, if_neg c52, if_neg c66, if_pos c84]
                    exact hret _ _ _ _ _ _ dX6_lost_89 hw rfl ⟨by rw [e9] <;> rfl, by rw [e9] <;> rfl⟩
                · refine lv_bipush (v := (-2)) hx hb dX6_lost_69 rfl ?_
                  have e9 : p_lost S pi o wh = ((-2), S) := by unfold p_lost; rw [if_neg c2, if_neg c13, if_pos c27, if_neg c33, if_pos c41, if_neg c52, if_pos c66]
                  exact hret _ _ _ _ _ _ dX6_lost_71 hw rfl ⟨by rw [e9] <;> rfl, by rw [e9] <;> rfl⟩
          · refine lv_iconst (v := nI 1) hx hb dX6_lost_44 rfl ?_
            refine lv_goto (tgt := 49) hx hb dX6_lost_45 rfl ?_
            refine lv_istore (lv' := [(4, .int (nI 1)), (0, .ref (q 0)), (1, .int pi), (2, .int o), (3, .int wh)]) hx hb dX6_lost_49 hl (Nat.le_of_ble_eq_true rfl) rfl (fun ls hl => ?_)
            refine lv_iload_n hx hb dX6_lost_51 rfl (lv_at hl 3 rfl) ?_
            refine lv_if_eq (tgt := 69) hx hb dX6_lost_52 rfl (fun c52 => ?_) (fun c52 => ?_)
            · refine lv_bipush (v := (-2)) hx hb dX6_lost_69 rfl ?_
              have e9 : p_lost S pi o wh = ((-2), S) := by unfold p_lost; rw [if_neg c2, if_neg c13, if_pos c27, if_neg c33, if_neg c41, if_pos c52]
              exact hret _ _ _ _ _ _ dX6_lost_71 hw rfl ⟨by rw [e9] <;> rfl, by rw [e9] <;> rfl⟩
            · refine lv_iload hx hb dX6_lost_55 (lv_at hl 0 rfl) ?_
              refine x_if_ne 1 F (by omega) (tgt := 69) dX6_lost_57 rfl (fun c57 => ?_) (fun c57 => ?_)
              · refine lv_bipush (v := (-2)) hx hb dX6_lost_69 rfl ?_
                have e9 : p_lost S pi o wh = ((-2), S) := by unfold p_lost; rw [if_neg c2, if_neg c13, if_pos c27, if_neg c33, if_neg c41, if_neg c52]
                exact hret _ _ _ _ _ _ dX6_lost_71 hw rfl ⟨by rw [e9] <;> rfl, by rw [e9] <;> rfl⟩
              · exact absurd c57 (by decide)
      · refine lv_iconst (v := (-1)) hx hb dX6_lost_30 rfl ?_
        have e9 : p_lost S pi o wh = ((-1), S) := by unfold p_lost; rw [if_neg c2, if_neg c13, if_neg c27]
        exact hret _ _ _ _ _ _ dX6_lost_31 hw rfl ⟨by rw [e9] <;> rfl, by rw [e9] <;> rfl⟩
    · refine lv_iconst (v := (-1)) hx hb dX6_lost_16 rfl ?_
      have e9 : p_lost S pi o wh = ((-1), S) := by unfold p_lost; rw [if_neg c2, if_pos c13]
      exact hret _ _ _ _ _ _ dX6_lost_17 hw rfl ⟨by rw [e9] <;> rfl, by rw [e9] <;> rfl⟩
set_option maxHeartbeats 4000000 in
set_option maxRecDepth 20000 in
theorem c_X6_under (l : Launch) (D : va_G) (k : Nat → ClassId) (q z : Nat → Nat) (g : Nat → Option Nat) (S : St) (X : va_W) (dr : Int32) (hP : okP S) : CI l D k yX6_under cX6_under 5 (some .int) 2 0 0 [.ref (q 0), .int dr] (wC k q z g S X) (fun r w' => w' = wC k q z g S X ∧ r = p_under S dr) := by
  refine CI.mk (by decide) (Nat.le_of_ble_eq_true rfl) ?_
  intro p e R s m args below meth c A Q ls F hret hw hl
  have hx := xs_hx F
  have hb := xs_hb F
  have hl : lv_has ls 5 [(0, .ref (q 0)), (1, .int dr)] := hl
  have h6 := hP.2
  refine lv_iload_n hx hb dX6_under_0 rfl (lv_at hl 1 rfl) ?_
  refine x_fSI (rest := []) (c_X6_isDrawing l D k (wC k q z g S X) dr) mo_X6_57 F hw (Nat.le_of_ble_eq_true rfl) (x_cs F (Nat.le_of_ble_eq_true rfl) (Nat.le_of_ble_eq_true rfl)) rfl rfl hl.1 (Nat.le_of_ble_eq_true rfl) dX6_under_1 (fun H locs hw => ?_)
  refine lv_if_ne (tgt := 10) hx hb dX6_under_4 rfl (fun c4 => ?_) (fun c4 => ?_)
  · refine lv_aload_n hx hb dX6_under_10 rfl (lv_at hl 0 rfl) ?_
    refine x_getr frC_0_0 F hw fo_X6_10 dX6_under_11 ?_
    refine lv_iload_n hx hb dX6_under_14 rfl (lv_at hl 1 rfl) ?_
    refine x_fVI (rest := []) (c_X1_hiddenBy l D k q z g S X dr) mo_X6_197 obC_2 F hw (Nat.le_of_ble_eq_true rfl) (x_cs F (Nat.le_of_ble_eq_true rfl) (Nat.le_of_ble_eq_true rfl)) rfl rfl hl.1 (Nat.le_of_ble_eq_true rfl) dX6_under_15 (fun H locs hw => ?_)
    refine lv_istore_n (lv' := [(2, .int (hidF (S 15) (S 16) dr 8)), (0, .ref (q 0)), (1, .int dr)]) hx hb dX6_under_18 rfl hl (Nat.le_of_ble_eq_true rfl) rfl (fun ls hl => ?_)
    refine lv_iconst (v := nI 0) hx hb dX6_under_19 rfl ?_
    refine lv_istore_n (lv' := [(3, .int (nI 0)), (2, .int (hidF (S 15) (S 16) dr 8)), (0, .ref (q 0)), (1, .int dr)]) hx hb dX6_under_20 rfl hl (Nat.le_of_ble_eq_true rfl) rfl (fun ls hl => ?_)
    refine lv_iconst (v := nI 0) hx hb dX6_under_21 rfl ?_
    refine lv_istore (lv' := [(4, .int (nI 0)), (3, .int (nI 0)), (2, .int (hidF (S 15) (S 16) dr 8)), (0, .ref (q 0)), (1, .int dr)]) hx hb dX6_under_22 hl (Nat.le_of_ble_eq_true rfl) rfl (fun ls hl => ?_)
    have K24 : ∀ (n24_ : Nat) (i : Nat) (x : Int32) (H : Heap) (locs : List Loc) (ls : Array Slot), picN S - i < n24_ → (i ≤ picN S) → (x = orB (fun p => undB dr (hidF (S 15) (S 16) dr 8) (S 3 p)) i) → Wd D A s.heap H locs (wC k q z g S X) → lv_has ls 5 [(0, .ref (q 0)), (1, .int dr), (2, .int (hidF (S 15) (S 16) dr 8)), (3, .int x), (4, .int (nI i))] → W p l e R s m args below meth c H locs 0 0 Q (F0 m 24 ls []) := by
      intro n24_
      induction n24_ with
      | zero =>
        intro i x H locs ls hn24_
        exact absurd hn24_ (Nat.not_lt_zero _)
      | succ n24_ ih24_ =>
        intro i x H locs ls hn24_ hi h1 hw hl
        refine lv_iload hx hb dX6_under_24 (lv_at hl 4 rfl) ?_
        refine lv_aload_n hx hb dX6_under_26 rfl (lv_at hl 0 rfl) ?_
        refine x_getr frC_0_0 F hw fo_X6_10 dX6_under_27 ?_
        refine x_geti fiC_40 F hw fo_X6_65 dX6_under_30 ?_
        refine x_top (y := nI (picN S)) hP.1 ?_
        refine x_icmp_ge i (picN S) F (by omega) (by omega) (tgt := 67) dX6_under_33 rfl (fun c33 => ?_) (fun c33 => ?_)
        · refine lv_iload_n hx hb dX6_under_67 rfl (lv_at hl 3 rfl) ?_
          exact hret _ _ _ _ _ _ dX6_under_68 hw rfl ⟨rfl, by unfold p_under; rw [if_neg c4, h1, show i = picN S by omega]⟩
        · refine lv_aload_n hx hb dX6_under_36 rfl (lv_at hl 0 rfl) ?_
          refine x_getr frC_0_0 F hw fo_X6_10 dX6_under_37 ?_
          refine x_getr frC_2_2 F hw fo_X6_79 dX6_under_40 ?_
          refine lv_iload hx hb dX6_under_43 (lv_at hl 4 rfl) ?_
          refine x_iald aiC_3 F hw i rfl (by omega) dX6_under_45 ?_
          refine lv_iload_n hx hb dX6_under_46 rfl (lv_at hl 1 rfl) ?_
          refine lv_iload_n hx hb dX6_under_47 rfl (lv_at hl 2 rfl) ?_
          refine x_fSI (rest := []) (c_X6_mayLieUnder l D k (wC k q z g S X) (S 3 i) dr (hidF (S 15) (S 16) dr 8)) mo_X6_209 F hw (Nat.le_of_ble_eq_true rfl) (x_cs F (Nat.le_of_ble_eq_true rfl) (Nat.le_of_ble_eq_true rfl)) rfl rfl hl.1 (Nat.le_of_ble_eq_true rfl) dX6_under_48 (fun H locs hw => ?_)
          refine lv_if_eq (tgt := 61) hx hb dX6_under_51 rfl (fun c51 => ?_) (fun c51 => ?_)
          · refine lv_iinc (v := nI (i + 1)) (lv' := [(4, .int (nI (i + 1))), (0, .ref (q 0)), (1, .int dr), (2, .int (hidF (S 15) (S 16) dr 8)), (3, .int x)]) hx hb dX6_under_61 hl (k := 4) rfl (nI_1 _) (Nat.le_of_ble_eq_true rfl) rfl (fun ls hl => ?_)
            refine lv_goto (tgt := 24) hx hb dX6_under_64 rfl ?_
            exact ih24_ (i + 1) x _ _ _ (by first | omega | (simp only [] at *; omega)) (by first | assumption | omega | rfl) (by rw [h1]; first | (refine (orB_n ?_).symm; exact b01_0.mp c51) | (refine (orB_y ?_).symm; exact b01_1.mp c51)) hw (lv_sub hl [1, 2, 3, 4, 0] rfl)
          · refine lv_iload_n hx hb dX6_under_54 rfl (lv_at hl 3 rfl) ?_
            refine lv_iconst (v := nI 1) hx hb dX6_under_55 rfl ?_
            refine lv_iload hx hb dX6_under_56 (lv_at hl 4 rfl) ?_
            refine lv_ishl hx hb dX6_under_58 ?_
            refine lv_ior hx hb dX6_under_59 ?_
            refine lv_istore_n (lv' := [(3, .int (x ||| ((nI 1) <<< ((nI i) &&& 31)))), (0, .ref (q 0)), (1, .int dr), (2, .int (hidF (S 15) (S 16) dr 8)), (4, .int (nI i))]) hx hb dX6_under_60 rfl hl (Nat.le_of_ble_eq_true rfl) rfl (fun ls hl => ?_)
            refine lv_iinc (v := nI (i + 1)) (lv' := [(4, .int (nI (i + 1))), (3, .int (x ||| ((nI 1) <<< ((nI i) &&& 31)))), (0, .ref (q 0)), (1, .int dr), (2, .int (hidF (S 15) (S 16) dr 8))]) hx hb dX6_under_61 hl (k := 4) rfl (nI_1 _) (Nat.le_of_ble_eq_true rfl) rfl (fun ls hl => ?_)
            refine lv_goto (tgt := 24) hx hb dX6_under_64 rfl ?_
            exact ih24_ (i + 1) (x ||| ((nI 1) <<< ((nI i) &&& 31))) _ _ _ (by first | omega | (simp only [] at *; omega)) (by first | assumption | omega | rfl) (by rw [h1]; first | (refine (orB_n ?_).symm; exact b01_0.mp c51) | (refine (orB_y ?_).symm; exact b01_1.mp c51)) hw (lv_sub hl [2, 3, 4, 1, 0] rfl)
    exact K24 _ 0 (nI 0) _ _ _ (Nat.lt_succ_self _) (by first | assumption | omega | rfl) (by rfl) hw (lv_sub hl [3, 4, 2, 1, 0] rfl)
  · refine lv_bipush (v := (-2)) hx hb dX6_under_7 rfl ?_
    exact hret _ _ _ _ _ _ dX6_under_9 hw rfl ⟨rfl, by unfold p_under; rw [if_pos c4]⟩
def pst {α : Type} (P : α) : α := P
def lrn (S S' : St) (z z' : Nat → Nat) (early : Int32) (c : Prop) (r r' : Int32) : Prop := (¬ c ∧ S' = S ∧ z' = z ∧ r = early) ∨ (c ∧ LR S S' z' ∧ r = r')
def e_least (S : St) (wh : Int32) : Int32 := if f_in wh (nI 0) (nI 2) = 0 then (-2) else (-3)
def c_least (S : St) (wh : Int32) : Prop := ¬ f_in wh (nI 0) (nI 2) = 0 ∧ ¬ picN S = 0
def r_least (S : St) (wh : Int32) : Int32 := if wh = nI 0 then S 44 0 else if wh = nI 1 then nI (cntB (kpB S (nI 0)) (treN S)) else S 43 0
def e_kept (S : St) (mo ix pi : Int32) : Int32 := if ¬ ix = (-1) ∧ ¬ pi = nI 9 ∧ haP S pi = 0 then (-1) else if f_in mo (nI 0) (nI 99) = 0 then (-2) else (-3)
def c_kept (S : St) (mo ix pi : Int32) : Prop := ¬ (¬ ix = (-1) ∧ ¬ pi = nI 9 ∧ haP S pi = 0) ∧ ¬ f_in mo (nI 0) (nI 99) = 0 ∧ ¬ picN S = 0
def kpI (S : St) (mo ix : Int32) : Nat := fstF (fun t => kpB S mo t && nI (cntB (kpB S mo) t) == ix) (treN S)
def r_kept (S : St) (mo ix pi : Int32) : Int32 := if ix = (-1) then nI (cntB (kpB S mo) (treN S)) else if kpI S mo ix = 0 then (-6) else if pi = nI 9 then S 21 (kpI S mo ix - 1) else srcIn (S 20 (kpI S mo ix - 1)) (clN pi)
def e_sure (S : St) (mo pi : Int32) : Int32 := if ¬ pi = nI 9 ∧ haP S pi = 0 then (-1) else if f_in mo (nI 0) (nI 99) = 0 then (-2) else (-3)
def c_sure (S : St) (mo pi : Int32) : Prop := ¬ (¬ pi = nI 9 ∧ haP S pi = 0) ∧ ¬ f_in mo (nI 0) (nI 99) = 0 ∧ ¬ picN S = 0
def r_sure (S : St) (mo pi : Int32) : Int32 := alF (kpB S mo) (fun t => trcF (S 20 t) (tpiN S) pi) ((nI 1 <<< (nI (tpiN S) &&& 31)) - nI 1) (treN S)
set_option maxHeartbeats 4000000 in
set_option maxRecDepth 20000 in
theorem c_X6_least (l : Launch) (D : va_G) (k : Nat → ClassId) (q z : Nat → Nat) (g : Nat → Option Nat) (S : St) (X : va_W) (wh : Int32) (hP : okP S) (hk0 : S 45 0 = nI 0 ∨ (S 45 0 = nI 1 ∧ okK S ∧ (tA S).length ≤ z 0)) (hz : z 1 = z 0) (hz9 : z 0 ≤ 16807) (hcap : (tA S).length ≤ mst (picN S)) : CI l D k yX6_least cX6_least 2 (some .int) 10 2 33614 [.ref (q 0), .int wh] (wC k q z g S X) (fun r w' => ∃ (z' : Nat → Nat) (S' : St), w' = wC k q z' g S' X ∧ lrn S S' z z' (e_least S wh) (c_least S wh) r (r_least S' wh)) := by
  refine CI.mk (by decide) (Nat.le_of_ble_eq_true rfl) ?_
  intro p e R s m args below meth c A Q ls F hret hw hl
  have hx := xs_hx F
  have hb := xs_hb F
  have hl : lv_has ls 2 [(0, .ref (q 0)), (1, .int wh)] := hl
  have h6 := hP.2
  refine lv_iload_n hx hb dX6_least_0 rfl (lv_at hl 1 rfl) ?_
  refine lv_iconst (v := nI 0) hx hb dX6_least_1 rfl ?_
  refine lv_iconst (v := nI 2) hx hb dX6_least_2 rfl ?_
  refine x_fSI (rest := []) (c_X6_within l D k (wC k q z g S X) wh (nI 0) (nI 2)) mo_X6_93 F hw (Nat.le_of_ble_eq_true rfl) (x_cs F (Nat.le_of_ble_eq_true rfl) (Nat.le_of_ble_eq_true rfl)) rfl rfl hl.1 (Nat.le_of_ble_eq_true rfl) dX6_least_3 (fun H locs hw => ?_)
  refine lv_if_ne (tgt := 12) hx hb dX6_least_6 rfl (fun c6 => ?_) (fun c6 => ?_)
  · refine lv_aload_n hx hb dX6_least_12 rfl (lv_at hl 0 rfl) ?_
    refine x_getr frC_0_0 F hw fo_X6_10 dX6_least_13 ?_
    refine x_geti fiC_40 F hw fo_X6_65 dX6_least_16 ?_
    refine x_top (y := nI (picN S)) hP.1 ?_
    refine x_if_ne (picN S) F (by omega) (tgt := 25) dX6_least_19 rfl (fun c19 => ?_) (fun c19 => ?_)
    · refine lv_aload_n hx hb dX6_least_25 rfl (lv_at hl 0 rfl) ?_
      refine x_getr frC_0_3 F hw fo_X6_32 dX6_least_26 ?_
      refine x_callVV (rest := []) (c_X5_learn l D k q z g S X hP hk0 hz hz9 hcap) mo_X6_126 obC_19 F hw (Nat.le_of_ble_eq_true rfl) (x_cs F (by omega) (by omega)) rfl rfl hl.1 (Nat.le_of_ble_eq_true rfl) dX6_least_29 (fun w_ H locs hp hw => ?_)
      obtain ⟨z2, S2, hp1, hLR⟩ := hp
      rw [hp1] at hw
      obtain ⟨z, rfl⟩ : ∃ z_, z_ = z2 := ⟨_, rfl⟩
      have hR := hLR.okR
      have hQ := hLR.okQ hP
      obtain ⟨-, hR1, hR2, hR3, hR4⟩ := id hR
      refine lv_iload_n hx hb dX6_least_32 rfl (lv_at hl 1 rfl) ?_
      rcases Decidable.em (wh = nI 0) with c33_0 | c33_0
      · refine lv_lookup (tgt := 60) hx hb dX6_least_33 rfl (by rw [c33_0] <;> rfl) rfl ?_
        refine lv_aload_n hx hb dX6_least_60 rfl (lv_at hl 0 rfl) ?_
        refine x_getr frC_0_3 F hw fo_X6_32 dX6_least_61 ?_
        refine x_geti fiC_44 F hw fo_X6_129 dX6_least_64 ?_
        refine W.widen (k := 2) (n := 33614) (by omega) (by omega) ?_
        exact hret _ _ _ _ _ _ dX6_least_67 hw rfl ⟨_, S2, rfl, Or.inr ⟨⟨c6, c19⟩, hLR, (if_pos c33_0).symm⟩⟩
      rcases Decidable.em (wh = nI 1) with c33_1 | c33_1
      · refine lv_lookup (tgt := 68) hx hb dX6_least_33 rfl (by rw [c33_1] <;> rfl) rfl ?_
        refine lv_aload_n hx hb dX6_least_68 rfl (lv_at hl 0 rfl) ?_
        refine x_getr frC_0_3 F hw fo_X6_32 dX6_least_69 ?_
        refine lv_iconst (v := nI 0) hx hb dX6_least_72 rfl ?_
        refine x_fVI (rest := []) (c_X5_countWithin l D k q z g S2 X (nI 0) (by exact hR)) mo_X6_132 obC_19 F hw (Nat.le_of_ble_eq_true rfl) (x_cs F (Nat.le_of_ble_eq_true rfl) (Nat.le_of_ble_eq_true rfl)) rfl rfl hl.1 (Nat.le_of_ble_eq_true rfl) dX6_least_73 (fun H locs hw => ?_)
        refine W.widen (k := 2) (n := 33614) (by omega) (by omega) ?_
        exact hret _ _ _ _ _ _ dX6_least_76 hw rfl ⟨_, S2, rfl, Or.inr ⟨⟨c6, c19⟩, hLR, ((if_neg c33_0).trans (if_pos c33_1)).symm⟩⟩
      refine lv_lookup (tgt := 77) hx hb dX6_least_33 rfl ((lv_osw c33_0 rfl).trans ((lv_osw c33_1 rfl).trans rfl)) rfl ?_
      refine lv_aload_n hx hb dX6_least_77 rfl (lv_at hl 0 rfl) ?_
      refine x_getr frC_0_3 F hw fo_X6_32 dX6_least_78 ?_
      refine x_geti fiC_43 F hw fo_X6_135 dX6_least_81 ?_
      refine W.widen (k := 2) (n := 33614) (by omega) (by omega) ?_
      exact hret _ _ _ _ _ _ dX6_least_84 hw rfl ⟨_, S2, rfl, Or.inr ⟨⟨c6, c19⟩, hLR, ((if_neg c33_0).trans (if_neg c33_1)).symm⟩⟩
    · refine lv_bipush (v := (-3)) hx hb dX6_least_22 rfl ?_
      refine W.widen (k := 2) (n := 33614) (by omega) (by omega) ?_
      exact hret _ _ _ _ _ _ dX6_least_24 hw rfl ⟨z, S, rfl, Or.inl ⟨fun q => q.2 c19, rfl, rfl, (if_neg c6).symm⟩⟩
  · refine lv_bipush (v := (-2)) hx hb dX6_least_9 rfl ?_
    refine W.widen (k := 2) (n := 33614) (by omega) (by omega) ?_
    exact hret _ _ _ _ _ _ dX6_least_11 hw rfl ⟨z, S, rfl, Or.inl ⟨fun q => q.1 c6, rfl, rfl, (if_pos c6).symm⟩⟩
theorem kp_no {j : Nat} (hj : j < 2 ^ 31) (h : nI j = (-6)) : False := by
  have h1 : (nI j).toInt = (-6 : Int32).toInt := by rw [h]
  rw [nI_toInt hj] at h1
  have h2 : (-6 : Int32).toInt = -6 := rfl
  omega
set_option maxHeartbeats 4000000 in
set_option maxRecDepth 20000 in
theorem c_X6_kept (l : Launch) (D : va_G) (k : Nat → ClassId) (q z : Nat → Nat) (g : Nat → Option Nat) (S : St) (X : va_W) (mo : Int32) (ix : Int32) (pi : Int32) (hP : okP S) (hk0 : S 45 0 = nI 0 ∨ (S 45 0 = nI 1 ∧ okK S ∧ (tA S).length ≤ z 0)) (hz : z 1 = z 0) (hz9 : z 0 ≤ 16807) (hcap : (tA S).length ≤ mst (picN S)) : CI l D k yX6_kept cX6_kept 5 (some .int) 10 2 33614 [.ref (q 0), .int mo, .int ix, .int pi] (wC k q z g S X) (fun r w' => ∃ (z' : Nat → Nat) (S' : St), w' = wC k q z' g S' X ∧ lrn S S' z z' (e_kept S mo ix pi) (c_kept S mo ix pi) r (r_kept S' mo ix pi)) := by
  refine CI.mk (by decide) (Nat.le_of_ble_eq_true rfl) ?_
  intro p e R s m args below meth c A Q ls F hret hw hl
  have hx := xs_hx F
  have hb := xs_hb F
  have hl : lv_has ls 5 [(0, .ref (q 0)), (1, .int mo), (2, .int ix), (3, .int pi)] := hl
  have h6 := hP.2
  refine lv_iload_n hx hb dX6_kept_0 rfl (lv_at hl 2 rfl) ?_
  refine lv_iconst (v := (-1)) hx hb dX6_kept_1 rfl ?_
  have K24 : ∀ (H : Heap) (locs : List Loc) (ls : Array Slot), (¬ (¬ ix = (-1) ∧ ¬ pi = nI 9 ∧ haP S pi = 0)) → Wd D A s.heap H locs (wC k q z g S X) → lv_has ls 5 [(0, .ref (q 0)), (1, .int mo), (2, .int ix), (3, .int pi)] → W p l e R s m args below meth c H locs 0 0 Q (F0 m 24 ls []) := by
    intro H locs ls hck hw hl
    refine lv_iload_n hx hb dX6_kept_24 rfl (lv_at hl 1 rfl) ?_
    refine lv_iconst (v := nI 0) hx hb dX6_kept_25 rfl ?_
    refine lv_bipush (v := nI 99) hx hb dX6_kept_26 rfl ?_
    refine x_fSI (rest := []) (c_X6_within l D k (wC k q z g S X) mo (nI 0) (nI 99)) mo_X6_93 F hw (Nat.le_of_ble_eq_true rfl) (x_cs F (Nat.le_of_ble_eq_true rfl) (Nat.le_of_ble_eq_true rfl)) rfl rfl hl.1 (Nat.le_of_ble_eq_true rfl) dX6_kept_28 (fun H locs hw => ?_)
    refine lv_if_ne (tgt := 37) hx hb dX6_kept_31 rfl (fun c31 => ?_) (fun c31 => ?_)
    · refine lv_aload_n hx hb dX6_kept_37 rfl (lv_at hl 0 rfl) ?_
      refine x_getr frC_0_0 F hw fo_X6_10 dX6_kept_38 ?_
      refine x_geti fiC_40 F hw fo_X6_65 dX6_kept_41 ?_
      refine x_top (y := nI (picN S)) hP.1 ?_
      refine x_if_ne (picN S) F (by omega) (tgt := 50) dX6_kept_44 rfl (fun c44 => ?_) (fun c44 => ?_)
      · refine lv_aload_n hx hb dX6_kept_50 rfl (lv_at hl 0 rfl) ?_
        refine x_getr frC_0_3 F hw fo_X6_32 dX6_kept_51 ?_
        refine x_callVV (rest := []) (c_X5_learn l D k q z g S X hP hk0 hz hz9 hcap) mo_X6_126 obC_19 F hw (Nat.le_of_ble_eq_true rfl) (x_cs F (by omega) (by omega)) rfl rfl hl.1 (Nat.le_of_ble_eq_true rfl) dX6_kept_54 (fun w_ H locs hp hw => ?_)
        obtain ⟨z2, S2, hp1, hLR⟩ := hp
        rw [hp1] at hw
        obtain ⟨z, rfl⟩ : ∃ z_, z_ = z2 := ⟨_, rfl⟩
        have hR := hLR.okR
        have hQ := hLR.okQ hP
        obtain ⟨-, hR1, hR2, hR3, hR4⟩ := id hR
        refine lv_iload_n hx hb dX6_kept_57 rfl (lv_at hl 2 rfl) ?_
        refine lv_iconst (v := (-1)) hx hb dX6_kept_58 rfl ?_
        refine lv_icmp_ne (tgt := 71) hx hb dX6_kept_59 rfl (fun c59 => ?_) (fun c59 => ?_)
        · refine lv_aload_n hx hb dX6_kept_71 rfl (lv_at hl 0 rfl) ?_
          refine x_getr frC_0_3 F hw fo_X6_32 dX6_kept_72 ?_
          refine lv_iload_n hx hb dX6_kept_75 rfl (lv_at hl 1 rfl) ?_
          refine lv_iload_n hx hb dX6_kept_76 rfl (lv_at hl 2 rfl) ?_
          refine x_fVI (rest := []) (c_X5_placeOfKept l D k q z g S2 X mo ix (by exact hR)) mo_X6_136 obC_19 F hw (Nat.le_of_ble_eq_true rfl) (x_cs F (Nat.le_of_ble_eq_true rfl) (Nat.le_of_ble_eq_true rfl)) rfl rfl hl.1 (Nat.le_of_ble_eq_true rfl) dX6_kept_77 (fun H locs hw => ?_)
          refine lv_istore (lv' := [(4, .int ((if fstF (fun t => kpB S2 mo t && nI (cntB (kpB S2 mo) t) == ix) (treN S2) = 0 then (-6) else nI (fstF (fun t => kpB S2 mo t && nI (cntB (kpB S2 mo) t) == ix) (treN S2) - 1)))), (0, .ref (q 0)), (1, .int mo), (2, .int ix), (3, .int pi)]) hx hb dX6_kept_80 hl (Nat.le_of_ble_eq_true rfl) rfl (fun ls hl => ?_)
          refine lv_iload hx hb dX6_kept_82 (lv_at hl 0 rfl) ?_
          refine lv_bipush (v := (-6)) hx hb dX6_kept_84 rfl ?_
          refine lv_icmp_ne (tgt := 92) hx hb dX6_kept_86 rfl (fun c86 => ?_) (fun c86 => ?_)
          · have hkp : ¬ kpI S2 mo ix = 0 := fun q => c86 (if_pos q)
            have hkl : kpI S2 mo ix ≤ treN S2 := fstF_le _ _
            have ek : (if kpI S2 mo ix = 0 then (-6) else nI (kpI S2 mo ix - 1)) = nI (kpI S2 mo ix - 1) := if_neg hkp
            refine lv_iload_n hx hb dX6_kept_92 rfl (lv_at hl 4 rfl) ?_
            refine lv_bipush (v := nI 9) hx hb dX6_kept_93 rfl ?_
            refine lv_icmp_ne (tgt := 111) hx hb dX6_kept_95 rfl (fun c95 => ?_) (fun c95 => ?_)
            · have hpi : pi = nI (clN pi) ∧ clN pi < picN S := haP_t hP (fun q => hck ⟨c59, c95, q⟩)
              refine lv_aload_n hx hb dX6_kept_111 rfl (lv_at hl 1 rfl) ?_
              refine x_getr frC_0_3 F hw fo_X6_32 dX6_kept_112 ?_
              refine x_getr frC_19_2 F hw fo_X6_142 dX6_kept_115 ?_
              refine lv_iload hx hb dX6_kept_118 (lv_at hl 0 rfl) ?_
              refine x_iald (aiC_20 hR.2.2.2.1) F hw (kpI S2 mo ix - 1) ek (by omega) dX6_kept_120 ?_
              refine lv_iload_n hx hb dX6_kept_121 rfl (lv_at hl 4 rfl) ?_
              refine x_top (y := nI (clN pi)) hpi.1 ?_
              refine x_fSI (rest := []) (c_X5_sourceIn l D k (wC k q z g S2 X) (S2 20 (kpI S2 mo ix - 1)) (clN pi)) mo_X6_145 F hw (Nat.le_of_ble_eq_true rfl) (x_cs F (Nat.le_of_ble_eq_true rfl) (Nat.le_of_ble_eq_true rfl)) rfl rfl hl.1 (Nat.le_of_ble_eq_true rfl) dX6_kept_122 (fun H locs hw => ?_)
              refine W.widen (k := 2) (n := 33614) (by omega) (by omega) ?_
              exact hret _ _ _ _ _ _ dX6_kept_125 hw rfl ⟨_, S2, rfl, Or.inr ⟨⟨hck, c31, c44⟩, hLR, by unfold r_kept; rw [if_neg c59, if_neg hkp]; first | exact (if_pos c95).symm | exact (if_neg c95).symm⟩⟩
            · refine lv_aload_n hx hb dX6_kept_98 rfl (lv_at hl 1 rfl) ?_
              refine x_getr frC_0_3 F hw fo_X6_32 dX6_kept_99 ?_
              refine x_getr frC_19_3 F hw fo_X6_139 dX6_kept_102 ?_
              refine lv_iload hx hb dX6_kept_105 (lv_at hl 0 rfl) ?_
              refine x_iald (aiC_21 hR.2.2.2.2) F hw (kpI S2 mo ix - 1) ek (by omega) dX6_kept_107 ?_
              refine lv_goto (tgt := 125) hx hb dX6_kept_108 rfl ?_
              refine W.widen (k := 2) (n := 33614) (by omega) (by omega) ?_
              exact hret _ _ _ _ _ _ dX6_kept_125 hw rfl ⟨_, S2, rfl, Or.inr ⟨⟨hck, c31, c44⟩, hLR, by unfold r_kept; rw [if_neg c59, if_neg hkp]; first | exact (if_pos c95).symm | exact (if_neg c95).symm⟩⟩
          · refine lv_bipush (v := (-6)) hx hb dX6_kept_89 rfl ?_
            refine W.widen (k := 2) (n := 33614) (by omega) (by omega) ?_
            exact hret _ _ _ _ _ _ dX6_kept_91 hw rfl ⟨_, S2, rfl, Or.inr ⟨⟨hck, c31, c44⟩, hLR, ((if_neg c59).trans (if_pos (Decidable.byContradiction (fun q => kp_no (j := kpI S2 mo ix - 1) (by have hkl : kpI S2 mo ix ≤ treN S2 := fstF_le _ _; omega) ((if_neg q).symm.trans c86))))).symm⟩⟩
        · refine lv_aload_n hx hb dX6_kept_62 rfl (lv_at hl 0 rfl) ?_
          refine x_getr frC_0_3 F hw fo_X6_32 dX6_kept_63 ?_
          refine lv_iload_n hx hb dX6_kept_66 rfl (lv_at hl 1 rfl) ?_
          refine x_fVI (rest := []) (c_X5_countWithin l D k q z g S2 X mo (by exact hR)) mo_X6_132 obC_19 F hw (Nat.le_of_ble_eq_true rfl) (x_cs F (Nat.le_of_ble_eq_true rfl) (Nat.le_of_ble_eq_true rfl)) rfl rfl hl.1 (Nat.le_of_ble_eq_true rfl) dX6_kept_67 (fun H locs hw => ?_)
          refine W.widen (k := 2) (n := 33614) (by omega) (by omega) ?_
          exact hret _ _ _ _ _ _ dX6_kept_70 hw rfl ⟨_, S2, rfl, Or.inr ⟨⟨hck, c31, c44⟩, hLR, (if_pos c59).symm⟩⟩
      · refine lv_bipush (v := (-3)) hx hb dX6_kept_47 rfl ?_
        refine W.widen (k := 2) (n := 33614) (by omega) (by omega) ?_
        exact hret _ _ _ _ _ _ dX6_kept_49 hw rfl ⟨z, S, rfl, Or.inl ⟨fun q => q.2.2 c44, rfl, rfl, ((if_neg hck).trans (if_neg c31)).symm⟩⟩
    · refine lv_bipush (v := (-2)) hx hb dX6_kept_34 rfl ?_
      refine W.widen (k := 2) (n := 33614) (by omega) (by omega) ?_
      exact hret _ _ _ _ _ _ dX6_kept_36 hw rfl ⟨z, S, rfl, Or.inl ⟨fun q => q.2.1 c31, rfl, rfl, ((if_neg hck).trans (if_pos c31)).symm⟩⟩
  refine lv_icmp_eq (tgt := 24) hx hb dX6_kept_2 rfl (fun c2 => ?_) (fun c2 => ?_)
  · exact K24 _ _ _ (by first | exact fun q => q.1 c2 | exact fun q => q.2.1 c8 | exact fun q => c19 q.2.2) hw (lv_sub hl [0, 1, 2, 3] rfl)
  · refine lv_iload_n hx hb dX6_kept_5 rfl (lv_at hl 3 rfl) ?_
    refine lv_bipush (v := nI 9) hx hb dX6_kept_6 rfl ?_
    refine lv_icmp_eq (tgt := 24) hx hb dX6_kept_8 rfl (fun c8 => ?_) (fun c8 => ?_)
    · exact K24 _ _ _ (by first | exact fun q => q.1 c2 | exact fun q => q.2.1 c8 | exact fun q => c19 q.2.2) hw (lv_sub hl [0, 1, 2, 3] rfl)
    · refine lv_aload_n hx hb dX6_kept_11 rfl (lv_at hl 0 rfl) ?_
      refine x_getr frC_0_0 F hw fo_X6_10 dX6_kept_12 ?_
      refine lv_iload_n hx hb dX6_kept_15 rfl (lv_at hl 3 rfl) ?_
      refine x_fVI (rest := []) (c_X1_hasPicture l D k q z g S X pi) mo_X6_76 obC_2 F hw (Nat.le_of_ble_eq_true rfl) (x_cs F (Nat.le_of_ble_eq_true rfl) (Nat.le_of_ble_eq_true rfl)) rfl rfl hl.1 (Nat.le_of_ble_eq_true rfl) dX6_kept_16 (fun H locs hw => ?_)
      refine lv_if_ne (tgt := 24) hx hb dX6_kept_19 rfl (fun c19 => ?_) (fun c19 => ?_)
      · exact K24 _ _ _ (by first | exact fun q => q.1 c2 | exact fun q => q.2.1 c8 | exact fun q => c19 q.2.2) hw (lv_sub hl [0, 1, 2, 3] rfl)
      · refine lv_iconst (v := (-1)) hx hb dX6_kept_22 rfl ?_
        refine W.widen (k := 2) (n := 33614) (by omega) (by omega) ?_
        exact hret _ _ _ _ _ _ dX6_kept_23 hw rfl ⟨z, S, rfl, Or.inl ⟨fun q => q.1 ⟨c2, c8, c19⟩, rfl, rfl, (if_pos ⟨c2, c8, c19⟩).symm⟩⟩
set_option maxHeartbeats 4000000 in
set_option maxRecDepth 20000 in
theorem c_X6_sure (l : Launch) (D : va_G) (k : Nat → ClassId) (q z : Nat → Nat) (g : Nat → Option Nat) (S : St) (X : va_W) (mo : Int32) (pi : Int32) (hP : okP S) (hk0 : S 45 0 = nI 0 ∨ (S 45 0 = nI 1 ∧ okK S ∧ (tA S).length ≤ z 0)) (hz : z 1 = z 0) (hz9 : z 0 ≤ 16807) (hcap : (tA S).length ≤ mst (picN S)) : CI l D k yX6_sure cX6_sure 3 (some .int) 10 2 33614 [.ref (q 0), .int mo, .int pi] (wC k q z g S X) (fun r w' => ∃ (z' : Nat → Nat) (S' : St), w' = wC k q z' g S' X ∧ lrn S S' z z' (e_sure S mo pi) (c_sure S mo pi) r (r_sure S' mo pi)) := by
  refine CI.mk (by decide) (Nat.le_of_ble_eq_true rfl) ?_
  intro p e R s m args below meth c A Q ls F hret hw hl
  have hx := xs_hx F
  have hb := xs_hb F
  have hl : lv_has ls 3 [(0, .ref (q 0)), (1, .int mo), (2, .int pi)] := hl
  have h6 := hP.2
  refine lv_iload_n hx hb dX6_sure_0 rfl (lv_at hl 2 rfl) ?_
  refine lv_bipush (v := nI 9) hx hb dX6_sure_1 rfl ?_
  have K19 : ∀ (H : Heap) (locs : List Loc) (ls : Array Slot), (¬ (¬ pi = nI 9 ∧ haP S pi = 0)) → Wd D A s.heap H locs (wC k q z g S X) → lv_has ls 3 [(0, .ref (q 0)), (1, .int mo), (2, .int pi)] → W p l e R s m args below meth c H locs 0 0 Q (F0 m 19 ls []) := by
    intro H locs ls hck hw hl
    refine lv_iload_n hx hb dX6_sure_19 rfl (lv_at hl 1 rfl) ?_
    refine lv_iconst (v := nI 0) hx hb dX6_sure_20 rfl ?_
    refine lv_bipush (v := nI 99) hx hb dX6_sure_21 rfl ?_
    refine x_fSI (rest := []) (c_X6_within l D k (wC k q z g S X) mo (nI 0) (nI 99)) mo_X6_93 F hw (Nat.le_of_ble_eq_true rfl) (x_cs F (Nat.le_of_ble_eq_true rfl) (Nat.le_of_ble_eq_true rfl)) rfl rfl hl.1 (Nat.le_of_ble_eq_true rfl) dX6_sure_23 (fun H locs hw => ?_)
    refine lv_if_ne (tgt := 32) hx hb dX6_sure_26 rfl (fun c26 => ?_) (fun c26 => ?_)
    · refine lv_aload_n hx hb dX6_sure_32 rfl (lv_at hl 0 rfl) ?_
      refine x_getr frC_0_0 F hw fo_X6_10 dX6_sure_33 ?_
      refine x_geti fiC_40 F hw fo_X6_65 dX6_sure_36 ?_
      refine x_top (y := nI (picN S)) hP.1 ?_
      refine x_if_ne (picN S) F (by omega) (tgt := 45) dX6_sure_39 rfl (fun c39 => ?_) (fun c39 => ?_)
      · refine lv_aload_n hx hb dX6_sure_45 rfl (lv_at hl 0 rfl) ?_
        refine x_getr frC_0_3 F hw fo_X6_32 dX6_sure_46 ?_
        refine x_callVV (rest := []) (c_X5_learn l D k q z g S X hP hk0 hz hz9 hcap) mo_X6_126 obC_19 F hw (Nat.le_of_ble_eq_true rfl) (x_cs F (by omega) (by omega)) rfl rfl hl.1 (Nat.le_of_ble_eq_true rfl) dX6_sure_49 (fun w_ H locs hp hw => ?_)
        obtain ⟨z2, S2, hp1, hLR⟩ := hp
        rw [hp1] at hw
        obtain ⟨z, rfl⟩ : ∃ z_, z_ = z2 := ⟨_, rfl⟩
        have hR := hLR.okR
        have hQ := hLR.okQ hP
        obtain ⟨-, hR1, hR2, hR3, hR4⟩ := id hR
        refine lv_aload_n hx hb dX6_sure_52 rfl (lv_at hl 0 rfl) ?_
        refine x_getr frC_0_3 F hw fo_X6_32 dX6_sure_53 ?_
        refine lv_iload_n hx hb dX6_sure_56 rfl (lv_at hl 1 rfl) ?_
        refine lv_iload_n hx hb dX6_sure_57 rfl (lv_at hl 2 rfl) ?_
        refine x_fVI (rest := []) (c_X5_alwaysFrom l D k q z g S2 X mo pi (by exact hR) (by exact hQ)) mo_X6_148 obC_19 F hw (Nat.le_of_ble_eq_true rfl) (x_cs F (Nat.le_of_ble_eq_true rfl) (Nat.le_of_ble_eq_true rfl)) rfl rfl hl.1 (Nat.le_of_ble_eq_true rfl) dX6_sure_58 (fun H locs hw => ?_)
        refine W.widen (k := 2) (n := 33614) (by omega) (by omega) ?_
        exact hret _ _ _ _ _ _ dX6_sure_61 hw rfl ⟨_, S2, rfl, Or.inr ⟨⟨hck, c26, c39⟩, hLR, rfl⟩⟩
      · refine lv_bipush (v := (-3)) hx hb dX6_sure_42 rfl ?_
        refine W.widen (k := 2) (n := 33614) (by omega) (by omega) ?_
        exact hret _ _ _ _ _ _ dX6_sure_44 hw rfl ⟨z, S, rfl, Or.inl ⟨fun q => q.2.2 c39, rfl, rfl, ((if_neg hck).trans (if_neg c26)).symm⟩⟩
    · refine lv_bipush (v := (-2)) hx hb dX6_sure_29 rfl ?_
      refine W.widen (k := 2) (n := 33614) (by omega) (by omega) ?_
      exact hret _ _ _ _ _ _ dX6_sure_31 hw rfl ⟨z, S, rfl, Or.inl ⟨fun q => q.2.1 c26, rfl, rfl, ((if_neg hck).trans (if_pos c26)).symm⟩⟩
  refine lv_icmp_eq (tgt := 19) hx hb dX6_sure_3 rfl (fun c3 => ?_) (fun c3 => ?_)
  · exact K19 _ _ _ (by first | exact fun q => q.1 c3 | exact fun q => c14 q.2) hw (lv_sub hl [0, 1, 2] rfl)
  · refine lv_aload_n hx hb dX6_sure_6 rfl (lv_at hl 0 rfl) ?_
    refine x_getr frC_0_0 F hw fo_X6_10 dX6_sure_7 ?_
    refine lv_iload_n hx hb dX6_sure_10 rfl (lv_at hl 2 rfl) ?_
    refine x_fVI (rest := []) (c_X1_hasPicture l D k q z g S X pi) mo_X6_76 obC_2 F hw (Nat.le_of_ble_eq_true rfl) (x_cs F (Nat.le_of_ble_eq_true rfl) (Nat.le_of_ble_eq_true rfl)) rfl rfl hl.1 (Nat.le_of_ble_eq_true rfl) dX6_sure_11 (fun H locs hw => ?_)
    refine lv_if_ne (tgt := 19) hx hb dX6_sure_14 rfl (fun c14 => ?_) (fun c14 => ?_)
    · exact K19 _ _ _ (by first | exact fun q => q.1 c3 | exact fun q => c14 q.2) hw (lv_sub hl [0, 1, 2] rfl)
    · refine lv_iconst (v := (-1)) hx hb dX6_sure_17 rfl ?_
      refine W.widen (k := 2) (n := 33614) (by omega) (by omega) ?_
      exact hret _ _ _ _ _ _ dX6_sure_18 hw rfl ⟨z, S, rfl, Or.inl ⟨fun q => q.1 ⟨c3, c14⟩, rfl, rfl, (if_pos ⟨c3, c14⟩).symm⟩⟩
