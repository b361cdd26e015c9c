/-! ===== the face of the reference ===== -/
theorem cl_lt (x : Int32) : clN x < 2 ^ 31 := by
  unfold clN
  have h3 : x.toInt ≤ 2147483647 := Int32.toInt_le x
  rw [Int32.toNatClampNeg]
  omega
theorem f_in_p {v : Int32} {n : Nat} (hn : n < 2 ^ 30) (h : ¬ f_in v (nI 0) (nI n - nI 1) = 0) : v = nI (clN v) ∧ clN v < n := by
  have h1 := Decidable.not_not.mp (fun q => h (f_in_0.mpr q))
  have e := nn_of (x := v) h1.1
  refine ⟨e, ?_⟩
  cases n with
  | zero =>
    have h2 := h1.2
    have h0 := h1.1
    exact absurd (Int32.le_trans h0 h2) (by decide)
  | succ n =>
    have h2 := h1.2
    rw [show nI (n + 1) - nI 1 = nI n from nI_pred n, e] at h2
    have := (nI_leI (cl_lt v) (by omega)).mp h2
    omega
theorem haMP_t {S : St} {pi : Int32} (hP : okMP S) (h : ¬ haMP S pi = 0) : pi = nI (clN pi) ∧ clN pi < mpcN S := f_in_p (by have := hP.2; omega) h
theorem haMM_t {S : St} {mn : Int32} (hN : okMN S) (h : ¬ haMM S mn = 0) : mn = nI (clN mn) ∧ clN mn < mmnN S := f_in_p (by have := hN.1.2; omega) h
theorem f_in_t2 {v : Int32} {a b : Nat} (ha : a < 2 ^ 31) (hb : b < 2 ^ 31) (h : ¬ f_in v (nI a) (nI b) = 0) : v = nI (clN v) ∧ a ≤ clN v ∧ clN v ≤ b := by
  have h1 := Decidable.not_not.mp (fun q => h (f_in_0.mpr q))
  have h0 : 0 ≤ v := Int32.le_trans (nI_pos' ha) h1.1
  have e := nn_of h0
  have h2 := h1.2
  have h3 := h1.1
  rw [e] at h2 h3
  exact ⟨e, (nI_leI ha (cl_lt v)).mp h3, (nI_leI (cl_lt v) hb).mp h2⟩
def lnM (S : St) : Nat := (if rulN S = 0 then 0 else 1) + cntB (fun j => S 9 j == nI 59) (rulN S)
def mlawS (S : St) : St := va_up (va_up (va_up (va_up S 8 (fun _ => nI (msgN S))) 9 (fun j => if j < msgN S then S 7 j else S 9 j)) 6 (fun _ => nI 0)) 18 (fun _ => nI 0)
def m_law (S : St) : Int32 × St := if fltR (S 7) (msgN S) < 0 then (nI (lnM (mlawS S)), mlawS S) else ((-5), S)
def m_picture (S : St) (dr : Int32) (lo : Int32) (hi : Int32) : Int32 × St := if (isDr dr) = 0 then ((-2), S) else if (f_in lo (nI 0) (nI 99)) = 0 then ((-2), S) else if (f_in hi (nI 0) (nI 99)) = 0 then ((-2), S) else if lo ≤ hi then if (mpcN S) = 6 then ((-4), S) else (nI (mpcN S), (va_up (va_up (va_up (va_up (va_up (va_up S 1 (upd (S 1) (mpcN S) dr)) 2 (upd (S 2) (mpcN S) lo)) 3 (upd (S 3) (mpcN S) hi)) 4 (upd (S 4) (mpcN S) (-6))) 0 (fun _ => nI ((mpcN S) + 1))) 18 (fun _ => nI 0))) else ((-2), S)
set_option maxHeartbeats 4000000 in
set_option maxRecDepth 20000 in
theorem c_X7_picture (l : Launch) (D : va_G) (k : Nat → ClassId) (q : Nat → Nat) (S : St) (X : va_W) (dr : Int32) (lo : Int32) (hi : Int32) (hP : okMP S) : CI l D k yX7_picture cX7_picture 4 (some .int) 2 0 0 [.ref (q 30), .int dr, .int lo, .int hi] (wM k q S X) (fun r w' => w' = wM k q ((m_picture S dr lo hi).2) X ∧ r = (m_picture S dr lo hi).1) := by
  refine CI.mk (by decide) (Nat.le_of_ble_eq_true rfl) ?_
  intro p e R s m args below meth c A Q ls F hret hw hl
  have hx := xs_hx F
  have hb := xs_hb F
  have hl : lv_has ls 4 [(0, .ref (q 30)), (1, .int dr), (2, .int lo), (3, .int hi)] := hl
  have h6 := hP.2
  refine lv_iload_n hx hb dX7_picture_0 rfl (lv_at hl 1 rfl) ?_
  refine x_fSI (rest := []) (c_X7_isDrawing l D k (wM k q S X) dr) mo_X7_74 F hw (Nat.le_of_ble_eq_true rfl) (x_cs F (Nat.le_of_ble_eq_true rfl) (Nat.le_of_ble_eq_true rfl)) rfl rfl hl.1 (Nat.le_of_ble_eq_true rfl) dX7_picture_1 (fun H locs hw => ?_)
  refine lv_if_eq (tgt := 26) hx hb dX7_picture_4 rfl (fun c4 => ?_) (fun c4 => ?_)
  · refine lv_bipush (v := (-2)) hx hb dX7_picture_26 rfl ?_
    have e9 : m_picture S dr lo hi = ((-2), S) := by unfold m_picture; rw [if_pos c4]
    exact hret _ _ _ _ _ _ dX7_picture_28 hw rfl ⟨by rw [e9] <;> rfl, by rw [e9] <;> rfl⟩
  · refine lv_iload_n hx hb dX7_picture_7 rfl (lv_at hl 2 rfl) ?_
    refine x_fSI (rest := []) (c_X7_isYear l D k (wM k q S X) lo) mo_X7_78 F hw (Nat.le_of_ble_eq_true rfl) (x_cs F (Nat.le_of_ble_eq_true rfl) (Nat.le_of_ble_eq_true rfl)) rfl rfl hl.1 (Nat.le_of_ble_eq_true rfl) dX7_picture_8 (fun H locs hw => ?_)
    refine lv_if_eq (tgt := 26) hx hb dX7_picture_11 rfl (fun c11 => ?_) (fun c11 => ?_)
    · refine lv_bipush (v := (-2)) hx hb dX7_picture_26 rfl ?_
      have e9 : m_picture S dr lo hi = ((-2), S) := by unfold m_picture; rw [if_neg c4, if_pos c11]
      exact hret _ _ _ _ _ _ dX7_picture_28 hw rfl ⟨by rw [e9] <;> rfl, by rw [e9] <;> rfl⟩
    · refine lv_iload_n hx hb dX7_picture_14 rfl (lv_at hl 3 rfl) ?_
      refine x_fSI (rest := []) (c_X7_isYear l D k (wM k q S X) hi) mo_X7_78 F hw (Nat.le_of_ble_eq_true rfl) (x_cs F (Nat.le_of_ble_eq_true rfl) (Nat.le_of_ble_eq_true rfl)) rfl rfl hl.1 (Nat.le_of_ble_eq_true rfl) dX7_picture_15 (fun H locs hw => ?_)
      refine lv_if_eq (tgt := 26) hx hb dX7_picture_18 rfl (fun c18 => ?_) (fun c18 => ?_)
      · refine lv_bipush (v := (-2)) hx hb dX7_picture_26 rfl ?_
        have e9 : m_picture S dr lo hi = ((-2), S) := by unfold m_picture; rw [if_neg c4, if_neg c11, if_pos c18]
        exact hret _ _ _ _ _ _ dX7_picture_28 hw rfl ⟨by rw [e9] <;> rfl, by rw [e9] <;> rfl⟩
      · refine lv_iload_n hx hb dX7_picture_21 rfl (lv_at hl 2 rfl) ?_
        refine lv_iload_n hx hb dX7_picture_22 rfl (lv_at hl 3 rfl) ?_
        refine lv_icmp_le (tgt := 29) hx hb dX7_picture_23 rfl (fun c23 => ?_) (fun c23 => ?_)
        · refine lv_aload_n hx hb dX7_picture_29 rfl (lv_at hl 0 rfl) ?_
          refine x_geti fiM_0 F hw fo_X7_65 dX7_picture_30 ?_
          refine x_top (y := nI (mpcN S)) hP.1 ?_
          refine lv_bipush (v := nI 6) hx hb dX7_picture_33 rfl ?_
          refine x_icmp_ne (mpcN S) 6 F (by omega) (by omega) (tgt := 41) dX7_picture_35 rfl (fun c35 => ?_) (fun c35 => ?_)
          · refine lv_aload_n hx hb dX7_picture_41 rfl (lv_at hl 0 rfl) ?_
            refine x_getr frM_1 F hw fo_X7_7 dX7_picture_42 ?_
            refine lv_aload_n hx hb dX7_picture_45 rfl (lv_at hl 0 rfl) ?_
            refine x_geti fiM_0 F hw fo_X7_65 dX7_picture_46 ?_
            refine x_top (y := nI (mpcN S)) hP.1 ?_
            refine lv_iload_n hx hb dX7_picture_49 rfl (lv_at hl 1 rfl) ?_
            refine x_iast aiM_1 F hw (mpcN S) rfl (by omega) dX7_picture_50 (fun H locs hw => ?_)
            refine lv_aload_n hx hb dX7_picture_51 rfl (lv_at hl 0 rfl) ?_
            refine x_getr frM_2 F hw fo_X7_13 dX7_picture_52 ?_
            refine lv_aload_n hx hb dX7_picture_55 rfl (lv_at hl 0 rfl) ?_
            refine x_geti fiM_0 F hw fo_X7_65 dX7_picture_56 ?_
            refine x_top (y := S 0 0) rfl ?_
            refine x_top (y := nI (mpcN S)) hP.1 ?_
            refine lv_iload_n hx hb dX7_picture_59 rfl (lv_at hl 2 rfl) ?_
            refine x_iast aiM_2 F hw (mpcN S) rfl (by omega) dX7_picture_60 (fun H locs hw => ?_)
            refine lv_aload_n hx hb dX7_picture_61 rfl (lv_at hl 0 rfl) ?_
            refine x_getr frM_3 F hw fo_X7_16 dX7_picture_62 ?_
            refine lv_aload_n hx hb dX7_picture_65 rfl (lv_at hl 0 rfl) ?_
            refine x_geti fiM_0 F hw fo_X7_65 dX7_picture_66 ?_
            refine x_top (y := S 0 0) rfl ?_
            refine x_top (y := nI (mpcN S)) hP.1 ?_
            refine lv_iload_n hx hb dX7_picture_69 rfl (lv_at hl 3 rfl) ?_
            refine x_iast aiM_3 F hw (mpcN S) rfl (by omega) dX7_picture_70 (fun H locs hw => ?_)
            refine lv_aload_n hx hb dX7_picture_71 rfl (lv_at hl 0 rfl) ?_
            refine x_getr frM_4 F hw fo_X7_19 dX7_picture_72 ?_
            refine lv_aload_n hx hb dX7_picture_75 rfl (lv_at hl 0 rfl) ?_
            refine x_geti fiM_0 F hw fo_X7_65 dX7_picture_76 ?_
            refine x_top (y := S 0 0) rfl ?_
            refine x_top (y := nI (mpcN S)) hP.1 ?_
            refine lv_bipush (v := (-6)) hx hb dX7_picture_79 rfl ?_
            refine x_iast aiM_4 F hw (mpcN S) rfl (by omega) dX7_picture_81 (fun H locs hw => ?_)
            refine lv_aload_n hx hb dX7_picture_82 rfl (lv_at hl 0 rfl) ?_
            refine lv_dup hx hb dX7_picture_83 rfl ?_
            refine x_geti fiM_0 F hw fo_X7_65 dX7_picture_84 ?_
            refine x_top (y := S 0 0) rfl ?_
            refine x_top (y := nI (mpcN S)) hP.1 ?_
            refine lv_iconst (v := nI 1) hx hb dX7_picture_87 rfl ?_
            refine lv_iadd hx hb dX7_picture_88 ?_
            refine x_top (y := nI ((mpcN S) + 1)) (nI_add _ _) ?_
            refine x_puti fiM_0 F hw fo_X7_65 rfl rfl dX7_picture_89 (fun H locs hw => ?_)
            refine lv_aload_n hx hb dX7_picture_92 rfl (lv_at hl 0 rfl) ?_
            refine lv_iconst (v := nI 0) hx hb dX7_picture_93 rfl ?_
            refine x_puti fiM_18 F hw fo_X7_81 rfl rfl dX7_picture_94 (fun H locs hw => ?_)
            refine lv_aload_n hx hb dX7_picture_97 rfl (lv_at hl 0 rfl) ?_
            refine x_geti fiM_0 F hw fo_X7_65 dX7_picture_98 ?_
            refine x_top (y := nI ((mpcN S) + 1)) rfl ?_
            refine lv_iconst (v := nI 1) hx hb dX7_picture_101 rfl ?_
            refine lv_isub hx hb dX7_picture_102 ?_
            refine x_top (y := nI (mpcN S)) (nI_pred _) ?_
            have e9 : m_picture S dr lo hi = (nI (mpcN S), (va_up (va_up (va_up (va_up (va_up (va_up S 1 (upd (S 1) (mpcN S) dr)) 2 (upd (S 2) (mpcN S) lo)) 3 (upd (S 3) (mpcN S) hi)) 4 (upd (S 4) (mpcN S) (-6))) 0 (fun _ => nI ((mpcN S) + 1))) 18 (fun _ => nI 0))) := by unfold m_picture; rw [if_neg c4, if_neg c11, if_neg c18, if_pos c23, if_neg c35]
            exact hret _ _ _ _ _ _ dX7_picture_103 hw rfl ⟨by rw [e9] <;> rfl, by rw [e9] <;> rfl⟩
          · refine lv_bipush (v := (-4)) hx hb dX7_picture_38 rfl ?_
            have e9 : m_picture S dr lo hi = ((-4), S) := by unfold m_picture; rw [if_neg c4, if_neg c11, if_neg c18, if_pos c23, if_pos c35]
            exact hret _ _ _ _ _ _ dX7_picture_40 hw rfl ⟨by rw [e9] <;> rfl, by rw [e9] <;> rfl⟩
        · refine lv_bipush (v := (-2)) hx hb dX7_picture_26 rfl ?_
          have e9 : m_picture S dr lo hi = ((-2), S) := by unfold m_picture; rw [if_neg c4, if_neg c11, if_neg c18, if_neg c23]
          exact hret _ _ _ _ _ _ dX7_picture_28 hw rfl ⟨by rw [e9] <;> rfl, by rw [e9] <;> rfl⟩
def m_about (S : St) (pi : Int32) (wh : Int32) : Int32 × St := if (haMP S pi) = 0 then ((-1), S) else if wh = 0 then (S 1 (clN pi), S) else if wh = (nI 1) then (S 2 (clN pi), S) else if wh = (nI 2) then (S 3 (clN pi), S) else if wh = (nI 3) then (S 4 (clN pi), S) else ((-2), S)
set_option maxHeartbeats 4000000 in
set_option maxRecDepth 20000 in
theorem c_X7_about (l : Launch) (D : va_G) (k : Nat → ClassId) (q : Nat → Nat) (S : St) (X : va_W) (pi : Int32) (wh : Int32) (hP : okMP S) : CI l D k yX7_about cX7_about 3 (some .int) 2 0 0 [.ref (q 30), .int pi, .int wh] (wM k q S X) (fun r w' => w' = wM k q ((m_about S pi wh).2) X ∧ r = (m_about S pi wh).1) := by
  refine CI.mk (by decide) (Nat.le_of_ble_eq_true rfl) ?_
  intro p e R s m args below meth c A Q ls F hret hw hl
  have hx := xs_hx F
  have hb := xs_hb F
  have hl : lv_has ls 3 [(0, .ref (q 30)), (1, .int pi), (2, .int wh)] := hl
  have h6 := hP.2
  refine lv_aload_n hx hb dX7_about_0 rfl (lv_at hl 0 rfl) ?_
  refine lv_iload_n hx hb dX7_about_1 rfl (lv_at hl 1 rfl) ?_
  refine x_fVI (rest := []) (c_X7_isPicture l D k q S X pi (by first | assumption | omega)) mo_X7_85 obM F hw (Nat.le_of_ble_eq_true rfl) (x_cs F (Nat.le_of_ble_eq_true rfl) (Nat.le_of_ble_eq_true rfl)) rfl rfl hl.1 (Nat.le_of_ble_eq_true rfl) dX7_about_2 (fun H locs hw => ?_)
  refine lv_if_ne (tgt := 10) hx hb dX7_about_5 rfl (fun c5 => ?_) (fun c5 => ?_)
  · have hpi := haMP_t hP c5
    have hpi2 := hpi.2
    refine lv_iload_n hx hb dX7_about_10 rfl (lv_at hl 2 rfl) ?_
    refine lv_if_ne (tgt := 23) hx hb dX7_about_11 rfl (fun c11 => ?_) (fun c11 => ?_)
    · refine lv_iload_n hx hb dX7_about_23 rfl (lv_at hl 2 rfl) ?_
      refine lv_iconst (v := nI 1) hx hb dX7_about_24 rfl ?_
      refine lv_icmp_ne (tgt := 37) hx hb dX7_about_25 rfl (fun c25 => ?_) (fun c25 => ?_)
      · refine lv_iload_n hx hb dX7_about_37 rfl (lv_at hl 2 rfl) ?_
        refine lv_iconst (v := nI 2) hx hb dX7_about_38 rfl ?_
        refine lv_icmp_ne (tgt := 51) hx hb dX7_about_39 rfl (fun c39 => ?_) (fun c39 => ?_)
        · refine lv_iload_n hx hb dX7_about_51 rfl (lv_at hl 2 rfl) ?_
          refine lv_iconst (v := nI 3) hx hb dX7_about_52 rfl ?_
          refine lv_icmp_ne (tgt := 65) hx hb dX7_about_53 rfl (fun c53 => ?_) (fun c53 => ?_)
          · refine lv_bipush (v := (-2)) hx hb dX7_about_65 rfl ?_
            have e9 : m_about S pi wh = ((-2), S) := by unfold m_about; rw [if_neg c5, if_neg c11, if_neg c25, if_neg c39, if_neg c53]
            exact hret _ _ _ _ _ _ dX7_about_67 hw rfl ⟨by rw [e9] <;> rfl, by rw [e9] <;> rfl⟩
          · refine lv_aload_n hx hb dX7_about_56 rfl (lv_at hl 0 rfl) ?_
            refine x_getr frM_4 F hw fo_X7_19 dX7_about_57 ?_
            refine lv_iload_n hx hb dX7_about_60 rfl (lv_at hl 1 rfl) ?_
            refine x_iald aiM_4 F hw (clN pi) hpi.1 (by omega) dX7_about_61 ?_
            refine lv_goto (tgt := 67) hx hb dX7_about_62 rfl ?_
            have e9 : m_about S pi wh = (S 4 (clN pi), S) := by unfold m_about; rw [if_neg c5, if_neg c11, if_neg c25, if_neg c39, if_pos c53]
            exact hret _ _ _ _ _ _ dX7_about_67 hw rfl ⟨by rw [e9] <;> rfl, by rw [e9] <;> rfl⟩
        · refine lv_aload_n hx hb dX7_about_42 rfl (lv_at hl 0 rfl) ?_
          refine x_getr frM_3 F hw fo_X7_16 dX7_about_43 ?_
          refine lv_iload_n hx hb dX7_about_46 rfl (lv_at hl 1 rfl) ?_
          refine x_iald aiM_3 F hw (clN pi) hpi.1 (by omega) dX7_about_47 ?_
          refine lv_goto (tgt := 67) hx hb dX7_about_48 rfl ?_
          have e9 : m_about S pi wh = (S 3 (clN pi), S) := by unfold m_about; rw [if_neg c5, if_neg c11, if_neg c25, if_pos c39]
          exact hret _ _ _ _ _ _ dX7_about_67 hw rfl ⟨by rw [e9] <;> rfl, by rw [e9] <;> rfl⟩
      · refine lv_aload_n hx hb dX7_about_28 rfl (lv_at hl 0 rfl) ?_
        refine x_getr frM_2 F hw fo_X7_13 dX7_about_29 ?_
        refine lv_iload_n hx hb dX7_about_32 rfl (lv_at hl 1 rfl) ?_
        refine x_iald aiM_2 F hw (clN pi) hpi.1 (by omega) dX7_about_33 ?_
        refine lv_goto (tgt := 67) hx hb dX7_about_34 rfl ?_
        have e9 : m_about S pi wh = (S 2 (clN pi), S) := by unfold m_about; rw [if_neg c5, if_neg c11, if_pos c25]
        exact hret _ _ _ _ _ _ dX7_about_67 hw rfl ⟨by rw [e9] <;> rfl, by rw [e9] <;> rfl⟩
    · refine lv_aload_n hx hb dX7_about_14 rfl (lv_at hl 0 rfl) ?_
      refine x_getr frM_1 F hw fo_X7_7 dX7_about_15 ?_
      refine lv_iload_n hx hb dX7_about_18 rfl (lv_at hl 1 rfl) ?_
      refine x_iald aiM_1 F hw (clN pi) hpi.1 (by omega) dX7_about_19 ?_
      refine lv_goto (tgt := 67) hx hb dX7_about_20 rfl ?_
      have e9 : m_about S pi wh = (S 1 (clN pi), S) := by unfold m_about; rw [if_neg c5, if_pos c11]
      exact hret _ _ _ _ _ _ dX7_about_67 hw rfl ⟨by rw [e9] <;> rfl, by rw [e9] <;> rfl⟩
  · refine lv_iconst (v := (-1)) hx hb dX7_about_8 rfl ?_
    have e9 : m_about S pi wh = ((-1), S) := by unfold m_about; rw [if_pos c5]
    exact hret _ _ _ _ _ _ dX7_about_9 hw rfl ⟨by rw [e9] <;> rfl, by rw [e9] <;> rfl⟩
def m_set (S : St) (wi : Int32) (v : Int32) : Int32 × St := if (f_in wi (nI 0) (nI 3)) = 0 then ((-2), S) else if (nI 2) ≤ wi then if (nI 2) ≤ wi then if (f_in v (nI 1) (nI 30)) = 0 then ((-2), S) else (S 5 (clN wi), (va_up (va_up S 5 (upd (S 5) (clN wi) v)) 18 (fun _ => nI 0))) else if (f_in v (nI 1) (nI 99)) = 0 then ((-2), S) else (S 5 (clN wi), (va_up (va_up S 5 (upd (S 5) (clN wi) v)) 18 (fun _ => nI 0))) else if (nI 2) ≤ wi then if (f_in v (nI 0) (nI 30)) = 0 then ((-2), S) else (S 5 (clN wi), (va_up (va_up S 5 (upd (S 5) (clN wi) v)) 18 (fun _ => nI 0))) else if (f_in v (nI 0) (nI 99)) = 0 then ((-2), S) else (S 5 (clN wi), (va_up (va_up S 5 (upd (S 5) (clN wi) v)) 18 (fun _ => nI 0)))
set_option maxHeartbeats 4000000 in
set_option maxRecDepth 20000 in
theorem c_X7_set (l : Launch) (D : va_G) (k : Nat → ClassId) (q : Nat → Nat) (S : St) (X : va_W) (wi : Int32) (v : Int32) : CI l D k yX7_set cX7_set 4 (some .int) 1 0 0 [.ref (q 30), .int wi, .int v] (wM k q S X) (fun r w' => w' = wM k q ((m_set S wi v).2) X ∧ r = (m_set S wi v).1) := by
  refine CI.mk (by decide) (Nat.le_of_ble_eq_true rfl) ?_
  intro p e R s m args below meth c A Q ls F hret hw hl
  have hx := xs_hx F
  have hb := xs_hb F
  have hl : lv_has ls 4 [(0, .ref (q 30)), (1, .int wi), (2, .int v)] := hl
  refine lv_iload_n hx hb dX7_set_0 rfl (lv_at hl 1 rfl) ?_
  refine lv_iconst (v := nI 0) hx hb dX7_set_1 rfl ?_
  refine lv_iconst (v := nI 3) hx hb dX7_set_2 rfl ?_
  refine x_fSI (rest := []) (c_X7_in l D k (wM k q S X) wi (nI 0) (nI 3)) mo_X7_69 F hw (Nat.le_of_ble_eq_true rfl) (x_cs F (Nat.le_of_ble_eq_true rfl) (Nat.le_of_ble_eq_true rfl)) rfl rfl hl.1 (Nat.le_of_ble_eq_true rfl) dX7_set_3 (fun H locs hw => ?_)
  refine lv_if_eq (tgt := 38) hx hb dX7_set_6 rfl (fun c6 => ?_) (fun c6 => ?_)
  · refine lv_bipush (v := (-2)) hx hb dX7_set_38 rfl ?_
    have e9 : m_set S wi v = ((-2), S) := by unfold m_set; rw [if_pos c6]
    exact hret _ _ _ _ _ _ dX7_set_40 hw rfl ⟨by rw [e9] <;> rfl, by rw [e9] <;> rfl⟩
  · have hwi := f_in_t (by decide) c6
    have hwi2 := hwi.2
    refine lv_iload_n hx hb dX7_set_9 rfl (lv_at hl 2 rfl) ?_
    refine lv_iload_n hx hb dX7_set_10 rfl (lv_at hl 1 rfl) ?_
    refine lv_iconst (v := nI 2) hx hb dX7_set_11 rfl ?_
    refine lv_icmp_ge (tgt := 19) hx hb dX7_set_12 rfl (fun c12 => ?_) (fun c12 => ?_)
    · refine lv_iconst (v := nI 1) hx hb dX7_set_19 rfl ?_
      refine lv_iload_n hx hb dX7_set_20 rfl (lv_at hl 1 rfl) ?_
      refine lv_iconst (v := nI 2) hx hb dX7_set_21 rfl ?_
      refine lv_icmp_ge (tgt := 30) hx hb dX7_set_22 rfl (fun c22 => ?_) (fun c22 => ?_)
      · refine lv_bipush (v := nI 30) hx hb dX7_set_30 rfl ?_
        refine x_fSI (rest := []) (c_X7_in l D k (wM k q S X) v (nI 1) (nI 30)) mo_X7_69 F hw (Nat.le_of_ble_eq_true rfl) (x_cs F (Nat.le_of_ble_eq_true rfl) (Nat.le_of_ble_eq_true rfl)) rfl rfl hl.1 (Nat.le_of_ble_eq_true rfl) dX7_set_32 (fun H locs hw => ?_)
        refine lv_if_ne (tgt := 41) hx hb dX7_set_35 rfl (fun c35 => ?_) (fun c35 => ?_)
        · refine lv_aload_n hx hb dX7_set_41 rfl (lv_at hl 0 rfl) ?_
          refine x_getr frM_5 F hw fo_X7_22 dX7_set_42 ?_
          refine lv_iload_n hx hb dX7_set_45 rfl (lv_at hl 1 rfl) ?_
          refine x_iald aiM_5 F hw (clN wi) hwi.1 (by omega) dX7_set_46 ?_
          refine lv_istore_n (lv' := [(3, .int (S 5 (clN wi))), (0, .ref (q 30)), (1, .int wi), (2, .int v)]) hx hb dX7_set_47 rfl hl (Nat.le_of_ble_eq_true rfl) rfl (fun ls hl => ?_)
          refine lv_aload_n hx hb dX7_set_48 rfl (lv_at hl 1 rfl) ?_
          refine x_getr frM_5 F hw fo_X7_22 dX7_set_49 ?_
          refine lv_iload_n hx hb dX7_set_52 rfl (lv_at hl 2 rfl) ?_
          refine lv_iload_n hx hb dX7_set_53 rfl (lv_at hl 3 rfl) ?_
          refine x_iast aiM_5 F hw (clN wi) hwi.1 (by omega) dX7_set_54 (fun H locs hw => ?_)
          refine lv_aload_n hx hb dX7_set_55 rfl (lv_at hl 1 rfl) ?_
          refine lv_iconst (v := nI 0) hx hb dX7_set_56 rfl ?_
          refine x_puti fiM_18 F hw fo_X7_81 rfl rfl dX7_set_57 (fun H locs hw => ?_)
          refine lv_iload_n hx hb dX7_set_60 rfl (lv_at hl 0 rfl) ?_
          have e9 : m_set S wi v = (S 5 (clN wi), (va_up (va_up S 5 (upd (S 5) (clN wi) v)) 18 (fun _ => nI 0))) := by unfold m_set; rw [if_neg c6, if_pos c12, if_pos c22, if_neg c35]
          exact hret _ _ _ _ _ _ dX7_set_61 hw rfl ⟨by rw [e9] <;> rfl, by rw [e9] <;> rfl⟩
        · refine lv_bipush (v := (-2)) hx hb dX7_set_38 rfl ?_
          have e9 : m_set S wi v = ((-2), S) := by unfold m_set; rw [if_neg c6, if_pos c12, if_pos c22, if_pos c35]
          exact hret _ _ _ _ _ _ dX7_set_40 hw rfl ⟨by rw [e9] <;> rfl, by rw [e9] <;> rfl⟩
      · refine lv_bipush (v := nI 99) hx hb dX7_set_25 rfl ?_
        refine lv_goto (tgt := 32) hx hb dX7_set_27 rfl ?_
        refine x_fSI (rest := []) (c_X7_in l D k (wM k q S X) v (nI 1) (nI 99)) mo_X7_69 F hw (Nat.le_of_ble_eq_true rfl) (x_cs F (Nat.le_of_ble_eq_true rfl) (Nat.le_of_ble_eq_true rfl)) rfl rfl hl.1 (Nat.le_of_ble_eq_true rfl) dX7_set_32 (fun H locs hw => ?_)
        refine lv_if_ne (tgt := 41) hx hb dX7_set_35 rfl (fun c35 => ?_) (fun c35 => ?_)
        · refine lv_aload_n hx hb dX7_set_41 rfl (lv_at hl 0 rfl) ?_
          refine x_getr frM_5 F hw fo_X7_22 dX7_set_42 ?_
          refine lv_iload_n hx hb dX7_set_45 rfl (lv_at hl 1 rfl) ?_
          refine x_iald aiM_5 F hw (clN wi) hwi.1 (by omega) dX7_set_46 ?_
          refine lv_istore_n (lv' := [(3, .int (S 5 (clN wi))), (0, .ref (q 30)), (1, .int wi), (2, .int v)]) hx hb dX7_set_47 rfl hl (Nat.le_of_ble_eq_true rfl) rfl (fun ls hl => ?_)
          refine lv_aload_n hx hb dX7_set_48 rfl (lv_at hl 1 rfl) ?_
          refine x_getr frM_5 F hw fo_X7_22 dX7_set_49 ?_
          refine lv_iload_n hx hb dX7_set_52 rfl (lv_at hl 2 rfl) ?_
          refine lv_iload_n hx hb dX7_set_53 rfl (lv_at hl 3 rfl) ?_
          refine x_iast aiM_5 F hw (clN wi) hwi.1 (by omega) dX7_set_54 (fun H locs hw => ?_)
          refine lv_aload_n hx hb dX7_set_55 rfl (lv_at hl 1 rfl) ?_
          refine lv_iconst (v := nI 0) hx hb dX7_set_56 rfl ?_
          refine x_puti fiM_18 F hw fo_X7_81 rfl rfl dX7_set_57 (fun H locs hw => ?_)
          refine lv_iload_n hx hb dX7_set_60 rfl (lv_at hl 0 rfl) ?_
          have e9 : m_set S wi v = (S 5 (clN wi), (va_up (va_up S 5 (upd (S 5) (clN wi) v)) 18 (fun _ => nI 0))) := by unfold m_set; rw [if_neg c6, if_pos c12, if_neg c22, if_neg c35]
          exact hret _ _ _ _ _ _ dX7_set_61 hw rfl ⟨by rw [e9] <;> rfl, by rw [e9] <;> rfl⟩
        · refine lv_bipush (v := (-2)) hx hb dX7_set_38 rfl ?_
          have e9 : m_set S wi v = ((-2), S) := by unfold m_set; rw [if_neg c6, if_pos c12, if_neg c22, if_pos c35]
          exact hret _ _ _ _ _ _ dX7_set_40 hw rfl ⟨by rw [e9] <;> rfl, by rw [e9] <;> rfl⟩
    · refine lv_iconst (v := nI 0) hx hb dX7_set_15 rfl ?_
      refine lv_goto (tgt := 20) hx hb dX7_set_16 rfl ?_
      refine lv_iload_n hx hb dX7_set_20 rfl (lv_at hl 1 rfl) ?_
      refine lv_iconst (v := nI 2) hx hb dX7_set_21 rfl ?_
      refine lv_icmp_ge (tgt := 30) hx hb dX7_set_22 rfl (fun c22 => ?_) (fun c22 => ?_)
      · refine lv_bipush (v := nI 30) hx hb dX7_set_30 rfl ?_
        refine x_fSI (rest := []) (c_X7_in l D k (wM k q S X) v (nI 0) (nI 30)) mo_X7_69 F hw (Nat.le_of_ble_eq_true rfl) (x_cs F (Nat.le_of_ble_eq_true rfl) (Nat.le_of_ble_eq_true rfl)) rfl rfl hl.1 (Nat.le_of_ble_eq_true rfl) dX7_set_32 (fun H locs hw => ?_)
        refine lv_if_ne (tgt := 41) hx hb dX7_set_35 rfl (fun c35 => ?_) (fun c35 => ?_)
        · refine lv_aload_n hx hb dX7_set_41 rfl (lv_at hl 0 rfl) ?_
          refine x_getr frM_5 F hw fo_X7_22 dX7_set_42 ?_
          refine lv_iload_n hx hb dX7_set_45 rfl (lv_at hl 1 rfl) ?_
          refine x_iald aiM_5 F hw (clN wi) hwi.1 (by omega) dX7_set_46 ?_
          refine lv_istore_n (lv' := [(3, .int (S 5 (clN wi))), (0, .ref (q 30)), (1, .int wi), (2, .int v)]) hx hb dX7_set_47 rfl hl (Nat.le_of_ble_eq_true rfl) rfl (fun ls hl => ?_)
          refine lv_aload_n hx hb dX7_set_48 rfl (lv_at hl 1 rfl) ?_
          refine x_getr frM_5 F hw fo_X7_22 dX7_set_49 ?_
          refine lv_iload_n hx hb dX7_set_52 rfl (lv_at hl 2 rfl) ?_
          refine lv_iload_n hx hb dX7_set_53 rfl (lv_at hl 3 rfl) ?_
          refine x_iast aiM_5 F hw (clN wi) hwi.1 (by omega) dX7_set_54 (fun H locs hw => ?_)
          refine lv_aload_n hx hb dX7_set_55 rfl (lv_at hl 1 rfl) ?_
          refine lv_iconst (v := nI 0) hx hb dX7_set_56 rfl ?_
          refine x_puti fiM_18 F hw fo_X7_81 rfl rfl dX7_set_57 (fun H locs hw => ?_)
          refine lv_iload_n hx hb dX7_set_60 rfl (lv_at hl 0 rfl) ?_
          have e9 : m_set S wi v = (S 5 (clN wi), (va_up (va_up S 5 (upd (S 5) (clN wi) v)) 18 (fun _ => nI 0))) := by unfold m_set; rw [if_neg c6, if_neg c12, if_pos c22, if_neg c35]
          exact hret _ _ _ _ _ _ dX7_set_61 hw rfl ⟨by rw [e9] <;> rfl, by rw [e9] <;> rfl⟩
        · refine lv_bipush (v := (-2)) hx hb dX7_set_38 rfl ?_
          have e9 : m_set S wi v = ((-2), S) := by unfold m_set; rw [if_neg c6, if_neg c12, if_pos c22, if_pos c35]
          exact hret _ _ _ _ _ _ dX7_set_40 hw rfl ⟨by rw [e9] <;> rfl, by rw [e9] <;> rfl⟩
      · refine lv_bipush (v := nI 99) hx hb dX7_set_25 rfl ?_
        refine lv_goto (tgt := 32) hx hb dX7_set_27 rfl ?_
        refine x_fSI (rest := []) (c_X7_in l D k (wM k q S X) v (nI 0) (nI 99)) mo_X7_69 F hw (Nat.le_of_ble_eq_true rfl) (x_cs F (Nat.le_of_ble_eq_true rfl) (Nat.le_of_ble_eq_true rfl)) rfl rfl hl.1 (Nat.le_of_ble_eq_true rfl) dX7_set_32 (fun H locs hw => ?_)
        refine lv_if_ne (tgt := 41) hx hb dX7_set_35 rfl (fun c35 => ?_) (fun c35 => ?_)
        · refine lv_aload_n hx hb dX7_set_41 rfl (lv_at hl 0 rfl) ?_
          refine x_getr frM_5 F hw fo_X7_22 dX7_set_42 ?_
          refine lv_iload_n hx hb dX7_set_45 rfl (lv_at hl 1 rfl) ?_
          refine x_iald aiM_5 F hw (clN wi) hwi.1 (by omega) dX7_set_46 ?_
          refine lv_istore_n (lv' := [(3, .int (S 5 (clN wi))), (0, .ref (q 30)), (1, .int wi), (2, .int v)]) hx hb dX7_set_47 rfl hl (Nat.le_of_ble_eq_true rfl) rfl (fun ls hl => ?_)
          refine lv_aload_n hx hb dX7_set_48 rfl (lv_at hl 1 rfl) ?_
          refine x_getr frM_5 F hw fo_X7_22 dX7_set_49 ?_
          refine lv_iload_n hx hb dX7_set_52 rfl (lv_at hl 2 rfl) ?_
          refine lv_iload_n hx hb dX7_set_53 rfl (lv_at hl 3 rfl) ?_
          refine x_iast aiM_5 F hw (clN wi) hwi.1 (by omega) dX7_set_54 (fun H locs hw => ?_)
          refine lv_aload_n hx hb dX7_set_55 rfl (lv_at hl 1 rfl) ?_
          refine lv_iconst (v := nI 0) hx hb dX7_set_56 rfl ?_
          refine x_puti fiM_18 F hw fo_X7_81 rfl rfl dX7_set_57 (fun H locs hw => ?_)
          refine lv_iload_n hx hb dX7_set_60 rfl (lv_at hl 0 rfl) ?_
          have e9 : m_set S wi v = (S 5 (clN wi), (va_up (va_up S 5 (upd (S 5) (clN wi) v)) 18 (fun _ => nI 0))) := by unfold m_set; rw [if_neg c6, if_neg c12, if_neg c22, if_neg c35]
          exact hret _ _ _ _ _ _ dX7_set_61 hw rfl ⟨by rw [e9] <;> rfl, by rw [e9] <;> rfl⟩
        · refine lv_bipush (v := (-2)) hx hb dX7_set_38 rfl ?_
          have e9 : m_set S wi v = ((-2), S) := by unfold m_set; rw [if_neg c6, if_neg c12, if_neg c22, if_pos c35]
          exact hret _ _ _ _ _ _ dX7_set_40 hw rfl ⟨by rw [e9] <;> rfl, by rw [e9] <;> rfl⟩
def m_say (S : St) (sg : Int32) : Int32 × St := if (f_in sg (nI 33) (nI 126)) = 0 then ((-2), S) else if (msgN S) = 50 then ((-4), S) else (nI (((msgN S) + 1)), (va_up (va_up S 7 (upd (S 7) (msgN S) sg)) 6 (fun _ => nI ((msgN S) + 1))))
set_option maxHeartbeats 4000000 in
set_option maxRecDepth 20000 in
theorem c_X7_say (l : Launch) (D : va_G) (k : Nat → ClassId) (q : Nat → Nat) (S : St) (X : va_W) (sg : Int32) (hT : okMT S) : CI l D k yX7_say cX7_say 2 (some .int) 1 0 0 [.ref (q 30), .int sg] (wM k q S X) (fun r w' => w' = wM k q ((m_say S sg).2) X ∧ r = (m_say S sg).1) := by
  refine CI.mk (by decide) (Nat.le_of_ble_eq_true rfl) ?_
  intro p e R s m args below meth c A Q ls F hret hw hl
  have hx := xs_hx F
  have hb := xs_hb F
  have hl : lv_has ls 2 [(0, .ref (q 30)), (1, .int sg)] := hl
  have h50 := hT.2
  refine lv_iload_n hx hb dX7_say_0 rfl (lv_at hl 1 rfl) ?_
  refine lv_bipush (v := nI 33) hx hb dX7_say_1 rfl ?_
  refine lv_bipush (v := nI 126) hx hb dX7_say_3 rfl ?_
  refine x_fSI (rest := []) (c_X7_in l D k (wM k q S X) sg (nI 33) (nI 126)) mo_X7_69 F hw (Nat.le_of_ble_eq_true rfl) (x_cs F (Nat.le_of_ble_eq_true rfl) (Nat.le_of_ble_eq_true rfl)) rfl rfl hl.1 (Nat.le_of_ble_eq_true rfl) dX7_say_5 (fun H locs hw => ?_)
  refine lv_if_ne (tgt := 14) hx hb dX7_say_8 rfl (fun c8 => ?_) (fun c8 => ?_)
  · refine lv_aload_n hx hb dX7_say_14 rfl (lv_at hl 0 rfl) ?_
    refine x_geti fiM_6 F hw fo_X7_88 dX7_say_15 ?_
    refine x_top (y := nI (msgN S)) hT.1 ?_
    refine lv_bipush (v := nI 50) hx hb dX7_say_18 rfl ?_
    refine x_icmp_ne (msgN S) 50 F (by omega) (by omega) (tgt := 26) dX7_say_20 rfl (fun c20 => ?_) (fun c20 => ?_)
    · refine lv_aload_n hx hb dX7_say_26 rfl (lv_at hl 0 rfl) ?_
      refine x_getr frM_7 F hw fo_X7_25 dX7_say_27 ?_
      refine lv_aload_n hx hb dX7_say_30 rfl (lv_at hl 0 rfl) ?_
      refine x_geti fiM_6 F hw fo_X7_88 dX7_say_31 ?_
      refine x_top (y := nI (msgN S)) hT.1 ?_
      refine lv_iload_n hx hb dX7_say_34 rfl (lv_at hl 1 rfl) ?_
      refine x_iast aiM_7 F hw (msgN S) rfl (by omega) dX7_say_35 (fun H locs hw => ?_)
      refine lv_aload_n hx hb dX7_say_36 rfl (lv_at hl 0 rfl) ?_
      refine lv_dup hx hb dX7_say_37 rfl ?_
      refine x_geti fiM_6 F hw fo_X7_88 dX7_say_38 ?_
      refine x_top (y := S 6 0) rfl ?_
      refine x_top (y := nI (msgN S)) hT.1 ?_
      refine lv_iconst (v := nI 1) hx hb dX7_say_41 rfl ?_
      refine lv_iadd hx hb dX7_say_42 ?_
      refine x_top (y := nI ((msgN S) + 1)) (nI_add _ _) ?_
      refine x_puti fiM_6 F hw fo_X7_88 rfl rfl dX7_say_43 (fun H locs hw => ?_)
      refine lv_aload_n hx hb dX7_say_46 rfl (lv_at hl 0 rfl) ?_
      refine x_geti fiM_6 F hw fo_X7_88 dX7_say_47 ?_
      refine x_top (y := nI ((msgN S) + 1)) rfl ?_
      have e9 : m_say S sg = (nI (((msgN S) + 1)), (va_up (va_up S 7 (upd (S 7) (msgN S) sg)) 6 (fun _ => nI ((msgN S) + 1)))) := by unfold m_say; rw [if_neg c8, if_neg c20]
      exact hret _ _ _ _ _ _ dX7_say_50 hw rfl ⟨by rw [e9] <;> rfl, by rw [e9] <;> rfl⟩
    · refine lv_bipush (v := (-4)) hx hb dX7_say_23 rfl ?_
      have e9 : m_say S sg = ((-4), S) := by unfold m_say; rw [if_neg c8, if_pos c20]
      exact hret _ _ _ _ _ _ dX7_say_25 hw rfl ⟨by rw [e9] <;> rfl, by rw [e9] <;> rfl⟩
  · refine lv_bipush (v := (-2)) hx hb dX7_say_11 rfl ?_
    have e9 : m_say S sg = ((-2), S) := by unfold m_say; rw [if_pos c8]
    exact hret _ _ _ _ _ _ dX7_say_13 hw rfl ⟨by rw [e9] <;> rfl, by rw [e9] <;> rfl⟩
def m_wipe (S : St)  : Int32 × St := (nI (msgN S), (va_up S 6 (fun _ => nI 0)))
set_option maxHeartbeats 4000000 in
set_option maxRecDepth 20000 in
theorem c_X7_wipe (l : Launch) (D : va_G) (k : Nat → ClassId) (q : Nat → Nat) (S : St) (X : va_W) (hT : okMT S) : CI l D k yX7_wipe cX7_wipe 2 (some .int) 0 0 0 [.ref (q 30)] (wM k q S X) (fun r w' => w' = wM k q ((m_wipe S).2) X ∧ r = (m_wipe S).1) := by
  refine CI.mk (by decide) (Nat.le_of_ble_eq_true rfl) ?_
  intro p e R s m args below meth c A Q ls F hret hw hl
  have hx := xs_hx F
  have hb := xs_hb F
  have hl : lv_has ls 2 [(0, .ref (q 30))] := hl
  refine lv_aload_n hx hb dX7_wipe_0 rfl (lv_at hl 0 rfl) ?_
  refine x_geti fiM_6 F hw fo_X7_88 dX7_wipe_1 ?_
  refine x_top (y := nI (msgN S)) hT.1 ?_
  refine lv_istore_n (lv' := [(1, .int (nI (msgN S))), (0, .ref (q 30))]) hx hb dX7_wipe_4 rfl hl (Nat.le_of_ble_eq_true rfl) rfl (fun ls hl => ?_)
  refine lv_aload_n hx hb dX7_wipe_5 rfl (lv_at hl 1 rfl) ?_
  refine lv_iconst (v := nI 0) hx hb dX7_wipe_6 rfl ?_
  refine x_puti fiM_6 F hw fo_X7_88 rfl rfl dX7_wipe_7 (fun H locs hw => ?_)
  refine lv_iload_n hx hb dX7_wipe_10 rfl (lv_at hl 0 rfl) ?_
  have e9 : m_wipe S = (nI (msgN S), (va_up S 6 (fun _ => nI 0))) := by unfold m_wipe; rfl
  exact hret _ _ _ _ _ _ dX7_wipe_11 hw rfl ⟨by rw [e9] <;> rfl, by rw [e9] <;> rfl⟩
def m_fault (S : St)  : Int32 × St := (fltR (S 7) (msgN S), S)
set_option maxHeartbeats 4000000 in
set_option maxRecDepth 20000 in
theorem c_X7_fault (l : Launch) (D : va_G) (k : Nat → ClassId) (q : Nat → Nat) (S : St) (X : va_W) (hT : okMT S) : CI l D k yX7_fault cX7_fault 1 (some .int) 2 0 0 [.ref (q 30)] (wM k q S X) (fun r w' => w' = wM k q ((m_fault S).2) X ∧ r = (m_fault S).1) := by
  refine CI.mk (by decide) (Nat.le_of_ble_eq_true rfl) ?_
  intro p e R s m args below meth c A Q ls F hret hw hl
  have hx := xs_hx F
  have hb := xs_hb F
  have hl : lv_has ls 1 [(0, .ref (q 30))] := hl
  refine lv_aload_n hx hb dX7_fault_0 rfl (lv_at hl 0 rfl) ?_
  refine x_fVI (rest := []) (c_X7_faultOf l D k q S X (by first | assumption | omega)) mo_X7_91 obM F hw (Nat.le_of_ble_eq_true rfl) (x_cs F (Nat.le_of_ble_eq_true rfl) (Nat.le_of_ble_eq_true rfl)) rfl rfl hl.1 (Nat.le_of_ble_eq_true rfl) dX7_fault_1 (fun H locs hw => ?_)
  have e9 : m_fault S = (fltR (S 7) (msgN S), S) := by unfold m_fault; rfl
  exact hret _ _ _ _ _ _ dX7_fault_4 hw rfl ⟨by rw [e9] <;> rfl, by rw [e9] <;> rfl⟩
def m_width (S : St) (pi : Int32) (v : Int32) : Int32 × St := if (haMP S pi) = 0 then ((-1), S) else if (f_in v (nI 0) (nI 999)) = 0 then ((-2), S) else if v = 0 then (S 4 (clN pi), (va_up S 4 (upd (S 4) (clN pi) (-6)))) else (S 4 (clN pi), (va_up S 4 (upd (S 4) (clN pi) v)))
set_option maxHeartbeats 4000000 in
set_option maxRecDepth 20000 in
theorem c_X7_width (l : Launch) (D : va_G) (k : Nat → ClassId) (q : Nat → Nat) (S : St) (X : va_W) (pi : Int32) (v : Int32) (hP : okMP S) : CI l D k yX7_width cX7_width 4 (some .int) 2 0 0 [.ref (q 30), .int pi, .int v] (wM k q S X) (fun r w' => w' = wM k q ((m_width S pi v).2) X ∧ r = (m_width S pi v).1) := by
  refine CI.mk (by decide) (Nat.le_of_ble_eq_true rfl) ?_
  intro p e R s m args below meth c A Q ls F hret hw hl
  have hx := xs_hx F
  have hb := xs_hb F
  have hl : lv_has ls 4 [(0, .ref (q 30)), (1, .int pi), (2, .int v)] := hl
  have h6 := hP.2
  refine lv_aload_n hx hb dX7_width_0 rfl (lv_at hl 0 rfl) ?_
  refine lv_iload_n hx hb dX7_width_1 rfl (lv_at hl 1 rfl) ?_
  refine x_fVI (rest := []) (c_X7_isPicture l D k q S X pi (by first | assumption | omega)) mo_X7_85 obM F hw (Nat.le_of_ble_eq_true rfl) (x_cs F (Nat.le_of_ble_eq_true rfl) (Nat.le_of_ble_eq_true rfl)) rfl rfl hl.1 (Nat.le_of_ble_eq_true rfl) dX7_width_2 (fun H locs hw => ?_)
  refine lv_if_ne (tgt := 10) hx hb dX7_width_5 rfl (fun c5 => ?_) (fun c5 => ?_)
  · have hpi := haMP_t hP c5
    have hpi2 := hpi.2
    refine lv_iload_n hx hb dX7_width_10 rfl (lv_at hl 2 rfl) ?_
    refine lv_iconst (v := nI 0) hx hb dX7_width_11 rfl ?_
    refine lv_sipush (v := nI 999) hx hb dX7_width_12 rfl ?_
    refine x_fSI (rest := []) (c_X7_in l D k (wM k q S X) v (nI 0) (nI 999)) mo_X7_69 F hw (Nat.le_of_ble_eq_true rfl) (x_cs F (Nat.le_of_ble_eq_true rfl) (Nat.le_of_ble_eq_true rfl)) rfl rfl hl.1 (Nat.le_of_ble_eq_true rfl) dX7_width_15 (fun H locs hw => ?_)
    refine lv_if_ne (tgt := 24) hx hb dX7_width_18 rfl (fun c18 => ?_) (fun c18 => ?_)
    · refine lv_aload_n hx hb dX7_width_24 rfl (lv_at hl 0 rfl) ?_
      refine x_getr frM_4 F hw fo_X7_19 dX7_width_25 ?_
      refine lv_iload_n hx hb dX7_width_28 rfl (lv_at hl 1 rfl) ?_
      refine x_iald aiM_4 F hw (clN pi) hpi.1 (by omega) dX7_width_29 ?_
      refine lv_istore_n (lv' := [(3, .int (S 4 (clN pi))), (0, .ref (q 30)), (1, .int pi), (2, .int v)]) hx hb dX7_width_30 rfl hl (Nat.le_of_ble_eq_true rfl) rfl (fun ls hl => ?_)
      refine lv_aload_n hx hb dX7_width_31 rfl (lv_at hl 1 rfl) ?_
      refine x_getr frM_4 F hw fo_X7_19 dX7_width_32 ?_
      refine lv_iload_n hx hb dX7_width_35 rfl (lv_at hl 2 rfl) ?_
      refine lv_iload_n hx hb dX7_width_36 rfl (lv_at hl 3 rfl) ?_
      refine lv_if_ne (tgt := 45) hx hb dX7_width_37 rfl (fun c37 => ?_) (fun c37 => ?_)
      · refine lv_iload_n hx hb dX7_width_45 rfl (lv_at hl 3 rfl) ?_
        refine x_iast aiM_4 F hw (clN pi) hpi.1 (by omega) dX7_width_46 (fun H locs hw => ?_)
        refine lv_iload_n hx hb dX7_width_47 rfl (lv_at hl 0 rfl) ?_
        have e9 : m_width S pi v = (S 4 (clN pi), (va_up S 4 (upd (S 4) (clN pi) v))) := by unfold m_width; rw [if_neg c5, if_neg c18, if_neg c37]
        exact hret _ _ _ _ _ _ dX7_width_48 hw rfl ⟨by rw [e9] <;> rfl, by rw [e9] <;> rfl⟩
      · refine lv_bipush (v := (-6)) hx hb dX7_width_40 rfl ?_
        refine lv_goto (tgt := 46) hx hb dX7_width_42 rfl ?_
        refine x_iast aiM_4 F hw (clN pi) hpi.1 (by omega) dX7_width_46 (fun H locs hw => ?_)
        refine lv_iload_n hx hb dX7_width_47 rfl (lv_at hl 0 rfl) ?_
        have e9 : m_width S pi v = (S 4 (clN pi), (va_up S 4 (upd (S 4) (clN pi) (-6)))) := by unfold m_width; rw [if_neg c5, if_neg c18, if_pos c37]
        exact hret _ _ _ _ _ _ dX7_width_48 hw rfl ⟨by rw [e9] <;> rfl, by rw [e9] <;> rfl⟩
    · refine lv_bipush (v := (-2)) hx hb dX7_width_21 rfl ?_
      have e9 : m_width S pi v = ((-2), S) := by unfold m_width; rw [if_neg c5, if_pos c18]
      exact hret _ _ _ _ _ _ dX7_width_23 hw rfl ⟨by rw [e9] <;> rfl, by rw [e9] <;> rfl⟩
  · refine lv_iconst (v := (-1)) hx hb dX7_width_8 rfl ?_
    have e9 : m_width S pi v = ((-1), S) := by unfold m_width; rw [if_pos c5]
    exact hret _ _ _ _ _ _ dX7_width_9 hw rfl ⟨by rw [e9] <;> rfl, by rw [e9] <;> rfl⟩
def m_spread (S : St) (wi : Int32) (lo : Int32) (hi : Int32) : Int32 × St := if (f_in wi (nI 0) (nI 1)) = 0 then ((-2), S) else if (f_in lo (nI 1) (nI 99)) = 0 then ((-2), S) else if (f_in hi lo (nI 99)) = 0 then ((-2), S) else (((nI 100) * (S 10 (2 * (clN wi)))) + (S 10 ((2 * (clN wi)) + 1)), (va_up (va_up S 10 (upd (S 10) (2 * (clN wi)) lo)) 10 (upd (upd (S 10) (2 * (clN wi)) lo) ((2 * (clN wi)) + 1) hi)))
set_option maxHeartbeats 4000000 in
set_option maxRecDepth 20000 in
theorem c_X7_spread (l : Launch) (D : va_G) (k : Nat → ClassId) (q : Nat → Nat) (S : St) (X : va_W) (wi : Int32) (lo : Int32) (hi : Int32) : CI l D k yX7_spread cX7_spread 5 (some .int) 1 0 0 [.ref (q 30), .int wi, .int lo, .int hi] (wM k q S X) (fun r w' => w' = wM k q ((m_spread S wi lo hi).2) X ∧ r = (m_spread S wi lo hi).1) := by
  refine CI.mk (by decide) (Nat.le_of_ble_eq_true rfl) ?_
  intro p e R s m args below meth c A Q ls F hret hw hl
  have hx := xs_hx F
  have hb := xs_hb F
  have hl : lv_has ls 5 [(0, .ref (q 30)), (1, .int wi), (2, .int lo), (3, .int hi)] := hl
  refine lv_iload_n hx hb dX7_spread_0 rfl (lv_at hl 1 rfl) ?_
  refine lv_iconst (v := nI 0) hx hb dX7_spread_1 rfl ?_
  refine lv_iconst (v := nI 1) hx hb dX7_spread_2 rfl ?_
  refine x_fSI (rest := []) (c_X7_in l D k (wM k q S X) wi (nI 0) (nI 1)) mo_X7_69 F hw (Nat.le_of_ble_eq_true rfl) (x_cs F (Nat.le_of_ble_eq_true rfl) (Nat.le_of_ble_eq_true rfl)) rfl rfl hl.1 (Nat.le_of_ble_eq_true rfl) dX7_spread_3 (fun H locs hw => ?_)
  refine lv_if_eq (tgt := 29) hx hb dX7_spread_6 rfl (fun c6 => ?_) (fun c6 => ?_)
  · refine lv_bipush (v := (-2)) hx hb dX7_spread_29 rfl ?_
    have e9 : m_spread S wi lo hi = ((-2), S) := by unfold m_spread; rw [if_pos c6]
    exact hret _ _ _ _ _ _ dX7_spread_31 hw rfl ⟨by rw [e9] <;> rfl, by rw [e9] <;> rfl⟩
  · have hwi := f_in_t (by decide) c6
    have hwi2 := hwi.2
    refine lv_iload_n hx hb dX7_spread_9 rfl (lv_at hl 2 rfl) ?_
    refine lv_iconst (v := nI 1) hx hb dX7_spread_10 rfl ?_
    refine lv_bipush (v := nI 99) hx hb dX7_spread_11 rfl ?_
    refine x_fSI (rest := []) (c_X7_in l D k (wM k q S X) lo (nI 1) (nI 99)) mo_X7_69 F hw (Nat.le_of_ble_eq_true rfl) (x_cs F (Nat.le_of_ble_eq_true rfl) (Nat.le_of_ble_eq_true rfl)) rfl rfl hl.1 (Nat.le_of_ble_eq_true rfl) dX7_spread_13 (fun H locs hw => ?_)
    refine lv_if_eq (tgt := 29) hx hb dX7_spread_16 rfl (fun c16 => ?_) (fun c16 => ?_)
    · refine lv_bipush (v := (-2)) hx hb dX7_spread_29 rfl ?_
      have e9 : m_spread S wi lo hi = ((-2), S) := by unfold m_spread; rw [if_neg c6, if_pos c16]
      exact hret _ _ _ _ _ _ dX7_spread_31 hw rfl ⟨by rw [e9] <;> rfl, by rw [e9] <;> rfl⟩
    · refine lv_iload_n hx hb dX7_spread_19 rfl (lv_at hl 3 rfl) ?_
      refine lv_iload_n hx hb dX7_spread_20 rfl (lv_at hl 2 rfl) ?_
      refine lv_bipush (v := nI 99) hx hb dX7_spread_21 rfl ?_
      refine x_fSI (rest := []) (c_X7_in l D k (wM k q S X) hi lo (nI 99)) mo_X7_69 F hw (Nat.le_of_ble_eq_true rfl) (x_cs F (Nat.le_of_ble_eq_true rfl) (Nat.le_of_ble_eq_true rfl)) rfl rfl hl.1 (Nat.le_of_ble_eq_true rfl) dX7_spread_23 (fun H locs hw => ?_)
      refine lv_if_ne (tgt := 32) hx hb dX7_spread_26 rfl (fun c26 => ?_) (fun c26 => ?_)
      · refine lv_bipush (v := nI 100) hx hb dX7_spread_32 rfl ?_
        refine lv_aload_n hx hb dX7_spread_34 rfl (lv_at hl 0 rfl) ?_
        refine x_getr frM_10 F hw fo_X7_31 dX7_spread_35 ?_
        refine lv_iconst (v := nI 2) hx hb dX7_spread_38 rfl ?_
        refine lv_iload_n hx hb dX7_spread_39 rfl (lv_at hl 1 rfl) ?_
        refine x_top (y := nI (clN wi)) hwi.1 ?_
        refine lv_imul hx hb dX7_spread_40 ?_
        refine x_top (y := nI (2 * (clN wi))) (pk_mul _ _) ?_
        refine x_iald aiM_10 F hw (2 * (clN wi)) rfl (by omega) dX7_spread_41 ?_
        refine lv_imul hx hb dX7_spread_42 ?_
        refine lv_aload_n hx hb dX7_spread_43 rfl (lv_at hl 0 rfl) ?_
        refine x_getr frM_10 F hw fo_X7_31 dX7_spread_44 ?_
        refine lv_iconst (v := nI 2) hx hb dX7_spread_47 rfl ?_
        refine lv_iload_n hx hb dX7_spread_48 rfl (lv_at hl 1 rfl) ?_
        refine x_top (y := nI (clN wi)) hwi.1 ?_
        refine lv_imul hx hb dX7_spread_49 ?_
        refine x_top (y := nI (2 * (clN wi))) (pk_mul _ _) ?_
        refine lv_iconst (v := nI 1) hx hb dX7_spread_50 rfl ?_
        refine lv_iadd hx hb dX7_spread_51 ?_
        refine x_top (y := nI ((2 * (clN wi)) + 1)) (nI_add _ _) ?_
        refine x_iald aiM_10 F hw ((2 * (clN wi)) + 1) rfl (by omega) dX7_spread_52 ?_
        refine lv_iadd hx hb dX7_spread_53 ?_
        refine lv_istore (lv' := [(4, .int (((nI 100) * (S 10 (2 * (clN wi)))) + (S 10 ((2 * (clN wi)) + 1)))), (0, .ref (q 30)), (1, .int wi), (2, .int lo), (3, .int hi)]) hx hb dX7_spread_54 hl (Nat.le_of_ble_eq_true rfl) rfl (fun ls hl => ?_)
        refine lv_aload_n hx hb dX7_spread_56 rfl (lv_at hl 1 rfl) ?_
        refine x_getr frM_10 F hw fo_X7_31 dX7_spread_57 ?_
        refine lv_iconst (v := nI 2) hx hb dX7_spread_60 rfl ?_
        refine lv_iload_n hx hb dX7_spread_61 rfl (lv_at hl 2 rfl) ?_
        refine x_top (y := nI (clN wi)) hwi.1 ?_
        refine lv_imul hx hb dX7_spread_62 ?_
        refine x_top (y := nI (2 * (clN wi))) (pk_mul _ _) ?_
        refine lv_iload_n hx hb dX7_spread_63 rfl (lv_at hl 3 rfl) ?_
        refine x_iast aiM_10 F hw (2 * (clN wi)) rfl (by omega) dX7_spread_64 (fun H locs hw => ?_)
        refine lv_aload_n hx hb dX7_spread_65 rfl (lv_at hl 1 rfl) ?_
        refine x_getr frM_10 F hw fo_X7_31 dX7_spread_66 ?_
        refine lv_iconst (v := nI 2) hx hb dX7_spread_69 rfl ?_
        refine lv_iload_n hx hb dX7_spread_70 rfl (lv_at hl 2 rfl) ?_
        refine x_top (y := nI (clN wi)) hwi.1 ?_
        refine lv_imul hx hb dX7_spread_71 ?_
        refine x_top (y := nI (2 * (clN wi))) (pk_mul _ _) ?_
        refine lv_iconst (v := nI 1) hx hb dX7_spread_72 rfl ?_
        refine lv_iadd hx hb dX7_spread_73 ?_
        refine x_top (y := nI ((2 * (clN wi)) + 1)) (nI_add _ _) ?_
        refine lv_iload_n hx hb dX7_spread_74 rfl (lv_at hl 4 rfl) ?_
        refine x_iast aiM_10 F hw ((2 * (clN wi)) + 1) rfl (by omega) dX7_spread_75 (fun H locs hw => ?_)
        refine lv_iload hx hb dX7_spread_76 (lv_at hl 0 rfl) ?_
        have e9 : m_spread S wi lo hi = (((nI 100) * (S 10 (2 * (clN wi)))) + (S 10 ((2 * (clN wi)) + 1)), (va_up (va_up S 10 (upd (S 10) (2 * (clN wi)) lo)) 10 (upd (upd (S 10) (2 * (clN wi)) lo) ((2 * (clN wi)) + 1) hi))) := by unfold m_spread; rw [if_neg c6, if_neg c16, if_neg c26]
        exact hret _ _ _ _ _ _ dX7_spread_78 hw rfl ⟨by rw [e9] <;> rfl, by rw [e9] <;> rfl⟩
      · refine lv_bipush (v := (-2)) hx hb dX7_spread_29 rfl ?_
        have e9 : m_spread S wi lo hi = ((-2), S) := by unfold m_spread; rw [if_neg c6, if_neg c16, if_pos c26]
        exact hret _ _ _ _ _ _ dX7_spread_31 hw rfl ⟨by rw [e9] <;> rfl, by rw [e9] <;> rfl⟩
def m_aged (S : St) (pi : Int32) (wh : Int32) : Int32 × St := if (haMP S pi) = 0 then ((-1), S) else if (f_in wh (nI 0) (nI 2)) = 0 then ((-2), S) else if 0 ≤ (S 4 (clN pi)) then if ((magS S (clN pi)) 27 0) = 0 then ((-5), (magS S (clN pi))) else if wh = 0 then ((magS S (clN pi)) 25 0, (magS S (clN pi))) else if wh = (nI 1) then ((magS S (clN pi)) 26 0, (magS S (clN pi))) else ((magS S (clN pi)) 27 0, (magS S (clN pi))) else ((-3), S)
set_option maxHeartbeats 4000000 in
set_option maxRecDepth 20000 in
theorem c_X7_aged (l : Launch) (D : va_G) (k : Nat → ClassId) (q : Nat → Nat) (S : St) (X : va_W) (pi : Int32) (wh : Int32) (hP : okMP S) (hG : okMG S) : CI l D k yX7_aged cX7_aged 3 (some .int) 2 0 0 [.ref (q 30), .int pi, .int wh] (wM k q S X) (fun r w' => w' = wM k q ((m_aged S pi wh).2) X ∧ r = (m_aged S pi wh).1) := by
  refine CI.mk (by decide) (Nat.le_of_ble_eq_true rfl) ?_
  intro p e R s m args below meth c A Q ls F hret hw hl
  have hx := xs_hx F
  have hb := xs_hb F
  have hl : lv_has ls 3 [(0, .ref (q 30)), (1, .int pi), (2, .int wh)] := hl
  have h6 := hP.2
  refine lv_aload_n hx hb dX7_aged_0 rfl (lv_at hl 0 rfl) ?_
  refine lv_iload_n hx hb dX7_aged_1 rfl (lv_at hl 1 rfl) ?_
  refine x_fVI (rest := []) (c_X7_isPicture l D k q S X pi (by first | assumption | omega)) mo_X7_85 obM F hw (Nat.le_of_ble_eq_true rfl) (x_cs F (Nat.le_of_ble_eq_true rfl) (Nat.le_of_ble_eq_true rfl)) rfl rfl hl.1 (Nat.le_of_ble_eq_true rfl) dX7_aged_2 (fun H locs hw => ?_)
  refine lv_if_ne (tgt := 10) hx hb dX7_aged_5 rfl (fun c5 => ?_) (fun c5 => ?_)
  · have hpi := haMP_t hP c5
    have hpi2 := hpi.2
    refine lv_iload_n hx hb dX7_aged_10 rfl (lv_at hl 2 rfl) ?_
    refine lv_iconst (v := nI 0) hx hb dX7_aged_11 rfl ?_
    refine lv_iconst (v := nI 2) hx hb dX7_aged_12 rfl ?_
    refine x_fSI (rest := []) (c_X7_in l D k (wM k q S X) wh (nI 0) (nI 2)) mo_X7_69 F hw (Nat.le_of_ble_eq_true rfl) (x_cs F (Nat.le_of_ble_eq_true rfl) (Nat.le_of_ble_eq_true rfl)) rfl rfl hl.1 (Nat.le_of_ble_eq_true rfl) dX7_aged_13 (fun H locs hw => ?_)
    refine lv_if_ne (tgt := 22) hx hb dX7_aged_16 rfl (fun c16 => ?_) (fun c16 => ?_)
    · refine lv_aload_n hx hb dX7_aged_22 rfl (lv_at hl 0 rfl) ?_
      refine x_getr frM_4 F hw fo_X7_19 dX7_aged_23 ?_
      refine lv_iload_n hx hb dX7_aged_26 rfl (lv_at hl 1 rfl) ?_
      refine x_iald aiM_4 F hw (clN pi) hpi.1 (by omega) dX7_aged_27 ?_
      refine lv_if_ge (tgt := 34) hx hb dX7_aged_28 rfl (fun c28 => ?_) (fun c28 => ?_)
      · refine lv_aload_n hx hb dX7_aged_34 rfl (lv_at hl 0 rfl) ?_
        refine lv_iload_n hx hb dX7_aged_35 rfl (lv_at hl 1 rfl) ?_
        refine x_top (y := nI (clN pi)) hpi.1 ?_
        refine x_fVV (rest := []) (c_X7_layAged l D k q S X (clN pi) (by exact hG) (by first | assumption | omega)) mo_X7_140 obM F hw (Nat.le_of_ble_eq_true rfl) (x_cs F (Nat.le_of_ble_eq_true rfl) (Nat.le_of_ble_eq_true rfl)) rfl rfl hl.1 (Nat.le_of_ble_eq_true rfl) dX7_aged_36 (fun H locs hw => ?_)
        refine lv_aload_n hx hb dX7_aged_39 rfl (lv_at hl 0 rfl) ?_
        refine x_geti fiM_27 F hw fo_X7_137 dX7_aged_40 ?_
        refine lv_if_ne (tgt := 51) hx hb dX7_aged_43 rfl (fun c43 => ?_) (fun c43 => ?_)
        · refine lv_iload_n hx hb dX7_aged_51 rfl (lv_at hl 2 rfl) ?_
          refine lv_if_ne (tgt := 62) hx hb dX7_aged_52 rfl (fun c52 => ?_) (fun c52 => ?_)
          · refine lv_iload_n hx hb dX7_aged_62 rfl (lv_at hl 2 rfl) ?_
            refine lv_iconst (v := nI 1) hx hb dX7_aged_63 rfl ?_
            refine lv_icmp_ne (tgt := 74) hx hb dX7_aged_64 rfl (fun c64 => ?_) (fun c64 => ?_)
            · refine lv_aload_n hx hb dX7_aged_74 rfl (lv_at hl 0 rfl) ?_
              refine x_geti fiM_27 F hw fo_X7_137 dX7_aged_75 ?_
              have e9 : m_aged S pi wh = ((magS S (clN pi)) 27 0, (magS S (clN pi))) := by unfold m_aged; rw [if_neg c5, if_neg c16, if_pos c28, if_neg c43, if_neg c52, if_neg c64]
              exact hret _ _ _ _ _ _ dX7_aged_78 hw rfl ⟨by rw [e9] <;> rfl, by rw [e9] <;> rfl⟩
            · refine lv_aload_n hx hb dX7_aged_67 rfl (lv_at hl 0 rfl) ?_
              refine x_geti fiM_26 F hw fo_X7_134 dX7_aged_68 ?_
              refine lv_goto (tgt := 78) hx hb dX7_aged_71 rfl ?_
              have e9 : m_aged S pi wh = ((magS S (clN pi)) 26 0, (magS S (clN pi))) := by unfold m_aged; rw [if_neg c5, if_neg c16, if_pos c28, if_neg c43, if_neg c52, if_pos c64]
              exact hret _ _ _ _ _ _ dX7_aged_78 hw rfl ⟨by rw [e9] <;> rfl, by rw [e9] <;> rfl⟩
          · refine lv_aload_n hx hb dX7_aged_55 rfl (lv_at hl 0 rfl) ?_
            refine x_geti fiM_25 F hw fo_X7_131 dX7_aged_56 ?_
            refine lv_goto (tgt := 78) hx hb dX7_aged_59 rfl ?_
            have e9 : m_aged S pi wh = ((magS S (clN pi)) 25 0, (magS S (clN pi))) := by unfold m_aged; rw [if_neg c5, if_neg c16, if_pos c28, if_neg c43, if_pos c52]
            exact hret _ _ _ _ _ _ dX7_aged_78 hw rfl ⟨by rw [e9] <;> rfl, by rw [e9] <;> rfl⟩
        · refine lv_bipush (v := (-5)) hx hb dX7_aged_46 rfl ?_
          refine lv_goto (tgt := 78) hx hb dX7_aged_48 rfl ?_
          have e9 : m_aged S pi wh = ((-5), (magS S (clN pi))) := by unfold m_aged; rw [if_neg c5, if_neg c16, if_pos c28, if_pos c43]
          exact hret _ _ _ _ _ _ dX7_aged_78 hw rfl ⟨by rw [e9] <;> rfl, by rw [e9] <;> rfl⟩
      · refine lv_bipush (v := (-3)) hx hb dX7_aged_31 rfl ?_
        have e9 : m_aged S pi wh = ((-3), S) := by unfold m_aged; rw [if_neg c5, if_neg c16, if_neg c28]
        exact hret _ _ _ _ _ _ dX7_aged_33 hw rfl ⟨by rw [e9] <;> rfl, by rw [e9] <;> rfl⟩
    · refine lv_bipush (v := (-2)) hx hb dX7_aged_19 rfl ?_
      have e9 : m_aged S pi wh = ((-2), S) := by unfold m_aged; rw [if_neg c5, if_pos c16]
      exact hret _ _ _ _ _ _ dX7_aged_21 hw rfl ⟨by rw [e9] <;> rfl, by rw [e9] <;> rfl⟩
  · refine lv_iconst (v := (-1)) hx hb dX7_aged_8 rfl ?_
    have e9 : m_aged S pi wh = ((-1), S) := by unfold m_aged; rw [if_pos c5]
    exact hret _ _ _ _ _ _ dX7_aged_9 hw rfl ⟨by rw [e9] <;> rfl, by rw [e9] <;> rfl⟩
def m_take (S : St) (pi : Int32) : Int32 × St := if (haMP S pi) = 0 then ((-1), S) else if 0 ≤ (S 4 (clN pi)) then if ((magS S (clN pi)) 25 0) ≤ ((magS S (clN pi)) 2 (clN pi)) then if ((magS S (clN pi)) 3 (clN pi)) ≤ ((magS S (clN pi)) 26 0) then if ((magS S (clN pi)) 27 0) = 0 then ((-5), (magS S (clN pi))) else if ((magS S (clN pi)) 2 (clN pi)) ≤ ((magS S (clN pi)) 3 (clN pi)) then ((((magS S (clN pi)) 3 (clN pi)) - ((magS S (clN pi)) 2 (clN pi))) + (nI 1), (va_up (va_up (va_up (magS S (clN pi)) 2 (upd ((magS S (clN pi)) 2) (clN pi) ((magS S (clN pi)) 2 (clN pi)))) 3 (upd ((magS S (clN pi)) 3) (clN pi) ((magS S (clN pi)) 3 (clN pi)))) 18 (fun _ => nI 0))) else ((-5), (magS S (clN pi))) else if ((magS S (clN pi)) 27 0) = 0 then ((-5), (magS S (clN pi))) else if ((magS S (clN pi)) 2 (clN pi)) ≤ ((magS S (clN pi)) 26 0) then ((((magS S (clN pi)) 26 0) - ((magS S (clN pi)) 2 (clN pi))) + (nI 1), (va_up (va_up (va_up (magS S (clN pi)) 2 (upd ((magS S (clN pi)) 2) (clN pi) ((magS S (clN pi)) 2 (clN pi)))) 3 (upd ((magS S (clN pi)) 3) (clN pi) ((magS S (clN pi)) 26 0))) 18 (fun _ => nI 0))) else ((-5), (magS S (clN pi))) else if ((magS S (clN pi)) 3 (clN pi)) ≤ ((magS S (clN pi)) 26 0) then if ((magS S (clN pi)) 27 0) = 0 then ((-5), (magS S (clN pi))) else if ((magS S (clN pi)) 25 0) ≤ ((magS S (clN pi)) 3 (clN pi)) then ((((magS S (clN pi)) 3 (clN pi)) - ((magS S (clN pi)) 25 0)) + (nI 1), (va_up (va_up (va_up (magS S (clN pi)) 2 (upd ((magS S (clN pi)) 2) (clN pi) ((magS S (clN pi)) 25 0))) 3 (upd ((magS S (clN pi)) 3) (clN pi) ((magS S (clN pi)) 3 (clN pi)))) 18 (fun _ => nI 0))) else ((-5), (magS S (clN pi))) else if ((magS S (clN pi)) 27 0) = 0 then ((-5), (magS S (clN pi))) else if ((magS S (clN pi)) 25 0) ≤ ((magS S (clN pi)) 26 0) then ((((magS S (clN pi)) 26 0) - ((magS S (clN pi)) 25 0)) + (nI 1), (va_up (va_up (va_up (magS S (clN pi)) 2 (upd ((magS S (clN pi)) 2) (clN pi) ((magS S (clN pi)) 25 0))) 3 (upd ((magS S (clN pi)) 3) (clN pi) ((magS S (clN pi)) 26 0))) 18 (fun _ => nI 0))) else ((-5), (magS S (clN pi))) else ((-3), S)
set_option maxHeartbeats 4000000 in
set_option maxRecDepth 20000 in
theorem c_X7_take (l : Launch) (D : va_G) (k : Nat → ClassId) (q : Nat → Nat) (S : St) (X : va_W) (pi : Int32) (hP : okMP S) (hG : okMG S) : CI l D k yX7_take cX7_take 4 (some .int) 2 0 0 [.ref (q 30), .int pi] (wM k q S X) (fun r w' => w' = wM k q ((m_take S pi).2) X ∧ r = (m_take S pi).1) := by
  refine CI.mk (by decide) (Nat.le_of_ble_eq_true rfl) ?_
  intro p e R s m args below meth c A Q ls F hret hw hl
  have hx := xs_hx F
  have hb := xs_hb F
  have hl : lv_has ls 4 [(0, .ref (q 30)), (1, .int pi)] := hl
  have h6 := hP.2
  refine lv_aload_n hx hb dX7_take_0 rfl (lv_at hl 0 rfl) ?_
  refine lv_iload_n hx hb dX7_take_1 rfl (lv_at hl 1 rfl) ?_
  refine x_fVI (rest := []) (c_X7_isPicture l D k q S X pi (by first | assumption | omega)) mo_X7_85 obM F hw (Nat.le_of_ble_eq_true rfl) (x_cs F (Nat.le_of_ble_eq_true rfl) (Nat.le_of_ble_eq_true rfl)) rfl rfl hl.1 (Nat.le_of_ble_eq_true rfl) dX7_take_2 (fun H locs hw => ?_)
  refine lv_if_ne (tgt := 10) hx hb dX7_take_5 rfl (fun c5 => ?_) (fun c5 => ?_)
  · have hpi := haMP_t hP c5
    have hpi2 := hpi.2
    refine lv_aload_n hx hb dX7_take_10 rfl (lv_at hl 0 rfl) ?_
    refine x_getr frM_4 F hw fo_X7_19 dX7_take_11 ?_
    refine lv_iload_n hx hb dX7_take_14 rfl (lv_at hl 1 rfl) ?_
    refine x_iald aiM_4 F hw (clN pi) hpi.1 (by omega) dX7_take_15 ?_
    refine lv_if_ge (tgt := 22) hx hb dX7_take_16 rfl (fun c16 => ?_) (fun c16 => ?_)
    · refine lv_aload_n hx hb dX7_take_22 rfl (lv_at hl 0 rfl) ?_
      refine lv_iload_n hx hb dX7_take_23 rfl (lv_at hl 1 rfl) ?_
      refine x_top (y := nI (clN pi)) hpi.1 ?_
      refine x_fVV (rest := []) (c_X7_layAged l D k q S X (clN pi) (by exact hG) (by first | assumption | omega)) mo_X7_140 obM F hw (Nat.le_of_ble_eq_true rfl) (x_cs F (Nat.le_of_ble_eq_true rfl) (Nat.le_of_ble_eq_true rfl)) rfl rfl hl.1 (Nat.le_of_ble_eq_true rfl) dX7_take_24 (fun H locs hw => ?_)
      refine lv_aload_n hx hb dX7_take_27 rfl (lv_at hl 0 rfl) ?_
      refine x_geti fiM_25 F hw fo_X7_131 dX7_take_28 ?_
      refine lv_aload_n hx hb dX7_take_31 rfl (lv_at hl 0 rfl) ?_
      refine x_getr frM_2 F hw fo_X7_13 dX7_take_32 ?_
      refine lv_iload_n hx hb dX7_take_35 rfl (lv_at hl 1 rfl) ?_
      refine x_iald aiM_2 F hw (clN pi) hpi.1 (by omega) dX7_take_36 ?_
      refine lv_icmp_le (tgt := 47) hx hb dX7_take_37 rfl (fun c37 => ?_) (fun c37 => ?_)
      · refine lv_aload_n hx hb dX7_take_47 rfl (lv_at hl 0 rfl) ?_
        refine x_getr frM_2 F hw fo_X7_13 dX7_take_48 ?_
        refine lv_iload_n hx hb dX7_take_51 rfl (lv_at hl 1 rfl) ?_
        refine x_iald aiM_2 F hw (clN pi) hpi.1 (by omega) dX7_take_52 ?_
        refine lv_istore_n (lv' := [(2, .int ((magS S (clN pi)) 2 (clN pi))), (0, .ref (q 30)), (1, .int pi)]) hx hb dX7_take_53 rfl hl (Nat.le_of_ble_eq_true rfl) rfl (fun ls hl => ?_)
        refine lv_aload_n hx hb dX7_take_54 rfl (lv_at hl 1 rfl) ?_
        refine x_geti fiM_26 F hw fo_X7_134 dX7_take_55 ?_
        refine lv_aload_n hx hb dX7_take_58 rfl (lv_at hl 1 rfl) ?_
        refine x_getr frM_3 F hw fo_X7_16 dX7_take_59 ?_
        refine lv_iload_n hx hb dX7_take_62 rfl (lv_at hl 2 rfl) ?_
        refine x_iald aiM_3 F hw (clN pi) hpi.1 (by omega) dX7_take_63 ?_
        refine lv_icmp_ge (tgt := 74) hx hb dX7_take_64 rfl (fun c64 => ?_) (fun c64 => ?_)
        · refine lv_aload_n hx hb dX7_take_74 rfl (lv_at hl 1 rfl) ?_
          refine x_getr frM_3 F hw fo_X7_16 dX7_take_75 ?_
          refine lv_iload_n hx hb dX7_take_78 rfl (lv_at hl 2 rfl) ?_
          refine x_iald aiM_3 F hw (clN pi) hpi.1 (by omega) dX7_take_79 ?_
          refine lv_istore_n (lv' := [(3, .int ((magS S (clN pi)) 3 (clN pi))), (2, .int ((magS S (clN pi)) 2 (clN pi))), (0, .ref (q 30)), (1, .int pi)]) hx hb dX7_take_80 rfl hl (Nat.le_of_ble_eq_true rfl) rfl (fun ls hl => ?_)
          refine lv_aload_n hx hb dX7_take_81 rfl (lv_at hl 2 rfl) ?_
          refine x_geti fiM_27 F hw fo_X7_137 dX7_take_82 ?_
          refine lv_if_eq (tgt := 93) hx hb dX7_take_85 rfl (fun c85 => ?_) (fun c85 => ?_)
          · refine lv_bipush (v := (-5)) hx hb dX7_take_93 rfl ?_
            have e9 : m_take S pi = ((-5), (magS S (clN pi))) := by unfold m_take; rw [if_neg c5, if_pos c16, if_pos c37, if_pos c64, if_pos c85]
            exact hret _ _ _ _ _ _ dX7_take_95 hw rfl ⟨by rw [e9] <;> rfl, by rw [e9] <;> rfl⟩
          · refine lv_iload_n hx hb dX7_take_88 rfl (lv_at hl 1 rfl) ?_
            refine lv_iload_n hx hb dX7_take_89 rfl (lv_at hl 0 rfl) ?_
            refine lv_icmp_le (tgt := 96) hx hb dX7_take_90 rfl (fun c90 => ?_) (fun c90 => ?_)
            · refine lv_aload_n hx hb dX7_take_96 rfl (lv_at hl 2 rfl) ?_
              refine x_getr frM_2 F hw fo_X7_13 dX7_take_97 ?_
              refine lv_iload_n hx hb dX7_take_100 rfl (lv_at hl 3 rfl) ?_
              refine lv_iload_n hx hb dX7_take_101 rfl (lv_at hl 1 rfl) ?_
              refine x_iast aiM_2 F hw (clN pi) hpi.1 (by omega) dX7_take_102 (fun H locs hw => ?_)
              refine lv_aload_n hx hb dX7_take_103 rfl (lv_at hl 2 rfl) ?_
              refine x_getr frM_3 F hw fo_X7_16 dX7_take_104 ?_
              refine lv_iload_n hx hb dX7_take_107 rfl (lv_at hl 3 rfl) ?_
              refine lv_iload_n hx hb dX7_take_108 rfl (lv_at hl 0 rfl) ?_
              refine x_iast aiM_3 F hw (clN pi) hpi.1 (by omega) dX7_take_109 (fun H locs hw => ?_)
              refine lv_aload_n hx hb dX7_take_110 rfl (lv_at hl 2 rfl) ?_
              refine lv_iconst (v := nI 0) hx hb dX7_take_111 rfl ?_
              refine x_puti fiM_18 F hw fo_X7_81 rfl rfl dX7_take_112 (fun H locs hw => ?_)
              refine lv_iload_n hx hb dX7_take_115 rfl (lv_at hl 0 rfl) ?_
              refine lv_iload_n hx hb dX7_take_116 rfl (lv_at hl 1 rfl) ?_
              refine lv_isub hx hb dX7_take_117 ?_
              refine lv_iconst (v := nI 1) hx hb dX7_take_118 rfl ?_
              refine lv_iadd hx hb dX7_take_119 ?_
              have e9 : m_take S pi = ((((magS S (clN pi)) 3 (clN pi)) - ((magS S (clN pi)) 2 (clN pi))) + (nI 1), (va_up (va_up (va_up (magS S (clN pi)) 2 (upd ((magS S (clN pi)) 2) (clN pi) ((magS S (clN pi)) 2 (clN pi)))) 3 (upd ((magS S (clN pi)) 3) (clN pi) ((magS S (clN pi)) 3 (clN pi)))) 18 (fun _ => nI 0))) := by unfold m_take; rw [if_neg c5, if_pos c16, if_pos c37, if_pos c64, if_neg c85, if_pos c90]
              exact hret _ _ _ _ _ _ dX7_take_120 hw rfl ⟨by rw [e9] <;> rfl, by rw [e9] <;> rfl⟩
            · refine lv_bipush (v := (-5)) hx hb dX7_take_93 rfl ?_
              have e9 : m_take S pi = ((-5), (magS S (clN pi))) := by unfold m_take; rw [if_neg c5, if_pos c16, if_pos c37, if_pos c64, if_neg c85, if_neg c90]
              exact hret _ _ _ _ _ _ dX7_take_95 hw rfl ⟨by rw [e9] <;> rfl, by rw [e9] <;> rfl⟩
        · refine lv_aload_n hx hb dX7_take_67 rfl (lv_at hl 1 rfl) ?_
          refine x_geti fiM_26 F hw fo_X7_134 dX7_take_68 ?_
          refine lv_goto (tgt := 80) hx hb dX7_take_71 rfl ?_
          refine lv_istore_n (lv' := [(3, .int ((magS S (clN pi)) 26 0)), (2, .int ((magS S (clN pi)) 2 (clN pi))), (0, .ref (q 30)), (1, .int pi)]) hx hb dX7_take_80 rfl hl (Nat.le_of_ble_eq_true rfl) rfl (fun ls hl => ?_)
          refine lv_aload_n hx hb dX7_take_81 rfl (lv_at hl 2 rfl) ?_
          refine x_geti fiM_27 F hw fo_X7_137 dX7_take_82 ?_
          refine lv_if_eq (tgt := 93) hx hb dX7_take_85 rfl (fun c85 => ?_) (fun c85 => ?_)
          · refine lv_bipush (v := (-5)) hx hb dX7_take_93 rfl ?_
            have e9 : m_take S pi = ((-5), (magS S (clN pi))) := by unfold m_take; rw [if_neg c5, if_pos c16, if_pos c37, if_neg c64, if_pos c85]
            exact hret _ _ _ _ _ _ dX7_take_95 hw rfl ⟨by rw [e9] <;> rfl, by rw [e9] <;> rfl⟩
          · refine lv_iload_n hx hb dX7_take_88 rfl (lv_at hl 1 rfl) ?_
            refine lv_iload_n hx hb dX7_take_89 rfl (lv_at hl 0 rfl) ?_
            refine lv_icmp_le (tgt := 96) hx hb dX7_take_90 rfl (fun c90 => ?_) (fun c90 => ?_)
            · refine lv_aload_n hx hb dX7_take_96 rfl (lv_at hl 2 rfl) ?_
              refine x_getr frM_2 F hw fo_X7_13 dX7_take_97 ?_
              refine lv_iload_n hx hb dX7_take_100 rfl (lv_at hl 3 rfl) ?_
              refine lv_iload_n hx hb dX7_take_101 rfl (lv_at hl 1 rfl) ?_
              refine x_iast aiM_2 F hw (clN pi) hpi.1 (by omega) dX7_take_102 (fun H locs hw => ?_)
              refine lv_aload_n hx hb dX7_take_103 rfl (lv_at hl 2 rfl) ?_
              refine x_getr frM_3 F hw fo_X7_16 dX7_take_104 ?_
              refine lv_iload_n hx hb dX7_take_107 rfl (lv_at hl 3 rfl) ?_
              refine lv_iload_n hx hb dX7_take_108 rfl (lv_at hl 0 rfl) ?_
              refine x_iast aiM_3 F hw (clN pi) hpi.1 (by omega) dX7_take_109 (fun H locs hw => ?_)
              refine lv_aload_n hx hb dX7_take_110 rfl (lv_at hl 2 rfl) ?_
              refine lv_iconst (v := nI 0) hx hb dX7_take_111 rfl ?_
              refine x_puti fiM_18 F hw fo_X7_81 rfl rfl dX7_take_112 (fun H locs hw => ?_)
              refine lv_iload_n hx hb dX7_take_115 rfl (lv_at hl 0 rfl) ?_
              refine lv_iload_n hx hb dX7_take_116 rfl (lv_at hl 1 rfl) ?_
              refine lv_isub hx hb dX7_take_117 ?_
              refine lv_iconst (v := nI 1) hx hb dX7_take_118 rfl ?_
              refine lv_iadd hx hb dX7_take_119 ?_
              have e9 : m_take S pi = ((((magS S (clN pi)) 26 0) - ((magS S (clN pi)) 2 (clN pi))) + (nI 1), (va_up (va_up (va_up (magS S (clN pi)) 2 (upd ((magS S (clN pi)) 2) (clN pi) ((magS S (clN pi)) 2 (clN pi)))) 3 (upd ((magS S (clN pi)) 3) (clN pi) ((magS S (clN pi)) 26 0))) 18 (fun _ => nI 0))) := by unfold m_take; rw [if_neg c5, if_pos c16, if_pos c37, if_neg c64, if_neg c85, if_pos c90]
              exact hret _ _ _ _ _ _ dX7_take_120 hw rfl ⟨by rw [e9] <;> rfl, by rw [e9] <;> rfl⟩
            · refine lv_bipush (v := (-5)) hx hb dX7_take_93 rfl ?_
              have e9 : m_take S pi = ((-5), (magS S (clN pi))) := by unfold m_take; rw [if_neg c5, if_pos c16, if_pos c37, if_neg c64, if_neg c85, if_neg c90]
              exact hret _ _ _ _ _ _ dX7_take_95 hw rfl ⟨by rw [e9] <;> rfl, by rw [e9] <;> rfl⟩
      · refine lv_aload_n hx hb dX7_take_40 rfl (lv_at hl 0 rfl) ?_
        refine x_geti fiM_25 F hw fo_X7_131 dX7_take_41 ?_
        refine lv_goto (tgt := 53) hx hb dX7_take_44 rfl ?_
        refine lv_istore_n (lv' := [(2, .int ((magS S (clN pi)) 25 0)), (0, .ref (q 30)), (1, .int pi)]) hx hb dX7_take_53 rfl hl (Nat.le_of_ble_eq_true rfl) rfl (fun ls hl => ?_)
        refine lv_aload_n hx hb dX7_take_54 rfl (lv_at hl 1 rfl) ?_
        refine x_geti fiM_26 F hw fo_X7_134 dX7_take_55 ?_
        refine lv_aload_n hx hb dX7_take_58 rfl (lv_at hl 1 rfl) ?_
        refine x_getr frM_3 F hw fo_X7_16 dX7_take_59 ?_
        refine lv_iload_n hx hb dX7_take_62 rfl (lv_at hl 2 rfl) ?_
        refine x_iald aiM_3 F hw (clN pi) hpi.1 (by omega) dX7_take_63 ?_
        refine lv_icmp_ge (tgt := 74) hx hb dX7_take_64 rfl (fun c64 => ?_) (fun c64 => ?_)
        · refine lv_aload_n hx hb dX7_take_74 rfl (lv_at hl 1 rfl) ?_
          refine x_getr frM_3 F hw fo_X7_16 dX7_take_75 ?_
          refine lv_iload_n hx hb dX7_take_78 rfl (lv_at hl 2 rfl) ?_
          refine x_iald aiM_3 F hw (clN pi) hpi.1 (by omega) dX7_take_79 ?_
          refine lv_istore_n (lv' := [(3, .int ((magS S (clN pi)) 3 (clN pi))), (2, .int ((magS S (clN pi)) 25 0)), (0, .ref (q 30)), (1, .int pi)]) hx hb dX7_take_80 rfl hl (Nat.le_of_ble_eq_true rfl) rfl (fun ls hl => ?_)
          refine lv_aload_n hx hb dX7_take_81 rfl (lv_at hl 2 rfl) ?_
          refine x_geti fiM_27 F hw fo_X7_137 dX7_take_82 ?_
          refine lv_if_eq (tgt := 93) hx hb dX7_take_85 rfl (fun c85 => ?_) (fun c85 => ?_)
          · refine lv_bipush (v := (-5)) hx hb dX7_take_93 rfl ?_
            have e9 : m_take S pi = ((-5), (magS S (clN pi))) := by unfold m_take; rw [if_neg c5, if_pos c16, if_neg c37, if_pos c64, if_pos c85]
            exact hret _ _ _ _ _ _ dX7_take_95 hw rfl ⟨by rw [e9] <;> rfl, by rw [e9] <;> rfl⟩
          · refine lv_iload_n hx hb dX7_take_88 rfl (lv_at hl 1 rfl) ?_
            refine lv_iload_n hx hb dX7_take_89 rfl (lv_at hl 0 rfl) ?_
            refine lv_icmp_le (tgt := 96) hx hb dX7_take_90 rfl (fun c90 => ?_) (fun c90 => ?_)
            · refine lv_aload_n hx hb dX7_take_96 rfl (lv_at hl 2 rfl) ?_
              refine x_getr frM_2 F hw fo_X7_13 dX7_take_97 ?_
              refine lv_iload_n hx hb dX7_take_100 rfl (lv_at hl 3 rfl) ?_
              refine lv_iload_n hx hb dX7_take_101 rfl (lv_at hl 1 rfl) ?_
              refine x_iast aiM_2 F hw (clN pi) hpi.1 (by omega) dX7_take_102 (fun H locs hw => ?_)
              refine lv_aload_n hx hb dX7_take_103 rfl (lv_at hl 2 rfl) ?_
              refine x_getr frM_3 F hw fo_X7_16 dX7_take_104 ?_
              refine lv_iload_n hx hb dX7_take_107 rfl (lv_at hl 3 rfl) ?_
              refine lv_iload_n hx hb dX7_take_108 rfl (lv_at hl 0 rfl) ?_
              refine x_iast aiM_3 F hw (clN pi) hpi.1 (by omega) dX7_take_109 (fun H locs hw => ?_)
              refine lv_aload_n hx hb dX7_take_110 rfl (lv_at hl 2 rfl) ?_
              refine lv_iconst (v := nI 0) hx hb dX7_take_111 rfl ?_
              refine x_puti fiM_18 F hw fo_X7_81 rfl rfl dX7_take_112 (fun H locs hw => ?_)
              refine lv_iload_n hx hb dX7_take_115 rfl (lv_at hl 0 rfl) ?_
              refine lv_iload_n hx hb dX7_take_116 rfl (lv_at hl 1 rfl) ?_
              refine lv_isub hx hb dX7_take_117 ?_
              refine lv_iconst (v := nI 1) hx hb dX7_take_118 rfl ?_
              refine lv_iadd hx hb dX7_take_119 ?_
              have e9 : m_take S pi = ((((magS S (clN pi)) 3 (clN pi)) - ((magS S (clN pi)) 25 0)) + (nI 1), (va_up (va_up (va_up (magS S (clN pi)) 2 (upd ((magS S (clN pi)) 2) (clN pi) ((magS S (clN pi)) 25 0))) 3 (upd ((magS S (clN pi)) 3) (clN pi) ((magS S (clN pi)) 3 (clN pi)))) 18 (fun _ => nI 0))) := by unfold m_take; rw [if_neg c5, if_pos c16, if_neg c37, if_pos c64, if_neg c85, if_pos c90]
              exact hret _ _ _ _ _ _ dX7_take_120 hw rfl ⟨by rw [e9] <;> rfl, by rw [e9] <;> rfl⟩
            · refine lv_bipush (v := (-5)) hx hb dX7_take_93 rfl ?_
              have e9 : m_take S pi = ((-5), (magS S (clN pi))) := by unfold m_take; rw [if_neg c5, if_pos c16, if_neg c37, if_pos c64, if_neg c85, if_neg c90]
              exact hret _ _ _ _ _ _ dX7_take_95 hw rfl ⟨by rw [e9] <;> rfl, by rw [e9] <;> rfl⟩
        · refine lv_aload_n hx hb dX7_take_67 rfl (lv_at hl 1 rfl) ?_
          refine x_geti fiM_26 F hw fo_X7_134 dX7_take_68 ?_
          refine lv_goto (tgt := 80) hx hb dX7_take_71 rfl ?_
          refine lv_istore_n (lv' := [(3, .int ((magS S (clN pi)) 26 0)), (2, .int ((magS S (clN pi)) 25 0)), (0, .ref (q 30)), (1, .int pi)]) hx hb dX7_take_80 rfl hl (Nat.le_of_ble_eq_true rfl) rfl (fun ls hl => ?_)
          refine lv_aload_n hx hb dX7_take_81 rfl (lv_at hl 2 rfl) ?_
          refine x_geti fiM_27 F hw fo_X7_137 dX7_take_82 ?_
          refine lv_if_eq (tgt := 93) hx hb dX7_take_85 rfl (fun c85 => ?_) (fun c85 => ?_)
          · refine lv_bipush (v := (-5)) hx hb dX7_take_93 rfl ?_
            have e9 : m_take S pi = ((-5), (magS S (clN pi))) := by unfold m_take; rw [if_neg c5, if_pos c16, if_neg c37, if_neg c64, if_pos c85]
            exact hret _ _ _ _ _ _ dX7_take_95 hw rfl ⟨by rw [e9] <;> rfl, by rw [e9] <;> rfl⟩
          · refine lv_iload_n hx hb dX7_take_88 rfl (lv_at hl 1 rfl) ?_
            refine lv_iload_n hx hb dX7_take_89 rfl (lv_at hl 0 rfl) ?_
            refine lv_icmp_le (tgt := 96) hx hb dX7_take_90 rfl (fun c90 => ?_) (fun c90 => ?_)
            · refine lv_aload_n hx hb dX7_take_96 rfl (lv_at hl 2 rfl) ?_
              refine x_getr frM_2 F hw fo_X7_13 dX7_take_97 ?_
              refine lv_iload_n hx hb dX7_take_100 rfl (lv_at hl 3 rfl) ?_
              refine lv_iload_n hx hb dX7_take_101 rfl (lv_at hl 1 rfl) ?_
              refine x_iast aiM_2 F hw (clN pi) hpi.1 (by omega) dX7_take_102 (fun H locs hw => ?_)
              refine lv_aload_n hx hb dX7_take_103 rfl (lv_at hl 2 rfl) ?_
              refine x_getr frM_3 F hw fo_X7_16 dX7_take_104 ?_
              refine lv_iload_n hx hb dX7_take_107 rfl (lv_at hl 3 rfl) ?_
              refine lv_iload_n hx hb dX7_take_108 rfl (lv_at hl 0 rfl) ?_
              refine x_iast aiM_3 F hw (clN pi) hpi.1 (by omega) dX7_take_109 (fun H locs hw => ?_)
              refine lv_aload_n hx hb dX7_take_110 rfl (lv_at hl 2 rfl) ?_
              refine lv_iconst (v := nI 0) hx hb dX7_take_111 rfl ?_
              refine x_puti fiM_18 F hw fo_X7_81 rfl rfl dX7_take_112 (fun H locs hw => ?_)
              refine lv_iload_n hx hb dX7_take_115 rfl (lv_at hl 0 rfl) ?_
              refine lv_iload_n hx hb dX7_take_116 rfl (lv_at hl 1 rfl) ?_
              refine lv_isub hx hb dX7_take_117 ?_
              refine lv_iconst (v := nI 1) hx hb dX7_take_118 rfl ?_
              refine lv_iadd hx hb dX7_take_119 ?_
              have e9 : m_take S pi = ((((magS S (clN pi)) 26 0) - ((magS S (clN pi)) 25 0)) + (nI 1), (va_up (va_up (va_up (magS S (clN pi)) 2 (upd ((magS S (clN pi)) 2) (clN pi) ((magS S (clN pi)) 25 0))) 3 (upd ((magS S (clN pi)) 3) (clN pi) ((magS S (clN pi)) 26 0))) 18 (fun _ => nI 0))) := by unfold m_take; rw [if_neg c5, if_pos c16, if_neg c37, if_neg c64, if_neg c85, if_pos c90]
              exact hret _ _ _ _ _ _ dX7_take_120 hw rfl ⟨by rw [e9] <;> rfl, by rw [e9] <;> rfl⟩
            · refine lv_bipush (v := (-5)) hx hb dX7_take_93 rfl ?_
              have e9 : m_take S pi = ((-5), (magS S (clN pi))) := by unfold m_take; rw [if_neg c5, if_pos c16, if_neg c37, if_neg c64, if_neg c85, if_neg c90]
              exact hret _ _ _ _ _ _ dX7_take_95 hw rfl ⟨by rw [e9] <;> rfl, by rw [e9] <;> rfl⟩
    · refine lv_bipush (v := (-3)) hx hb dX7_take_19 rfl ?_
      have e9 : m_take S pi = ((-3), S) := by unfold m_take; rw [if_neg c5, if_neg c16]
      exact hret _ _ _ _ _ _ dX7_take_21 hw rfl ⟨by rw [e9] <;> rfl, by rw [e9] <;> rfl⟩
  · refine lv_iconst (v := (-1)) hx hb dX7_take_8 rfl ?_
    have e9 : m_take S pi = ((-1), S) := by unfold m_take; rw [if_pos c5]
    exact hret _ _ _ _ _ _ dX7_take_9 hw rfl ⟨by rw [e9] <;> rfl, by rw [e9] <;> rfl⟩
def m_hide (S : St) (sk : Int32) (tk : Int32) (st_ : Int32) : Int32 × St := if (f_in sk (nI 0) (nI 7)) = 0 then ((-1), S) else if (f_in st_ (nI 0) (nI 255)) = 0 then ((-2), S) else if tk = 0 then if tk = 0 then (S 11 (clN sk), (va_up S 11 (upd (S 11) (clN sk) st_))) else (S 11 (clN sk), (va_up S 12 (upd (S 12) (clN sk) st_))) else if tk = 0 then (S 12 (clN sk), (va_up S 11 (upd (S 11) (clN sk) st_))) else (S 12 (clN sk), (va_up S 12 (upd (S 12) (clN sk) st_)))
set_option maxHeartbeats 4000000 in
set_option maxRecDepth 20000 in
theorem c_X7_hide (l : Launch) (D : va_G) (k : Nat → ClassId) (q : Nat → Nat) (S : St) (X : va_W) (sk : Int32) (tk : Int32) (st_ : Int32) : CI l D k yX7_hide cX7_hide 5 (some .int) 1 0 0 [.ref (q 30), .int sk, .int tk, .int st_] (wM k q S X) (fun r w' => w' = wM k q ((m_hide S sk tk st_).2) X ∧ r = (m_hide S sk tk st_).1) := by
  refine CI.mk (by decide) (Nat.le_of_ble_eq_true rfl) ?_
  intro p e R s m args below meth c A Q ls F hret hw hl
  have hx := xs_hx F
  have hb := xs_hb F
  have hl : lv_has ls 5 [(0, .ref (q 30)), (1, .int sk), (2, .int tk), (3, .int st_)] := hl
  refine lv_iload_n hx hb dX7_hide_0 rfl (lv_at hl 1 rfl) ?_
  refine lv_iconst (v := nI 0) hx hb dX7_hide_1 rfl ?_
  refine lv_bipush (v := nI 7) hx hb dX7_hide_2 rfl ?_
  refine x_fSI (rest := []) (c_X7_in l D k (wM k q S X) sk (nI 0) (nI 7)) mo_X7_69 F hw (Nat.le_of_ble_eq_true rfl) (x_cs F (Nat.le_of_ble_eq_true rfl) (Nat.le_of_ble_eq_true rfl)) rfl rfl hl.1 (Nat.le_of_ble_eq_true rfl) dX7_hide_4 (fun H locs hw => ?_)
  refine lv_if_ne (tgt := 12) hx hb dX7_hide_7 rfl (fun c7 => ?_) (fun c7 => ?_)
  · have hsk := f_in_t (by decide) c7
    have hsk2 := hsk.2
    refine lv_iload_n hx hb dX7_hide_12 rfl (lv_at hl 3 rfl) ?_
    refine lv_iconst (v := nI 0) hx hb dX7_hide_13 rfl ?_
    refine lv_sipush (v := nI 255) hx hb dX7_hide_14 rfl ?_
    refine x_fSI (rest := []) (c_X7_in l D k (wM k q S X) st_ (nI 0) (nI 255)) mo_X7_69 F hw (Nat.le_of_ble_eq_true rfl) (x_cs F (Nat.le_of_ble_eq_true rfl) (Nat.le_of_ble_eq_true rfl)) rfl rfl hl.1 (Nat.le_of_ble_eq_true rfl) dX7_hide_17 (fun H locs hw => ?_)
    refine lv_if_ne (tgt := 26) hx hb dX7_hide_20 rfl (fun c20 => ?_) (fun c20 => ?_)
    · refine lv_iload_n hx hb dX7_hide_26 rfl (lv_at hl 2 rfl) ?_
      refine lv_if_eq (tgt := 39) hx hb dX7_hide_27 rfl (fun c27 => ?_) (fun c27 => ?_)
      · refine lv_aload_n hx hb dX7_hide_39 rfl (lv_at hl 0 rfl) ?_
        refine x_getr frM_11 F hw fo_X7_34 dX7_hide_40 ?_
        refine lv_iload_n hx hb dX7_hide_43 rfl (lv_at hl 1 rfl) ?_
        refine x_iald aiM_11 F hw (clN sk) hsk.1 (by omega) dX7_hide_44 ?_
        refine lv_istore (lv' := [(4, .int (S 11 (clN sk))), (0, .ref (q 30)), (1, .int sk), (2, .int tk), (3, .int st_)]) hx hb dX7_hide_45 hl (Nat.le_of_ble_eq_true rfl) rfl (fun ls hl => ?_)
        refine lv_iload_n hx hb dX7_hide_47 rfl (lv_at hl 3 rfl) ?_
        refine lv_if_eq (tgt := 61) hx hb dX7_hide_48 rfl (fun c48 => ?_) (fun c48 => ?_)
        · refine lv_aload_n hx hb dX7_hide_61 rfl (lv_at hl 1 rfl) ?_
          refine x_getr frM_11 F hw fo_X7_34 dX7_hide_62 ?_
          refine lv_iload_n hx hb dX7_hide_65 rfl (lv_at hl 2 rfl) ?_
          refine lv_iload_n hx hb dX7_hide_66 rfl (lv_at hl 4 rfl) ?_
          refine x_iast aiM_11 F hw (clN sk) hsk.1 (by omega) dX7_hide_67 (fun H locs hw => ?_)
          refine lv_iload hx hb dX7_hide_68 (lv_at hl 0 rfl) ?_
          have e9 : m_hide S sk tk st_ = (S 11 (clN sk), (va_up S 11 (upd (S 11) (clN sk) st_))) := by unfold m_hide; rw [if_neg c7, if_neg c20, if_pos c27, if_pos c48]
          exact hret _ _ _ _ _ _ dX7_hide_70 hw rfl ⟨by rw [e9] <;> rfl, by rw [e9] <;> rfl⟩
        · refine lv_aload_n hx hb dX7_hide_51 rfl (lv_at hl 1 rfl) ?_
          refine x_getr frM_12 F hw fo_X7_37 dX7_hide_52 ?_
          refine lv_iload_n hx hb dX7_hide_55 rfl (lv_at hl 2 rfl) ?_
          refine lv_iload_n hx hb dX7_hide_56 rfl (lv_at hl 4 rfl) ?_
          refine x_iast aiM_12 F hw (clN sk) hsk.1 (by omega) dX7_hide_57 (fun H locs hw => ?_)
          refine lv_goto (tgt := 68) hx hb dX7_hide_58 rfl ?_
          refine lv_iload hx hb dX7_hide_68 (lv_at hl 0 rfl) ?_
          have e9 : m_hide S sk tk st_ = (S 11 (clN sk), (va_up S 12 (upd (S 12) (clN sk) st_))) := by unfold m_hide; rw [if_neg c7, if_neg c20, if_pos c27, if_neg c48]
          exact hret _ _ _ _ _ _ dX7_hide_70 hw rfl ⟨by rw [e9] <;> rfl, by rw [e9] <;> rfl⟩
      · refine lv_aload_n hx hb dX7_hide_30 rfl (lv_at hl 0 rfl) ?_
        refine x_getr frM_12 F hw fo_X7_37 dX7_hide_31 ?_
        refine lv_iload_n hx hb dX7_hide_34 rfl (lv_at hl 1 rfl) ?_
        refine x_iald aiM_12 F hw (clN sk) hsk.1 (by omega) dX7_hide_35 ?_
        refine lv_goto (tgt := 45) hx hb dX7_hide_36 rfl ?_
        refine lv_istore (lv' := [(4, .int (S 12 (clN sk))), (0, .ref (q 30)), (1, .int sk), (2, .int tk), (3, .int st_)]) hx hb dX7_hide_45 hl (Nat.le_of_ble_eq_true rfl) rfl (fun ls hl => ?_)
        refine lv_iload_n hx hb dX7_hide_47 rfl (lv_at hl 3 rfl) ?_
        refine lv_if_eq (tgt := 61) hx hb dX7_hide_48 rfl (fun c48 => ?_) (fun c48 => ?_)
        · refine lv_aload_n hx hb dX7_hide_61 rfl (lv_at hl 1 rfl) ?_
          refine x_getr frM_11 F hw fo_X7_34 dX7_hide_62 ?_
          refine lv_iload_n hx hb dX7_hide_65 rfl (lv_at hl 2 rfl) ?_
          refine lv_iload_n hx hb dX7_hide_66 rfl (lv_at hl 4 rfl) ?_
          refine x_iast aiM_11 F hw (clN sk) hsk.1 (by omega) dX7_hide_67 (fun H locs hw => ?_)
          refine lv_iload hx hb dX7_hide_68 (lv_at hl 0 rfl) ?_
          have e9 : m_hide S sk tk st_ = (S 12 (clN sk), (va_up S 11 (upd (S 11) (clN sk) st_))) := by unfold m_hide; rw [if_neg c7, if_neg c20, if_neg c27, if_pos c48]
          exact hret _ _ _ _ _ _ dX7_hide_70 hw rfl ⟨by rw [e9] <;> rfl, by rw [e9] <;> rfl⟩
        · refine lv_aload_n hx hb dX7_hide_51 rfl (lv_at hl 1 rfl) ?_
          refine x_getr frM_12 F hw fo_X7_37 dX7_hide_52 ?_
          refine lv_iload_n hx hb dX7_hide_55 rfl (lv_at hl 2 rfl) ?_
          refine lv_iload_n hx hb dX7_hide_56 rfl (lv_at hl 4 rfl) ?_
          refine x_iast aiM_12 F hw (clN sk) hsk.1 (by omega) dX7_hide_57 (fun H locs hw => ?_)
          refine lv_goto (tgt := 68) hx hb dX7_hide_58 rfl ?_
          refine lv_iload hx hb dX7_hide_68 (lv_at hl 0 rfl) ?_
          have e9 : m_hide S sk tk st_ = (S 12 (clN sk), (va_up S 12 (upd (S 12) (clN sk) st_))) := by unfold m_hide; rw [if_neg c7, if_neg c20, if_neg c27, if_neg c48]
          exact hret _ _ _ _ _ _ dX7_hide_70 hw rfl ⟨by rw [e9] <;> rfl, by rw [e9] <;> rfl⟩
    · refine lv_bipush (v := (-2)) hx hb dX7_hide_23 rfl ?_
      have e9 : m_hide S sk tk st_ = ((-2), S) := by unfold m_hide; rw [if_neg c7, if_pos c20]
      exact hret _ _ _ _ _ _ dX7_hide_25 hw rfl ⟨by rw [e9] <;> rfl, by rw [e9] <;> rfl⟩
  · refine lv_iconst (v := (-1)) hx hb dX7_hide_10 rfl ?_
    have e9 : m_hide S sk tk st_ = ((-1), S) := by unfold m_hide; rw [if_pos c7]
    exact hret _ _ _ _ _ _ dX7_hide_11 hw rfl ⟨by rw [e9] <;> rfl, by rw [e9] <;> rfl⟩
def m_hides (S : St) (dr : Int32) (wh : Int32) : Int32 × St := if (isDr dr) = 0 then ((-2), S) else if (f_in wh (nI 0) (nI 1)) = 0 then ((-2), S) else if wh = 0 then (hidF (S 11) (S 12) dr 8, S) else (nI ((inkN dr 8)), S)
set_option maxHeartbeats 4000000 in
set_option maxRecDepth 20000 in
theorem c_X7_hides (l : Launch) (D : va_G) (k : Nat → ClassId) (q : Nat → Nat) (S : St) (X : va_W) (dr : Int32) (wh : Int32) : CI l D k yX7_hides cX7_hides 3 (some .int) 2 0 0 [.ref (q 30), .int dr, .int wh] (wM k q S X) (fun r w' => w' = wM k q ((m_hides S dr wh).2) X ∧ r = (m_hides S dr wh).1) := by
  refine CI.mk (by decide) (Nat.le_of_ble_eq_true rfl) ?_
  intro p e R s m args below meth c A Q ls F hret hw hl
  have hx := xs_hx F
  have hb := xs_hb F
  have hl : lv_has ls 3 [(0, .ref (q 30)), (1, .int dr), (2, .int wh)] := hl
  refine lv_iload_n hx hb dX7_hides_0 rfl (lv_at hl 1 rfl) ?_
  refine x_fSI (rest := []) (c_X7_isDrawing l D k (wM k q S X) dr) mo_X7_74 F hw (Nat.le_of_ble_eq_true rfl) (x_cs F (Nat.le_of_ble_eq_true rfl) (Nat.le_of_ble_eq_true rfl)) rfl rfl hl.1 (Nat.le_of_ble_eq_true rfl) dX7_hides_1 (fun H locs hw => ?_)
  refine lv_if_eq (tgt := 16) hx hb dX7_hides_4 rfl (fun c4 => ?_) (fun c4 => ?_)
  · refine lv_bipush (v := (-2)) hx hb dX7_hides_16 rfl ?_
    have e9 : m_hides S dr wh = ((-2), S) := by unfold m_hides; rw [if_pos c4]
    exact hret _ _ _ _ _ _ dX7_hides_18 hw rfl ⟨by rw [e9] <;> rfl, by rw [e9] <;> rfl⟩
  · refine lv_iload_n hx hb dX7_hides_7 rfl (lv_at hl 2 rfl) ?_
    refine lv_iconst (v := nI 0) hx hb dX7_hides_8 rfl ?_
    refine lv_iconst (v := nI 1) hx hb dX7_hides_9 rfl ?_
    refine x_fSI (rest := []) (c_X7_in l D k (wM k q S X) wh (nI 0) (nI 1)) mo_X7_69 F hw (Nat.le_of_ble_eq_true rfl) (x_cs F (Nat.le_of_ble_eq_true rfl) (Nat.le_of_ble_eq_true rfl)) rfl rfl hl.1 (Nat.le_of_ble_eq_true rfl) dX7_hides_10 (fun H locs hw => ?_)
    refine lv_if_ne (tgt := 19) hx hb dX7_hides_13 rfl (fun c13 => ?_) (fun c13 => ?_)
    · refine lv_iload_n hx hb dX7_hides_19 rfl (lv_at hl 2 rfl) ?_
      refine lv_if_ne (tgt := 31) hx hb dX7_hides_20 rfl (fun c20 => ?_) (fun c20 => ?_)
      · refine lv_iload_n hx hb dX7_hides_31 rfl (lv_at hl 1 rfl) ?_
        refine x_fSI (rest := []) (c_X7_ink l D k (wM k q S X) dr) mo_X7_147 F hw (Nat.le_of_ble_eq_true rfl) (x_cs F (Nat.le_of_ble_eq_true rfl) (Nat.le_of_ble_eq_true rfl)) rfl rfl hl.1 (Nat.le_of_ble_eq_true rfl) dX7_hides_32 (fun H locs hw => ?_)
        have e9 : m_hides S dr wh = (nI ((inkN dr 8)), S) := by unfold m_hides; rw [if_neg c4, if_neg c13, if_neg c20]
        exact hret _ _ _ _ _ _ dX7_hides_35 hw rfl ⟨by rw [e9] <;> rfl, by rw [e9] <;> rfl⟩
      · refine lv_aload_n hx hb dX7_hides_23 rfl (lv_at hl 0 rfl) ?_
        refine lv_iload_n hx hb dX7_hides_24 rfl (lv_at hl 1 rfl) ?_
        refine x_fVI (rest := []) (c_X7_hidden l D k q S X dr) mo_X7_144 obM F hw (Nat.le_of_ble_eq_true rfl) (x_cs F (Nat.le_of_ble_eq_true rfl) (Nat.le_of_ble_eq_true rfl)) rfl rfl hl.1 (Nat.le_of_ble_eq_true rfl) dX7_hides_25 (fun H locs hw => ?_)
        refine lv_goto (tgt := 35) hx hb dX7_hides_28 rfl ?_
        have e9 : m_hides S dr wh = (hidF (S 11) (S 12) dr 8, S) := by unfold m_hides; rw [if_neg c4, if_neg c13, if_pos c20]
        exact hret _ _ _ _ _ _ dX7_hides_35 hw rfl ⟨by rw [e9] <;> rfl, by rw [e9] <;> rfl⟩
    · refine lv_bipush (v := (-2)) hx hb dX7_hides_16 rfl ?_
      have e9 : m_hides S dr wh = ((-2), S) := by unfold m_hides; rw [if_neg c4, if_pos c13]
      exact hret _ _ _ _ _ _ dX7_hides_18 hw rfl ⟨by rw [e9] <;> rfl, by rw [e9] <;> rfl⟩
def m_man (S : St)  : Int32 × St := if (mmnN S) = 8 then ((-4), S) else (nI (mmnN S), (va_up (va_up S 14 (upd (S 14) (mmnN S) (-6))) 13 (fun _ => nI ((mmnN S) + 1))))
set_option maxHeartbeats 4000000 in
set_option maxRecDepth 20000 in
theorem c_X7_man (l : Launch) (D : va_G) (k : Nat → ClassId) (q : Nat → Nat) (S : St) (X : va_W) (hN : okMN S) : CI l D k yX7_man cX7_man 1 (some .int) 0 0 0 [.ref (q 30)] (wM k q S X) (fun r w' => w' = wM k q ((m_man S).2) X ∧ r = (m_man S).1) := by
  refine CI.mk (by decide) (Nat.le_of_ble_eq_true rfl) ?_
  intro p e R s m args below meth c A Q ls F hret hw hl
  have hx := xs_hx F
  have hb := xs_hb F
  have hl : lv_has ls 1 [(0, .ref (q 30))] := hl
  have h8 := hN.1.2
  have h16 := hN.2.1.2
  refine lv_aload_n hx hb dX7_man_0 rfl (lv_at hl 0 rfl) ?_
  refine x_geti fiM_13 F hw fo_X7_150 dX7_man_1 ?_
  refine x_top (y := nI (mmnN S)) hN.1.1 ?_
  refine lv_bipush (v := nI 8) hx hb dX7_man_4 rfl ?_
  refine x_icmp_ne (mmnN S) 8 F (by omega) (by omega) (tgt := 12) dX7_man_6 rfl (fun c6 => ?_) (fun c6 => ?_)
  · refine lv_aload_n hx hb dX7_man_12 rfl (lv_at hl 0 rfl) ?_
    refine x_getr frM_14 F hw fo_X7_40 dX7_man_13 ?_
    refine lv_aload_n hx hb dX7_man_16 rfl (lv_at hl 0 rfl) ?_
    refine x_geti fiM_13 F hw fo_X7_150 dX7_man_17 ?_
    refine x_top (y := nI (mmnN S)) hN.1.1 ?_
    refine lv_bipush (v := (-6)) hx hb dX7_man_20 rfl ?_
    refine x_iast aiM_14 F hw (mmnN S) rfl (by omega) dX7_man_22 (fun H locs hw => ?_)
    refine lv_aload_n hx hb dX7_man_23 rfl (lv_at hl 0 rfl) ?_
    refine lv_dup hx hb dX7_man_24 rfl ?_
    refine x_geti fiM_13 F hw fo_X7_150 dX7_man_25 ?_
    refine x_top (y := S 13 0) rfl ?_
    refine x_top (y := nI (mmnN S)) hN.1.1 ?_
    refine lv_iconst (v := nI 1) hx hb dX7_man_28 rfl ?_
    refine lv_iadd hx hb dX7_man_29 ?_
    refine x_top (y := nI ((mmnN S) + 1)) (nI_add _ _) ?_
    refine x_puti fiM_13 F hw fo_X7_150 rfl rfl dX7_man_30 (fun H locs hw => ?_)
    refine lv_aload_n hx hb dX7_man_33 rfl (lv_at hl 0 rfl) ?_
    refine x_geti fiM_13 F hw fo_X7_150 dX7_man_34 ?_
    refine x_top (y := nI ((mmnN S) + 1)) rfl ?_
    refine lv_iconst (v := nI 1) hx hb dX7_man_37 rfl ?_
    refine lv_isub hx hb dX7_man_38 ?_
    refine x_top (y := nI (mmnN S)) (nI_pred _) ?_
    have e9 : m_man S = (nI (mmnN S), (va_up (va_up S 14 (upd (S 14) (mmnN S) (-6))) 13 (fun _ => nI ((mmnN S) + 1)))) := by unfold m_man; rw [if_neg c6]
    exact hret _ _ _ _ _ _ dX7_man_39 hw rfl ⟨by rw [e9] <;> rfl, by rw [e9] <;> rfl⟩
  · refine lv_bipush (v := (-4)) hx hb dX7_man_9 rfl ?_
    have e9 : m_man S = ((-4), S) := by unfold m_man; rw [if_pos c6]
    exact hret _ _ _ _ _ _ dX7_man_11 hw rfl ⟨by rw [e9] <;> rfl, by rw [e9] <;> rfl⟩
def m_meet (S : St) (mn : Int32) (dy : Int32) : Int32 × St := if (haMM S mn) = 0 then ((-1), S) else if (mmtN S) = 0 then if (f_in dy (nI 0) (nI 99)) = 0 then ((-2), S) else if (mmtN S) = 16 then ((-4), S) else (nI (mmtN S), (va_up (va_up (va_up S 16 (upd (S 16) (mmtN S) mn)) 17 (upd (S 17) (mmtN S) dy)) 15 (fun _ => nI ((mmtN S) + 1)))) else if (f_in dy (S 17 (mmtN S - 1)) (nI 99)) = 0 then ((-2), S) else if (mmtN S) = 16 then ((-4), S) else (nI (mmtN S), (va_up (va_up (va_up S 16 (upd (S 16) (mmtN S) mn)) 17 (upd (S 17) (mmtN S) dy)) 15 (fun _ => nI ((mmtN S) + 1))))
set_option maxHeartbeats 4000000 in
set_option maxRecDepth 20000 in
theorem c_X7_meet (l : Launch) (D : va_G) (k : Nat → ClassId) (q : Nat → Nat) (S : St) (X : va_W) (mn : Int32) (dy : Int32) (hN : okMN S) : CI l D k yX7_meet cX7_meet 3 (some .int) 2 0 0 [.ref (q 30), .int mn, .int dy] (wM k q S X) (fun r w' => w' = wM k q ((m_meet S mn dy).2) X ∧ r = (m_meet S mn dy).1) := by
  refine CI.mk (by decide) (Nat.le_of_ble_eq_true rfl) ?_
  intro p e R s m args below meth c A Q ls F hret hw hl
  have hx := xs_hx F
  have hb := xs_hb F
  have hl : lv_has ls 3 [(0, .ref (q 30)), (1, .int mn), (2, .int dy)] := hl
  have h8 := hN.1.2
  have h16 := hN.2.1.2
  refine lv_aload_n hx hb dX7_meet_0 rfl (lv_at hl 0 rfl) ?_
  refine lv_iload_n hx hb dX7_meet_1 rfl (lv_at hl 1 rfl) ?_
  refine x_fVI (rest := []) (c_X7_isMan l D k q S X mn (by first | assumption | omega)) mo_X7_153 obM F hw (Nat.le_of_ble_eq_true rfl) (x_cs F (Nat.le_of_ble_eq_true rfl) (Nat.le_of_ble_eq_true rfl)) rfl rfl hl.1 (Nat.le_of_ble_eq_true rfl) dX7_meet_2 (fun H locs hw => ?_)
  refine lv_if_ne (tgt := 10) hx hb dX7_meet_5 rfl (fun c5 => ?_) (fun c5 => ?_)
  · refine lv_iload_n hx hb dX7_meet_10 rfl (lv_at hl 2 rfl) ?_
    refine lv_aload_n hx hb dX7_meet_11 rfl (lv_at hl 0 rfl) ?_
    refine x_geti fiM_15 F hw fo_X7_156 dX7_meet_12 ?_
    refine x_top (y := nI (mmtN S)) hN.2.1.1 ?_
    refine x_if_ne (mmtN S) F (by omega) (tgt := 22) dX7_meet_15 rfl (fun c15 => ?_) (fun c15 => ?_)
    · refine lv_aload_n hx hb dX7_meet_22 rfl (lv_at hl 0 rfl) ?_
      refine x_getr frM_17 F hw fo_X7_46 dX7_meet_23 ?_
      refine lv_aload_n hx hb dX7_meet_26 rfl (lv_at hl 0 rfl) ?_
      refine x_geti fiM_15 F hw fo_X7_156 dX7_meet_27 ?_
      refine x_top (y := nI (mmtN S)) hN.2.1.1 ?_
      refine lv_iconst (v := nI 1) hx hb dX7_meet_30 rfl ?_
      refine lv_isub hx hb dX7_meet_31 ?_
      refine x_top (y := nI (mmtN S - 1)) (pk_sub (by omega)) ?_
      refine x_iald aiM_17 F hw (mmtN S - 1) rfl (by omega) dX7_meet_32 ?_
      refine lv_bipush (v := nI 99) hx hb dX7_meet_33 rfl ?_
      refine x_fSI (rest := []) (c_X7_in l D k (wM k q S X) dy (S 17 (mmtN S - 1)) (nI 99)) mo_X7_69 F hw (Nat.le_of_ble_eq_true rfl) (x_cs F (Nat.le_of_ble_eq_true rfl) (Nat.le_of_ble_eq_true rfl)) rfl rfl hl.1 (Nat.le_of_ble_eq_true rfl) dX7_meet_35 (fun H locs hw => ?_)
      refine lv_if_ne (tgt := 44) hx hb dX7_meet_38 rfl (fun c38 => ?_) (fun c38 => ?_)
      · refine lv_aload_n hx hb dX7_meet_44 rfl (lv_at hl 0 rfl) ?_
        refine x_geti fiM_15 F hw fo_X7_156 dX7_meet_45 ?_
        refine x_top (y := nI (mmtN S)) hN.2.1.1 ?_
        refine lv_bipush (v := nI 16) hx hb dX7_meet_48 rfl ?_
        refine x_icmp_ne (mmtN S) 16 F (by omega) (by omega) (tgt := 56) dX7_meet_50 rfl (fun c50 => ?_) (fun c50 => ?_)
        · refine lv_aload_n hx hb dX7_meet_56 rfl (lv_at hl 0 rfl) ?_
          refine x_getr frM_16 F hw fo_X7_43 dX7_meet_57 ?_
          refine lv_aload_n hx hb dX7_meet_60 rfl (lv_at hl 0 rfl) ?_
          refine x_geti fiM_15 F hw fo_X7_156 dX7_meet_61 ?_
          refine x_top (y := nI (mmtN S)) hN.2.1.1 ?_
          refine lv_iload_n hx hb dX7_meet_64 rfl (lv_at hl 1 rfl) ?_
          refine x_iast aiM_16 F hw (mmtN S) rfl (by omega) dX7_meet_65 (fun H locs hw => ?_)
          refine lv_aload_n hx hb dX7_meet_66 rfl (lv_at hl 0 rfl) ?_
          refine x_getr frM_17 F hw fo_X7_46 dX7_meet_67 ?_
          refine lv_aload_n hx hb dX7_meet_70 rfl (lv_at hl 0 rfl) ?_
          refine x_geti fiM_15 F hw fo_X7_156 dX7_meet_71 ?_
          refine x_top (y := S 15 0) rfl ?_
          refine x_top (y := nI (mmtN S)) hN.2.1.1 ?_
          refine lv_iload_n hx hb dX7_meet_74 rfl (lv_at hl 2 rfl) ?_
          refine x_iast aiM_17 F hw (mmtN S) rfl (by omega) dX7_meet_75 (fun H locs hw => ?_)
          refine lv_aload_n hx hb dX7_meet_76 rfl (lv_at hl 0 rfl) ?_
          refine lv_dup hx hb dX7_meet_77 rfl ?_
          refine x_geti fiM_15 F hw fo_X7_156 dX7_meet_78 ?_
          refine x_top (y := S 15 0) rfl ?_
          refine x_top (y := nI (mmtN S)) hN.2.1.1 ?_
          refine lv_iconst (v := nI 1) hx hb dX7_meet_81 rfl ?_
          refine lv_iadd hx hb dX7_meet_82 ?_
          refine x_top (y := nI ((mmtN S) + 1)) (nI_add _ _) ?_
          refine x_puti fiM_15 F hw fo_X7_156 rfl rfl dX7_meet_83 (fun H locs hw => ?_)
          refine lv_aload_n hx hb dX7_meet_86 rfl (lv_at hl 0 rfl) ?_
          refine x_geti fiM_15 F hw fo_X7_156 dX7_meet_87 ?_
          refine x_top (y := nI ((mmtN S) + 1)) rfl ?_
          refine lv_iconst (v := nI 1) hx hb dX7_meet_90 rfl ?_
          refine lv_isub hx hb dX7_meet_91 ?_
          refine x_top (y := nI (mmtN S)) (nI_pred _) ?_
          have e9 : m_meet S mn dy = (nI (mmtN S), (va_up (va_up (va_up S 16 (upd (S 16) (mmtN S) mn)) 17 (upd (S 17) (mmtN S) dy)) 15 (fun _ => nI ((mmtN S) + 1)))) := by unfold m_meet; rw [if_neg c5, if_neg c15, if_neg c38, if_neg c50]
          exact hret _ _ _ _ _ _ dX7_meet_92 hw rfl ⟨by rw [e9] <;> rfl, by rw [e9] <;> rfl⟩
        · refine lv_bipush (v := (-4)) hx hb dX7_meet_53 rfl ?_
          have e9 : m_meet S mn dy = ((-4), S) := by unfold m_meet; rw [if_neg c5, if_neg c15, if_neg c38, if_pos c50]
          exact hret _ _ _ _ _ _ dX7_meet_55 hw rfl ⟨by rw [e9] <;> rfl, by rw [e9] <;> rfl⟩
      · refine lv_bipush (v := (-2)) hx hb dX7_meet_41 rfl ?_
        have e9 : m_meet S mn dy = ((-2), S) := by unfold m_meet; rw [if_neg c5, if_neg c15, if_pos c38]
        exact hret _ _ _ _ _ _ dX7_meet_43 hw rfl ⟨by rw [e9] <;> rfl, by rw [e9] <;> rfl⟩
    · refine lv_iconst (v := nI 0) hx hb dX7_meet_18 rfl ?_
      refine lv_goto (tgt := 33) hx hb dX7_meet_19 rfl ?_
      refine lv_bipush (v := nI 99) hx hb dX7_meet_33 rfl ?_
      refine x_fSI (rest := []) (c_X7_in l D k (wM k q S X) dy (nI 0) (nI 99)) mo_X7_69 F hw (Nat.le_of_ble_eq_true rfl) (x_cs F (Nat.le_of_ble_eq_true rfl) (Nat.le_of_ble_eq_true rfl)) rfl rfl hl.1 (Nat.le_of_ble_eq_true rfl) dX7_meet_35 (fun H locs hw => ?_)
      refine lv_if_ne (tgt := 44) hx hb dX7_meet_38 rfl (fun c38 => ?_) (fun c38 => ?_)
      · refine lv_aload_n hx hb dX7_meet_44 rfl (lv_at hl 0 rfl) ?_
        refine x_geti fiM_15 F hw fo_X7_156 dX7_meet_45 ?_
        refine x_top (y := nI (mmtN S)) hN.2.1.1 ?_
        refine lv_bipush (v := nI 16) hx hb dX7_meet_48 rfl ?_
        refine x_icmp_ne (mmtN S) 16 F (by omega) (by omega) (tgt := 56) dX7_meet_50 rfl (fun c50 => ?_) (fun c50 => ?_)
        · refine lv_aload_n hx hb dX7_meet_56 rfl (lv_at hl 0 rfl) ?_
          refine x_getr frM_16 F hw fo_X7_43 dX7_meet_57 ?_
          refine lv_aload_n hx hb dX7_meet_60 rfl (lv_at hl 0 rfl) ?_
          refine x_geti fiM_15 F hw fo_X7_156 dX7_meet_61 ?_
          refine x_top (y := nI (mmtN S)) hN.2.1.1 ?_
          refine lv_iload_n hx hb dX7_meet_64 rfl (lv_at hl 1 rfl) ?_
          refine x_iast aiM_16 F hw (mmtN S) rfl (by omega) dX7_meet_65 (fun H locs hw => ?_)
          refine lv_aload_n hx hb dX7_meet_66 rfl (lv_at hl 0 rfl) ?_
          refine x_getr frM_17 F hw fo_X7_46 dX7_meet_67 ?_
          refine lv_aload_n hx hb dX7_meet_70 rfl (lv_at hl 0 rfl) ?_
          refine x_geti fiM_15 F hw fo_X7_156 dX7_meet_71 ?_
          refine x_top (y := S 15 0) rfl ?_
          refine x_top (y := nI (mmtN S)) hN.2.1.1 ?_
          refine lv_iload_n hx hb dX7_meet_74 rfl (lv_at hl 2 rfl) ?_
          refine x_iast aiM_17 F hw (mmtN S) rfl (by omega) dX7_meet_75 (fun H locs hw => ?_)
          refine lv_aload_n hx hb dX7_meet_76 rfl (lv_at hl 0 rfl) ?_
          refine lv_dup hx hb dX7_meet_77 rfl ?_
          refine x_geti fiM_15 F hw fo_X7_156 dX7_meet_78 ?_
          refine x_top (y := S 15 0) rfl ?_
          refine x_top (y := nI (mmtN S)) hN.2.1.1 ?_
          refine lv_iconst (v := nI 1) hx hb dX7_meet_81 rfl ?_
          refine lv_iadd hx hb dX7_meet_82 ?_
          refine x_top (y := nI ((mmtN S) + 1)) (nI_add _ _) ?_
          refine x_puti fiM_15 F hw fo_X7_156 rfl rfl dX7_meet_83 (fun H locs hw => ?_)
          refine lv_aload_n hx hb dX7_meet_86 rfl (lv_at hl 0 rfl) ?_
          refine x_geti fiM_15 F hw fo_X7_156 dX7_meet_87 ?_
          refine x_top (y := nI ((mmtN S) + 1)) rfl ?_
          refine lv_iconst (v := nI 1) hx hb dX7_meet_90 rfl ?_
          refine lv_isub hx hb dX7_meet_91 ?_
          refine x_top (y := nI (mmtN S)) (nI_pred _) ?_
          have e9 : m_meet S mn dy = (nI (mmtN S), (va_up (va_up (va_up S 16 (upd (S 16) (mmtN S) mn)) 17 (upd (S 17) (mmtN S) dy)) 15 (fun _ => nI ((mmtN S) + 1)))) := by unfold m_meet; rw [if_neg c5, if_pos c15, if_neg c38, if_neg c50]
          exact hret _ _ _ _ _ _ dX7_meet_92 hw rfl ⟨by rw [e9] <;> rfl, by rw [e9] <;> rfl⟩
        · refine lv_bipush (v := (-4)) hx hb dX7_meet_53 rfl ?_
          have e9 : m_meet S mn dy = ((-4), S) := by unfold m_meet; rw [if_neg c5, if_pos c15, if_neg c38, if_pos c50]
          exact hret _ _ _ _ _ _ dX7_meet_55 hw rfl ⟨by rw [e9] <;> rfl, by rw [e9] <;> rfl⟩
      · refine lv_bipush (v := (-2)) hx hb dX7_meet_41 rfl ?_
        have e9 : m_meet S mn dy = ((-2), S) := by unfold m_meet; rw [if_neg c5, if_pos c15, if_pos c38]
        exact hret _ _ _ _ _ _ dX7_meet_43 hw rfl ⟨by rw [e9] <;> rfl, by rw [e9] <;> rfl⟩
  · refine lv_iconst (v := (-1)) hx hb dX7_meet_8 rfl ?_
    have e9 : m_meet S mn dy = ((-1), S) := by unfold m_meet; rw [if_pos c5]
    exact hret _ _ _ _ _ _ dX7_meet_9 hw rfl ⟨by rw [e9] <;> rfl, by rw [e9] <;> rfl⟩
def m_sick (S : St) (mn : Int32) (dy : Int32) : Int32 × St := if (haMM S mn) = 0 then ((-1), S) else if (f_in dy (-1) (nI 99)) = 0 then ((-2), S) else if 0 ≤ dy then (S 14 (clN mn), (va_up S 14 (upd (S 14) (clN mn) dy))) else (S 14 (clN mn), (va_up S 14 (upd (S 14) (clN mn) (-6))))
set_option maxHeartbeats 4000000 in
set_option maxRecDepth 20000 in
theorem c_X7_sick (l : Launch) (D : va_G) (k : Nat → ClassId) (q : Nat → Nat) (S : St) (X : va_W) (mn : Int32) (dy : Int32) (hN : okMN S) : CI l D k yX7_sick cX7_sick 4 (some .int) 2 0 0 [.ref (q 30), .int mn, .int dy] (wM k q S X) (fun r w' => w' = wM k q ((m_sick S mn dy).2) X ∧ r = (m_sick S mn dy).1) := by
  refine CI.mk (by decide) (Nat.le_of_ble_eq_true rfl) ?_
  intro p e R s m args below meth c A Q ls F hret hw hl
  have hx := xs_hx F
  have hb := xs_hb F
  have hl : lv_has ls 4 [(0, .ref (q 30)), (1, .int mn), (2, .int dy)] := hl
  have h8 := hN.1.2
  have h16 := hN.2.1.2
  refine lv_aload_n hx hb dX7_sick_0 rfl (lv_at hl 0 rfl) ?_
  refine lv_iload_n hx hb dX7_sick_1 rfl (lv_at hl 1 rfl) ?_
  refine x_fVI (rest := []) (c_X7_isMan l D k q S X mn (by first | assumption | omega)) mo_X7_153 obM F hw (Nat.le_of_ble_eq_true rfl) (x_cs F (Nat.le_of_ble_eq_true rfl) (Nat.le_of_ble_eq_true rfl)) rfl rfl hl.1 (Nat.le_of_ble_eq_true rfl) dX7_sick_2 (fun H locs hw => ?_)
  refine lv_if_ne (tgt := 10) hx hb dX7_sick_5 rfl (fun c5 => ?_) (fun c5 => ?_)
  · have hmn := haMM_t hN c5
    have hmn2 := hmn.2
    refine lv_iload_n hx hb dX7_sick_10 rfl (lv_at hl 2 rfl) ?_
    refine lv_iconst (v := (-1)) hx hb dX7_sick_11 rfl ?_
    refine lv_bipush (v := nI 99) hx hb dX7_sick_12 rfl ?_
    refine x_fSI (rest := []) (c_X7_in l D k (wM k q S X) dy (-1) (nI 99)) mo_X7_69 F hw (Nat.le_of_ble_eq_true rfl) (x_cs F (Nat.le_of_ble_eq_true rfl) (Nat.le_of_ble_eq_true rfl)) rfl rfl hl.1 (Nat.le_of_ble_eq_true rfl) dX7_sick_14 (fun H locs hw => ?_)
    refine lv_if_ne (tgt := 23) hx hb dX7_sick_17 rfl (fun c17 => ?_) (fun c17 => ?_)
    · refine lv_aload_n hx hb dX7_sick_23 rfl (lv_at hl 0 rfl) ?_
      refine x_getr frM_14 F hw fo_X7_40 dX7_sick_24 ?_
      refine lv_iload_n hx hb dX7_sick_27 rfl (lv_at hl 1 rfl) ?_
      refine x_iald aiM_14 F hw (clN mn) hmn.1 (by omega) dX7_sick_28 ?_
      refine lv_istore_n (lv' := [(3, .int (S 14 (clN mn))), (0, .ref (q 30)), (1, .int mn), (2, .int dy)]) hx hb dX7_sick_29 rfl hl (Nat.le_of_ble_eq_true rfl) rfl (fun ls hl => ?_)
      refine lv_aload_n hx hb dX7_sick_30 rfl (lv_at hl 1 rfl) ?_
      refine x_getr frM_14 F hw fo_X7_40 dX7_sick_31 ?_
      refine lv_iload_n hx hb dX7_sick_34 rfl (lv_at hl 2 rfl) ?_
      refine lv_iload_n hx hb dX7_sick_35 rfl (lv_at hl 3 rfl) ?_
      refine lv_if_ge (tgt := 44) hx hb dX7_sick_36 rfl (fun c36 => ?_) (fun c36 => ?_)
      · refine lv_iload_n hx hb dX7_sick_44 rfl (lv_at hl 3 rfl) ?_
        refine x_iast aiM_14 F hw (clN mn) hmn.1 (by omega) dX7_sick_45 (fun H locs hw => ?_)
        refine lv_iload_n hx hb dX7_sick_46 rfl (lv_at hl 0 rfl) ?_
        have e9 : m_sick S mn dy = (S 14 (clN mn), (va_up S 14 (upd (S 14) (clN mn) dy))) := by unfold m_sick; rw [if_neg c5, if_neg c17, if_pos c36]
        exact hret _ _ _ _ _ _ dX7_sick_47 hw rfl ⟨by rw [e9] <;> rfl, by rw [e9] <;> rfl⟩
      · refine lv_bipush (v := (-6)) hx hb dX7_sick_39 rfl ?_
        refine lv_goto (tgt := 45) hx hb dX7_sick_41 rfl ?_
        refine x_iast aiM_14 F hw (clN mn) hmn.1 (by omega) dX7_sick_45 (fun H locs hw => ?_)
        refine lv_iload_n hx hb dX7_sick_46 rfl (lv_at hl 0 rfl) ?_
        have e9 : m_sick S mn dy = (S 14 (clN mn), (va_up S 14 (upd (S 14) (clN mn) (-6)))) := by unfold m_sick; rw [if_neg c5, if_neg c17, if_neg c36]
        exact hret _ _ _ _ _ _ dX7_sick_47 hw rfl ⟨by rw [e9] <;> rfl, by rw [e9] <;> rfl⟩
    · refine lv_bipush (v := (-2)) hx hb dX7_sick_20 rfl ?_
      have e9 : m_sick S mn dy = ((-2), S) := by unfold m_sick; rw [if_neg c5, if_pos c17]
      exact hret _ _ _ _ _ _ dX7_sick_22 hw rfl ⟨by rw [e9] <;> rfl, by rw [e9] <;> rfl⟩
  · refine lv_iconst (v := (-1)) hx hb dX7_sick_8 rfl ?_
    have e9 : m_sick S mn dy = ((-1), S) := by unfold m_sick; rw [if_pos c5]
    exact hret _ _ _ _ _ _ dX7_sick_9 hw rfl ⟨by rw [e9] <;> rfl, by rw [e9] <;> rfl⟩
def m_from (S : St) (mn : Int32) : Int32 × St := if (haMM S mn) = 0 then ((-1), S) else (mgvs S (clN mn), S)
set_option maxHeartbeats 4000000 in
set_option maxRecDepth 20000 in
theorem c_X7_from (l : Launch) (D : va_G) (k : Nat → ClassId) (q : Nat → Nat) (S : St) (X : va_W) (mn : Int32) (hN : okMN S) : CI l D k yX7_from cX7_from 2 (some .int) 2 0 0 [.ref (q 30), .int mn] (wM k q S X) (fun r w' => w' = wM k q ((m_from S mn).2) X ∧ r = (m_from S mn).1) := by
  refine CI.mk (by decide) (Nat.le_of_ble_eq_true rfl) ?_
  intro p e R s m args below meth c A Q ls F hret hw hl
  have hx := xs_hx F
  have hb := xs_hb F
  have hl : lv_has ls 2 [(0, .ref (q 30)), (1, .int mn)] := hl
  have h8 := hN.1.2
  have h16 := hN.2.1.2
  refine lv_aload_n hx hb dX7_from_0 rfl (lv_at hl 0 rfl) ?_
  refine lv_iload_n hx hb dX7_from_1 rfl (lv_at hl 1 rfl) ?_
  refine x_fVI (rest := []) (c_X7_isMan l D k q S X mn (by first | assumption | omega)) mo_X7_153 obM F hw (Nat.le_of_ble_eq_true rfl) (x_cs F (Nat.le_of_ble_eq_true rfl) (Nat.le_of_ble_eq_true rfl)) rfl rfl hl.1 (Nat.le_of_ble_eq_true rfl) dX7_from_2 (fun H locs hw => ?_)
  refine lv_if_eq (tgt := 16) hx hb dX7_from_5 rfl (fun c5 => ?_) (fun c5 => ?_)
  · refine lv_iconst (v := (-1)) hx hb dX7_from_16 rfl ?_
    have e9 : m_from S mn = ((-1), S) := by unfold m_from; rw [if_pos c5]
    exact hret _ _ _ _ _ _ dX7_from_17 hw rfl ⟨by rw [e9] <;> rfl, by rw [e9] <;> rfl⟩
  · have hmn := haMM_t hN c5
    have hmn2 := hmn.2
    refine lv_aload_n hx hb dX7_from_8 rfl (lv_at hl 0 rfl) ?_
    refine lv_iload_n hx hb dX7_from_9 rfl (lv_at hl 1 rfl) ?_
    refine x_top (y := nI (clN mn)) hmn.1 ?_
    refine x_fVI (rest := []) (c_X7_fromOf l D k q S X (clN mn) (by first | assumption | omega) (by omega)) mo_X7_159 obM F hw (Nat.le_of_ble_eq_true rfl) (x_cs F (Nat.le_of_ble_eq_true rfl) (Nat.le_of_ble_eq_true rfl)) rfl rfl hl.1 (Nat.le_of_ble_eq_true rfl) dX7_from_10 (fun H locs hw => ?_)
    refine lv_goto (tgt := 17) hx hb dX7_from_13 rfl ?_
    have e9 : m_from S mn = (mgvs S (clN mn), S) := by unfold m_from; rw [if_neg c5]
    exact hret _ _ _ _ _ _ dX7_from_17 hw rfl ⟨by rw [e9] <;> rfl, by rw [e9] <;> rfl⟩
def m_firsts (S : St) (wh : Int32) : Int32 × St := if (f_in wh (nI 0) (nI 1)) = 0 then ((-2), S) else if wh = 0 then (fsF S (mmnN S), S) else (msck S, S)
set_option maxHeartbeats 4000000 in
set_option maxRecDepth 20000 in
theorem c_X7_firsts (l : Launch) (D : va_G) (k : Nat → ClassId) (q : Nat → Nat) (S : St) (X : va_W) (wh : Int32) (hN : okMN S) : CI l D k yX7_firsts cX7_firsts 2 (some .int) 3 0 0 [.ref (q 30), .int wh] (wM k q S X) (fun r w' => w' = wM k q ((m_firsts S wh).2) X ∧ r = (m_firsts S wh).1) := by
  refine CI.mk (by decide) (Nat.le_of_ble_eq_true rfl) ?_
  intro p e R s m args below meth c A Q ls F hret hw hl
  have hx := xs_hx F
  have hb := xs_hb F
  have hl : lv_has ls 2 [(0, .ref (q 30)), (1, .int wh)] := hl
  refine lv_iload_n hx hb dX7_firsts_0 rfl (lv_at hl 1 rfl) ?_
  refine lv_iconst (v := nI 0) hx hb dX7_firsts_1 rfl ?_
  refine lv_iconst (v := nI 1) hx hb dX7_firsts_2 rfl ?_
  refine x_fSI (rest := []) (c_X7_in l D k (wM k q S X) wh (nI 0) (nI 1)) mo_X7_69 F hw (Nat.le_of_ble_eq_true rfl) (x_cs F (Nat.le_of_ble_eq_true rfl) (Nat.le_of_ble_eq_true rfl)) rfl rfl hl.1 (Nat.le_of_ble_eq_true rfl) dX7_firsts_3 (fun H locs hw => ?_)
  refine lv_if_ne (tgt := 14) hx hb dX7_firsts_6 rfl (fun c6 => ?_) (fun c6 => ?_)
  · refine lv_iload_n hx hb dX7_firsts_14 rfl (lv_at hl 1 rfl) ?_
    refine lv_if_ne (tgt := 25) hx hb dX7_firsts_15 rfl (fun c15 => ?_) (fun c15 => ?_)
    · refine lv_aload_n hx hb dX7_firsts_25 rfl (lv_at hl 0 rfl) ?_
      refine x_fVI (rest := []) (c_X7_sickSet l D k q S X (by first | assumption | omega)) mo_X7_162 obM F hw (Nat.le_of_ble_eq_true rfl) (x_cs F (Nat.le_of_ble_eq_true rfl) (Nat.le_of_ble_eq_true rfl)) rfl rfl hl.1 (Nat.le_of_ble_eq_true rfl) dX7_firsts_26 (fun H locs hw => ?_)
      have e9 : m_firsts S wh = (msck S, S) := by unfold m_firsts; rw [if_neg c6, if_neg c15]
      exact hret _ _ _ _ _ _ dX7_firsts_29 hw rfl ⟨by rw [e9] <;> rfl, by rw [e9] <;> rfl⟩
    · refine lv_aload_n hx hb dX7_firsts_18 rfl (lv_at hl 0 rfl) ?_
      refine x_fVI (rest := []) (c_X7_firstSet l D k q S X (by first | assumption | omega)) mo_X7_165 obM F hw (Nat.le_of_ble_eq_true rfl) (x_cs F (Nat.le_of_ble_eq_true rfl) (Nat.le_of_ble_eq_true rfl)) rfl rfl hl.1 (Nat.le_of_ble_eq_true rfl) dX7_firsts_19 (fun H locs hw => ?_)
      refine lv_goto (tgt := 29) hx hb dX7_firsts_22 rfl ?_
      have e9 : m_firsts S wh = (fsF S (mmnN S), S) := by unfold m_firsts; rw [if_neg c6, if_pos c15]
      exact hret _ _ _ _ _ _ dX7_firsts_29 hw rfl ⟨by rw [e9] <;> rfl, by rw [e9] <;> rfl⟩
  · refine lv_bipush (v := (-2)) hx hb dX7_firsts_9 rfl ?_
    refine lv_goto (tgt := 29) hx hb dX7_firsts_11 rfl ?_
    have e9 : m_firsts S wh = ((-2), S) := by unfold m_firsts; rw [if_pos c6]
    exact hret _ _ _ _ _ _ dX7_firsts_29 hw rfl ⟨by rw [e9] <;> rfl, by rw [e9] <;> rfl⟩
def m_told (S : St) (wh : Int32) : Int32 × St := if wh = 0 then (S 0 0, S) else if wh = (nI 1) then (S 6 0, S) else if wh = (nI 2) then (nI (((if rulN S = 0 then 0 else 1) + cntB (fun j => S 9 j == nI 59) (rulN S))), S) else if wh = (nI 3) then (S 13 0, S) else if wh = (nI 4) then (S 15 0, S) else if (f_in wh (nI 5) (nI 8)) = 0 then ((-2), S) else (S 5 (clN wh - 5), S)
set_option maxHeartbeats 4000000 in
set_option maxRecDepth 20000 in
theorem c_X7_told (l : Launch) (D : va_G) (k : Nat → ClassId) (q : Nat → Nat) (S : St) (X : va_W) (wh : Int32) (hL : okML S) : CI l D k yX7_told cX7_told 2 (some .int) 1 0 0 [.ref (q 30), .int wh] (wM k q S X) (fun r w' => w' = wM k q ((m_told S wh).2) X ∧ r = (m_told S wh).1) := by
  refine CI.mk (by decide) (Nat.le_of_ble_eq_true rfl) ?_
  intro p e R s m args below meth c A Q ls F hret hw hl
  have hx := xs_hx F
  have hb := xs_hb F
  have hl : lv_has ls 2 [(0, .ref (q 30)), (1, .int wh)] := hl
  refine lv_iload_n hx hb dX7_told_0 rfl (lv_at hl 1 rfl) ?_
  refine lv_if_ne (tgt := 11) hx hb dX7_told_1 rfl (fun c1 => ?_) (fun c1 => ?_)
  · refine lv_iload_n hx hb dX7_told_11 rfl (lv_at hl 1 rfl) ?_
    refine lv_iconst (v := nI 1) hx hb dX7_told_12 rfl ?_
    refine lv_icmp_ne (tgt := 23) hx hb dX7_told_13 rfl (fun c13 => ?_) (fun c13 => ?_)
    · refine lv_iload_n hx hb dX7_told_23 rfl (lv_at hl 1 rfl) ?_
      refine lv_iconst (v := nI 2) hx hb dX7_told_24 rfl ?_
      refine lv_icmp_ne (tgt := 35) hx hb dX7_told_25 rfl (fun c25 => ?_) (fun c25 => ?_)
      · refine lv_iload_n hx hb dX7_told_35 rfl (lv_at hl 1 rfl) ?_
        refine lv_iconst (v := nI 3) hx hb dX7_told_36 rfl ?_
        refine lv_icmp_ne (tgt := 47) hx hb dX7_told_37 rfl (fun c37 => ?_) (fun c37 => ?_)
        · refine lv_iload_n hx hb dX7_told_47 rfl (lv_at hl 1 rfl) ?_
          refine lv_iconst (v := nI 4) hx hb dX7_told_48 rfl ?_
          refine lv_icmp_ne (tgt := 59) hx hb dX7_told_49 rfl (fun c49 => ?_) (fun c49 => ?_)
          · refine lv_iload_n hx hb dX7_told_59 rfl (lv_at hl 1 rfl) ?_
            refine lv_iconst (v := nI 5) hx hb dX7_told_60 rfl ?_
            refine lv_bipush (v := nI 8) hx hb dX7_told_61 rfl ?_
            refine x_fSI (rest := []) (c_X7_in l D k (wM k q S X) wh (nI 5) (nI 8)) mo_X7_69 F hw (Nat.le_of_ble_eq_true rfl) (x_cs F (Nat.le_of_ble_eq_true rfl) (Nat.le_of_ble_eq_true rfl)) rfl rfl hl.1 (Nat.le_of_ble_eq_true rfl) dX7_told_63 (fun H locs hw => ?_)
            refine lv_if_eq (tgt := 80) hx hb dX7_told_66 rfl (fun c66 => ?_) (fun c66 => ?_)
            · refine lv_bipush (v := (-2)) hx hb dX7_told_80 rfl ?_
              have e9 : m_told S wh = ((-2), S) := by unfold m_told; rw [if_neg c1, if_neg c13, if_neg c25, if_neg c37, if_neg c49, if_pos c66]
              exact hret _ _ _ _ _ _ dX7_told_82 hw rfl ⟨by rw [e9] <;> rfl, by rw [e9] <;> rfl⟩
            · have hwh := f_in_t2 (by decide) (by decide) c66
              have hwh2 := hwh.2
              refine lv_aload_n hx hb dX7_told_69 rfl (lv_at hl 0 rfl) ?_
              refine x_getr frM_5 F hw fo_X7_22 dX7_told_70 ?_
              refine lv_iload_n hx hb dX7_told_73 rfl (lv_at hl 1 rfl) ?_
              refine x_top (y := nI (clN wh)) hwh.1 ?_
              refine lv_iconst (v := nI 5) hx hb dX7_told_74 rfl ?_
              refine lv_isub hx hb dX7_told_75 ?_
              refine x_top (y := nI (clN wh - 5)) (pk_sub (by omega)) ?_
              refine x_iald aiM_5 F hw (clN wh - 5) rfl (by omega) dX7_told_76 ?_
              refine lv_goto (tgt := 82) hx hb dX7_told_77 rfl ?_
              have e9 : m_told S wh = (S 5 (clN wh - 5), S) := by unfold m_told; rw [if_neg c1, if_neg c13, if_neg c25, if_neg c37, if_neg c49, if_neg c66]
              exact hret _ _ _ _ _ _ dX7_told_82 hw rfl ⟨by rw [e9] <;> rfl, by rw [e9] <;> rfl⟩
          · refine lv_aload_n hx hb dX7_told_52 rfl (lv_at hl 0 rfl) ?_
            refine x_geti fiM_15 F hw fo_X7_156 dX7_told_53 ?_
            refine lv_goto (tgt := 82) hx hb dX7_told_56 rfl ?_
            have e9 : m_told S wh = (S 15 0, S) := by unfold m_told; rw [if_neg c1, if_neg c13, if_neg c25, if_neg c37, if_pos c49]
            exact hret _ _ _ _ _ _ dX7_told_82 hw rfl ⟨by rw [e9] <;> rfl, by rw [e9] <;> rfl⟩
        · refine lv_aload_n hx hb dX7_told_40 rfl (lv_at hl 0 rfl) ?_
          refine x_geti fiM_13 F hw fo_X7_150 dX7_told_41 ?_
          refine lv_goto (tgt := 82) hx hb dX7_told_44 rfl ?_
          have e9 : m_told S wh = (S 13 0, S) := by unfold m_told; rw [if_neg c1, if_neg c13, if_neg c25, if_pos c37]
          exact hret _ _ _ _ _ _ dX7_told_82 hw rfl ⟨by rw [e9] <;> rfl, by rw [e9] <;> rfl⟩
      · refine lv_aload_n hx hb dX7_told_28 rfl (lv_at hl 0 rfl) ?_
        refine x_fVI (rest := []) (c_X7_lines l D k q S X (by first | assumption | omega)) mo_X7_98 obM F hw (Nat.le_of_ble_eq_true rfl) (x_cs F (Nat.le_of_ble_eq_true rfl) (Nat.le_of_ble_eq_true rfl)) rfl rfl hl.1 (Nat.le_of_ble_eq_true rfl) dX7_told_29 (fun H locs hw => ?_)
        refine lv_goto (tgt := 82) hx hb dX7_told_32 rfl ?_
        have e9 : m_told S wh = (nI (((if rulN S = 0 then 0 else 1) + cntB (fun j => S 9 j == nI 59) (rulN S))), S) := by unfold m_told; rw [if_neg c1, if_neg c13, if_pos c25]
        exact hret _ _ _ _ _ _ dX7_told_82 hw rfl ⟨by rw [e9] <;> rfl, by rw [e9] <;> rfl⟩
    · refine lv_aload_n hx hb dX7_told_16 rfl (lv_at hl 0 rfl) ?_
      refine x_geti fiM_6 F hw fo_X7_88 dX7_told_17 ?_
      refine lv_goto (tgt := 82) hx hb dX7_told_20 rfl ?_
      have e9 : m_told S wh = (S 6 0, S) := by unfold m_told; rw [if_neg c1, if_pos c13]
      exact hret _ _ _ _ _ _ dX7_told_82 hw rfl ⟨by rw [e9] <;> rfl, by rw [e9] <;> rfl⟩
  · refine lv_aload_n hx hb dX7_told_4 rfl (lv_at hl 0 rfl) ?_
    refine x_geti fiM_0 F hw fo_X7_65 dX7_told_5 ?_
    refine lv_goto (tgt := 82) hx hb dX7_told_8 rfl ?_
    have e9 : m_told S wh = (S 0 0, S) := by unfold m_told; rw [if_pos c1]
    exact hret _ _ _ _ _ _ dX7_told_82 hw rfl ⟨by rw [e9] <;> rfl, by rw [e9] <;> rfl⟩
set_option maxHeartbeats 4000000 in
set_option maxRecDepth 20000 in
theorem c_X7_law (l : Launch) (D : va_G) (k : Nat → ClassId) (q : Nat → Nat) (S : St) (X : va_W) (hT : okMT S) : CI l D k yX7_law cX7_law 2 (some .int) 2 0 0 [.ref (q 30)] (wM k q S X) (fun r w' => w' = wM k q ((m_law S).2) X ∧ r = (m_law S).1) := by
  refine CI.mk (by decide) (Nat.le_of_ble_eq_true rfl) ?_
  intro p e R s m args below meth c A Q ls F hret hw hl
  have hx := xs_hx F
  have hb := xs_hb F
  have hl : lv_has ls 2 [(0, .ref (q 30))] := hl
  have h50 := hT.2
  refine lv_aload_n hx hb dX7_law_0 rfl (lv_at hl 0 rfl) ?_
  refine x_fVI (rest := []) (c_X7_faultOf l D k q S X (by first | assumption | omega)) mo_X7_91 obM F hw (Nat.le_of_ble_eq_true rfl) (x_cs F (Nat.le_of_ble_eq_true rfl) (Nat.le_of_ble_eq_true rfl)) rfl rfl hl.1 (Nat.le_of_ble_eq_true rfl) dX7_law_1 (fun H locs hw => ?_)
  refine lv_if_lt (tgt := 10) hx hb dX7_law_4 rfl (fun c4 => ?_) (fun c4 => ?_)
  · refine lv_aload_n hx hb dX7_law_10 rfl (lv_at hl 0 rfl) ?_
    refine lv_aload_n hx hb dX7_law_11 rfl (lv_at hl 0 rfl) ?_
    refine x_geti fiM_6 F hw fo_X7_88 dX7_law_12 ?_
    refine x_top (y := nI (msgN S)) hT.1 ?_
    refine x_puti fiM_8 F hw fo_X7_95 rfl rfl dX7_law_15 (fun H locs hw => ?_)
    refine lv_iconst (v := nI 0) hx hb dX7_law_18 rfl ?_
    refine lv_istore_n (lv' := [(1, .int (nI 0)), (0, .ref (q 30))]) hx hb dX7_law_19 rfl hl (Nat.le_of_ble_eq_true rfl) rfl (fun ls hl => ?_)
    have K20 : ∀ (n20_ : Nat) (i : Nat) (f : Nat → Int32) (H : Heap) (locs : List Loc) (ls : Array Slot), msgN S - i < n20_ → (i ≤ msgN S) → (f = fun j => if j < i then S 7 j else S 9 j) → Wd D A s.heap H locs (wM k q (va_up (va_up S 8 (fun _ => nI (msgN S))) 9 f) X) → lv_has ls 2 [(0, .ref (q 30)), (1, .int (nI i))] → W p l e R s m args below meth c H locs 0 0 Q (F0 m 20 ls []) := by
      intro n20_
      induction n20_ with
      | zero =>
        intro i f H locs ls hn20_
        exact absurd hn20_ (Nat.not_lt_zero _)
      | succ n20_ ih20_ =>
        intro i f H locs ls hn20_ hi h1 hw hl
        refine lv_iload_n hx hb dX7_law_20 rfl (lv_at hl 1 rfl) ?_
        refine lv_aload_n hx hb dX7_law_21 rfl (lv_at hl 0 rfl) ?_
        refine x_geti fiM_6 F hw fo_X7_88 dX7_law_22 ?_
        refine x_top (y := S 6 0) rfl ?_
        refine x_top (y := nI (msgN S)) hT.1 ?_
        refine x_icmp_ge i (msgN S) F (by omega) (by omega) (tgt := 46) dX7_law_25 rfl (fun c25 => ?_) (fun c25 => ?_)
        · refine lv_aload_n hx hb dX7_law_46 rfl (lv_at hl 0 rfl) ?_
          refine lv_iconst (v := nI 0) hx hb dX7_law_47 rfl ?_
          refine x_puti fiM_6 F hw fo_X7_88 rfl rfl dX7_law_48 (fun H locs hw => ?_)
          refine lv_aload_n hx hb dX7_law_51 rfl (lv_at hl 0 rfl) ?_
          refine lv_iconst (v := nI 0) hx hb dX7_law_52 rfl ?_
          refine x_puti fiM_18 F hw fo_X7_81 rfl rfl dX7_law_53 (fun H locs hw => ?_)
          refine lv_aload_n hx hb dX7_law_56 rfl (lv_at hl 0 rfl) ?_
          refine x_fVI (rest := []) (c_X7_lines l D k q (va_up (va_up (va_up (va_up S 8 (fun _ => nI (msgN S))) 9 f) 6 (fun _ => nI 0)) 18 (fun _ => nI 0)) X (by exact ⟨(congrArg nI (nI_clamp (show msgN S < 2 ^ 31 by omega))).symm, Nat.le_trans (Nat.le_of_eq (nI_clamp (show msgN S < 2 ^ 31 by omega))) h50⟩)) mo_X7_98 obM F hw (Nat.le_of_ble_eq_true rfl) (x_cs F (Nat.le_of_ble_eq_true rfl) (Nat.le_of_ble_eq_true rfl)) rfl rfl hl.1 (Nat.le_of_ble_eq_true rfl) dX7_law_57 (fun H locs hw => ?_)
          exact hret _ _ _ _ _ _ dX7_law_60 hw rfl ⟨by unfold m_law; rw [if_pos c4, h1, show i = msgN S by omega]; rfl, by unfold m_law; rw [if_pos c4, h1, show i = msgN S by omega]; rfl⟩
        · refine lv_aload_n hx hb dX7_law_28 rfl (lv_at hl 0 rfl) ?_
          refine x_getr frM_9 F hw fo_X7_28 dX7_law_29 ?_
          refine lv_iload_n hx hb dX7_law_32 rfl (lv_at hl 1 rfl) ?_
          refine lv_aload_n hx hb dX7_law_33 rfl (lv_at hl 0 rfl) ?_
          refine x_getr frM_7 F hw fo_X7_25 dX7_law_34 ?_
          refine lv_iload_n hx hb dX7_law_37 rfl (lv_at hl 1 rfl) ?_
          refine x_iald aiM_7 F hw i rfl (by omega) dX7_law_38 ?_
          refine x_top (y := S 7 i) rfl ?_
          refine x_iast aiM_9 F hw i rfl (by omega) dX7_law_39 (fun H locs hw => ?_)
          refine lv_iinc (v := nI (i + 1)) (lv' := [(1, .int (nI (i + 1))), (0, .ref (q 30))]) hx hb dX7_law_40 hl (k := 1) rfl (nI_1 _) (Nat.le_of_ble_eq_true rfl) rfl (fun ls hl => ?_)
          refine lv_goto (tgt := 20) hx hb dX7_law_43 rfl ?_
          exact ih20_ (i + 1) (upd f i (S 7 i)) _ _ _ (by first | omega | (simp only [] at *; omega)) (by first | assumption | omega | rfl) (by rw [h1]; exact upd_lt rfl) hw (lv_sub hl [1, 0] rfl)
    exact K20 _ 0 (S 9) _ _ _ (Nat.lt_succ_self _) (by first | assumption | omega | rfl) (by funext j; simp) hw (lv_sub hl [1, 0] rfl)
  · refine lv_bipush (v := (-5)) hx hb dX7_law_7 rfl ?_
    exact hret _ _ _ _ _ _ dX7_law_9 hw rfl ⟨by unfold m_law; rw [if_neg c4], by unfold m_law; rw [if_neg c4]⟩
def m_under (S : St) (dr : Int32) : Int32 := if isDr dr = 0 then (-2) else orB (fun p => undB dr (hidF (S 11) (S 12) dr 8) (S 1 p)) (mpcN S)
theorem bO0 {a b : Bool} (h : a = true) : (a || b) = true := by rw [h]; rfl
theorem bO1 {a b : Bool} (h : b = true) : (a || b) = true := by rw [h]; cases a <;> rfl
theorem bOf {a b : Bool} (h : a = false) (h2 : b = false) : (a || b) = false := by rw [h, h2]; rfl
set_option maxHeartbeats 4000000 in
set_option maxRecDepth 20000 in
theorem c_X7_under (l : Launch) (D : va_G) (k : Nat → ClassId) (q : Nat → Nat) (S : St) (X : va_W) (dr : Int32) (hP : okMP S) : CI l D k yX7_under cX7_under 8 (some .int) 2 0 0 [.ref (q 30), .int dr] (wM k q S X) (fun r w' => w' = wM k q S X ∧ r = m_under S dr) := by
  refine CI.mk (by decide) (Nat.le_of_ble_eq_true rfl) ?_
  intro p e R s m args below meth c A Q ls F hret hw hl
  have hx := xs_hx F
  have hb := xs_hb F
  have hl : lv_has ls 8 [(0, .ref (q 30)), (1, .int dr)] := hl
  have h6 := hP.2
  refine lv_iload_n hx hb dX7_under_0 rfl (lv_at hl 1 rfl) ?_
  refine x_fSI (rest := []) (c_X7_isDrawing l D k (wM k q S X) dr) mo_X7_74 F hw (Nat.le_of_ble_eq_true rfl) (x_cs F (Nat.le_of_ble_eq_true rfl) (Nat.le_of_ble_eq_true rfl)) rfl rfl hl.1 (Nat.le_of_ble_eq_true rfl) dX7_under_1 (fun H locs hw => ?_)
  refine lv_if_ne (tgt := 10) hx hb dX7_under_4 rfl (fun c4 => ?_) (fun c4 => ?_)
  · refine lv_aload_n hx hb dX7_under_10 rfl (lv_at hl 0 rfl) ?_
    refine lv_iload_n hx hb dX7_under_11 rfl (lv_at hl 1 rfl) ?_
    refine x_fVI (rest := []) (c_X7_hidden l D k q S X dr) mo_X7_144 obM F hw (Nat.le_of_ble_eq_true rfl) (x_cs F (Nat.le_of_ble_eq_true rfl) (Nat.le_of_ble_eq_true rfl)) rfl rfl hl.1 (Nat.le_of_ble_eq_true rfl) dX7_under_12 (fun H locs hw => ?_)
    refine lv_istore_n (lv' := [(2, .int (hidF (S 11) (S 12) dr 8)), (0, .ref (q 30)), (1, .int dr)]) hx hb dX7_under_15 rfl hl (Nat.le_of_ble_eq_true rfl) rfl (fun ls hl => ?_)
    refine lv_iconst (v := nI 0) hx hb dX7_under_16 rfl ?_
    refine lv_istore_n (lv' := [(3, .int (nI 0)), (2, .int (hidF (S 11) (S 12) dr 8)), (0, .ref (q 30)), (1, .int dr)]) hx hb dX7_under_17 rfl hl (Nat.le_of_ble_eq_true rfl) rfl (fun ls hl => ?_)
    refine lv_iconst (v := nI 0) hx hb dX7_under_18 rfl ?_
    refine lv_istore (lv' := [(4, .int (nI 0)), (3, .int (nI 0)), (2, .int (hidF (S 11) (S 12) dr 8)), (0, .ref (q 30)), (1, .int dr)]) hx hb dX7_under_19 hl (Nat.le_of_ble_eq_true rfl) rfl (fun ls hl => ?_)
    have K21 : ∀ (n21_ : Nat) (i : Nat) (x : Int32) (H : Heap) (locs : List Loc) (ls : Array Slot), mpcN S - i < n21_ → (i ≤ mpcN S) → (x = orB (fun p => undB dr (hidF (S 11) (S 12) dr 8) (S 1 p)) i) → Wd D A s.heap H locs (wM k q S X) → lv_has ls 8 [(0, .ref (q 30)), (1, .int dr), (2, .int (hidF (S 11) (S 12) dr 8)), (3, .int x), (4, .int (nI i))] → W p l e R s m args below meth c H locs 0 0 Q (F0 m 21 ls []) := by
      intro n21_
      induction n21_ with
      | zero =>
        intro i x H locs ls hn21_
        exact absurd hn21_ (Nat.not_lt_zero _)
      | succ n21_ ih21_ =>
        intro i x H locs ls hn21_ hi h1 hw hl
        refine lv_iload hx hb dX7_under_21 (lv_at hl 4 rfl) ?_
        refine lv_aload_n hx hb dX7_under_23 rfl (lv_at hl 0 rfl) ?_
        refine x_geti fiM_0 F hw fo_X7_65 dX7_under_24 ?_
        refine x_top (y := nI (mpcN S)) hP.1 ?_
        refine x_icmp_ge i (mpcN S) F (by omega) (by omega) (tgt := 123) dX7_under_27 rfl (fun c27 => ?_) (fun c27 => ?_)
        · refine lv_iload_n hx hb dX7_under_123 rfl (lv_at hl 3 rfl) ?_
          exact hret _ _ _ _ _ _ dX7_under_124 hw rfl ⟨rfl, by unfold m_under; rw [if_neg c4, h1, show i = mpcN S by omega]⟩
        · refine lv_iconst (v := nI 1) hx hb dX7_under_30 rfl ?_
          refine lv_istore (lv' := [(5, .int (nI 1)), (0, .ref (q 30)), (1, .int dr), (2, .int (hidF (S 11) (S 12) dr 8)), (3, .int x), (4, .int (nI i))]) hx hb dX7_under_31 hl (Nat.le_of_ble_eq_true rfl) rfl (fun ls hl => ?_)
          refine lv_iconst (v := nI 0) hx hb dX7_under_33 rfl ?_
          refine lv_istore (lv' := [(6, .int (nI 0)), (5, .int (nI 1)), (0, .ref (q 30)), (1, .int dr), (2, .int (hidF (S 11) (S 12) dr 8)), (3, .int x), (4, .int (nI i))]) hx hb dX7_under_34 hl (Nat.le_of_ble_eq_true rfl) rfl (fun ls hl => ?_)
          have K36 : ∀ (n36_ : Nat) (j : Nat) (t : Bool) (H : Heap) (locs : List Loc) (ls : Array Slot), 8 - j < n36_ → (j ≤ 8) → (t = allB (fun j => stk (S 1 i) j == 0 || hbt (hidF (S 11) (S 12) dr 8) j || stk (S 1 i) j == stk dr j) j) → Wd D A s.heap H locs (wM k q S X) → lv_has ls 8 [(0, .ref (q 30)), (1, .int dr), (2, .int (hidF (S 11) (S 12) dr 8)), (3, .int x), (4, .int (nI i)), (5, .int (b01 t)), (6, .int (nI j))] → W p l e R s m args below meth c H locs 0 0 Q (F0 m 36 ls []) := by
            intro n36_
            induction n36_ with
            | zero =>
              intro j t H locs ls hn36_
              exact absurd hn36_ (Nat.not_lt_zero _)
            | succ n36_ ih36_ =>
              intro j t H locs ls hn36_ hj h2 hw hl
              refine lv_iload hx hb dX7_under_36 (lv_at hl 6 rfl) ?_
              refine lv_bipush (v := nI 8) hx hb dX7_under_38 rfl ?_
              refine x_icmp_ge j 8 F (by omega) (by omega) (tgt := 101) dX7_under_40 rfl (fun c40 => ?_) (fun c40 => ?_)
              · refine lv_iload_n hx hb dX7_under_101 rfl (lv_at hl 3 rfl) ?_
                refine lv_iload hx hb dX7_under_102 (lv_at hl 5 rfl) ?_
                refine lv_if_eq (tgt := 114) hx hb dX7_under_104 rfl (fun c104 => ?_) (fun c104 => ?_)
                · refine lv_iconst (v := nI 0) hx hb dX7_under_114 rfl ?_
                  refine lv_ior hx hb dX7_under_115 ?_
                  refine lv_istore_n (lv' := [(3, .int (x ||| (nI 0))), (0, .ref (q 30)), (1, .int dr), (2, .int (hidF (S 11) (S 12) dr 8)), (4, .int (nI i)), (5, .int (b01 t)), (6, .int (nI j))]) hx hb dX7_under_116 rfl hl (Nat.le_of_ble_eq_true rfl) rfl (fun ls hl => ?_)
                  refine lv_iinc (v := nI (i + 1)) (lv' := [(4, .int (nI (i + 1))), (3, .int (x ||| (nI 0))), (0, .ref (q 30)), (1, .int dr), (2, .int (hidF (S 11) (S 12) dr 8)), (5, .int (b01 t)), (6, .int (nI j))]) hx hb dX7_under_117 hl (k := 4) rfl (nI_1 _) (Nat.le_of_ble_eq_true rfl) rfl (fun ls hl => ?_)
                  refine lv_goto (tgt := 21) hx hb dX7_under_120 rfl ?_
                  exact ih21_ (i + 1) (x ||| (nI 0)) _ _ _ (by first | omega | (simp only [] at *; omega)) (by first | assumption | omega | rfl) (by rw [h1]; first | (rw [or_0]; refine (orB_n ?_).symm; show allB _ 8 = false; exact (congrArg (allB _) (show 8 = j by omega)).trans (h2.symm.trans (b01_0.mp c104))) | (refine (orB_y ?_).symm; show allB _ 8 = true; exact (congrArg (allB _) (show 8 = j by omega)).trans (h2.symm.trans (b01_1.mp c104)))) hw (lv_sub hl [2, 3, 4, 1, 0] rfl)
                · refine lv_iconst (v := nI 1) hx hb dX7_under_107 rfl ?_
                  refine lv_iload hx hb dX7_under_108 (lv_at hl 4 rfl) ?_
                  refine lv_ishl hx hb dX7_under_110 ?_
                  refine lv_goto (tgt := 115) hx hb dX7_under_111 rfl ?_
                  refine lv_ior hx hb dX7_under_115 ?_
                  refine lv_istore_n (lv' := [(3, .int (x ||| ((nI 1) <<< ((nI i) &&& 31)))), (0, .ref (q 30)), (1, .int dr), (2, .int (hidF (S 11) (S 12) dr 8)), (4, .int (nI i)), (5, .int (b01 t)), (6, .int (nI j))]) hx hb dX7_under_116 rfl hl (Nat.le_of_ble_eq_true rfl) rfl (fun ls hl => ?_)
                  refine lv_iinc (v := nI (i + 1)) (lv' := [(4, .int (nI (i + 1))), (3, .int (x ||| ((nI 1) <<< ((nI i) &&& 31)))), (0, .ref (q 30)), (1, .int dr), (2, .int (hidF (S 11) (S 12) dr 8)), (5, .int (b01 t)), (6, .int (nI j))]) hx hb dX7_under_117 hl (k := 4) rfl (nI_1 _) (Nat.le_of_ble_eq_true rfl) rfl (fun ls hl => ?_)
                  refine lv_goto (tgt := 21) hx hb dX7_under_120 rfl ?_
                  exact ih21_ (i + 1) (x ||| ((nI 1) <<< ((nI i) &&& 31))) _ _ _ (by first | omega | (simp only [] at *; omega)) (by first | assumption | omega | rfl) (by rw [h1]; first | (rw [or_0]; refine (orB_n ?_).symm; show allB _ 8 = false; exact (congrArg (allB _) (show 8 = j by omega)).trans (h2.symm.trans (b01_0.mp c104))) | (refine (orB_y ?_).symm; show allB _ 8 = true; exact (congrArg (allB _) (show 8 = j by omega)).trans (h2.symm.trans (b01_1.mp c104)))) hw (lv_sub hl [2, 3, 4, 1, 0] rfl)
              · refine lv_aload_n hx hb dX7_under_43 rfl (lv_at hl 0 rfl) ?_
                refine x_getr frM_1 F hw fo_X7_7 dX7_under_44 ?_
                refine lv_iload hx hb dX7_under_47 (lv_at hl 4 rfl) ?_
                refine x_iald aiM_1 F hw i rfl (by omega) dX7_under_49 ?_
                refine lv_iload hx hb dX7_under_50 (lv_at hl 6 rfl) ?_
                refine x_fSI (rest := []) (c_X7_strokeOf l D k (wM k q S X) (S 1 i) j (by first | assumption | omega)) mo_X7_104 F hw (Nat.le_of_ble_eq_true rfl) (x_cs F (Nat.le_of_ble_eq_true rfl) (Nat.le_of_ble_eq_true rfl)) rfl rfl hl.1 (Nat.le_of_ble_eq_true rfl) dX7_under_52 (fun H locs hw => ?_)
                have := stk_lt (S 1 i) j
                refine lv_istore (lv' := [(7, .int (nI ((stk (S 1 i) j)))), (0, .ref (q 30)), (1, .int dr), (2, .int (hidF (S 11) (S 12) dr 8)), (3, .int x), (4, .int (nI i)), (5, .int (b01 t)), (6, .int (nI j))]) hx hb dX7_under_55 hl (Nat.le_of_ble_eq_true rfl) rfl (fun ls hl => ?_)
                refine lv_iload hx hb dX7_under_57 (lv_at hl 6 rfl) ?_
                have K93 : ∀ (t2 : Bool) (H : Heap) (locs : List Loc) (ls : Array Slot), (t2 = allB (fun j => stk (S 1 i) j == 0 || hbt (hidF (S 11) (S 12) dr 8) j || stk (S 1 i) j == stk dr j) (j + 1)) → Wd D A s.heap H locs (wM k q S X) → lv_has ls 8 [(0, .ref (q 30)), (1, .int dr), (2, .int (hidF (S 11) (S 12) dr 8)), (3, .int x), (4, .int (nI i)), (5, .int (b01 t)), (6, .int (nI j)), (7, .int (nI ((stk (S 1 i) j))))] → W p l e R s m args below meth c H locs 0 0 Q (F0 m 93 ls [.int (b01 t2)]) := by
                  intro t2 H locs ls h93 hw hl
                  refine lv_istore (lv' := [(5, .int (b01 t2)), (0, .ref (q 30)), (1, .int dr), (2, .int (hidF (S 11) (S 12) dr 8)), (3, .int x), (4, .int (nI i)), (6, .int (nI j)), (7, .int (nI ((stk (S 1 i) j))))]) hx hb dX7_under_93 hl (Nat.le_of_ble_eq_true rfl) rfl (fun ls hl => ?_)
                  refine lv_iinc (v := nI (j + 1)) (lv' := [(6, .int (nI (j + 1))), (5, .int (b01 t2)), (0, .ref (q 30)), (1, .int dr), (2, .int (hidF (S 11) (S 12) dr 8)), (3, .int x), (4, .int (nI i)), (7, .int (nI ((stk (S 1 i) j))))]) hx hb dX7_under_95 hl (k := 6) rfl (nI_1 _) (Nat.le_of_ble_eq_true rfl) rfl (fun ls hl => ?_)
                  refine lv_goto (tgt := 36) hx hb dX7_under_98 rfl ?_
                  exact ih36_ (j + 1) t2 _ _ _ (by first | omega | (simp only [] at *; omega)) (by first | assumption | omega | rfl) (by exact h93) hw (lv_sub hl [2, 3, 4, 5, 6, 1, 0] rfl)
                refine lv_if_eq (tgt := 92) hx hb dX7_under_59 rfl (fun c59 => ?_) (fun c59 => ?_)
                · refine lv_iconst (v := nI 0) hx hb dX7_under_92 rfl ?_
                  exact K93 false _ _ _ (by show _ = (allB _ j && _); rw [← h2]; first | (rw [b01_0.mp c59]; rfl) | exact (bAt (b01_1.mp c59) (bO0 (bO0 (beqTn c64)))).symm | exact (bAt (b01_1.mp c59) (bO0 (bO1 (hbt_1 c74)))).symm | exact (bAt (b01_1.mp c59) (bO1 (beqTn c85))).symm | exact (bA1 (bOf (bOf (beqFn c64) (hbt_0 c74)) (beqFn c85))).symm) hw (lv_sub hl [1, 2, 3, 4, 5, 6, 7, 0] rfl)
                · refine lv_iload hx hb dX7_under_62 (lv_at hl 0 rfl) ?_
                  refine x_if_eq (stk (S 1 i) j) F (by omega) (tgt := 88) dX7_under_64 rfl (fun c64 => ?_) (fun c64 => ?_)
                  · refine lv_iconst (v := nI 1) hx hb dX7_under_88 rfl ?_
                    refine lv_goto (tgt := 93) hx hb dX7_under_89 rfl ?_
                    exact K93 true _ _ _ (by show _ = (allB _ j && _); rw [← h2]; first | (rw [b01_0.mp c59]; rfl) | exact (bAt (b01_1.mp c59) (bO0 (bO0 (beqTn c64)))).symm | exact (bAt (b01_1.mp c59) (bO0 (bO1 (hbt_1 c74)))).symm | exact (bAt (b01_1.mp c59) (bO1 (beqTn c85))).symm | exact (bA1 (bOf (bOf (beqFn c64) (hbt_0 c74)) (beqFn c85))).symm) hw (lv_sub hl [1, 2, 3, 4, 5, 6, 7, 0] rfl)
                  · refine lv_iload_n hx hb dX7_under_67 rfl (lv_at hl 3 rfl) ?_
                    refine lv_iload hx hb dX7_under_68 (lv_at hl 7 rfl) ?_
                    refine lv_ishr hx hb dX7_under_70 ?_
                    refine lv_iconst (v := nI 1) hx hb dX7_under_71 rfl ?_
                    refine lv_iand hx hb dX7_under_72 ?_
                    refine lv_iconst (v := nI 1) hx hb dX7_under_73 rfl ?_
                    refine lv_icmp_eq (tgt := 88) hx hb dX7_under_74 rfl (fun c74 => ?_) (fun c74 => ?_)
                    · refine lv_iconst (v := nI 1) hx hb dX7_under_88 rfl ?_
                      refine lv_goto (tgt := 93) hx hb dX7_under_89 rfl ?_
                      exact K93 true _ _ _ (by show _ = (allB _ j && _); rw [← h2]; first | (rw [b01_0.mp c59]; rfl) | exact (bAt (b01_1.mp c59) (bO0 (bO0 (beqTn c64)))).symm | exact (bAt (b01_1.mp c59) (bO0 (bO1 (hbt_1 c74)))).symm | exact (bAt (b01_1.mp c59) (bO1 (beqTn c85))).symm | exact (bA1 (bOf (bOf (beqFn c64) (hbt_0 c74)) (beqFn c85))).symm) hw (lv_sub hl [1, 2, 3, 4, 5, 6, 7, 0] rfl)
                    · refine lv_iload hx hb dX7_under_77 (lv_at hl 0 rfl) ?_
                      refine lv_iload_n hx hb dX7_under_79 rfl (lv_at hl 2 rfl) ?_
                      refine lv_iload hx hb dX7_under_80 (lv_at hl 7 rfl) ?_
                      refine x_fSI (rest := [.int (nI ((stk (S 1 i) j)))]) (c_X7_strokeOf l D k (wM k q S X) dr j (by first | assumption | omega)) mo_X7_104 F hw (Nat.le_of_ble_eq_true rfl) (x_cs F (Nat.le_of_ble_eq_true rfl) (Nat.le_of_ble_eq_true rfl)) rfl rfl hl.1 (Nat.le_of_ble_eq_true rfl) dX7_under_82 (fun H locs hw => ?_)
                      have := stk_lt dr j
                      refine x_icmp_ne (stk (S 1 i) j) (stk dr j) F (by omega) (by omega) (tgt := 92) dX7_under_85 rfl (fun c85 => ?_) (fun c85 => ?_)
                      · refine lv_iconst (v := nI 0) hx hb dX7_under_92 rfl ?_
                        exact K93 false _ _ _ (by show _ = (allB _ j && _); rw [← h2]; first | (rw [b01_0.mp c59]; rfl) | exact (bAt (b01_1.mp c59) (bO0 (bO0 (beqTn c64)))).symm | exact (bAt (b01_1.mp c59) (bO0 (bO1 (hbt_1 c74)))).symm | exact (bAt (b01_1.mp c59) (bO1 (beqTn c85))).symm | exact (bA1 (bOf (bOf (beqFn c64) (hbt_0 c74)) (beqFn c85))).symm) hw (lv_sub hl [1, 2, 3, 4, 5, 6, 7, 0] rfl)
                      · refine lv_iconst (v := nI 1) hx hb dX7_under_88 rfl ?_
                        refine lv_goto (tgt := 93) hx hb dX7_under_89 rfl ?_
                        exact K93 true _ _ _ (by show _ = (allB _ j && _); rw [← h2]; first | (rw [b01_0.mp c59]; rfl) | exact (bAt (b01_1.mp c59) (bO0 (bO0 (beqTn c64)))).symm | exact (bAt (b01_1.mp c59) (bO0 (bO1 (hbt_1 c74)))).symm | exact (bAt (b01_1.mp c59) (bO1 (beqTn c85))).symm | exact (bA1 (bOf (bOf (beqFn c64) (hbt_0 c74)) (beqFn c85))).symm) hw (lv_sub hl [1, 2, 3, 4, 5, 6, 7, 0] rfl)
          exact K36 _ 0 true _ _ _ (Nat.lt_succ_self _) (by first | assumption | omega | rfl) (by rfl) hw (lv_sub hl [2, 3, 4, 5, 6, 1, 0] rfl)
    exact K21 _ 0 (nI 0) _ _ _ (Nat.lt_succ_self _) (by first | assumption | omega | rfl) (by rfl) hw (lv_sub hl [3, 4, 2, 1, 0] rfl)
  · refine lv_bipush (v := (-2)) hx hb dX7_under_7 rfl ?_
    exact hret _ _ _ _ _ _ dX7_under_9 hw rfl ⟨rfl, by unfold m_under; rw [if_pos c4]⟩
def m_must (S : St) (mn wh : Int32) : Int32 := if haMM S mn = 0 then (-1) else if f_in wh (nI 0) (nI 1) = 0 then (-2) else if wh = 0 then (if mspF S (clN mn) (nI 0) = 0 then nI 0 else orB (fun j => mspF S (clN mn) (nI 1 <<< (nI j &&& 31)) == 0) (mmnN S)) else nI (mspF S (clN mn) (nI 0))
theorem nI_le00 {n : Nat} (h : n < 2 ^ 31) (q : ¬ nI n ≤ 0) : ¬ n = 0 := fun e => q (by rw [e]; decide)
set_option maxHeartbeats 4000000 in
set_option maxRecDepth 20000 in
theorem c_X7_must (l : Launch) (D : va_G) (k : Nat → ClassId) (q : Nat → Nat) (S : St) (X : va_W) (mn : Int32) (wh : Int32) (hN : okMN S) : CI l D k yX7_must cX7_must 6 (some .int) 4 0 0 [.ref (q 30), .int mn, .int wh] (wM k q S X) (fun r w' => w' = wM k q S X ∧ r = m_must S mn wh) := by
  refine CI.mk (by decide) (Nat.le_of_ble_eq_true rfl) ?_
  intro p e R s m args below meth c A Q ls F hret hw hl
  have hx := xs_hx F
  have hb := xs_hb F
  have hl : lv_has ls 6 [(0, .ref (q 30)), (1, .int mn), (2, .int wh)] := hl
  have h8 := hN.1.2
  have h16 := hN.2.1.2
  refine lv_aload_n hx hb dX7_must_0 rfl (lv_at hl 0 rfl) ?_
  refine lv_iload_n hx hb dX7_must_1 rfl (lv_at hl 1 rfl) ?_
  refine x_fVI (rest := []) (c_X7_isMan l D k q S X mn (by first | assumption | omega)) mo_X7_153 obM F hw (Nat.le_of_ble_eq_true rfl) (x_cs F (Nat.le_of_ble_eq_true rfl) (Nat.le_of_ble_eq_true rfl)) rfl rfl hl.1 (Nat.le_of_ble_eq_true rfl) dX7_must_2 (fun H locs hw => ?_)
  refine lv_if_ne (tgt := 10) hx hb dX7_must_5 rfl (fun c5 => ?_) (fun c5 => ?_)
  · have hmn := haMM_t hN c5
    have hmn2 := hmn.2
    refine lv_iload_n hx hb dX7_must_10 rfl (lv_at hl 2 rfl) ?_
    refine lv_iconst (v := nI 0) hx hb dX7_must_11 rfl ?_
    refine lv_iconst (v := nI 1) hx hb dX7_must_12 rfl ?_
    refine x_fSI (rest := []) (c_X7_in l D k (wM k q S X) wh (nI 0) (nI 1)) mo_X7_69 F hw (Nat.le_of_ble_eq_true rfl) (x_cs F (Nat.le_of_ble_eq_true rfl) (Nat.le_of_ble_eq_true rfl)) rfl rfl hl.1 (Nat.le_of_ble_eq_true rfl) dX7_must_13 (fun H locs hw => ?_)
    refine lv_if_ne (tgt := 22) hx hb dX7_must_16 rfl (fun c16 => ?_) (fun c16 => ?_)
    · refine lv_aload_n hx hb dX7_must_22 rfl (lv_at hl 0 rfl) ?_
      refine lv_iload_n hx hb dX7_must_23 rfl (lv_at hl 1 rfl) ?_
      refine x_top (y := nI (clN mn)) hmn.1 ?_
      refine lv_iconst (v := nI 0) hx hb dX7_must_24 rfl ?_
      refine x_fVI (rest := []) (c_X7_pathTo l D k q S X (clN mn) (nI 0) (by first | assumption | omega)) mo_X7_168 obM F hw (Nat.le_of_ble_eq_true rfl) (x_cs F (Nat.le_of_ble_eq_true rfl) (Nat.le_of_ble_eq_true rfl)) rfl rfl hl.1 (Nat.le_of_ble_eq_true rfl) dX7_must_25 (fun H locs hw => ?_)
      have hs0 : mspF S (clN mn) (nI 0) ≤ mmnN S := fstF_le _ _
      refine lv_istore_n (lv' := [(3, .int (nI ((mspF S (clN mn) (nI 0))))), (0, .ref (q 30)), (1, .int mn), (2, .int wh)]) hx hb dX7_must_28 rfl hl (Nat.le_of_ble_eq_true rfl) rfl (fun ls hl => ?_)
      refine lv_iconst (v := nI 0) hx hb dX7_must_29 rfl ?_
      refine lv_istore (lv' := [(4, .int (nI 0)), (3, .int (nI ((mspF S (clN mn) (nI 0))))), (0, .ref (q 30)), (1, .int mn), (2, .int wh)]) hx hb dX7_must_30 hl (Nat.le_of_ble_eq_true rfl) rfl (fun ls hl => ?_)
      refine lv_iconst (v := nI 0) hx hb dX7_must_32 rfl ?_
      refine lv_istore (lv' := [(5, .int (nI 0)), (4, .int (nI 0)), (3, .int (nI ((mspF S (clN mn) (nI 0))))), (0, .ref (q 30)), (1, .int mn), (2, .int wh)]) hx hb dX7_must_33 hl (Nat.le_of_ble_eq_true rfl) rfl (fun ls hl => ?_)
      have K35 : ∀ (n35_ : Nat) (i : Nat) (x : Int32) (H : Heap) (locs : List Loc) (ls : Array Slot), mmnN S - i < n35_ → (i ≤ mmnN S) → (i = 0 ∨ ¬ mspF S (clN mn) (nI 0) = 0) → (x = orB (fun j => mspF S (clN mn) (nI 1 <<< (nI j &&& 31)) == 0) i) → Wd D A s.heap H locs (wM k q S X) → lv_has ls 6 [(0, .ref (q 30)), (1, .int mn), (2, .int wh), (3, .int (nI ((mspF S (clN mn) (nI 0))))), (4, .int x), (5, .int (nI i))] → W p l e R s m args below meth c H locs 0 0 Q (F0 m 35 ls []) := by
        intro n35_
        induction n35_ with
        | zero =>
          intro i x H locs ls hn35_
          exact absurd hn35_ (Nat.not_lt_zero _)
        | succ n35_ ih35_ =>
          intro i x H locs ls hn35_ hi hs h1 hw hl
          refine lv_iload hx hb dX7_must_35 (lv_at hl 5 rfl) ?_
          refine lv_aload_n hx hb dX7_must_37 rfl (lv_at hl 0 rfl) ?_
          refine x_geti fiM_13 F hw fo_X7_150 dX7_must_38 ?_
          refine x_top (y := nI (mmnN S)) hN.1.1 ?_
          have K79 : ∀ (H : Heap) (locs : List Loc) (ls : Array Slot), (x = (if mspF S (clN mn) (nI 0) = 0 then nI 0 else orB (fun j => mspF S (clN mn) (nI 1 <<< (nI j &&& 31)) == 0) (mmnN S))) → Wd D A s.heap H locs (wM k q S X) → lv_has ls 6 [(0, .ref (q 30)), (1, .int mn), (2, .int wh), (3, .int (nI ((mspF S (clN mn) (nI 0))))), (4, .int x), (5, .int (nI i))] → W p l e R s m args below meth c H locs 0 0 Q (F0 m 79 ls []) := by
            intro H locs ls h79 hw hl
            refine lv_iload_n hx hb dX7_must_79 rfl (lv_at hl 2 rfl) ?_
            refine lv_if_ne (tgt := 88) hx hb dX7_must_80 rfl (fun c80 => ?_) (fun c80 => ?_)
            · refine lv_iload_n hx hb dX7_must_88 rfl (lv_at hl 3 rfl) ?_
              exact hret _ _ _ _ _ _ dX7_must_89 hw rfl ⟨rfl, by unfold m_must; rw [if_neg c5, if_neg c16]; first | (rw [if_pos c80]; exact h79) | (rw [if_neg c80])⟩
            · refine lv_iload hx hb dX7_must_83 (lv_at hl 4 rfl) ?_
              refine lv_goto (tgt := 89) hx hb dX7_must_85 rfl ?_
              exact hret _ _ _ _ _ _ dX7_must_89 hw rfl ⟨rfl, by unfold m_must; rw [if_neg c5, if_neg c16]; first | (rw [if_pos c80]; exact h79) | (rw [if_neg c80])⟩
          refine x_icmp_ge i (mmnN S) F (by omega) (by omega) (tgt := 79) dX7_must_41 rfl (fun c41 => ?_) (fun c41 => ?_)
          · exact K79 _ _ _ (by first | (have q0 := nI_le0 (by omega) c45; rw [if_pos q0, h1, show i = 0 from hs.resolve_right (fun q => q q0)]; rfl) | (by_cases q0 : mspF S (clN mn) (nI 0) = 0; (rw [if_pos q0, h1, show i = 0 from hs.resolve_right (fun q => q q0)]; rfl); (rw [if_neg q0, h1, show i = mmnN S by omega]))) hw (lv_sub hl [0, 1, 2, 3, 4, 5] rfl)
          · refine lv_iload_n hx hb dX7_must_44 rfl (lv_at hl 3 rfl) ?_
            refine lv_if_le (tgt := 79) hx hb dX7_must_45 rfl (fun c45 => ?_) (fun c45 => ?_)
            · exact K79 _ _ _ (by first | (have q0 := nI_le0 (by omega) c45; rw [if_pos q0, h1, show i = 0 from hs.resolve_right (fun q => q q0)]; rfl) | (by_cases q0 : mspF S (clN mn) (nI 0) = 0; (rw [if_pos q0, h1, show i = 0 from hs.resolve_right (fun q => q q0)]; rfl); (rw [if_neg q0, h1, show i = mmnN S by omega]))) hw (lv_sub hl [0, 1, 2, 3, 4, 5] rfl)
            · refine lv_iload hx hb dX7_must_48 (lv_at hl 4 rfl) ?_
              refine lv_aload_n hx hb dX7_must_50 rfl (lv_at hl 0 rfl) ?_
              refine lv_iload_n hx hb dX7_must_51 rfl (lv_at hl 1 rfl) ?_
              refine x_top (y := nI (clN mn)) hmn.1 ?_
              refine lv_iconst (v := nI 1) hx hb dX7_must_52 rfl ?_
              refine lv_iload hx hb dX7_must_53 (lv_at hl 5 rfl) ?_
              refine lv_ishl hx hb dX7_must_55 ?_
              refine x_fVI (rest := [.int x]) (c_X7_pathTo l D k q S X (clN mn) ((nI 1) <<< ((nI i) &&& 31)) (by first | assumption | omega)) mo_X7_168 obM F hw (Nat.le_of_ble_eq_true rfl) (x_cs F (Nat.le_of_ble_eq_true rfl) (Nat.le_of_ble_eq_true rfl)) rfl rfl hl.1 (Nat.le_of_ble_eq_true rfl) dX7_must_56 (fun H locs hw => ?_)
              have hs1 : mspF S (clN mn) (nI 1 <<< (nI i &&& 31)) ≤ mmnN S := fstF_le _ _
              refine x_if_ne (mspF S (clN mn) ((nI 1) <<< ((nI i) &&& 31))) F (by omega) (tgt := 69) dX7_must_59 rfl (fun c59 => ?_) (fun c59 => ?_)
              · refine lv_iconst (v := nI 0) hx hb dX7_must_69 rfl ?_
                refine lv_ior hx hb dX7_must_70 ?_
                refine lv_istore (lv' := [(4, .int (x ||| (nI 0))), (0, .ref (q 30)), (1, .int mn), (2, .int wh), (3, .int (nI ((mspF S (clN mn) (nI 0))))), (5, .int (nI i))]) hx hb dX7_must_71 hl (Nat.le_of_ble_eq_true rfl) rfl (fun ls hl => ?_)
                refine lv_iinc (v := nI (i + 1)) (lv' := [(5, .int (nI (i + 1))), (4, .int (x ||| (nI 0))), (0, .ref (q 30)), (1, .int mn), (2, .int wh), (3, .int (nI ((mspF S (clN mn) (nI 0)))))]) hx hb dX7_must_73 hl (k := 5) rfl (nI_1 _) (Nat.le_of_ble_eq_true rfl) rfl (fun ls hl => ?_)
                refine lv_goto (tgt := 35) hx hb dX7_must_76 rfl ?_
                exact ih35_ (i + 1) (x ||| (nI 0)) _ _ _ (by first | omega | (simp only [] at *; omega)) (by first | assumption | omega | rfl) (by exact Or.inr (nI_le00 (by omega) c45)) (by rw [h1]; first | (rw [or_0]; refine (orB_n ?_).symm; exact beqFn c59) | (refine (orB_y ?_).symm; exact beqTn c59)) hw (lv_sub hl [2, 3, 4, 5, 1, 0] rfl)
              · refine lv_iconst (v := nI 1) hx hb dX7_must_62 rfl ?_
                refine lv_iload hx hb dX7_must_63 (lv_at hl 5 rfl) ?_
                refine lv_ishl hx hb dX7_must_65 ?_
                refine lv_goto (tgt := 70) hx hb dX7_must_66 rfl ?_
                refine lv_ior hx hb dX7_must_70 ?_
                refine lv_istore (lv' := [(4, .int (x ||| ((nI 1) <<< ((nI i) &&& 31)))), (0, .ref (q 30)), (1, .int mn), (2, .int wh), (3, .int (nI ((mspF S (clN mn) (nI 0))))), (5, .int (nI i))]) hx hb dX7_must_71 hl (Nat.le_of_ble_eq_true rfl) rfl (fun ls hl => ?_)
                refine lv_iinc (v := nI (i + 1)) (lv' := [(5, .int (nI (i + 1))), (4, .int (x ||| ((nI 1) <<< ((nI i) &&& 31)))), (0, .ref (q 30)), (1, .int mn), (2, .int wh), (3, .int (nI ((mspF S (clN mn) (nI 0)))))]) hx hb dX7_must_73 hl (k := 5) rfl (nI_1 _) (Nat.le_of_ble_eq_true rfl) rfl (fun ls hl => ?_)
                refine lv_goto (tgt := 35) hx hb dX7_must_76 rfl ?_
                exact ih35_ (i + 1) (x ||| ((nI 1) <<< ((nI i) &&& 31))) _ _ _ (by first | omega | (simp only [] at *; omega)) (by first | assumption | omega | rfl) (by exact Or.inr (nI_le00 (by omega) c45)) (by rw [h1]; first | (rw [or_0]; refine (orB_n ?_).symm; exact beqFn c59) | (refine (orB_y ?_).symm; exact beqTn c59)) hw (lv_sub hl [2, 3, 4, 5, 1, 0] rfl)
      exact K35 _ 0 (nI 0) _ _ _ (Nat.lt_succ_self _) (by first | assumption | omega | rfl) (by exact Or.inl rfl) (by rfl) hw (lv_sub hl [3, 4, 5, 2, 1, 0] rfl)
    · refine lv_bipush (v := (-2)) hx hb dX7_must_19 rfl ?_
      exact hret _ _ _ _ _ _ dX7_must_21 hw rfl ⟨rfl, by unfold m_must; rw [if_neg c5, if_pos c16]⟩
  · refine lv_iconst (v := (-1)) hx hb dX7_must_8 rfl ?_
    exact hret _ _ _ _ _ _ dX7_must_9 hw rfl ⟨rfl, by unfold m_must; rw [if_pos c5]⟩
