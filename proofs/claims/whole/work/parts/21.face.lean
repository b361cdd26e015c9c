/-! ===== the face of the class ===== -/
theorem haP_t {S : St} {pi : Int32} (hP : okP S) (h : ¬ haP S pi = 0) : pi = nI (clN pi) ∧ clN pi < picN S := by
  have h1 := of_decide_eq_true (b01_1.mp h)
  have e := nn_of h1.1
  refine ⟨e, ?_⟩
  have h2 := h1.2
  rw [hP.1, e] at h2
  have hb : clN pi < 2 ^ 31 := by
    have := (Int32.lt_iff_toInt_lt).mp h1.2
    unfold clN
    have h3 : pi.toInt ≤ 2147483647 := Int32.toInt_le pi
    rw [Int32.toNatClampNeg]
    omega
  have h6 := hP.2
  exact (nI_ltI hb (by omega)).mp h2
theorem haM_t {S : St} {mn : Int32} (hN : okN S) (h : ¬ haM S mn = 0) : mn = nI (clN mn) ∧ clN mn < menN S := by
  have h1 := of_decide_eq_true (b01_1.mp h)
  have e := nn_of h1.1
  refine ⟨e, ?_⟩
  have h2 := h1.2
  rw [hN.1.1, e] at h2
  have hb : clN mn < 2 ^ 31 := by
    unfold clN
    have h3 : mn.toInt ≤ 2147483647 := Int32.toInt_le mn
    rw [Int32.toNatClampNeg]
    omega
  have h8 := hN.1.2
  exact (nI_ltI hb (by omega)).mp h2
theorem f_in_t {v : Int32} {b : Nat} (hb : b < 2 ^ 31) (h : ¬ f_in v (nI 0) (nI b) = 0) : v = nI (clN v) ∧ clN v ≤ b := by
  have h1 := Decidable.not_not.mp (fun q => h (f_in_0.mpr q))
  obtain ⟨j, hj, e⟩ := nI_of2 (x := v) (M := nI b) (n := b) (nI_toInt hb) (fun q => absurd h1.1 (Int32.not_le.mpr q)) h1.2
  have e2 : clN v = j := by unfold clN; rw [e]; exact nI_clamp (by omega)
  rw [e2]
  exact ⟨e, hj⟩
theorem flt_ok {f : Nat → Int32} {n : Nat} (hn : n < 2 ^ 30) (h : fltR f n = (-6)) : ∃ p, scn f n = .inl p := by
  cases hs : scn f n with
  | inl p => exact ⟨p, rfl⟩
  | inr i =>
    exfalso
    unfold fltR at h
    rw [hs] at h
    have hi : i < n := by
      clear h
      induction n with
      | zero => cases hs
      | succ n ih =>
        cases h2 : scn f n with
        | inr j =>
          have := scn_bad h2 (n + 1) (by omega)
          rw [this] at hs
          cases hs
          have := ih (by omega) h2
          omega
        | inl p =>
          unfold scn at hs
          rw [h2] at hs
          simp only at hs
          split at hs
          · cases hs
          · cases hs; omega
    have h : nI i = (-6) := h
    have h1 : (nI i).toInt = (-6 : Int32).toInt := by rw [h]
    rw [nI_toInt (by omega)] at h1
    have h2 : (-6 : Int32).toInt = -6 := rfl
    omega
theorem x_tab3 {x : Int32} (h0 : ¬ x = nI 0) (h1 : ¬ x = nI 1) (h2 : ¬ x = nI 2) (h3 : ¬ x = nI 3) : x.toInt < 0 ∨ 3 < x.toInt := by
  rcases pk_ix x (n := 4) (by decide) with h | h | ⟨j, hj, rfl⟩
  · exact Or.inl ((Int32.lt_iff_toInt_lt).mp h)
  · right
    have := (Int32.le_iff_toInt_le).mp h
    have e : (nI 4).toInt = 4 := rfl
    omega
  · rcases (show j = 0 ∨ j = 1 ∨ j = 2 ∨ j = 3 by omega) with rfl | rfl | rfl | rfl <;> contradiction
def p_picture (S : St) (dr : Int32) (lo : Int32) (hi : Int32) : Int32 × St := if (isDr dr) = 0 then ((-2), S) else if (if (nI 0) ≤ lo ∧ lo ≤ hi ∧ hi ≤ (nI 99) then nI 1 else nI 0) = 0 then ((-2), S) else if (picN S) < 6 then (nI ((picN (va_up S 45 (fun _ => nI 0)))), (va_up (va_up (va_up (va_up (va_up (va_up S 45 (fun _ => nI 0)) 3 (upd ((va_up S 45 (fun _ => nI 0)) 3) (picN (va_up S 45 (fun _ => nI 0))) dr)) 4 (upd ((va_up S 45 (fun _ => nI 0)) 4) (picN (va_up S 45 (fun _ => nI 0))) lo)) 5 (upd ((va_up S 45 (fun _ => nI 0)) 5) (picN (va_up S 45 (fun _ => nI 0))) hi)) 6 (upd ((va_up S 45 (fun _ => nI 0)) 6) (picN (va_up S 45 (fun _ => nI 0))) (nI 0))) 40 (fun _ => nI (picN (va_up S 45 (fun _ => nI 0)) + 1)))) else ((-4), S)
set_option maxHeartbeats 4000000 in
set_option maxRecDepth 20000 in
theorem c_X6_picture (l : Launch) (D : va_G) (k : Nat → ClassId) (q z : Nat → Nat) (g : Nat → Option Nat) (S : St) (X : va_W) (dr : Int32) (lo : Int32) (hi : Int32) (hP : okP S) : CI l D k yX6_picture cX6_picture 4 (some .int) 2 0 0 [.ref (q 0), .int dr, .int lo, .int hi] (wC k q z g S X) (fun r w' => w' = wC k q z g ((p_picture S dr lo hi).2) X ∧ r = (p_picture S dr lo hi).1) := by
  refine CI.mk (by decide) (Nat.le_of_ble_eq_true rfl) ?_
  intro p e R s m args below meth c A Q ls F hret hw hl
  have hx := xs_hx F
  have hb := xs_hb F
  have hl : lv_has ls 4 [(0, .ref (q 0)), (1, .int dr), (2, .int lo), (3, .int hi)] := hl
  have h6 := hP.2
  refine lv_iload_n hx hb dX6_picture_0 rfl (lv_at hl 1 rfl) ?_
  refine x_fSI (rest := []) (c_X6_isDrawing l D k (wC k q z g S X) dr) mo_X6_57 F hw (Nat.le_of_ble_eq_true rfl) (x_cs F (Nat.le_of_ble_eq_true rfl) (Nat.le_of_ble_eq_true rfl)) rfl rfl hl.1 (Nat.le_of_ble_eq_true rfl) dX6_picture_1 (fun H locs hw => ?_)
  refine lv_if_eq (tgt := 18) hx hb dX6_picture_4 rfl (fun c4 => ?_) (fun c4 => ?_)
  · refine lv_bipush (v := (-2)) hx hb dX6_picture_18 rfl ?_
    have e9 : p_picture S dr lo hi = ((-2), S) := by unfold p_picture; rw [if_pos c4]
    exact hret _ _ _ _ _ _ dX6_picture_20 hw rfl ⟨by rw [e9] <;> rfl, by rw [e9] <;> rfl⟩
  · refine lv_iload_n hx hb dX6_picture_7 rfl (lv_at hl 2 rfl) ?_
    refine lv_iload_n hx hb dX6_picture_8 rfl (lv_at hl 3 rfl) ?_
    refine lv_iconst (v := nI 0) hx hb dX6_picture_9 rfl ?_
    refine lv_bipush (v := nI 99) hx hb dX6_picture_10 rfl ?_
    refine x_fSI (rest := []) (c_X6_isSpan l D k (wC k q z g S X) lo hi (nI 0) (nI 99)) mo_X6_61 F hw (Nat.le_of_ble_eq_true rfl) (x_cs F (Nat.le_of_ble_eq_true rfl) (Nat.le_of_ble_eq_true rfl)) rfl rfl hl.1 (Nat.le_of_ble_eq_true rfl) dX6_picture_12 (fun H locs hw => ?_)
    refine lv_if_ne (tgt := 21) hx hb dX6_picture_15 rfl (fun c15 => ?_) (fun c15 => ?_)
    · refine lv_aload_n hx hb dX6_picture_21 rfl (lv_at hl 0 rfl) ?_
      refine x_getr frC_0_0 F hw fo_X6_10 dX6_picture_22 ?_
      refine x_geti fiC_40 F hw fo_X6_65 dX6_picture_25 ?_
      refine x_top (y := nI (picN S)) hP.1 ?_
      refine lv_bipush (v := nI 6) hx hb dX6_picture_28 rfl ?_
      refine x_icmp_lt (picN S) 6 F (by omega) (by omega) (tgt := 36) dX6_picture_30 rfl (fun c30 => ?_) (fun c30 => ?_)
      · refine lv_aload_n hx hb dX6_picture_36 rfl (lv_at hl 0 rfl) ?_
        refine x_getr frC_0_3 F hw fo_X6_32 dX6_picture_37 ?_
        refine x_fVV (rest := []) (c_X5_forget l D k q z g S X ) mo_X6_69 obC_19 F hw (Nat.le_of_ble_eq_true rfl) (x_cs F (Nat.le_of_ble_eq_true rfl) (Nat.le_of_ble_eq_true rfl)) rfl rfl hl.1 (Nat.le_of_ble_eq_true rfl) dX6_picture_40 (fun H locs hw => ?_)
        refine lv_aload_n hx hb dX6_picture_43 rfl (lv_at hl 0 rfl) ?_
        refine x_getr frC_0_0 F hw fo_X6_10 dX6_picture_44 ?_
        refine lv_iload_n hx hb dX6_picture_47 rfl (lv_at hl 1 rfl) ?_
        refine lv_iload_n hx hb dX6_picture_48 rfl (lv_at hl 2 rfl) ?_
        refine lv_iload_n hx hb dX6_picture_49 rfl (lv_at hl 3 rfl) ?_
        refine x_fVI (rest := []) (c_X1_addPicture l D k q z g (va_up S 45 (fun _ => nI 0)) X dr lo hi (by exact hP.1) (by exact c30)) mo_X6_72 obC_2 F hw (Nat.le_of_ble_eq_true rfl) (x_cs F (Nat.le_of_ble_eq_true rfl) (Nat.le_of_ble_eq_true rfl)) rfl rfl hl.1 (Nat.le_of_ble_eq_true rfl) dX6_picture_50 (fun H locs hw => ?_)
        have e9 : p_picture S dr lo hi = (nI ((picN (va_up S 45 (fun _ => nI 0)))), (va_up (va_up (va_up (va_up (va_up (va_up S 45 (fun _ => nI 0)) 3 (upd ((va_up S 45 (fun _ => nI 0)) 3) (picN (va_up S 45 (fun _ => nI 0))) dr)) 4 (upd ((va_up S 45 (fun _ => nI 0)) 4) (picN (va_up S 45 (fun _ => nI 0))) lo)) 5 (upd ((va_up S 45 (fun _ => nI 0)) 5) (picN (va_up S 45 (fun _ => nI 0))) hi)) 6 (upd ((va_up S 45 (fun _ => nI 0)) 6) (picN (va_up S 45 (fun _ => nI 0))) (nI 0))) 40 (fun _ => nI (picN (va_up S 45 (fun _ => nI 0)) + 1)))) := by unfold p_picture; rw [if_neg c4, if_neg c15, if_pos c30]
        exact hret _ _ _ _ _ _ dX6_picture_53 hw rfl ⟨by rw [e9] <;> rfl, by rw [e9] <;> rfl⟩
      · refine lv_bipush (v := (-4)) hx hb dX6_picture_33 rfl ?_
        have e9 : p_picture S dr lo hi = ((-4), S) := by unfold p_picture; rw [if_neg c4, if_neg c15, if_neg (by omega)]
        exact hret _ _ _ _ _ _ dX6_picture_35 hw rfl ⟨by rw [e9] <;> rfl, by rw [e9] <;> rfl⟩
    · refine lv_bipush (v := (-2)) hx hb dX6_picture_18 rfl ?_
      have e9 : p_picture S dr lo hi = ((-2), S) := by unfold p_picture; rw [if_neg c4, if_pos c15]
      exact hret _ _ _ _ _ _ dX6_picture_20 hw rfl ⟨by rw [e9] <;> rfl, by rw [e9] <;> rfl⟩
def p_about (S : St) (pi : Int32) (wh : Int32) : Int32 × St := if (haP S pi) = 0 then ((-1), S) else if wh = nI 0 then (S 3 (clN pi), S) else if wh = nI 1 then (S 4 (clN pi), S) else if wh = nI 2 then (S 5 (clN pi), S) else if wh = nI 3 then ((if S 6 (clN pi) = 0 then (-6) else S 6 (clN pi)), S) else ((-2), S)
set_option maxHeartbeats 4000000 in
set_option maxRecDepth 20000 in
theorem c_X6_about (l : Launch) (D : va_G) (k : Nat → ClassId) (q z : Nat → Nat) (g : Nat → Option Nat) (S : St) (X : va_W) (pi : Int32) (wh : Int32) (hP : okP S) : CI l D k yX6_about cX6_about 3 (some .int) 2 0 0 [.ref (q 0), .int pi, .int wh] (wC k q z g S X) (fun r w' => w' = wC k q z g ((p_about S pi wh).2) X ∧ r = (p_about S pi wh).1) := by
  refine CI.mk (by decide) (Nat.le_of_ble_eq_true rfl) ?_
  intro p e R s m args below meth c A Q ls F hret hw hl
  have hx := xs_hx F
  have hb := xs_hb F
  have hl : lv_has ls 3 [(0, .ref (q 0)), (1, .int pi), (2, .int wh)] := hl
  have h6 := hP.2
  refine lv_aload_n hx hb dX6_about_0 rfl (lv_at hl 0 rfl) ?_
  refine x_getr frC_0_0 F hw fo_X6_10 dX6_about_1 ?_
  refine lv_iload_n hx hb dX6_about_4 rfl (lv_at hl 1 rfl) ?_
  refine x_fVI (rest := []) (c_X1_hasPicture l D k q z g S X pi) mo_X6_76 obC_2 F hw (Nat.le_of_ble_eq_true rfl) (x_cs F (Nat.le_of_ble_eq_true rfl) (Nat.le_of_ble_eq_true rfl)) rfl rfl hl.1 (Nat.le_of_ble_eq_true rfl) dX6_about_5 (fun H locs hw => ?_)
  refine lv_if_ne (tgt := 13) hx hb dX6_about_8 rfl (fun c8 => ?_) (fun c8 => ?_)
  · have hpi := haP_t hP c8
    refine lv_iload_n hx hb dX6_about_13 rfl (lv_at hl 2 rfl) ?_
    rcases Decidable.em (wh = nI 0) with c14_0 | c14_0
    · refine lv_tableIn (tgt := 44) hx hb dX6_about_14 (by rw [c14_0]; decide) (by rw [c14_0]; decide) (by rw [c14_0]; rfl) rfl ?_
      refine lv_aload_n hx hb dX6_about_44 rfl (lv_at hl 0 rfl) ?_
      refine x_getr frC_0_0 F hw fo_X6_10 dX6_about_45 ?_
      refine x_getr frC_2_2 F hw fo_X6_79 dX6_about_48 ?_
      refine lv_iload_n hx hb dX6_about_51 rfl (lv_at hl 1 rfl) ?_
      refine x_iald aiC_3 F hw (clN pi) hpi.1 (by have := hpi.2; omega) dX6_about_52 ?_
      have e9 : p_about S pi wh = (S 3 (clN pi), S) := by unfold p_about; rw [if_neg c8, if_pos c14_0]
      exact hret _ _ _ _ _ _ dX6_about_53 hw rfl ⟨by rw [e9] <;> rfl, by rw [e9] <;> rfl⟩
    rcases Decidable.em (wh = nI 1) with c14_1 | c14_1
    · refine lv_tableIn (tgt := 54) hx hb dX6_about_14 (by rw [c14_1]; decide) (by rw [c14_1]; decide) (by rw [c14_1]; rfl) rfl ?_
      refine lv_aload_n hx hb dX6_about_54 rfl (lv_at hl 0 rfl) ?_
      refine x_getr frC_0_0 F hw fo_X6_10 dX6_about_55 ?_
      refine x_getr frC_2_3 F hw fo_X6_83 dX6_about_58 ?_
      refine lv_iload_n hx hb dX6_about_61 rfl (lv_at hl 1 rfl) ?_
      refine x_iald aiC_4 F hw (clN pi) hpi.1 (by have := hpi.2; omega) dX6_about_62 ?_
      have e9 : p_about S pi wh = (S 4 (clN pi), S) := by unfold p_about; rw [if_neg c8, if_neg c14_0, if_pos c14_1]
      exact hret _ _ _ _ _ _ dX6_about_63 hw rfl ⟨by rw [e9] <;> rfl, by rw [e9] <;> rfl⟩
    rcases Decidable.em (wh = nI 2) with c14_2 | c14_2
    · refine lv_tableIn (tgt := 64) hx hb dX6_about_14 (by rw [c14_2]; decide) (by rw [c14_2]; decide) (by rw [c14_2]; rfl) rfl ?_
      refine lv_aload_n hx hb dX6_about_64 rfl (lv_at hl 0 rfl) ?_
      refine x_getr frC_0_0 F hw fo_X6_10 dX6_about_65 ?_
      refine x_getr frC_2_4 F hw fo_X6_86 dX6_about_68 ?_
      refine lv_iload_n hx hb dX6_about_71 rfl (lv_at hl 1 rfl) ?_
      refine x_iald aiC_5 F hw (clN pi) hpi.1 (by have := hpi.2; omega) dX6_about_72 ?_
      have e9 : p_about S pi wh = (S 5 (clN pi), S) := by unfold p_about; rw [if_neg c8, if_neg c14_0, if_neg c14_1, if_pos c14_2]
      exact hret _ _ _ _ _ _ dX6_about_73 hw rfl ⟨by rw [e9] <;> rfl, by rw [e9] <;> rfl⟩
    rcases Decidable.em (wh = nI 3) with c14_3 | c14_3
    · refine lv_tableIn (tgt := 74) hx hb dX6_about_14 (by rw [c14_3]; decide) (by rw [c14_3]; decide) (by rw [c14_3]; rfl) rfl ?_
      refine lv_aload_n hx hb dX6_about_74 rfl (lv_at hl 0 rfl) ?_
      refine x_getr frC_0_0 F hw fo_X6_10 dX6_about_75 ?_
      refine lv_iload_n hx hb dX6_about_78 rfl (lv_at hl 1 rfl) ?_
      refine x_top (y := nI (clN pi)) hpi.1 ?_
      refine x_fVI (rest := []) (c_X1_widthOrNone l D k q z g S X (clN pi) (by omega)) mo_X6_89 obC_2 F hw (Nat.le_of_ble_eq_true rfl) (x_cs F (Nat.le_of_ble_eq_true rfl) (Nat.le_of_ble_eq_true rfl)) rfl rfl hl.1 (Nat.le_of_ble_eq_true rfl) dX6_about_79 (fun H locs hw => ?_)
      have e9 : p_about S pi wh = ((if S 6 (clN pi) = 0 then (-6) else S 6 (clN pi)), S) := by unfold p_about; rw [if_neg c8, if_neg c14_0, if_neg c14_1, if_neg c14_2, if_pos c14_3]
      exact hret _ _ _ _ _ _ dX6_about_82 hw rfl ⟨by rw [e9] <;> rfl, by rw [e9] <;> rfl⟩
    refine lv_tableOut (tgt := 83) hx hb dX6_about_14 (x_tab3 c14_0 c14_1 c14_2 c14_3) rfl ?_
    refine lv_bipush (v := (-2)) hx hb dX6_about_83 rfl ?_
    have e9 : p_about S pi wh = ((-2), S) := by unfold p_about; rw [if_neg c8, if_neg c14_0, if_neg c14_1, if_neg c14_2, if_neg c14_3]
    exact hret _ _ _ _ _ _ dX6_about_85 hw rfl ⟨by rw [e9] <;> rfl, by rw [e9] <;> rfl⟩
  · refine lv_iconst (v := (-1)) hx hb dX6_about_11 rfl ?_
    have e9 : p_about S pi wh = ((-1), S) := by unfold p_about; rw [if_pos c8]
    exact hret _ _ _ _ _ _ dX6_about_12 hw rfl ⟨by rw [e9] <;> rfl, by rw [e9] <;> rfl⟩
def p_set (S : St) (wi : Int32) (v : Int32) : Int32 × St := if (f_in wi (nI 0) (nI 3)) = 0 then ((-2), S) else if wi = (nI 2) then if (f_in v (nI 1) (nI 30)) = 0 then ((-2), S) else if wi = 0 then (S 12 (clN wi), (va_up (va_up S 12 (upd (S 12) (clN wi) v)) 45 (fun _ => nI 0))) else (S 12 (clN wi), (va_up S 12 (upd (S 12) (clN wi) v))) else if wi = (nI 3) then if (f_in v (nI 1) (nI 30)) = 0 then ((-2), S) else if wi = 0 then (S 12 (clN wi), (va_up (va_up S 12 (upd (S 12) (clN wi) v)) 45 (fun _ => nI 0))) else (S 12 (clN wi), (va_up S 12 (upd (S 12) (clN wi) v))) else if (f_in v (nI 0) (nI 99)) = 0 then ((-2), S) else if wi = 0 then (S 12 (clN wi), (va_up (va_up S 12 (upd (S 12) (clN wi) v)) 45 (fun _ => nI 0))) else (S 12 (clN wi), (va_up S 12 (upd (S 12) (clN wi) v)))
set_option maxHeartbeats 4000000 in
set_option maxRecDepth 20000 in
theorem c_X6_set (l : Launch) (D : va_G) (k : Nat → ClassId) (q z : Nat → Nat) (g : Nat → Option Nat) (S : St) (X : va_W) (wi : Int32) (v : Int32) : CI l D k yX6_set cX6_set 5 (some .int) 2 0 0 [.ref (q 0), .int wi, .int v] (wC k q z g S X) (fun r w' => w' = wC k q z g ((p_set S wi v).2) X ∧ r = (p_set S wi v).1) := by
  refine CI.mk (by decide) (Nat.le_of_ble_eq_true rfl) ?_
  intro p e R s m args below meth c A Q ls F hret hw hl
  have hx := xs_hx F
  have hb := xs_hb F
  have hl : lv_has ls 5 [(0, .ref (q 0)), (1, .int wi), (2, .int v)] := hl
  refine lv_iload_n hx hb dX6_set_0 rfl (lv_at hl 1 rfl) ?_
  refine lv_iconst (v := nI 0) hx hb dX6_set_1 rfl ?_
  refine lv_iconst (v := nI 3) hx hb dX6_set_2 rfl ?_
  refine x_fSI (rest := []) (c_X6_within l D k (wC k q z g S X) wi (nI 0) (nI 3)) mo_X6_93 F hw (Nat.le_of_ble_eq_true rfl) (x_cs F (Nat.le_of_ble_eq_true rfl) (Nat.le_of_ble_eq_true rfl)) rfl rfl hl.1 (Nat.le_of_ble_eq_true rfl) dX6_set_3 (fun H locs hw => ?_)
  refine lv_if_ne (tgt := 12) hx hb dX6_set_6 rfl (fun c6 => ?_) (fun c6 => ?_)
  · have hwi := f_in_t (by decide) c6
    refine lv_iload_n hx hb dX6_set_12 rfl (lv_at hl 1 rfl) ?_
    refine lv_iconst (v := nI 2) hx hb dX6_set_13 rfl ?_
    refine lv_icmp_eq (tgt := 22) hx hb dX6_set_14 rfl (fun c14 => ?_) (fun c14 => ?_)
    · refine lv_iconst (v := nI 1) hx hb dX6_set_22 rfl ?_
      refine lv_goto (tgt := 27) hx hb dX6_set_23 rfl ?_
      refine lv_istore_n (lv' := [(3, .int (nI 1)), (0, .ref (q 0)), (1, .int wi), (2, .int v)]) hx hb dX6_set_27 rfl hl (Nat.le_of_ble_eq_true rfl) rfl (fun ls hl => ?_)
      refine lv_iload_n hx hb dX6_set_28 rfl (lv_at hl 3 rfl) ?_
      refine lv_iload_n hx hb dX6_set_29 rfl (lv_at hl 0 rfl) ?_
      refine x_if_eq 1 F (by omega) (tgt := 37) dX6_set_30 rfl (fun c30 => ?_) (fun c30 => ?_)
      · exact absurd c30 (by decide)
      · refine lv_iconst (v := nI 1) hx hb dX6_set_33 rfl ?_
        refine lv_goto (tgt := 38) hx hb dX6_set_34 rfl ?_
        refine lv_iload_n hx hb dX6_set_38 rfl (lv_at hl 0 rfl) ?_
        refine x_if_eq 1 F (by omega) (tgt := 47) dX6_set_39 rfl (fun c39 => ?_) (fun c39 => ?_)
        · exact absurd c39 (by decide)
        · refine lv_bipush (v := nI 30) hx hb dX6_set_42 rfl ?_
          refine lv_goto (tgt := 49) hx hb dX6_set_44 rfl ?_
          refine x_fSI (rest := []) (c_X6_within l D k (wC k q z g S X) v (nI 1) (nI 30)) mo_X6_93 F hw (Nat.le_of_ble_eq_true rfl) (x_cs F (Nat.le_of_ble_eq_true rfl) (Nat.le_of_ble_eq_true rfl)) rfl rfl hl.1 (Nat.le_of_ble_eq_true rfl) dX6_set_49 (fun H locs hw => ?_)
          refine lv_if_ne (tgt := 58) hx hb dX6_set_52 rfl (fun c52 => ?_) (fun c52 => ?_)
          · refine lv_aload_n hx hb dX6_set_58 rfl (lv_at hl 1 rfl) ?_
            refine x_getr frC_0_0 F hw fo_X6_10 dX6_set_59 ?_
            refine x_getr frC_2_7 F hw fo_X6_97 dX6_set_62 ?_
            refine lv_iload_n hx hb dX6_set_65 rfl (lv_at hl 2 rfl) ?_
            refine x_iald aiC_12 F hw (clN wi) hwi.1 (by have := hwi.2; omega) dX6_set_66 ?_
            refine lv_istore (lv' := [(4, .int (S 12 (clN wi))), (3, .int (nI 1)), (0, .ref (q 0)), (1, .int wi), (2, .int v)]) hx hb dX6_set_67 hl (Nat.le_of_ble_eq_true rfl) rfl (fun ls hl => ?_)
            refine lv_aload_n hx hb dX6_set_69 rfl (lv_at hl 2 rfl) ?_
            refine x_getr frC_0_0 F hw fo_X6_10 dX6_set_70 ?_
            refine x_getr frC_2_7 F hw fo_X6_97 dX6_set_73 ?_
            refine lv_iload_n hx hb dX6_set_76 rfl (lv_at hl 3 rfl) ?_
            refine lv_iload_n hx hb dX6_set_77 rfl (lv_at hl 4 rfl) ?_
            refine x_iast aiC_12 F hw (clN wi) hwi.1 (by have := hwi.2; omega) dX6_set_78 (fun H locs hw => ?_)
            refine lv_iload_n hx hb dX6_set_79 rfl (lv_at hl 3 rfl) ?_
            refine lv_if_ne (tgt := 90) hx hb dX6_set_80 rfl (fun c80 => ?_) (fun c80 => ?_)
            · refine lv_iload hx hb dX6_set_90 (lv_at hl 0 rfl) ?_
              have e9 : p_set S wi v = (S 12 (clN wi), (va_up S 12 (upd (S 12) (clN wi) v))) := by unfold p_set; rw [if_neg c6, if_pos c14, if_neg c52, if_neg c80]
              exact hret _ _ _ _ _ _ dX6_set_92 hw rfl ⟨by rw [e9] <;> rfl, by rw [e9] <;> rfl⟩
            · refine lv_aload_n hx hb dX6_set_83 rfl (lv_at hl 2 rfl) ?_
              refine x_getr frC_0_3 F hw fo_X6_32 dX6_set_84 ?_
              refine x_fVV (rest := []) (c_X5_forget l D k q z g (va_up S 12 (upd (S 12) (clN wi) v)) X ) mo_X6_69 obC_19 F hw (Nat.le_of_ble_eq_true rfl) (x_cs F (Nat.le_of_ble_eq_true rfl) (Nat.le_of_ble_eq_true rfl)) rfl rfl hl.1 (Nat.le_of_ble_eq_true rfl) dX6_set_87 (fun H locs hw => ?_)
              refine lv_iload hx hb dX6_set_90 (lv_at hl 0 rfl) ?_
              have e9 : p_set S wi v = (S 12 (clN wi), (va_up (va_up S 12 (upd (S 12) (clN wi) v)) 45 (fun _ => nI 0))) := by unfold p_set; rw [if_neg c6, if_pos c14, if_neg c52, if_pos c80]
              exact hret _ _ _ _ _ _ dX6_set_92 hw rfl ⟨by rw [e9] <;> rfl, by rw [e9] <;> rfl⟩
          · refine lv_bipush (v := (-2)) hx hb dX6_set_55 rfl ?_
            have e9 : p_set S wi v = ((-2), S) := by unfold p_set; rw [if_neg c6, if_pos c14, if_pos c52]
            exact hret _ _ _ _ _ _ dX6_set_57 hw rfl ⟨by rw [e9] <;> rfl, by rw [e9] <;> rfl⟩
    · refine lv_iload_n hx hb dX6_set_17 rfl (lv_at hl 1 rfl) ?_
      refine lv_iconst (v := nI 3) hx hb dX6_set_18 rfl ?_
      refine lv_icmp_ne (tgt := 26) hx hb dX6_set_19 rfl (fun c19 => ?_) (fun c19 => ?_)
      · refine lv_iconst (v := nI 0) hx hb dX6_set_26 rfl ?_
        refine lv_istore_n (lv' := [(3, .int (nI 0)), (0, .ref (q 0)), (1, .int wi), (2, .int v)]) hx hb dX6_set_27 rfl hl (Nat.le_of_ble_eq_true rfl) rfl (fun ls hl => ?_)
        refine lv_iload_n hx hb dX6_set_28 rfl (lv_at hl 3 rfl) ?_
        refine lv_iload_n hx hb dX6_set_29 rfl (lv_at hl 0 rfl) ?_
        refine x_if_eq 0 F (by omega) (tgt := 37) dX6_set_30 rfl (fun c30 => ?_) (fun c30 => ?_)
        · refine lv_iconst (v := nI 0) hx hb dX6_set_37 rfl ?_
          refine lv_iload_n hx hb dX6_set_38 rfl (lv_at hl 0 rfl) ?_
          refine x_if_eq 0 F (by omega) (tgt := 47) dX6_set_39 rfl (fun c39 => ?_) (fun c39 => ?_)
          · refine lv_bipush (v := nI 99) hx hb dX6_set_47 rfl ?_
            refine x_fSI (rest := []) (c_X6_within l D k (wC k q z g S X) v (nI 0) (nI 99)) mo_X6_93 F hw (Nat.le_of_ble_eq_true rfl) (x_cs F (Nat.le_of_ble_eq_true rfl) (Nat.le_of_ble_eq_true rfl)) rfl rfl hl.1 (Nat.le_of_ble_eq_true rfl) dX6_set_49 (fun H locs hw => ?_)
            refine lv_if_ne (tgt := 58) hx hb dX6_set_52 rfl (fun c52 => ?_) (fun c52 => ?_)
            · refine lv_aload_n hx hb dX6_set_58 rfl (lv_at hl 1 rfl) ?_
              refine x_getr frC_0_0 F hw fo_X6_10 dX6_set_59 ?_
              refine x_getr frC_2_7 F hw fo_X6_97 dX6_set_62 ?_
              refine lv_iload_n hx hb dX6_set_65 rfl (lv_at hl 2 rfl) ?_
              refine x_iald aiC_12 F hw (clN wi) hwi.1 (by have := hwi.2; omega) dX6_set_66 ?_
              refine lv_istore (lv' := [(4, .int (S 12 (clN wi))), (3, .int (nI 0)), (0, .ref (q 0)), (1, .int wi), (2, .int v)]) hx hb dX6_set_67 hl (Nat.le_of_ble_eq_true rfl) rfl (fun ls hl => ?_)
              refine lv_aload_n hx hb dX6_set_69 rfl (lv_at hl 2 rfl) ?_
              refine x_getr frC_0_0 F hw fo_X6_10 dX6_set_70 ?_
              refine x_getr frC_2_7 F hw fo_X6_97 dX6_set_73 ?_
              refine lv_iload_n hx hb dX6_set_76 rfl (lv_at hl 3 rfl) ?_
              refine lv_iload_n hx hb dX6_set_77 rfl (lv_at hl 4 rfl) ?_
              refine x_iast aiC_12 F hw (clN wi) hwi.1 (by have := hwi.2; omega) dX6_set_78 (fun H locs hw => ?_)
              refine lv_iload_n hx hb dX6_set_79 rfl (lv_at hl 3 rfl) ?_
              refine lv_if_ne (tgt := 90) hx hb dX6_set_80 rfl (fun c80 => ?_) (fun c80 => ?_)
              · refine lv_iload hx hb dX6_set_90 (lv_at hl 0 rfl) ?_
                have e9 : p_set S wi v = (S 12 (clN wi), (va_up S 12 (upd (S 12) (clN wi) v))) := by unfold p_set; rw [if_neg c6, if_neg c14, if_neg c19, if_neg c52, if_neg c80]
                exact hret _ _ _ _ _ _ dX6_set_92 hw rfl ⟨by rw [e9] <;> rfl, by rw [e9] <;> rfl⟩
              · refine lv_aload_n hx hb dX6_set_83 rfl (lv_at hl 2 rfl) ?_
                refine x_getr frC_0_3 F hw fo_X6_32 dX6_set_84 ?_
                refine x_fVV (rest := []) (c_X5_forget l D k q z g (va_up S 12 (upd (S 12) (clN wi) v)) X ) mo_X6_69 obC_19 F hw (Nat.le_of_ble_eq_true rfl) (x_cs F (Nat.le_of_ble_eq_true rfl) (Nat.le_of_ble_eq_true rfl)) rfl rfl hl.1 (Nat.le_of_ble_eq_true rfl) dX6_set_87 (fun H locs hw => ?_)
                refine lv_iload hx hb dX6_set_90 (lv_at hl 0 rfl) ?_
                have e9 : p_set S wi v = (S 12 (clN wi), (va_up (va_up S 12 (upd (S 12) (clN wi) v)) 45 (fun _ => nI 0))) := by unfold p_set; rw [if_neg c6, if_neg c14, if_neg c19, if_neg c52, if_pos c80]
                exact hret _ _ _ _ _ _ dX6_set_92 hw rfl ⟨by rw [e9] <;> rfl, by rw [e9] <;> rfl⟩
            · refine lv_bipush (v := (-2)) hx hb dX6_set_55 rfl ?_
              have e9 : p_set S wi v = ((-2), S) := by unfold p_set; rw [if_neg c6, if_neg c14, if_neg c19, if_pos c52]
              exact hret _ _ _ _ _ _ dX6_set_57 hw rfl ⟨by rw [e9] <;> rfl, by rw [e9] <;> rfl⟩
          · exact absurd c39 (by decide)
        · exact absurd c30 (by decide)
      · refine lv_iconst (v := nI 1) hx hb dX6_set_22 rfl ?_
        refine lv_goto (tgt := 27) hx hb dX6_set_23 rfl ?_
        refine lv_istore_n (lv' := [(3, .int (nI 1)), (0, .ref (q 0)), (1, .int wi), (2, .int v)]) hx hb dX6_set_27 rfl hl (Nat.le_of_ble_eq_true rfl) rfl (fun ls hl => ?_)
        refine lv_iload_n hx hb dX6_set_28 rfl (lv_at hl 3 rfl) ?_
        refine lv_iload_n hx hb dX6_set_29 rfl (lv_at hl 0 rfl) ?_
        refine x_if_eq 1 F (by omega) (tgt := 37) dX6_set_30 rfl (fun c30 => ?_) (fun c30 => ?_)
        · exact absurd c30 (by decide)
        · refine lv_iconst (v := nI 1) hx hb dX6_set_33 rfl ?_
          refine lv_goto (tgt := 38) hx hb dX6_set_34 rfl ?_
          refine lv_iload_n hx hb dX6_set_38 rfl (lv_at hl 0 rfl) ?_
          refine x_if_eq 1 F (by omega) (tgt := 47) dX6_set_39 rfl (fun c39 => ?_) (fun c39 => ?_)
          · exact absurd c39 (by decide)
          · refine lv_bipush (v := nI 30) hx hb dX6_set_42 rfl ?_
            refine lv_goto (tgt := 49) hx hb dX6_set_44 rfl ?_
            refine x_fSI (rest := []) (c_X6_within l D k (wC k q z g S X) v (nI 1) (nI 30)) mo_X6_93 F hw (Nat.le_of_ble_eq_true rfl) (x_cs F (Nat.le_of_ble_eq_true rfl) (Nat.le_of_ble_eq_true rfl)) rfl rfl hl.1 (Nat.le_of_ble_eq_true rfl) dX6_set_49 (fun H locs hw => ?_)
            refine lv_if_ne (tgt := 58) hx hb dX6_set_52 rfl (fun c52 => ?_) (fun c52 => ?_)
            · refine lv_aload_n hx hb dX6_set_58 rfl (lv_at hl 1 rfl) ?_
              refine x_getr frC_0_0 F hw fo_X6_10 dX6_set_59 ?_
              refine x_getr frC_2_7 F hw fo_X6_97 dX6_set_62 ?_
              refine lv_iload_n hx hb dX6_set_65 rfl (lv_at hl 2 rfl) ?_
              refine x_iald aiC_12 F hw (clN wi) hwi.1 (by have := hwi.2; omega) dX6_set_66 ?_
              refine lv_istore (lv' := [(4, .int (S 12 (clN wi))), (3, .int (nI 1)), (0, .ref (q 0)), (1, .int wi), (2, .int v)]) hx hb dX6_set_67 hl (Nat.le_of_ble_eq_true rfl) rfl (fun ls hl => ?_)
              refine lv_aload_n hx hb dX6_set_69 rfl (lv_at hl 2 rfl) ?_
              refine x_getr frC_0_0 F hw fo_X6_10 dX6_set_70 ?_
              refine x_getr frC_2_7 F hw fo_X6_97 dX6_set_73 ?_
              refine lv_iload_n hx hb dX6_set_76 rfl (lv_at hl 3 rfl) ?_
              refine lv_iload_n hx hb dX6_set_77 rfl (lv_at hl 4 rfl) ?_
              refine x_iast aiC_12 F hw (clN wi) hwi.1 (by have := hwi.2; omega) dX6_set_78 (fun H locs hw => ?_)
              refine lv_iload_n hx hb dX6_set_79 rfl (lv_at hl 3 rfl) ?_
              refine lv_if_ne (tgt := 90) hx hb dX6_set_80 rfl (fun c80 => ?_) (fun c80 => ?_)
              · refine lv_iload hx hb dX6_set_90 (lv_at hl 0 rfl) ?_
                have e9 : p_set S wi v = (S 12 (clN wi), (va_up S 12 (upd (S 12) (clN wi) v))) := by unfold p_set; rw [if_neg c6, if_neg c14, if_pos c19, if_neg c52, if_neg c80]
                exact hret _ _ _ _ _ _ dX6_set_92 hw rfl ⟨by rw [e9] <;> rfl, by rw [e9] <;> rfl⟩
              · refine lv_aload_n hx hb dX6_set_83 rfl (lv_at hl 2 rfl) ?_
                refine x_getr frC_0_3 F hw fo_X6_32 dX6_set_84 ?_
                refine x_fVV (rest := []) (c_X5_forget l D k q z g (va_up S 12 (upd (S 12) (clN wi) v)) X ) mo_X6_69 obC_19 F hw (Nat.le_of_ble_eq_true rfl) (x_cs F (Nat.le_of_ble_eq_true rfl) (Nat.le_of_ble_eq_true rfl)) rfl rfl hl.1 (Nat.le_of_ble_eq_true rfl) dX6_set_87 (fun H locs hw => ?_)
                refine lv_iload hx hb dX6_set_90 (lv_at hl 0 rfl) ?_
                have e9 : p_set S wi v = (S 12 (clN wi), (va_up (va_up S 12 (upd (S 12) (clN wi) v)) 45 (fun _ => nI 0))) := by unfold p_set; rw [if_neg c6, if_neg c14, if_pos c19, if_neg c52, if_pos c80]
                exact hret _ _ _ _ _ _ dX6_set_92 hw rfl ⟨by rw [e9] <;> rfl, by rw [e9] <;> rfl⟩
            · refine lv_bipush (v := (-2)) hx hb dX6_set_55 rfl ?_
              have e9 : p_set S wi v = ((-2), S) := by unfold p_set; rw [if_neg c6, if_neg c14, if_pos c19, if_pos c52]
              exact hret _ _ _ _ _ _ dX6_set_57 hw rfl ⟨by rw [e9] <;> rfl, by rw [e9] <;> rfl⟩
  · refine lv_bipush (v := (-2)) hx hb dX6_set_9 rfl ?_
    have e9 : p_set S wi v = ((-2), S) := by unfold p_set; rw [if_pos c6]
    exact hret _ _ _ _ _ _ dX6_set_11 hw rfl ⟨by rw [e9] <;> rfl, by rw [e9] <;> rfl⟩
def p_say (S : St) (sg : Int32) : Int32 × St := if (f_in sg (nI 33) (nI 126)) = 0 then ((-2), S) else if (sgnN S) < 50 then ((va_up (va_up S 18 (upd (S 18) (sgnN S) sg)) 42 (fun _ => nI (sgnN S + 1))) 42 0, (va_up (va_up S 18 (upd (S 18) (sgnN S) sg)) 42 (fun _ => nI (sgnN S + 1)))) else ((-4), S)
set_option maxHeartbeats 4000000 in
set_option maxRecDepth 20000 in
theorem c_X6_say (l : Launch) (D : va_G) (k : Nat → ClassId) (q z : Nat → Nat) (g : Nat → Option Nat) (S : St) (X : va_W) (sg : Int32) (hT : okT S) : CI l D k yX6_say cX6_say 2 (some .int) 2 0 0 [.ref (q 0), .int sg] (wC k q z g S X) (fun r w' => w' = wC k q z g ((p_say S sg).2) X ∧ r = (p_say S sg).1) := by
  refine CI.mk (by decide) (Nat.le_of_ble_eq_true rfl) ?_
  intro p e R s m args below meth c A Q ls F hret hw hl
  have hx := xs_hx F
  have hb := xs_hb F
  have hl : lv_has ls 2 [(0, .ref (q 0)), (1, .int sg)] := hl
  have h50 := hT.2
  refine lv_iload_n hx hb dX6_say_0 rfl (lv_at hl 1 rfl) ?_
  refine lv_bipush (v := nI 33) hx hb dX6_say_1 rfl ?_
  refine lv_bipush (v := nI 126) hx hb dX6_say_3 rfl ?_
  refine x_fSI (rest := []) (c_X6_within l D k (wC k q z g S X) sg (nI 33) (nI 126)) mo_X6_93 F hw (Nat.le_of_ble_eq_true rfl) (x_cs F (Nat.le_of_ble_eq_true rfl) (Nat.le_of_ble_eq_true rfl)) rfl rfl hl.1 (Nat.le_of_ble_eq_true rfl) dX6_say_5 (fun H locs hw => ?_)
  refine lv_if_ne (tgt := 14) hx hb dX6_say_8 rfl (fun c8 => ?_) (fun c8 => ?_)
  · refine lv_aload_n hx hb dX6_say_14 rfl (lv_at hl 0 rfl) ?_
    refine x_getr frC_0_2 F hw fo_X6_23 dX6_say_15 ?_
    refine x_geti fiC_42 F hw fo_X6_100 dX6_say_18 ?_
    refine x_top (y := nI (sgnN S)) hT.1 ?_
    refine lv_bipush (v := nI 50) hx hb dX6_say_21 rfl ?_
    refine x_icmp_lt (sgnN S) 50 F (by omega) (by omega) (tgt := 29) dX6_say_23 rfl (fun c23 => ?_) (fun c23 => ?_)
    · refine lv_aload_n hx hb dX6_say_29 rfl (lv_at hl 0 rfl) ?_
      refine x_getr frC_0_2 F hw fo_X6_23 dX6_say_30 ?_
      refine lv_iload_n hx hb dX6_say_33 rfl (lv_at hl 1 rfl) ?_
      refine x_fVV (rest := []) (c_X3_append l D k q z g S X sg (by exact hT.1) (by exact c23)) mo_X6_103 obC_17 F hw (Nat.le_of_ble_eq_true rfl) (x_cs F (Nat.le_of_ble_eq_true rfl) (Nat.le_of_ble_eq_true rfl)) rfl rfl hl.1 (Nat.le_of_ble_eq_true rfl) dX6_say_34 (fun H locs hw => ?_)
      refine lv_aload_n hx hb dX6_say_37 rfl (lv_at hl 0 rfl) ?_
      refine x_getr frC_0_2 F hw fo_X6_23 dX6_say_38 ?_
      refine x_geti fiC_42 F hw fo_X6_100 dX6_say_41 ?_
      have e9 : p_say S sg = ((va_up (va_up S 18 (upd (S 18) (sgnN S) sg)) 42 (fun _ => nI (sgnN S + 1))) 42 0, (va_up (va_up S 18 (upd (S 18) (sgnN S) sg)) 42 (fun _ => nI (sgnN S + 1)))) := by unfold p_say; rw [if_neg c8, if_pos c23]
      exact hret _ _ _ _ _ _ dX6_say_44 hw rfl ⟨by rw [e9] <;> rfl, by rw [e9] <;> rfl⟩
    · refine lv_bipush (v := (-4)) hx hb dX6_say_26 rfl ?_
      have e9 : p_say S sg = ((-4), S) := by unfold p_say; rw [if_neg c8, if_neg (by omega)]
      exact hret _ _ _ _ _ _ dX6_say_28 hw rfl ⟨by rw [e9] <;> rfl, by rw [e9] <;> rfl⟩
  · refine lv_bipush (v := (-2)) hx hb dX6_say_11 rfl ?_
    have e9 : p_say S sg = ((-2), S) := by unfold p_say; rw [if_pos c8]
    exact hret _ _ _ _ _ _ dX6_say_13 hw rfl ⟨by rw [e9] <;> rfl, by rw [e9] <;> rfl⟩
def p_wipe (S : St)  : Int32 × St := (nI (sgnN S), (va_up S 42 (fun _ => nI 0)))
set_option maxHeartbeats 4000000 in
set_option maxRecDepth 20000 in
theorem c_X6_wipe (l : Launch) (D : va_G) (k : Nat → ClassId) (q z : Nat → Nat) (g : Nat → Option Nat) (S : St) (X : va_W) (hT : okT S) : CI l D k yX6_wipe cX6_wipe 2 (some .int) 0 0 0 [.ref (q 0)] (wC k q z g S X) (fun r w' => w' = wC k q z g ((p_wipe S).2) X ∧ r = (p_wipe S).1) := by
  refine CI.mk (by decide) (Nat.le_of_ble_eq_true rfl) ?_
  intro p e R s m args below meth c A Q ls F hret hw hl
  have hx := xs_hx F
  have hb := xs_hb F
  have hl : lv_has ls 2 [(0, .ref (q 0))] := hl
  have h50 := hT.2
  refine lv_aload_n hx hb dX6_wipe_0 rfl (lv_at hl 0 rfl) ?_
  refine x_getr frC_0_2 F hw fo_X6_23 dX6_wipe_1 ?_
  refine x_geti fiC_42 F hw fo_X6_100 dX6_wipe_4 ?_
  refine x_top (y := nI (sgnN S)) hT.1 ?_
  refine lv_istore_n (lv' := [(1, .int (nI (sgnN S))), (0, .ref (q 0))]) hx hb dX6_wipe_7 rfl hl (Nat.le_of_ble_eq_true rfl) rfl (fun ls hl => ?_)
  refine lv_aload_n hx hb dX6_wipe_8 rfl (lv_at hl 1 rfl) ?_
  refine x_getr frC_0_2 F hw fo_X6_23 dX6_wipe_9 ?_
  refine lv_iconst (v := nI 0) hx hb dX6_wipe_12 rfl ?_
  refine x_puti fiC_42 F hw fo_X6_100 rfl rfl dX6_wipe_13 (fun H locs hw => ?_)
  refine lv_iload_n hx hb dX6_wipe_16 rfl (lv_at hl 0 rfl) ?_
  have e9 : p_wipe S = (nI (sgnN S), (va_up S 42 (fun _ => nI 0))) := by unfold p_wipe; rfl
  exact hret _ _ _ _ _ _ dX6_wipe_17 hw rfl ⟨by rw [e9] <;> rfl, by rw [e9] <;> rfl⟩
def p_fault (S : St)  : Int32 × St := (fltR (S 18) (sgnN S), S)
set_option maxHeartbeats 4000000 in
set_option maxRecDepth 20000 in
theorem c_X6_fault (l : Launch) (D : va_G) (k : Nat → ClassId) (q z : Nat → Nat) (g : Nat → Option Nat) (S : St) (X : va_W) (hT : okT S) : CI l D k yX6_fault cX6_fault 1 (some .int) 4 0 0 [.ref (q 0)] (wC k q z g S X) (fun r w' => w' = wC k q z g ((p_fault S).2) X ∧ r = (p_fault S).1) := by
  refine CI.mk (by decide) (Nat.le_of_ble_eq_true rfl) ?_
  intro p e R s m args below meth c A Q ls F hret hw hl
  have hx := xs_hx F
  have hb := xs_hb F
  have hl : lv_has ls 1 [(0, .ref (q 0))] := hl
  refine lv_aload_n hx hb dX6_fault_0 rfl (lv_at hl 0 rfl) ?_
  refine x_getr frC_0_2 F hw fo_X6_23 dX6_fault_1 ?_
  refine x_fVI (rest := []) (c_X3_faultPlace l D k q z g S X (by first | assumption | omega)) mo_X6_107 obC_17 F hw (Nat.le_of_ble_eq_true rfl) (x_cs F (Nat.le_of_ble_eq_true rfl) (Nat.le_of_ble_eq_true rfl)) rfl rfl hl.1 (Nat.le_of_ble_eq_true rfl) dX6_fault_4 (fun H locs hw => ?_)
  have e9 : p_fault S = (fltR (S 18) (sgnN S), S) := by unfold p_fault; rfl
  exact hret _ _ _ _ _ _ dX6_fault_7 hw rfl ⟨by rw [e9] <;> rfl, by rw [e9] <;> rfl⟩
def p_law (S : St)  : Int32 × St := if (fltR (S 18) (sgnN S)) = (-6) then ((va_up (va_up (va_up (grd S 8 4 (rdM (S 18) (sgnN S) (fun a => S (8 + a)))) 41 (fun _ => nI ((liF (S 18) (sgnN S) (sgnN S))))) 42 (fun _ => nI 0)) 45 (fun _ => nI 0)) 41 0, (va_up (va_up (va_up (grd S 8 4 (rdM (S 18) (sgnN S) (fun a => S (8 + a)))) 41 (fun _ => nI ((liF (S 18) (sgnN S) (sgnN S))))) 42 (fun _ => nI 0)) 45 (fun _ => nI 0))) else ((-5), S)
set_option maxHeartbeats 4000000 in
set_option maxRecDepth 20000 in
theorem c_X6_law (l : Launch) (D : va_G) (k : Nat → ClassId) (q z : Nat → Nat) (g : Nat → Option Nat) (S : St) (X : va_W) (hT : okT S) : CI l D k yX6_law cX6_law 1 (some .int) 5 0 0 [.ref (q 0)] (wC k q z g S X) (fun r w' => w' = wC k q z g ((p_law S).2) X ∧ r = (p_law S).1) := by
  refine CI.mk (by decide) (Nat.le_of_ble_eq_true rfl) ?_
  intro p e R s m args below meth c A Q ls F hret hw hl
  have hx := xs_hx F
  have hb := xs_hb F
  have hl : lv_has ls 1 [(0, .ref (q 0))] := hl
  have h50 := hT.2
  refine lv_aload_n hx hb dX6_law_0 rfl (lv_at hl 0 rfl) ?_
  refine x_getr frC_0_2 F hw fo_X6_23 dX6_law_1 ?_
  refine x_fVI (rest := []) (c_X3_faultPlace l D k q z g S X (by first | assumption | omega)) mo_X6_107 obC_17 F hw (Nat.le_of_ble_eq_true rfl) (x_cs F (Nat.le_of_ble_eq_true rfl) (Nat.le_of_ble_eq_true rfl)) rfl rfl hl.1 (Nat.le_of_ble_eq_true rfl) dX6_law_4 (fun H locs hw => ?_)
  refine lv_bipush (v := (-6)) hx hb dX6_law_7 rfl ?_
  refine lv_icmp_eq (tgt := 15) hx hb dX6_law_9 rfl (fun c9 => ?_) (fun c9 => ?_)
  · have hfl := flt_ok (by omega) c9
    refine lv_aload_n hx hb dX6_law_15 rfl (lv_at hl 0 rfl) ?_
    refine x_getr frC_0_0 F hw fo_X6_10 dX6_law_16 ?_
    refine lv_aload_n hx hb dX6_law_19 rfl (lv_at hl 0 rfl) ?_
    refine x_getr frC_0_2 F hw fo_X6_23 dX6_law_20 ?_
    refine lv_aload_n hx hb dX6_law_23 rfl (lv_at hl 0 rfl) ?_
    refine x_getr frC_0_0 F hw fo_X6_10 dX6_law_24 ?_
    refine x_getr frC_2_6 F hw fo_X6_111 dX6_law_27 ?_
    refine x_fVI (rest := [.ref (q 2)]) (c_X3_readInto l D k q z g S X (by first | assumption | omega) (by exact hfl)) mo_X6_115 obC_17 F hw (Nat.le_of_ble_eq_true rfl) (x_cs F (Nat.le_of_ble_eq_true rfl) (Nat.le_of_ble_eq_true rfl)) rfl rfl hl.1 (Nat.le_of_ble_eq_true rfl) dX6_law_30 (fun H locs hw => ?_)
    refine x_puti fiC_41 F hw fo_X6_119 rfl rfl dX6_law_33 (fun H locs hw => ?_)
    refine lv_aload_n hx hb dX6_law_36 rfl (lv_at hl 0 rfl) ?_
    refine x_getr frC_0_2 F hw fo_X6_23 dX6_law_37 ?_
    refine lv_iconst (v := nI 0) hx hb dX6_law_40 rfl ?_
    refine x_puti fiC_42 F hw fo_X6_100 rfl rfl dX6_law_41 (fun H locs hw => ?_)
    refine lv_aload_n hx hb dX6_law_44 rfl (lv_at hl 0 rfl) ?_
    refine x_getr frC_0_3 F hw fo_X6_32 dX6_law_45 ?_
    refine x_fVV (rest := []) (c_X5_forget l D k q z g (va_up (va_up (grd S 8 4 (rdM (S 18) (sgnN S) (fun a => S (8 + a)))) 41 (fun _ => nI ((liF (S 18) (sgnN S) (sgnN S))))) 42 (fun _ => nI 0)) X ) mo_X6_69 obC_19 F hw (Nat.le_of_ble_eq_true rfl) (x_cs F (Nat.le_of_ble_eq_true rfl) (Nat.le_of_ble_eq_true rfl)) rfl rfl hl.1 (Nat.le_of_ble_eq_true rfl) dX6_law_48 (fun H locs hw => ?_)
    refine lv_aload_n hx hb dX6_law_51 rfl (lv_at hl 0 rfl) ?_
    refine x_getr frC_0_0 F hw fo_X6_10 dX6_law_52 ?_
    refine x_geti fiC_41 F hw fo_X6_119 dX6_law_55 ?_
    have e9 : p_law S = ((va_up (va_up (va_up (grd S 8 4 (rdM (S 18) (sgnN S) (fun a => S (8 + a)))) 41 (fun _ => nI ((liF (S 18) (sgnN S) (sgnN S))))) 42 (fun _ => nI 0)) 45 (fun _ => nI 0)) 41 0, (va_up (va_up (va_up (grd S 8 4 (rdM (S 18) (sgnN S) (fun a => S (8 + a)))) 41 (fun _ => nI ((liF (S 18) (sgnN S) (sgnN S))))) 42 (fun _ => nI 0)) 45 (fun _ => nI 0))) := by unfold p_law; rw [if_pos c9]
    exact hret _ _ _ _ _ _ dX6_law_58 hw rfl ⟨by rw [e9] <;> rfl, by rw [e9] <;> rfl⟩
  · refine lv_bipush (v := (-5)) hx hb dX6_law_12 rfl ?_
    have e9 : p_law S = ((-5), S) := by unfold p_law; rw [if_neg c9]
    exact hret _ _ _ _ _ _ dX6_law_14 hw rfl ⟨by rw [e9] <;> rfl, by rw [e9] <;> rfl⟩
def p_slip (S : St) (fr : Int32) (to : Int32) : Int32 × St := if (f_in fr (nI 0) (nI 3)) = 0 then ((-2), S) else if (f_in to (nI 0) (nI 3)) = 0 then ((-2), S) else (S (8 + (clN fr)) (clN to), S)
set_option maxHeartbeats 4000000 in
set_option maxRecDepth 20000 in
theorem c_X6_slip (l : Launch) (D : va_G) (k : Nat → ClassId) (q z : Nat → Nat) (g : Nat → Option Nat) (S : St) (X : va_W) (fr : Int32) (to : Int32) : CI l D k yX6_slip cX6_slip 3 (some .int) 1 0 0 [.ref (q 0), .int fr, .int to] (wC k q z g S X) (fun r w' => w' = wC k q z g ((p_slip S fr to).2) X ∧ r = (p_slip S fr to).1) := by
  refine CI.mk (by decide) (Nat.le_of_ble_eq_true rfl) ?_
  intro p e R s m args below meth c A Q ls F hret hw hl
  have hx := xs_hx F
  have hb := xs_hb F
  have hl : lv_has ls 3 [(0, .ref (q 0)), (1, .int fr), (2, .int to)] := hl
  refine lv_iload_n hx hb dX6_slip_0 rfl (lv_at hl 1 rfl) ?_
  refine lv_iconst (v := nI 0) hx hb dX6_slip_1 rfl ?_
  refine lv_iconst (v := nI 3) hx hb dX6_slip_2 rfl ?_
  refine x_fSI (rest := []) (c_X6_within l D k (wC k q z g S X) fr (nI 0) (nI 3)) mo_X6_93 F hw (Nat.le_of_ble_eq_true rfl) (x_cs F (Nat.le_of_ble_eq_true rfl) (Nat.le_of_ble_eq_true rfl)) rfl rfl hl.1 (Nat.le_of_ble_eq_true rfl) dX6_slip_3 (fun H locs hw => ?_)
  refine lv_if_eq (tgt := 18) hx hb dX6_slip_6 rfl (fun c6 => ?_) (fun c6 => ?_)
  · refine lv_bipush (v := (-2)) hx hb dX6_slip_18 rfl ?_
    have e9 : p_slip S fr to = ((-2), S) := by unfold p_slip; rw [if_pos c6]
    exact hret _ _ _ _ _ _ dX6_slip_20 hw rfl ⟨by rw [e9] <;> rfl, by rw [e9] <;> rfl⟩
  · have hfr := f_in_t (by decide) c6
    refine lv_iload_n hx hb dX6_slip_9 rfl (lv_at hl 2 rfl) ?_
    refine lv_iconst (v := nI 0) hx hb dX6_slip_10 rfl ?_
    refine lv_iconst (v := nI 3) hx hb dX6_slip_11 rfl ?_
    refine x_fSI (rest := []) (c_X6_within l D k (wC k q z g S X) to (nI 0) (nI 3)) mo_X6_93 F hw (Nat.le_of_ble_eq_true rfl) (x_cs F (Nat.le_of_ble_eq_true rfl) (Nat.le_of_ble_eq_true rfl)) rfl rfl hl.1 (Nat.le_of_ble_eq_true rfl) dX6_slip_12 (fun H locs hw => ?_)
    refine lv_if_ne (tgt := 21) hx hb dX6_slip_15 rfl (fun c15 => ?_) (fun c15 => ?_)
    · have hto := f_in_t (by decide) c15
      refine lv_aload_n hx hb dX6_slip_21 rfl (lv_at hl 0 rfl) ?_
      refine x_getr frC_0_0 F hw fo_X6_10 dX6_slip_22 ?_
      refine x_getr frC_2_6 F hw fo_X6_111 dX6_slip_25 ?_
      refine lv_iload_n hx hb dX6_slip_28 rfl (lv_at hl 1 rfl) ?_
      have hfr2 := hfr.2
      refine x_grow giC_7 F hw (clN fr) hfr.1 (by have := hfr.2; omega) dX6_slip_29 ?_
      refine lv_iload_n hx hb dX6_slip_30 rfl (lv_at hl 2 rfl) ?_
      have hto2 := hto.2
      refine x_iald (aiC_slip (j := (clN fr)) (by omega)) F hw (clN to) hto.1 (by have := hto.2; omega) dX6_slip_31 ?_
      have e9 : p_slip S fr to = (S (8 + (clN fr)) (clN to), S) := by unfold p_slip; rw [if_neg c6, if_neg c15]
      exact hret _ _ _ _ _ _ dX6_slip_32 hw rfl ⟨by rw [e9] <;> rfl, by rw [e9] <;> rfl⟩
    · refine lv_bipush (v := (-2)) hx hb dX6_slip_18 rfl ?_
      have e9 : p_slip S fr to = ((-2), S) := by unfold p_slip; rw [if_neg c6, if_pos c15]
      exact hret _ _ _ _ _ _ dX6_slip_20 hw rfl ⟨by rw [e9] <;> rfl, by rw [e9] <;> rfl⟩
def p_cost (S : St) (d1 : Int32) (d2 : Int32) : Int32 × St := if (isDr d1) = 0 then ((-2), S) else if (isDr d2) = 0 then ((-2), S) else (costF (slC S) d1 d2 8, S)
set_option maxHeartbeats 4000000 in
set_option maxRecDepth 20000 in
theorem c_X6_cost (l : Launch) (D : va_G) (k : Nat → ClassId) (q z : Nat → Nat) (g : Nat → Option Nat) (S : St) (X : va_W) (d1 : Int32) (d2 : Int32) : CI l D k yX6_cost cX6_cost 3 (some .int) 2 0 0 [.ref (q 0), .int d1, .int d2] (wC k q z g S X) (fun r w' => w' = wC k q z g ((p_cost S d1 d2).2) X ∧ r = (p_cost S d1 d2).1) := by
  refine CI.mk (by decide) (Nat.le_of_ble_eq_true rfl) ?_
  intro p e R s m args below meth c A Q ls F hret hw hl
  have hx := xs_hx F
  have hb := xs_hb F
  have hl : lv_has ls 3 [(0, .ref (q 0)), (1, .int d1), (2, .int d2)] := hl
  refine lv_iload_n hx hb dX6_cost_0 rfl (lv_at hl 1 rfl) ?_
  refine x_fSI (rest := []) (c_X6_isDrawing l D k (wC k q z g S X) d1) mo_X6_57 F hw (Nat.le_of_ble_eq_true rfl) (x_cs F (Nat.le_of_ble_eq_true rfl) (Nat.le_of_ble_eq_true rfl)) rfl rfl hl.1 (Nat.le_of_ble_eq_true rfl) dX6_cost_1 (fun H locs hw => ?_)
  refine lv_if_eq (tgt := 14) hx hb dX6_cost_4 rfl (fun c4 => ?_) (fun c4 => ?_)
  · refine lv_bipush (v := (-2)) hx hb dX6_cost_14 rfl ?_
    have e9 : p_cost S d1 d2 = ((-2), S) := by unfold p_cost; rw [if_pos c4]
    exact hret _ _ _ _ _ _ dX6_cost_16 hw rfl ⟨by rw [e9] <;> rfl, by rw [e9] <;> rfl⟩
  · refine lv_iload_n hx hb dX6_cost_7 rfl (lv_at hl 2 rfl) ?_
    refine x_fSI (rest := []) (c_X6_isDrawing l D k (wC k q z g S X) d2) mo_X6_57 F hw (Nat.le_of_ble_eq_true rfl) (x_cs F (Nat.le_of_ble_eq_true rfl) (Nat.le_of_ble_eq_true rfl)) rfl rfl hl.1 (Nat.le_of_ble_eq_true rfl) dX6_cost_8 (fun H locs hw => ?_)
    refine lv_if_ne (tgt := 17) hx hb dX6_cost_11 rfl (fun c11 => ?_) (fun c11 => ?_)
    · refine lv_aload_n hx hb dX6_cost_17 rfl (lv_at hl 0 rfl) ?_
      refine x_getr frC_0_0 F hw fo_X6_10 dX6_cost_18 ?_
      refine lv_iload_n hx hb dX6_cost_21 rfl (lv_at hl 1 rfl) ?_
      refine lv_iload_n hx hb dX6_cost_22 rfl (lv_at hl 2 rfl) ?_
      refine x_fVI (rest := []) (c_X1_tracingCost l D k q z g S X d1 d2) mo_X6_122 obC_2 F hw (Nat.le_of_ble_eq_true rfl) (x_cs F (Nat.le_of_ble_eq_true rfl) (Nat.le_of_ble_eq_true rfl)) rfl rfl hl.1 (Nat.le_of_ble_eq_true rfl) dX6_cost_23 (fun H locs hw => ?_)
      have e9 : p_cost S d1 d2 = (costF (slC S) d1 d2 8, S) := by unfold p_cost; rw [if_neg c4, if_neg c11]
      exact hret _ _ _ _ _ _ dX6_cost_26 hw rfl ⟨by rw [e9] <;> rfl, by rw [e9] <;> rfl⟩
    · refine lv_bipush (v := (-2)) hx hb dX6_cost_14 rfl ?_
      have e9 : p_cost S d1 d2 = ((-2), S) := by unfold p_cost; rw [if_neg c4, if_pos c11]
      exact hret _ _ _ _ _ _ dX6_cost_16 hw rfl ⟨by rw [e9] <;> rfl, by rw [e9] <;> rfl⟩
def p_width (S : St) (pi : Int32) (v : Int32) : Int32 × St := if (haP S pi) = 0 then ((-1), S) else if (f_in v (nI 0) (nI 999)) = 0 then ((-2), S) else ((if S 6 (clN pi) = 0 then (-6) else S 6 (clN pi)), (va_up S 6 (upd (S 6) (clN pi) v)))
set_option maxHeartbeats 4000000 in
set_option maxRecDepth 20000 in
theorem c_X6_width (l : Launch) (D : va_G) (k : Nat → ClassId) (q z : Nat → Nat) (g : Nat → Option Nat) (S : St) (X : va_W) (pi : Int32) (v : Int32) (hP : okP S) : CI l D k yX6_width cX6_width 4 (some .int) 1 0 0 [.ref (q 0), .int pi, .int v] (wC k q z g S X) (fun r w' => w' = wC k q z g ((p_width S pi v).2) X ∧ r = (p_width S pi v).1) := by
  refine CI.mk (by decide) (Nat.le_of_ble_eq_true rfl) ?_
  intro p e R s m args below meth c A Q ls F hret hw hl
  have hx := xs_hx F
  have hb := xs_hb F
  have hl : lv_has ls 4 [(0, .ref (q 0)), (1, .int pi), (2, .int v)] := hl
  have h6 := hP.2
  refine lv_aload_n hx hb dX6_width_0 rfl (lv_at hl 0 rfl) ?_
  refine x_getr frC_0_0 F hw fo_X6_10 dX6_width_1 ?_
  refine lv_iload_n hx hb dX6_width_4 rfl (lv_at hl 1 rfl) ?_
  refine x_fVI (rest := []) (c_X1_hasPicture l D k q z g S X pi) mo_X6_76 obC_2 F hw (Nat.le_of_ble_eq_true rfl) (x_cs F (Nat.le_of_ble_eq_true rfl) (Nat.le_of_ble_eq_true rfl)) rfl rfl hl.1 (Nat.le_of_ble_eq_true rfl) dX6_width_5 (fun H locs hw => ?_)
  refine lv_if_ne (tgt := 13) hx hb dX6_width_8 rfl (fun c8 => ?_) (fun c8 => ?_)
  · have hpi := haP_t hP c8
    refine lv_iload_n hx hb dX6_width_13 rfl (lv_at hl 2 rfl) ?_
    refine lv_iconst (v := nI 0) hx hb dX6_width_14 rfl ?_
    refine lv_sipush (v := nI 999) hx hb dX6_width_15 rfl ?_
    refine x_fSI (rest := []) (c_X6_within l D k (wC k q z g S X) v (nI 0) (nI 999)) mo_X6_93 F hw (Nat.le_of_ble_eq_true rfl) (x_cs F (Nat.le_of_ble_eq_true rfl) (Nat.le_of_ble_eq_true rfl)) rfl rfl hl.1 (Nat.le_of_ble_eq_true rfl) dX6_width_18 (fun H locs hw => ?_)
    refine lv_if_ne (tgt := 27) hx hb dX6_width_21 rfl (fun c21 => ?_) (fun c21 => ?_)
    · refine lv_aload_n hx hb dX6_width_27 rfl (lv_at hl 0 rfl) ?_
      refine x_getr frC_0_0 F hw fo_X6_10 dX6_width_28 ?_
      refine lv_iload_n hx hb dX6_width_31 rfl (lv_at hl 1 rfl) ?_
      refine x_top (y := nI (clN pi)) hpi.1 ?_
      refine x_fVI (rest := []) (c_X1_widthOrNone l D k q z g S X (clN pi) (by have := hpi.2; omega)) mo_X6_89 obC_2 F hw (Nat.le_of_ble_eq_true rfl) (x_cs F (Nat.le_of_ble_eq_true rfl) (Nat.le_of_ble_eq_true rfl)) rfl rfl hl.1 (Nat.le_of_ble_eq_true rfl) dX6_width_32 (fun H locs hw => ?_)
      refine lv_istore_n (lv' := [(3, .int ((if S 6 (clN pi) = 0 then (-6) else S 6 (clN pi)))), (0, .ref (q 0)), (1, .int pi), (2, .int v)]) hx hb dX6_width_35 rfl hl (Nat.le_of_ble_eq_true rfl) rfl (fun ls hl => ?_)
      refine lv_aload_n hx hb dX6_width_36 rfl (lv_at hl 1 rfl) ?_
      refine x_getr frC_0_0 F hw fo_X6_10 dX6_width_37 ?_
      refine x_getr frC_2_5 F hw fo_X6_164 dX6_width_40 ?_
      refine lv_iload_n hx hb dX6_width_43 rfl (lv_at hl 2 rfl) ?_
      refine lv_iload_n hx hb dX6_width_44 rfl (lv_at hl 3 rfl) ?_
      refine x_iast aiC_6 F hw (clN pi) hpi.1 (by have := hpi.2; omega) dX6_width_45 (fun H locs hw => ?_)
      refine lv_iload_n hx hb dX6_width_46 rfl (lv_at hl 0 rfl) ?_
      have e9 : p_width S pi v = ((if S 6 (clN pi) = 0 then (-6) else S 6 (clN pi)), (va_up S 6 (upd (S 6) (clN pi) v))) := by unfold p_width; rw [if_neg c8, if_neg c21]
      exact hret _ _ _ _ _ _ dX6_width_47 hw rfl ⟨by rw [e9] <;> rfl, by rw [e9] <;> rfl⟩
    · refine lv_bipush (v := (-2)) hx hb dX6_width_24 rfl ?_
      have e9 : p_width S pi v = ((-2), S) := by unfold p_width; rw [if_neg c8, if_pos c21]
      exact hret _ _ _ _ _ _ dX6_width_26 hw rfl ⟨by rw [e9] <;> rfl, by rw [e9] <;> rfl⟩
  · refine lv_iconst (v := (-1)) hx hb dX6_width_11 rfl ?_
    have e9 : p_width S pi v = ((-1), S) := by unfold p_width; rw [if_pos c8]
    exact hret _ _ _ _ _ _ dX6_width_12 hw rfl ⟨by rw [e9] <;> rfl, by rw [e9] <;> rfl⟩
def p_spread (S : St) (wi : Int32) (lo : Int32) (hi : Int32) : Int32 × St := if (f_in wi (nI 0) (nI 1)) = 0 then ((-2), S) else if (if (nI 1) ≤ lo ∧ lo ≤ hi ∧ hi ≤ (nI 99) then nI 1 else nI 0) = 0 then ((-2), S) else (((nI 100) * (S 13 (clN wi))) + (S 14 (clN wi)), (va_up (va_up S 13 (upd (S 13) (clN wi) lo)) 14 (upd (S 14) (clN wi) hi)))
set_option maxHeartbeats 4000000 in
set_option maxRecDepth 20000 in
theorem c_X6_spread (l : Launch) (D : va_G) (k : Nat → ClassId) (q z : Nat → Nat) (g : Nat → Option Nat) (S : St) (X : va_W) (wi : Int32) (lo : Int32) (hi : Int32) : CI l D k yX6_spread cX6_spread 5 (some .int) 1 0 0 [.ref (q 0), .int wi, .int lo, .int hi] (wC k q z g S X) (fun r w' => w' = wC k q z g ((p_spread S wi lo hi).2) X ∧ r = (p_spread S wi lo hi).1) := by
  refine CI.mk (by decide) (Nat.le_of_ble_eq_true rfl) ?_
  intro p e R s m args below meth c A Q ls F hret hw hl
  have hx := xs_hx F
  have hb := xs_hb F
  have hl : lv_has ls 5 [(0, .ref (q 0)), (1, .int wi), (2, .int lo), (3, .int hi)] := hl
  refine lv_iload_n hx hb dX6_spread_0 rfl (lv_at hl 1 rfl) ?_
  refine lv_iconst (v := nI 0) hx hb dX6_spread_1 rfl ?_
  refine lv_iconst (v := nI 1) hx hb dX6_spread_2 rfl ?_
  refine x_fSI (rest := []) (c_X6_within l D k (wC k q z g S X) wi (nI 0) (nI 1)) mo_X6_93 F hw (Nat.le_of_ble_eq_true rfl) (x_cs F (Nat.le_of_ble_eq_true rfl) (Nat.le_of_ble_eq_true rfl)) rfl rfl hl.1 (Nat.le_of_ble_eq_true rfl) dX6_spread_3 (fun H locs hw => ?_)
  refine lv_if_eq (tgt := 20) hx hb dX6_spread_6 rfl (fun c6 => ?_) (fun c6 => ?_)
  · refine lv_bipush (v := (-2)) hx hb dX6_spread_20 rfl ?_
    have e9 : p_spread S wi lo hi = ((-2), S) := by unfold p_spread; rw [if_pos c6]
    exact hret _ _ _ _ _ _ dX6_spread_22 hw rfl ⟨by rw [e9] <;> rfl, by rw [e9] <;> rfl⟩
  · have hwi := f_in_t (by decide) c6
    refine lv_iload_n hx hb dX6_spread_9 rfl (lv_at hl 2 rfl) ?_
    refine lv_iload_n hx hb dX6_spread_10 rfl (lv_at hl 3 rfl) ?_
    refine lv_iconst (v := nI 1) hx hb dX6_spread_11 rfl ?_
    refine lv_bipush (v := nI 99) hx hb dX6_spread_12 rfl ?_
    refine x_fSI (rest := []) (c_X6_isSpan l D k (wC k q z g S X) lo hi (nI 1) (nI 99)) mo_X6_61 F hw (Nat.le_of_ble_eq_true rfl) (x_cs F (Nat.le_of_ble_eq_true rfl) (Nat.le_of_ble_eq_true rfl)) rfl rfl hl.1 (Nat.le_of_ble_eq_true rfl) dX6_spread_14 (fun H locs hw => ?_)
    refine lv_if_ne (tgt := 23) hx hb dX6_spread_17 rfl (fun c17 => ?_) (fun c17 => ?_)
    · refine lv_bipush (v := nI 100) hx hb dX6_spread_23 rfl ?_
      refine lv_aload_n hx hb dX6_spread_25 rfl (lv_at hl 0 rfl) ?_
      refine x_getr frC_0_0 F hw fo_X6_10 dX6_spread_26 ?_
      refine x_getr frC_2_8 F hw fo_X6_167 dX6_spread_29 ?_
      refine lv_iload_n hx hb dX6_spread_32 rfl (lv_at hl 1 rfl) ?_
      refine x_iald aiC_13 F hw (clN wi) hwi.1 (by have := hwi.2; omega) dX6_spread_33 ?_
      refine lv_imul hx hb dX6_spread_34 ?_
      refine lv_aload_n hx hb dX6_spread_35 rfl (lv_at hl 0 rfl) ?_
      refine x_getr frC_0_0 F hw fo_X6_10 dX6_spread_36 ?_
      refine x_getr frC_2_9 F hw fo_X6_170 dX6_spread_39 ?_
      refine lv_iload_n hx hb dX6_spread_42 rfl (lv_at hl 1 rfl) ?_
      refine x_iald aiC_14 F hw (clN wi) hwi.1 (by have := hwi.2; omega) dX6_spread_43 ?_
      refine lv_iadd hx hb dX6_spread_44 ?_
      refine lv_istore (lv' := [(4, .int (((nI 100) * (S 13 (clN wi))) + (S 14 (clN wi)))), (0, .ref (q 0)), (1, .int wi), (2, .int lo), (3, .int hi)]) hx hb dX6_spread_45 hl (Nat.le_of_ble_eq_true rfl) rfl (fun ls hl => ?_)
      refine lv_aload_n hx hb dX6_spread_47 rfl (lv_at hl 1 rfl) ?_
      refine x_getr frC_0_0 F hw fo_X6_10 dX6_spread_48 ?_
      refine x_getr frC_2_8 F hw fo_X6_167 dX6_spread_51 ?_
      refine lv_iload_n hx hb dX6_spread_54 rfl (lv_at hl 2 rfl) ?_
      refine lv_iload_n hx hb dX6_spread_55 rfl (lv_at hl 3 rfl) ?_
      refine x_iast aiC_13 F hw (clN wi) hwi.1 (by have := hwi.2; omega) dX6_spread_56 (fun H locs hw => ?_)
      refine lv_aload_n hx hb dX6_spread_57 rfl (lv_at hl 1 rfl) ?_
      refine x_getr frC_0_0 F hw fo_X6_10 dX6_spread_58 ?_
      refine x_getr frC_2_9 F hw fo_X6_170 dX6_spread_61 ?_
      refine lv_iload_n hx hb dX6_spread_64 rfl (lv_at hl 2 rfl) ?_
      refine lv_iload_n hx hb dX6_spread_65 rfl (lv_at hl 4 rfl) ?_
      refine x_iast aiC_14 F hw (clN wi) hwi.1 (by have := hwi.2; omega) dX6_spread_66 (fun H locs hw => ?_)
      refine lv_iload hx hb dX6_spread_67 (lv_at hl 0 rfl) ?_
      have e9 : p_spread S wi lo hi = (((nI 100) * (S 13 (clN wi))) + (S 14 (clN wi)), (va_up (va_up S 13 (upd (S 13) (clN wi) lo)) 14 (upd (S 14) (clN wi) hi))) := by unfold p_spread; rw [if_neg c6, if_neg c17]
      exact hret _ _ _ _ _ _ dX6_spread_69 hw rfl ⟨by rw [e9] <;> rfl, by rw [e9] <;> rfl⟩
    · refine lv_bipush (v := (-2)) hx hb dX6_spread_20 rfl ?_
      have e9 : p_spread S wi lo hi = ((-2), S) := by unfold p_spread; rw [if_neg c6, if_pos c17]
      exact hret _ _ _ _ _ _ dX6_spread_22 hw rfl ⟨by rw [e9] <;> rfl, by rw [e9] <;> rfl⟩
def p_aged (S : St) (pi : Int32) (wh : Int32) : Int32 × St := if (haP S pi) = 0 then ((-1), S) else if (f_in wh (nI 0) (nI 2)) = 0 then ((-2), S) else if (S 6 (clN pi)) = 0 then ((-3), S) else if ((meaS S (S 6 (clN pi))) 50 0) = 0 then ((-5), (meaS S (S 6 (clN pi)))) else if wh = nI 0 then ((meaS S (S 6 (clN pi))) 48 0, (meaS S (S 6 (clN pi)))) else if wh = nI 1 then ((meaS S (S 6 (clN pi))) 49 0, (meaS S (S 6 (clN pi)))) else ((meaS S (S 6 (clN pi))) 50 0, (meaS S (S 6 (clN pi))))
set_option maxHeartbeats 4000000 in
set_option maxRecDepth 20000 in
theorem c_X6_aged (l : Launch) (D : va_G) (k : Nat → ClassId) (q z : Nat → Nat) (g : Nat → Option Nat) (S : St) (X : va_W) (pi : Int32) (wh : Int32) (hP : okP S) (hG : okG S) : CI l D k yX6_aged cX6_aged 3 (some .int) 3 0 0 [.ref (q 0), .int pi, .int wh] (wC k q z g S X) (fun r w' => w' = wC k q z g ((p_aged S pi wh).2) X ∧ r = (p_aged S pi wh).1) := by
  refine CI.mk (by decide) (Nat.le_of_ble_eq_true rfl) ?_
  intro p e R s m args below meth c A Q ls F hret hw hl
  have hx := xs_hx F
  have hb := xs_hb F
  have hl : lv_has ls 3 [(0, .ref (q 0)), (1, .int pi), (2, .int wh)] := hl
  have h6 := hP.2
  refine lv_aload_n hx hb dX6_aged_0 rfl (lv_at hl 0 rfl) ?_
  refine x_getr frC_0_0 F hw fo_X6_10 dX6_aged_1 ?_
  refine lv_iload_n hx hb dX6_aged_4 rfl (lv_at hl 1 rfl) ?_
  refine x_fVI (rest := []) (c_X1_hasPicture l D k q z g S X pi) mo_X6_76 obC_2 F hw (Nat.le_of_ble_eq_true rfl) (x_cs F (Nat.le_of_ble_eq_true rfl) (Nat.le_of_ble_eq_true rfl)) rfl rfl hl.1 (Nat.le_of_ble_eq_true rfl) dX6_aged_5 (fun H locs hw => ?_)
  refine lv_if_ne (tgt := 13) hx hb dX6_aged_8 rfl (fun c8 => ?_) (fun c8 => ?_)
  · have hpi := haP_t hP c8
    refine lv_iload_n hx hb dX6_aged_13 rfl (lv_at hl 2 rfl) ?_
    refine lv_iconst (v := nI 0) hx hb dX6_aged_14 rfl ?_
    refine lv_iconst (v := nI 2) hx hb dX6_aged_15 rfl ?_
    refine x_fSI (rest := []) (c_X6_within l D k (wC k q z g S X) wh (nI 0) (nI 2)) mo_X6_93 F hw (Nat.le_of_ble_eq_true rfl) (x_cs F (Nat.le_of_ble_eq_true rfl) (Nat.le_of_ble_eq_true rfl)) rfl rfl hl.1 (Nat.le_of_ble_eq_true rfl) dX6_aged_16 (fun H locs hw => ?_)
    refine lv_if_ne (tgt := 25) hx hb dX6_aged_19 rfl (fun c19 => ?_) (fun c19 => ?_)
    · refine lv_aload_n hx hb dX6_aged_25 rfl (lv_at hl 0 rfl) ?_
      refine x_getr frC_0_0 F hw fo_X6_10 dX6_aged_26 ?_
      refine x_getr frC_2_5 F hw fo_X6_164 dX6_aged_29 ?_
      refine lv_iload_n hx hb dX6_aged_32 rfl (lv_at hl 1 rfl) ?_
      refine x_iald aiC_6 F hw (clN pi) hpi.1 (by have := hpi.2; omega) dX6_aged_33 ?_
      refine lv_if_ne (tgt := 40) hx hb dX6_aged_34 rfl (fun c34 => ?_) (fun c34 => ?_)
      · refine lv_aload_n hx hb dX6_aged_40 rfl (lv_at hl 0 rfl) ?_
        refine x_getr frC_0_4 F hw fo_X6_39 dX6_aged_41 ?_
        refine lv_aload_n hx hb dX6_aged_44 rfl (lv_at hl 0 rfl) ?_
        refine x_getr frC_0_0 F hw fo_X6_10 dX6_aged_45 ?_
        refine x_getr frC_2_5 F hw fo_X6_164 dX6_aged_48 ?_
        refine lv_iload_n hx hb dX6_aged_51 rfl (lv_at hl 1 rfl) ?_
        refine x_iald aiC_6 F hw (clN pi) hpi.1 (by have := hpi.2; omega) dX6_aged_52 ?_
        refine x_fVV (rest := []) (c_X0_measure l D k q z g S X (S 6 (clN pi)) (by exact hG)) mo_X6_173 obC_31 F hw (Nat.le_of_ble_eq_true rfl) (x_cs F (Nat.le_of_ble_eq_true rfl) (Nat.le_of_ble_eq_true rfl)) rfl rfl hl.1 (Nat.le_of_ble_eq_true rfl) dX6_aged_53 (fun H locs hw => ?_)
        refine lv_aload_n hx hb dX6_aged_56 rfl (lv_at hl 0 rfl) ?_
        refine x_getr frC_0_4 F hw fo_X6_39 dX6_aged_57 ?_
        refine x_geti fiC_50 F hw fo_X6_176 dX6_aged_60 ?_
        refine lv_if_ne (tgt := 69) hx hb dX6_aged_63 rfl (fun c63 => ?_) (fun c63 => ?_)
        · refine lv_iload_n hx hb dX6_aged_69 rfl (lv_at hl 2 rfl) ?_
          rcases Decidable.em (wh = nI 0) with c70_0 | c70_0
          · refine lv_lookup (tgt := 96) hx hb dX6_aged_70 rfl (by rw [c70_0] <;> rfl) rfl ?_
            refine lv_aload_n hx hb dX6_aged_96 rfl (lv_at hl 0 rfl) ?_
            refine x_getr frC_0_4 F hw fo_X6_39 dX6_aged_97 ?_
            refine x_geti fiC_48 F hw fo_X6_177 dX6_aged_100 ?_
            have e9 : p_aged S pi wh = ((meaS S (S 6 (clN pi))) 48 0, (meaS S (S 6 (clN pi)))) := by unfold p_aged; rw [if_neg c8, if_neg c19, if_neg c34, if_neg c63, if_pos c70_0]
            exact hret _ _ _ _ _ _ dX6_aged_103 hw rfl ⟨by rw [e9] <;> rfl, by rw [e9] <;> rfl⟩
          rcases Decidable.em (wh = nI 1) with c70_1 | c70_1
          · refine lv_lookup (tgt := 104) hx hb dX6_aged_70 rfl (by rw [c70_1] <;> rfl) rfl ?_
            refine lv_aload_n hx hb dX6_aged_104 rfl (lv_at hl 0 rfl) ?_
            refine x_getr frC_0_4 F hw fo_X6_39 dX6_aged_105 ?_
            refine x_geti fiC_49 F hw fo_X6_180 dX6_aged_108 ?_
            have e9 : p_aged S pi wh = ((meaS S (S 6 (clN pi))) 49 0, (meaS S (S 6 (clN pi)))) := by unfold p_aged; rw [if_neg c8, if_neg c19, if_neg c34, if_neg c63, if_neg c70_0, if_pos c70_1]
            exact hret _ _ _ _ _ _ dX6_aged_111 hw rfl ⟨by rw [e9] <;> rfl, by rw [e9] <;> rfl⟩
          refine lv_lookup (tgt := 112) hx hb dX6_aged_70 rfl ((lv_osw c70_0 rfl).trans ((lv_osw c70_1 rfl).trans rfl)) rfl ?_
          refine lv_aload_n hx hb dX6_aged_112 rfl (lv_at hl 0 rfl) ?_
          refine x_getr frC_0_4 F hw fo_X6_39 dX6_aged_113 ?_
          refine x_geti fiC_50 F hw fo_X6_176 dX6_aged_116 ?_
          have e9 : p_aged S pi wh = ((meaS S (S 6 (clN pi))) 50 0, (meaS S (S 6 (clN pi)))) := by unfold p_aged; rw [if_neg c8, if_neg c19, if_neg c34, if_neg c63, if_neg c70_0, if_neg c70_1]
          exact hret _ _ _ _ _ _ dX6_aged_119 hw rfl ⟨by rw [e9] <;> rfl, by rw [e9] <;> rfl⟩
        · refine lv_bipush (v := (-5)) hx hb dX6_aged_66 rfl ?_
          have e9 : p_aged S pi wh = ((-5), (meaS S (S 6 (clN pi)))) := by unfold p_aged; rw [if_neg c8, if_neg c19, if_neg c34, if_pos c63]
          exact hret _ _ _ _ _ _ dX6_aged_68 hw rfl ⟨by rw [e9] <;> rfl, by rw [e9] <;> rfl⟩
      · refine lv_bipush (v := (-3)) hx hb dX6_aged_37 rfl ?_
        have e9 : p_aged S pi wh = ((-3), S) := by unfold p_aged; rw [if_neg c8, if_neg c19, if_pos c34]
        exact hret _ _ _ _ _ _ dX6_aged_39 hw rfl ⟨by rw [e9] <;> rfl, by rw [e9] <;> rfl⟩
    · refine lv_bipush (v := (-2)) hx hb dX6_aged_22 rfl ?_
      have e9 : p_aged S pi wh = ((-2), S) := by unfold p_aged; rw [if_neg c8, if_pos c19]
      exact hret _ _ _ _ _ _ dX6_aged_24 hw rfl ⟨by rw [e9] <;> rfl, by rw [e9] <;> rfl⟩
  · refine lv_iconst (v := (-1)) hx hb dX6_aged_11 rfl ?_
    have e9 : p_aged S pi wh = ((-1), S) := by unfold p_aged; rw [if_pos c8]
    exact hret _ _ _ _ _ _ dX6_aged_12 hw rfl ⟨by rw [e9] <;> rfl, by rw [e9] <;> rfl⟩
def p_take (S : St) (pi : Int32) : Int32 × St := if (haP S pi) = 0 then ((-1), S) else if (S 6 (clN pi)) = 0 then ((-3), S) else if ((meaS S (S 6 (clN pi))) 50 0) = 0 then ((-5), (meaS S (S 6 (clN pi)))) else if (if ((meaS S (S 6 (clN pi))) 4 (clN pi)) < ((meaS S (S 6 (clN pi))) 48 0) then ((meaS S (S 6 (clN pi))) 48 0) else ((meaS S (S 6 (clN pi))) 4 (clN pi))) ≤ (if ((meaS S (S 6 (clN pi))) 49 0) < ((meaS S (S 6 (clN pi))) 5 (clN pi)) then ((meaS S (S 6 (clN pi))) 49 0) else ((meaS S (S 6 (clN pi))) 5 (clN pi))) then (((if ((meaS S (S 6 (clN pi))) 49 0) < ((meaS S (S 6 (clN pi))) 5 (clN pi)) then ((meaS S (S 6 (clN pi))) 49 0) else ((meaS S (S 6 (clN pi))) 5 (clN pi))) - (if ((meaS S (S 6 (clN pi))) 4 (clN pi)) < ((meaS S (S 6 (clN pi))) 48 0) then ((meaS S (S 6 (clN pi))) 48 0) else ((meaS S (S 6 (clN pi))) 4 (clN pi)))) + (nI 1), (va_up (va_up (va_up (meaS S (S 6 (clN pi))) 4 (upd ((meaS S (S 6 (clN pi))) 4) (clN pi) (if ((meaS S (S 6 (clN pi))) 4 (clN pi)) < ((meaS S (S 6 (clN pi))) 48 0) then ((meaS S (S 6 (clN pi))) 48 0) else ((meaS S (S 6 (clN pi))) 4 (clN pi))))) 5 (upd ((meaS S (S 6 (clN pi))) 5) (clN pi) (if ((meaS S (S 6 (clN pi))) 49 0) < ((meaS S (S 6 (clN pi))) 5 (clN pi)) then ((meaS S (S 6 (clN pi))) 49 0) else ((meaS S (S 6 (clN pi))) 5 (clN pi))))) 45 (fun _ => nI 0))) else ((-5), (meaS S (S 6 (clN pi))))
set_option maxHeartbeats 4000000 in
set_option maxRecDepth 20000 in
theorem c_X6_take (l : Launch) (D : va_G) (k : Nat → ClassId) (q z : Nat → Nat) (g : Nat → Option Nat) (S : St) (X : va_W) (pi : Int32) (hP : okP S) (hG : okG S) : CI l D k yX6_take cX6_take 4 (some .int) 3 0 0 [.ref (q 0), .int pi] (wC k q z g S X) (fun r w' => w' = wC k q z g ((p_take S pi).2) X ∧ r = (p_take S pi).1) := by
  refine CI.mk (by decide) (Nat.le_of_ble_eq_true rfl) ?_
  intro p e R s m args below meth c A Q ls F hret hw hl
  have hx := xs_hx F
  have hb := xs_hb F
  have hl : lv_has ls 4 [(0, .ref (q 0)), (1, .int pi)] := hl
  have h6 := hP.2
  refine lv_aload_n hx hb dX6_take_0 rfl (lv_at hl 0 rfl) ?_
  refine x_getr frC_0_0 F hw fo_X6_10 dX6_take_1 ?_
  refine lv_iload_n hx hb dX6_take_4 rfl (lv_at hl 1 rfl) ?_
  refine x_fVI (rest := []) (c_X1_hasPicture l D k q z g S X pi) mo_X6_76 obC_2 F hw (Nat.le_of_ble_eq_true rfl) (x_cs F (Nat.le_of_ble_eq_true rfl) (Nat.le_of_ble_eq_true rfl)) rfl rfl hl.1 (Nat.le_of_ble_eq_true rfl) dX6_take_5 (fun H locs hw => ?_)
  refine lv_if_ne (tgt := 13) hx hb dX6_take_8 rfl (fun c8 => ?_) (fun c8 => ?_)
  · have hpi := haP_t hP c8
    refine lv_aload_n hx hb dX6_take_13 rfl (lv_at hl 0 rfl) ?_
    refine x_getr frC_0_0 F hw fo_X6_10 dX6_take_14 ?_
    refine x_getr frC_2_5 F hw fo_X6_164 dX6_take_17 ?_
    refine lv_iload_n hx hb dX6_take_20 rfl (lv_at hl 1 rfl) ?_
    refine x_iald aiC_6 F hw (clN pi) hpi.1 (by have := hpi.2; omega) dX6_take_21 ?_
    refine lv_if_ne (tgt := 28) hx hb dX6_take_22 rfl (fun c22 => ?_) (fun c22 => ?_)
    · refine lv_aload_n hx hb dX6_take_28 rfl (lv_at hl 0 rfl) ?_
      refine x_getr frC_0_4 F hw fo_X6_39 dX6_take_29 ?_
      refine lv_aload_n hx hb dX6_take_32 rfl (lv_at hl 0 rfl) ?_
      refine x_getr frC_0_0 F hw fo_X6_10 dX6_take_33 ?_
      refine x_getr frC_2_5 F hw fo_X6_164 dX6_take_36 ?_
      refine lv_iload_n hx hb dX6_take_39 rfl (lv_at hl 1 rfl) ?_
      refine x_iald aiC_6 F hw (clN pi) hpi.1 (by have := hpi.2; omega) dX6_take_40 ?_
      refine x_fVV (rest := []) (c_X0_measure l D k q z g S X (S 6 (clN pi)) (by exact hG)) mo_X6_173 obC_31 F hw (Nat.le_of_ble_eq_true rfl) (x_cs F (Nat.le_of_ble_eq_true rfl) (Nat.le_of_ble_eq_true rfl)) rfl rfl hl.1 (Nat.le_of_ble_eq_true rfl) dX6_take_41 (fun H locs hw => ?_)
      refine lv_aload_n hx hb dX6_take_44 rfl (lv_at hl 0 rfl) ?_
      refine x_getr frC_0_0 F hw fo_X6_10 dX6_take_45 ?_
      refine x_getr frC_2_3 F hw fo_X6_83 dX6_take_48 ?_
      refine lv_iload_n hx hb dX6_take_51 rfl (lv_at hl 1 rfl) ?_
      refine x_iald aiC_4 F hw (clN pi) hpi.1 (by have := hpi.2; omega) dX6_take_52 ?_
      refine lv_aload_n hx hb dX6_take_53 rfl (lv_at hl 0 rfl) ?_
      refine x_getr frC_0_4 F hw fo_X6_39 dX6_take_54 ?_
      refine x_geti fiC_48 F hw fo_X6_177 dX6_take_57 ?_
      refine x_mmax F (Nat.le_of_ble_eq_true rfl) hl.1 mk_X6_183 ⟨by omega, by omega⟩ (Nat.le_of_ble_eq_true rfl) dX6_take_60 ?_
      refine lv_istore_n (lv' := [(2, .int (if ((meaS S (S 6 (clN pi))) 4 (clN pi)) < ((meaS S (S 6 (clN pi))) 48 0) then ((meaS S (S 6 (clN pi))) 48 0) else ((meaS S (S 6 (clN pi))) 4 (clN pi)))), (0, .ref (q 0)), (1, .int pi)]) hx hb dX6_take_63 rfl hl (Nat.le_of_ble_eq_true rfl) rfl (fun ls hl => ?_)
      refine lv_aload_n hx hb dX6_take_64 rfl (lv_at hl 1 rfl) ?_
      refine x_getr frC_0_0 F hw fo_X6_10 dX6_take_65 ?_
      refine x_getr frC_2_4 F hw fo_X6_86 dX6_take_68 ?_
      refine lv_iload_n hx hb dX6_take_71 rfl (lv_at hl 2 rfl) ?_
      refine x_iald aiC_5 F hw (clN pi) hpi.1 (by have := hpi.2; omega) dX6_take_72 ?_
      refine lv_aload_n hx hb dX6_take_73 rfl (lv_at hl 1 rfl) ?_
      refine x_getr frC_0_4 F hw fo_X6_39 dX6_take_74 ?_
      refine x_geti fiC_49 F hw fo_X6_180 dX6_take_77 ?_
      refine x_mmin F (Nat.le_of_ble_eq_true rfl) hl.1 mk_X6_188 ⟨by omega, by omega⟩ (Nat.le_of_ble_eq_true rfl) dX6_take_80 ?_
      refine lv_istore_n (lv' := [(3, .int (if ((meaS S (S 6 (clN pi))) 49 0) < ((meaS S (S 6 (clN pi))) 5 (clN pi)) then ((meaS S (S 6 (clN pi))) 49 0) else ((meaS S (S 6 (clN pi))) 5 (clN pi)))), (2, .int (if ((meaS S (S 6 (clN pi))) 4 (clN pi)) < ((meaS S (S 6 (clN pi))) 48 0) then ((meaS S (S 6 (clN pi))) 48 0) else ((meaS S (S 6 (clN pi))) 4 (clN pi)))), (0, .ref (q 0)), (1, .int pi)]) hx hb dX6_take_83 rfl hl (Nat.le_of_ble_eq_true rfl) rfl (fun ls hl => ?_)
      refine lv_aload_n hx hb dX6_take_84 rfl (lv_at hl 2 rfl) ?_
      refine x_getr frC_0_4 F hw fo_X6_39 dX6_take_85 ?_
      refine x_geti fiC_50 F hw fo_X6_176 dX6_take_88 ?_
      refine lv_if_eq (tgt := 99) hx hb dX6_take_91 rfl (fun c91 => ?_) (fun c91 => ?_)
      · refine lv_bipush (v := (-5)) hx hb dX6_take_99 rfl ?_
        have e9 : p_take S pi = ((-5), (meaS S (S 6 (clN pi)))) := by unfold p_take; rw [if_neg c8, if_neg c22, if_pos c91]
        exact hret _ _ _ _ _ _ dX6_take_101 hw rfl ⟨by rw [e9] <;> rfl, by rw [e9] <;> rfl⟩
      · refine lv_iload_n hx hb dX6_take_94 rfl (lv_at hl 1 rfl) ?_
        refine lv_iload_n hx hb dX6_take_95 rfl (lv_at hl 0 rfl) ?_
        refine lv_icmp_le (tgt := 102) hx hb dX6_take_96 rfl (fun c96 => ?_) (fun c96 => ?_)
        · refine lv_aload_n hx hb dX6_take_102 rfl (lv_at hl 2 rfl) ?_
          refine x_getr frC_0_0 F hw fo_X6_10 dX6_take_103 ?_
          refine x_getr frC_2_3 F hw fo_X6_83 dX6_take_106 ?_
          refine lv_iload_n hx hb dX6_take_109 rfl (lv_at hl 3 rfl) ?_
          refine lv_iload_n hx hb dX6_take_110 rfl (lv_at hl 1 rfl) ?_
          refine x_iast aiC_4 F hw (clN pi) hpi.1 (by have := hpi.2; omega) dX6_take_111 (fun H locs hw => ?_)
          refine lv_aload_n hx hb dX6_take_112 rfl (lv_at hl 2 rfl) ?_
          refine x_getr frC_0_0 F hw fo_X6_10 dX6_take_113 ?_
          refine x_getr frC_2_4 F hw fo_X6_86 dX6_take_116 ?_
          refine lv_iload_n hx hb dX6_take_119 rfl (lv_at hl 3 rfl) ?_
          refine lv_iload_n hx hb dX6_take_120 rfl (lv_at hl 0 rfl) ?_
          refine x_iast aiC_5 F hw (clN pi) hpi.1 (by have := hpi.2; omega) dX6_take_121 (fun H locs hw => ?_)
          refine lv_aload_n hx hb dX6_take_122 rfl (lv_at hl 2 rfl) ?_
          refine x_getr frC_0_3 F hw fo_X6_32 dX6_take_123 ?_
          refine x_fVV (rest := []) (c_X5_forget l D k q z g (va_up (va_up (meaS S (S 6 (clN pi))) 4 (upd ((meaS S (S 6 (clN pi))) 4) (clN pi) (if ((meaS S (S 6 (clN pi))) 4 (clN pi)) < ((meaS S (S 6 (clN pi))) 48 0) then ((meaS S (S 6 (clN pi))) 48 0) else ((meaS S (S 6 (clN pi))) 4 (clN pi))))) 5 (upd ((meaS S (S 6 (clN pi))) 5) (clN pi) (if ((meaS S (S 6 (clN pi))) 49 0) < ((meaS S (S 6 (clN pi))) 5 (clN pi)) then ((meaS S (S 6 (clN pi))) 49 0) else ((meaS S (S 6 (clN pi))) 5 (clN pi))))) X ) mo_X6_69 obC_19 F hw (Nat.le_of_ble_eq_true rfl) (x_cs F (Nat.le_of_ble_eq_true rfl) (Nat.le_of_ble_eq_true rfl)) rfl rfl hl.1 (Nat.le_of_ble_eq_true rfl) dX6_take_126 (fun H locs hw => ?_)
          refine lv_iload_n hx hb dX6_take_129 rfl (lv_at hl 0 rfl) ?_
          refine lv_iload_n hx hb dX6_take_130 rfl (lv_at hl 1 rfl) ?_
          refine lv_isub hx hb dX6_take_131 ?_
          refine lv_iconst (v := nI 1) hx hb dX6_take_132 rfl ?_
          refine lv_iadd hx hb dX6_take_133 ?_
          have e9 : p_take S pi = (((if ((meaS S (S 6 (clN pi))) 49 0) < ((meaS S (S 6 (clN pi))) 5 (clN pi)) then ((meaS S (S 6 (clN pi))) 49 0) else ((meaS S (S 6 (clN pi))) 5 (clN pi))) - (if ((meaS S (S 6 (clN pi))) 4 (clN pi)) < ((meaS S (S 6 (clN pi))) 48 0) then ((meaS S (S 6 (clN pi))) 48 0) else ((meaS S (S 6 (clN pi))) 4 (clN pi)))) + (nI 1), (va_up (va_up (va_up (meaS S (S 6 (clN pi))) 4 (upd ((meaS S (S 6 (clN pi))) 4) (clN pi) (if ((meaS S (S 6 (clN pi))) 4 (clN pi)) < ((meaS S (S 6 (clN pi))) 48 0) then ((meaS S (S 6 (clN pi))) 48 0) else ((meaS S (S 6 (clN pi))) 4 (clN pi))))) 5 (upd ((meaS S (S 6 (clN pi))) 5) (clN pi) (if ((meaS S (S 6 (clN pi))) 49 0) < ((meaS S (S 6 (clN pi))) 5 (clN pi)) then ((meaS S (S 6 (clN pi))) 49 0) else ((meaS S (S 6 (clN pi))) 5 (clN pi))))) 45 (fun _ => nI 0))) := by unfold p_take; rw [if_neg c8, if_neg c22, if_neg c91, if_pos c96]
          exact hret _ _ _ _ _ _ dX6_take_134 hw rfl ⟨by rw [e9] <;> rfl, by rw [e9] <;> rfl⟩
        · refine lv_bipush (v := (-5)) hx hb dX6_take_99 rfl ?_
          have e9 : p_take S pi = ((-5), (meaS S (S 6 (clN pi)))) := by unfold p_take; rw [if_neg c8, if_neg c22, if_neg c91, if_neg c96]
          exact hret _ _ _ _ _ _ dX6_take_101 hw rfl ⟨by rw [e9] <;> rfl, by rw [e9] <;> rfl⟩
    · refine lv_bipush (v := (-3)) hx hb dX6_take_25 rfl ?_
      have e9 : p_take S pi = ((-3), S) := by unfold p_take; rw [if_neg c8, if_pos c22]
      exact hret _ _ _ _ _ _ dX6_take_27 hw rfl ⟨by rw [e9] <;> rfl, by rw [e9] <;> rfl⟩
  · refine lv_iconst (v := (-1)) hx hb dX6_take_11 rfl ?_
    have e9 : p_take S pi = ((-1), S) := by unfold p_take; rw [if_pos c8]
    exact hret _ _ _ _ _ _ dX6_take_12 hw rfl ⟨by rw [e9] <;> rfl, by rw [e9] <;> rfl⟩
def p_hide (S : St) (sk : Int32) (tk : Int32) (st_ : Int32) : Int32 × St := if (f_in sk (nI 0) (nI 7)) = 0 then ((-1), S) else if (f_in st_ (nI 0) (nI 255)) = 0 then ((-2), S) else if tk = 0 then (S 15 (clN sk), (va_up S 15 (upd (S 15) (clN sk) st_))) else (S 16 (clN sk), (va_up S 16 (upd (S 16) (clN sk) st_)))
set_option maxHeartbeats 4000000 in
set_option maxRecDepth 20000 in
theorem c_X6_hide (l : Launch) (D : va_G) (k : Nat → ClassId) (q z : Nat → Nat) (g : Nat → Option Nat) (S : St) (X : va_W) (sk : Int32) (tk : Int32) (st_ : Int32) : CI l D k yX6_hide cX6_hide 6 (some .int) 1 0 0 [.ref (q 0), .int sk, .int tk, .int st_] (wC k q z g S X) (fun r w' => w' = wC k q z g ((p_hide S sk tk st_).2) X ∧ r = (p_hide S sk tk st_).1) := by
  refine CI.mk (by decide) (Nat.le_of_ble_eq_true rfl) ?_
  intro p e R s m args below meth c A Q ls F hret hw hl
  have hx := xs_hx F
  have hb := xs_hb F
  have hl : lv_has ls 6 [(0, .ref (q 0)), (1, .int sk), (2, .int tk), (3, .int st_)] := hl
  refine lv_iload_n hx hb dX6_hide_0 rfl (lv_at hl 1 rfl) ?_
  refine lv_iconst (v := nI 0) hx hb dX6_hide_1 rfl ?_
  refine lv_bipush (v := nI 7) hx hb dX6_hide_2 rfl ?_
  refine x_fSI (rest := []) (c_X6_within l D k (wC k q z g S X) sk (nI 0) (nI 7)) mo_X6_93 F hw (Nat.le_of_ble_eq_true rfl) (x_cs F (Nat.le_of_ble_eq_true rfl) (Nat.le_of_ble_eq_true rfl)) rfl rfl hl.1 (Nat.le_of_ble_eq_true rfl) dX6_hide_4 (fun H locs hw => ?_)
  refine lv_if_ne (tgt := 12) hx hb dX6_hide_7 rfl (fun c7 => ?_) (fun c7 => ?_)
  · have hsk := f_in_t (by decide) c7
    refine lv_iload_n hx hb dX6_hide_12 rfl (lv_at hl 3 rfl) ?_
    refine lv_iconst (v := nI 0) hx hb dX6_hide_13 rfl ?_
    refine lv_sipush (v := nI 255) hx hb dX6_hide_14 rfl ?_
    refine x_fSI (rest := []) (c_X6_within l D k (wC k q z g S X) st_ (nI 0) (nI 255)) mo_X6_93 F hw (Nat.le_of_ble_eq_true rfl) (x_cs F (Nat.le_of_ble_eq_true rfl) (Nat.le_of_ble_eq_true rfl)) rfl rfl hl.1 (Nat.le_of_ble_eq_true rfl) dX6_hide_17 (fun H locs hw => ?_)
    refine lv_if_ne (tgt := 26) hx hb dX6_hide_20 rfl (fun c20 => ?_) (fun c20 => ?_)
    · refine lv_iload_n hx hb dX6_hide_26 rfl (lv_at hl 2 rfl) ?_
      refine lv_if_eq (tgt := 40) hx hb dX6_hide_27 rfl (fun c27 => ?_) (fun c27 => ?_)
      · refine lv_aload_n hx hb dX6_hide_40 rfl (lv_at hl 0 rfl) ?_
        refine x_getr frC_0_0 F hw fo_X6_10 dX6_hide_41 ?_
        refine x_getr frC_2_10 F hw fo_X6_194 dX6_hide_44 ?_
        refine lv_astore (lv' := [(4, .ref (q 15)), (0, .ref (q 0)), (1, .int sk), (2, .int tk), (3, .int st_)]) hx hb dX6_hide_47 hl (Nat.le_of_ble_eq_true rfl) rfl (fun ls hl => ?_)
        refine lv_aload hx hb dX6_hide_49 (lv_at hl 0 rfl) ?_
        refine lv_iload_n hx hb dX6_hide_51 rfl (lv_at hl 2 rfl) ?_
        refine x_iald aiC_15 F hw (clN sk) hsk.1 (by have := hsk.2; omega) dX6_hide_52 ?_
        refine lv_istore (lv' := [(5, .int (S 15 (clN sk))), (4, .ref (q 15)), (0, .ref (q 0)), (1, .int sk), (2, .int tk), (3, .int st_)]) hx hb dX6_hide_53 hl (Nat.le_of_ble_eq_true rfl) rfl (fun ls hl => ?_)
        refine lv_aload hx hb dX6_hide_55 (lv_at hl 1 rfl) ?_
        refine lv_iload_n hx hb dX6_hide_57 rfl (lv_at hl 3 rfl) ?_
        refine lv_iload_n hx hb dX6_hide_58 rfl (lv_at hl 5 rfl) ?_
        refine x_iast aiC_15 F hw (clN sk) hsk.1 (by have := hsk.2; omega) dX6_hide_59 (fun H locs hw => ?_)
        refine lv_iload hx hb dX6_hide_60 (lv_at hl 0 rfl) ?_
        have e9 : p_hide S sk tk st_ = (S 15 (clN sk), (va_up S 15 (upd (S 15) (clN sk) st_))) := by unfold p_hide; rw [if_neg c7, if_neg c20, if_pos c27]
        exact hret _ _ _ _ _ _ dX6_hide_62 hw rfl ⟨by rw [e9] <;> rfl, by rw [e9] <;> rfl⟩
      · refine lv_aload_n hx hb dX6_hide_30 rfl (lv_at hl 0 rfl) ?_
        refine x_getr frC_0_0 F hw fo_X6_10 dX6_hide_31 ?_
        refine x_getr frC_2_11 F hw fo_X6_191 dX6_hide_34 ?_
        refine lv_goto (tgt := 47) hx hb dX6_hide_37 rfl ?_
        refine lv_astore (lv' := [(4, .ref (q 16)), (0, .ref (q 0)), (1, .int sk), (2, .int tk), (3, .int st_)]) hx hb dX6_hide_47 hl (Nat.le_of_ble_eq_true rfl) rfl (fun ls hl => ?_)
        refine lv_aload hx hb dX6_hide_49 (lv_at hl 0 rfl) ?_
        refine lv_iload_n hx hb dX6_hide_51 rfl (lv_at hl 2 rfl) ?_
        refine x_iald aiC_16 F hw (clN sk) hsk.1 (by have := hsk.2; omega) dX6_hide_52 ?_
        refine lv_istore (lv' := [(5, .int (S 16 (clN sk))), (4, .ref (q 16)), (0, .ref (q 0)), (1, .int sk), (2, .int tk), (3, .int st_)]) hx hb dX6_hide_53 hl (Nat.le_of_ble_eq_true rfl) rfl (fun ls hl => ?_)
        refine lv_aload hx hb dX6_hide_55 (lv_at hl 1 rfl) ?_
        refine lv_iload_n hx hb dX6_hide_57 rfl (lv_at hl 3 rfl) ?_
        refine lv_iload_n hx hb dX6_hide_58 rfl (lv_at hl 5 rfl) ?_
        refine x_iast aiC_16 F hw (clN sk) hsk.1 (by have := hsk.2; omega) dX6_hide_59 (fun H locs hw => ?_)
        refine lv_iload hx hb dX6_hide_60 (lv_at hl 0 rfl) ?_
        have e9 : p_hide S sk tk st_ = (S 16 (clN sk), (va_up S 16 (upd (S 16) (clN sk) st_))) := by unfold p_hide; rw [if_neg c7, if_neg c20, if_neg c27]
        exact hret _ _ _ _ _ _ dX6_hide_62 hw rfl ⟨by rw [e9] <;> rfl, by rw [e9] <;> rfl⟩
    · refine lv_bipush (v := (-2)) hx hb dX6_hide_23 rfl ?_
      have e9 : p_hide S sk tk st_ = ((-2), S) := by unfold p_hide; rw [if_neg c7, if_pos c20]
      exact hret _ _ _ _ _ _ dX6_hide_25 hw rfl ⟨by rw [e9] <;> rfl, by rw [e9] <;> rfl⟩
  · refine lv_iconst (v := (-1)) hx hb dX6_hide_10 rfl ?_
    have e9 : p_hide S sk tk st_ = ((-1), S) := by unfold p_hide; rw [if_pos c7]
    exact hret _ _ _ _ _ _ dX6_hide_11 hw rfl ⟨by rw [e9] <;> rfl, by rw [e9] <;> rfl⟩
def p_hides (S : St) (dr : Int32) (wh : Int32) : Int32 × St := if (isDr dr) = 0 then ((-2), S) else if (f_in wh (nI 0) (nI 1)) = 0 then ((-2), S) else if wh = 0 then (hidF (S 15) (S 16) dr 8, S) else (nI ((inkN dr 8)), S)
set_option maxHeartbeats 4000000 in
set_option maxRecDepth 20000 in
theorem c_X6_hides (l : Launch) (D : va_G) (k : Nat → ClassId) (q z : Nat → Nat) (g : Nat → Option Nat) (S : St) (X : va_W) (dr : Int32) (wh : Int32) : CI l D k yX6_hides cX6_hides 3 (some .int) 2 0 0 [.ref (q 0), .int dr, .int wh] (wC k q z g S X) (fun r w' => w' = wC k q z g ((p_hides S dr wh).2) X ∧ r = (p_hides S dr wh).1) := by
  refine CI.mk (by decide) (Nat.le_of_ble_eq_true rfl) ?_
  intro p e R s m args below meth c A Q ls F hret hw hl
  have hx := xs_hx F
  have hb := xs_hb F
  have hl : lv_has ls 3 [(0, .ref (q 0)), (1, .int dr), (2, .int wh)] := hl
  refine lv_iload_n hx hb dX6_hides_0 rfl (lv_at hl 1 rfl) ?_
  refine x_fSI (rest := []) (c_X6_isDrawing l D k (wC k q z g S X) dr) mo_X6_57 F hw (Nat.le_of_ble_eq_true rfl) (x_cs F (Nat.le_of_ble_eq_true rfl) (Nat.le_of_ble_eq_true rfl)) rfl rfl hl.1 (Nat.le_of_ble_eq_true rfl) dX6_hides_1 (fun H locs hw => ?_)
  refine lv_if_eq (tgt := 16) hx hb dX6_hides_4 rfl (fun c4 => ?_) (fun c4 => ?_)
  · refine lv_bipush (v := (-2)) hx hb dX6_hides_16 rfl ?_
    have e9 : p_hides S dr wh = ((-2), S) := by unfold p_hides; rw [if_pos c4]
    exact hret _ _ _ _ _ _ dX6_hides_18 hw rfl ⟨by rw [e9] <;> rfl, by rw [e9] <;> rfl⟩
  · refine lv_iload_n hx hb dX6_hides_7 rfl (lv_at hl 2 rfl) ?_
    refine lv_iconst (v := nI 0) hx hb dX6_hides_8 rfl ?_
    refine lv_iconst (v := nI 1) hx hb dX6_hides_9 rfl ?_
    refine x_fSI (rest := []) (c_X6_within l D k (wC k q z g S X) wh (nI 0) (nI 1)) mo_X6_93 F hw (Nat.le_of_ble_eq_true rfl) (x_cs F (Nat.le_of_ble_eq_true rfl) (Nat.le_of_ble_eq_true rfl)) rfl rfl hl.1 (Nat.le_of_ble_eq_true rfl) dX6_hides_10 (fun H locs hw => ?_)
    refine lv_if_ne (tgt := 19) hx hb dX6_hides_13 rfl (fun c13 => ?_) (fun c13 => ?_)
    · refine lv_iload_n hx hb dX6_hides_19 rfl (lv_at hl 2 rfl) ?_
      refine lv_if_ne (tgt := 34) hx hb dX6_hides_20 rfl (fun c20 => ?_) (fun c20 => ?_)
      · refine lv_iload_n hx hb dX6_hides_34 rfl (lv_at hl 1 rfl) ?_
        refine x_fSI (rest := []) (c_X6_inkOf l D k (wC k q z g S X) dr) mo_X6_200 F hw (Nat.le_of_ble_eq_true rfl) (x_cs F (Nat.le_of_ble_eq_true rfl) (Nat.le_of_ble_eq_true rfl)) rfl rfl hl.1 (Nat.le_of_ble_eq_true rfl) dX6_hides_35 (fun H locs hw => ?_)
        have e9 : p_hides S dr wh = (nI ((inkN dr 8)), S) := by unfold p_hides; rw [if_neg c4, if_neg c13, if_neg c20]
        exact hret _ _ _ _ _ _ dX6_hides_38 hw rfl ⟨by rw [e9] <;> rfl, by rw [e9] <;> rfl⟩
      · refine lv_aload_n hx hb dX6_hides_23 rfl (lv_at hl 0 rfl) ?_
        refine x_getr frC_0_0 F hw fo_X6_10 dX6_hides_24 ?_
        refine lv_iload_n hx hb dX6_hides_27 rfl (lv_at hl 1 rfl) ?_
        refine x_fVI (rest := []) (c_X1_hiddenBy l D k q z g S X dr) mo_X6_197 obC_2 F hw (Nat.le_of_ble_eq_true rfl) (x_cs F (Nat.le_of_ble_eq_true rfl) (Nat.le_of_ble_eq_true rfl)) rfl rfl hl.1 (Nat.le_of_ble_eq_true rfl) dX6_hides_28 (fun H locs hw => ?_)
        refine lv_goto (tgt := 38) hx hb dX6_hides_31 rfl ?_
        have e9 : p_hides S dr wh = (hidF (S 15) (S 16) dr 8, S) := by unfold p_hides; rw [if_neg c4, if_neg c13, if_pos c20]
        exact hret _ _ _ _ _ _ dX6_hides_38 hw rfl ⟨by rw [e9] <;> rfl, by rw [e9] <;> rfl⟩
    · refine lv_bipush (v := (-2)) hx hb dX6_hides_16 rfl ?_
      have e9 : p_hides S dr wh = ((-2), S) := by unfold p_hides; rw [if_neg c4, if_pos c13]
      exact hret _ _ _ _ _ _ dX6_hides_18 hw rfl ⟨by rw [e9] <;> rfl, by rw [e9] <;> rfl⟩
def p_cover (S : St) (dr : Int32) : Int32 × St := if (isDr dr) = 0 then ((-2), S) else ((srF (S 15) (S 16) 9 0 (orB (fun j => stk dr j != 0) 8) 0 (nI 0) (17, (-6))).2, (bst S (srF (S 15) (S 16) 9 0 (orB (fun j => stk dr j != 0) 8) 0 (nI 0) (17, (-6)))))
set_option maxHeartbeats 4000000 in
set_option maxRecDepth 20000 in
theorem c_X6_cover (l : Launch) (D : va_G) (k : Nat → ClassId) (q z : Nat → Nat) (g : Nat → Option Nat) (S : St) (X : va_W) (dr : Int32) : CI l D k yX6_cover cX6_cover 2 (some .int) 10 0 0 [.ref (q 0), .int dr] (wC k q z g S X) (fun r w' => w' = wC k q z g ((p_cover S dr).2) X ∧ r = (p_cover S dr).1) := by
  refine CI.mk (by decide) (Nat.le_of_ble_eq_true rfl) ?_
  intro p e R s m args below meth c A Q ls F hret hw hl
  have hx := xs_hx F
  have hb := xs_hb F
  have hl : lv_has ls 2 [(0, .ref (q 0)), (1, .int dr)] := hl
  refine lv_iload_n hx hb dX6_cover_0 rfl (lv_at hl 1 rfl) ?_
  refine x_fSI (rest := []) (c_X6_isDrawing l D k (wC k q z g S X) dr) mo_X6_57 F hw (Nat.le_of_ble_eq_true rfl) (x_cs F (Nat.le_of_ble_eq_true rfl) (Nat.le_of_ble_eq_true rfl)) rfl rfl hl.1 (Nat.le_of_ble_eq_true rfl) dX6_cover_1 (fun H locs hw => ?_)
  refine lv_if_ne (tgt := 10) hx hb dX6_cover_4 rfl (fun c4 => ?_) (fun c4 => ?_)
  · refine lv_aload_n hx hb dX6_cover_10 rfl (lv_at hl 0 rfl) ?_
    refine x_getr frC_0_5 F hw fo_X6_46 dX6_cover_11 ?_
    refine lv_iload_n hx hb dX6_cover_14 rfl (lv_at hl 1 rfl) ?_
    refine x_fSI (rest := [.ref (q 32)]) (c_X6_strokesIn l D k (wC k q z g S X) dr) mo_X6_203 F hw (Nat.le_of_ble_eq_true rfl) (x_cs F (Nat.le_of_ble_eq_true rfl) (Nat.le_of_ble_eq_true rfl)) rfl rfl hl.1 (Nat.le_of_ble_eq_true rfl) dX6_cover_15 (fun H locs hw => ?_)
    refine x_fVI (rest := []) (c_X2_leastOver l D k q z g S X (orB (fun j => stk dr j != 0) 8)) mo_X6_206 obC_32 F hw (Nat.le_of_ble_eq_true rfl) (x_cs F (Nat.le_of_ble_eq_true rfl) (Nat.le_of_ble_eq_true rfl)) rfl rfl hl.1 (Nat.le_of_ble_eq_true rfl) dX6_cover_18 (fun H locs hw => ?_)
    have e9 : p_cover S dr = ((srF (S 15) (S 16) 9 0 (orB (fun j => stk dr j != 0) 8) 0 (nI 0) (17, (-6))).2, (bst S (srF (S 15) (S 16) 9 0 (orB (fun j => stk dr j != 0) 8) 0 (nI 0) (17, (-6))))) := by unfold p_cover; rw [if_neg c4]
    exact hret _ _ _ _ _ _ dX6_cover_21 hw rfl ⟨by rw [e9] <;> rfl, by rw [e9] <;> rfl⟩
  · refine lv_bipush (v := (-2)) hx hb dX6_cover_7 rfl ?_
    have e9 : p_cover S dr = ((-2), S) := by unfold p_cover; rw [if_pos c4]
    exact hret _ _ _ _ _ _ dX6_cover_9 hw rfl ⟨by rw [e9] <;> rfl, by rw [e9] <;> rfl⟩
def p_man (S : St)  : Int32 × St := if (menN S) < 8 then (nI (menN S), (va_up S 53 (fun _ => nI ((menN S) + 1)))) else ((-4), S)
set_option maxHeartbeats 4000000 in
set_option maxRecDepth 20000 in
theorem c_X6_man (l : Launch) (D : va_G) (k : Nat → ClassId) (q z : Nat → Nat) (g : Nat → Option Nat) (S : St) (X : va_W) (hN : okN S) : CI l D k yX6_man cX6_man 1 (some .int) 0 0 0 [.ref (q 0)] (wC k q z g S X) (fun r w' => w' = wC k q z g ((p_man S).2) X ∧ r = (p_man S).1) := by
  refine CI.mk (by decide) (Nat.le_of_ble_eq_true rfl) ?_
  intro p e R s m args below meth c A Q ls F hret hw hl
  have hx := xs_hx F
  have hb := xs_hb F
  have hl : lv_has ls 1 [(0, .ref (q 0))] := hl
  have h8 := hN.1.2
  have h16 := hN.2.1.2
  refine lv_aload_n hx hb dX6_man_0 rfl (lv_at hl 0 rfl) ?_
  refine x_getr frC_0_6 F hw fo_X6_53 dX6_man_1 ?_
  refine x_geti fiC_53 F hw fo_X6_212 dX6_man_4 ?_
  refine x_top (y := nI (menN S)) hN.1.1 ?_
  refine lv_bipush (v := nI 8) hx hb dX6_man_7 rfl ?_
  refine x_icmp_lt (menN S) 8 F (by omega) (by omega) (tgt := 15) dX6_man_9 rfl (fun c9 => ?_) (fun c9 => ?_)
  · refine lv_aload_n hx hb dX6_man_15 rfl (lv_at hl 0 rfl) ?_
    refine x_getr frC_0_6 F hw fo_X6_53 dX6_man_16 ?_
    refine lv_dup hx hb dX6_man_19 rfl ?_
    refine x_geti fiC_53 F hw fo_X6_212 dX6_man_20 ?_
    refine x_top (y := nI (menN S)) hN.1.1 ?_
    refine lv_iconst (v := nI 1) hx hb dX6_man_23 rfl ?_
    refine lv_iadd hx hb dX6_man_24 ?_
    refine x_top (y := nI ((menN S) + 1)) (nI_add _ _) ?_
    refine x_puti fiC_53 F hw fo_X6_212 rfl rfl dX6_man_25 (fun H locs hw => ?_)
    refine lv_aload_n hx hb dX6_man_28 rfl (lv_at hl 0 rfl) ?_
    refine x_getr frC_0_6 F hw fo_X6_53 dX6_man_29 ?_
    refine x_geti fiC_53 F hw fo_X6_212 dX6_man_32 ?_
    refine x_top (y := nI ((menN S) + 1)) rfl ?_
    refine lv_iconst (v := nI 1) hx hb dX6_man_35 rfl ?_
    refine lv_isub hx hb dX6_man_36 ?_
    refine x_top (y := nI (menN S)) (by rw [show nI (menN S + 1) - nI 1 = nI (menN S) from nI_pred _]) ?_
    have e9 : p_man S = (nI (menN S), (va_up S 53 (fun _ => nI ((menN S) + 1)))) := by unfold p_man; rw [if_pos c9]
    exact hret _ _ _ _ _ _ dX6_man_37 hw rfl ⟨by rw [e9] <;> rfl, by rw [e9] <;> rfl⟩
  · refine lv_bipush (v := (-4)) hx hb dX6_man_12 rfl ?_
    have e9 : p_man S = ((-4), S) := by unfold p_man; rw [if_neg (by omega)]
    exact hret _ _ _ _ _ _ dX6_man_14 hw rfl ⟨by rw [e9] <;> rfl, by rw [e9] <;> rfl⟩
def p_meet (S : St) (mn : Int32) (dy : Int32) : Int32 × St := if (haM S mn) = 0 then ((-1), S) else if (f_in dy (if metN S = 0 then nI 0 else S 36 (metN S - 1)) (nI 99)) = 0 then ((-2), S) else if (metN S) < 16 then (nI ((metN S)), (va_up (va_up (va_up S 35 (upd (S 35) (metN S) mn)) 36 (upd (S 36) (metN S) dy)) 54 (fun _ => nI (metN S + 1)))) else ((-4), S)
set_option maxHeartbeats 4000000 in
set_option maxRecDepth 20000 in
theorem c_X6_meet (l : Launch) (D : va_G) (k : Nat → ClassId) (q z : Nat → Nat) (g : Nat → Option Nat) (S : St) (X : va_W) (mn : Int32) (dy : Int32) (hN : okN S) : CI l D k yX6_meet cX6_meet 3 (some .int) 1 0 0 [.ref (q 0), .int mn, .int dy] (wC k q z g S X) (fun r w' => w' = wC k q z g ((p_meet S mn dy).2) X ∧ r = (p_meet S mn dy).1) := by
  refine CI.mk (by decide) (Nat.le_of_ble_eq_true rfl) ?_
  intro p e R s m args below meth c A Q ls F hret hw hl
  have hx := xs_hx F
  have hb := xs_hb F
  have hl : lv_has ls 3 [(0, .ref (q 0)), (1, .int mn), (2, .int dy)] := hl
  have h8 := hN.1.2
  have h16 := hN.2.1.2
  refine lv_aload_n hx hb dX6_meet_0 rfl (lv_at hl 0 rfl) ?_
  refine x_getr frC_0_6 F hw fo_X6_53 dX6_meet_1 ?_
  refine lv_iload_n hx hb dX6_meet_4 rfl (lv_at hl 1 rfl) ?_
  refine x_fVI (rest := []) (c_X4_hasMan l D k q z g S X mn) mo_X6_215 obC_33 F hw (Nat.le_of_ble_eq_true rfl) (x_cs F (Nat.le_of_ble_eq_true rfl) (Nat.le_of_ble_eq_true rfl)) rfl rfl hl.1 (Nat.le_of_ble_eq_true rfl) dX6_meet_5 (fun H locs hw => ?_)
  refine lv_if_ne (tgt := 13) hx hb dX6_meet_8 rfl (fun c8 => ?_) (fun c8 => ?_)
  · refine lv_iload_n hx hb dX6_meet_13 rfl (lv_at hl 2 rfl) ?_
    refine lv_aload_n hx hb dX6_meet_14 rfl (lv_at hl 0 rfl) ?_
    refine x_getr frC_0_6 F hw fo_X6_53 dX6_meet_15 ?_
    refine x_fVI (rest := [.int dy]) (c_X4_lastDay l D k q z g S X (by exact hN)) mo_X6_218 obC_33 F hw (Nat.le_of_ble_eq_true rfl) (x_cs F (Nat.le_of_ble_eq_true rfl) (Nat.le_of_ble_eq_true rfl)) rfl rfl hl.1 (Nat.le_of_ble_eq_true rfl) dX6_meet_18 (fun H locs hw => ?_)
    refine lv_bipush (v := nI 99) hx hb dX6_meet_21 rfl ?_
    refine x_fSI (rest := []) (c_X6_within l D k (wC k q z g S X) dy (if metN S = 0 then nI 0 else S 36 (metN S - 1)) (nI 99)) mo_X6_93 F hw (Nat.le_of_ble_eq_true rfl) (x_cs F (Nat.le_of_ble_eq_true rfl) (Nat.le_of_ble_eq_true rfl)) rfl rfl hl.1 (Nat.le_of_ble_eq_true rfl) dX6_meet_23 (fun H locs hw => ?_)
    refine lv_if_ne (tgt := 32) hx hb dX6_meet_26 rfl (fun c26 => ?_) (fun c26 => ?_)
    · refine lv_aload_n hx hb dX6_meet_32 rfl (lv_at hl 0 rfl) ?_
      refine x_getr frC_0_6 F hw fo_X6_53 dX6_meet_33 ?_
      refine x_geti fiC_54 F hw fo_X6_221 dX6_meet_36 ?_
      refine x_top (y := nI (metN S)) hN.2.1.1 ?_
      refine lv_bipush (v := nI 16) hx hb dX6_meet_39 rfl ?_
      refine x_icmp_lt (metN S) 16 F (by omega) (by omega) (tgt := 47) dX6_meet_41 rfl (fun c41 => ?_) (fun c41 => ?_)
      · refine lv_aload_n hx hb dX6_meet_47 rfl (lv_at hl 0 rfl) ?_
        refine x_getr frC_0_6 F hw fo_X6_53 dX6_meet_48 ?_
        refine lv_iload_n hx hb dX6_meet_51 rfl (lv_at hl 1 rfl) ?_
        refine lv_iload_n hx hb dX6_meet_52 rfl (lv_at hl 2 rfl) ?_
        refine x_fVI (rest := []) (c_X4_addMeeting l D k q z g S X mn dy (by exact hN.2.1.1) (by exact c41)) mo_X6_224 obC_33 F hw (Nat.le_of_ble_eq_true rfl) (x_cs F (Nat.le_of_ble_eq_true rfl) (Nat.le_of_ble_eq_true rfl)) rfl rfl hl.1 (Nat.le_of_ble_eq_true rfl) dX6_meet_53 (fun H locs hw => ?_)
        have e9 : p_meet S mn dy = (nI ((metN S)), (va_up (va_up (va_up S 35 (upd (S 35) (metN S) mn)) 36 (upd (S 36) (metN S) dy)) 54 (fun _ => nI (metN S + 1)))) := by unfold p_meet; rw [if_neg c8, if_neg c26, if_pos c41]
        exact hret _ _ _ _ _ _ dX6_meet_56 hw rfl ⟨by rw [e9] <;> rfl, by rw [e9] <;> rfl⟩
      · refine lv_bipush (v := (-4)) hx hb dX6_meet_44 rfl ?_
        have e9 : p_meet S mn dy = ((-4), S) := by unfold p_meet; rw [if_neg c8, if_neg c26, if_neg (by omega)]
        exact hret _ _ _ _ _ _ dX6_meet_46 hw rfl ⟨by rw [e9] <;> rfl, by rw [e9] <;> rfl⟩
    · refine lv_bipush (v := (-2)) hx hb dX6_meet_29 rfl ?_
      have e9 : p_meet S mn dy = ((-2), S) := by unfold p_meet; rw [if_neg c8, if_pos c26]
      exact hret _ _ _ _ _ _ dX6_meet_31 hw rfl ⟨by rw [e9] <;> rfl, by rw [e9] <;> rfl⟩
  · refine lv_iconst (v := (-1)) hx hb dX6_meet_11 rfl ?_
    have e9 : p_meet S mn dy = ((-1), S) := by unfold p_meet; rw [if_pos c8]
    exact hret _ _ _ _ _ _ dX6_meet_12 hw rfl ⟨by rw [e9] <;> rfl, by rw [e9] <;> rfl⟩
def p_sick (S : St) (mn : Int32) (dy : Int32) : Int32 × St := if (haM S mn) = 0 then ((-1), S) else if (f_in dy (-1) (nI 99)) = 0 then ((-2), S) else if (S 34 (clN mn)) = (-1) then ((-6), (va_up S 34 (upd (S 34) (clN mn) dy))) else (S 34 (clN mn), (va_up S 34 (upd (S 34) (clN mn) dy)))
set_option maxHeartbeats 4000000 in
set_option maxRecDepth 20000 in
theorem c_X6_sick (l : Launch) (D : va_G) (k : Nat → ClassId) (q z : Nat → Nat) (g : Nat → Option Nat) (S : St) (X : va_W) (mn : Int32) (dy : Int32) (hN : okN S) : CI l D k yX6_sick cX6_sick 4 (some .int) 1 0 0 [.ref (q 0), .int mn, .int dy] (wC k q z g S X) (fun r w' => w' = wC k q z g ((p_sick S mn dy).2) X ∧ r = (p_sick S mn dy).1) := by
  refine CI.mk (by decide) (Nat.le_of_ble_eq_true rfl) ?_
  intro p e R s m args below meth c A Q ls F hret hw hl
  have hx := xs_hx F
  have hb := xs_hb F
  have hl : lv_has ls 4 [(0, .ref (q 0)), (1, .int mn), (2, .int dy)] := hl
  have h8 := hN.1.2
  have h16 := hN.2.1.2
  refine lv_aload_n hx hb dX6_sick_0 rfl (lv_at hl 0 rfl) ?_
  refine x_getr frC_0_6 F hw fo_X6_53 dX6_sick_1 ?_
  refine lv_iload_n hx hb dX6_sick_4 rfl (lv_at hl 1 rfl) ?_
  refine x_fVI (rest := []) (c_X4_hasMan l D k q z g S X mn) mo_X6_215 obC_33 F hw (Nat.le_of_ble_eq_true rfl) (x_cs F (Nat.le_of_ble_eq_true rfl) (Nat.le_of_ble_eq_true rfl)) rfl rfl hl.1 (Nat.le_of_ble_eq_true rfl) dX6_sick_5 (fun H locs hw => ?_)
  refine lv_if_ne (tgt := 13) hx hb dX6_sick_8 rfl (fun c8 => ?_) (fun c8 => ?_)
  · have hmn := haM_t hN c8
    refine lv_iload_n hx hb dX6_sick_13 rfl (lv_at hl 2 rfl) ?_
    refine lv_iconst (v := (-1)) hx hb dX6_sick_14 rfl ?_
    refine lv_bipush (v := nI 99) hx hb dX6_sick_15 rfl ?_
    refine x_fSI (rest := []) (c_X6_within l D k (wC k q z g S X) dy (-1) (nI 99)) mo_X6_93 F hw (Nat.le_of_ble_eq_true rfl) (x_cs F (Nat.le_of_ble_eq_true rfl) (Nat.le_of_ble_eq_true rfl)) rfl rfl hl.1 (Nat.le_of_ble_eq_true rfl) dX6_sick_17 (fun H locs hw => ?_)
    refine lv_if_ne (tgt := 26) hx hb dX6_sick_20 rfl (fun c20 => ?_) (fun c20 => ?_)
    · refine lv_aload_n hx hb dX6_sick_26 rfl (lv_at hl 0 rfl) ?_
      refine x_getr frC_0_6 F hw fo_X6_53 dX6_sick_27 ?_
      refine x_getr frC_33_3 F hw fo_X6_227 dX6_sick_30 ?_
      refine lv_iload_n hx hb dX6_sick_33 rfl (lv_at hl 1 rfl) ?_
      refine x_iald aiC_34 F hw (clN mn) hmn.1 (by have := hmn.2; omega) dX6_sick_34 ?_
      refine lv_istore_n (lv' := [(3, .int (S 34 (clN mn))), (0, .ref (q 0)), (1, .int mn), (2, .int dy)]) hx hb dX6_sick_35 rfl hl (Nat.le_of_ble_eq_true rfl) rfl (fun ls hl => ?_)
      refine lv_aload_n hx hb dX6_sick_36 rfl (lv_at hl 1 rfl) ?_
      refine x_getr frC_0_6 F hw fo_X6_53 dX6_sick_37 ?_
      refine x_getr frC_33_3 F hw fo_X6_227 dX6_sick_40 ?_
      refine lv_iload_n hx hb dX6_sick_43 rfl (lv_at hl 2 rfl) ?_
      refine lv_iload_n hx hb dX6_sick_44 rfl (lv_at hl 3 rfl) ?_
      refine x_iast aiC_34 F hw (clN mn) hmn.1 (by have := hmn.2; omega) dX6_sick_45 (fun H locs hw => ?_)
      refine lv_iload_n hx hb dX6_sick_46 rfl (lv_at hl 0 rfl) ?_
      refine lv_iconst (v := (-1)) hx hb dX6_sick_47 rfl ?_
      refine lv_icmp_ne (tgt := 56) hx hb dX6_sick_48 rfl (fun c48 => ?_) (fun c48 => ?_)
      · refine lv_iload_n hx hb dX6_sick_56 rfl (lv_at hl 0 rfl) ?_
        have e9 : p_sick S mn dy = (S 34 (clN mn), (va_up S 34 (upd (S 34) (clN mn) dy))) := by unfold p_sick; rw [if_neg c8, if_neg c20, if_neg c48]
        exact hret _ _ _ _ _ _ dX6_sick_57 hw rfl ⟨by rw [e9] <;> rfl, by rw [e9] <;> rfl⟩
      · refine lv_bipush (v := (-6)) hx hb dX6_sick_51 rfl ?_
        refine lv_goto (tgt := 57) hx hb dX6_sick_53 rfl ?_
        have e9 : p_sick S mn dy = ((-6), (va_up S 34 (upd (S 34) (clN mn) dy))) := by unfold p_sick; rw [if_neg c8, if_neg c20, if_pos c48]
        exact hret _ _ _ _ _ _ dX6_sick_57 hw rfl ⟨by rw [e9] <;> rfl, by rw [e9] <;> rfl⟩
    · refine lv_bipush (v := (-2)) hx hb dX6_sick_23 rfl ?_
      have e9 : p_sick S mn dy = ((-2), S) := by unfold p_sick; rw [if_neg c8, if_pos c20]
      exact hret _ _ _ _ _ _ dX6_sick_25 hw rfl ⟨by rw [e9] <;> rfl, by rw [e9] <;> rfl⟩
  · refine lv_iconst (v := (-1)) hx hb dX6_sick_11 rfl ?_
    have e9 : p_sick S mn dy = ((-1), S) := by unfold p_sick; rw [if_pos c8]
    exact hret _ _ _ _ _ _ dX6_sick_12 hw rfl ⟨by rw [e9] <;> rfl, by rw [e9] <;> rfl⟩
def p_from (S : St) (mn : Int32) : Int32 × St := if (haM S mn) = 0 then ((-1), S) else (gvs S (clN mn) (S 12 2) (S 12 3), S)
set_option maxHeartbeats 4000000 in
set_option maxRecDepth 20000 in
theorem c_X6_from (l : Launch) (D : va_G) (k : Nat → ClassId) (q z : Nat → Nat) (g : Nat → Option Nat) (S : St) (X : va_W) (mn : Int32) (hN : okN S) : CI l D k yX6_from cX6_from 2 (some .int) 2 0 0 [.ref (q 0), .int mn] (wC k q z g S X) (fun r w' => w' = wC k q z g ((p_from S mn).2) X ∧ r = (p_from S mn).1) := by
  refine CI.mk (by decide) (Nat.le_of_ble_eq_true rfl) ?_
  intro p e R s m args below meth c A Q ls F hret hw hl
  have hx := xs_hx F
  have hb := xs_hb F
  have hl : lv_has ls 2 [(0, .ref (q 0)), (1, .int mn)] := hl
  have h8 := hN.1.2
  have h16 := hN.2.1.2
  refine lv_aload_n hx hb dX6_from_0 rfl (lv_at hl 0 rfl) ?_
  refine x_getr frC_0_6 F hw fo_X6_53 dX6_from_1 ?_
  refine lv_iload_n hx hb dX6_from_4 rfl (lv_at hl 1 rfl) ?_
  refine x_fVI (rest := []) (c_X4_hasMan l D k q z g S X mn) mo_X6_215 obC_33 F hw (Nat.le_of_ble_eq_true rfl) (x_cs F (Nat.le_of_ble_eq_true rfl) (Nat.le_of_ble_eq_true rfl)) rfl rfl hl.1 (Nat.le_of_ble_eq_true rfl) dX6_from_5 (fun H locs hw => ?_)
  refine lv_if_ne (tgt := 13) hx hb dX6_from_8 rfl (fun c8 => ?_) (fun c8 => ?_)
  · have hmn := haM_t hN c8
    refine lv_aload_n hx hb dX6_from_13 rfl (lv_at hl 0 rfl) ?_
    refine x_getr frC_0_6 F hw fo_X6_53 dX6_from_14 ?_
    refine lv_iload_n hx hb dX6_from_17 rfl (lv_at hl 1 rfl) ?_
    refine x_top (y := nI (clN mn)) hmn.1 ?_
    refine lv_aload_n hx hb dX6_from_18 rfl (lv_at hl 0 rfl) ?_
    refine x_getr frC_0_0 F hw fo_X6_10 dX6_from_19 ?_
    refine x_getr frC_2_7 F hw fo_X6_97 dX6_from_22 ?_
    refine lv_iconst (v := nI 2) hx hb dX6_from_25 rfl ?_
    refine x_iald aiC_12 F hw 2 rfl (by omega) dX6_from_26 ?_
    refine lv_aload_n hx hb dX6_from_27 rfl (lv_at hl 0 rfl) ?_
    refine x_getr frC_0_0 F hw fo_X6_10 dX6_from_28 ?_
    refine x_getr frC_2_7 F hw fo_X6_97 dX6_from_31 ?_
    refine lv_iconst (v := nI 3) hx hb dX6_from_34 rfl ?_
    refine x_iald aiC_12 F hw 3 rfl (by omega) dX6_from_35 ?_
    refine x_fVI (rest := []) (c_X4_giversOf l D k q z g S X (clN mn) (S 12 2) (S 12 3) (by exact hN) (by have := hmn.2; omega)) mo_X6_230 obC_33 F hw (Nat.le_of_ble_eq_true rfl) (x_cs F (Nat.le_of_ble_eq_true rfl) (Nat.le_of_ble_eq_true rfl)) rfl rfl hl.1 (Nat.le_of_ble_eq_true rfl) dX6_from_36 (fun H locs hw => ?_)
    have e9 : p_from S mn = (gvs S (clN mn) (S 12 2) (S 12 3), S) := by unfold p_from; rw [if_neg c8]
    exact hret _ _ _ _ _ _ dX6_from_39 hw rfl ⟨by rw [e9] <;> rfl, by rw [e9] <;> rfl⟩
  · refine lv_iconst (v := (-1)) hx hb dX6_from_11 rfl ?_
    have e9 : p_from S mn = ((-1), S) := by unfold p_from; rw [if_pos c8]
    exact hret _ _ _ _ _ _ dX6_from_12 hw rfl ⟨by rw [e9] <;> rfl, by rw [e9] <;> rfl⟩
def p_firsts (S : St) (wh : Int32) : Int32 × St := if (f_in wh (nI 0) (nI 1)) = 0 then ((-2), S) else if wh = (nI 1) then (sckF S, S) else ((traS S (S 12 2) (S 12 3)) 55 0, (traS S (S 12 2) (S 12 3)))
set_option maxHeartbeats 4000000 in
set_option maxRecDepth 20000 in
theorem c_X6_firsts (l : Launch) (D : va_G) (k : Nat → ClassId) (q z : Nat → Nat) (g : Nat → Option Nat) (S : St) (X : va_W) (wh : Int32) (hN : okN S) : CI l D k yX6_firsts cX6_firsts 2 (some .int) 3 0 0 [.ref (q 0), .int wh] (wC k q z g S X) (fun r w' => w' = wC k q z g ((p_firsts S wh).2) X ∧ r = (p_firsts S wh).1) := by
  refine CI.mk (by decide) (Nat.le_of_ble_eq_true rfl) ?_
  intro p e R s m args below meth c A Q ls F hret hw hl
  have hx := xs_hx F
  have hb := xs_hb F
  have hl : lv_has ls 2 [(0, .ref (q 0)), (1, .int wh)] := hl
  refine lv_iload_n hx hb dX6_firsts_0 rfl (lv_at hl 1 rfl) ?_
  refine lv_iconst (v := nI 0) hx hb dX6_firsts_1 rfl ?_
  refine lv_iconst (v := nI 1) hx hb dX6_firsts_2 rfl ?_
  refine x_fSI (rest := []) (c_X6_within l D k (wC k q z g S X) wh (nI 0) (nI 1)) mo_X6_93 F hw (Nat.le_of_ble_eq_true rfl) (x_cs F (Nat.le_of_ble_eq_true rfl) (Nat.le_of_ble_eq_true rfl)) rfl rfl hl.1 (Nat.le_of_ble_eq_true rfl) dX6_firsts_3 (fun H locs hw => ?_)
  refine lv_if_ne (tgt := 12) hx hb dX6_firsts_6 rfl (fun c6 => ?_) (fun c6 => ?_)
  · refine lv_iload_n hx hb dX6_firsts_12 rfl (lv_at hl 1 rfl) ?_
    refine lv_iconst (v := nI 1) hx hb dX6_firsts_13 rfl ?_
    refine lv_icmp_ne (tgt := 25) hx hb dX6_firsts_14 rfl (fun c14 => ?_) (fun c14 => ?_)
    · refine lv_aload_n hx hb dX6_firsts_25 rfl (lv_at hl 0 rfl) ?_
      refine x_getr frC_0_6 F hw fo_X6_53 dX6_firsts_26 ?_
      refine lv_aload_n hx hb dX6_firsts_29 rfl (lv_at hl 0 rfl) ?_
      refine x_getr frC_0_0 F hw fo_X6_10 dX6_firsts_30 ?_
      refine x_getr frC_2_7 F hw fo_X6_97 dX6_firsts_33 ?_
      refine lv_iconst (v := nI 2) hx hb dX6_firsts_36 rfl ?_
      refine x_iald aiC_12 F hw 2 rfl (by omega) dX6_firsts_37 ?_
      refine lv_aload_n hx hb dX6_firsts_38 rfl (lv_at hl 0 rfl) ?_
      refine x_getr frC_0_0 F hw fo_X6_10 dX6_firsts_39 ?_
      refine x_getr frC_2_7 F hw fo_X6_97 dX6_firsts_42 ?_
      refine lv_iconst (v := nI 3) hx hb dX6_firsts_45 rfl ?_
      refine x_iald aiC_12 F hw 3 rfl (by omega) dX6_firsts_46 ?_
      refine x_fVV (rest := []) (c_X4_trace l D k q z g S X (S 12 2) (S 12 3) (by first | assumption | omega)) mo_X6_236 obC_33 F hw (Nat.le_of_ble_eq_true rfl) (x_cs F (Nat.le_of_ble_eq_true rfl) (Nat.le_of_ble_eq_true rfl)) rfl rfl hl.1 (Nat.le_of_ble_eq_true rfl) dX6_firsts_47 (fun H locs hw => ?_)
      refine lv_aload_n hx hb dX6_firsts_50 rfl (lv_at hl 0 rfl) ?_
      refine x_getr frC_0_6 F hw fo_X6_53 dX6_firsts_51 ?_
      refine x_geti fiC_55 F hw fo_X6_240 dX6_firsts_54 ?_
      have e9 : p_firsts S wh = ((traS S (S 12 2) (S 12 3)) 55 0, (traS S (S 12 2) (S 12 3))) := by unfold p_firsts; rw [if_neg c6, if_neg c14]
      exact hret _ _ _ _ _ _ dX6_firsts_57 hw rfl ⟨by rw [e9] <;> rfl, by rw [e9] <;> rfl⟩
    · refine lv_aload_n hx hb dX6_firsts_17 rfl (lv_at hl 0 rfl) ?_
      refine x_getr frC_0_6 F hw fo_X6_53 dX6_firsts_18 ?_
      refine x_fVI (rest := []) (c_X4_sickMen l D k q z g S X (by first | assumption | omega)) mo_X6_233 obC_33 F hw (Nat.le_of_ble_eq_true rfl) (x_cs F (Nat.le_of_ble_eq_true rfl) (Nat.le_of_ble_eq_true rfl)) rfl rfl hl.1 (Nat.le_of_ble_eq_true rfl) dX6_firsts_21 (fun H locs hw => ?_)
      have e9 : p_firsts S wh = (sckF S, S) := by unfold p_firsts; rw [if_neg c6, if_pos c14]
      exact hret _ _ _ _ _ _ dX6_firsts_24 hw rfl ⟨by rw [e9] <;> rfl, by rw [e9] <;> rfl⟩
  · refine lv_bipush (v := (-2)) hx hb dX6_firsts_9 rfl ?_
    have e9 : p_firsts S wh = ((-2), S) := by unfold p_firsts; rw [if_pos c6]
    exact hret _ _ _ _ _ _ dX6_firsts_11 hw rfl ⟨by rw [e9] <;> rfl, by rw [e9] <;> rfl⟩
def p_must (S : St) (mn : Int32) (wh : Int32) : Int32 × St := if (haM S mn) = 0 then ((-1), S) else if (f_in wh (nI 0) (nI 1)) = 0 then ((-2), S) else if wh = 0 then (oapF (traS S (S 12 2) (S 12 3)) (clN mn), (traS S (S 12 2) (S 12 3))) else (nI ((spF ((traS S (S 12 2) (S 12 3)) 37) (menN (traS S (S 12 2) (S 12 3))) ((traS S (S 12 2) (S 12 3)) 55 0) (clN mn) (sckF (traS S (S 12 2) (S 12 3))))), (traS S (S 12 2) (S 12 3)))
set_option maxHeartbeats 4000000 in
set_option maxRecDepth 20000 in
theorem c_X6_must (l : Launch) (D : va_G) (k : Nat → ClassId) (q z : Nat → Nat) (g : Nat → Option Nat) (S : St) (X : va_W) (mn : Int32) (wh : Int32) (hN : okN S) : CI l D k yX6_must cX6_must 3 (some .int) 3 0 0 [.ref (q 0), .int mn, .int wh] (wC k q z g S X) (fun r w' => w' = wC k q z g ((p_must S mn wh).2) X ∧ r = (p_must S mn wh).1) := by
  refine CI.mk (by decide) (Nat.le_of_ble_eq_true rfl) ?_
  intro p e R s m args below meth c A Q ls F hret hw hl
  have hx := xs_hx F
  have hb := xs_hb F
  have hl : lv_has ls 3 [(0, .ref (q 0)), (1, .int mn), (2, .int wh)] := hl
  have h8 := hN.1.2
  have h16 := hN.2.1.2
  refine lv_aload_n hx hb dX6_must_0 rfl (lv_at hl 0 rfl) ?_
  refine x_getr frC_0_6 F hw fo_X6_53 dX6_must_1 ?_
  refine lv_iload_n hx hb dX6_must_4 rfl (lv_at hl 1 rfl) ?_
  refine x_fVI (rest := []) (c_X4_hasMan l D k q z g S X mn) mo_X6_215 obC_33 F hw (Nat.le_of_ble_eq_true rfl) (x_cs F (Nat.le_of_ble_eq_true rfl) (Nat.le_of_ble_eq_true rfl)) rfl rfl hl.1 (Nat.le_of_ble_eq_true rfl) dX6_must_5 (fun H locs hw => ?_)
  refine lv_if_ne (tgt := 13) hx hb dX6_must_8 rfl (fun c8 => ?_) (fun c8 => ?_)
  · have hmn := haM_t hN c8
    refine lv_iload_n hx hb dX6_must_13 rfl (lv_at hl 2 rfl) ?_
    refine lv_iconst (v := nI 0) hx hb dX6_must_14 rfl ?_
    refine lv_iconst (v := nI 1) hx hb dX6_must_15 rfl ?_
    refine x_fSI (rest := []) (c_X6_within l D k (wC k q z g S X) wh (nI 0) (nI 1)) mo_X6_93 F hw (Nat.le_of_ble_eq_true rfl) (x_cs F (Nat.le_of_ble_eq_true rfl) (Nat.le_of_ble_eq_true rfl)) rfl rfl hl.1 (Nat.le_of_ble_eq_true rfl) dX6_must_16 (fun H locs hw => ?_)
    refine lv_if_ne (tgt := 25) hx hb dX6_must_19 rfl (fun c19 => ?_) (fun c19 => ?_)
    · refine lv_aload_n hx hb dX6_must_25 rfl (lv_at hl 0 rfl) ?_
      refine x_getr frC_0_6 F hw fo_X6_53 dX6_must_26 ?_
      refine lv_aload_n hx hb dX6_must_29 rfl (lv_at hl 0 rfl) ?_
      refine x_getr frC_0_0 F hw fo_X6_10 dX6_must_30 ?_
      refine x_getr frC_2_7 F hw fo_X6_97 dX6_must_33 ?_
      refine lv_iconst (v := nI 2) hx hb dX6_must_36 rfl ?_
      refine x_iald aiC_12 F hw 2 rfl (by omega) dX6_must_37 ?_
      refine lv_aload_n hx hb dX6_must_38 rfl (lv_at hl 0 rfl) ?_
      refine x_getr frC_0_0 F hw fo_X6_10 dX6_must_39 ?_
      refine x_getr frC_2_7 F hw fo_X6_97 dX6_must_42 ?_
      refine lv_iconst (v := nI 3) hx hb dX6_must_45 rfl ?_
      refine x_iald aiC_12 F hw 3 rfl (by omega) dX6_must_46 ?_
      refine x_fVV (rest := []) (c_X4_trace l D k q z g S X (S 12 2) (S 12 3) (by first | assumption | omega)) mo_X6_236 obC_33 F hw (Nat.le_of_ble_eq_true rfl) (x_cs F (Nat.le_of_ble_eq_true rfl) (Nat.le_of_ble_eq_true rfl)) rfl rfl hl.1 (Nat.le_of_ble_eq_true rfl) dX6_must_47 (fun H locs hw => ?_)
      refine lv_iload_n hx hb dX6_must_50 rfl (lv_at hl 2 rfl) ?_
      refine lv_if_ne (tgt := 65) hx hb dX6_must_51 rfl (fun c51 => ?_) (fun c51 => ?_)
      · refine lv_aload_n hx hb dX6_must_65 rfl (lv_at hl 0 rfl) ?_
        refine x_getr frC_0_6 F hw fo_X6_53 dX6_must_66 ?_
        refine lv_iload_n hx hb dX6_must_69 rfl (lv_at hl 1 rfl) ?_
        refine x_top (y := nI (clN mn)) hmn.1 ?_
        refine lv_aload_n hx hb dX6_must_70 rfl (lv_at hl 0 rfl) ?_
        refine x_getr frC_0_6 F hw fo_X6_53 dX6_must_71 ?_
        refine x_fVI (rest := [.int (nI (clN mn)), .ref (q 33)]) (c_X4_sickMen l D k q z g (traS S (S 12 2) (S 12 3)) X (by exact hN)) mo_X6_233 obC_33 F hw (Nat.le_of_ble_eq_true rfl) (x_cs F (Nat.le_of_ble_eq_true rfl) (Nat.le_of_ble_eq_true rfl)) rfl rfl hl.1 (Nat.le_of_ble_eq_true rfl) dX6_must_74 (fun H locs hw => ?_)
        refine x_fVI (rest := []) (c_X4_shortestPathTo l D k q z g (traS S (S 12 2) (S 12 3)) X (clN mn) (sckF (traS S (S 12 2) (S 12 3))) (by exact hN)) mo_X6_246 obC_33 F hw (Nat.le_of_ble_eq_true rfl) (x_cs F (Nat.le_of_ble_eq_true rfl) (Nat.le_of_ble_eq_true rfl)) rfl rfl hl.1 (Nat.le_of_ble_eq_true rfl) dX6_must_77 (fun H locs hw => ?_)
        have e9 : p_must S mn wh = (nI ((spF ((traS S (S 12 2) (S 12 3)) 37) (menN (traS S (S 12 2) (S 12 3))) ((traS S (S 12 2) (S 12 3)) 55 0) (clN mn) (sckF (traS S (S 12 2) (S 12 3))))), (traS S (S 12 2) (S 12 3))) := by unfold p_must; rw [if_neg c8, if_neg c19, if_neg c51]
        exact hret _ _ _ _ _ _ dX6_must_80 hw rfl ⟨by rw [e9] <;> rfl, by rw [e9] <;> rfl⟩
      · refine lv_aload_n hx hb dX6_must_54 rfl (lv_at hl 0 rfl) ?_
        refine x_getr frC_0_6 F hw fo_X6_53 dX6_must_55 ?_
        refine lv_iload_n hx hb dX6_must_58 rfl (lv_at hl 1 rfl) ?_
        refine x_top (y := nI (clN mn)) hmn.1 ?_
        refine x_fVI (rest := []) (c_X4_onAllPathsTo l D k q z g (traS S (S 12 2) (S 12 3)) X (clN mn) (by exact hN)) mo_X6_243 obC_33 F hw (Nat.le_of_ble_eq_true rfl) (x_cs F (Nat.le_of_ble_eq_true rfl) (Nat.le_of_ble_eq_true rfl)) rfl rfl hl.1 (Nat.le_of_ble_eq_true rfl) dX6_must_59 (fun H locs hw => ?_)
        refine lv_goto (tgt := 80) hx hb dX6_must_62 rfl ?_
        have e9 : p_must S mn wh = (oapF (traS S (S 12 2) (S 12 3)) (clN mn), (traS S (S 12 2) (S 12 3))) := by unfold p_must; rw [if_neg c8, if_neg c19, if_pos c51]
        exact hret _ _ _ _ _ _ dX6_must_80 hw rfl ⟨by rw [e9] <;> rfl, by rw [e9] <;> rfl⟩
    · refine lv_bipush (v := (-2)) hx hb dX6_must_22 rfl ?_
      have e9 : p_must S mn wh = ((-2), S) := by unfold p_must; rw [if_neg c8, if_pos c19]
      exact hret _ _ _ _ _ _ dX6_must_24 hw rfl ⟨by rw [e9] <;> rfl, by rw [e9] <;> rfl⟩
  · refine lv_iconst (v := (-1)) hx hb dX6_must_11 rfl ?_
    have e9 : p_must S mn wh = ((-1), S) := by unfold p_must; rw [if_pos c8]
    exact hret _ _ _ _ _ _ dX6_must_12 hw rfl ⟨by rw [e9] <;> rfl, by rw [e9] <;> rfl⟩
theorem x_tab8 {x : Int32} (h0 : ¬ x = nI 0) (h1 : ¬ x = nI 1) (h2 : ¬ x = nI 2) (h3 : ¬ x = nI 3) (h4 : ¬ x = nI 4) (h5 : ¬ x = nI 5) (h6 : ¬ x = nI 6) (h7 : ¬ x = nI 7) (h8 : ¬ x = nI 8) : x.toInt < 0 ∨ 8 < x.toInt := by
  rcases pk_ix x (n := 9) (by decide) with h | h | ⟨j, hj, rfl⟩
  · exact Or.inl ((Int32.lt_iff_toInt_lt).mp h)
  · right
    have := (Int32.le_iff_toInt_le).mp h
    have e : (nI 9).toInt = 9 := rfl
    omega
  · rcases (show j = 0 ∨ j = 1 ∨ j = 2 ∨ j = 3 ∨ j = 4 ∨ j = 5 ∨ j = 6 ∨ j = 7 ∨ j = 8 by omega) with rfl | rfl | rfl | rfl | rfl | rfl | rfl | rfl | rfl <;> contradiction
def p_told (S : St) (wh : Int32) : Int32 × St := if wh = nI 0 then (S 40 0, S) else if wh = nI 1 then (S 42 0, S) else if wh = nI 2 then (S 41 0, S) else if wh = nI 3 then (S 53 0, S) else if wh = nI 4 then (S 54 0, S) else if wh = nI 5 then (S 12 0, S) else if wh = nI 6 then (S 12 1, S) else if wh = nI 7 then (S 12 2, S) else if wh = nI 8 then (S 12 3, S) else ((-2), S)
set_option maxHeartbeats 4000000 in
set_option maxRecDepth 20000 in
theorem c_X6_told (l : Launch) (D : va_G) (k : Nat → ClassId) (q z : Nat → Nat) (g : Nat → Option Nat) (S : St) (X : va_W) (wh : Int32) : CI l D k yX6_told cX6_told 2 (some .int) 0 0 0 [.ref (q 0), .int wh] (wC k q z g S X) (fun r w' => w' = wC k q z g ((p_told S wh).2) X ∧ r = (p_told S wh).1) := by
  refine CI.mk (by decide) (Nat.le_of_ble_eq_true rfl) ?_
  intro p e R s m args below meth c A Q ls F hret hw hl
  have hx := xs_hx F
  have hb := xs_hb F
  have hl : lv_has ls 2 [(0, .ref (q 0)), (1, .int wh)] := hl
  refine lv_iload_n hx hb dX6_told_0 rfl (lv_at hl 1 rfl) ?_
  rcases Decidable.em (wh = nI 0) with c1_0 | c1_0
  · refine lv_tableIn (tgt := 52) hx hb dX6_told_1 (by rw [c1_0]; decide) (by rw [c1_0]; decide) (by rw [c1_0]; rfl) rfl ?_
    refine lv_aload_n hx hb dX6_told_52 rfl (lv_at hl 0 rfl) ?_
    refine x_getr frC_0_0 F hw fo_X6_10 dX6_told_53 ?_
    refine x_geti fiC_40 F hw fo_X6_65 dX6_told_56 ?_
    have e9 : p_told S wh = (S 40 0, S) := by unfold p_told; rw [if_pos c1_0]
    exact hret _ _ _ _ _ _ dX6_told_59 hw rfl ⟨by rw [e9] <;> rfl, by rw [e9] <;> rfl⟩
  rcases Decidable.em (wh = nI 1) with c1_1 | c1_1
  · refine lv_tableIn (tgt := 60) hx hb dX6_told_1 (by rw [c1_1]; decide) (by rw [c1_1]; decide) (by rw [c1_1]; rfl) rfl ?_
    refine lv_aload_n hx hb dX6_told_60 rfl (lv_at hl 0 rfl) ?_
    refine x_getr frC_0_2 F hw fo_X6_23 dX6_told_61 ?_
    refine x_geti fiC_42 F hw fo_X6_100 dX6_told_64 ?_
    have e9 : p_told S wh = (S 42 0, S) := by unfold p_told; rw [if_neg c1_0, if_pos c1_1]
    exact hret _ _ _ _ _ _ dX6_told_67 hw rfl ⟨by rw [e9] <;> rfl, by rw [e9] <;> rfl⟩
  rcases Decidable.em (wh = nI 2) with c1_2 | c1_2
  · refine lv_tableIn (tgt := 68) hx hb dX6_told_1 (by rw [c1_2]; decide) (by rw [c1_2]; decide) (by rw [c1_2]; rfl) rfl ?_
    refine lv_aload_n hx hb dX6_told_68 rfl (lv_at hl 0 rfl) ?_
    refine x_getr frC_0_0 F hw fo_X6_10 dX6_told_69 ?_
    refine x_geti fiC_41 F hw fo_X6_119 dX6_told_72 ?_
    have e9 : p_told S wh = (S 41 0, S) := by unfold p_told; rw [if_neg c1_0, if_neg c1_1, if_pos c1_2]
    exact hret _ _ _ _ _ _ dX6_told_75 hw rfl ⟨by rw [e9] <;> rfl, by rw [e9] <;> rfl⟩
  rcases Decidable.em (wh = nI 3) with c1_3 | c1_3
  · refine lv_tableIn (tgt := 76) hx hb dX6_told_1 (by rw [c1_3]; decide) (by rw [c1_3]; decide) (by rw [c1_3]; rfl) rfl ?_
    refine lv_aload_n hx hb dX6_told_76 rfl (lv_at hl 0 rfl) ?_
    refine x_getr frC_0_6 F hw fo_X6_53 dX6_told_77 ?_
    refine x_geti fiC_53 F hw fo_X6_212 dX6_told_80 ?_
    have e9 : p_told S wh = (S 53 0, S) := by unfold p_told; rw [if_neg c1_0, if_neg c1_1, if_neg c1_2, if_pos c1_3]
    exact hret _ _ _ _ _ _ dX6_told_83 hw rfl ⟨by rw [e9] <;> rfl, by rw [e9] <;> rfl⟩
  rcases Decidable.em (wh = nI 4) with c1_4 | c1_4
  · refine lv_tableIn (tgt := 84) hx hb dX6_told_1 (by rw [c1_4]; decide) (by rw [c1_4]; decide) (by rw [c1_4]; rfl) rfl ?_
    refine lv_aload_n hx hb dX6_told_84 rfl (lv_at hl 0 rfl) ?_
    refine x_getr frC_0_6 F hw fo_X6_53 dX6_told_85 ?_
    refine x_geti fiC_54 F hw fo_X6_221 dX6_told_88 ?_
    have e9 : p_told S wh = (S 54 0, S) := by unfold p_told; rw [if_neg c1_0, if_neg c1_1, if_neg c1_2, if_neg c1_3, if_pos c1_4]
    exact hret _ _ _ _ _ _ dX6_told_91 hw rfl ⟨by rw [e9] <;> rfl, by rw [e9] <;> rfl⟩
  rcases Decidable.em (wh = nI 5) with c1_5 | c1_5
  · refine lv_tableIn (tgt := 92) hx hb dX6_told_1 (by rw [c1_5]; decide) (by rw [c1_5]; decide) (by rw [c1_5]; rfl) rfl ?_
    refine lv_aload_n hx hb dX6_told_92 rfl (lv_at hl 0 rfl) ?_
    refine x_getr frC_0_0 F hw fo_X6_10 dX6_told_93 ?_
    refine x_getr frC_2_7 F hw fo_X6_97 dX6_told_96 ?_
    refine lv_iconst (v := nI 0) hx hb dX6_told_99 rfl ?_
    refine x_iald aiC_12 F hw 0 rfl (by omega) dX6_told_100 ?_
    have e9 : p_told S wh = (S 12 0, S) := by unfold p_told; rw [if_neg c1_0, if_neg c1_1, if_neg c1_2, if_neg c1_3, if_neg c1_4, if_pos c1_5]
    exact hret _ _ _ _ _ _ dX6_told_101 hw rfl ⟨by rw [e9] <;> rfl, by rw [e9] <;> rfl⟩
  rcases Decidable.em (wh = nI 6) with c1_6 | c1_6
  · refine lv_tableIn (tgt := 102) hx hb dX6_told_1 (by rw [c1_6]; decide) (by rw [c1_6]; decide) (by rw [c1_6]; rfl) rfl ?_
    refine lv_aload_n hx hb dX6_told_102 rfl (lv_at hl 0 rfl) ?_
    refine x_getr frC_0_0 F hw fo_X6_10 dX6_told_103 ?_
    refine x_getr frC_2_7 F hw fo_X6_97 dX6_told_106 ?_
    refine lv_iconst (v := nI 1) hx hb dX6_told_109 rfl ?_
    refine x_iald aiC_12 F hw 1 rfl (by omega) dX6_told_110 ?_
    have e9 : p_told S wh = (S 12 1, S) := by unfold p_told; rw [if_neg c1_0, if_neg c1_1, if_neg c1_2, if_neg c1_3, if_neg c1_4, if_neg c1_5, if_pos c1_6]
    exact hret _ _ _ _ _ _ dX6_told_111 hw rfl ⟨by rw [e9] <;> rfl, by rw [e9] <;> rfl⟩
  rcases Decidable.em (wh = nI 7) with c1_7 | c1_7
  · refine lv_tableIn (tgt := 112) hx hb dX6_told_1 (by rw [c1_7]; decide) (by rw [c1_7]; decide) (by rw [c1_7]; rfl) rfl ?_
    refine lv_aload_n hx hb dX6_told_112 rfl (lv_at hl 0 rfl) ?_
    refine x_getr frC_0_0 F hw fo_X6_10 dX6_told_113 ?_
    refine x_getr frC_2_7 F hw fo_X6_97 dX6_told_116 ?_
    refine lv_iconst (v := nI 2) hx hb dX6_told_119 rfl ?_
    refine x_iald aiC_12 F hw 2 rfl (by omega) dX6_told_120 ?_
    have e9 : p_told S wh = (S 12 2, S) := by unfold p_told; rw [if_neg c1_0, if_neg c1_1, if_neg c1_2, if_neg c1_3, if_neg c1_4, if_neg c1_5, if_neg c1_6, if_pos c1_7]
    exact hret _ _ _ _ _ _ dX6_told_121 hw rfl ⟨by rw [e9] <;> rfl, by rw [e9] <;> rfl⟩
  rcases Decidable.em (wh = nI 8) with c1_8 | c1_8
  · refine lv_tableIn (tgt := 122) hx hb dX6_told_1 (by rw [c1_8]; decide) (by rw [c1_8]; decide) (by rw [c1_8]; rfl) rfl ?_
    refine lv_aload_n hx hb dX6_told_122 rfl (lv_at hl 0 rfl) ?_
    refine x_getr frC_0_0 F hw fo_X6_10 dX6_told_123 ?_
    refine x_getr frC_2_7 F hw fo_X6_97 dX6_told_126 ?_
    refine lv_iconst (v := nI 3) hx hb dX6_told_129 rfl ?_
    refine x_iald aiC_12 F hw 3 rfl (by omega) dX6_told_130 ?_
    have e9 : p_told S wh = (S 12 3, S) := by unfold p_told; rw [if_neg c1_0, if_neg c1_1, if_neg c1_2, if_neg c1_3, if_neg c1_4, if_neg c1_5, if_neg c1_6, if_neg c1_7, if_pos c1_8]
    exact hret _ _ _ _ _ _ dX6_told_131 hw rfl ⟨by rw [e9] <;> rfl, by rw [e9] <;> rfl⟩
  refine lv_tableOut (tgt := 132) hx hb dX6_told_1 (x_tab8 c1_0 c1_1 c1_2 c1_3 c1_4 c1_5 c1_6 c1_7 c1_8) rfl ?_
  refine lv_bipush (v := (-2)) hx hb dX6_told_132 rfl ?_
  have e9 : p_told S wh = ((-2), S) := by unfold p_told; rw [if_neg c1_0, if_neg c1_1, if_neg c1_2, if_neg c1_3, if_neg c1_4, if_neg c1_5, if_neg c1_6, if_neg c1_7, if_neg c1_8]
  exact hret _ _ _ _ _ _ dX6_told_134 hw rfl ⟨by rw [e9] <;> rfl, by rw [e9] <;> rfl⟩
