/-! ===== the class: image, restore ===== -/
theorem alb_swap {k : Nat → ClassId} {q r : Nat → Nat} {S S2 : St} {Y : va_W} : List.Perm (alb k r S2 (alb k q S Y)) (alb k q S (alb k r S2 Y)) :=
  List.perm_append_comm_assoc (alb k r S2 []) (alb k q S []) Y
set_option maxHeartbeats 4000000 in
set_option maxRecDepth 20000 in
theorem c_X6_restore_no (l : Launch) (D : va_G) (k : Nat → ClassId) (q z : Nat → Nat) (g : Nat → Option Nat) (S : St) (X : va_W) (sl : Int32) (h : f_in sl (nI 0) (nI 1) = 0 ∨ g (clN sl) = none) : CI l D k yX6_restore cX6_restore 3 (some .int) 2 0 0 [.ref (q 0), .int sl] (wC k q z g S X) (fun r w' => w' = wC k q z g S X ∧ r = if f_in sl (nI 0) (nI 1) = 0 then (-2) else (-3)) := by
  refine CI.mk (by decide) (Nat.le_of_ble_eq_true rfl) ?_
  intro p e R s m args below meth c A Q ls F hret hw hl
  have hx := xs_hx F
  have hb := xs_hb F
  have hl : lv_has ls 3 [(0, .ref (q 0)), (1, .int sl)] := hl
  refine lv_iload_n hx hb dX6_restore_0 rfl (lv_at hl 1 rfl) ?_
  refine lv_iconst (v := nI 0) hx hb dX6_restore_1 rfl ?_
  refine lv_iconst (v := nI 1) hx hb dX6_restore_2 rfl ?_
  refine x_fSI (rest := []) (c_X6_within l D k (wC k q z g S X) sl (nI 0) (nI 1)) mo_X6_93 F hw (Nat.le_of_ble_eq_true rfl) (x_cs F (Nat.le_of_ble_eq_true rfl) (Nat.le_of_ble_eq_true rfl)) rfl rfl hl.1 (Nat.le_of_ble_eq_true rfl) dX6_restore_3 (fun H locs hw => ?_)
  refine lv_if_ne (tgt := 12) hx hb dX6_restore_6 rfl (fun c6 => ?_) (fun c6 => ?_)
  · have hsl := f_in_t (by decide) c6
    have hg : g (clN sl) = none := h.resolve_left c6
    refine lv_aload_n hx hb dX6_restore_12 rfl (lv_at hl 0 rfl) ?_
    refine x_getr frC_0_1 F hw fo_X6_16 dX6_restore_13 ?_
    refine lv_iload_n hx hb dX6_restore_16 rfl (lv_at hl 1 rfl) ?_
    refine x_aald (f := g) 1 rfl (Nat.le_of_ble_eq_true rfl) F hw (clN sl) hsl.1 (by have := hsl.2; omega) dX6_restore_17 ?_
    rw [hg]
    change W p l e R s m args below meth c H locs 0 0 Q (F0 m 18 ls [.null])
    refine lv_astore_nN (lv' := [(2, .null), (0, .ref (q 0)), (1, .int sl)]) hx hb dX6_restore_18 rfl hl (Nat.le_of_ble_eq_true rfl) rfl (fun ls hl => ?_)
    refine lv_aload_nN hx hb dX6_restore_19 rfl (lv_at hl 0 rfl) ?_
    refine lv_ifnonnullN hx hb dX6_restore_20 ?_
    refine lv_bipush (v := (-3)) hx hb dX6_restore_23 rfl ?_
    exact hret _ _ _ _ _ _ dX6_restore_25 hw rfl ⟨rfl, by rw [if_neg c6]⟩
  · refine lv_bipush (v := (-2)) hx hb dX6_restore_9 rfl ?_
    exact hret _ _ _ _ _ _ dX6_restore_11 hw rfl ⟨rfl, by rw [if_pos c6]⟩
set_option maxHeartbeats 4000000 in
set_option maxRecDepth 20000 in
theorem c_X6_restore_yes (l : Launch) (D : va_G) (k : Nat → ClassId) (q z r : Nat → Nat) (g : Nat → Option Nat) (S S2 : St) (X : va_W) (sl : Int32) (hin : ¬ f_in sl (nI 0) (nI 1) = 0) (hg : g (clN sl) = some (r 2)) : CI l D k yX6_restore cX6_restore 3 (some .int) 2 0 0 [.ref (q 0), .int sl] (wC k q z g S (alb k r S2 X)) (fun r_ w' => r_ = nI 1 ∧ ∃ S', w' = wC k q z g (va_up S' 45 (fun _ => nI 0)) (alb k r S2 X) ∧ CPA S S2 S') := by
  refine CI.mk (by decide) (Nat.le_of_ble_eq_true rfl) ?_
  intro p e R s m args below meth c A Q ls F hret hw hl
  have hx := xs_hx F
  have hb := xs_hb F
  have hl : lv_has ls 3 [(0, .ref (q 0)), (1, .int sl)] := hl
  refine lv_iload_n hx hb dX6_restore_0 rfl (lv_at hl 1 rfl) ?_
  refine lv_iconst (v := nI 0) hx hb dX6_restore_1 rfl ?_
  refine lv_iconst (v := nI 1) hx hb dX6_restore_2 rfl ?_
  refine x_fSI (rest := []) (c_X6_within l D k (wC k q z g S (alb k r S2 X)) sl (nI 0) (nI 1)) mo_X6_93 F hw (Nat.le_of_ble_eq_true rfl) (x_cs F (Nat.le_of_ble_eq_true rfl) (Nat.le_of_ble_eq_true rfl)) rfl rfl hl.1 (Nat.le_of_ble_eq_true rfl) dX6_restore_3 (fun H locs hw => ?_)
  refine lv_if_ne (tgt := 12) hx hb dX6_restore_6 rfl (fun c6 => ?_) (fun c6 => ?_)
  · have hsl := f_in_t (by decide) c6
    refine lv_aload_n hx hb dX6_restore_12 rfl (lv_at hl 0 rfl) ?_
    refine x_getr frC_0_1 F hw fo_X6_16 dX6_restore_13 ?_
    refine lv_iload_n hx hb dX6_restore_16 rfl (lv_at hl 1 rfl) ?_
    refine x_aald (f := g) 1 rfl (Nat.le_of_ble_eq_true rfl) F hw (clN sl) hsl.1 (by have := hsl.2; omega) dX6_restore_17 ?_
    rw [hg]
    change W p l e R s m args below meth c H locs 0 0 Q (F0 m 18 ls [.ref (r 2)])
    refine lv_astore_n (lv' := [(2, .ref (r 2)), (0, .ref (q 0)), (1, .int sl)]) hx hb dX6_restore_18 rfl hl (Nat.le_of_ble_eq_true rfl) rfl (fun ls hl => ?_)
    refine lv_aload_n hx hb dX6_restore_19 rfl (lv_at hl 0 rfl) ?_
    refine lv_ifnonnull (tgt := 26) hx hb dX6_restore_20 rfl ?_
    refine lv_aload_n hx hb dX6_restore_26 rfl (lv_at hl 1 rfl) ?_
    refine x_getr frC_0_0 F hw fo_X6_10 dX6_restore_27 ?_
    refine lv_aload_n hx hb dX6_restore_30 rfl (lv_at hl 0 rfl) ?_
    have hw : Wd D A s.heap H locs (alb k q S (alb k r S2 (List.append (wH q g k) (List.append (wR k q z S) X)))) := (hw.perm wC_img).perm alb_swap
    refine x_callVV (p0 := 0) (rest := []) (c_X1_copyOf l D k q r S S2 (List.append (wH q g k) (List.append (wR k q z S) X))) mo_X6_249 ⟨_, rfl⟩ F hw (Nat.le_of_ble_eq_true rfl) (x_cs F (Nat.le_of_ble_eq_true rfl) (Nat.le_of_ble_eq_true rfl)) rfl rfl hl.1 (Nat.le_of_ble_eq_true rfl) dX6_restore_31 (fun w_ H locs hp hw => ?_)
    obtain ⟨S', hp1, hcp⟩ := hp
    rw [hp1] at hw
    have hw : Wd D A s.heap H locs (wC k q z g S' (alb k r S2 X)) := by
      have h9 := (hw.perm alb_swap)
      rw [← wR_alb (k := k) (q := q) (z := z) (S := S) (S' := S') hcp.1.2.2.2] at h9
      exact h9.perm wC_img.symm
    refine lv_aload_n hx hb dX6_restore_34 rfl (lv_at hl 1 rfl) ?_
    refine x_getr frC_0_3 F hw fo_X6_32 dX6_restore_35 ?_
    refine x_fVV (rest := []) (c_X5_forget l D k q z g S' (alb k r S2 X)) mo_X6_69 obC_19 F hw (Nat.le_of_ble_eq_true rfl) (x_cs F (Nat.le_of_ble_eq_true rfl) (Nat.le_of_ble_eq_true rfl)) rfl rfl hl.1 (Nat.le_of_ble_eq_true rfl) dX6_restore_38 (fun H locs hw => ?_)
    refine lv_iconst (v := nI 1) hx hb dX6_restore_41 rfl ?_
    exact hret _ _ _ _ _ _ dX6_restore_42 hw rfl ⟨rfl, S', rfl, hcp⟩
  · exact absurd c6 hin
set_option maxHeartbeats 4000000 in
set_option maxRecDepth 20000 in
theorem c_X6_image_out (l : Launch) (D : va_G) (k : Nat → ClassId) (q z : Nat → Nat) (g : Nat → Option Nat) (S : St) (X : va_W) (sl : Int32) (h : f_in sl (nI 0) (nI 1) = 0) : CI l D k yX6_image cX6_image 3 (some .int) 2 0 0 [.ref (q 0), .int sl] (wC k q z g S X) (fun r w' => w' = wC k q z g S X ∧ r = (-2)) := by
  refine CI.mk (by decide) (Nat.le_of_ble_eq_true rfl) ?_
  intro p e R s m args below meth c A Q ls F hret hw hl
  have hx := xs_hx F
  have hb := xs_hb F
  have hl : lv_has ls 3 [(0, .ref (q 0)), (1, .int sl)] := hl
  refine lv_iload_n hx hb dX6_image_0 rfl (lv_at hl 1 rfl) ?_
  refine lv_iconst (v := nI 0) hx hb dX6_image_1 rfl ?_
  refine lv_iconst (v := nI 1) hx hb dX6_image_2 rfl ?_
  refine x_fSI (rest := []) (c_X6_within l D k (wC k q z g S X) sl (nI 0) (nI 1)) mo_X6_93 F hw (Nat.le_of_ble_eq_true rfl) (x_cs F (Nat.le_of_ble_eq_true rfl) (Nat.le_of_ble_eq_true rfl)) rfl rfl hl.1 (Nat.le_of_ble_eq_true rfl) dX6_image_3 (fun H locs hw => ?_)
  refine lv_if_ne (tgt := 12) hx hb dX6_image_6 rfl (fun c6 => ?_) (fun c6 => ?_)
  · exact absurd h c6
  · refine lv_bipush (v := (-2)) hx hb dX6_image_9 rfl ?_
    exact hret _ _ _ _ _ _ dX6_image_11 hw rfl ⟨rfl, rfl⟩
set_option maxHeartbeats 4000000 in
set_option maxRecDepth 20000 in
theorem c_X6_image_yes (l : Launch) (D : va_G) (k : Nat → ClassId) (q z r : Nat → Nat) (g : Nat → Option Nat) (S S2 : St) (X : va_W) (sl : Int32) (hin : ¬ f_in sl (nI 0) (nI 1) = 0) (hg : g (clN sl) = some (r 2)) : CI l D k yX6_image cX6_image 3 (some .int) 2 0 0 [.ref (q 0), .int sl] (wC k q z g S (alb k r S2 X)) (fun r_ w' => r_ = nI 1 ∧ ∃ S', w' = wC k q z g S (alb k r S' X) ∧ CPA S2 S S') := by
  refine CI.mk (by decide) (Nat.le_of_ble_eq_true rfl) ?_
  intro p e R s m args below meth c A Q ls F hret hw hl
  have hx := xs_hx F
  have hb := xs_hb F
  have hl : lv_has ls 3 [(0, .ref (q 0)), (1, .int sl)] := hl
  refine lv_iload_n hx hb dX6_image_0 rfl (lv_at hl 1 rfl) ?_
  refine lv_iconst (v := nI 0) hx hb dX6_image_1 rfl ?_
  refine lv_iconst (v := nI 1) hx hb dX6_image_2 rfl ?_
  refine x_fSI (rest := []) (c_X6_within l D k (wC k q z g S (alb k r S2 X)) sl (nI 0) (nI 1)) mo_X6_93 F hw (Nat.le_of_ble_eq_true rfl) (x_cs F (Nat.le_of_ble_eq_true rfl) (Nat.le_of_ble_eq_true rfl)) rfl rfl hl.1 (Nat.le_of_ble_eq_true rfl) dX6_image_3 (fun H locs hw => ?_)
  refine lv_if_ne (tgt := 12) hx hb dX6_image_6 rfl (fun c6 => ?_) (fun c6 => ?_)
  · have hsl := f_in_t (by decide) c6
    refine lv_aload_n hx hb dX6_image_12 rfl (lv_at hl 0 rfl) ?_
    refine x_getr frC_0_1 F hw fo_X6_16 dX6_image_13 ?_
    refine lv_iload_n hx hb dX6_image_16 rfl (lv_at hl 1 rfl) ?_
    refine x_aald (f := g) 1 rfl (Nat.le_of_ble_eq_true rfl) F hw (clN sl) hsl.1 (by have := hsl.2; omega) dX6_image_17 ?_
    rw [hg]
    change W p l e R s m args below meth c H locs 0 0 Q (F0 m 18 ls [.ref (r 2)])
    refine lv_astore_n (lv' := [(2, .ref (r 2)), (0, .ref (q 0)), (1, .int sl)]) hx hb dX6_image_18 rfl hl (Nat.le_of_ble_eq_true rfl) rfl (fun ls hl => ?_)
    refine lv_aload_n hx hb dX6_image_19 rfl (lv_at hl 0 rfl) ?_
    refine lv_ifnonnull (tgt := 38) hx hb dX6_image_20 rfl ?_
    refine lv_aload_n hx hb dX6_image_38 rfl (lv_at hl 0 rfl) ?_
    refine lv_aload_n hx hb dX6_image_39 rfl (lv_at hl 1 rfl) ?_
    refine x_getr frC_0_0 F hw fo_X6_10 dX6_image_40 ?_
    have hw : Wd D A s.heap H locs (alb k r S2 (alb k q S (List.append (wH q g k) (List.append (wR k q z S) X)))) := hw.perm wC_img
    refine x_callVV (p0 := 0) (rest := []) (c_X1_copyOf l D k r q S2 S (List.append (wH q g k) (List.append (wR k q z S) X))) mo_X6_249 ⟨_, rfl⟩ F hw (Nat.le_of_ble_eq_true rfl) (x_cs F (Nat.le_of_ble_eq_true rfl) (Nat.le_of_ble_eq_true rfl)) rfl rfl hl.1 (Nat.le_of_ble_eq_true rfl) dX6_image_43 (fun w_ H locs hp hw => ?_)
    obtain ⟨S', hp1, hcp⟩ := hp
    rw [hp1] at hw
    have hw : Wd D A s.heap H locs (wC k q z g S (alb k r S' X)) := hw.perm wC_img.symm
    refine lv_iconst (v := nI 1) hx hb dX6_image_46 rfl ?_
    exact hret _ _ _ _ _ _ dX6_image_47 hw rfl ⟨rfl, S', rfl, hcp⟩
  · exact absurd c6 hin
set_option maxHeartbeats 4000000 in
set_option maxRecDepth 20000 in
theorem c_X6_image_new (l : Launch) (D : va_G) (k : Nat → ClassId) (q z : Nat → Nat) (g : Nat → Option Nat) (S : St) (X : va_W) (sl : Int32) (hin : ¬ f_in sl (nI 0) (nI 1) = 0) (hg : g (clN sl) = none) : CI l D k yX6_image cX6_image 3 (some .int) 2 15 80 [.ref (q 0), .int sl] (wC k q z g S X) (fun r_ w' => r_ = nI 1 ∧ ∃ (r : Nat → Nat) (S2 S' : St), w' = wC k q z (va_up g (clN sl) (some (r 2))) S (alb k r S' X) ∧ CPA S2 S S') := by
  refine CI.mk (by decide) (Nat.le_of_ble_eq_true rfl) ?_
  intro p e R s m args below meth c A Q ls F hret hw hl
  have hx := xs_hx F
  have hb := xs_hb F
  have hl : lv_has ls 3 [(0, .ref (q 0)), (1, .int sl)] := hl
  refine lv_iload_n hx hb dX6_image_0 rfl (lv_at hl 1 rfl) ?_
  refine lv_iconst (v := nI 0) hx hb dX6_image_1 rfl ?_
  refine lv_iconst (v := nI 1) hx hb dX6_image_2 rfl ?_
  refine x_fSI (rest := []) (c_X6_within l D k (wC k q z g S X) sl (nI 0) (nI 1)) mo_X6_93 F hw (Nat.le_of_ble_eq_true rfl) (x_cs F (Nat.le_of_ble_eq_true rfl) (Nat.le_of_ble_eq_true rfl)) rfl rfl hl.1 (Nat.le_of_ble_eq_true rfl) dX6_image_3 (fun H locs hw => ?_)
  refine lv_if_ne (tgt := 12) hx hb dX6_image_6 rfl (fun c6 => ?_) (fun c6 => ?_)
  · have hsl := f_in_t (by decide) c6
    refine lv_aload_n hx hb dX6_image_12 rfl (lv_at hl 0 rfl) ?_
    refine x_getr frC_0_1 F hw fo_X6_16 dX6_image_13 ?_
    refine lv_iload_n hx hb dX6_image_16 rfl (lv_at hl 1 rfl) ?_
    refine x_aald (f := g) 1 rfl (Nat.le_of_ble_eq_true rfl) F hw (clN sl) hsl.1 (by have := hsl.2; omega) dX6_image_17 ?_
    rw [hg]
    change W p l e R s m args below meth c H locs 0 0 Q (F0 m 18 ls [.null])
    refine lv_astore_nN (lv' := [(2, .null), (0, .ref (q 0)), (1, .int sl)]) hx hb dX6_image_18 rfl hl (Nat.le_of_ble_eq_true rfl) rfl (fun ls hl => ?_)
    refine lv_aload_nN hx hb dX6_image_19 rfl (lv_at hl 0 rfl) ?_
    refine lv_ifnonnullN hx hb dX6_image_20 ?_
    refine x_new (ci := 1) (fs := [.int 0, .int 0, .null, .null, .null, .null, .null, .null, .null, .null, .null, .null]) F rfl inX1 tyX1_ok cl_X6_7 ins_X1 ini_X1 hw (fun j hj => match j, hj with | 0, _ => rfl | 1, _ => rfl | 2, _ => rfl | 3, _ => rfl | 4, _ => rfl | 5, _ => rfl | 6, _ => rfl | 7, _ => rfl | 8, _ => rfl | 9, _ => rfl | 10, _ => rfl | 11, _ => rfl | j + 12, h => absurd h (by omega)) (x_cs F (Nat.le_of_ble_eq_true rfl) (Nat.le_of_ble_eq_true rfl)) dX6_image_23 (fun b0 H hw => ?_)
    refine lv_dup hx hb dX6_image_26 rfl ?_
    refine x_callI (rest := [.ref b0]) (c_X1_init l D k b0 (wC k q z g S X)) mo_X6_9 F hw (Nat.le_of_ble_eq_true rfl) (x_cs F (Nat.le_of_ble_eq_true rfl) (Nat.le_of_ble_eq_true rfl)) rfl rfl hl.1 (Nat.le_of_ble_eq_true rfl) dX6_image_27 (fun w_ H locs hp hw => ?_)
    obtain ⟨r, T, f15, f16, hq2, hp1, hT, h15, h16⟩ := hp
    rw [hp1] at hw
    have hw9 := hw
    subst hq2
    have hw := hw9
    generalize hS2 : (va_up (va_up (grd SA0 8 4 T) 15 f15) 16 f16) = S2 at hw
    have hw : Wd D A s.heap H locs (wC k q z g S (alb k r S2 X)) := hw.perm (List.perm_append_comm_assoc (alb k r S2 []) (wC k q z g S []) X)
    refine lv_astore_n (lv' := [(2, .ref (r 2)), (0, .ref (q 0)), (1, .int sl)]) hx hb dX6_image_30 rfl hl (Nat.le_of_ble_eq_true rfl) rfl (fun ls hl => ?_)
    refine lv_aload_n hx hb dX6_image_31 rfl (lv_at hl 1 rfl) ?_
    refine x_getr frC_0_1 F hw fo_X6_16 dX6_image_32 ?_
    refine lv_iload_n hx hb dX6_image_35 rfl (lv_at hl 2 rfl) ?_
    refine lv_aload_n hx hb dX6_image_36 rfl (lv_at hl 0 rfl) ?_
    refine x_aast (f := g) (qk := 38) 1 rfl rfl (Nat.le_of_ble_eq_true rfl) F hw (clN sl) hsl.1 (by have := hsl.2; omega) dX6_image_37 (fun H locs hw => ?_)
    have hw : Wd D A s.heap H locs (wC k q z (va_up g (clN sl) (some (r 2))) S (alb k r S2 X)) := hw
    refine lv_aload_n hx hb dX6_image_38 rfl (lv_at hl 0 rfl) ?_
    refine lv_aload_n hx hb dX6_image_39 rfl (lv_at hl 1 rfl) ?_
    refine x_getr frC_0_0 F hw fo_X6_10 dX6_image_40 ?_
    have hw : Wd D A s.heap H locs (alb k r S2 (alb k q S (List.append (wH q (va_up g (clN sl) (some (r 2))) k) (List.append (wR k q z S) X)))) := hw.perm wC_img
    refine x_callVV (p0 := 0) (rest := []) (c_X1_copyOf l D k r q S2 S (List.append (wH q (va_up g (clN sl) (some (r 2))) k) (List.append (wR k q z S) X))) mo_X6_249 ⟨_, rfl⟩ F hw (Nat.le_of_ble_eq_true rfl) (x_cs F (Nat.le_of_ble_eq_true rfl) (Nat.le_of_ble_eq_true rfl)) rfl rfl hl.1 (Nat.le_of_ble_eq_true rfl) dX6_image_43 (fun w_ H locs hp hw => ?_)
    obtain ⟨S', hp1, hcp⟩ := hp
    rw [hp1] at hw
    have hw : Wd D A s.heap H locs (wC k q z (va_up g (clN sl) (some (r 2))) S (alb k r S' X)) := hw.perm wC_img.symm
    refine lv_iconst (v := nI 1) hx hb dX6_image_46 rfl ?_
    refine W.widen (k := 15) (n := 80) (by omega) (by omega) ?_
    exact hret _ _ _ _ _ _ dX6_image_47 hw rfl ⟨rfl, r, S2, S', rfl, hcp⟩
  · exact absurd c6 hin
