/-! ===== the law: case by case, on ===== -/
section LD
variable {p : Program} {l : Launch} {e : Env} {s : State} {m : MethodId} {below : List Frame} {meth : Method} {c : Code} {H : Heap} {locs : List Loc} {cells slots : Nat} {Q : State → Prop}
variable {ls : Array Slot} {D : va_G} {k : Nat → ClassId} {A : Nat → Prop} {b L j : Nat} {xs : Nat → Int32} {q qm : Nat → Nat}
set_option maxHeartbeats 4000000 in
set_option maxRecDepth 20000 in
theorem st_aged (F : Fx p room_1 s m #[Value.ref b] c cL_law 4 RL D k 12 600000 7302250) (hX : va_X b L xs s s.heap) (hbl : b < s.heap.size) (hbA : ¬ A b) (hL : L ≤ 256) (hj : 4 * j + 4 ≤ L) (hc : cells + 20 ≤ 600000 ∧ slots + 34000 ≤ 7302250) (hI : LInv D A s k q qm H locs) (hl : lv_has ls 4 [(0, .ref b), (1, .ref (q 0)), (2, .ref (qm 30)), (3, .int (nI (4 * j)))]) (kk : ∀ (H : Heap) (locs : List Loc), LInv D A s k q qm H locs → W p l e room_1 s m #[Value.ref b] below meth c H locs (cells + 20) (slots + 34000) Q (F0 m 1044 ls [])) : W p l e room_1 s m #[Value.ref b] below meth c H locs cells slots Q (F0 m 623 ls []) := by
  have hx := xs_hx F
  have hb := xs_hb F
  obtain ⟨z, g, S, T, r, Si, bb, hw, h, hIm⟩ := hI
  refine lv_aload_n hx hb dL_law_623 rfl (lv_at hl 1 rfl) ?_
  refine lv_aload_n hx hb dL_law_624 rfl (lv_at hl 0 rfl) ?_
  refine lv_iload_n hx hb dL_law_625 rfl (lv_at hl 3 rfl) ?_
  refine lv_iconst (v := nI 1) hx hb dL_law_626 rfl ?_
  refine lv_iadd hx hb dL_law_627 ?_
  refine x_top (y := nI (4 * j + 1)) (nI_add _ _) ?_
  refine x_scr hX hbl hbA hL F hw (4 * j + 1) rfl (by omega) dL_law_628 ?_
  refine lv_aload_n hx hb dL_law_629 rfl (lv_at hl 0 rfl) ?_
  refine lv_iload_n hx hb dL_law_630 rfl (lv_at hl 3 rfl) ?_
  refine lv_iconst (v := nI 2) hx hb dL_law_631 rfl ?_
  refine lv_iadd hx hb dL_law_632 ?_
  refine x_top (y := nI (4 * j + 2)) (nI_add _ _) ?_
  refine x_scr hX hbl hbA hL F hw (4 * j + 2) rfl (by omega) dL_law_633 ?_
  refine x_fVI (rest := []) (c_X6_aged l D k q z g S (List.append (imW k r Si bb) (wM k qm T [])) (xs (4 * j + 1)) (xs (4 * j + 2)) h.okP h.okG) mo_L_77 obC_0 F hw (Nat.le_of_ble_eq_true rfl) ⟨show _ ≤ 600000 by omega, show _ ≤ 7302250 by omega⟩ rfl rfl hl.1 (Nat.le_of_ble_eq_true rfl) dL_law_634 (fun H locs hw => ?_)
  have hw : Wd D A s.heap H locs (wM k qm T (wC k q z g ((p_aged S (xs (4 * j + 1)) (xs (4 * j + 2))).2) (imW k r Si bb))) := hw.perm to_M
  refine lv_aload_n hx hb dL_law_637 rfl (lv_at hl 2 rfl) ?_
  refine lv_aload_n hx hb dL_law_638 rfl (lv_at hl 0 rfl) ?_
  refine lv_iload_n hx hb dL_law_639 rfl (lv_at hl 3 rfl) ?_
  refine lv_iconst (v := nI 1) hx hb dL_law_640 rfl ?_
  refine lv_iadd hx hb dL_law_641 ?_
  refine x_top (y := nI (4 * j + 1)) (nI_add _ _) ?_
  refine x_scr hX hbl hbA hL F hw (4 * j + 1) rfl (by omega) dL_law_642 ?_
  refine lv_aload_n hx hb dL_law_643 rfl (lv_at hl 0 rfl) ?_
  refine lv_iload_n hx hb dL_law_644 rfl (lv_at hl 3 rfl) ?_
  refine lv_iconst (v := nI 2) hx hb dL_law_645 rfl ?_
  refine lv_iadd hx hb dL_law_646 ?_
  refine x_top (y := nI (4 * j + 2)) (nI_add _ _) ?_
  refine x_scr hX hbl hbA hL F hw (4 * j + 2) rfl (by omega) dL_law_647 ?_
  refine x_fVI (rest := [.int ((p_aged S (xs (4 * j + 1)) (xs (4 * j + 2))).1)]) (c_X7_aged l D k qm T (wC k q z g ((p_aged S (xs (4 * j + 1)) (xs (4 * j + 2))).2) (imW k r Si bb)) (xs (4 * j + 1)) (xs (4 * j + 2)) h.okMP h.okMG) mo_L_80 obM F hw (Nat.le_of_ble_eq_true rfl) ⟨show _ ≤ 600000 by omega, show _ ≤ 7302250 by omega⟩ rfl rfl hl.1 (Nat.le_of_ble_eq_true rfl) dL_law_648 (fun H locs hw => ?_)
  have hw : Wd D A s.heap H locs (wC k q z g ((p_aged S (xs (4 * j + 1)) (xs (4 * j + 2))).2) (List.append (imW k r Si bb) (wM k qm ((m_aged T (xs (4 * j + 1)) (xs (4 * j + 2))).2) []))) := hw.perm to_M.symm
  have he := e_aged h (xs (4 * j + 1)) (xs (4 * j + 2))
  refine lv_icmp_eq (tgt := 1044) hx hb dL_law_651 rfl (fun _ => ?_) (fun q0 => absurd (he.1) q0)
  refine W.widen (k := cells + 20) (n := slots + 34000) (by omega) (by omega) ?_
  exact kk _ _ ⟨z, g, _, _, r, Si, bb, hw, he.2, RIm_T (k_aged T (xs (4 * j + 1)) (xs (4 * j + 2))).1 (k_aged T (xs (4 * j + 1)) (xs (4 * j + 2))).2 hIm⟩
set_option maxHeartbeats 4000000 in
set_option maxRecDepth 20000 in
theorem st_take (F : Fx p room_1 s m #[Value.ref b] c cL_law 4 RL D k 12 600000 7302250) (hX : va_X b L xs s s.heap) (hbl : b < s.heap.size) (hbA : ¬ A b) (hL : L ≤ 256) (hj : 4 * j + 4 ≤ L) (hc : cells + 20 ≤ 600000 ∧ slots + 34000 ≤ 7302250) (hI : LInv D A s k q qm H locs) (hl : lv_has ls 4 [(0, .ref b), (1, .ref (q 0)), (2, .ref (qm 30)), (3, .int (nI (4 * j)))]) (kk : ∀ (H : Heap) (locs : List Loc), LInv D A s k q qm H locs → W p l e room_1 s m #[Value.ref b] below meth c H locs (cells + 20) (slots + 34000) Q (F0 m 1044 ls [])) : W p l e room_1 s m #[Value.ref b] below meth c H locs cells slots Q (F0 m 656 ls []) := by
  have hx := xs_hx F
  have hb := xs_hb F
  obtain ⟨z, g, S, T, r, Si, bb, hw, h, hIm⟩ := hI
  refine lv_aload_n hx hb dL_law_656 rfl (lv_at hl 1 rfl) ?_
  refine lv_aload_n hx hb dL_law_657 rfl (lv_at hl 0 rfl) ?_
  refine lv_iload_n hx hb dL_law_658 rfl (lv_at hl 3 rfl) ?_
  refine lv_iconst (v := nI 1) hx hb dL_law_659 rfl ?_
  refine lv_iadd hx hb dL_law_660 ?_
  refine x_top (y := nI (4 * j + 1)) (nI_add _ _) ?_
  refine x_scr hX hbl hbA hL F hw (4 * j + 1) rfl (by omega) dL_law_661 ?_
  refine x_fVI (rest := []) (c_X6_take l D k q z g S (List.append (imW k r Si bb) (wM k qm T [])) (xs (4 * j + 1)) h.okP h.okG) mo_L_81 obC_0 F hw (Nat.le_of_ble_eq_true rfl) ⟨show _ ≤ 600000 by omega, show _ ≤ 7302250 by omega⟩ rfl rfl hl.1 (Nat.le_of_ble_eq_true rfl) dL_law_662 (fun H locs hw => ?_)
  have hw : Wd D A s.heap H locs (wM k qm T (wC k q z g ((p_take S (xs (4 * j + 1))).2) (imW k r Si bb))) := hw.perm to_M
  refine lv_aload_n hx hb dL_law_665 rfl (lv_at hl 2 rfl) ?_
  refine lv_aload_n hx hb dL_law_666 rfl (lv_at hl 0 rfl) ?_
  refine lv_iload_n hx hb dL_law_667 rfl (lv_at hl 3 rfl) ?_
  refine lv_iconst (v := nI 1) hx hb dL_law_668 rfl ?_
  refine lv_iadd hx hb dL_law_669 ?_
  refine x_top (y := nI (4 * j + 1)) (nI_add _ _) ?_
  refine x_scr hX hbl hbA hL F hw (4 * j + 1) rfl (by omega) dL_law_670 ?_
  refine x_fVI (rest := [.int ((p_take S (xs (4 * j + 1))).1)]) (c_X7_take l D k qm T (wC k q z g ((p_take S (xs (4 * j + 1))).2) (imW k r Si bb)) (xs (4 * j + 1)) h.okMP h.okMG) mo_L_84 obM F hw (Nat.le_of_ble_eq_true rfl) ⟨show _ ≤ 600000 by omega, show _ ≤ 7302250 by omega⟩ rfl rfl hl.1 (Nat.le_of_ble_eq_true rfl) dL_law_671 (fun H locs hw => ?_)
  have hw : Wd D A s.heap H locs (wC k q z g ((p_take S (xs (4 * j + 1))).2) (List.append (imW k r Si bb) (wM k qm ((m_take T (xs (4 * j + 1))).2) []))) := hw.perm to_M.symm
  have he := e_take h (xs (4 * j + 1))
  refine lv_icmp_eq (tgt := 1044) hx hb dL_law_674 rfl (fun _ => ?_) (fun q0 => absurd (he.1) q0)
  refine W.widen (k := cells + 20) (n := slots + 34000) (by omega) (by omega) ?_
  exact kk _ _ ⟨z, g, _, _, r, Si, bb, hw, he.2, RIm_T (k_take T (xs (4 * j + 1))).1 (k_take T (xs (4 * j + 1))).2 hIm⟩
set_option maxHeartbeats 4000000 in
set_option maxRecDepth 20000 in
theorem st_hide (F : Fx p room_1 s m #[Value.ref b] c cL_law 4 RL D k 12 600000 7302250) (hX : va_X b L xs s s.heap) (hbl : b < s.heap.size) (hbA : ¬ A b) (hL : L ≤ 256) (hj : 4 * j + 4 ≤ L) (hc : cells + 20 ≤ 600000 ∧ slots + 34000 ≤ 7302250) (hI : LInv D A s k q qm H locs) (hl : lv_has ls 4 [(0, .ref b), (1, .ref (q 0)), (2, .ref (qm 30)), (3, .int (nI (4 * j)))]) (kk : ∀ (H : Heap) (locs : List Loc), LInv D A s k q qm H locs → W p l e room_1 s m #[Value.ref b] below meth c H locs (cells + 20) (slots + 34000) Q (F0 m 1044 ls [])) : W p l e room_1 s m #[Value.ref b] below meth c H locs cells slots Q (F0 m 679 ls []) := by
  have hx := xs_hx F
  have hb := xs_hb F
  obtain ⟨z, g, S, T, r, Si, bb, hw, h, hIm⟩ := hI
  by_cases c0 : xs (4 * j + 2) = 0
  · refine lv_aload_n hx hb dL_law_679 rfl (lv_at hl 1 rfl) ?_
    refine lv_aload_n hx hb dL_law_680 rfl (lv_at hl 0 rfl) ?_
    refine lv_iload_n hx hb dL_law_681 rfl (lv_at hl 3 rfl) ?_
    refine lv_iconst (v := nI 1) hx hb dL_law_682 rfl ?_
    refine lv_iadd hx hb dL_law_683 ?_
    refine x_top (y := nI (4 * j + 1)) (nI_add _ _) ?_
    refine x_scr hX hbl hbA hL F hw (4 * j + 1) rfl (by omega) dL_law_684 ?_
    refine lv_aload_n hx hb dL_law_685 rfl (lv_at hl 0 rfl) ?_
    refine lv_iload_n hx hb dL_law_686 rfl (lv_at hl 3 rfl) ?_
    refine lv_iconst (v := nI 2) hx hb dL_law_687 rfl ?_
    refine lv_iadd hx hb dL_law_688 ?_
    refine x_top (y := nI (4 * j + 2)) (nI_add _ _) ?_
    refine x_scr hX hbl hbA hL F hw (4 * j + 2) rfl (by omega) dL_law_689 ?_
    refine lv_if_eq (tgt := 697) hx hb dL_law_690 rfl (fun _ => ?_) (fun q0 => absurd c0 q0)
    refine lv_iconst (v := nI 0) hx hb dL_law_697 rfl ?_
    refine lv_aload_n hx hb dL_law_698 rfl (lv_at hl 0 rfl) ?_
    refine lv_iload_n hx hb dL_law_699 rfl (lv_at hl 3 rfl) ?_
    refine lv_iconst (v := nI 3) hx hb dL_law_700 rfl ?_
    refine lv_iadd hx hb dL_law_701 ?_
    refine x_top (y := nI (4 * j + 3)) (nI_add _ _) ?_
    refine x_scr hX hbl hbA hL F hw (4 * j + 3) rfl (by omega) dL_law_702 ?_
    refine x_fVI (rest := []) (c_X6_hide l D k q z g S (List.append (imW k r Si bb) (wM k qm T [])) (xs (4 * j + 1)) (nI 0) (xs (4 * j + 3))) mo_L_85 obC_0 F hw (Nat.le_of_ble_eq_true rfl) ⟨show _ ≤ 600000 by omega, show _ ≤ 7302250 by omega⟩ rfl rfl hl.1 (Nat.le_of_ble_eq_true rfl) dL_law_703 (fun H locs hw => ?_)
    have hw : Wd D A s.heap H locs (wM k qm T (wC k q z g ((p_hide S (xs (4 * j + 1)) (nI 0) (xs (4 * j + 3))).2) (imW k r Si bb))) := hw.perm to_M
    refine lv_aload_n hx hb dL_law_706 rfl (lv_at hl 2 rfl) ?_
    refine lv_aload_n hx hb dL_law_707 rfl (lv_at hl 0 rfl) ?_
    refine lv_iload_n hx hb dL_law_708 rfl (lv_at hl 3 rfl) ?_
    refine lv_iconst (v := nI 1) hx hb dL_law_709 rfl ?_
    refine lv_iadd hx hb dL_law_710 ?_
    refine x_top (y := nI (4 * j + 1)) (nI_add _ _) ?_
    refine x_scr hX hbl hbA hL F hw (4 * j + 1) rfl (by omega) dL_law_711 ?_
    refine lv_aload_n hx hb dL_law_712 rfl (lv_at hl 0 rfl) ?_
    refine lv_iload_n hx hb dL_law_713 rfl (lv_at hl 3 rfl) ?_
    refine lv_iconst (v := nI 2) hx hb dL_law_714 rfl ?_
    refine lv_iadd hx hb dL_law_715 ?_
    refine x_top (y := nI (4 * j + 2)) (nI_add _ _) ?_
    refine x_scr hX hbl hbA hL F hw (4 * j + 2) rfl (by omega) dL_law_716 ?_
    refine lv_if_eq (tgt := 724) hx hb dL_law_717 rfl (fun _ => ?_) (fun q0 => absurd c0 q0)
    refine lv_iconst (v := nI 0) hx hb dL_law_724 rfl ?_
    refine lv_aload_n hx hb dL_law_725 rfl (lv_at hl 0 rfl) ?_
    refine lv_iload_n hx hb dL_law_726 rfl (lv_at hl 3 rfl) ?_
    refine lv_iconst (v := nI 3) hx hb dL_law_727 rfl ?_
    refine lv_iadd hx hb dL_law_728 ?_
    refine x_top (y := nI (4 * j + 3)) (nI_add _ _) ?_
    refine x_scr hX hbl hbA hL F hw (4 * j + 3) rfl (by omega) dL_law_729 ?_
    refine x_fVI (rest := [.int ((p_hide S (xs (4 * j + 1)) (nI 0) (xs (4 * j + 3))).1)]) (c_X7_hide l D k qm T (wC k q z g ((p_hide S (xs (4 * j + 1)) (nI 0) (xs (4 * j + 3))).2) (imW k r Si bb)) (xs (4 * j + 1)) (nI 0) (xs (4 * j + 3))) mo_L_89 obM F hw (Nat.le_of_ble_eq_true rfl) ⟨show _ ≤ 600000 by omega, show _ ≤ 7302250 by omega⟩ rfl rfl hl.1 (Nat.le_of_ble_eq_true rfl) dL_law_730 (fun H locs hw => ?_)
    have hw : Wd D A s.heap H locs (wC k q z g ((p_hide S (xs (4 * j + 1)) (nI 0) (xs (4 * j + 3))).2) (List.append (imW k r Si bb) (wM k qm ((m_hide T (xs (4 * j + 1)) (nI 0) (xs (4 * j + 3))).2) []))) := hw.perm to_M.symm
    have he := e_hide h (xs (4 * j + 1)) (nI 0) (xs (4 * j + 3))
    refine lv_icmp_eq (tgt := 1044) hx hb dL_law_733 rfl (fun _ => ?_) (fun q0 => absurd (he.1) q0)
    refine W.widen (k := cells + 20) (n := slots + 34000) (by omega) (by omega) ?_
    exact kk _ _ ⟨z, g, _, _, r, Si, bb, hw, he.2, RIm_T (k_hide T (xs (4 * j + 1)) (nI 0) (xs (4 * j + 3))).1 (k_hide T (xs (4 * j + 1)) (nI 0) (xs (4 * j + 3))).2 hIm⟩
  · refine lv_aload_n hx hb dL_law_679 rfl (lv_at hl 1 rfl) ?_
    refine lv_aload_n hx hb dL_law_680 rfl (lv_at hl 0 rfl) ?_
    refine lv_iload_n hx hb dL_law_681 rfl (lv_at hl 3 rfl) ?_
    refine lv_iconst (v := nI 1) hx hb dL_law_682 rfl ?_
    refine lv_iadd hx hb dL_law_683 ?_
    refine x_top (y := nI (4 * j + 1)) (nI_add _ _) ?_
    refine x_scr hX hbl hbA hL F hw (4 * j + 1) rfl (by omega) dL_law_684 ?_
    refine lv_aload_n hx hb dL_law_685 rfl (lv_at hl 0 rfl) ?_
    refine lv_iload_n hx hb dL_law_686 rfl (lv_at hl 3 rfl) ?_
    refine lv_iconst (v := nI 2) hx hb dL_law_687 rfl ?_
    refine lv_iadd hx hb dL_law_688 ?_
    refine x_top (y := nI (4 * j + 2)) (nI_add _ _) ?_
    refine x_scr hX hbl hbA hL F hw (4 * j + 2) rfl (by omega) dL_law_689 ?_
    refine lv_if_eq (tgt := 697) hx hb dL_law_690 rfl (fun q0 => absurd q0 c0) (fun _ => ?_)
    refine lv_iconst (v := nI 1) hx hb dL_law_693 rfl ?_
    refine lv_goto (tgt := 698) hx hb dL_law_694 rfl ?_
    refine lv_aload_n hx hb dL_law_698 rfl (lv_at hl 0 rfl) ?_
    refine lv_iload_n hx hb dL_law_699 rfl (lv_at hl 3 rfl) ?_
    refine lv_iconst (v := nI 3) hx hb dL_law_700 rfl ?_
    refine lv_iadd hx hb dL_law_701 ?_
    refine x_top (y := nI (4 * j + 3)) (nI_add _ _) ?_
    refine x_scr hX hbl hbA hL F hw (4 * j + 3) rfl (by omega) dL_law_702 ?_
    refine x_fVI (rest := []) (c_X6_hide l D k q z g S (List.append (imW k r Si bb) (wM k qm T [])) (xs (4 * j + 1)) (nI 1) (xs (4 * j + 3))) mo_L_85 obC_0 F hw (Nat.le_of_ble_eq_true rfl) ⟨show _ ≤ 600000 by omega, show _ ≤ 7302250 by omega⟩ rfl rfl hl.1 (Nat.le_of_ble_eq_true rfl) dL_law_703 (fun H locs hw => ?_)
    have hw : Wd D A s.heap H locs (wM k qm T (wC k q z g ((p_hide S (xs (4 * j + 1)) (nI 1) (xs (4 * j + 3))).2) (imW k r Si bb))) := hw.perm to_M
    refine lv_aload_n hx hb dL_law_706 rfl (lv_at hl 2 rfl) ?_
    refine lv_aload_n hx hb dL_law_707 rfl (lv_at hl 0 rfl) ?_
    refine lv_iload_n hx hb dL_law_708 rfl (lv_at hl 3 rfl) ?_
    refine lv_iconst (v := nI 1) hx hb dL_law_709 rfl ?_
    refine lv_iadd hx hb dL_law_710 ?_
    refine x_top (y := nI (4 * j + 1)) (nI_add _ _) ?_
    refine x_scr hX hbl hbA hL F hw (4 * j + 1) rfl (by omega) dL_law_711 ?_
    refine lv_aload_n hx hb dL_law_712 rfl (lv_at hl 0 rfl) ?_
    refine lv_iload_n hx hb dL_law_713 rfl (lv_at hl 3 rfl) ?_
    refine lv_iconst (v := nI 2) hx hb dL_law_714 rfl ?_
    refine lv_iadd hx hb dL_law_715 ?_
    refine x_top (y := nI (4 * j + 2)) (nI_add _ _) ?_
    refine x_scr hX hbl hbA hL F hw (4 * j + 2) rfl (by omega) dL_law_716 ?_
    refine lv_if_eq (tgt := 724) hx hb dL_law_717 rfl (fun q0 => absurd q0 c0) (fun _ => ?_)
    refine lv_iconst (v := nI 1) hx hb dL_law_720 rfl ?_
    refine lv_goto (tgt := 725) hx hb dL_law_721 rfl ?_
    refine lv_aload_n hx hb dL_law_725 rfl (lv_at hl 0 rfl) ?_
    refine lv_iload_n hx hb dL_law_726 rfl (lv_at hl 3 rfl) ?_
    refine lv_iconst (v := nI 3) hx hb dL_law_727 rfl ?_
    refine lv_iadd hx hb dL_law_728 ?_
    refine x_top (y := nI (4 * j + 3)) (nI_add _ _) ?_
    refine x_scr hX hbl hbA hL F hw (4 * j + 3) rfl (by omega) dL_law_729 ?_
    refine x_fVI (rest := [.int ((p_hide S (xs (4 * j + 1)) (nI 1) (xs (4 * j + 3))).1)]) (c_X7_hide l D k qm T (wC k q z g ((p_hide S (xs (4 * j + 1)) (nI 1) (xs (4 * j + 3))).2) (imW k r Si bb)) (xs (4 * j + 1)) (nI 1) (xs (4 * j + 3))) mo_L_89 obM F hw (Nat.le_of_ble_eq_true rfl) ⟨show _ ≤ 600000 by omega, show _ ≤ 7302250 by omega⟩ rfl rfl hl.1 (Nat.le_of_ble_eq_true rfl) dL_law_730 (fun H locs hw => ?_)
    have hw : Wd D A s.heap H locs (wC k q z g ((p_hide S (xs (4 * j + 1)) (nI 1) (xs (4 * j + 3))).2) (List.append (imW k r Si bb) (wM k qm ((m_hide T (xs (4 * j + 1)) (nI 1) (xs (4 * j + 3))).2) []))) := hw.perm to_M.symm
    have he := e_hide h (xs (4 * j + 1)) (nI 1) (xs (4 * j + 3))
    refine lv_icmp_eq (tgt := 1044) hx hb dL_law_733 rfl (fun _ => ?_) (fun q0 => absurd (he.1) q0)
    refine W.widen (k := cells + 20) (n := slots + 34000) (by omega) (by omega) ?_
    exact kk _ _ ⟨z, g, _, _, r, Si, bb, hw, he.2, RIm_T (k_hide T (xs (4 * j + 1)) (nI 1) (xs (4 * j + 3))).1 (k_hide T (xs (4 * j + 1)) (nI 1) (xs (4 * j + 3))).2 hIm⟩
set_option maxHeartbeats 4000000 in
set_option maxRecDepth 20000 in
theorem st_hides (F : Fx p room_1 s m #[Value.ref b] c cL_law 4 RL D k 12 600000 7302250) (hX : va_X b L xs s s.heap) (hbl : b < s.heap.size) (hbA : ¬ A b) (hL : L ≤ 256) (hj : 4 * j + 4 ≤ L) (hc : cells + 20 ≤ 600000 ∧ slots + 34000 ≤ 7302250) (hI : LInv D A s k q qm H locs) (hl : lv_has ls 4 [(0, .ref b), (1, .ref (q 0)), (2, .ref (qm 30)), (3, .int (nI (4 * j)))]) (kk : ∀ (H : Heap) (locs : List Loc), LInv D A s k q qm H locs → W p l e room_1 s m #[Value.ref b] below meth c H locs (cells + 20) (slots + 34000) Q (F0 m 1044 ls [])) : W p l e room_1 s m #[Value.ref b] below meth c H locs cells slots Q (F0 m 738 ls []) := by
  have hx := xs_hx F
  have hb := xs_hb F
  obtain ⟨z, g, S, T, r, Si, bb, hw, h, hIm⟩ := hI
  refine lv_aload_n hx hb dL_law_738 rfl (lv_at hl 1 rfl) ?_
  refine lv_aload_n hx hb dL_law_739 rfl (lv_at hl 0 rfl) ?_
  refine lv_iload_n hx hb dL_law_740 rfl (lv_at hl 3 rfl) ?_
  refine lv_iconst (v := nI 1) hx hb dL_law_741 rfl ?_
  refine lv_iadd hx hb dL_law_742 ?_
  refine x_top (y := nI (4 * j + 1)) (nI_add _ _) ?_
  refine x_scr hX hbl hbA hL F hw (4 * j + 1) rfl (by omega) dL_law_743 ?_
  refine lv_aload_n hx hb dL_law_744 rfl (lv_at hl 0 rfl) ?_
  refine lv_iload_n hx hb dL_law_745 rfl (lv_at hl 3 rfl) ?_
  refine lv_iconst (v := nI 2) hx hb dL_law_746 rfl ?_
  refine lv_iadd hx hb dL_law_747 ?_
  refine x_top (y := nI (4 * j + 2)) (nI_add _ _) ?_
  refine x_scr hX hbl hbA hL F hw (4 * j + 2) rfl (by omega) dL_law_748 ?_
  refine x_fVI (rest := []) (c_X6_hides l D k q z g S (List.append (imW k r Si bb) (wM k qm T [])) (xs (4 * j + 1)) (xs (4 * j + 2))) mo_L_90 obC_0 F hw (Nat.le_of_ble_eq_true rfl) ⟨show _ ≤ 600000 by omega, show _ ≤ 7302250 by omega⟩ rfl rfl hl.1 (Nat.le_of_ble_eq_true rfl) dL_law_749 (fun H locs hw => ?_)
  have hw : Wd D A s.heap H locs (wM k qm T (wC k q z g ((p_hides S (xs (4 * j + 1)) (xs (4 * j + 2))).2) (imW k r Si bb))) := hw.perm to_M
  refine lv_aload_n hx hb dL_law_752 rfl (lv_at hl 2 rfl) ?_
  refine lv_aload_n hx hb dL_law_753 rfl (lv_at hl 0 rfl) ?_
  refine lv_iload_n hx hb dL_law_754 rfl (lv_at hl 3 rfl) ?_
  refine lv_iconst (v := nI 1) hx hb dL_law_755 rfl ?_
  refine lv_iadd hx hb dL_law_756 ?_
  refine x_top (y := nI (4 * j + 1)) (nI_add _ _) ?_
  refine x_scr hX hbl hbA hL F hw (4 * j + 1) rfl (by omega) dL_law_757 ?_
  refine lv_aload_n hx hb dL_law_758 rfl (lv_at hl 0 rfl) ?_
  refine lv_iload_n hx hb dL_law_759 rfl (lv_at hl 3 rfl) ?_
  refine lv_iconst (v := nI 2) hx hb dL_law_760 rfl ?_
  refine lv_iadd hx hb dL_law_761 ?_
  refine x_top (y := nI (4 * j + 2)) (nI_add _ _) ?_
  refine x_scr hX hbl hbA hL F hw (4 * j + 2) rfl (by omega) dL_law_762 ?_
  refine x_fVI (rest := [.int ((p_hides S (xs (4 * j + 1)) (xs (4 * j + 2))).1)]) (c_X7_hides l D k qm T (wC k q z g ((p_hides S (xs (4 * j + 1)) (xs (4 * j + 2))).2) (imW k r Si bb)) (xs (4 * j + 1)) (xs (4 * j + 2))) mo_L_93 obM F hw (Nat.le_of_ble_eq_true rfl) ⟨show _ ≤ 600000 by omega, show _ ≤ 7302250 by omega⟩ rfl rfl hl.1 (Nat.le_of_ble_eq_true rfl) dL_law_763 (fun H locs hw => ?_)
  have hw : Wd D A s.heap H locs (wC k q z g ((p_hides S (xs (4 * j + 1)) (xs (4 * j + 2))).2) (List.append (imW k r Si bb) (wM k qm ((m_hides T (xs (4 * j + 1)) (xs (4 * j + 2))).2) []))) := hw.perm to_M.symm
  have he := e_hides h (xs (4 * j + 1)) (xs (4 * j + 2))
  refine lv_icmp_eq (tgt := 1044) hx hb dL_law_766 rfl (fun _ => ?_) (fun q0 => absurd (he.1) q0)
  refine W.widen (k := cells + 20) (n := slots + 34000) (by omega) (by omega) ?_
  exact kk _ _ ⟨z, g, _, _, r, Si, bb, hw, he.2, RIm_T (k_hides T (xs (4 * j + 1)) (xs (4 * j + 2))).1 (k_hides T (xs (4 * j + 1)) (xs (4 * j + 2))).2 hIm⟩
set_option maxHeartbeats 4000000 in
set_option maxRecDepth 20000 in
theorem st_cover (F : Fx p room_1 s m #[Value.ref b] c cL_law 4 RL D k 12 600000 7302250) (hX : va_X b L xs s s.heap) (hbl : b < s.heap.size) (hbA : ¬ A b) (hL : L ≤ 256) (hj : 4 * j + 4 ≤ L) (hc : cells + 20 ≤ 600000 ∧ slots + 34000 ≤ 7302250) (hI : LInv D A s k q qm H locs) (hl : lv_has ls 4 [(0, .ref b), (1, .ref (q 0)), (2, .ref (qm 30)), (3, .int (nI (4 * j)))]) (kk : ∀ (H : Heap) (locs : List Loc), LInv D A s k q qm H locs → W p l e room_1 s m #[Value.ref b] below meth c H locs (cells + 20) (slots + 34000) Q (F0 m 1044 ls [])) : W p l e room_1 s m #[Value.ref b] below meth c H locs cells slots Q (F0 m 771 ls []) := by
  have hx := xs_hx F
  have hb := xs_hb F
  obtain ⟨z, g, S, T, r, Si, bb, hw, h, hIm⟩ := hI
  refine lv_aload_n hx hb dL_law_771 rfl (lv_at hl 1 rfl) ?_
  refine lv_aload_n hx hb dL_law_772 rfl (lv_at hl 0 rfl) ?_
  refine lv_iload_n hx hb dL_law_773 rfl (lv_at hl 3 rfl) ?_
  refine lv_iconst (v := nI 1) hx hb dL_law_774 rfl ?_
  refine lv_iadd hx hb dL_law_775 ?_
  refine x_top (y := nI (4 * j + 1)) (nI_add _ _) ?_
  refine x_scr hX hbl hbA hL F hw (4 * j + 1) rfl (by omega) dL_law_776 ?_
  refine x_fVI (rest := []) (c_X6_cover l D k q z g S (List.append (imW k r Si bb) (wM k qm T [])) (xs (4 * j + 1))) mo_L_94 obC_0 F hw (Nat.le_of_ble_eq_true rfl) ⟨show _ ≤ 600000 by omega, show _ ≤ 7302250 by omega⟩ rfl rfl hl.1 (Nat.le_of_ble_eq_true rfl) dL_law_777 (fun H locs hw => ?_)
  have hw : Wd D A s.heap H locs (wM k qm T (wC k q z g ((p_cover S (xs (4 * j + 1))).2) (imW k r Si bb))) := hw.perm to_M
  refine lv_aload_n hx hb dL_law_780 rfl (lv_at hl 2 rfl) ?_
  refine lv_aload_n hx hb dL_law_781 rfl (lv_at hl 0 rfl) ?_
  refine lv_iload_n hx hb dL_law_782 rfl (lv_at hl 3 rfl) ?_
  refine lv_iconst (v := nI 1) hx hb dL_law_783 rfl ?_
  refine lv_iadd hx hb dL_law_784 ?_
  refine x_top (y := nI (4 * j + 1)) (nI_add _ _) ?_
  refine x_scr hX hbl hbA hL F hw (4 * j + 1) rfl (by omega) dL_law_785 ?_
  refine x_fVI (rest := [.int ((p_cover S (xs (4 * j + 1))).1)]) (c_X7_cover l D k qm T (wC k q z g ((p_cover S (xs (4 * j + 1))).2) (imW k r Si bb)) (xs (4 * j + 1))) mo_L_97 obM F hw (Nat.le_of_ble_eq_true rfl) ⟨show _ ≤ 600000 by omega, show _ ≤ 7302250 by omega⟩ rfl rfl hl.1 (Nat.le_of_ble_eq_true rfl) dL_law_786 (fun H locs hw => ?_)
  have hw : Wd D A s.heap H locs (wC k q z g ((p_cover S (xs (4 * j + 1))).2) (List.append (imW k r Si bb) (wM k qm T []))) := hw.perm to_M.symm
  have he := e_cover h (xs (4 * j + 1))
  refine lv_icmp_eq (tgt := 1044) hx hb dL_law_789 rfl (fun _ => ?_) (fun q0 => absurd (he.1) q0)
  refine W.widen (k := cells + 20) (n := slots + 34000) (by omega) (by omega) ?_
  exact kk _ _ ⟨z, g, _, T, r, Si, bb, hw, he.2, hIm⟩
set_option maxHeartbeats 4000000 in
set_option maxRecDepth 20000 in
theorem st_under (F : Fx p room_1 s m #[Value.ref b] c cL_law 4 RL D k 12 600000 7302250) (hX : va_X b L xs s s.heap) (hbl : b < s.heap.size) (hbA : ¬ A b) (hL : L ≤ 256) (hj : 4 * j + 4 ≤ L) (hc : cells + 20 ≤ 600000 ∧ slots + 34000 ≤ 7302250) (hI : LInv D A s k q qm H locs) (hl : lv_has ls 4 [(0, .ref b), (1, .ref (q 0)), (2, .ref (qm 30)), (3, .int (nI (4 * j)))]) (kk : ∀ (H : Heap) (locs : List Loc), LInv D A s k q qm H locs → W p l e room_1 s m #[Value.ref b] below meth c H locs (cells + 20) (slots + 34000) Q (F0 m 1044 ls [])) : W p l e room_1 s m #[Value.ref b] below meth c H locs cells slots Q (F0 m 794 ls []) := by
  have hx := xs_hx F
  have hb := xs_hb F
  obtain ⟨z, g, S, T, r, Si, bb, hw, h, hIm⟩ := hI
  refine lv_aload_n hx hb dL_law_794 rfl (lv_at hl 1 rfl) ?_
  refine lv_aload_n hx hb dL_law_795 rfl (lv_at hl 0 rfl) ?_
  refine lv_iload_n hx hb dL_law_796 rfl (lv_at hl 3 rfl) ?_
  refine lv_iconst (v := nI 1) hx hb dL_law_797 rfl ?_
  refine lv_iadd hx hb dL_law_798 ?_
  refine x_top (y := nI (4 * j + 1)) (nI_add _ _) ?_
  refine x_scr hX hbl hbA hL F hw (4 * j + 1) rfl (by omega) dL_law_799 ?_
  refine x_fVI (rest := []) (c_X6_under l D k q z g S (List.append (imW k r Si bb) (wM k qm T [])) (xs (4 * j + 1)) h.okP) mo_L_98 obC_0 F hw (Nat.le_of_ble_eq_true rfl) ⟨show _ ≤ 600000 by omega, show _ ≤ 7302250 by omega⟩ rfl rfl hl.1 (Nat.le_of_ble_eq_true rfl) dL_law_800 (fun H locs hw => ?_)
  have hw : Wd D A s.heap H locs (wM k qm T (wC k q z g S (imW k r Si bb))) := hw.perm to_M
  refine lv_aload_n hx hb dL_law_803 rfl (lv_at hl 2 rfl) ?_
  refine lv_aload_n hx hb dL_law_804 rfl (lv_at hl 0 rfl) ?_
  refine lv_iload_n hx hb dL_law_805 rfl (lv_at hl 3 rfl) ?_
  refine lv_iconst (v := nI 1) hx hb dL_law_806 rfl ?_
  refine lv_iadd hx hb dL_law_807 ?_
  refine x_top (y := nI (4 * j + 1)) (nI_add _ _) ?_
  refine x_scr hX hbl hbA hL F hw (4 * j + 1) rfl (by omega) dL_law_808 ?_
  refine x_fVI (rest := [.int (p_under S (xs (4 * j + 1)))]) (c_X7_under l D k qm T (wC k q z g S (imW k r Si bb)) (xs (4 * j + 1)) h.okMP) mo_L_101 obM F hw (Nat.le_of_ble_eq_true rfl) ⟨show _ ≤ 600000 by omega, show _ ≤ 7302250 by omega⟩ rfl rfl hl.1 (Nat.le_of_ble_eq_true rfl) dL_law_809 (fun H locs hw => ?_)
  have hw : Wd D A s.heap H locs (wC k q z g S (List.append (imW k r Si bb) (wM k qm T []))) := hw.perm to_M.symm
  refine lv_icmp_eq (tgt := 1044) hx hb dL_law_812 rfl (fun _ => ?_) (fun q0 => absurd (e_under h (xs (4 * j + 1))) q0)
  refine W.widen (k := cells + 20) (n := slots + 34000) (by omega) (by omega) ?_
  exact kk _ _ ⟨z, g, S, T, r, Si, bb, hw, h, hIm⟩
set_option maxHeartbeats 4000000 in
set_option maxRecDepth 20000 in
theorem st_man (F : Fx p room_1 s m #[Value.ref b] c cL_law 4 RL D k 12 600000 7302250) (hX : va_X b L xs s s.heap) (hbl : b < s.heap.size) (hbA : ¬ A b) (hL : L ≤ 256) (hj : 4 * j + 4 ≤ L) (hc : cells + 20 ≤ 600000 ∧ slots + 34000 ≤ 7302250) (hI : LInv D A s k q qm H locs) (hl : lv_has ls 4 [(0, .ref b), (1, .ref (q 0)), (2, .ref (qm 30)), (3, .int (nI (4 * j)))]) (kk : ∀ (H : Heap) (locs : List Loc), LInv D A s k q qm H locs → W p l e room_1 s m #[Value.ref b] below meth c H locs (cells + 20) (slots + 34000) Q (F0 m 1044 ls [])) : W p l e room_1 s m #[Value.ref b] below meth c H locs cells slots Q (F0 m 817 ls []) := by
  have hx := xs_hx F
  have hb := xs_hb F
  obtain ⟨z, g, S, T, r, Si, bb, hw, h, hIm⟩ := hI
  refine lv_aload_n hx hb dL_law_817 rfl (lv_at hl 1 rfl) ?_
  refine x_fVI (rest := []) (c_X6_man l D k q z g S (List.append (imW k r Si bb) (wM k qm T [])) h.okN) mo_L_102 obC_0 F hw (Nat.le_of_ble_eq_true rfl) ⟨show _ ≤ 600000 by omega, show _ ≤ 7302250 by omega⟩ rfl rfl hl.1 (Nat.le_of_ble_eq_true rfl) dL_law_818 (fun H locs hw => ?_)
  have hw : Wd D A s.heap H locs (wM k qm T (wC k q z g ((p_man S).2) (imW k r Si bb))) := hw.perm to_M
  refine lv_aload_n hx hb dL_law_821 rfl (lv_at hl 2 rfl) ?_
  refine x_fVI (rest := [.int ((p_man S).1)]) (c_X7_man l D k qm T (wC k q z g ((p_man S).2) (imW k r Si bb)) h.okMN) mo_L_105 obM F hw (Nat.le_of_ble_eq_true rfl) ⟨show _ ≤ 600000 by omega, show _ ≤ 7302250 by omega⟩ rfl rfl hl.1 (Nat.le_of_ble_eq_true rfl) dL_law_822 (fun H locs hw => ?_)
  have hw : Wd D A s.heap H locs (wC k q z g ((p_man S).2) (List.append (imW k r Si bb) (wM k qm ((m_man T).2) []))) := hw.perm to_M.symm
  have he := e_man h
  refine lv_icmp_eq (tgt := 1044) hx hb dL_law_825 rfl (fun _ => ?_) (fun q0 => absurd (he.1) q0)
  refine W.widen (k := cells + 20) (n := slots + 34000) (by omega) (by omega) ?_
  exact kk _ _ ⟨z, g, _, _, r, Si, bb, hw, he.2, RIm_T (k_man T).1 (k_man T).2 hIm⟩
set_option maxHeartbeats 4000000 in
set_option maxRecDepth 20000 in
theorem st_meet (F : Fx p room_1 s m #[Value.ref b] c cL_law 4 RL D k 12 600000 7302250) (hX : va_X b L xs s s.heap) (hbl : b < s.heap.size) (hbA : ¬ A b) (hL : L ≤ 256) (hj : 4 * j + 4 ≤ L) (hc : cells + 20 ≤ 600000 ∧ slots + 34000 ≤ 7302250) (hI : LInv D A s k q qm H locs) (hl : lv_has ls 4 [(0, .ref b), (1, .ref (q 0)), (2, .ref (qm 30)), (3, .int (nI (4 * j)))]) (kk : ∀ (H : Heap) (locs : List Loc), LInv D A s k q qm H locs → W p l e room_1 s m #[Value.ref b] below meth c H locs (cells + 20) (slots + 34000) Q (F0 m 1044 ls [])) : W p l e room_1 s m #[Value.ref b] below meth c H locs cells slots Q (F0 m 830 ls []) := by
  have hx := xs_hx F
  have hb := xs_hb F
  obtain ⟨z, g, S, T, r, Si, bb, hw, h, hIm⟩ := hI
  refine lv_aload_n hx hb dL_law_830 rfl (lv_at hl 1 rfl) ?_
  refine lv_aload_n hx hb dL_law_831 rfl (lv_at hl 0 rfl) ?_
  refine lv_iload_n hx hb dL_law_832 rfl (lv_at hl 3 rfl) ?_
  refine lv_iconst (v := nI 1) hx hb dL_law_833 rfl ?_
  refine lv_iadd hx hb dL_law_834 ?_
  refine x_top (y := nI (4 * j + 1)) (nI_add _ _) ?_
  refine x_scr hX hbl hbA hL F hw (4 * j + 1) rfl (by omega) dL_law_835 ?_
  refine lv_aload_n hx hb dL_law_836 rfl (lv_at hl 0 rfl) ?_
  refine lv_iload_n hx hb dL_law_837 rfl (lv_at hl 3 rfl) ?_
  refine lv_iconst (v := nI 2) hx hb dL_law_838 rfl ?_
  refine lv_iadd hx hb dL_law_839 ?_
  refine x_top (y := nI (4 * j + 2)) (nI_add _ _) ?_
  refine x_scr hX hbl hbA hL F hw (4 * j + 2) rfl (by omega) dL_law_840 ?_
  refine x_fVI (rest := []) (c_X6_meet l D k q z g S (List.append (imW k r Si bb) (wM k qm T [])) (xs (4 * j + 1)) (xs (4 * j + 2)) h.okN) mo_L_106 obC_0 F hw (Nat.le_of_ble_eq_true rfl) ⟨show _ ≤ 600000 by omega, show _ ≤ 7302250 by omega⟩ rfl rfl hl.1 (Nat.le_of_ble_eq_true rfl) dL_law_841 (fun H locs hw => ?_)
  have hw : Wd D A s.heap H locs (wM k qm T (wC k q z g ((p_meet S (xs (4 * j + 1)) (xs (4 * j + 2))).2) (imW k r Si bb))) := hw.perm to_M
  refine lv_aload_n hx hb dL_law_844 rfl (lv_at hl 2 rfl) ?_
  refine lv_aload_n hx hb dL_law_845 rfl (lv_at hl 0 rfl) ?_
  refine lv_iload_n hx hb dL_law_846 rfl (lv_at hl 3 rfl) ?_
  refine lv_iconst (v := nI 1) hx hb dL_law_847 rfl ?_
  refine lv_iadd hx hb dL_law_848 ?_
  refine x_top (y := nI (4 * j + 1)) (nI_add _ _) ?_
  refine x_scr hX hbl hbA hL F hw (4 * j + 1) rfl (by omega) dL_law_849 ?_
  refine lv_aload_n hx hb dL_law_850 rfl (lv_at hl 0 rfl) ?_
  refine lv_iload_n hx hb dL_law_851 rfl (lv_at hl 3 rfl) ?_
  refine lv_iconst (v := nI 2) hx hb dL_law_852 rfl ?_
  refine lv_iadd hx hb dL_law_853 ?_
  refine x_top (y := nI (4 * j + 2)) (nI_add _ _) ?_
  refine x_scr hX hbl hbA hL F hw (4 * j + 2) rfl (by omega) dL_law_854 ?_
  refine x_fVI (rest := [.int ((p_meet S (xs (4 * j + 1)) (xs (4 * j + 2))).1)]) (c_X7_meet l D k qm T (wC k q z g ((p_meet S (xs (4 * j + 1)) (xs (4 * j + 2))).2) (imW k r Si bb)) (xs (4 * j + 1)) (xs (4 * j + 2)) h.okMN) mo_L_109 obM F hw (Nat.le_of_ble_eq_true rfl) ⟨show _ ≤ 600000 by omega, show _ ≤ 7302250 by omega⟩ rfl rfl hl.1 (Nat.le_of_ble_eq_true rfl) dL_law_855 (fun H locs hw => ?_)
  have hw : Wd D A s.heap H locs (wC k q z g ((p_meet S (xs (4 * j + 1)) (xs (4 * j + 2))).2) (List.append (imW k r Si bb) (wM k qm ((m_meet T (xs (4 * j + 1)) (xs (4 * j + 2))).2) []))) := hw.perm to_M.symm
  have he := e_meet h (xs (4 * j + 1)) (xs (4 * j + 2))
  refine lv_icmp_eq (tgt := 1044) hx hb dL_law_858 rfl (fun _ => ?_) (fun q0 => absurd (he.1) q0)
  refine W.widen (k := cells + 20) (n := slots + 34000) (by omega) (by omega) ?_
  exact kk _ _ ⟨z, g, _, _, r, Si, bb, hw, he.2, RIm_T (k_meet T (xs (4 * j + 1)) (xs (4 * j + 2))).1 (k_meet T (xs (4 * j + 1)) (xs (4 * j + 2))).2 hIm⟩
set_option maxHeartbeats 4000000 in
set_option maxRecDepth 20000 in
theorem st_sick (F : Fx p room_1 s m #[Value.ref b] c cL_law 4 RL D k 12 600000 7302250) (hX : va_X b L xs s s.heap) (hbl : b < s.heap.size) (hbA : ¬ A b) (hL : L ≤ 256) (hj : 4 * j + 4 ≤ L) (hc : cells + 20 ≤ 600000 ∧ slots + 34000 ≤ 7302250) (hI : LInv D A s k q qm H locs) (hl : lv_has ls 4 [(0, .ref b), (1, .ref (q 0)), (2, .ref (qm 30)), (3, .int (nI (4 * j)))]) (kk : ∀ (H : Heap) (locs : List Loc), LInv D A s k q qm H locs → W p l e room_1 s m #[Value.ref b] below meth c H locs (cells + 20) (slots + 34000) Q (F0 m 1044 ls [])) : W p l e room_1 s m #[Value.ref b] below meth c H locs cells slots Q (F0 m 863 ls []) := by
  have hx := xs_hx F
  have hb := xs_hb F
  obtain ⟨z, g, S, T, r, Si, bb, hw, h, hIm⟩ := hI
  refine lv_aload_n hx hb dL_law_863 rfl (lv_at hl 1 rfl) ?_
  refine lv_aload_n hx hb dL_law_864 rfl (lv_at hl 0 rfl) ?_
  refine lv_iload_n hx hb dL_law_865 rfl (lv_at hl 3 rfl) ?_
  refine lv_iconst (v := nI 1) hx hb dL_law_866 rfl ?_
  refine lv_iadd hx hb dL_law_867 ?_
  refine x_top (y := nI (4 * j + 1)) (nI_add _ _) ?_
  refine x_scr hX hbl hbA hL F hw (4 * j + 1) rfl (by omega) dL_law_868 ?_
  refine lv_aload_n hx hb dL_law_869 rfl (lv_at hl 0 rfl) ?_
  refine lv_iload_n hx hb dL_law_870 rfl (lv_at hl 3 rfl) ?_
  refine lv_iconst (v := nI 2) hx hb dL_law_871 rfl ?_
  refine lv_iadd hx hb dL_law_872 ?_
  refine x_top (y := nI (4 * j + 2)) (nI_add _ _) ?_
  refine x_scr hX hbl hbA hL F hw (4 * j + 2) rfl (by omega) dL_law_873 ?_
  refine x_fVI (rest := []) (c_X6_sick l D k q z g S (List.append (imW k r Si bb) (wM k qm T [])) (xs (4 * j + 1)) (xs (4 * j + 2)) h.okN) mo_L_110 obC_0 F hw (Nat.le_of_ble_eq_true rfl) ⟨show _ ≤ 600000 by omega, show _ ≤ 7302250 by omega⟩ rfl rfl hl.1 (Nat.le_of_ble_eq_true rfl) dL_law_874 (fun H locs hw => ?_)
  have hw : Wd D A s.heap H locs (wM k qm T (wC k q z g ((p_sick S (xs (4 * j + 1)) (xs (4 * j + 2))).2) (imW k r Si bb))) := hw.perm to_M
  refine lv_aload_n hx hb dL_law_877 rfl (lv_at hl 2 rfl) ?_
  refine lv_aload_n hx hb dL_law_878 rfl (lv_at hl 0 rfl) ?_
  refine lv_iload_n hx hb dL_law_879 rfl (lv_at hl 3 rfl) ?_
  refine lv_iconst (v := nI 1) hx hb dL_law_880 rfl ?_
  refine lv_iadd hx hb dL_law_881 ?_
  refine x_top (y := nI (4 * j + 1)) (nI_add _ _) ?_
  refine x_scr hX hbl hbA hL F hw (4 * j + 1) rfl (by omega) dL_law_882 ?_
  refine lv_aload_n hx hb dL_law_883 rfl (lv_at hl 0 rfl) ?_
  refine lv_iload_n hx hb dL_law_884 rfl (lv_at hl 3 rfl) ?_
  refine lv_iconst (v := nI 2) hx hb dL_law_885 rfl ?_
  refine lv_iadd hx hb dL_law_886 ?_
  refine x_top (y := nI (4 * j + 2)) (nI_add _ _) ?_
  refine x_scr hX hbl hbA hL F hw (4 * j + 2) rfl (by omega) dL_law_887 ?_
  refine x_fVI (rest := [.int ((p_sick S (xs (4 * j + 1)) (xs (4 * j + 2))).1)]) (c_X7_sick l D k qm T (wC k q z g ((p_sick S (xs (4 * j + 1)) (xs (4 * j + 2))).2) (imW k r Si bb)) (xs (4 * j + 1)) (xs (4 * j + 2)) h.okMN) mo_L_113 obM F hw (Nat.le_of_ble_eq_true rfl) ⟨show _ ≤ 600000 by omega, show _ ≤ 7302250 by omega⟩ rfl rfl hl.1 (Nat.le_of_ble_eq_true rfl) dL_law_888 (fun H locs hw => ?_)
  have hw : Wd D A s.heap H locs (wC k q z g ((p_sick S (xs (4 * j + 1)) (xs (4 * j + 2))).2) (List.append (imW k r Si bb) (wM k qm ((m_sick T (xs (4 * j + 1)) (xs (4 * j + 2))).2) []))) := hw.perm to_M.symm
  have he := e_sick h (xs (4 * j + 1)) (xs (4 * j + 2))
  refine lv_icmp_eq (tgt := 1044) hx hb dL_law_891 rfl (fun _ => ?_) (fun q0 => absurd (he.1) q0)
  refine W.widen (k := cells + 20) (n := slots + 34000) (by omega) (by omega) ?_
  exact kk _ _ ⟨z, g, _, _, r, Si, bb, hw, he.2, RIm_T (k_sick T (xs (4 * j + 1)) (xs (4 * j + 2))).1 (k_sick T (xs (4 * j + 1)) (xs (4 * j + 2))).2 hIm⟩
set_option maxHeartbeats 4000000 in
set_option maxRecDepth 20000 in
theorem st_from (F : Fx p room_1 s m #[Value.ref b] c cL_law 4 RL D k 12 600000 7302250) (hX : va_X b L xs s s.heap) (hbl : b < s.heap.size) (hbA : ¬ A b) (hL : L ≤ 256) (hj : 4 * j + 4 ≤ L) (hc : cells + 20 ≤ 600000 ∧ slots + 34000 ≤ 7302250) (hI : LInv D A s k q qm H locs) (hl : lv_has ls 4 [(0, .ref b), (1, .ref (q 0)), (2, .ref (qm 30)), (3, .int (nI (4 * j)))]) (kk : ∀ (H : Heap) (locs : List Loc), LInv D A s k q qm H locs → W p l e room_1 s m #[Value.ref b] below meth c H locs (cells + 20) (slots + 34000) Q (F0 m 1044 ls [])) : W p l e room_1 s m #[Value.ref b] below meth c H locs cells slots Q (F0 m 896 ls []) := by
  have hx := xs_hx F
  have hb := xs_hb F
  obtain ⟨z, g, S, T, r, Si, bb, hw, h, hIm⟩ := hI
  refine lv_aload_n hx hb dL_law_896 rfl (lv_at hl 1 rfl) ?_
  refine lv_aload_n hx hb dL_law_897 rfl (lv_at hl 0 rfl) ?_
  refine lv_iload_n hx hb dL_law_898 rfl (lv_at hl 3 rfl) ?_
  refine lv_iconst (v := nI 1) hx hb dL_law_899 rfl ?_
  refine lv_iadd hx hb dL_law_900 ?_
  refine x_top (y := nI (4 * j + 1)) (nI_add _ _) ?_
  refine x_scr hX hbl hbA hL F hw (4 * j + 1) rfl (by omega) dL_law_901 ?_
  refine x_fVI (rest := []) (c_X6_from l D k q z g S (List.append (imW k r Si bb) (wM k qm T [])) (xs (4 * j + 1)) h.okN) mo_L_114 obC_0 F hw (Nat.le_of_ble_eq_true rfl) ⟨show _ ≤ 600000 by omega, show _ ≤ 7302250 by omega⟩ rfl rfl hl.1 (Nat.le_of_ble_eq_true rfl) dL_law_902 (fun H locs hw => ?_)
  have hw : Wd D A s.heap H locs (wM k qm T (wC k q z g ((p_from S (xs (4 * j + 1))).2) (imW k r Si bb))) := hw.perm to_M
  refine lv_aload_n hx hb dL_law_905 rfl (lv_at hl 2 rfl) ?_
  refine lv_aload_n hx hb dL_law_906 rfl (lv_at hl 0 rfl) ?_
  refine lv_iload_n hx hb dL_law_907 rfl (lv_at hl 3 rfl) ?_
  refine lv_iconst (v := nI 1) hx hb dL_law_908 rfl ?_
  refine lv_iadd hx hb dL_law_909 ?_
  refine x_top (y := nI (4 * j + 1)) (nI_add _ _) ?_
  refine x_scr hX hbl hbA hL F hw (4 * j + 1) rfl (by omega) dL_law_910 ?_
  refine x_fVI (rest := [.int ((p_from S (xs (4 * j + 1))).1)]) (c_X7_from l D k qm T (wC k q z g ((p_from S (xs (4 * j + 1))).2) (imW k r Si bb)) (xs (4 * j + 1)) h.okMN) mo_L_117 obM F hw (Nat.le_of_ble_eq_true rfl) ⟨show _ ≤ 600000 by omega, show _ ≤ 7302250 by omega⟩ rfl rfl hl.1 (Nat.le_of_ble_eq_true rfl) dL_law_911 (fun H locs hw => ?_)
  have hw : Wd D A s.heap H locs (wC k q z g ((p_from S (xs (4 * j + 1))).2) (List.append (imW k r Si bb) (wM k qm ((m_from T (xs (4 * j + 1))).2) []))) := hw.perm to_M.symm
  have he := e_from h (xs (4 * j + 1))
  refine lv_icmp_eq (tgt := 1044) hx hb dL_law_914 rfl (fun _ => ?_) (fun q0 => absurd (he.1) q0)
  refine W.widen (k := cells + 20) (n := slots + 34000) (by omega) (by omega) ?_
  exact kk _ _ ⟨z, g, _, _, r, Si, bb, hw, he.2, RIm_T (k_from T (xs (4 * j + 1))).1 (k_from T (xs (4 * j + 1))).2 hIm⟩
set_option maxHeartbeats 4000000 in
set_option maxRecDepth 20000 in
theorem st_firsts (F : Fx p room_1 s m #[Value.ref b] c cL_law 4 RL D k 12 600000 7302250) (hX : va_X b L xs s s.heap) (hbl : b < s.heap.size) (hbA : ¬ A b) (hL : L ≤ 256) (hj : 4 * j + 4 ≤ L) (hc : cells + 20 ≤ 600000 ∧ slots + 34000 ≤ 7302250) (hI : LInv D A s k q qm H locs) (hl : lv_has ls 4 [(0, .ref b), (1, .ref (q 0)), (2, .ref (qm 30)), (3, .int (nI (4 * j)))]) (kk : ∀ (H : Heap) (locs : List Loc), LInv D A s k q qm H locs → W p l e room_1 s m #[Value.ref b] below meth c H locs (cells + 20) (slots + 34000) Q (F0 m 1044 ls [])) : W p l e room_1 s m #[Value.ref b] below meth c H locs cells slots Q (F0 m 919 ls []) := by
  have hx := xs_hx F
  have hb := xs_hb F
  obtain ⟨z, g, S, T, r, Si, bb, hw, h, hIm⟩ := hI
  refine lv_aload_n hx hb dL_law_919 rfl (lv_at hl 1 rfl) ?_
  refine lv_aload_n hx hb dL_law_920 rfl (lv_at hl 0 rfl) ?_
  refine lv_iload_n hx hb dL_law_921 rfl (lv_at hl 3 rfl) ?_
  refine lv_iconst (v := nI 1) hx hb dL_law_922 rfl ?_
  refine lv_iadd hx hb dL_law_923 ?_
  refine x_top (y := nI (4 * j + 1)) (nI_add _ _) ?_
  refine x_scr hX hbl hbA hL F hw (4 * j + 1) rfl (by omega) dL_law_924 ?_
  refine x_fVI (rest := []) (c_X6_firsts l D k q z g S (List.append (imW k r Si bb) (wM k qm T [])) (xs (4 * j + 1)) h.okN) mo_L_118 obC_0 F hw (Nat.le_of_ble_eq_true rfl) ⟨show _ ≤ 600000 by omega, show _ ≤ 7302250 by omega⟩ rfl rfl hl.1 (Nat.le_of_ble_eq_true rfl) dL_law_925 (fun H locs hw => ?_)
  have hw : Wd D A s.heap H locs (wM k qm T (wC k q z g ((p_firsts S (xs (4 * j + 1))).2) (imW k r Si bb))) := hw.perm to_M
  refine lv_aload_n hx hb dL_law_928 rfl (lv_at hl 2 rfl) ?_
  refine lv_aload_n hx hb dL_law_929 rfl (lv_at hl 0 rfl) ?_
  refine lv_iload_n hx hb dL_law_930 rfl (lv_at hl 3 rfl) ?_
  refine lv_iconst (v := nI 1) hx hb dL_law_931 rfl ?_
  refine lv_iadd hx hb dL_law_932 ?_
  refine x_top (y := nI (4 * j + 1)) (nI_add _ _) ?_
  refine x_scr hX hbl hbA hL F hw (4 * j + 1) rfl (by omega) dL_law_933 ?_
  refine x_fVI (rest := [.int ((p_firsts S (xs (4 * j + 1))).1)]) (c_X7_firsts l D k qm T (wC k q z g ((p_firsts S (xs (4 * j + 1))).2) (imW k r Si bb)) (xs (4 * j + 1)) h.okMN) mo_L_121 obM F hw (Nat.le_of_ble_eq_true rfl) ⟨show _ ≤ 600000 by omega, show _ ≤ 7302250 by omega⟩ rfl rfl hl.1 (Nat.le_of_ble_eq_true rfl) dL_law_934 (fun H locs hw => ?_)
  have hw : Wd D A s.heap H locs (wC k q z g ((p_firsts S (xs (4 * j + 1))).2) (List.append (imW k r Si bb) (wM k qm ((m_firsts T (xs (4 * j + 1))).2) []))) := hw.perm to_M.symm
  have he := e_firsts h (xs (4 * j + 1))
  refine lv_icmp_eq (tgt := 1044) hx hb dL_law_937 rfl (fun _ => ?_) (fun q0 => absurd (he.1) q0)
  refine W.widen (k := cells + 20) (n := slots + 34000) (by omega) (by omega) ?_
  exact kk _ _ ⟨z, g, _, _, r, Si, bb, hw, he.2, RIm_T (k_firsts T (xs (4 * j + 1))).1 (k_firsts T (xs (4 * j + 1))).2 hIm⟩
set_option maxHeartbeats 4000000 in
set_option maxRecDepth 20000 in
theorem st_must (F : Fx p room_1 s m #[Value.ref b] c cL_law 4 RL D k 12 600000 7302250) (hX : va_X b L xs s s.heap) (hbl : b < s.heap.size) (hbA : ¬ A b) (hL : L ≤ 256) (hj : 4 * j + 4 ≤ L) (hc : cells + 20 ≤ 600000 ∧ slots + 34000 ≤ 7302250) (hI : LInv D A s k q qm H locs) (hl : lv_has ls 4 [(0, .ref b), (1, .ref (q 0)), (2, .ref (qm 30)), (3, .int (nI (4 * j)))]) (kk : ∀ (H : Heap) (locs : List Loc), LInv D A s k q qm H locs → W p l e room_1 s m #[Value.ref b] below meth c H locs (cells + 20) (slots + 34000) Q (F0 m 1044 ls [])) : W p l e room_1 s m #[Value.ref b] below meth c H locs cells slots Q (F0 m 942 ls []) := by
  have hx := xs_hx F
  have hb := xs_hb F
  obtain ⟨z, g, S, T, r, Si, bb, hw, h, hIm⟩ := hI
  refine lv_aload_n hx hb dL_law_942 rfl (lv_at hl 1 rfl) ?_
  refine lv_aload_n hx hb dL_law_943 rfl (lv_at hl 0 rfl) ?_
  refine lv_iload_n hx hb dL_law_944 rfl (lv_at hl 3 rfl) ?_
  refine lv_iconst (v := nI 1) hx hb dL_law_945 rfl ?_
  refine lv_iadd hx hb dL_law_946 ?_
  refine x_top (y := nI (4 * j + 1)) (nI_add _ _) ?_
  refine x_scr hX hbl hbA hL F hw (4 * j + 1) rfl (by omega) dL_law_947 ?_
  refine lv_aload_n hx hb dL_law_948 rfl (lv_at hl 0 rfl) ?_
  refine lv_iload_n hx hb dL_law_949 rfl (lv_at hl 3 rfl) ?_
  refine lv_iconst (v := nI 2) hx hb dL_law_950 rfl ?_
  refine lv_iadd hx hb dL_law_951 ?_
  refine x_top (y := nI (4 * j + 2)) (nI_add _ _) ?_
  refine x_scr hX hbl hbA hL F hw (4 * j + 2) rfl (by omega) dL_law_952 ?_
  refine x_fVI (rest := []) (c_X6_must l D k q z g S (List.append (imW k r Si bb) (wM k qm T [])) (xs (4 * j + 1)) (xs (4 * j + 2)) h.okN) mo_L_122 obC_0 F hw (Nat.le_of_ble_eq_true rfl) ⟨show _ ≤ 600000 by omega, show _ ≤ 7302250 by omega⟩ rfl rfl hl.1 (Nat.le_of_ble_eq_true rfl) dL_law_953 (fun H locs hw => ?_)
  have hw : Wd D A s.heap H locs (wM k qm T (wC k q z g ((p_must S (xs (4 * j + 1)) (xs (4 * j + 2))).2) (imW k r Si bb))) := hw.perm to_M
  refine lv_aload_n hx hb dL_law_956 rfl (lv_at hl 2 rfl) ?_
  refine lv_aload_n hx hb dL_law_957 rfl (lv_at hl 0 rfl) ?_
  refine lv_iload_n hx hb dL_law_958 rfl (lv_at hl 3 rfl) ?_
  refine lv_iconst (v := nI 1) hx hb dL_law_959 rfl ?_
  refine lv_iadd hx hb dL_law_960 ?_
  refine x_top (y := nI (4 * j + 1)) (nI_add _ _) ?_
  refine x_scr hX hbl hbA hL F hw (4 * j + 1) rfl (by omega) dL_law_961 ?_
  refine lv_aload_n hx hb dL_law_962 rfl (lv_at hl 0 rfl) ?_
  refine lv_iload_n hx hb dL_law_963 rfl (lv_at hl 3 rfl) ?_
  refine lv_iconst (v := nI 2) hx hb dL_law_964 rfl ?_
  refine lv_iadd hx hb dL_law_965 ?_
  refine x_top (y := nI (4 * j + 2)) (nI_add _ _) ?_
  refine x_scr hX hbl hbA hL F hw (4 * j + 2) rfl (by omega) dL_law_966 ?_
  refine x_fVI (rest := [.int ((p_must S (xs (4 * j + 1)) (xs (4 * j + 2))).1)]) (c_X7_must l D k qm T (wC k q z g ((p_must S (xs (4 * j + 1)) (xs (4 * j + 2))).2) (imW k r Si bb)) (xs (4 * j + 1)) (xs (4 * j + 2)) h.okMN) mo_L_125 obM F hw (Nat.le_of_ble_eq_true rfl) ⟨show _ ≤ 600000 by omega, show _ ≤ 7302250 by omega⟩ rfl rfl hl.1 (Nat.le_of_ble_eq_true rfl) dL_law_967 (fun H locs hw => ?_)
  have hw : Wd D A s.heap H locs (wC k q z g ((p_must S (xs (4 * j + 1)) (xs (4 * j + 2))).2) (List.append (imW k r Si bb) (wM k qm T []))) := hw.perm to_M.symm
  have he := e_must h (xs (4 * j + 1)) (xs (4 * j + 2))
  refine lv_icmp_eq (tgt := 1044) hx hb dL_law_970 rfl (fun _ => ?_) (fun q0 => absurd (he.1) q0)
  refine W.widen (k := cells + 20) (n := slots + 34000) (by omega) (by omega) ?_
  exact kk _ _ ⟨z, g, _, T, r, Si, bb, hw, he.2, hIm⟩
set_option maxHeartbeats 4000000 in
set_option maxRecDepth 20000 in
theorem st_image (F : Fx p room_1 s m #[Value.ref b] c cL_law 4 RL D k 12 600000 7302250) (hX : va_X b L xs s s.heap) (hbl : b < s.heap.size) (hbA : ¬ A b) (hL : L ≤ 256) (hj : 4 * j + 4 ≤ L) (hc : cells + 20 ≤ 600000 ∧ slots + 34000 ≤ 7302250) (hI : LInv D A s k q qm H locs) (hl : lv_has ls 4 [(0, .ref b), (1, .ref (q 0)), (2, .ref (qm 30)), (3, .int (nI (4 * j)))]) (kk : ∀ (H : Heap) (locs : List Loc), LInv D A s k q qm H locs → W p l e room_1 s m #[Value.ref b] below meth c H locs (cells + 20) (slots + 34000) Q (F0 m 1044 ls [])) : W p l e room_1 s m #[Value.ref b] below meth c H locs cells slots Q (F0 m 975 ls []) := by
  have hx := xs_hx F
  have hb := xs_hb F
  obtain ⟨z, g, S, T, r, Si, bb, hw, h, hIm⟩ := hI
  refine lv_aload_n hx hb dL_law_975 rfl (lv_at hl 1 rfl) ?_
  refine lv_aload_n hx hb dL_law_976 rfl (lv_at hl 0 rfl) ?_
  refine lv_iload_n hx hb dL_law_977 rfl (lv_at hl 3 rfl) ?_
  refine lv_iconst (v := nI 1) hx hb dL_law_978 rfl ?_
  refine lv_iadd hx hb dL_law_979 ?_
  refine x_top (y := nI (4 * j + 1)) (nI_add _ _) ?_
  refine x_scr hX hbl hbA hL F hw (4 * j + 1) rfl (by omega) dL_law_980 ?_
  by_cases c0 : f_in (xs (4 * j + 1)) (nI 0) (nI 1) = 0
  · refine x_fVI (rest := []) (c_X6_image_out l D k q z g S (List.append (imW k r Si bb) (wM k qm T [])) (xs (4 * j + 1)) c0) mo_L_126 obC_0 F hw (Nat.le_of_ble_eq_true rfl) ⟨show _ ≤ 600000 by omega, show _ ≤ 7302250 by omega⟩ rfl rfl hl.1 (Nat.le_of_ble_eq_true rfl) dL_law_981 (fun H locs hw => ?_)
    have hw : Wd D A s.heap H locs (wM k qm T (wC k q z g S (imW k r Si bb))) := hw.perm to_M
    refine lv_aload_n hx hb dL_law_984 rfl (lv_at hl 2 rfl) ?_
    refine lv_aload_n hx hb dL_law_985 rfl (lv_at hl 0 rfl) ?_
    refine lv_iload_n hx hb dL_law_986 rfl (lv_at hl 3 rfl) ?_
    refine lv_iconst (v := nI 1) hx hb dL_law_987 rfl ?_
    refine lv_iadd hx hb dL_law_988 ?_
    refine x_top (y := nI (4 * j + 1)) (nI_add _ _) ?_
    refine x_scr hX hbl hbA hL F hw (4 * j + 1) rfl (by omega) dL_law_989 ?_
    refine x_callVI (rest := [.int (-2)]) (c_X7_image l D k qm T (wC k q z g S (imW k r Si bb)) (xs (4 * j + 1))) mo_L_129 obM F hw (Nat.le_of_ble_eq_true rfl) ⟨show _ ≤ 600000 by omega, show _ ≤ 7302250 by omega⟩ rfl rfl hl.1 (Nat.le_of_ble_eq_true rfl) dL_law_990 (fun r2 w_ H locs hp hw => ?_)
    obtain ⟨T', hp2, hq⟩ := hp
    rw [hp2] at hw
    obtain ⟨-, hT, e2⟩ := hq.resolve_right (fun q => q.1 c0)
    rw [hT] at hw
    have hw : Wd D A s.heap H locs (wC k q z g S (List.append (imW k r Si bb) (wM k qm T []))) := hw.perm to_M.symm
    refine lv_icmp_eq (tgt := 1044) hx hb dL_law_993 rfl (fun _ => ?_) (fun q0 => absurd (e2.symm) q0)
    refine W.widen (k := cells + 20) (n := slots + 34000) (by omega) (by omega) ?_
    exact kk _ _ ⟨z, g, S, T, r, Si, bb, hw, h, hIm⟩
  · have hs := f_in_t2 (by decide) (by decide) c0
    have hi2 : clN (xs (4 * j + 1)) < 2 := by have := hs.2.2; omega
    have e110 : 110 * clN (xs (4 * j + 1)) = 110 * clN (xs (4 * j + 1)) := rfl
    rcases hIm (clN (xs (4 * j + 1))) hi2 with ⟨b0, g0, t0⟩ | ⟨b0, g0, t0, a0⟩
    · refine x_callVI (rest := []) (c_X6_image_new l D k q z g S (List.append (imW k r Si bb) (wM k qm T [])) (xs (4 * j + 1)) c0 g0) mo_L_126 obC_0 F hw (Nat.le_of_ble_eq_true rfl) ⟨show _ ≤ 600000 by omega, show _ ≤ 7302250 by omega⟩ rfl rfl hl.1 (Nat.le_of_ble_eq_true rfl) dL_law_981 (fun r1 w_ H locs hp hw => ?_)
      obtain ⟨e1, rn, S2, S', hp1, hcp⟩ := hp
      rw [hp1] at hw
      have hw : Wd D A s.heap H locs (wC k q z (va_up g (clN (xs (4 * j + 1))) (some (rn 2))) S (List.append (imW k (fun j_ => if j_ = clN (xs (4 * j + 1)) then rn else r j_) (fun j_ => if j_ = clN (xs (4 * j + 1)) then S' else Si j_) (fun j_ => if j_ = clN (xs (4 * j + 1)) then true else bb j_)) (wM k qm T []))) := by
        refine hw.perm (wC_perm ?_)
        have hpp := (imW_ins (k := k) (r := r) (Si := Si) (b := bb) (i := clN (xs (4 * j + 1))) (rn := rn) (S' := S') hi2).append_right (wM k qm T [])
        rw [imW_no (k := k) (r := r) (Si := Si) b0] at hpp
        exact hpp
      have hw : Wd D A s.heap H locs (wM k qm T (wC k q z (va_up g (clN (xs (4 * j + 1))) (some (rn 2))) S (imW k (fun j_ => if j_ = clN (xs (4 * j + 1)) then rn else r j_) (fun j_ => if j_ = clN (xs (4 * j + 1)) then S' else Si j_) (fun j_ => if j_ = clN (xs (4 * j + 1)) then true else bb j_)))) := hw.perm to_M
      refine lv_aload_n hx hb dL_law_984 rfl (lv_at hl 2 rfl) ?_
      refine lv_aload_n hx hb dL_law_985 rfl (lv_at hl 0 rfl) ?_
      refine lv_iload_n hx hb dL_law_986 rfl (lv_at hl 3 rfl) ?_
      refine lv_iconst (v := nI 1) hx hb dL_law_987 rfl ?_
      refine lv_iadd hx hb dL_law_988 ?_
      refine x_top (y := nI (4 * j + 1)) (nI_add _ _) ?_
      refine x_scr hX hbl hbA hL F hw (4 * j + 1) rfl (by omega) dL_law_989 ?_
      refine x_callVI (rest := [.int r1]) (c_X7_image l D k qm T (wC k q z (va_up g (clN (xs (4 * j + 1))) (some (rn 2))) S (imW k (fun j_ => if j_ = clN (xs (4 * j + 1)) then rn else r j_) (fun j_ => if j_ = clN (xs (4 * j + 1)) then S' else Si j_) (fun j_ => if j_ = clN (xs (4 * j + 1)) then true else bb j_))) (xs (4 * j + 1))) mo_L_129 obM F hw (Nat.le_of_ble_eq_true rfl) ⟨show _ ≤ 600000 by omega, show _ ≤ 7302250 by omega⟩ rfl rfl hl.1 (Nat.le_of_ble_eq_true rfl) dL_law_990 (fun r2 w_ H locs hp hw => ?_)
      obtain ⟨T', hp2, hq⟩ := hp
      rw [hp2] at hw
      obtain ⟨-, hm, e2⟩ := hq.resolve_left (fun q => c0 q.1)
      have hw : Wd D A s.heap H locs (wC k q z (va_up g (clN (xs (4 * j + 1))) (some (rn 2))) S (List.append (imW k (fun j_ => if j_ = clN (xs (4 * j + 1)) then rn else r j_) (fun j_ => if j_ = clN (xs (4 * j + 1)) then S' else Si j_) (fun j_ => if j_ = clN (xs (4 * j + 1)) then true else bb j_)) (wM k qm T' []))) := hw.perm to_M.symm
      refine lv_icmp_eq (tgt := 1044) hx hb dL_law_993 rfl (fun _ => ?_) (fun q0 => absurd (e1.trans e2.symm) q0)
      refine W.widen (k := cells + 20) (n := slots + 34000) (by omega) (by omega) ?_
      exact kk _ _ ⟨z, _, S, T', _, _, _, hw, img_rr h hm, img_im h hIm hcp hm⟩
    · have hw : Wd D A s.heap H locs (wC k q z g S (alb k (r (clN (xs (4 * j + 1)))) (Si (clN (xs (4 * j + 1)))) (List.append (imW k r Si (fun j_ => if j_ = clN (xs (4 * j + 1)) then false else bb j_)) (wM k qm T [])))) := hw.perm (wC_perm ((imW_pick (k := k) (r := r) (Si := Si) hi2 b0).append_right (wM k qm T [])))
      refine x_callVI (rest := []) (c_X6_image_yes l D k q z (r (clN (xs (4 * j + 1)))) g S (Si (clN (xs (4 * j + 1)))) (List.append (imW k r Si (fun j_ => if j_ = clN (xs (4 * j + 1)) then false else bb j_)) (wM k qm T [])) (xs (4 * j + 1)) c0 g0) mo_L_126 obC_0 F hw (Nat.le_of_ble_eq_true rfl) ⟨show _ ≤ 600000 by omega, show _ ≤ 7302250 by omega⟩ rfl rfl hl.1 (Nat.le_of_ble_eq_true rfl) dL_law_981 (fun r1 w_ H locs hp hw => ?_)
      obtain ⟨e1, S', hp1, hcp⟩ := hp
      rw [hp1] at hw
      have hg : va_up g (clN (xs (4 * j + 1))) (some (r (clN (xs (4 * j + 1))) 2)) = g := by funext x; by_cases q0 : x = clN (xs (4 * j + 1)); (· rw [q0]; exact (if_pos rfl).trans g0.symm); (· exact if_neg q0)
      have hw : Wd D A s.heap H locs (wC k q z g S (List.append (imW k (fun j_ => if j_ = clN (xs (4 * j + 1)) then r (clN (xs (4 * j + 1))) else r j_) (fun j_ => if j_ = clN (xs (4 * j + 1)) then S' else Si j_) (fun j_ => if j_ = clN (xs (4 * j + 1)) then true else bb j_)) (wM k qm T []))) := hw.perm (wC_perm ((imW_ins (k := k) (r := r) (Si := Si) (b := bb) (i := clN (xs (4 * j + 1))) (rn := r (clN (xs (4 * j + 1)))) (S' := S') hi2).append_right (wM k qm T [])))
      have hw : Wd D A s.heap H locs (wM k qm T (wC k q z g S (imW k (fun j_ => if j_ = clN (xs (4 * j + 1)) then r (clN (xs (4 * j + 1))) else r j_) (fun j_ => if j_ = clN (xs (4 * j + 1)) then S' else Si j_) (fun j_ => if j_ = clN (xs (4 * j + 1)) then true else bb j_)))) := hw.perm to_M
      refine lv_aload_n hx hb dL_law_984 rfl (lv_at hl 2 rfl) ?_
      refine lv_aload_n hx hb dL_law_985 rfl (lv_at hl 0 rfl) ?_
      refine lv_iload_n hx hb dL_law_986 rfl (lv_at hl 3 rfl) ?_
      refine lv_iconst (v := nI 1) hx hb dL_law_987 rfl ?_
      refine lv_iadd hx hb dL_law_988 ?_
      refine x_top (y := nI (4 * j + 1)) (nI_add _ _) ?_
      refine x_scr hX hbl hbA hL F hw (4 * j + 1) rfl (by omega) dL_law_989 ?_
      refine x_callVI (rest := [.int r1]) (c_X7_image l D k qm T (wC k q z g S (imW k (fun j_ => if j_ = clN (xs (4 * j + 1)) then r (clN (xs (4 * j + 1))) else r j_) (fun j_ => if j_ = clN (xs (4 * j + 1)) then S' else Si j_) (fun j_ => if j_ = clN (xs (4 * j + 1)) then true else bb j_))) (xs (4 * j + 1))) mo_L_129 obM F hw (Nat.le_of_ble_eq_true rfl) ⟨show _ ≤ 600000 by omega, show _ ≤ 7302250 by omega⟩ rfl rfl hl.1 (Nat.le_of_ble_eq_true rfl) dL_law_990 (fun r2 w_ H locs hp hw => ?_)
      obtain ⟨T', hp2, hq⟩ := hp
      rw [hp2] at hw
      obtain ⟨-, hm, e2⟩ := hq.resolve_left (fun q => c0 q.1)
      have hw : Wd D A s.heap H locs (wC k q z g S (List.append (imW k (fun j_ => if j_ = clN (xs (4 * j + 1)) then r (clN (xs (4 * j + 1))) else r j_) (fun j_ => if j_ = clN (xs (4 * j + 1)) then S' else Si j_) (fun j_ => if j_ = clN (xs (4 * j + 1)) then true else bb j_)) (wM k qm T' []))) := hw.perm to_M.symm
      have hIm2 := img_im (rn := r (clN (xs (4 * j + 1)))) h hIm hcp hm
      rw [hg] at hIm2
      refine lv_icmp_eq (tgt := 1044) hx hb dL_law_993 rfl (fun _ => ?_) (fun q0 => absurd (e1.trans e2.symm) q0)
      refine W.widen (k := cells + 20) (n := slots + 34000) (by omega) (by omega) ?_
      exact kk _ _ ⟨z, g, S, T', _, _, _, hw, img_rr h hm, hIm2⟩
set_option maxHeartbeats 4000000 in
set_option maxRecDepth 20000 in
theorem st_restore (F : Fx p room_1 s m #[Value.ref b] c cL_law 4 RL D k 12 600000 7302250) (hX : va_X b L xs s s.heap) (hbl : b < s.heap.size) (hbA : ¬ A b) (hL : L ≤ 256) (hj : 4 * j + 4 ≤ L) (hc : cells + 20 ≤ 600000 ∧ slots + 34000 ≤ 7302250) (hI : LInv D A s k q qm H locs) (hl : lv_has ls 4 [(0, .ref b), (1, .ref (q 0)), (2, .ref (qm 30)), (3, .int (nI (4 * j)))]) (kk : ∀ (H : Heap) (locs : List Loc), LInv D A s k q qm H locs → W p l e room_1 s m #[Value.ref b] below meth c H locs (cells + 20) (slots + 34000) Q (F0 m 1044 ls [])) : W p l e room_1 s m #[Value.ref b] below meth c H locs cells slots Q (F0 m 998 ls []) := by
  have hx := xs_hx F
  have hb := xs_hb F
  obtain ⟨z, g, S, T, r, Si, bb, hw, h, hIm⟩ := hI
  refine lv_aload_n hx hb dL_law_998 rfl (lv_at hl 1 rfl) ?_
  refine lv_aload_n hx hb dL_law_999 rfl (lv_at hl 0 rfl) ?_
  refine lv_iload_n hx hb dL_law_1000 rfl (lv_at hl 3 rfl) ?_
  refine lv_iconst (v := nI 1) hx hb dL_law_1001 rfl ?_
  refine lv_iadd hx hb dL_law_1002 ?_
  refine x_top (y := nI (4 * j + 1)) (nI_add _ _) ?_
  refine x_scr hX hbl hbA hL F hw (4 * j + 1) rfl (by omega) dL_law_1003 ?_
  by_cases c0 : f_in (xs (4 * j + 1)) (nI 0) (nI 1) = 0
  · refine x_fVI (rest := []) (c_X6_restore_no l D k q z g S (List.append (imW k r Si bb) (wM k qm T [])) (xs (4 * j + 1)) (Or.inl c0)) mo_L_130 obC_0 F hw (Nat.le_of_ble_eq_true rfl) ⟨show _ ≤ 600000 by omega, show _ ≤ 7302250 by omega⟩ rfl rfl hl.1 (Nat.le_of_ble_eq_true rfl) dL_law_1004 (fun H locs hw => ?_)
    rw [if_pos c0]
    have hw : Wd D A s.heap H locs (wM k qm T (wC k q z g S (imW k r Si bb))) := hw.perm to_M
    refine lv_aload_n hx hb dL_law_1007 rfl (lv_at hl 2 rfl) ?_
    refine lv_aload_n hx hb dL_law_1008 rfl (lv_at hl 0 rfl) ?_
    refine lv_iload_n hx hb dL_law_1009 rfl (lv_at hl 3 rfl) ?_
    refine lv_iconst (v := nI 1) hx hb dL_law_1010 rfl ?_
    refine lv_iadd hx hb dL_law_1011 ?_
    refine x_top (y := nI (4 * j + 1)) (nI_add _ _) ?_
    refine x_scr hX hbl hbA hL F hw (4 * j + 1) rfl (by omega) dL_law_1012 ?_
    refine x_callVI (rest := [.int (-2)]) (c_X7_restore l D k qm T (wC k q z g S (imW k r Si bb)) (xs (4 * j + 1))) mo_L_133 obM F hw (Nat.le_of_ble_eq_true rfl) ⟨show _ ≤ 600000 by omega, show _ ≤ 7302250 by omega⟩ rfl rfl hl.1 (Nat.le_of_ble_eq_true rfl) dL_law_1013 (fun r2 w_ H locs hp hw => ?_)
    obtain ⟨T', hp2, hq⟩ := hp
    rw [hp2] at hw
    obtain ⟨-, hT, e2⟩ := hq.resolve_right (fun q => q.elim (fun q => q.1 c0) (fun q => q.1 c0))
    rw [hT] at hw
    have hw : Wd D A s.heap H locs (wC k q z g S (List.append (imW k r Si bb) (wM k qm T []))) := hw.perm to_M.symm
    refine lv_icmp_eq (tgt := 1044) hx hb dL_law_1016 rfl (fun _ => ?_) (fun q0 => absurd (e2.symm) q0)
    refine W.widen (k := cells + 20) (n := slots + 34000) (by omega) (by omega) ?_
    exact kk _ _ ⟨z, g, S, T, r, Si, bb, hw, h, hIm⟩
  · have hs := f_in_t2 (by decide) (by decide) c0
    have hi2 : clN (xs (4 * j + 1)) < 2 := by have := hs.2.2; omega
    have e110 : 110 * clN (xs (4 * j + 1)) = 110 * clN (xs (4 * j + 1)) := rfl
    rcases hIm (clN (xs (4 * j + 1))) hi2 with ⟨b0, g0, t0⟩ | ⟨b0, g0, t0, a0⟩
    · refine x_fVI (rest := []) (c_X6_restore_no l D k q z g S (List.append (imW k r Si bb) (wM k qm T [])) (xs (4 * j + 1)) (Or.inr g0)) mo_L_130 obC_0 F hw (Nat.le_of_ble_eq_true rfl) ⟨show _ ≤ 600000 by omega, show _ ≤ 7302250 by omega⟩ rfl rfl hl.1 (Nat.le_of_ble_eq_true rfl) dL_law_1004 (fun H locs hw => ?_)
      rw [if_neg c0]
      have hw : Wd D A s.heap H locs (wM k qm T (wC k q z g S (imW k r Si bb))) := hw.perm to_M
      refine lv_aload_n hx hb dL_law_1007 rfl (lv_at hl 2 rfl) ?_
      refine lv_aload_n hx hb dL_law_1008 rfl (lv_at hl 0 rfl) ?_
      refine lv_iload_n hx hb dL_law_1009 rfl (lv_at hl 3 rfl) ?_
      refine lv_iconst (v := nI 1) hx hb dL_law_1010 rfl ?_
      refine lv_iadd hx hb dL_law_1011 ?_
      refine x_top (y := nI (4 * j + 1)) (nI_add _ _) ?_
      refine x_scr hX hbl hbA hL F hw (4 * j + 1) rfl (by omega) dL_law_1012 ?_
      refine x_callVI (rest := [.int (-3)]) (c_X7_restore l D k qm T (wC k q z g S (imW k r Si bb)) (xs (4 * j + 1))) mo_L_133 obM F hw (Nat.le_of_ble_eq_true rfl) ⟨show _ ≤ 600000 by omega, show _ ≤ 7302250 by omega⟩ rfl rfl hl.1 (Nat.le_of_ble_eq_true rfl) dL_law_1013 (fun r2 w_ H locs hp hw => ?_)
      obtain ⟨T', hp2, hq⟩ := hp
      rw [hp2] at hw
      obtain ⟨-, -, hT, e2⟩ := (hq.resolve_left (fun q => c0 q.1)).resolve_right (fun q => q.2.1 t0)
      rw [hT] at hw
      have hw : Wd D A s.heap H locs (wC k q z g S (List.append (imW k r Si bb) (wM k qm T []))) := hw.perm to_M.symm
      refine lv_icmp_eq (tgt := 1044) hx hb dL_law_1016 rfl (fun _ => ?_) (fun q0 => absurd (e2.symm) q0)
      refine W.widen (k := cells + 20) (n := slots + 34000) (by omega) (by omega) ?_
      exact kk _ _ ⟨z, g, S, T, r, Si, bb, hw, h, hIm⟩
    · have hw : Wd D A s.heap H locs (wC k q z g S (alb k (r (clN (xs (4 * j + 1)))) (Si (clN (xs (4 * j + 1)))) (List.append (imW k r Si (fun j_ => if j_ = clN (xs (4 * j + 1)) then false else bb j_)) (wM k qm T [])))) := hw.perm (wC_perm ((imW_pick (k := k) (r := r) (Si := Si) hi2 b0).append_right (wM k qm T [])))
      refine x_callVI (rest := []) (c_X6_restore_yes l D k q z (r (clN (xs (4 * j + 1)))) g S (Si (clN (xs (4 * j + 1)))) (List.append (imW k r Si (fun j_ => if j_ = clN (xs (4 * j + 1)) then false else bb j_)) (wM k qm T [])) (xs (4 * j + 1)) c0 g0) mo_L_130 obC_0 F hw (Nat.le_of_ble_eq_true rfl) ⟨show _ ≤ 600000 by omega, show _ ≤ 7302250 by omega⟩ rfl rfl hl.1 (Nat.le_of_ble_eq_true rfl) dL_law_1004 (fun r1 w_ H locs hp hw => ?_)
      obtain ⟨e1, S', hp1, hcp⟩ := hp
      rw [hp1] at hw
      have hw : Wd D A s.heap H locs (wC k q z g (va_up S' 45 (fun _ => nI 0)) (List.append (imW k r Si bb) (wM k qm T []))) := hw.perm (wC_perm ((imW_pick (k := k) (r := r) (Si := Si) hi2 b0).append_right (wM k qm T [])).symm)
      have hw : Wd D A s.heap H locs (wM k qm T (wC k q z g (va_up S' 45 (fun _ => nI 0)) (imW k r Si bb))) := hw.perm to_M
      refine lv_aload_n hx hb dL_law_1007 rfl (lv_at hl 2 rfl) ?_
      refine lv_aload_n hx hb dL_law_1008 rfl (lv_at hl 0 rfl) ?_
      refine lv_iload_n hx hb dL_law_1009 rfl (lv_at hl 3 rfl) ?_
      refine lv_iconst (v := nI 1) hx hb dL_law_1010 rfl ?_
      refine lv_iadd hx hb dL_law_1011 ?_
      refine x_top (y := nI (4 * j + 1)) (nI_add _ _) ?_
      refine x_scr hX hbl hbA hL F hw (4 * j + 1) rfl (by omega) dL_law_1012 ?_
      refine x_callVI (rest := [.int r1]) (c_X7_restore l D k qm T (wC k q z g (va_up S' 45 (fun _ => nI 0)) (imW k r Si bb)) (xs (4 * j + 1))) mo_L_133 obM F hw (Nat.le_of_ble_eq_true rfl) ⟨show _ ≤ 600000 by omega, show _ ≤ 7302250 by omega⟩ rfl rfl hl.1 (Nat.le_of_ble_eq_true rfl) dL_law_1013 (fun r2 w_ H locs hp hw => ?_)
      obtain ⟨T', hp2, hq⟩ := hp
      rw [hp2] at hw
      obtain ⟨-, -, hm, e2⟩ := (hq.resolve_left (fun q => c0 q.1)).resolve_left (fun q => by rw [t0] at q; exact absurd q.2.1 (by decide))
      have hw : Wd D A s.heap H locs (wC k q z g (va_up S' 45 (fun _ => nI 0)) (List.append (imW k r Si bb) (wM k qm T' []))) := hw.perm to_M.symm
      obtain ⟨hR, h28, h29⟩ := res_rr h hcp a0 hm
      refine lv_icmp_eq (tgt := 1044) hx hb dL_law_1016 rfl (fun _ => ?_) (fun q0 => absurd (e1.trans e2.symm) q0)
      refine W.widen (k := cells + 20) (n := slots + 34000) (by omega) (by omega) ?_
      exact kk _ _ ⟨z, g, _, T', r, Si, bb, hw, hR, RIm_T h28 h29 hIm⟩
set_option maxHeartbeats 4000000 in
set_option maxRecDepth 20000 in
theorem st_told (F : Fx p room_1 s m #[Value.ref b] c cL_law 4 RL D k 12 600000 7302250) (hX : va_X b L xs s s.heap) (hbl : b < s.heap.size) (hbA : ¬ A b) (hL : L ≤ 256) (hj : 4 * j + 4 ≤ L) (hc : cells + 20 ≤ 600000 ∧ slots + 34000 ≤ 7302250) (hI : LInv D A s k q qm H locs) (hl : lv_has ls 4 [(0, .ref b), (1, .ref (q 0)), (2, .ref (qm 30)), (3, .int (nI (4 * j)))]) (kk : ∀ (H : Heap) (locs : List Loc), LInv D A s k q qm H locs → W p l e room_1 s m #[Value.ref b] below meth c H locs (cells + 20) (slots + 34000) Q (F0 m 1044 ls [])) : W p l e room_1 s m #[Value.ref b] below meth c H locs cells slots Q (F0 m 1021 ls []) := by
  have hx := xs_hx F
  have hb := xs_hb F
  obtain ⟨z, g, S, T, r, Si, bb, hw, h, hIm⟩ := hI
  refine lv_aload_n hx hb dL_law_1021 rfl (lv_at hl 1 rfl) ?_
  refine lv_aload_n hx hb dL_law_1022 rfl (lv_at hl 0 rfl) ?_
  refine lv_iload_n hx hb dL_law_1023 rfl (lv_at hl 3 rfl) ?_
  refine lv_iconst (v := nI 1) hx hb dL_law_1024 rfl ?_
  refine lv_iadd hx hb dL_law_1025 ?_
  refine x_top (y := nI (4 * j + 1)) (nI_add _ _) ?_
  refine x_scr hX hbl hbA hL F hw (4 * j + 1) rfl (by omega) dL_law_1026 ?_
  refine x_fVI (rest := []) (c_X6_told l D k q z g S (List.append (imW k r Si bb) (wM k qm T [])) (xs (4 * j + 1))) mo_L_134 obC_0 F hw (Nat.le_of_ble_eq_true rfl) ⟨show _ ≤ 600000 by omega, show _ ≤ 7302250 by omega⟩ rfl rfl hl.1 (Nat.le_of_ble_eq_true rfl) dL_law_1027 (fun H locs hw => ?_)
  have hw : Wd D A s.heap H locs (wM k qm T (wC k q z g ((p_told S (xs (4 * j + 1))).2) (imW k r Si bb))) := hw.perm to_M
  refine lv_aload_n hx hb dL_law_1030 rfl (lv_at hl 2 rfl) ?_
  refine lv_aload_n hx hb dL_law_1031 rfl (lv_at hl 0 rfl) ?_
  refine lv_iload_n hx hb dL_law_1032 rfl (lv_at hl 3 rfl) ?_
  refine lv_iconst (v := nI 1) hx hb dL_law_1033 rfl ?_
  refine lv_iadd hx hb dL_law_1034 ?_
  refine x_top (y := nI (4 * j + 1)) (nI_add _ _) ?_
  refine x_scr hX hbl hbA hL F hw (4 * j + 1) rfl (by omega) dL_law_1035 ?_
  refine x_fVI (rest := [.int ((p_told S (xs (4 * j + 1))).1)]) (c_X7_told l D k qm T (wC k q z g ((p_told S (xs (4 * j + 1))).2) (imW k r Si bb)) (xs (4 * j + 1)) h.okML) mo_L_137 obM F hw (Nat.le_of_ble_eq_true rfl) ⟨show _ ≤ 600000 by omega, show _ ≤ 7302250 by omega⟩ rfl rfl hl.1 (Nat.le_of_ble_eq_true rfl) dL_law_1036 (fun H locs hw => ?_)
  have hw : Wd D A s.heap H locs (wC k q z g ((p_told S (xs (4 * j + 1))).2) (List.append (imW k r Si bb) (wM k qm ((m_told T (xs (4 * j + 1))).2) []))) := hw.perm to_M.symm
  have he := e_told h (xs (4 * j + 1))
  refine lv_icmp_eq (tgt := 1044) hx hb dL_law_1039 rfl (fun _ => ?_) (fun q0 => absurd (he.1) q0)
  refine W.widen (k := cells + 20) (n := slots + 34000) (by omega) (by omega) ?_
  exact kk _ _ ⟨z, g, _, _, r, Si, bb, hw, he.2, RIm_T (k_told T (xs (4 * j + 1))).1 (k_told T (xs (4 * j + 1))).2 hIm⟩
end LD
