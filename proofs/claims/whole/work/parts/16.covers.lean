/-! ===== covers: pure words ===== -/
def unitI (sk : Nat) : Int32 := nI 1 <<< ((nI 2 * (nI 7 - nI sk)) &&& 31)
/-- the search: fuel, stroke, what is open, ink, drawing; the best so far -/
def srF (pl th : Nat → Int32) : Nat → Nat → Int32 → Nat → Int32 → Nat × Int32 → Nat × Int32
  | 0, _, _, _, _, st => st
  | n + 1, sk, op, ik, dr, st =>
    if st.1 ≤ ik then st else if op = 0 then (ik, dr) else if 8 ≤ sk then st else
      srF pl th n (sk + 1) (op &&& (th sk ^^^ (-1))) (ik + 2) (dr + nI 3 * unitI sk)
        (srF pl th n (sk + 1) (op &&& (pl sk ^^^ (-1))) (ik + 1) (dr + nI 1 * unitI sk)
          (srF pl th n (sk + 1) op ik dr st))
theorem srF_le (pl th : Nat → Int32) : ∀ (n sk : Nat) (op : Int32) (ik : Nat) (dr : Int32) (st : Nat × Int32), (srF pl th n sk op ik dr st).1 ≤ st.1
  | 0, _, _, _, _, st => Nat.le_refl _
  | n + 1, sk, op, ik, dr, st => by
    unfold srF
    split
    · exact Nat.le_refl _
    · split
      · show ik ≤ st.1; omega
      · split
        · exact Nat.le_refl _
        · exact Nat.le_trans (srF_le pl th n _ _ _ _ _) (Nat.le_trans (srF_le pl th n _ _ _ _ _) (srF_le pl th n _ _ _ _ _))
theorem srF_a {pl th : Nat → Int32} {n sk : Nat} {op : Int32} {ik : Nat} {dr : Int32} {st : Nat × Int32} (h : st.1 ≤ ik) : srF pl th (n + 1) sk op ik dr st = st := by unfold srF; rw [if_pos h]
theorem srF_b {pl th : Nat → Int32} {n sk : Nat} {op : Int32} {ik : Nat} {dr : Int32} {st : Nat × Int32} (h : ¬ st.1 ≤ ik) (h2 : op = 0) : srF pl th (n + 1) sk op ik dr st = (ik, dr) := by unfold srF; rw [if_neg h, if_pos h2]
theorem srF_c {pl th : Nat → Int32} {n sk : Nat} {op : Int32} {ik : Nat} {dr : Int32} {st : Nat × Int32} (h : ¬ st.1 ≤ ik) (h2 : ¬ op = 0) (h3 : 8 ≤ sk) : srF pl th (n + 1) sk op ik dr st = st := by unfold srF; rw [if_neg h, if_neg h2, if_pos h3]
theorem srF_d {pl th : Nat → Int32} {n sk : Nat} {op : Int32} {ik : Nat} {dr : Int32} {st : Nat × Int32} (h : ¬ st.1 ≤ ik) (h2 : ¬ op = 0) (h3 : ¬ 8 ≤ sk) : srF pl th (n + 1) sk op ik dr st = srF pl th n (sk + 1) (op &&& (th sk ^^^ (-1))) (ik + 2) (dr + nI 3 * unitI sk) (srF pl th n (sk + 1) (op &&& (pl sk ^^^ (-1))) (ik + 1) (dr + nI 1 * unitI sk) (srF pl th n (sk + 1) op ik dr st)) := by
  conv => lhs; unfold srF
  rw [if_neg h, if_neg h2, if_neg h3]
def bst (S : St) (t : Nat × Int32) : St := va_up (va_up S 51 (fun _ => nI t.1)) 52 (fun _ => t.2)
set_option maxHeartbeats 4000000 in
set_option maxRecDepth 20000 in
theorem c_X2_search_0 (l : Launch) (D : va_G) (k : Nat → ClassId) (q z : Nat → Nat) (g : Nat → Option Nat) (S : St) (X : va_W)  : ∀ (sk : Nat) (op : Int32) (ik : Nat) (dr : Int32) (t : Nat × Int32), sk + 0 = 8 → ik ≤ 2 * sk → t.1 ≤ 17 → CV l D k yX2_search cX2_search 6 0 0 0 [.ref (q 32), .int (nI sk), .int op, .int (nI ik), .int dr] (wC k q z g (bst S t) X) (fun w' => w' = wC k q z g (bst S (srF (S 15) (S 16) (0 + 1) sk op ik dr t)) X) := by
  intro sk op ik dr t h8 hik h17
  refine CV.mk (by decide) (Nat.le_of_ble_eq_true rfl) ?_
  intro p e R s m args below meth c A Q ls F hnm hret hw hl
  have hx := xs_hx F
  have hb := xs_hb F
  have hl : lv_has ls 6 [(0, .ref (q 32)), (1, .int (nI sk)), (2, .int op), (3, .int (nI ik)), (4, .int dr)] := hl
  refine lv_iload_n hx hb dX2_search_0 rfl (lv_at hl 3 rfl) ?_
  refine lv_aload_n hx hb dX2_search_1 rfl (lv_at hl 0 rfl) ?_
  refine x_geti fiC_51 F hw fo_X2_15 dX2_search_2 ?_
  refine x_top (y := nI (t.1)) rfl ?_
  refine x_icmp_lt ik t.1 F (by omega) (by omega) (tgt := 9) dX2_search_5 rfl (fun c5 => ?_) (fun c5 => ?_)
  · refine lv_iload_n hx hb dX2_search_9 rfl (lv_at hl 2 rfl) ?_
    refine lv_if_ne (tgt := 25) hx hb dX2_search_10 rfl (fun c10 => ?_) (fun c10 => ?_)
    · refine lv_iload_n hx hb dX2_search_25 rfl (lv_at hl 1 rfl) ?_
      refine lv_bipush (v := nI 8) hx hb dX2_search_26 rfl ?_
      refine x_icmp_lt sk 8 F (by omega) (by omega) (tgt := 32) dX2_search_28 rfl (fun c28 => ?_) (fun c28 => ?_)
      · exact absurd c28 (by omega)
      · exact hret _ _ _ _ _ dX2_search_31 hw (by rw [srF_c (by omega) c10 c28])
    · refine lv_aload_n hx hb dX2_search_13 rfl (lv_at hl 0 rfl) ?_
      refine lv_iload_n hx hb dX2_search_14 rfl (lv_at hl 3 rfl) ?_
      refine x_puti fiC_51 F hw fo_X2_15 rfl rfl dX2_search_15 (fun H locs hw => ?_)
      refine lv_aload_n hx hb dX2_search_18 rfl (lv_at hl 0 rfl) ?_
      refine lv_iload hx hb dX2_search_19 (lv_at hl 4 rfl) ?_
      refine x_puti fiC_52 F hw fo_X2_19 rfl rfl dX2_search_21 (fun H locs hw => ?_)
      exact hret _ _ _ _ _ dX2_search_24 hw (by rw [srF_b (by omega) c10]; rfl)
  · exact hret _ _ _ _ _ dX2_search_8 hw (by rw [srF_a c5])
set_option maxHeartbeats 4000000 in
set_option maxRecDepth 20000 in
theorem c_X2_search_s (l : Launch) (D : va_G) (k : Nat → ClassId) (q z : Nat → Nat) (g : Nat → Option Nat) (S : St) (X : va_W) (n : Nat) (ih : ∀ (sk : Nat) (op : Int32) (ik : Nat) (dr : Int32) (t : Nat × Int32), sk + n = 8 → ik ≤ 2 * sk → t.1 ≤ 17 → CV l D k yX2_search cX2_search 6 n 0 0 [.ref (q 32), .int (nI sk), .int op, .int (nI ik), .int dr] (wC k q z g (bst S t) X) (fun w' => w' = wC k q z g (bst S (srF (S 15) (S 16) (n + 1) sk op ik dr t)) X)) : ∀ (sk : Nat) (op : Int32) (ik : Nat) (dr : Int32) (t : Nat × Int32), sk + (n + 1) = 8 → ik ≤ 2 * sk → t.1 ≤ 17 → CV l D k yX2_search cX2_search 6 (n + 1) 0 0 [.ref (q 32), .int (nI sk), .int op, .int (nI ik), .int dr] (wC k q z g (bst S t) X) (fun w' => w' = wC k q z g (bst S (srF (S 15) (S 16) ((n + 1) + 1) sk op ik dr t)) X) := by
  intro sk op ik dr t h8 hik h17
  refine CV.mk (by decide) (Nat.le_of_ble_eq_true rfl) ?_
  intro p e R s m args below meth c A Q ls F hnm hret hw hl
  have hx := xs_hx F
  have hb := xs_hb F
  have hl : lv_has ls 6 [(0, .ref (q 32)), (1, .int (nI sk)), (2, .int op), (3, .int (nI ik)), (4, .int dr)] := hl
  refine lv_iload_n hx hb dX2_search_0 rfl (lv_at hl 3 rfl) ?_
  refine lv_aload_n hx hb dX2_search_1 rfl (lv_at hl 0 rfl) ?_
  refine x_geti fiC_51 F hw fo_X2_15 dX2_search_2 ?_
  refine x_top (y := nI (t.1)) rfl ?_
  refine x_icmp_lt ik t.1 F (by omega) (by omega) (tgt := 9) dX2_search_5 rfl (fun c5 => ?_) (fun c5 => ?_)
  · refine lv_iload_n hx hb dX2_search_9 rfl (lv_at hl 2 rfl) ?_
    refine lv_if_ne (tgt := 25) hx hb dX2_search_10 rfl (fun c10 => ?_) (fun c10 => ?_)
    · refine lv_iload_n hx hb dX2_search_25 rfl (lv_at hl 1 rfl) ?_
      refine lv_bipush (v := nI 8) hx hb dX2_search_26 rfl ?_
      refine x_icmp_lt sk 8 F (by omega) (by omega) (tgt := 32) dX2_search_28 rfl (fun c28 => ?_) (fun c28 => ?_)
      · refine lv_iconst (v := nI 1) hx hb dX2_search_32 rfl ?_
        refine lv_iconst (v := nI 2) hx hb dX2_search_33 rfl ?_
        refine lv_bipush (v := nI 7) hx hb dX2_search_34 rfl ?_
        refine lv_iload_n hx hb dX2_search_36 rfl (lv_at hl 1 rfl) ?_
        refine lv_isub hx hb dX2_search_37 ?_
        refine lv_imul hx hb dX2_search_38 ?_
        refine lv_ishl hx hb dX2_search_39 ?_
        refine x_top (y := unitI sk) rfl ?_
        refine lv_istore (lv' := [(5, .int (unitI sk)), (0, .ref (q 32)), (1, .int (nI sk)), (2, .int op), (3, .int (nI ik)), (4, .int dr)]) hx hb dX2_search_40 hl (Nat.le_of_ble_eq_true rfl) rfl (fun ls hl => ?_)
        refine lv_aload_n hx hb dX2_search_42 rfl (lv_at hl 1 rfl) ?_
        refine lv_iload_n hx hb dX2_search_43 rfl (lv_at hl 2 rfl) ?_
        refine lv_iconst (v := nI 1) hx hb dX2_search_44 rfl ?_
        refine lv_iadd hx hb dX2_search_45 ?_
        refine x_top (y := nI (sk + 1)) (nI_add _ _) ?_
        refine lv_iload_n hx hb dX2_search_46 rfl (lv_at hl 3 rfl) ?_
        refine lv_iload_n hx hb dX2_search_47 rfl (lv_at hl 4 rfl) ?_
        refine lv_iload hx hb dX2_search_48 (lv_at hl 5 rfl) ?_
        refine x_fSV (rest := []) (ih (sk + 1) op ik dr t (by omega) (by omega) (by omega)) mo_X2_22 F hw (Nat.le_refl _) (x_cs F (Nat.le_of_ble_eq_true rfl) (Nat.le_of_ble_eq_true rfl)) rfl rfl hl.1 (Nat.le_of_ble_eq_true rfl) dX2_search_50 (fun H locs hw => ?_)
        obtain ⟨t1, et1⟩ : ∃ t_, t_ = srF (S 15) (S 16) (n + 1) (sk + 1) op ik dr t := ⟨_, rfl⟩
        have lt1 : t1.1 ≤ 17 := by have := srF_le (S 15) (S 16) (n + 1) (sk + 1) op ik dr t; rw [← et1] at this; omega
        rw [← et1] at hw
        refine lv_aload_n hx hb dX2_search_53 rfl (lv_at hl 1 rfl) ?_
        refine lv_iload_n hx hb dX2_search_54 rfl (lv_at hl 2 rfl) ?_
        refine lv_iconst (v := nI 1) hx hb dX2_search_55 rfl ?_
        refine lv_iadd hx hb dX2_search_56 ?_
        refine x_top (y := nI (sk + 1)) (nI_add _ _) ?_
        refine lv_iload_n hx hb dX2_search_57 rfl (lv_at hl 3 rfl) ?_
        refine lv_aload_n hx hb dX2_search_58 rfl (lv_at hl 1 rfl) ?_
        refine x_getr frC_32_0 F hw fo_X2_9 dX2_search_59 ?_
        refine x_getr frC_2_10 F hw fo_X2_26 dX2_search_62 ?_
        refine lv_iload_n hx hb dX2_search_65 rfl (lv_at hl 2 rfl) ?_
        refine x_iald aiC_15 F hw sk rfl (by omega) dX2_search_66 ?_
        refine x_top (y := S 15 sk) rfl ?_
        refine lv_iconst (v := (-1)) hx hb dX2_search_67 rfl ?_
        refine lv_ixor hx hb dX2_search_68 ?_
        refine lv_iand hx hb dX2_search_69 ?_
        refine lv_iload_n hx hb dX2_search_70 rfl (lv_at hl 4 rfl) ?_
        refine lv_iconst (v := nI 1) hx hb dX2_search_71 rfl ?_
        refine lv_iadd hx hb dX2_search_72 ?_
        refine x_top (y := nI (ik + 1)) (nI_add _ _) ?_
        refine lv_iload hx hb dX2_search_73 (lv_at hl 5 rfl) ?_
        refine lv_iconst (v := nI 1) hx hb dX2_search_75 rfl ?_
        refine lv_iload hx hb dX2_search_76 (lv_at hl 0 rfl) ?_
        refine lv_imul hx hb dX2_search_78 ?_
        refine lv_iadd hx hb dX2_search_79 ?_
        refine x_fSV (rest := []) (ih (sk + 1) (op &&& (S 15 sk ^^^ (-1))) (ik + 1) (dr + nI 1 * unitI sk) t1 (by omega) (by omega) (by omega)) mo_X2_22 F hw (Nat.le_refl _) (x_cs F (Nat.le_of_ble_eq_true rfl) (Nat.le_of_ble_eq_true rfl)) rfl rfl hl.1 (Nat.le_of_ble_eq_true rfl) dX2_search_80 (fun H locs hw => ?_)
        obtain ⟨t2, et2⟩ : ∃ t_, t_ = srF (S 15) (S 16) (n + 1) (sk + 1) (op &&& (S 15 sk ^^^ (-1))) (ik + 1) (dr + nI 1 * unitI sk) t1 := ⟨_, rfl⟩
        have lt2 : t2.1 ≤ 17 := by have := srF_le (S 15) (S 16) (n + 1) (sk + 1) (op &&& (S 15 sk ^^^ (-1))) (ik + 1) (dr + nI 1 * unitI sk) t1; rw [← et2] at this; omega
        rw [← et2] at hw
        refine lv_aload_n hx hb dX2_search_83 rfl (lv_at hl 1 rfl) ?_
        refine lv_iload_n hx hb dX2_search_84 rfl (lv_at hl 2 rfl) ?_
        refine lv_iconst (v := nI 1) hx hb dX2_search_85 rfl ?_
        refine lv_iadd hx hb dX2_search_86 ?_
        refine x_top (y := nI (sk + 1)) (nI_add _ _) ?_
        refine lv_iload_n hx hb dX2_search_87 rfl (lv_at hl 3 rfl) ?_
        refine lv_aload_n hx hb dX2_search_88 rfl (lv_at hl 1 rfl) ?_
        refine x_getr frC_32_0 F hw fo_X2_9 dX2_search_89 ?_
        refine x_getr frC_2_11 F hw fo_X2_32 dX2_search_92 ?_
        refine lv_iload_n hx hb dX2_search_95 rfl (lv_at hl 2 rfl) ?_
        refine x_iald aiC_16 F hw sk rfl (by omega) dX2_search_96 ?_
        refine x_top (y := S 16 sk) rfl ?_
        refine lv_iconst (v := (-1)) hx hb dX2_search_97 rfl ?_
        refine lv_ixor hx hb dX2_search_98 ?_
        refine lv_iand hx hb dX2_search_99 ?_
        refine lv_iload_n hx hb dX2_search_100 rfl (lv_at hl 4 rfl) ?_
        refine lv_iconst (v := nI 2) hx hb dX2_search_101 rfl ?_
        refine lv_iadd hx hb dX2_search_102 ?_
        refine x_top (y := nI (ik + 2)) (nI_add _ _) ?_
        refine lv_iload hx hb dX2_search_103 (lv_at hl 5 rfl) ?_
        refine lv_iconst (v := nI 3) hx hb dX2_search_105 rfl ?_
        refine lv_iload hx hb dX2_search_106 (lv_at hl 0 rfl) ?_
        refine lv_imul hx hb dX2_search_108 ?_
        refine lv_iadd hx hb dX2_search_109 ?_
        refine x_fSV (rest := []) (ih (sk + 1) (op &&& (S 16 sk ^^^ (-1))) (ik + 2) (dr + nI 3 * unitI sk) t2 (by omega) (by omega) (by omega)) mo_X2_22 F hw (Nat.le_refl _) (x_cs F (Nat.le_of_ble_eq_true rfl) (Nat.le_of_ble_eq_true rfl)) rfl rfl hl.1 (Nat.le_of_ble_eq_true rfl) dX2_search_110 (fun H locs hw => ?_)
        obtain ⟨t3, et3⟩ : ∃ t_, t_ = srF (S 15) (S 16) (n + 1) (sk + 1) (op &&& (S 16 sk ^^^ (-1))) (ik + 2) (dr + nI 3 * unitI sk) t2 := ⟨_, rfl⟩
        have lt3 : t3.1 ≤ 17 := by have := srF_le (S 15) (S 16) (n + 1) (sk + 1) (op &&& (S 16 sk ^^^ (-1))) (ik + 2) (dr + nI 3 * unitI sk) t2; rw [← et3] at this; omega
        rw [← et3] at hw
        exact hret _ _ _ _ _ dX2_search_113 hw (by rw [srF_d (by omega) c10 (by omega), ← et1, ← et2, ← et3])
      · exact hret _ _ _ _ _ dX2_search_31 hw (by rw [srF_c (by omega) c10 c28])
    · refine lv_aload_n hx hb dX2_search_13 rfl (lv_at hl 0 rfl) ?_
      refine lv_iload_n hx hb dX2_search_14 rfl (lv_at hl 3 rfl) ?_
      refine x_puti fiC_51 F hw fo_X2_15 rfl rfl dX2_search_15 (fun H locs hw => ?_)
      refine lv_aload_n hx hb dX2_search_18 rfl (lv_at hl 0 rfl) ?_
      refine lv_iload hx hb dX2_search_19 (lv_at hl 4 rfl) ?_
      refine x_puti fiC_52 F hw fo_X2_19 rfl rfl dX2_search_21 (fun H locs hw => ?_)
      exact hret _ _ _ _ _ dX2_search_24 hw (by rw [srF_b (by omega) c10]; rfl)
  · exact hret _ _ _ _ _ dX2_search_8 hw (by rw [srF_a c5])
theorem c_X2_search (l : Launch) (D : va_G) (k : Nat → ClassId) (q z : Nat → Nat) (g : Nat → Option Nat) (S : St) (X : va_W) (n : Nat) : ∀ (sk : Nat) (op : Int32) (ik : Nat) (dr : Int32) (t : Nat × Int32), sk + n = 8 → ik ≤ 2 * sk → t.1 ≤ 17 → CV l D k yX2_search cX2_search 6 n 0 0 [.ref (q 32), .int (nI sk), .int op, .int (nI ik), .int dr] (wC k q z g (bst S t) X) (fun w' => w' = wC k q z g (bst S (srF (S 15) (S 16) (n + 1) sk op ik dr t)) X) := by
  induction n with
  | zero => exact c_X2_search_0 l D k q z g S X
  | succ n ih => exact c_X2_search_s l D k q z g S X n ih
set_option maxHeartbeats 4000000 in
set_option maxRecDepth 20000 in
theorem c_X2_leastOver (l : Launch) (D : va_G) (k : Nat → ClassId) (q z : Nat → Nat) (g : Nat → Option Nat) (S : St) (X : va_W) (op : Int32) : CI l D k yX2_leastOver cX2_leastOver 2 (some .int) 9 0 0 [.ref (q 32), .int op] (wC k q z g S X) (fun r w' => w' = wC k q z g (bst S (srF (S 15) (S 16) 9 0 op 0 (nI 0) (17, (-6)))) X ∧ r = (srF (S 15) (S 16) 9 0 op 0 (nI 0) (17, (-6))).2) := by
  refine CI.mk (by decide) (Nat.le_of_ble_eq_true rfl) ?_
  intro p e R s m args below meth c A Q ls F hret hw hl
  have hx := xs_hx F
  have hb := xs_hb F
  have hl : lv_has ls 2 [(0, .ref (q 32)), (1, .int op)] := hl
  refine lv_aload_n hx hb dX2_leastOver_0 rfl (lv_at hl 0 rfl) ?_
  refine lv_bipush (v := nI 17) hx hb dX2_leastOver_1 rfl ?_
  refine x_puti fiC_51 F hw fo_X2_15 rfl rfl dX2_leastOver_3 (fun H locs hw => ?_)
  refine lv_aload_n hx hb dX2_leastOver_6 rfl (lv_at hl 0 rfl) ?_
  refine lv_bipush (v := (-6)) hx hb dX2_leastOver_7 rfl ?_
  refine x_puti fiC_52 F hw fo_X2_19 rfl rfl dX2_leastOver_9 (fun H locs hw => ?_)
  refine lv_aload_n hx hb dX2_leastOver_12 rfl (lv_at hl 0 rfl) ?_
  refine lv_iconst (v := nI 0) hx hb dX2_leastOver_13 rfl ?_
  refine lv_iload_n hx hb dX2_leastOver_14 rfl (lv_at hl 1 rfl) ?_
  refine lv_iconst (v := nI 0) hx hb dX2_leastOver_15 rfl ?_
  refine lv_iconst (v := nI 0) hx hb dX2_leastOver_16 rfl ?_
  have hw : Wd D A s.heap H locs (wC k q z g (bst S (17, (-6))) X) := hw
  refine x_fSV (rest := []) (c_X2_search l D k q z g S X 8 0 op 0 (nI 0) (17, (-6)) rfl (Nat.le_refl _) (Nat.le_refl _)) mo_X2_22 F hw (Nat.le_of_ble_eq_true rfl) (x_cs F (Nat.le_of_ble_eq_true rfl) (Nat.le_of_ble_eq_true rfl)) rfl rfl hl.1 (Nat.le_of_ble_eq_true rfl) dX2_leastOver_17 (fun H locs hw => ?_)
  refine lv_aload_n hx hb dX2_leastOver_20 rfl (lv_at hl 0 rfl) ?_
  refine x_geti fiC_52 F hw fo_X2_19 dX2_leastOver_21 ?_
  exact hret _ _ _ _ _ _ dX2_leastOver_24 hw rfl ⟨rfl, rfl⟩
