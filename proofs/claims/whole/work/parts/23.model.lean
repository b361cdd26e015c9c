/-! ===== the reference: pure words ===== -/
def mpcN (S : St) : Nat := (S 0 0).toNatClampNeg
def okMP (S : St) : Prop := S 0 0 = nI (mpcN S) ∧ mpcN S ≤ 6
def msgN (S : St) : Nat := (S 6 0).toNatClampNeg
def okMT (S : St) : Prop := S 6 0 = nI (msgN S) ∧ msgN S ≤ 50
def rulN (S : St) : Nat := (S 8 0).toNatClampNeg
def okML (S : St) : Prop := S 8 0 = nI (rulN S) ∧ rulN S ≤ 50
def mmnN (S : St) : Nat := (S 13 0).toNatClampNeg
def mmtN (S : St) : Nat := (S 15 0).toNatClampNeg
def okMN (S : St) : Prop := (S 13 0 = nI (mmnN S) ∧ mmnN S ≤ 8) ∧ (S 15 0 = nI (mmtN S) ∧ mmtN S ≤ 16) ∧ ∀ j, j < mmtN S → ∃ m, m < 8 ∧ S 16 j = nI m
def haMP (S : St) (pi : Int32) : Int32 := f_in pi (nI 0) (nI (mpcN S) - nI 1)
def haMM (S : St) (mn : Int32) : Int32 := f_in mn (nI 0) (nI (mmnN S) - nI 1)
theorem f_in_dg (c : Int32) : f_in c (nI 48) (nI 57) = b01 (isDg c) := by unfold f_in b01 isDg; simp
theorem nx_a {pl : Nat} {c : Int32} (h : pl < 2) (h2 : c = nI 42 ∨ (nI 48 ≤ c ∧ c ≤ nI 51)) : nxt pl c = some (pl + 1) := by unfold nxt; rw [if_pos h, if_pos h2]
theorem nx_b {pl : Nat} {c : Int32} (h : pl < 2) (h2 : ¬ (c = nI 42 ∨ (nI 48 ≤ c ∧ c ≤ nI 51))) : nxt pl c = none := by unfold nxt; rw [if_pos h, if_neg h2]
theorem nx_c {pl : Nat} {c : Int32} (h : pl = 2) (h2 : c = nI 61) : nxt pl c = some 3 := by unfold nxt; rw [if_neg (by omega), if_pos h, if_pos h2]
theorem nx_d {pl : Nat} {c : Int32} (h : pl = 2) (h2 : ¬ c = nI 61) : nxt pl c = none := by unfold nxt; rw [if_neg (by omega), if_pos h, if_neg h2]
theorem nx_e {pl : Nat} {c : Int32} (h : pl = 3 ∨ pl = 4) (h2 : isDg c = true) : nxt pl c = some (pl + 1) := by
  unfold nxt
  rcases h with rfl | rfl
  · rw [if_neg (by omega), if_neg (by omega), if_pos rfl, if_pos h2]
  · rw [if_neg (by omega), if_neg (by omega), if_neg (by omega), if_pos rfl, if_pos h2]
theorem nx_f {pl : Nat} {c : Int32} (h : 4 ≤ pl) (hd : ¬ (pl = 4 ∧ isDg c = true)) (h2 : c = nI 59) : nxt pl c = some 0 := by
  unfold nxt
  rw [if_neg (by omega), if_neg (by omega), if_neg (by omega)]
  by_cases h4 : pl = 4
  · rw [if_pos h4, if_neg (fun q => hd ⟨h4, q⟩), if_pos h2]
  · rw [if_neg h4, if_pos h2]
theorem nx_g {c : Int32} {pl : Nat} (h : pl = 3) (h2 : isDg c = false) : nxt pl c = none := by
  unfold nxt
  rw [if_neg (by omega), if_neg (by omega), if_pos h, if_neg (by rw [h2]; decide)]
theorem nx_h {pl : Nat} {c : Int32} (h : 4 ≤ pl) (hd : ¬ (pl = 4 ∧ isDg c = true)) (h2 : ¬ c = nI 59) : nxt pl c = none := by
  unfold nxt
  rw [if_neg (by omega), if_neg (by omega), if_neg (by omega)]
  by_cases h4 : pl = 4
  · rw [if_pos h4, if_neg (fun q => hd ⟨h4, q⟩), if_neg h2]
  · rw [if_neg h4, if_neg h2]
theorem nxI_ge {o : Option Nat} (h : 0 ≤ nxI o (-6)) : ∃ j, o = some j := by
  cases o with
  | none => exact absurd h (by decide)
  | some j => exact ⟨j, rfl⟩
theorem nxI_lt {o : Option Nat} (hb : ∀ j, o = some j → j ≤ 5) (h : ¬ 0 ≤ nxI o (-6)) : o = none := by
  cases o with
  | none => rfl
  | some j => exact absurd (nI_pos' (by have := hb j rfl; omega)) h
theorem nI_le0 {n : Nat} (h : n < 2 ^ 31) (q : nI n ≤ 0) : n = 0 := by
  have := (nI_leI (a := n) (b := 0) h (by decide)).mp q
  omega
set_option maxHeartbeats 4000000 in
set_option maxRecDepth 20000 in
theorem c_X7_isPicture (l : Launch) (D : va_G) (k : Nat → ClassId) (q : Nat → Nat) (S : St) (X : va_W) (pi : Int32) (hP : okMP S) : CI l D k yX7_isPicture cX7_isPicture 2 (some .boolean) 1 0 0 [.ref (q 30), .int pi] (wM k q S X) (fun r w' => w' = wM k q S X ∧ r = haMP S pi) := by
  refine CI.mk (by decide) (Nat.le_of_ble_eq_true rfl) ?_
  intro p e R s m args below meth c A Q ls F hret hw hl
  have hx := xs_hx F
  have hb := xs_hb F
  have hl : lv_has ls 2 [(0, .ref (q 30)), (1, .int pi)] := hl
  refine lv_iload_n hx hb dX7_isPicture_0 rfl (lv_at hl 1 rfl) ?_
  refine lv_iconst (v := nI 0) hx hb dX7_isPicture_1 rfl ?_
  refine lv_aload_n hx hb dX7_isPicture_2 rfl (lv_at hl 0 rfl) ?_
  refine x_geti fiM_0 F hw fo_X7_65 dX7_isPicture_3 ?_
  refine x_top (y := nI (mpcN S)) hP.1 ?_
  refine lv_iconst (v := nI 1) hx hb dX7_isPicture_6 rfl ?_
  refine lv_isub hx hb dX7_isPicture_7 ?_
  refine x_fSI (rest := []) (c_X7_in l D k (wM k q S X) pi (nI 0) ((nI (mpcN S)) - (nI 1))) mo_X7_69 F hw (Nat.le_of_ble_eq_true rfl) (x_cs F (Nat.le_of_ble_eq_true rfl) (Nat.le_of_ble_eq_true rfl)) rfl rfl hl.1 (Nat.le_of_ble_eq_true rfl) dX7_isPicture_8 (fun H locs hw => ?_)
  exact hret _ _ _ _ _ _ dX7_isPicture_11 hw (f_in_n _ _ _) ⟨rfl, rfl⟩
set_option maxHeartbeats 4000000 in
set_option maxRecDepth 20000 in
theorem c_X7_isMan (l : Launch) (D : va_G) (k : Nat → ClassId) (q : Nat → Nat) (S : St) (X : va_W) (mn : Int32) (hN : okMN S) : CI l D k yX7_isMan cX7_isMan 2 (some .boolean) 1 0 0 [.ref (q 30), .int mn] (wM k q S X) (fun r w' => w' = wM k q S X ∧ r = haMM S mn) := by
  refine CI.mk (by decide) (Nat.le_of_ble_eq_true rfl) ?_
  intro p e R s m args below meth c A Q ls F hret hw hl
  have hx := xs_hx F
  have hb := xs_hb F
  have hl : lv_has ls 2 [(0, .ref (q 30)), (1, .int mn)] := hl
  refine lv_iload_n hx hb dX7_isMan_0 rfl (lv_at hl 1 rfl) ?_
  refine lv_iconst (v := nI 0) hx hb dX7_isMan_1 rfl ?_
  refine lv_aload_n hx hb dX7_isMan_2 rfl (lv_at hl 0 rfl) ?_
  refine x_geti fiM_13 F hw fo_X7_150 dX7_isMan_3 ?_
  refine x_top (y := nI (mmnN S)) hN.1.1 ?_
  refine lv_iconst (v := nI 1) hx hb dX7_isMan_6 rfl ?_
  refine lv_isub hx hb dX7_isMan_7 ?_
  refine x_fSI (rest := []) (c_X7_in l D k (wM k q S X) mn (nI 0) ((nI (mmnN S)) - (nI 1))) mo_X7_69 F hw (Nat.le_of_ble_eq_true rfl) (x_cs F (Nat.le_of_ble_eq_true rfl) (Nat.le_of_ble_eq_true rfl)) rfl rfl hl.1 (Nat.le_of_ble_eq_true rfl) dX7_isMan_8 (fun H locs hw => ?_)
  exact hret _ _ _ _ _ _ dX7_isMan_11 hw (f_in_n _ _ _) ⟨rfl, rfl⟩
set_option maxHeartbeats 4000000 in
set_option maxRecDepth 20000 in
theorem c_X7_faultOf (l : Launch) (D : va_G) (k : Nat → ClassId) (q : Nat → Nat) (S : St) (X : va_W) (hT : okMT S) : CI l D k yX7_faultOf cX7_faultOf 5 (some .int) 1 0 0 [.ref (q 30)] (wM k q S X) (fun r w' => w' = wM k q S X ∧ r = fltR (S 7) (msgN S)) := by
  refine CI.mk (by decide) (Nat.le_of_ble_eq_true rfl) ?_
  intro p e R s m args below meth c A Q ls F hret hw hl
  have hx := xs_hx F
  have hb := xs_hb F
  have hl : lv_has ls 5 [(0, .ref (q 30))] := hl
  have h50 := hT.2
  refine lv_iconst (v := nI 0) hx hb dX7_faultOf_0 rfl ?_
  refine lv_istore_n (lv' := [(1, .int (nI 0)), (0, .ref (q 30))]) hx hb dX7_faultOf_1 rfl hl (Nat.le_of_ble_eq_true rfl) rfl (fun ls hl => ?_)
  refine lv_iconst (v := nI 0) hx hb dX7_faultOf_2 rfl ?_
  refine lv_istore_n (lv' := [(2, .int (nI 0)), (1, .int (nI 0)), (0, .ref (q 30))]) hx hb dX7_faultOf_3 rfl hl (Nat.le_of_ble_eq_true rfl) rfl (fun ls hl => ?_)
  have K4 : ∀ (n4_ : Nat) (i : Nat) (pl : Nat) (H : Heap) (locs : List Loc) (ls : Array Slot), msgN S - i < n4_ → (i ≤ msgN S) → (scn (S 7) i = .inl pl) → Wd D A s.heap H locs (wM k q S X) → lv_has ls 5 [(0, .ref (q 30)), (1, .int (nI pl)), (2, .int (nI i))] → W p l e R s m args below meth c H locs 0 0 Q (F0 m 4 ls []) := by
    intro n4_
    induction n4_ with
    | zero =>
      intro i pl H locs ls hn4_
      exact absurd hn4_ (Nat.not_lt_zero _)
    | succ n4_ ih4_ =>
      intro i pl H locs ls hn4_ hi h1 hw hl
      have hp5 := scn_le (S 7) i pl h1
      refine lv_iload_n hx hb dX7_faultOf_4 rfl (lv_at hl 2 rfl) ?_
      refine lv_aload_n hx hb dX7_faultOf_5 rfl (lv_at hl 0 rfl) ?_
      refine x_geti fiM_6 F hw fo_X7_88 dX7_faultOf_6 ?_
      refine x_top (y := nI (msgN S)) hT.1 ?_
      refine x_icmp_ge i (msgN S) F (by omega) (by omega) (tgt := 134) dX7_faultOf_9 rfl (fun c9 => ?_) (fun c9 => ?_)
      · refine lv_iload_n hx hb dX7_faultOf_134 rfl (lv_at hl 1 rfl) ?_
        refine lv_iconst (v := nI 3) hx hb dX7_faultOf_135 rfl ?_
        refine x_icmp_le pl 3 F (by omega) (by omega) (tgt := 144) dX7_faultOf_136 rfl (fun c136 => ?_) (fun c136 => ?_)
        · refine lv_aload_n hx hb dX7_faultOf_144 rfl (lv_at hl 0 rfl) ?_
          refine x_geti fiM_6 F hw fo_X7_88 dX7_faultOf_145 ?_
          refine x_top (y := nI (msgN S)) hT.1 ?_
          exact hret _ _ _ _ _ _ dX7_faultOf_148 hw rfl ⟨rfl, by unfold fltR; rw [show msgN S = i by omega, h1]; first | exact (if_neg (by omega)).symm | exact (if_pos (by omega)).symm⟩
        · refine lv_bipush (v := (-6)) hx hb dX7_faultOf_139 rfl ?_
          refine lv_goto (tgt := 148) hx hb dX7_faultOf_141 rfl ?_
          exact hret _ _ _ _ _ _ dX7_faultOf_148 hw rfl ⟨rfl, by unfold fltR; rw [show msgN S = i by omega, h1]; first | exact (if_neg (by omega)).symm | exact (if_pos (by omega)).symm⟩
      · refine lv_aload_n hx hb dX7_faultOf_12 rfl (lv_at hl 0 rfl) ?_
        refine x_getr frM_7 F hw fo_X7_25 dX7_faultOf_13 ?_
        refine lv_iload_n hx hb dX7_faultOf_16 rfl (lv_at hl 2 rfl) ?_
        refine x_iald aiM_7 F hw i rfl (by omega) dX7_faultOf_17 ?_
        refine lv_istore_n (lv' := [(3, .int (S 7 i)), (0, .ref (q 30)), (1, .int (nI pl)), (2, .int (nI i))]) hx hb dX7_faultOf_18 rfl hl (Nat.le_of_ble_eq_true rfl) rfl (fun ls hl => ?_)
        refine lv_bipush (v := (-6)) hx hb dX7_faultOf_19 rfl ?_
        refine lv_istore (lv' := [(4, .int ((-6))), (3, .int (S 7 i)), (0, .ref (q 30)), (1, .int (nI pl)), (2, .int (nI i))]) hx hb dX7_faultOf_21 hl (Nat.le_of_ble_eq_true rfl) rfl (fun ls hl => ?_)
        refine lv_iload_n hx hb dX7_faultOf_23 rfl (lv_at hl 3 rfl) ?_
        refine lv_iconst (v := nI 2) hx hb dX7_faultOf_24 rfl ?_
        have K118 : ∀ (x : Int32) (H : Heap) (locs : List Loc) (ls : Array Slot), (x = nxI (nxt pl (S 7 i)) (-6)) → Wd D A s.heap H locs (wM k q S X) → lv_has ls 5 [(0, .ref (q 30)), (1, .int (nI pl)), (2, .int (nI i)), (3, .int (S 7 i)), (4, .int x)] → W p l e R s m args below meth c H locs 0 0 Q (F0 m 118 ls []) := by
          intro x H locs ls h118 hw hl
          refine lv_iload hx hb dX7_faultOf_118 (lv_at hl 4 rfl) ?_
          refine lv_if_ge (tgt := 125) hx hb dX7_faultOf_120 rfl (fun c120 => ?_) (fun c120 => ?_)
          · rw [h118] at c120
            obtain ⟨p2, hp2⟩ := nxI_ge c120
            have hq2 := nxt_lt hp2
            have hl : lv_has ls 5 [(0, .ref (q 30)), (1, .int (nI pl)), (2, .int (nI i)), (3, .int (S 7 i)), (4, .int (nI p2))] := by rw [h118, hp2] at hl; exact hl
            refine lv_iload hx hb dX7_faultOf_125 (lv_at hl 4 rfl) ?_
            refine lv_istore_n (lv' := [(1, .int (nI p2)), (0, .ref (q 30)), (2, .int (nI i)), (3, .int (S 7 i)), (4, .int (nI p2))]) hx hb dX7_faultOf_127 rfl hl (Nat.le_of_ble_eq_true rfl) rfl (fun ls hl => ?_)
            refine lv_iinc (v := nI (i + 1)) (lv' := [(2, .int (nI (i + 1))), (1, .int (nI p2)), (0, .ref (q 30)), (3, .int (S 7 i)), (4, .int (nI p2))]) hx hb dX7_faultOf_128 hl (k := 2) rfl (nI_1 _) (Nat.le_of_ble_eq_true rfl) rfl (fun ls hl => ?_)
            refine lv_goto (tgt := 4) hx hb dX7_faultOf_131 rfl ?_
            exact ih4_ (i + 1) p2 _ _ _ (by first | omega | (simp only [] at *; omega)) (by first | assumption | omega | rfl) (by exact scn_some h1 hp2) hw (lv_sub hl [2, 1, 0] rfl)
          · rw [h118] at c120
            have hno := nxI_lt (fun j hj => nxt_lt hj) c120
            refine lv_iload_n hx hb dX7_faultOf_123 rfl (lv_at hl 2 rfl) ?_
            exact hret _ _ _ _ _ _ dX7_faultOf_124 hw rfl ⟨rfl, by unfold fltR; rw [scn_bad (scn_none h1 hno) _ (by omega)]⟩
        refine x_icmp_ge pl 2 F (by omega) (by omega) (tgt := 58) dX7_faultOf_25 rfl (fun c25 => ?_) (fun c25 => ?_)
        · refine lv_iload_n hx hb dX7_faultOf_58 rfl (lv_at hl 3 rfl) ?_
          refine lv_iconst (v := nI 2) hx hb dX7_faultOf_59 rfl ?_
          refine x_icmp_ne pl 2 F (by omega) (by omega) (tgt := 80) dX7_faultOf_60 rfl (fun c60 => ?_) (fun c60 => ?_)
          · refine lv_iload_n hx hb dX7_faultOf_80 rfl (lv_at hl 3 rfl) ?_
            refine lv_iconst (v := nI 5) hx hb dX7_faultOf_81 rfl ?_
            refine x_icmp_ge pl 5 F (by omega) (by omega) (tgt := 104) dX7_faultOf_82 rfl (fun c82 => ?_) (fun c82 => ?_)
            · refine lv_iload_n hx hb dX7_faultOf_104 rfl (lv_at hl 3 rfl) ?_
              refine lv_iconst (v := nI 3) hx hb dX7_faultOf_105 rfl ?_
              refine x_icmp_le pl 3 F (by omega) (by omega) (tgt := 118) dX7_faultOf_106 rfl (fun c106 => ?_) (fun c106 => ?_)
              · exact K118 (-6) _ _ _ (by first | (rw [nx_a (by omega) (Or.inr (Decidable.not_not.mp (fun q => c36 (f_in_0.mpr q))))]; rfl) | (rw [nx_a (by omega) (Or.inl c42)]; rfl) | (rw [nx_b (by omega) (fun q => q.elim c42 (f_in_0.mp c36))]; rfl) | (rw [nx_c (by omega) c66]; rfl) | (rw [nx_d (by omega) c66]; rfl) | (rw [nx_e (by omega) (b01_1.mp c93)]; rfl) | (rw [nx_f (by omega) (fun q => absurd q.2 (by rw [b01_0.mp c93]; decide)) c112]; rfl) | (rw [nx_f (by omega) (fun q => by omega) c112]; rfl) | (rw [nx_h (by omega) (fun q => absurd q.2 (by rw [b01_0.mp c93]; decide)) c112]; rfl) | (rw [nx_h (by omega) (fun q => by omega) c112]; rfl) | (rw [nx_g (by omega) (b01_0.mp c93)]; rfl) | (exfalso; omega)) hw (lv_sub hl [2, 3, 4, 1, 0] rfl)
              · refine lv_iload_n hx hb dX7_faultOf_109 rfl (lv_at hl 1 rfl) ?_
                refine lv_bipush (v := nI 59) hx hb dX7_faultOf_110 rfl ?_
                refine lv_icmp_ne (tgt := 118) hx hb dX7_faultOf_112 rfl (fun c112 => ?_) (fun c112 => ?_)
                · exact K118 (-6) _ _ _ (by first | (rw [nx_a (by omega) (Or.inr (Decidable.not_not.mp (fun q => c36 (f_in_0.mpr q))))]; rfl) | (rw [nx_a (by omega) (Or.inl c42)]; rfl) | (rw [nx_b (by omega) (fun q => q.elim c42 (f_in_0.mp c36))]; rfl) | (rw [nx_c (by omega) c66]; rfl) | (rw [nx_d (by omega) c66]; rfl) | (rw [nx_e (by omega) (b01_1.mp c93)]; rfl) | (rw [nx_f (by omega) (fun q => absurd q.2 (by rw [b01_0.mp c93]; decide)) c112]; rfl) | (rw [nx_f (by omega) (fun q => by omega) c112]; rfl) | (rw [nx_h (by omega) (fun q => absurd q.2 (by rw [b01_0.mp c93]; decide)) c112]; rfl) | (rw [nx_h (by omega) (fun q => by omega) c112]; rfl) | (rw [nx_g (by omega) (b01_0.mp c93)]; rfl) | (exfalso; omega)) hw (lv_sub hl [2, 3, 4, 1, 0] rfl)
                · refine lv_iconst (v := nI 0) hx hb dX7_faultOf_115 rfl ?_
                  refine lv_istore (lv' := [(4, .int (nI 0)), (3, .int (S 7 i)), (0, .ref (q 30)), (1, .int (nI pl)), (2, .int (nI i))]) hx hb dX7_faultOf_116 hl (Nat.le_of_ble_eq_true rfl) rfl (fun ls hl => ?_)
                  exact K118 (nI 0) _ _ _ (by first | (rw [nx_a (by omega) (Or.inr (Decidable.not_not.mp (fun q => c36 (f_in_0.mpr q))))]; rfl) | (rw [nx_a (by omega) (Or.inl c42)]; rfl) | (rw [nx_b (by omega) (fun q => q.elim c42 (f_in_0.mp c36))]; rfl) | (rw [nx_c (by omega) c66]; rfl) | (rw [nx_d (by omega) c66]; rfl) | (rw [nx_e (by omega) (b01_1.mp c93)]; rfl) | (rw [nx_f (by omega) (fun q => absurd q.2 (by rw [b01_0.mp c93]; decide)) c112]; rfl) | (rw [nx_f (by omega) (fun q => by omega) c112]; rfl) | (rw [nx_h (by omega) (fun q => absurd q.2 (by rw [b01_0.mp c93]; decide)) c112]; rfl) | (rw [nx_h (by omega) (fun q => by omega) c112]; rfl) | (rw [nx_g (by omega) (b01_0.mp c93)]; rfl) | (exfalso; omega)) hw (lv_sub hl [2, 3, 4, 1, 0] rfl)
            · refine lv_iload_n hx hb dX7_faultOf_85 rfl (lv_at hl 1 rfl) ?_
              refine lv_bipush (v := nI 48) hx hb dX7_faultOf_86 rfl ?_
              refine lv_bipush (v := nI 57) hx hb dX7_faultOf_88 rfl ?_
              refine x_fSI (rest := []) (c_X7_in l D k (wM k q S X) (S 7 i) (nI 48) (nI 57)) mo_X7_69 F hw (Nat.le_of_ble_eq_true rfl) (x_cs F (Nat.le_of_ble_eq_true rfl) (Nat.le_of_ble_eq_true rfl)) rfl rfl hl.1 (Nat.le_of_ble_eq_true rfl) dX7_faultOf_90 (fun H locs hw => ?_)
              refine x_top (y := b01 (isDg (S 7 i))) (f_in_dg _) ?_
              refine lv_if_eq (tgt := 104) hx hb dX7_faultOf_93 rfl (fun c93 => ?_) (fun c93 => ?_)
              · refine lv_iload_n hx hb dX7_faultOf_104 rfl (lv_at hl 3 rfl) ?_
                refine lv_iconst (v := nI 3) hx hb dX7_faultOf_105 rfl ?_
                refine x_icmp_le pl 3 F (by omega) (by omega) (tgt := 118) dX7_faultOf_106 rfl (fun c106 => ?_) (fun c106 => ?_)
                · exact K118 (-6) _ _ _ (by first | (rw [nx_a (by omega) (Or.inr (Decidable.not_not.mp (fun q => c36 (f_in_0.mpr q))))]; rfl) | (rw [nx_a (by omega) (Or.inl c42)]; rfl) | (rw [nx_b (by omega) (fun q => q.elim c42 (f_in_0.mp c36))]; rfl) | (rw [nx_c (by omega) c66]; rfl) | (rw [nx_d (by omega) c66]; rfl) | (rw [nx_e (by omega) (b01_1.mp c93)]; rfl) | (rw [nx_f (by omega) (fun q => absurd q.2 (by rw [b01_0.mp c93]; decide)) c112]; rfl) | (rw [nx_f (by omega) (fun q => by omega) c112]; rfl) | (rw [nx_h (by omega) (fun q => absurd q.2 (by rw [b01_0.mp c93]; decide)) c112]; rfl) | (rw [nx_h (by omega) (fun q => by omega) c112]; rfl) | (rw [nx_g (by omega) (b01_0.mp c93)]; rfl) | (exfalso; omega)) hw (lv_sub hl [2, 3, 4, 1, 0] rfl)
                · refine lv_iload_n hx hb dX7_faultOf_109 rfl (lv_at hl 1 rfl) ?_
                  refine lv_bipush (v := nI 59) hx hb dX7_faultOf_110 rfl ?_
                  refine lv_icmp_ne (tgt := 118) hx hb dX7_faultOf_112 rfl (fun c112 => ?_) (fun c112 => ?_)
                  · exact K118 (-6) _ _ _ (by first | (rw [nx_a (by omega) (Or.inr (Decidable.not_not.mp (fun q => c36 (f_in_0.mpr q))))]; rfl) | (rw [nx_a (by omega) (Or.inl c42)]; rfl) | (rw [nx_b (by omega) (fun q => q.elim c42 (f_in_0.mp c36))]; rfl) | (rw [nx_c (by omega) c66]; rfl) | (rw [nx_d (by omega) c66]; rfl) | (rw [nx_e (by omega) (b01_1.mp c93)]; rfl) | (rw [nx_f (by omega) (fun q => absurd q.2 (by rw [b01_0.mp c93]; decide)) c112]; rfl) | (rw [nx_f (by omega) (fun q => by omega) c112]; rfl) | (rw [nx_h (by omega) (fun q => absurd q.2 (by rw [b01_0.mp c93]; decide)) c112]; rfl) | (rw [nx_h (by omega) (fun q => by omega) c112]; rfl) | (rw [nx_g (by omega) (b01_0.mp c93)]; rfl) | (exfalso; omega)) hw (lv_sub hl [2, 3, 4, 1, 0] rfl)
                  · refine lv_iconst (v := nI 0) hx hb dX7_faultOf_115 rfl ?_
                    refine lv_istore (lv' := [(4, .int (nI 0)), (3, .int (S 7 i)), (0, .ref (q 30)), (1, .int (nI pl)), (2, .int (nI i))]) hx hb dX7_faultOf_116 hl (Nat.le_of_ble_eq_true rfl) rfl (fun ls hl => ?_)
                    exact K118 (nI 0) _ _ _ (by first | (rw [nx_a (by omega) (Or.inr (Decidable.not_not.mp (fun q => c36 (f_in_0.mpr q))))]; rfl) | (rw [nx_a (by omega) (Or.inl c42)]; rfl) | (rw [nx_b (by omega) (fun q => q.elim c42 (f_in_0.mp c36))]; rfl) | (rw [nx_c (by omega) c66]; rfl) | (rw [nx_d (by omega) c66]; rfl) | (rw [nx_e (by omega) (b01_1.mp c93)]; rfl) | (rw [nx_f (by omega) (fun q => absurd q.2 (by rw [b01_0.mp c93]; decide)) c112]; rfl) | (rw [nx_f (by omega) (fun q => by omega) c112]; rfl) | (rw [nx_h (by omega) (fun q => absurd q.2 (by rw [b01_0.mp c93]; decide)) c112]; rfl) | (rw [nx_h (by omega) (fun q => by omega) c112]; rfl) | (rw [nx_g (by omega) (b01_0.mp c93)]; rfl) | (exfalso; omega)) hw (lv_sub hl [2, 3, 4, 1, 0] rfl)
              · refine lv_iload_n hx hb dX7_faultOf_96 rfl (lv_at hl 3 rfl) ?_
                refine lv_iconst (v := nI 1) hx hb dX7_faultOf_97 rfl ?_
                refine lv_iadd hx hb dX7_faultOf_98 ?_
                refine x_top (y := nI (pl + 1)) (nI_add _ _) ?_
                refine lv_istore (lv' := [(4, .int (nI (pl + 1))), (3, .int (S 7 i)), (0, .ref (q 30)), (1, .int (nI pl)), (2, .int (nI i))]) hx hb dX7_faultOf_99 hl (Nat.le_of_ble_eq_true rfl) rfl (fun ls hl => ?_)
                refine lv_goto (tgt := 118) hx hb dX7_faultOf_101 rfl ?_
                exact K118 (nI (pl + 1)) _ _ _ (by first | (rw [nx_a (by omega) (Or.inr (Decidable.not_not.mp (fun q => c36 (f_in_0.mpr q))))]; rfl) | (rw [nx_a (by omega) (Or.inl c42)]; rfl) | (rw [nx_b (by omega) (fun q => q.elim c42 (f_in_0.mp c36))]; rfl) | (rw [nx_c (by omega) c66]; rfl) | (rw [nx_d (by omega) c66]; rfl) | (rw [nx_e (by omega) (b01_1.mp c93)]; rfl) | (rw [nx_f (by omega) (fun q => absurd q.2 (by rw [b01_0.mp c93]; decide)) c112]; rfl) | (rw [nx_f (by omega) (fun q => by omega) c112]; rfl) | (rw [nx_h (by omega) (fun q => absurd q.2 (by rw [b01_0.mp c93]; decide)) c112]; rfl) | (rw [nx_h (by omega) (fun q => by omega) c112]; rfl) | (rw [nx_g (by omega) (b01_0.mp c93)]; rfl) | (exfalso; omega)) hw (lv_sub hl [2, 3, 4, 1, 0] rfl)
          · refine lv_iload_n hx hb dX7_faultOf_63 rfl (lv_at hl 1 rfl) ?_
            refine lv_bipush (v := nI 61) hx hb dX7_faultOf_64 rfl ?_
            refine lv_icmp_ne (tgt := 73) hx hb dX7_faultOf_66 rfl (fun c66 => ?_) (fun c66 => ?_)
            · refine lv_bipush (v := (-6)) hx hb dX7_faultOf_73 rfl ?_
              refine lv_istore (lv' := [(4, .int ((-6))), (3, .int (S 7 i)), (0, .ref (q 30)), (1, .int (nI pl)), (2, .int (nI i))]) hx hb dX7_faultOf_75 hl (Nat.le_of_ble_eq_true rfl) rfl (fun ls hl => ?_)
              refine lv_goto (tgt := 118) hx hb dX7_faultOf_77 rfl ?_
              exact K118 (-6) _ _ _ (by first | (rw [nx_a (by omega) (Or.inr (Decidable.not_not.mp (fun q => c36 (f_in_0.mpr q))))]; rfl) | (rw [nx_a (by omega) (Or.inl c42)]; rfl) | (rw [nx_b (by omega) (fun q => q.elim c42 (f_in_0.mp c36))]; rfl) | (rw [nx_c (by omega) c66]; rfl) | (rw [nx_d (by omega) c66]; rfl) | (rw [nx_e (by omega) (b01_1.mp c93)]; rfl) | (rw [nx_f (by omega) (fun q => absurd q.2 (by rw [b01_0.mp c93]; decide)) c112]; rfl) | (rw [nx_f (by omega) (fun q => by omega) c112]; rfl) | (rw [nx_h (by omega) (fun q => absurd q.2 (by rw [b01_0.mp c93]; decide)) c112]; rfl) | (rw [nx_h (by omega) (fun q => by omega) c112]; rfl) | (rw [nx_g (by omega) (b01_0.mp c93)]; rfl) | (exfalso; omega)) hw (lv_sub hl [2, 3, 4, 1, 0] rfl)
            · refine lv_iconst (v := nI 3) hx hb dX7_faultOf_69 rfl ?_
              refine lv_goto (tgt := 75) hx hb dX7_faultOf_70 rfl ?_
              refine lv_istore (lv' := [(4, .int (nI 3)), (3, .int (S 7 i)), (0, .ref (q 30)), (1, .int (nI pl)), (2, .int (nI i))]) hx hb dX7_faultOf_75 hl (Nat.le_of_ble_eq_true rfl) rfl (fun ls hl => ?_)
              refine lv_goto (tgt := 118) hx hb dX7_faultOf_77 rfl ?_
              exact K118 (nI 3) _ _ _ (by first | (rw [nx_a (by omega) (Or.inr (Decidable.not_not.mp (fun q => c36 (f_in_0.mpr q))))]; rfl) | (rw [nx_a (by omega) (Or.inl c42)]; rfl) | (rw [nx_b (by omega) (fun q => q.elim c42 (f_in_0.mp c36))]; rfl) | (rw [nx_c (by omega) c66]; rfl) | (rw [nx_d (by omega) c66]; rfl) | (rw [nx_e (by omega) (b01_1.mp c93)]; rfl) | (rw [nx_f (by omega) (fun q => absurd q.2 (by rw [b01_0.mp c93]; decide)) c112]; rfl) | (rw [nx_f (by omega) (fun q => by omega) c112]; rfl) | (rw [nx_h (by omega) (fun q => absurd q.2 (by rw [b01_0.mp c93]; decide)) c112]; rfl) | (rw [nx_h (by omega) (fun q => by omega) c112]; rfl) | (rw [nx_g (by omega) (b01_0.mp c93)]; rfl) | (exfalso; omega)) hw (lv_sub hl [2, 3, 4, 1, 0] rfl)
        · refine lv_iload_n hx hb dX7_faultOf_28 rfl (lv_at hl 1 rfl) ?_
          refine lv_bipush (v := nI 48) hx hb dX7_faultOf_29 rfl ?_
          refine lv_bipush (v := nI 51) hx hb dX7_faultOf_31 rfl ?_
          refine x_fSI (rest := []) (c_X7_in l D k (wM k q S X) (S 7 i) (nI 48) (nI 51)) mo_X7_69 F hw (Nat.le_of_ble_eq_true rfl) (x_cs F (Nat.le_of_ble_eq_true rfl) (Nat.le_of_ble_eq_true rfl)) rfl rfl hl.1 (Nat.le_of_ble_eq_true rfl) dX7_faultOf_33 (fun H locs hw => ?_)
          refine lv_if_ne (tgt := 45) hx hb dX7_faultOf_36 rfl (fun c36 => ?_) (fun c36 => ?_)
          · refine lv_iload_n hx hb dX7_faultOf_45 rfl (lv_at hl 3 rfl) ?_
            refine lv_iconst (v := nI 1) hx hb dX7_faultOf_46 rfl ?_
            refine lv_iadd hx hb dX7_faultOf_47 ?_
            refine x_top (y := nI (pl + 1)) (nI_add _ _) ?_
            refine lv_goto (tgt := 53) hx hb dX7_faultOf_48 rfl ?_
            refine lv_istore (lv' := [(4, .int (nI (pl + 1))), (3, .int (S 7 i)), (0, .ref (q 30)), (1, .int (nI pl)), (2, .int (nI i))]) hx hb dX7_faultOf_53 hl (Nat.le_of_ble_eq_true rfl) rfl (fun ls hl => ?_)
            refine lv_goto (tgt := 118) hx hb dX7_faultOf_55 rfl ?_
            exact K118 (nI (pl + 1)) _ _ _ (by first | (rw [nx_a (by omega) (Or.inr (Decidable.not_not.mp (fun q => c36 (f_in_0.mpr q))))]; rfl) | (rw [nx_a (by omega) (Or.inl c42)]; rfl) | (rw [nx_b (by omega) (fun q => q.elim c42 (f_in_0.mp c36))]; rfl) | (rw [nx_c (by omega) c66]; rfl) | (rw [nx_d (by omega) c66]; rfl) | (rw [nx_e (by omega) (b01_1.mp c93)]; rfl) | (rw [nx_f (by omega) (fun q => absurd q.2 (by rw [b01_0.mp c93]; decide)) c112]; rfl) | (rw [nx_f (by omega) (fun q => by omega) c112]; rfl) | (rw [nx_h (by omega) (fun q => absurd q.2 (by rw [b01_0.mp c93]; decide)) c112]; rfl) | (rw [nx_h (by omega) (fun q => by omega) c112]; rfl) | (rw [nx_g (by omega) (b01_0.mp c93)]; rfl) | (exfalso; omega)) hw (lv_sub hl [2, 3, 4, 1, 0] rfl)
          · refine lv_iload_n hx hb dX7_faultOf_39 rfl (lv_at hl 1 rfl) ?_
            refine lv_bipush (v := nI 42) hx hb dX7_faultOf_40 rfl ?_
            refine lv_icmp_ne (tgt := 51) hx hb dX7_faultOf_42 rfl (fun c42 => ?_) (fun c42 => ?_)
            · refine lv_bipush (v := (-6)) hx hb dX7_faultOf_51 rfl ?_
              refine lv_istore (lv' := [(4, .int ((-6))), (3, .int (S 7 i)), (0, .ref (q 30)), (1, .int (nI pl)), (2, .int (nI i))]) hx hb dX7_faultOf_53 hl (Nat.le_of_ble_eq_true rfl) rfl (fun ls hl => ?_)
              refine lv_goto (tgt := 118) hx hb dX7_faultOf_55 rfl ?_
              exact K118 (-6) _ _ _ (by first | (rw [nx_a (by omega) (Or.inr (Decidable.not_not.mp (fun q => c36 (f_in_0.mpr q))))]; rfl) | (rw [nx_a (by omega) (Or.inl c42)]; rfl) | (rw [nx_b (by omega) (fun q => q.elim c42 (f_in_0.mp c36))]; rfl) | (rw [nx_c (by omega) c66]; rfl) | (rw [nx_d (by omega) c66]; rfl) | (rw [nx_e (by omega) (b01_1.mp c93)]; rfl) | (rw [nx_f (by omega) (fun q => absurd q.2 (by rw [b01_0.mp c93]; decide)) c112]; rfl) | (rw [nx_f (by omega) (fun q => by omega) c112]; rfl) | (rw [nx_h (by omega) (fun q => absurd q.2 (by rw [b01_0.mp c93]; decide)) c112]; rfl) | (rw [nx_h (by omega) (fun q => by omega) c112]; rfl) | (rw [nx_g (by omega) (b01_0.mp c93)]; rfl) | (exfalso; omega)) hw (lv_sub hl [2, 3, 4, 1, 0] rfl)
            · refine lv_iload_n hx hb dX7_faultOf_45 rfl (lv_at hl 3 rfl) ?_
              refine lv_iconst (v := nI 1) hx hb dX7_faultOf_46 rfl ?_
              refine lv_iadd hx hb dX7_faultOf_47 ?_
              refine x_top (y := nI (pl + 1)) (nI_add _ _) ?_
              refine lv_goto (tgt := 53) hx hb dX7_faultOf_48 rfl ?_
              refine lv_istore (lv' := [(4, .int (nI (pl + 1))), (3, .int (S 7 i)), (0, .ref (q 30)), (1, .int (nI pl)), (2, .int (nI i))]) hx hb dX7_faultOf_53 hl (Nat.le_of_ble_eq_true rfl) rfl (fun ls hl => ?_)
              refine lv_goto (tgt := 118) hx hb dX7_faultOf_55 rfl ?_
              exact K118 (nI (pl + 1)) _ _ _ (by first | (rw [nx_a (by omega) (Or.inr (Decidable.not_not.mp (fun q => c36 (f_in_0.mpr q))))]; rfl) | (rw [nx_a (by omega) (Or.inl c42)]; rfl) | (rw [nx_b (by omega) (fun q => q.elim c42 (f_in_0.mp c36))]; rfl) | (rw [nx_c (by omega) c66]; rfl) | (rw [nx_d (by omega) c66]; rfl) | (rw [nx_e (by omega) (b01_1.mp c93)]; rfl) | (rw [nx_f (by omega) (fun q => absurd q.2 (by rw [b01_0.mp c93]; decide)) c112]; rfl) | (rw [nx_f (by omega) (fun q => by omega) c112]; rfl) | (rw [nx_h (by omega) (fun q => absurd q.2 (by rw [b01_0.mp c93]; decide)) c112]; rfl) | (rw [nx_h (by omega) (fun q => by omega) c112]; rfl) | (rw [nx_g (by omega) (b01_0.mp c93)]; rfl) | (exfalso; omega)) hw (lv_sub hl [2, 3, 4, 1, 0] rfl)
  exact K4 _ 0 0 _ _ _ (Nat.lt_succ_self _) (by first | assumption | omega | rfl) (by rfl) hw (lv_sub hl [2, 1, 0] rfl)
set_option maxHeartbeats 4000000 in
set_option maxRecDepth 20000 in
theorem c_X7_lines (l : Launch) (D : va_G) (k : Nat → ClassId) (q : Nat → Nat) (S : St) (X : va_W) (hL : okML S) : CI l D k yX7_lines cX7_lines 3 (some .int) 0 0 0 [.ref (q 30)] (wM k q S X) (fun r w' => w' = wM k q S X ∧ r = nI ((if rulN S = 0 then 0 else 1) + cntB (fun j => S 9 j == nI 59) (rulN S))) := by
  refine CI.mk (by decide) (Nat.le_of_ble_eq_true rfl) ?_
  intro p e R s m args below meth c A Q ls F hret hw hl
  have hx := xs_hx F
  have hb := xs_hb F
  have hl : lv_has ls 3 [(0, .ref (q 30))] := hl
  have hl50 := hL.2
  refine lv_aload_n hx hb dX7_lines_0 rfl (lv_at hl 0 rfl) ?_
  refine x_geti fiM_8 F hw fo_X7_95 dX7_lines_1 ?_
  refine x_top (y := nI (rulN S)) hL.1 ?_
  have K12 : ∀ (a : Nat) (H : Heap) (locs : List Loc) (ls : Array Slot), (a = if rulN S = 0 then 0 else 1) → Wd D A s.heap H locs (wM k q S X) → lv_has ls 3 [(0, .ref (q 30))] → W p l e R s m args below meth c H locs 0 0 Q (F0 m 12 ls [.int (nI a)]) := by
    intro a H locs ls h12 hw hl
    refine lv_istore_n (lv' := [(1, .int (nI a)), (0, .ref (q 30))]) hx hb dX7_lines_12 rfl hl (Nat.le_of_ble_eq_true rfl) rfl (fun ls hl => ?_)
    refine lv_iconst (v := nI 0) hx hb dX7_lines_13 rfl ?_
    refine lv_istore_n (lv' := [(2, .int (nI 0)), (1, .int (nI a)), (0, .ref (q 30))]) hx hb dX7_lines_14 rfl hl (Nat.le_of_ble_eq_true rfl) rfl (fun ls hl => ?_)
    have K15 : ∀ (n15_ : Nat) (i : Nat) (x : Nat) (H : Heap) (locs : List Loc) (ls : Array Slot), rulN S - i < n15_ → (i ≤ rulN S) → (x = (if rulN S = 0 then 0 else 1) + cntB (fun j => S 9 j == nI 59) i) → Wd D A s.heap H locs (wM k q S X) → lv_has ls 3 [(0, .ref (q 30)), (1, .int (nI x)), (2, .int (nI i))] → W p l e R s m args below meth c H locs 0 0 Q (F0 m 15 ls []) := by
      intro n15_
      induction n15_ with
      | zero =>
        intro i x H locs ls hn15_
        exact absurd hn15_ (Nat.not_lt_zero _)
      | succ n15_ ih15_ =>
        intro i x H locs ls hn15_ hi h1 hw hl
        refine lv_iload_n hx hb dX7_lines_15 rfl (lv_at hl 2 rfl) ?_
        refine lv_aload_n hx hb dX7_lines_16 rfl (lv_at hl 0 rfl) ?_
        refine x_geti fiM_8 F hw fo_X7_95 dX7_lines_17 ?_
        refine x_top (y := nI (rulN S)) hL.1 ?_
        refine x_icmp_ge i (rulN S) F (by omega) (by omega) (tgt := 48) dX7_lines_20 rfl (fun c20 => ?_) (fun c20 => ?_)
        · refine lv_iload_n hx hb dX7_lines_48 rfl (lv_at hl 1 rfl) ?_
          exact hret _ _ _ _ _ _ dX7_lines_49 hw rfl ⟨rfl, by rw [h1, show i = rulN S by omega]⟩
        · refine lv_iload_n hx hb dX7_lines_23 rfl (lv_at hl 1 rfl) ?_
          refine lv_aload_n hx hb dX7_lines_24 rfl (lv_at hl 0 rfl) ?_
          refine x_getr frM_9 F hw fo_X7_28 dX7_lines_25 ?_
          refine lv_iload_n hx hb dX7_lines_28 rfl (lv_at hl 2 rfl) ?_
          refine x_iald aiM_9 F hw i rfl (by omega) dX7_lines_29 ?_
          refine lv_bipush (v := nI 59) hx hb dX7_lines_30 rfl ?_
          refine lv_icmp_ne (tgt := 39) hx hb dX7_lines_32 rfl (fun c32 => ?_) (fun c32 => ?_)
          · refine lv_iconst (v := nI 0) hx hb dX7_lines_39 rfl ?_
            refine lv_iadd hx hb dX7_lines_40 ?_
            refine x_top (y := nI (x + 0)) (nI_add _ _) ?_
            refine lv_istore_n (lv' := [(1, .int (nI (x + 0))), (0, .ref (q 30)), (2, .int (nI i))]) hx hb dX7_lines_41 rfl hl (Nat.le_of_ble_eq_true rfl) rfl (fun ls hl => ?_)
            refine lv_iinc (v := nI (i + 1)) (lv' := [(2, .int (nI (i + 1))), (1, .int (nI (x + 0))), (0, .ref (q 30))]) hx hb dX7_lines_42 hl (k := 2) rfl (nI_1 _) (Nat.le_of_ble_eq_true rfl) rfl (fun ls hl => ?_)
            refine lv_goto (tgt := 15) hx hb dX7_lines_45 rfl ?_
            exact ih15_ (i + 1) (x + 0) _ _ _ (by first | omega | (simp only [] at *; omega)) (by first | assumption | omega | rfl) (by rw [h1]; first | (rw [cnt_y (n := i) (beqT c32)]; omega) | (rw [cnt_f (n := i) (beqF c32)]; omega)) hw (lv_sub hl [2, 1, 0] rfl)
          · refine lv_iconst (v := nI 1) hx hb dX7_lines_35 rfl ?_
            refine lv_goto (tgt := 40) hx hb dX7_lines_36 rfl ?_
            refine lv_iadd hx hb dX7_lines_40 ?_
            refine x_top (y := nI (x + 1)) (nI_add _ _) ?_
            refine lv_istore_n (lv' := [(1, .int (nI (x + 1))), (0, .ref (q 30)), (2, .int (nI i))]) hx hb dX7_lines_41 rfl hl (Nat.le_of_ble_eq_true rfl) rfl (fun ls hl => ?_)
            refine lv_iinc (v := nI (i + 1)) (lv' := [(2, .int (nI (i + 1))), (1, .int (nI (x + 1))), (0, .ref (q 30))]) hx hb dX7_lines_42 hl (k := 2) rfl (nI_1 _) (Nat.le_of_ble_eq_true rfl) rfl (fun ls hl => ?_)
            refine lv_goto (tgt := 15) hx hb dX7_lines_45 rfl ?_
            exact ih15_ (i + 1) (x + 1) _ _ _ (by first | omega | (simp only [] at *; omega)) (by first | assumption | omega | rfl) (by rw [h1]; first | (rw [cnt_y (n := i) (beqT c32)]; omega) | (rw [cnt_f (n := i) (beqF c32)]; omega)) hw (lv_sub hl [2, 1, 0] rfl)
    exact K15 _ 0 a _ _ _ (Nat.lt_succ_self _) (by first | assumption | omega | rfl) (by exact h12) hw (lv_sub hl [2, 1, 0] rfl)
  refine lv_if_le (tgt := 11) hx hb dX7_lines_4 rfl (fun c4 => ?_) (fun c4 => ?_)
  · refine lv_iconst (v := nI 0) hx hb dX7_lines_11 rfl ?_
    exact K12 0 _ _ _ (by first | exact (if_pos (nI_le0 (by omega) c4)).symm | exact (if_neg (fun q => c4 (by rw [q]; decide))).symm) hw (lv_sub hl [0] rfl)
  · refine lv_iconst (v := nI 1) hx hb dX7_lines_7 rfl ?_
    refine lv_goto (tgt := 12) hx hb dX7_lines_8 rfl ?_
    exact K12 1 _ _ _ (by first | exact (if_pos (nI_le0 (by omega) c4)).symm | exact (if_neg (fun q => c4 (by rw [q]; decide))).symm) hw (lv_sub hl [0] rfl)
set_option maxHeartbeats 4000000 in
set_option maxRecDepth 20000 in
theorem c_X7_costOf (l : Launch) (D : va_G) (k : Nat → ClassId) (q : Nat → Nat) (S : St) (X : va_W) (d1 : Int32) (d2 : Int32) : CI l D k yX7_costOf cX7_costOf 5 (some .int) 1 0 0 [.ref (q 30), .int d1, .int d2] (wM k q S X) (fun r w' => w' = wM k q S X ∧ r = costF (fun a b => S 19 (4 * a + b)) d1 d2 8) := by
  refine CI.mk (by decide) (Nat.le_of_ble_eq_true rfl) ?_
  intro p e R s m args below meth c A Q ls F hret hw hl
  have hx := xs_hx F
  have hb := xs_hb F
  have hl : lv_has ls 5 [(0, .ref (q 30)), (1, .int d1), (2, .int d2)] := hl
  refine lv_iconst (v := nI 0) hx hb dX7_costOf_0 rfl ?_
  refine lv_istore_n (lv' := [(3, .int (nI 0)), (0, .ref (q 30)), (1, .int d1), (2, .int d2)]) hx hb dX7_costOf_1 rfl hl (Nat.le_of_ble_eq_true rfl) rfl (fun ls hl => ?_)
  refine lv_iconst (v := nI 0) hx hb dX7_costOf_2 rfl ?_
  refine lv_istore (lv' := [(4, .int (nI 0)), (3, .int (nI 0)), (0, .ref (q 30)), (1, .int d1), (2, .int d2)]) hx hb dX7_costOf_3 hl (Nat.le_of_ble_eq_true rfl) rfl (fun ls hl => ?_)
  have K5 : ∀ (n5_ : Nat) (i : Nat) (x : Int32) (H : Heap) (locs : List Loc) (ls : Array Slot), 8 - i < n5_ → (i ≤ 8) → (x = costF (fun a b => S 19 (4 * a + b)) d1 d2 i) → Wd D A s.heap H locs (wM k q S X) → lv_has ls 5 [(0, .ref (q 30)), (1, .int d1), (2, .int d2), (3, .int x), (4, .int (nI i))] → W p l e R s m args below meth c H locs 0 0 Q (F0 m 5 ls []) := by
    intro n5_
    induction n5_ with
    | zero =>
      intro i x H locs ls hn5_
      exact absurd hn5_ (Nat.not_lt_zero _)
    | succ n5_ ih5_ =>
      intro i x H locs ls hn5_ hi h1 hw hl
      refine lv_iload hx hb dX7_costOf_5 (lv_at hl 4 rfl) ?_
      refine lv_bipush (v := nI 8) hx hb dX7_costOf_7 rfl ?_
      refine x_icmp_ge i 8 F (by omega) (by omega) (tgt := 41) dX7_costOf_9 rfl (fun c9 => ?_) (fun c9 => ?_)
      · refine lv_iload_n hx hb dX7_costOf_41 rfl (lv_at hl 3 rfl) ?_
        exact hret _ _ _ _ _ _ dX7_costOf_42 hw rfl ⟨rfl, by rw [h1, show i = 8 by omega]⟩
      · refine lv_iload_n hx hb dX7_costOf_12 rfl (lv_at hl 3 rfl) ?_
        refine lv_aload_n hx hb dX7_costOf_13 rfl (lv_at hl 0 rfl) ?_
        refine x_getr frM_19 F hw fo_X7_49 dX7_costOf_14 ?_
        refine lv_iconst (v := nI 4) hx hb dX7_costOf_17 rfl ?_
        refine lv_iload_n hx hb dX7_costOf_18 rfl (lv_at hl 1 rfl) ?_
        refine lv_iload hx hb dX7_costOf_19 (lv_at hl 4 rfl) ?_
        refine x_fSI (rest := [.int (nI 4), .ref (q 19), .int x]) (c_X7_strokeOf l D k (wM k q S X) d1 i (by first | assumption | omega)) mo_X7_104 F hw (Nat.le_of_ble_eq_true rfl) (x_cs F (Nat.le_of_ble_eq_true rfl) (Nat.le_of_ble_eq_true rfl)) rfl rfl hl.1 (Nat.le_of_ble_eq_true rfl) dX7_costOf_21 (fun H locs hw => ?_)
        have := stk_lt d1 i
        refine lv_imul hx hb dX7_costOf_24 ?_
        refine x_top (y := nI (4 * (stk d1 i))) (pk_mul _ _) ?_
        refine lv_iload_n hx hb dX7_costOf_25 rfl (lv_at hl 2 rfl) ?_
        refine lv_iload hx hb dX7_costOf_26 (lv_at hl 4 rfl) ?_
        refine x_fSI (rest := [.int (nI (4 * (stk d1 i))), .ref (q 19), .int x]) (c_X7_strokeOf l D k (wM k q S X) d2 i (by first | assumption | omega)) mo_X7_104 F hw (Nat.le_of_ble_eq_true rfl) (x_cs F (Nat.le_of_ble_eq_true rfl) (Nat.le_of_ble_eq_true rfl)) rfl rfl hl.1 (Nat.le_of_ble_eq_true rfl) dX7_costOf_28 (fun H locs hw => ?_)
        have := stk_lt d2 i
        refine lv_iadd hx hb dX7_costOf_31 ?_
        refine x_top (y := nI ((4 * (stk d1 i)) + (stk d2 i))) (nI_add _ _) ?_
        refine x_iald aiM_19 F hw ((4 * (stk d1 i)) + (stk d2 i)) rfl (by omega) dX7_costOf_32 ?_
        refine lv_iadd hx hb dX7_costOf_33 ?_
        refine lv_istore_n (lv' := [(3, .int (x + (S 19 ((4 * (stk d1 i)) + (stk d2 i))))), (0, .ref (q 30)), (1, .int d1), (2, .int d2), (4, .int (nI i))]) hx hb dX7_costOf_34 rfl hl (Nat.le_of_ble_eq_true rfl) rfl (fun ls hl => ?_)
        refine lv_iinc (v := nI (i + 1)) (lv' := [(4, .int (nI (i + 1))), (3, .int (x + (S 19 ((4 * (stk d1 i)) + (stk d2 i))))), (0, .ref (q 30)), (1, .int d1), (2, .int d2)]) hx hb dX7_costOf_35 hl (k := 4) rfl (nI_1 _) (Nat.le_of_ble_eq_true rfl) rfl (fun ls hl => ?_)
        refine lv_goto (tgt := 5) hx hb dX7_costOf_38 rfl ?_
        exact ih5_ (i + 1) (x + (S 19 ((4 * (stk d1 i)) + (stk d2 i)))) _ _ _ (by first | omega | (simp only [] at *; omega)) (by first | assumption | omega | rfl) (by rw [h1]; rfl) hw (lv_sub hl [2, 3, 4, 1, 0] rfl)
  exact K5 _ 0 (nI 0) _ _ _ (Nat.lt_succ_self _) (by first | assumption | omega | rfl) (by rfl) hw (lv_sub hl [2, 3, 4, 1, 0] rfl)
