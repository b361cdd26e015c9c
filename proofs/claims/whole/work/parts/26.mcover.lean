/-! ===== the reference: covers by number ===== -/
def k3 (d : Nat) : Nat := if d = 2 then 3 else d
def ownF (cd : Nat) : Nat → Int32
  | 0 => nI 0
  | j + 1 => ownF cd j ||| (nI (k3 (cd / 3 ^ j % 3)) <<< (nI (2 * j) &&& 31))
def cvB (S : St) (nd : Int32) (best : Int32) (cd : Nat) : Bool := (nd &&& (hidF (S 11) (S 12) (ownF cd 8) 8 ^^^ (-1)) == 0) && (decide (best < 0) || decide (inkN (ownF cd 8) 8 < inkN best 8))
def cvF (S : St) (nd : Int32) : Nat → Int32
  | 0 => (-6)
  | cd + 1 => if cvB S nd (cvF S nd cd) cd then ownF cd 8 else cvF S nd cd
theorem cvF_y {S : St} {nd : Int32} {cd : Nat} (h : cvB S nd (cvF S nd cd) cd = true) : cvF S nd (cd + 1) = ownF cd 8 := if_pos h
theorem cvF_n {S : St} {nd : Int32} {cd : Nat} (h : cvB S nd (cvF S nd cd) cd = false) : cvF S nd (cd + 1) = cvF S nd cd := if_neg (by rw [h]; decide)
def m_cover (S : St) (dr : Int32) : Int32 := if isDr dr = 0 then (-2) else cvF S (orB (fun j => stk dr j != 0) 8) 6561
theorem dn_st : ∀ j : Nat, j < 8 → nI 7 - nI j + Int32.ofInt (-1) = nI 7 - nI (j + 1) := by decide
theorem dn_lt : ∀ j : Nat, j ≤ 8 → (nI 7 - nI j < 0 ↔ j = 8) := by decide
theorem dn_sh : ∀ j : Nat, j < 8 → nI 14 - nI 2 * (nI 7 - nI j) = nI (2 * j) := by decide
theorem stk_le0 {d : Int32} {s : Nat} (q : nI (stk d s) ≤ 0) : (stk d s != 0) = false := by
  rw [nI_le0 (by have := stk_lt d s; omega) q]; rfl
theorem stk_nle0 {d : Int32} {s : Nat} (q : ¬ nI (stk d s) ≤ 0) : (stk d s != 0) = true := by
  have : ¬ stk d s = 0 := fun e => q (by rw [e]; decide)
  simp [this]
set_option maxHeartbeats 4000000 in
set_option maxRecDepth 20000 in
theorem c_X7_cover (l : Launch) (D : va_G) (k : Nat → ClassId) (q : Nat → Nat) (S : St) (X : va_W) (dr : Int32) : CI l D k yX7_cover cX7_cover 9 (some .int) 2 0 0 [.ref (q 30), .int dr] (wM k q S X) (fun r w' => w' = wM k q S X ∧ r = m_cover S dr) := by
  refine CI.mk (by decide) (Nat.le_of_ble_eq_true rfl) ?_
  intro p e R s m args below meth c A Q ls F hret hw hl
  have hx := xs_hx F
  have hb := xs_hb F
  have hl : lv_has ls 9 [(0, .ref (q 30)), (1, .int dr)] := hl
  refine lv_iload_n hx hb dX7_cover_0 rfl (lv_at hl 1 rfl) ?_
  refine x_fSI (rest := []) (c_X7_isDrawing l D k (wM k q S X) dr) mo_X7_74 F hw (Nat.le_of_ble_eq_true rfl) (x_cs F (Nat.le_of_ble_eq_true rfl) (Nat.le_of_ble_eq_true rfl)) rfl rfl hl.1 (Nat.le_of_ble_eq_true rfl) dX7_cover_1 (fun H locs hw => ?_)
  refine lv_if_ne (tgt := 10) hx hb dX7_cover_4 rfl (fun c4 => ?_) (fun c4 => ?_)
  · refine lv_iconst (v := nI 0) hx hb dX7_cover_10 rfl ?_
    refine lv_istore_n (lv' := [(2, .int (nI 0)), (0, .ref (q 30)), (1, .int dr)]) hx hb dX7_cover_11 rfl hl (Nat.le_of_ble_eq_true rfl) rfl (fun ls hl => ?_)
    refine lv_iconst (v := nI 0) hx hb dX7_cover_12 rfl ?_
    refine lv_istore_n (lv' := [(3, .int (nI 0)), (2, .int (nI 0)), (0, .ref (q 30)), (1, .int dr)]) hx hb dX7_cover_13 rfl hl (Nat.le_of_ble_eq_true rfl) rfl (fun ls hl => ?_)
    have K14 : ∀ (n14_ : Nat) (i : Nat) (x : Int32) (H : Heap) (locs : List Loc) (ls : Array Slot), 8 - i < n14_ → (i ≤ 8) → (x = orB (fun j => stk dr j != 0) i) → Wd D A s.heap H locs (wM k q S X) → lv_has ls 9 [(0, .ref (q 30)), (1, .int dr), (2, .int x), (3, .int (nI i))] → W p l e R s m args below meth c H locs 0 0 Q (F0 m 14 ls []) := by
      intro n14_
      induction n14_ with
      | zero =>
        intro i x H locs ls hn14_
        exact absurd hn14_ (Nat.not_lt_zero _)
      | succ n14_ ih14_ =>
        intro i x H locs ls hn14_ hi h1 hw hl
        refine lv_iload_n hx hb dX7_cover_14 rfl (lv_at hl 3 rfl) ?_
        refine lv_bipush (v := nI 8) hx hb dX7_cover_15 rfl ?_
        refine x_icmp_ge i 8 F (by omega) (by omega) (tgt := 44) dX7_cover_17 rfl (fun c17 => ?_) (fun c17 => ?_)
        · refine lv_bipush (v := (-6)) hx hb dX7_cover_44 rfl ?_
          refine lv_istore_n (lv' := [(3, .int ((-6))), (0, .ref (q 30)), (1, .int dr), (2, .int x)]) hx hb dX7_cover_46 rfl hl (Nat.le_of_ble_eq_true rfl) rfl (fun ls hl => ?_)
          refine lv_iconst (v := nI 0) hx hb dX7_cover_47 rfl ?_
          refine lv_istore (lv' := [(4, .int (nI 0)), (3, .int ((-6))), (0, .ref (q 30)), (1, .int dr), (2, .int x)]) hx hb dX7_cover_48 hl (Nat.le_of_ble_eq_true rfl) rfl (fun ls hl => ?_)
          have K50 : ∀ (n50_ : Nat) (cd : Nat) (b : Int32) (H : Heap) (locs : List Loc) (ls : Array Slot), 6561 - cd < n50_ → (cd ≤ 6561) → (b = cvF S x cd) → Wd D A s.heap H locs (wM k q S X) → lv_has ls 9 [(0, .ref (q 30)), (1, .int dr), (2, .int x), (3, .int b), (4, .int (nI cd))] → W p l e R s m args below meth c H locs 0 0 Q (F0 m 50 ls []) := by
            intro n50_
            induction n50_ with
            | zero =>
              intro cd b H locs ls hn50_
              exact absurd hn50_ (Nat.not_lt_zero _)
            | succ n50_ ih50_ =>
              intro cd b H locs ls hn50_ hc h2 hw hl
              refine lv_iload hx hb dX7_cover_50 (lv_at hl 4 rfl) ?_
              refine lv_sipush (v := nI 6561) hx hb dX7_cover_52 rfl ?_
              refine x_icmp_ge cd 6561 F (by omega) (by omega) (tgt := 155) dX7_cover_55 rfl (fun c55 => ?_) (fun c55 => ?_)
              · refine lv_iload_n hx hb dX7_cover_155 rfl (lv_at hl 3 rfl) ?_
                exact hret _ _ _ _ _ _ dX7_cover_156 hw rfl ⟨rfl, by unfold m_cover; rw [if_neg c4, h2, h1, show i = 8 by omega, show cd = 6561 by omega]⟩
              · refine lv_iload hx hb dX7_cover_58 (lv_at hl 4 rfl) ?_
                refine lv_istore (lv' := [(5, .int (nI cd)), (0, .ref (q 30)), (1, .int dr), (2, .int x), (3, .int b), (4, .int (nI cd))]) hx hb dX7_cover_60 hl (Nat.le_of_ble_eq_true rfl) rfl (fun ls hl => ?_)
                refine lv_iconst (v := nI 0) hx hb dX7_cover_62 rfl ?_
                refine lv_istore (lv' := [(6, .int (nI 0)), (5, .int (nI cd)), (0, .ref (q 30)), (1, .int dr), (2, .int x), (3, .int b), (4, .int (nI cd))]) hx hb dX7_cover_63 hl (Nat.le_of_ble_eq_true rfl) rfl (fun ls hl => ?_)
                refine lv_bipush (v := nI 7) hx hb dX7_cover_65 rfl ?_
                refine lv_istore (lv' := [(7, .int (nI 7)), (6, .int (nI 0)), (5, .int (nI cd)), (0, .ref (q 30)), (1, .int dr), (2, .int x), (3, .int b), (4, .int (nI cd))]) hx hb dX7_cover_67 hl (Nat.le_of_ble_eq_true rfl) rfl (fun ls hl => ?_)
                have K69 : ∀ (n69_ : Nat) (j : Nat) (lf : Nat) (ow : Int32) (H : Heap) (locs : List Loc) (ls : Array Slot), 8 - j < n69_ → (j ≤ 8) → (lf ≤ cd) → (lf = cd / 3 ^ j) → (ow = ownF cd j) → Wd D A s.heap H locs (wM k q S X) → lv_has ls 9 [(0, .ref (q 30)), (1, .int dr), (2, .int x), (3, .int b), (4, .int (nI cd)), (5, .int (nI lf)), (6, .int ow), (7, .int (nI 7 - nI j))] → W p l e R s m args below meth c H locs 0 0 Q (F0 m 69 ls []) := by
                  intro n69_
                  induction n69_ with
                  | zero =>
                    intro j lf ow H locs ls hn69_
                    exact absurd hn69_ (Nat.not_lt_zero _)
                  | succ n69_ ih69_ =>
                    intro j lf ow H locs ls hn69_ hj hl0 h3 h4 hw hl
                    refine lv_iload hx hb dX7_cover_69 (lv_at hl 7 rfl) ?_
                    refine lv_if_lt (tgt := 117) hx hb dX7_cover_71 rfl (fun c71 => ?_) (fun c71 => ?_)
                    · have hj8 := (dn_lt j hj).mp c71
                      have e8 : ow = ownF cd 8 := h4.trans (congrArg (ownF cd) hj8)
                      refine lv_iload_n hx hb dX7_cover_117 rfl (lv_at hl 2 rfl) ?_
                      refine lv_aload_n hx hb dX7_cover_118 rfl (lv_at hl 0 rfl) ?_
                      refine lv_iload hx hb dX7_cover_119 (lv_at hl 6 rfl) ?_
                      refine x_fVI (rest := [.int x]) (c_X7_hidden l D k q S X ow) mo_X7_144 obM F hw (Nat.le_of_ble_eq_true rfl) (x_cs F (Nat.le_of_ble_eq_true rfl) (Nat.le_of_ble_eq_true rfl)) rfl rfl hl.1 (Nat.le_of_ble_eq_true rfl) dX7_cover_121 (fun H locs hw => ?_)
                      refine lv_iconst (v := (-1)) hx hb dX7_cover_124 rfl ?_
                      refine lv_ixor hx hb dX7_cover_125 ?_
                      refine lv_iand hx hb dX7_cover_126 ?_
                      refine lv_if_ne (tgt := 149) hx hb dX7_cover_127 rfl (fun c127 => ?_) (fun c127 => ?_)
                      · refine lv_iinc (v := nI (cd + 1)) (lv' := [(4, .int (nI (cd + 1))), (0, .ref (q 30)), (1, .int dr), (2, .int x), (3, .int b), (5, .int (nI lf)), (6, .int ow), (7, .int (nI 7 - nI j))]) hx hb dX7_cover_149 hl (k := 4) rfl (nI_1 _) (Nat.le_of_ble_eq_true rfl) rfl (fun ls hl => ?_)
                        refine lv_goto (tgt := 50) hx hb dX7_cover_152 rfl ?_
                        exact ih50_ (cd + 1) b _ _ _ (by first | omega | (simp only [] at *; omega)) (by first | assumption | omega | rfl) (by first | (rw [e8]; exact (cvF_y (by unfold cvB; rw [← h2]; exact bAt (beqT (by rw [← e8]; exact c127)) (bO0 (decide_eq_true c131)))).symm) | (rw [e8]; exact (cvF_y (by unfold cvB; rw [← h2]; exact bAt (beqT (by rw [← e8]; exact c127)) (bO1 (decide_eq_true (by rw [← e8]; exact c143))))).symm) | exact h2.trans (cvF_n (by unfold cvB; exact bA0 (beqF (by rw [← e8]; exact c127)))).symm | exact h2.trans (cvF_n (by unfold cvB; rw [← h2]; exact bA1 (bOf (decide_eq_false c131) (decide_eq_false (by rw [← e8]; omega))))).symm) hw (lv_sub hl [1, 2, 3, 4, 0] rfl)
                      · refine lv_iload_n hx hb dX7_cover_130 rfl (lv_at hl 3 rfl) ?_
                        refine lv_if_lt (tgt := 146) hx hb dX7_cover_131 rfl (fun c131 => ?_) (fun c131 => ?_)
                        · refine lv_iload hx hb dX7_cover_146 (lv_at hl 6 rfl) ?_
                          refine lv_istore_n (lv' := [(3, .int ow), (0, .ref (q 30)), (1, .int dr), (2, .int x), (4, .int (nI cd)), (5, .int (nI lf)), (6, .int ow), (7, .int (nI 7 - nI j))]) hx hb dX7_cover_148 rfl hl (Nat.le_of_ble_eq_true rfl) rfl (fun ls hl => ?_)
                          refine lv_iinc (v := nI (cd + 1)) (lv' := [(4, .int (nI (cd + 1))), (3, .int ow), (0, .ref (q 30)), (1, .int dr), (2, .int x), (5, .int (nI lf)), (6, .int ow), (7, .int (nI 7 - nI j))]) hx hb dX7_cover_149 hl (k := 4) rfl (nI_1 _) (Nat.le_of_ble_eq_true rfl) rfl (fun ls hl => ?_)
                          refine lv_goto (tgt := 50) hx hb dX7_cover_152 rfl ?_
                          exact ih50_ (cd + 1) ow _ _ _ (by first | omega | (simp only [] at *; omega)) (by first | assumption | omega | rfl) (by first | (rw [e8]; exact (cvF_y (by unfold cvB; rw [← h2]; exact bAt (beqT (by rw [← e8]; exact c127)) (bO0 (decide_eq_true c131)))).symm) | (rw [e8]; exact (cvF_y (by unfold cvB; rw [← h2]; exact bAt (beqT (by rw [← e8]; exact c127)) (bO1 (decide_eq_true (by rw [← e8]; exact c143))))).symm) | exact h2.trans (cvF_n (by unfold cvB; exact bA0 (beqF (by rw [← e8]; exact c127)))).symm | exact h2.trans (cvF_n (by unfold cvB; rw [← h2]; exact bA1 (bOf (decide_eq_false c131) (decide_eq_false (by rw [← e8]; omega))))).symm) hw (lv_sub hl [2, 3, 4, 1, 0] rfl)
                        · refine lv_iload hx hb dX7_cover_134 (lv_at hl 6 rfl) ?_
                          refine x_fSI (rest := []) (c_X7_ink l D k (wM k q S X) ow) mo_X7_147 F hw (Nat.le_of_ble_eq_true rfl) (x_cs F (Nat.le_of_ble_eq_true rfl) (Nat.le_of_ble_eq_true rfl)) rfl rfl hl.1 (Nat.le_of_ble_eq_true rfl) dX7_cover_136 (fun H locs hw => ?_)
                          have hk1 := inkN_le ow 8
                          refine lv_iload_n hx hb dX7_cover_139 rfl (lv_at hl 3 rfl) ?_
                          refine x_fSI (rest := [.int (nI ((inkN ow 8)))]) (c_X7_ink l D k (wM k q S X) b) mo_X7_147 F hw (Nat.le_of_ble_eq_true rfl) (x_cs F (Nat.le_of_ble_eq_true rfl) (Nat.le_of_ble_eq_true rfl)) rfl rfl hl.1 (Nat.le_of_ble_eq_true rfl) dX7_cover_140 (fun H locs hw => ?_)
                          have hk2 := inkN_le b 8
                          refine x_icmp_ge (inkN ow 8) (inkN b 8) F (by omega) (by omega) (tgt := 149) dX7_cover_143 rfl (fun c143 => ?_) (fun c143 => ?_)
                          · refine lv_iinc (v := nI (cd + 1)) (lv' := [(4, .int (nI (cd + 1))), (0, .ref (q 30)), (1, .int dr), (2, .int x), (3, .int b), (5, .int (nI lf)), (6, .int ow), (7, .int (nI 7 - nI j))]) hx hb dX7_cover_149 hl (k := 4) rfl (nI_1 _) (Nat.le_of_ble_eq_true rfl) rfl (fun ls hl => ?_)
                            refine lv_goto (tgt := 50) hx hb dX7_cover_152 rfl ?_
                            exact ih50_ (cd + 1) b _ _ _ (by first | omega | (simp only [] at *; omega)) (by first | assumption | omega | rfl) (by first | (rw [e8]; exact (cvF_y (by unfold cvB; rw [← h2]; exact bAt (beqT (by rw [← e8]; exact c127)) (bO0 (decide_eq_true c131)))).symm) | (rw [e8]; exact (cvF_y (by unfold cvB; rw [← h2]; exact bAt (beqT (by rw [← e8]; exact c127)) (bO1 (decide_eq_true (by rw [← e8]; exact c143))))).symm) | exact h2.trans (cvF_n (by unfold cvB; exact bA0 (beqF (by rw [← e8]; exact c127)))).symm | exact h2.trans (cvF_n (by unfold cvB; rw [← h2]; exact bA1 (bOf (decide_eq_false c131) (decide_eq_false (by rw [← e8]; omega))))).symm) hw (lv_sub hl [1, 2, 3, 4, 0] rfl)
                          · refine lv_iload hx hb dX7_cover_146 (lv_at hl 6 rfl) ?_
                            refine lv_istore_n (lv' := [(3, .int ow), (0, .ref (q 30)), (1, .int dr), (2, .int x), (4, .int (nI cd)), (5, .int (nI lf)), (6, .int ow), (7, .int (nI 7 - nI j))]) hx hb dX7_cover_148 rfl hl (Nat.le_of_ble_eq_true rfl) rfl (fun ls hl => ?_)
                            refine lv_iinc (v := nI (cd + 1)) (lv' := [(4, .int (nI (cd + 1))), (3, .int ow), (0, .ref (q 30)), (1, .int dr), (2, .int x), (5, .int (nI lf)), (6, .int ow), (7, .int (nI 7 - nI j))]) hx hb dX7_cover_149 hl (k := 4) rfl (nI_1 _) (Nat.le_of_ble_eq_true rfl) rfl (fun ls hl => ?_)
                            refine lv_goto (tgt := 50) hx hb dX7_cover_152 rfl ?_
                            exact ih50_ (cd + 1) ow _ _ _ (by first | omega | (simp only [] at *; omega)) (by first | assumption | omega | rfl) (by first | (rw [e8]; exact (cvF_y (by unfold cvB; rw [← h2]; exact bAt (beqT (by rw [← e8]; exact c127)) (bO0 (decide_eq_true c131)))).symm) | (rw [e8]; exact (cvF_y (by unfold cvB; rw [← h2]; exact bAt (beqT (by rw [← e8]; exact c127)) (bO1 (decide_eq_true (by rw [← e8]; exact c143))))).symm) | exact h2.trans (cvF_n (by unfold cvB; exact bA0 (beqF (by rw [← e8]; exact c127)))).symm | exact h2.trans (cvF_n (by unfold cvB; rw [← h2]; exact bA1 (bOf (decide_eq_false c131) (decide_eq_false (by rw [← e8]; omega))))).symm) hw (lv_sub hl [2, 3, 4, 1, 0] rfl)
                    · have hj8 : ¬ j = 8 := fun q => c71 ((dn_lt j hj).mpr q)
                      refine lv_iload hx hb dX7_cover_74 (lv_at hl 5 rfl) ?_
                      refine lv_iconst (v := nI 3) hx hb dX7_cover_76 rfl ?_
                      refine lv_irem hx hb dX7_cover_77 (by decide) ?_
                      refine x_top (y := nI (lf % 3)) (pk_rem (by omega) (by omega) (by omega)) ?_
                      refine lv_istore (lv' := [(8, .int (nI (lf % 3))), (0, .ref (q 30)), (1, .int dr), (2, .int x), (3, .int b), (4, .int (nI cd)), (5, .int (nI lf)), (6, .int ow), (7, .int (nI 7 - nI j))]) hx hb dX7_cover_78 hl (Nat.le_of_ble_eq_true rfl) rfl (fun ls hl => ?_)
                      refine lv_iload hx hb dX7_cover_80 (lv_at hl 7 rfl) ?_
                      refine lv_iload hx hb dX7_cover_82 (lv_at hl 0 rfl) ?_
                      refine lv_iconst (v := nI 2) hx hb dX7_cover_84 rfl ?_
                      have K94 : ∀ (a : Nat) (H : Heap) (locs : List Loc) (ls : Array Slot), (a = k3 (cd / 3 ^ j % 3)) → Wd D A s.heap H locs (wM k q S X) → lv_has ls 9 [(0, .ref (q 30)), (1, .int dr), (2, .int x), (3, .int b), (4, .int (nI cd)), (5, .int (nI lf)), (6, .int ow), (7, .int (nI 7 - nI j)), (8, .int (nI (lf % 3)))] → W p l e R s m args below meth c H locs 0 0 Q (F0 m 94 ls [.int (nI a), .int ow]) := by
                        intro a H locs ls h94 hw hl
                        refine lv_bipush (v := nI 14) hx hb dX7_cover_94 rfl ?_
                        refine lv_iconst (v := nI 2) hx hb dX7_cover_96 rfl ?_
                        refine lv_iload hx hb dX7_cover_97 (lv_at hl 7 rfl) ?_
                        refine lv_imul hx hb dX7_cover_99 ?_
                        refine lv_isub hx hb dX7_cover_100 ?_
                        refine x_top (y := nI (2 * j)) (dn_sh j (by omega)) ?_
                        refine lv_ishl hx hb dX7_cover_101 ?_
                        refine lv_ior hx hb dX7_cover_102 ?_
                        refine lv_istore (lv' := [(6, .int (ow ||| ((nI a) <<< ((nI (2 * j)) &&& 31)))), (0, .ref (q 30)), (1, .int dr), (2, .int x), (3, .int b), (4, .int (nI cd)), (5, .int (nI lf)), (7, .int (nI 7 - nI j)), (8, .int (nI (lf % 3)))]) hx hb dX7_cover_103 hl (Nat.le_of_ble_eq_true rfl) rfl (fun ls hl => ?_)
                        refine lv_iload hx hb dX7_cover_105 (lv_at hl 6 rfl) ?_
                        refine lv_iconst (v := nI 3) hx hb dX7_cover_107 rfl ?_
                        refine lv_idiv hx hb dX7_cover_108 (by decide) ?_
                        refine x_top (y := nI (lf / 3)) (pk_div (by omega) (by omega) (by omega)) ?_
                        refine lv_istore (lv' := [(5, .int (nI (lf / 3))), (6, .int (ow ||| ((nI a) <<< ((nI (2 * j)) &&& 31)))), (0, .ref (q 30)), (1, .int dr), (2, .int x), (3, .int b), (4, .int (nI cd)), (7, .int (nI 7 - nI j)), (8, .int (nI (lf % 3)))]) hx hb dX7_cover_109 hl (Nat.le_of_ble_eq_true rfl) rfl (fun ls hl => ?_)
                        refine lv_iinc (v := nI 7 - nI (j + 1)) (lv' := [(7, .int (nI 7 - nI (j + 1))), (5, .int (nI (lf / 3))), (6, .int (ow ||| ((nI a) <<< ((nI (2 * j)) &&& 31)))), (0, .ref (q 30)), (1, .int dr), (2, .int x), (3, .int b), (4, .int (nI cd)), (8, .int (nI (lf % 3)))]) hx hb dX7_cover_111 hl (k := 7) rfl (dn_st j (by omega)) (Nat.le_of_ble_eq_true rfl) rfl (fun ls hl => ?_)
                        refine lv_goto (tgt := 69) hx hb dX7_cover_114 rfl ?_
                        exact ih69_ (j + 1) (lf / 3) (ow ||| ((nI a) <<< ((nI (2 * j)) &&& 31))) _ _ _ (by first | omega | (simp only [] at *; omega)) (by first | assumption | omega | rfl) (by exact Nat.le_trans (Nat.div_le_self _ _) hl0) (by rw [h3, Nat.div_div_eq_div_mul, Nat.pow_succ]) (by rw [h94, h4]; rfl) hw (lv_sub hl [3, 4, 5, 6, 7, 1, 2, 0] rfl)
                      refine x_icmp_ne (lf % 3) 2 F (by omega) (by omega) (tgt := 92) dX7_cover_85 rfl (fun c85 => ?_) (fun c85 => ?_)
                      · refine lv_iload hx hb dX7_cover_92 (lv_at hl 0 rfl) ?_
                        exact K94 (lf % 3) _ _ _ (by rw [← h3]; first | exact (if_pos c85).symm | exact (if_neg c85).symm) hw (lv_sub hl [1, 2, 3, 4, 5, 6, 7, 8, 0] rfl)
                      · refine lv_iconst (v := nI 3) hx hb dX7_cover_88 rfl ?_
                        refine lv_goto (tgt := 94) hx hb dX7_cover_89 rfl ?_
                        exact K94 3 _ _ _ (by rw [← h3]; first | exact (if_pos c85).symm | exact (if_neg c85).symm) hw (lv_sub hl [1, 2, 3, 4, 5, 6, 7, 8, 0] rfl)
                exact K69 _ 0 cd (nI 0) _ _ _ (Nat.lt_succ_self _) (by first | assumption | omega | rfl) (by omega) (by simp) (by rfl) hw (lv_sub hl [3, 4, 5, 6, 7, 2, 1, 0] rfl)
          exact K50 _ 0 (-6) _ _ _ (Nat.lt_succ_self _) (by first | assumption | omega | rfl) (by rfl) hw (lv_sub hl [2, 3, 4, 1, 0] rfl)
        · refine lv_iload_n hx hb dX7_cover_20 rfl (lv_at hl 2 rfl) ?_
          refine lv_iload_n hx hb dX7_cover_21 rfl (lv_at hl 1 rfl) ?_
          refine lv_iload_n hx hb dX7_cover_22 rfl (lv_at hl 3 rfl) ?_
          refine x_fSI (rest := [.int x]) (c_X7_strokeOf l D k (wM k q S X) dr i (by first | assumption | omega)) mo_X7_104 F hw (Nat.le_of_ble_eq_true rfl) (x_cs F (Nat.le_of_ble_eq_true rfl) (Nat.le_of_ble_eq_true rfl)) rfl rfl hl.1 (Nat.le_of_ble_eq_true rfl) dX7_cover_23 (fun H locs hw => ?_)
          have := stk_lt dr i
          refine lv_if_le (tgt := 35) hx hb dX7_cover_26 rfl (fun c26 => ?_) (fun c26 => ?_)
          · refine lv_iconst (v := nI 0) hx hb dX7_cover_35 rfl ?_
            refine lv_ior hx hb dX7_cover_36 ?_
            refine lv_istore_n (lv' := [(2, .int (x ||| (nI 0))), (0, .ref (q 30)), (1, .int dr), (3, .int (nI i))]) hx hb dX7_cover_37 rfl hl (Nat.le_of_ble_eq_true rfl) rfl (fun ls hl => ?_)
            refine lv_iinc (v := nI (i + 1)) (lv' := [(3, .int (nI (i + 1))), (2, .int (x ||| (nI 0))), (0, .ref (q 30)), (1, .int dr)]) hx hb dX7_cover_38 hl (k := 3) rfl (nI_1 _) (Nat.le_of_ble_eq_true rfl) rfl (fun ls hl => ?_)
            refine lv_goto (tgt := 14) hx hb dX7_cover_41 rfl ?_
            exact ih14_ (i + 1) (x ||| (nI 0)) _ _ _ (by first | omega | (simp only [] at *; omega)) (by first | assumption | omega | rfl) (by rw [h1]; first | (rw [or_0]; refine (orB_n ?_).symm; exact stk_le0 c26) | (refine (orB_y ?_).symm; exact stk_nle0 c26)) hw (lv_sub hl [2, 3, 1, 0] rfl)
          · refine lv_iconst (v := nI 1) hx hb dX7_cover_29 rfl ?_
            refine lv_iload_n hx hb dX7_cover_30 rfl (lv_at hl 3 rfl) ?_
            refine lv_ishl hx hb dX7_cover_31 ?_
            refine lv_goto (tgt := 36) hx hb dX7_cover_32 rfl ?_
            refine lv_ior hx hb dX7_cover_36 ?_
            refine lv_istore_n (lv' := [(2, .int (x ||| ((nI 1) <<< ((nI i) &&& 31)))), (0, .ref (q 30)), (1, .int dr), (3, .int (nI i))]) hx hb dX7_cover_37 rfl hl (Nat.le_of_ble_eq_true rfl) rfl (fun ls hl => ?_)
            refine lv_iinc (v := nI (i + 1)) (lv' := [(3, .int (nI (i + 1))), (2, .int (x ||| ((nI 1) <<< ((nI i) &&& 31)))), (0, .ref (q 30)), (1, .int dr)]) hx hb dX7_cover_38 hl (k := 3) rfl (nI_1 _) (Nat.le_of_ble_eq_true rfl) rfl (fun ls hl => ?_)
            refine lv_goto (tgt := 14) hx hb dX7_cover_41 rfl ?_
            exact ih14_ (i + 1) (x ||| ((nI 1) <<< ((nI i) &&& 31))) _ _ _ (by first | omega | (simp only [] at *; omega)) (by first | assumption | omega | rfl) (by rw [h1]; first | (rw [or_0]; refine (orB_n ?_).symm; exact stk_le0 c26) | (refine (orB_y ?_).symm; exact stk_nle0 c26)) hw (lv_sub hl [2, 3, 1, 0] rfl)
    exact K14 _ 0 (nI 0) _ _ _ (Nat.lt_succ_self _) (by first | assumption | omega | rfl) (by rfl) hw (lv_sub hl [2, 3, 1, 0] rfl)
  · refine lv_bipush (v := (-2)) hx hb dX7_cover_7 rfl ?_
    exact hret _ _ _ _ _ _ dX7_cover_9 hw rfl ⟨rfl, by unfold m_cover; rw [if_pos c4]⟩
