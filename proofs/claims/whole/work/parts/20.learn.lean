/-! ===== room for the trees; learning them ===== -/
def mst (n : Nat) : Nat := (n + 1) ^ (n - 1)
theorem mst_le : ∀ n, n ≤ 6 → 1 ≤ mst n ∧ mst n ≤ 16807 := by decide
def mkP (S : St) (q z : Nat → Nat) (g : Nat → Option Nat) (k : Nat → ClassId) (X : va_W) (n : Nat) (w' : va_W) : Prop := ∃ (z' : Nat → Nat) (f20 f21 : Nat → Int32), w' = wC k q z' g (va_up (va_up S 20 f20) 21 f21) X ∧ mst n ≤ z' 0 ∧ z' 1 = z' 0 ∧ z' 0 ≤ 16807
set_option maxHeartbeats 4000000 in
set_option maxRecDepth 20000 in
theorem c_X5_makeRoom (l : Launch) (D : va_G) (k : Nat → ClassId) (q z : Nat → Nat) (g : Nat → Option Nat) (S : St) (X : va_W) (pn : Nat) (h6 : pn ≤ 6) (hz : z 1 = z 0) (hz9 : z 0 ≤ 16807) : CV l D k yX5_makeRoom cX5_makeRoom 4 0 2 33614 [.ref (q 19), .int (nI pn)] (wC k q z g S X) (mkP S q z g k X pn) := by
  refine CV.mk (by decide) (Nat.le_of_ble_eq_true rfl) ?_
  intro p e R s m args below meth c A Q ls F hnm hret hw hl
  have hx := xs_hx F
  have hb := xs_hb F
  have hl : lv_has ls 4 [(0, .ref (q 19)), (1, .int (nI pn))] := hl
  have hz31 : z 0 < 2 ^ 31 := by omega
  refine lv_iconst (v := nI 1) hx hb dX5_makeRoom_0 rfl ?_
  refine lv_istore_n (lv' := [(2, .int (nI 1)), (0, .ref (q 19)), (1, .int (nI pn))]) hx hb dX5_makeRoom_1 rfl hl (Nat.le_of_ble_eq_true rfl) rfl (fun ls hl => ?_)
  refine lv_iconst (v := nI 1) hx hb dX5_makeRoom_2 rfl ?_
  refine lv_istore_n (lv' := [(3, .int (nI 1)), (2, .int (nI 1)), (0, .ref (q 19)), (1, .int (nI pn))]) hx hb dX5_makeRoom_3 rfl hl (Nat.le_of_ble_eq_true rfl) rfl (fun ls hl => ?_)
  have K4 : ∀ (n4_ : Nat) (i : Nat) (x : Nat) (H : Heap) (locs : List Loc) (ls : Array Slot), pn - i < n4_ → (i ≤ pn - 1) → (x = (pn + 1) ^ i) → Wd D A s.heap H locs (wC k q z g S X) → lv_has ls 4 [(0, .ref (q 19)), (1, .int (nI pn)), (2, .int (nI x)), (3, .int (nI (i + 1)))] → W p l e R s m args below meth c H locs 0 0 Q (F0 m 4 ls []) := by
    intro n4_
    induction n4_ with
    | zero =>
      intro i x H locs ls hn4_
      exact absurd hn4_ (Nat.not_lt_zero _)
    | succ n4_ ih4_ =>
      intro i x H locs ls hn4_ hi h1 hw hl
      refine lv_iload_n hx hb dX5_makeRoom_4 rfl (lv_at hl 3 rfl) ?_
      refine lv_iload_n hx hb dX5_makeRoom_5 rfl (lv_at hl 1 rfl) ?_
      refine x_icmp_ge (i + 1) pn F (by omega) (by omega) (tgt := 21) dX5_makeRoom_6 rfl (fun c6 => ?_) (fun c6 => ?_)
      · have hx2 : x = mst pn := by rw [h1, show i = pn - 1 by omega]; rfl
        have hm := mst_le pn h6
        refine lv_aload_n hx hb dX5_makeRoom_21 rfl (lv_at hl 0 rfl) ?_
        refine x_getr frC_19_2 F hw fo_X5_9 dX5_makeRoom_22 ?_
        refine x_alen (aiC_20 (by omega)) F hw dX5_makeRoom_25 ?_
        refine lv_iload_n hx hb dX5_makeRoom_26 rfl (lv_at hl 2 rfl) ?_
        refine x_icmp_ge (z 0) x F (by omega) (by omega) (tgt := 44) dX5_makeRoom_27 rfl (fun c27 => ?_) (fun c27 => ?_)
        · refine W.widen (k := 2) (n := 33614) (by omega) (by omega) ?_
          exact hret _ _ _ _ _ dX5_makeRoom_44 hw (by first | exact ⟨_, _, _, rfl, (by show mst pn ≤ x; omega), rfl, (by show x ≤ 16807; omega)⟩ | exact ⟨z, S 20, S 21, rfl, (by omega), hz, hz9⟩)
        · refine lv_aload_n hx hb dX5_makeRoom_30 rfl (lv_at hl 0 rfl) ?_
          refine lv_iload_n hx hb dX5_makeRoom_31 rfl (lv_at hl 2 rfl) ?_
          refine x_newi x F w_acI hw rfl (by omega) (x_cs F (by omega) (by omega)) dX5_makeRoom_32 (fun a1 H hw => ?_)
          refine x_put 20 rfl (Nat.le_of_ble_eq_true rfl) F hw fo_X5_9 rfl rfl dX5_makeRoom_34 (fun H locs hw => ?_)
          have hw : Wd D A s.heap H locs (wC k q (va_up (va_up z 0 x) 2 a1) g (va_up S 20 (fun _ => 0)) X) := hw.repl 20
          refine lv_aload_n hx hb dX5_makeRoom_37 rfl (lv_at hl 0 rfl) ?_
          refine lv_iload_n hx hb dX5_makeRoom_38 rfl (lv_at hl 2 rfl) ?_
          refine x_newi x F w_acI hw rfl (by omega) (x_cs F (by omega) (by omega)) dX5_makeRoom_39 (fun a2 H hw => ?_)
          refine x_put 20 rfl (Nat.le_of_ble_eq_true rfl) F hw fo_X5_15 rfl rfl dX5_makeRoom_41 (fun H locs hw => ?_)
          have hw : Wd D A s.heap H locs (wC k q (va_up (va_up (va_up (va_up z 0 x) 2 a1) 1 x) 3 a2) g (va_up (va_up S 20 (fun _ => 0)) 21 (fun _ => 0)) X) := hw.repl 21
          refine W.widen (k := 2) (n := 33614) (by omega) (by omega) ?_
          exact hret _ _ _ _ _ dX5_makeRoom_44 hw (by first | exact ⟨_, _, _, rfl, (by show mst pn ≤ x; omega), rfl, (by show x ≤ 16807; omega)⟩ | exact ⟨z, S 20, S 21, rfl, (by omega), hz, hz9⟩)
      · refine lv_iload_n hx hb dX5_makeRoom_9 rfl (lv_at hl 2 rfl) ?_
        refine lv_iload_n hx hb dX5_makeRoom_10 rfl (lv_at hl 1 rfl) ?_
        refine lv_iconst (v := nI 1) hx hb dX5_makeRoom_11 rfl ?_
        refine lv_iadd hx hb dX5_makeRoom_12 ?_
        refine x_top (y := nI (pn + 1)) (nI_add _ _) ?_
        refine lv_imul hx hb dX5_makeRoom_13 ?_
        refine x_top (y := nI (x * (pn + 1))) (pk_mul _ _) ?_
        refine lv_istore_n (lv' := [(2, .int (nI (x * (pn + 1)))), (0, .ref (q 19)), (1, .int (nI pn)), (3, .int (nI (i + 1)))]) hx hb dX5_makeRoom_14 rfl hl (Nat.le_of_ble_eq_true rfl) rfl (fun ls hl => ?_)
        refine lv_iinc (v := nI (i + 1 + 1)) (lv' := [(3, .int (nI (i + 1 + 1))), (2, .int (nI (x * (pn + 1)))), (0, .ref (q 19)), (1, .int (nI pn))]) hx hb dX5_makeRoom_15 hl (k := 3) rfl (nI_1 _) (Nat.le_of_ble_eq_true rfl) rfl (fun ls hl => ?_)
        refine lv_goto (tgt := 4) hx hb dX5_makeRoom_18 rfl ?_
        exact ih4_ (i + 1) (x * (pn + 1)) _ _ _ (by first | omega | (simp only [] at *; omega)) (by first | assumption | omega | rfl) (by rw [h1, Nat.pow_succ]) hw (lv_sub hl [2, 3, 1, 0] rfl)
  exact K4 _ 0 1 _ _ _ (Nat.lt_succ_self _) (by first | assumption | omega | rfl) (by rfl) hw (lv_sub hl [2, 3, 1, 0] rfl)
