/-! ===== the album: pure words ===== -/
def picN (S : St) : Nat := (S 40 0).toNatClampNeg
def okP (S : St) : Prop := S 40 0 = nI (picN S) ∧ picN S ≤ 6
def slC (S : St) (a b : Nat) : Int32 := S (8 + a) b
def costF (sl : Nat → Nat → Int32) (d1 d2 : Int32) : Nat → Int32
  | 0 => nI 0
  | n + 1 => costF sl d1 d2 n + sl (stk d1 n) (stk d2 n)
def sumIf (o : Int32) (f : Nat → Int32) (x0 : Int32) : Nat → Int32
  | 0 => x0
  | n + 1 => if hbt o n then sumIf o f x0 n + f n else sumIf o f x0 n
/-- the place of the least of f 0 .. f m, the first of several -/
def amin (f : Nat → Int32) : Nat → Nat
  | 0 => 0
  | m + 1 => if f (m + 1) < f (amin f m) then m + 1 else amin f m
theorem amin_le (f : Nat → Int32) : ∀ m, amin f m ≤ m
  | 0 => Nat.le_refl _
  | m + 1 => by
    unfold amin
    have := amin_le f m
    split <;> omega
/-- what a stroke of a lost drawing costs: from the picture (or none), to the others -/
def lscF (sl : Nat → Nat → Int32) (dr : Nat → Int32) (n : Nat) (pi o : Int32) (sk kd : Nat) : Int32 :=
  sumIf o (fun p => sl kd (stk (dr p) sk)) (if 0 ≤ pi then sl (stk (dr pi.toNatClampNeg) sk) kd else nI 0) n
def ldN (sl : Nat → Nat → Int32) (dr : Nat → Int32) (n : Nat) (pi o : Int32) : Nat → Nat
  | 0 => 0
  | s + 1 => ldN sl dr n pi o s * 4 + amin (lscF sl dr n pi o s) 3
def thrF (sl : Nat → Nat → Int32) (dr : Nat → Int32) (n : Nat) (nw pi : Int32) (d o : Int32) : Int32 :=
  sumIf o (fun p => costF sl d (dr p) 8) (if 0 ≤ pi then costF sl (dr pi.toNatClampNeg) d 8 else nw) n
def strF (sl : Nat → Nat → Int32) (dr : Nat → Int32) (n : Nat) (nw pi : Int32) (o : Int32) : Int32 :=
  sumIf o (fun p => if 0 ≤ pi then costF sl (dr pi.toNatClampNeg) (dr p) 8 else nw) (nI 0) n
def hidF (pl th : Nat → Int32) (d : Int32) : Nat → Int32
  | 0 => nI 0
  | n + 1 => if stk d n = 3 then hidF pl th d n ||| th n else if stk d n = 0 then hidF pl th d n else hidF pl th d n ||| pl n
theorem nn_of {x : Int32} (h : 0 ≤ x) : x = nI x.toNatClampNeg := by
  obtain ⟨j, hj, e⟩ := nI_of (x := x) (fun q => absurd h (Int32.not_le.mpr q))
  rw [e, nI_clamp hj]
theorem b01_1 {b : Bool} : ¬ b01 b = 0 ↔ b = true := by cases b <;> decide
theorem sumIf_y {o : Int32} {f : Nat → Int32} {x0 : Int32} {n : Nat} (h : hbt o n = true) : sumIf o f x0 (n + 1) = sumIf o f x0 n + f n := if_pos h
theorem sumIf_n {o : Int32} {f : Nat → Int32} {x0 : Int32} {n : Nat} (h : hbt o n = false) : sumIf o f x0 (n + 1) = sumIf o f x0 n := if_neg (by rw [h]; decide)
def haP (S : St) (pi : Int32) : Int32 := b01 (decide (0 ≤ pi ∧ pi < S 40 0))
set_option maxHeartbeats 4000000 in
set_option maxRecDepth 20000 in
theorem c_X1_hasPicture (l : Launch) (D : va_G) (k : Nat → ClassId) (q z : Nat → Nat) (g : Nat → Option Nat) (S : St) (X : va_W) (pi : Int32) : CI l D k yX1_hasPicture cX1_hasPicture 2 (some .boolean) 0 0 0 [.ref (q 2), .int pi] (wC k q z g S X) (fun r w' => w' = wC k q z g S X ∧ r = haP S pi) := by
  refine CI.mk (by decide) (Nat.le_of_ble_eq_true rfl) ?_
  intro p e R s m args below meth c A Q ls F hret hw hl
  have hx := xs_hx F
  have hb := xs_hb F
  have hl : lv_has ls 2 [(0, .ref (q 2)), (1, .int pi)] := hl
  refine lv_iload_n hx hb dX1_hasPicture_0 rfl (lv_at hl 1 rfl) ?_
  refine lv_if_lt (tgt := 16) hx hb dX1_hasPicture_1 rfl (fun c1 => ?_) (fun c1 => ?_)
  · refine lv_iconst (v := nI 0) hx hb dX1_hasPicture_16 rfl ?_
    exact hret _ _ _ _ _ _ dX1_hasPicture_17 hw rfl ⟨rfl, by unfold haP; first | (rw [show decide (0 ≤ pi ∧ pi < S 40 0) = false from decide_eq_false (fun q => absurd q.2 (Int32.not_lt.mpr c9))]; rfl) | (rw [show decide (0 ≤ pi ∧ pi < S 40 0) = false from decide_eq_false (fun q => absurd q.1 (Int32.not_le.mpr c1))]; rfl) | (rw [show decide (0 ≤ pi ∧ pi < S 40 0) = true from decide_eq_true ⟨Int32.not_lt.mp c1, Int32.not_le.mp c9⟩]; rfl)⟩
  · refine lv_iload_n hx hb dX1_hasPicture_4 rfl (lv_at hl 1 rfl) ?_
    refine lv_aload_n hx hb dX1_hasPicture_5 rfl (lv_at hl 0 rfl) ?_
    refine x_geti fiC_40 F hw fo_X1_44 dX1_hasPicture_6 ?_
    refine lv_icmp_ge (tgt := 16) hx hb dX1_hasPicture_9 rfl (fun c9 => ?_) (fun c9 => ?_)
    · refine lv_iconst (v := nI 0) hx hb dX1_hasPicture_16 rfl ?_
      exact hret _ _ _ _ _ _ dX1_hasPicture_17 hw rfl ⟨rfl, by unfold haP; first | (rw [show decide (0 ≤ pi ∧ pi < S 40 0) = false from decide_eq_false (fun q => absurd q.2 (Int32.not_lt.mpr c9))]; rfl) | (rw [show decide (0 ≤ pi ∧ pi < S 40 0) = false from decide_eq_false (fun q => absurd q.1 (Int32.not_le.mpr c1))]; rfl) | (rw [show decide (0 ≤ pi ∧ pi < S 40 0) = true from decide_eq_true ⟨Int32.not_lt.mp c1, Int32.not_le.mp c9⟩]; rfl)⟩
    · refine lv_iconst (v := nI 1) hx hb dX1_hasPicture_12 rfl ?_
      refine lv_goto (tgt := 17) hx hb dX1_hasPicture_13 rfl ?_
      exact hret _ _ _ _ _ _ dX1_hasPicture_17 hw rfl ⟨rfl, by unfold haP; first | (rw [show decide (0 ≤ pi ∧ pi < S 40 0) = false from decide_eq_false (fun q => absurd q.2 (Int32.not_lt.mpr c9))]; rfl) | (rw [show decide (0 ≤ pi ∧ pi < S 40 0) = false from decide_eq_false (fun q => absurd q.1 (Int32.not_le.mpr c1))]; rfl) | (rw [show decide (0 ≤ pi ∧ pi < S 40 0) = true from decide_eq_true ⟨Int32.not_lt.mp c1, Int32.not_le.mp c9⟩]; rfl)⟩
set_option maxHeartbeats 4000000 in
set_option maxRecDepth 20000 in
theorem c_X1_addPicture (l : Launch) (D : va_G) (k : Nat → ClassId) (q z : Nat → Nat) (g : Nat → Option Nat) (S : St) (X : va_W) (dr : Int32) (lo : Int32) (hi : Int32) (hP : S 40 0 = nI (picN S)) (h5 : picN S < 6) : CI l D k yX1_addPicture cX1_addPicture 5 (some .int) 0 0 0 [.ref (q 2), .int dr, .int lo, .int hi] (wC k q z g S X) (fun r w' => w' = wC k q z g (va_up (va_up (va_up (va_up (va_up S 3 (upd (S 3) (picN S) dr)) 4 (upd (S 4) (picN S) lo)) 5 (upd (S 5) (picN S) hi)) 6 (upd (S 6) (picN S) (nI 0))) 40 (fun _ => nI (picN S + 1))) X ∧ r = nI (picN S)) := by
  refine CI.mk (by decide) (Nat.le_of_ble_eq_true rfl) ?_
  intro p e R s m args below meth c A Q ls F hret hw hl
  have hx := xs_hx F
  have hb := xs_hb F
  have hl : lv_has ls 5 [(0, .ref (q 2)), (1, .int dr), (2, .int lo), (3, .int hi)] := hl
  refine lv_aload_n hx hb dX1_addPicture_0 rfl (lv_at hl 0 rfl) ?_
  refine x_geti fiC_40 F hw fo_X1_44 dX1_addPicture_1 ?_
  refine x_top (y := nI (picN S)) hP ?_
  refine lv_istore (lv' := [(4, .int (nI (picN S))), (0, .ref (q 2)), (1, .int dr), (2, .int lo), (3, .int hi)]) hx hb dX1_addPicture_4 hl (Nat.le_of_ble_eq_true rfl) rfl (fun ls hl => ?_)
  refine lv_aload_n hx hb dX1_addPicture_6 rfl (lv_at hl 1 rfl) ?_
  refine x_getr frC_2_2 F hw fo_X1_9 dX1_addPicture_7 ?_
  refine lv_iload hx hb dX1_addPicture_10 (lv_at hl 0 rfl) ?_
  refine lv_iload_n hx hb dX1_addPicture_12 rfl (lv_at hl 2 rfl) ?_
  refine x_iast aiC_3 F hw (picN S) rfl (by omega) dX1_addPicture_13 (fun H locs hw => ?_)
  refine lv_aload_n hx hb dX1_addPicture_14 rfl (lv_at hl 1 rfl) ?_
  refine x_getr frC_2_3 F hw fo_X1_15 dX1_addPicture_15 ?_
  refine lv_iload hx hb dX1_addPicture_18 (lv_at hl 0 rfl) ?_
  refine lv_iload_n hx hb dX1_addPicture_20 rfl (lv_at hl 3 rfl) ?_
  refine x_iast aiC_4 F hw (picN S) rfl (by omega) dX1_addPicture_21 (fun H locs hw => ?_)
  refine lv_aload_n hx hb dX1_addPicture_22 rfl (lv_at hl 1 rfl) ?_
  refine x_getr frC_2_4 F hw fo_X1_18 dX1_addPicture_23 ?_
  refine lv_iload hx hb dX1_addPicture_26 (lv_at hl 0 rfl) ?_
  refine lv_iload_n hx hb dX1_addPicture_28 rfl (lv_at hl 4 rfl) ?_
  refine x_iast aiC_5 F hw (picN S) rfl (by omega) dX1_addPicture_29 (fun H locs hw => ?_)
  refine lv_aload_n hx hb dX1_addPicture_30 rfl (lv_at hl 1 rfl) ?_
  refine x_getr frC_2_5 F hw fo_X1_21 dX1_addPicture_31 ?_
  refine lv_iload hx hb dX1_addPicture_34 (lv_at hl 0 rfl) ?_
  refine lv_iconst (v := nI 0) hx hb dX1_addPicture_36 rfl ?_
  refine x_iast aiC_6 F hw (picN S) rfl (by omega) dX1_addPicture_37 (fun H locs hw => ?_)
  refine lv_aload_n hx hb dX1_addPicture_38 rfl (lv_at hl 1 rfl) ?_
  refine lv_dup hx hb dX1_addPicture_39 rfl ?_
  refine x_geti fiC_40 F hw fo_X1_44 dX1_addPicture_40 ?_
  refine x_top (y := S 40 0) rfl ?_
  refine x_top (y := nI (picN S)) hP ?_
  refine lv_iconst (v := nI 1) hx hb dX1_addPicture_43 rfl ?_
  refine lv_iadd hx hb dX1_addPicture_44 ?_
  refine x_top (y := nI ((picN S) + 1)) (nI_add _ _) ?_
  refine x_puti fiC_40 F hw fo_X1_44 rfl rfl dX1_addPicture_45 (fun H locs hw => ?_)
  refine lv_iload hx hb dX1_addPicture_48 (lv_at hl 0 rfl) ?_
  exact hret _ _ _ _ _ _ dX1_addPicture_50 hw rfl ⟨rfl, rfl⟩
set_option maxHeartbeats 4000000 in
set_option maxRecDepth 20000 in
theorem c_X1_widthOrNone (l : Launch) (D : va_G) (k : Nat → ClassId) (q z : Nat → Nat) (g : Nat → Option Nat) (S : St) (X : va_W) (pn : Nat) (hp : pn < 6) : CI l D k yX1_widthOrNone cX1_widthOrNone 2 (some .int) 0 0 0 [.ref (q 2), .int (nI pn)] (wC k q z g S X) (fun r w' => w' = wC k q z g S X ∧ r = (if S 6 pn = 0 then (-6) else S 6 pn)) := by
  refine CI.mk (by decide) (Nat.le_of_ble_eq_true rfl) ?_
  intro p e R s m args below meth c A Q ls F hret hw hl
  have hx := xs_hx F
  have hb := xs_hb F
  have hl : lv_has ls 2 [(0, .ref (q 2)), (1, .int (nI pn))] := hl
  refine lv_aload_n hx hb dX1_widthOrNone_0 rfl (lv_at hl 0 rfl) ?_
  refine x_getr frC_2_5 F hw fo_X1_21 dX1_widthOrNone_1 ?_
  refine lv_iload_n hx hb dX1_widthOrNone_4 rfl (lv_at hl 1 rfl) ?_
  refine x_iald aiC_6 F hw pn rfl (by omega) dX1_widthOrNone_5 ?_
  refine lv_if_ne (tgt := 14) hx hb dX1_widthOrNone_6 rfl (fun c6 => ?_) (fun c6 => ?_)
  · refine lv_aload_n hx hb dX1_widthOrNone_14 rfl (lv_at hl 0 rfl) ?_
    refine x_getr frC_2_5 F hw fo_X1_21 dX1_widthOrNone_15 ?_
    refine lv_iload_n hx hb dX1_widthOrNone_18 rfl (lv_at hl 1 rfl) ?_
    refine x_iald aiC_6 F hw pn rfl (by omega) dX1_widthOrNone_19 ?_
    exact hret _ _ _ _ _ _ dX1_widthOrNone_20 hw rfl ⟨rfl, by simp [c6]⟩
  · refine lv_bipush (v := (-6)) hx hb dX1_widthOrNone_9 rfl ?_
    refine lv_goto (tgt := 20) hx hb dX1_widthOrNone_11 rfl ?_
    exact hret _ _ _ _ _ _ dX1_widthOrNone_20 hw rfl ⟨rfl, by simp [c6]⟩
set_option maxHeartbeats 4000000 in
set_option maxRecDepth 20000 in
theorem c_X1_tracingCost (l : Launch) (D : va_G) (k : Nat → ClassId) (q z : Nat → Nat) (g : Nat → Option Nat) (S : St) (X : va_W) (d1 : Int32) (d2 : Int32) : CI l D k yX1_tracingCost cX1_tracingCost 5 (some .int) 1 0 0 [.ref (q 2), .int d1, .int d2] (wC k q z g S X) (fun r w' => w' = wC k q z g S X ∧ r = costF (slC S) d1 d2 8) := by
  refine CI.mk (by decide) (Nat.le_of_ble_eq_true rfl) ?_
  intro p e R s m args below meth c A Q ls F hret hw hl
  have hx := xs_hx F
  have hb := xs_hb F
  have hl : lv_has ls 5 [(0, .ref (q 2)), (1, .int d1), (2, .int d2)] := hl
  refine lv_iconst (v := nI 0) hx hb dX1_tracingCost_0 rfl ?_
  refine lv_istore_n (lv' := [(3, .int (nI 0)), (0, .ref (q 2)), (1, .int d1), (2, .int d2)]) hx hb dX1_tracingCost_1 rfl hl (Nat.le_of_ble_eq_true rfl) rfl (fun ls hl => ?_)
  refine lv_iconst (v := nI 0) hx hb dX1_tracingCost_2 rfl ?_
  refine lv_istore (lv' := [(4, .int (nI 0)), (3, .int (nI 0)), (0, .ref (q 2)), (1, .int d1), (2, .int d2)]) hx hb dX1_tracingCost_3 hl (Nat.le_of_ble_eq_true rfl) rfl (fun ls hl => ?_)
  have K5 : ∀ (n5_ : Nat) (i : Nat) (x : Int32) (H : Heap) (locs : List Loc) (ls : Array Slot), 8 - i < n5_ → (i ≤ 8) → (x = costF (slC S) d1 d2 i) → Wd D A s.heap H locs (wC k q z g S X) → lv_has ls 5 [(0, .ref (q 2)), (1, .int d1), (2, .int d2), (3, .int x), (4, .int (nI i))] → W p l e R s m args below meth c H locs 0 0 Q (F0 m 5 ls []) := by
    intro n5_
    induction n5_ with
    | zero =>
      intro i x H locs ls hn5_
      exact absurd hn5_ (Nat.not_lt_zero _)
    | succ n5_ ih5_ =>
      intro i x H locs ls hn5_ hi h1 hw hl
      refine lv_iload hx hb dX1_tracingCost_5 (lv_at hl 4 rfl) ?_
      refine lv_bipush (v := nI 8) hx hb dX1_tracingCost_7 rfl ?_
      refine x_icmp_ge i 8 F (by omega) (by omega) (tgt := 39) dX1_tracingCost_9 rfl (fun c9 => ?_) (fun c9 => ?_)
      · refine lv_iload_n hx hb dX1_tracingCost_39 rfl (lv_at hl 3 rfl) ?_
        exact hret _ _ _ _ _ _ dX1_tracingCost_40 hw rfl ⟨rfl, by rw [h1, show i = 8 by omega]⟩
      · refine lv_iload_n hx hb dX1_tracingCost_12 rfl (lv_at hl 3 rfl) ?_
        refine lv_aload_n hx hb dX1_tracingCost_13 rfl (lv_at hl 0 rfl) ?_
        refine x_getr frC_2_6 F hw fo_X1_26 dX1_tracingCost_14 ?_
        refine lv_iload_n hx hb dX1_tracingCost_17 rfl (lv_at hl 1 rfl) ?_
        refine lv_iload hx hb dX1_tracingCost_18 (lv_at hl 4 rfl) ?_
        refine x_fSI (rest := [.ref (q 7), .int x]) (c_X6_strokeOf l D k (wC k q z g S X) d1 i) mo_X1_57 F hw (Nat.le_of_ble_eq_true rfl) (x_cs F (Nat.le_of_ble_eq_true rfl) (Nat.le_of_ble_eq_true rfl)) rfl rfl hl.1 (Nat.le_of_ble_eq_true rfl) dX1_tracingCost_20 (fun H locs hw => ?_)
        have := stk_lt d1 i
        refine x_grow giC_7 F hw (stk d1 i) rfl (by omega) dX1_tracingCost_23 ?_
        refine lv_iload_n hx hb dX1_tracingCost_24 rfl (lv_at hl 2 rfl) ?_
        refine lv_iload hx hb dX1_tracingCost_25 (lv_at hl 4 rfl) ?_
        refine x_fSI (rest := [.ref (q (8 + (stk d1 i))), .int x]) (c_X6_strokeOf l D k (wC k q z g S X) d2 i) mo_X1_57 F hw (Nat.le_of_ble_eq_true rfl) (x_cs F (Nat.le_of_ble_eq_true rfl) (Nat.le_of_ble_eq_true rfl)) rfl rfl hl.1 (Nat.le_of_ble_eq_true rfl) dX1_tracingCost_27 (fun H locs hw => ?_)
        have := stk_lt d2 i
        refine x_iald (aiC_slip (j := (stk d1 i)) (by omega)) F hw (stk d2 i) rfl (by omega) dX1_tracingCost_30 ?_
        refine lv_iadd hx hb dX1_tracingCost_31 ?_
        refine lv_istore_n (lv' := [(3, .int (x + (S (8 + (stk d1 i)) (stk d2 i)))), (0, .ref (q 2)), (1, .int d1), (2, .int d2), (4, .int (nI i))]) hx hb dX1_tracingCost_32 rfl hl (Nat.le_of_ble_eq_true rfl) rfl (fun ls hl => ?_)
        refine lv_iinc (v := nI (i + 1)) (lv' := [(4, .int (nI (i + 1))), (3, .int (x + (S (8 + (stk d1 i)) (stk d2 i)))), (0, .ref (q 2)), (1, .int d1), (2, .int d2)]) hx hb dX1_tracingCost_33 hl (k := 4) rfl (nI_1 _) (Nat.le_of_ble_eq_true rfl) rfl (fun ls hl => ?_)
        refine lv_goto (tgt := 5) hx hb dX1_tracingCost_36 rfl ?_
        exact ih5_ (i + 1) (x + (S (8 + (stk d1 i)) (stk d2 i))) _ _ _ (by first | omega | (simp only [] at *; omega)) (by first | assumption | omega | rfl) (by rw [h1]; rfl) hw (lv_sub hl [2, 3, 4, 1, 0] rfl)
  exact K5 _ 0 (nI 0) _ _ _ (Nat.lt_succ_self _) (by first | assumption | omega | rfl) (by rfl) hw (lv_sub hl [2, 3, 4, 1, 0] rfl)
set_option maxHeartbeats 4000000 in
set_option maxRecDepth 20000 in
theorem c_X1_lostStrokeCost (l : Launch) (D : va_G) (k : Nat → ClassId) (q z : Nat → Nat) (g : Nat → Option Nat) (S : St) (X : va_W) (pi : Int32) (o : Int32) (sk : Nat) (kd : Nat) (hP : okP S) (hpi : 0 ≤ pi → pi.toNatClampNeg < 6) (hk : kd < 4) : CI l D k yX1_lostStrokeCost cX1_lostStrokeCost 7 (some .int) 1 0 0 [.ref (q 2), .int pi, .int o, .int (nI sk), .int (nI kd)] (wC k q z g S X) (fun r w' => w' = wC k q z g S X ∧ r = lscF (slC S) (S 3) (picN S) pi o sk kd) := by
  refine CI.mk (by decide) (Nat.le_of_ble_eq_true rfl) ?_
  intro p e R s m args below meth c A Q ls F hret hw hl
  have hx := xs_hx F
  have hb := xs_hb F
  have hl : lv_has ls 7 [(0, .ref (q 2)), (1, .int pi), (2, .int o), (3, .int (nI sk)), (4, .int (nI kd))] := hl
  have h6 := hP.2
  refine lv_iload_n hx hb dX1_lostStrokeCost_0 rfl (lv_at hl 1 rfl) ?_
  have K26 : ∀ (x : Int32) (H : Heap) (locs : List Loc) (ls : Array Slot), (x = (if 0 ≤ pi then slC S (stk (S 3 pi.toNatClampNeg) sk) kd else nI 0)) → Wd D A s.heap H locs (wC k q z g S X) → lv_has ls 7 [(0, .ref (q 2)), (1, .int pi), (2, .int o), (3, .int (nI sk)), (4, .int (nI kd))] → W p l e R s m args below meth c H locs 0 0 Q (F0 m 26 ls [.int x]) := by
    intro x H locs ls h0 hw hl
    refine lv_istore (lv' := [(5, .int x), (0, .ref (q 2)), (1, .int pi), (2, .int o), (3, .int (nI sk)), (4, .int (nI kd))]) hx hb dX1_lostStrokeCost_26 hl (Nat.le_of_ble_eq_true rfl) rfl (fun ls hl => ?_)
    refine lv_iconst (v := nI 0) hx hb dX1_lostStrokeCost_28 rfl ?_
    refine lv_istore (lv' := [(6, .int (nI 0)), (5, .int x), (0, .ref (q 2)), (1, .int pi), (2, .int o), (3, .int (nI sk)), (4, .int (nI kd))]) hx hb dX1_lostStrokeCost_29 hl (Nat.le_of_ble_eq_true rfl) rfl (fun ls hl => ?_)
    have K31 : ∀ (n31_ : Nat) (i : Nat) (x : Int32) (H : Heap) (locs : List Loc) (ls : Array Slot), picN S - i < n31_ → (i ≤ picN S) → (x = sumIf o (fun p => slC S kd (stk (S 3 p) sk)) (if 0 ≤ pi then slC S (stk (S 3 pi.toNatClampNeg) sk) kd else nI 0) i) → Wd D A s.heap H locs (wC k q z g S X) → lv_has ls 7 [(0, .ref (q 2)), (1, .int pi), (2, .int o), (3, .int (nI sk)), (4, .int (nI kd)), (5, .int x), (6, .int (nI i))] → W p l e R s m args below meth c H locs 0 0 Q (F0 m 31 ls []) := by
      intro n31_
      induction n31_ with
      | zero =>
        intro i x H locs ls hn31_
        exact absurd hn31_ (Nat.not_lt_zero _)
      | succ n31_ ih31_ =>
        intro i x H locs ls hn31_ hi h1 hw hl
        refine lv_iload hx hb dX1_lostStrokeCost_31 (lv_at hl 6 rfl) ?_
        refine lv_aload_n hx hb dX1_lostStrokeCost_33 rfl (lv_at hl 0 rfl) ?_
        refine x_geti fiC_40 F hw fo_X1_44 dX1_lostStrokeCost_34 ?_
        refine x_top (y := nI (picN S)) hP.1 ?_
        refine x_icmp_ge i (picN S) F (by omega) (by omega) (tgt := 79) dX1_lostStrokeCost_37 rfl (fun c37 => ?_) (fun c37 => ?_)
        · refine lv_iload hx hb dX1_lostStrokeCost_79 (lv_at hl 5 rfl) ?_
          exact hret _ _ _ _ _ _ dX1_lostStrokeCost_81 hw rfl ⟨rfl, by rw [h1, show i = picN S by omega]; rfl⟩
        · refine lv_iload_n hx hb dX1_lostStrokeCost_40 rfl (lv_at hl 2 rfl) ?_
          refine lv_iload hx hb dX1_lostStrokeCost_41 (lv_at hl 6 rfl) ?_
          refine x_fSI (rest := []) (c_X6_hasBit l D k (wC k q z g S X) o i) mo_X1_65 F hw (Nat.le_of_ble_eq_true rfl) (x_cs F (Nat.le_of_ble_eq_true rfl) (Nat.le_of_ble_eq_true rfl)) rfl rfl hl.1 (Nat.le_of_ble_eq_true rfl) dX1_lostStrokeCost_43 (fun H locs hw => ?_)
          refine lv_if_eq (tgt := 73) hx hb dX1_lostStrokeCost_46 rfl (fun c46 => ?_) (fun c46 => ?_)
          · refine lv_iinc (v := nI (i + 1)) (lv' := [(6, .int (nI (i + 1))), (0, .ref (q 2)), (1, .int pi), (2, .int o), (3, .int (nI sk)), (4, .int (nI kd)), (5, .int x)]) hx hb dX1_lostStrokeCost_73 hl (k := 6) rfl (nI_1 _) (Nat.le_of_ble_eq_true rfl) rfl (fun ls hl => ?_)
            refine lv_goto (tgt := 31) hx hb dX1_lostStrokeCost_76 rfl ?_
            exact ih31_ (i + 1) x _ _ _ (by first | omega | (simp only [] at *; omega)) (by first | assumption | omega | rfl) (by rw [h1]; first | exact (sumIf_n (b01_0.mp c46)).symm | exact (sumIf_y (b01_1.mp c46)).symm) hw (lv_sub hl [1, 2, 3, 4, 5, 6, 0] rfl)
          · refine lv_iload hx hb dX1_lostStrokeCost_49 (lv_at hl 5 rfl) ?_
            refine lv_aload_n hx hb dX1_lostStrokeCost_51 rfl (lv_at hl 0 rfl) ?_
            refine x_getr frC_2_6 F hw fo_X1_26 dX1_lostStrokeCost_52 ?_
            refine lv_iload hx hb dX1_lostStrokeCost_55 (lv_at hl 4 rfl) ?_
            refine x_grow giC_7 F hw kd rfl (by omega) dX1_lostStrokeCost_57 ?_
            refine lv_aload_n hx hb dX1_lostStrokeCost_58 rfl (lv_at hl 0 rfl) ?_
            refine x_getr frC_2_2 F hw fo_X1_9 dX1_lostStrokeCost_59 ?_
            refine lv_iload hx hb dX1_lostStrokeCost_62 (lv_at hl 6 rfl) ?_
            refine x_iald aiC_3 F hw i rfl (by omega) dX1_lostStrokeCost_64 ?_
            refine lv_iload_n hx hb dX1_lostStrokeCost_65 rfl (lv_at hl 3 rfl) ?_
            refine x_fSI (rest := [.ref (q (8 + kd)), .int x]) (c_X6_strokeOf l D k (wC k q z g S X) (S 3 i) sk) mo_X1_57 F hw (Nat.le_of_ble_eq_true rfl) (x_cs F (Nat.le_of_ble_eq_true rfl) (Nat.le_of_ble_eq_true rfl)) rfl rfl hl.1 (Nat.le_of_ble_eq_true rfl) dX1_lostStrokeCost_66 (fun H locs hw => ?_)
            have := stk_lt (S 3 i) sk
            refine x_iald (aiC_slip (j := kd) (by omega)) F hw (stk (S 3 i) sk) rfl (by omega) dX1_lostStrokeCost_69 ?_
            refine lv_iadd hx hb dX1_lostStrokeCost_70 ?_
            refine lv_istore (lv' := [(5, .int (x + (S (8 + kd) (stk (S 3 i) sk)))), (0, .ref (q 2)), (1, .int pi), (2, .int o), (3, .int (nI sk)), (4, .int (nI kd)), (6, .int (nI i))]) hx hb dX1_lostStrokeCost_71 hl (Nat.le_of_ble_eq_true rfl) rfl (fun ls hl => ?_)
            refine lv_iinc (v := nI (i + 1)) (lv' := [(6, .int (nI (i + 1))), (5, .int (x + (S (8 + kd) (stk (S 3 i) sk)))), (0, .ref (q 2)), (1, .int pi), (2, .int o), (3, .int (nI sk)), (4, .int (nI kd))]) hx hb dX1_lostStrokeCost_73 hl (k := 6) rfl (nI_1 _) (Nat.le_of_ble_eq_true rfl) rfl (fun ls hl => ?_)
            refine lv_goto (tgt := 31) hx hb dX1_lostStrokeCost_76 rfl ?_
            exact ih31_ (i + 1) (x + (S (8 + kd) (stk (S 3 i) sk))) _ _ _ (by first | omega | (simp only [] at *; omega)) (by first | assumption | omega | rfl) (by rw [h1]; first | exact (sumIf_n (b01_0.mp c46)).symm | exact (sumIf_y (b01_1.mp c46)).symm) hw (lv_sub hl [2, 3, 4, 5, 6, 1, 0] rfl)
    exact K31 _ 0 x _ _ _ (Nat.lt_succ_self _) (by first | assumption | omega | rfl) (by exact h0) hw (lv_sub hl [2, 3, 4, 5, 6, 1, 0] rfl)
  refine lv_if_ge (tgt := 8) hx hb dX1_lostStrokeCost_1 rfl (fun c1 => ?_) (fun c1 => ?_)
  · refine lv_aload_n hx hb dX1_lostStrokeCost_8 rfl (lv_at hl 0 rfl) ?_
    refine x_getr frC_2_6 F hw fo_X1_26 dX1_lostStrokeCost_9 ?_
    refine lv_aload_n hx hb dX1_lostStrokeCost_12 rfl (lv_at hl 0 rfl) ?_
    refine x_getr frC_2_2 F hw fo_X1_9 dX1_lostStrokeCost_13 ?_
    refine lv_iload_n hx hb dX1_lostStrokeCost_16 rfl (lv_at hl 1 rfl) ?_
    refine x_iald aiC_3 F hw pi.toNatClampNeg (nn_of c1) (hpi c1) dX1_lostStrokeCost_17 ?_
    refine lv_iload_n hx hb dX1_lostStrokeCost_18 rfl (lv_at hl 3 rfl) ?_
    refine x_fSI (rest := [.ref (q 7)]) (c_X6_strokeOf l D k (wC k q z g S X) (S 3 pi.toNatClampNeg) sk) mo_X1_57 F hw (Nat.le_of_ble_eq_true rfl) (x_cs F (Nat.le_of_ble_eq_true rfl) (Nat.le_of_ble_eq_true rfl)) rfl rfl hl.1 (Nat.le_of_ble_eq_true rfl) dX1_lostStrokeCost_19 (fun H locs hw => ?_)
    have := stk_lt (S 3 pi.toNatClampNeg) sk
    refine x_grow giC_7 F hw (stk (S 3 pi.toNatClampNeg) sk) rfl (by omega) dX1_lostStrokeCost_22 ?_
    refine lv_iload hx hb dX1_lostStrokeCost_23 (lv_at hl 4 rfl) ?_
    refine x_iald (aiC_slip (j := (stk (S 3 pi.toNatClampNeg) sk)) (by omega)) F hw kd rfl (by omega) dX1_lostStrokeCost_25 ?_
    exact K26 (S (8 + (stk (S 3 pi.toNatClampNeg) sk)) kd) _ _ _ (by first | exact (if_pos c1).symm | exact (if_neg c1).symm) hw (lv_sub hl [0, 1, 2, 3, 4] rfl)
  · refine lv_iconst (v := nI 0) hx hb dX1_lostStrokeCost_4 rfl ?_
    refine lv_goto (tgt := 26) hx hb dX1_lostStrokeCost_5 rfl ?_
    exact K26 (nI 0) _ _ _ (by first | exact (if_pos c1).symm | exact (if_neg c1).symm) hw (lv_sub hl [0, 1, 2, 3, 4] rfl)
set_option maxHeartbeats 4000000 in
set_option maxRecDepth 20000 in
theorem c_X1_lostDrawing (l : Launch) (D : va_G) (k : Nat → ClassId) (q z : Nat → Nat) (g : Nat → Option Nat) (S : St) (X : va_W) (pi : Int32) (o : Int32) (hP : okP S) (hpi : 0 ≤ pi → pi.toNatClampNeg < 6) : CI l D k yX1_lostDrawing cX1_lostDrawing 9 (some .int) 2 0 0 [.ref (q 2), .int pi, .int o] (wC k q z g S X) (fun r w' => w' = wC k q z g S X ∧ r = nI (ldN (slC S) (S 3) (picN S) pi o 8)) := by
  refine CI.mk (by decide) (Nat.le_of_ble_eq_true rfl) ?_
  intro p e R s m args below meth c A Q ls F hret hw hl
  have hx := xs_hx F
  have hb := xs_hb F
  have hl : lv_has ls 9 [(0, .ref (q 2)), (1, .int pi), (2, .int o)] := hl
  have h6 := hP.2
  refine lv_iconst (v := nI 0) hx hb dX1_lostDrawing_0 rfl ?_
  refine lv_istore_n (lv' := [(3, .int (nI 0)), (0, .ref (q 2)), (1, .int pi), (2, .int o)]) hx hb dX1_lostDrawing_1 rfl hl (Nat.le_of_ble_eq_true rfl) rfl (fun ls hl => ?_)
  refine lv_iconst (v := nI 0) hx hb dX1_lostDrawing_2 rfl ?_
  refine lv_istore (lv' := [(4, .int (nI 0)), (3, .int (nI 0)), (0, .ref (q 2)), (1, .int pi), (2, .int o)]) hx hb dX1_lostDrawing_3 hl (Nat.le_of_ble_eq_true rfl) rfl (fun ls hl => ?_)
  have K5 : ∀ (n5_ : Nat) (i : Nat) (y : Nat) (H : Heap) (locs : List Loc) (ls : Array Slot), 8 - i < n5_ → (i ≤ 8) → (y = ldN (slC S) (S 3) (picN S) pi o i) → Wd D A s.heap H locs (wC k q z g S X) → lv_has ls 9 [(0, .ref (q 2)), (1, .int pi), (2, .int o), (3, .int (nI y)), (4, .int (nI i))] → W p l e R s m args below meth c H locs 0 0 Q (F0 m 5 ls []) := by
    intro n5_
    induction n5_ with
    | zero =>
      intro i y H locs ls hn5_
      exact absurd hn5_ (Nat.not_lt_zero _)
    | succ n5_ ih5_ =>
      intro i y H locs ls hn5_ hi h1 hw hl
      refine lv_iload hx hb dX1_lostDrawing_5 (lv_at hl 4 rfl) ?_
      refine lv_bipush (v := nI 8) hx hb dX1_lostDrawing_7 rfl ?_
      refine x_icmp_ge i 8 F (by omega) (by omega) (tgt := 81) dX1_lostDrawing_9 rfl (fun c9 => ?_) (fun c9 => ?_)
      · refine lv_iload_n hx hb dX1_lostDrawing_81 rfl (lv_at hl 3 rfl) ?_
        exact hret _ _ _ _ _ _ dX1_lostDrawing_82 hw rfl ⟨rfl, by rw [h1, show i = 8 by omega]⟩
      · refine lv_iconst (v := nI 0) hx hb dX1_lostDrawing_12 rfl ?_
        refine lv_istore (lv' := [(5, .int (nI 0)), (0, .ref (q 2)), (1, .int pi), (2, .int o), (3, .int (nI y)), (4, .int (nI i))]) hx hb dX1_lostDrawing_13 hl (Nat.le_of_ble_eq_true rfl) rfl (fun ls hl => ?_)
        refine lv_aload_n hx hb dX1_lostDrawing_15 rfl (lv_at hl 1 rfl) ?_
        refine lv_iload_n hx hb dX1_lostDrawing_16 rfl (lv_at hl 2 rfl) ?_
        refine lv_iload_n hx hb dX1_lostDrawing_17 rfl (lv_at hl 3 rfl) ?_
        refine lv_iload hx hb dX1_lostDrawing_18 (lv_at hl 5 rfl) ?_
        refine lv_iconst (v := nI 0) hx hb dX1_lostDrawing_20 rfl ?_
        refine x_fVI (rest := []) (c_X1_lostStrokeCost l D k q z g S X pi o i 0 (by first | assumption | omega) (by first | assumption | omega) (by first | assumption | omega)) mo_X1_61 obC_2 F hw (Nat.le_of_ble_eq_true rfl) (x_cs F (Nat.le_of_ble_eq_true rfl) (Nat.le_of_ble_eq_true rfl)) rfl rfl hl.1 (Nat.le_of_ble_eq_true rfl) dX1_lostDrawing_21 (fun H locs hw => ?_)
        refine lv_istore (lv' := [(6, .int (lscF (slC S) (S 3) (picN S) pi o i 0)), (5, .int (nI 0)), (0, .ref (q 2)), (1, .int pi), (2, .int o), (3, .int (nI y)), (4, .int (nI i))]) hx hb dX1_lostDrawing_24 hl (Nat.le_of_ble_eq_true rfl) rfl (fun ls hl => ?_)
        refine lv_iconst (v := nI 1) hx hb dX1_lostDrawing_26 rfl ?_
        refine lv_istore (lv' := [(7, .int (nI 1)), (6, .int (lscF (slC S) (S 3) (picN S) pi o i 0)), (5, .int (nI 0)), (0, .ref (q 2)), (1, .int pi), (2, .int o), (3, .int (nI y)), (4, .int (nI i))]) hx hb dX1_lostDrawing_27 hl (Nat.le_of_ble_eq_true rfl) rfl (fun ls hl => ?_)
        have K29 : ∀ (n29_ : Nat) (j : Nat) (b : Nat) (x : Int32) (H : Heap) (locs : List Loc) (ls : Array Slot), 3 - j < n29_ → (j ≤ 3) → (b = amin (lscF (slC S) (S 3) (picN S) pi o i) j) → (x = lscF (slC S) (S 3) (picN S) pi o i b) → Wd D A s.heap H locs (wC k q z g S X) → lv_has ls 9 [(0, .ref (q 2)), (1, .int pi), (2, .int o), (3, .int (nI y)), (4, .int (nI i)), (5, .int (nI b)), (6, .int x), (7, .int (nI (j + 1)))] → W p l e R s m args below meth c H locs 0 0 Q (F0 m 29 ls []) := by
          intro n29_
          induction n29_ with
          | zero =>
            intro j b x H locs ls hn29_
            exact absurd hn29_ (Nat.not_lt_zero _)
          | succ n29_ ih29_ =>
            intro j b x H locs ls hn29_ hj h2 h3 hw hl
            refine lv_iload hx hb dX1_lostDrawing_29 (lv_at hl 7 rfl) ?_
            refine lv_iconst (v := nI 4) hx hb dX1_lostDrawing_31 rfl ?_
            refine x_icmp_ge (j + 1) 4 F (by omega) (by omega) (tgt := 68) dX1_lostDrawing_32 rfl (fun c32 => ?_) (fun c32 => ?_)
            · refine lv_iload_n hx hb dX1_lostDrawing_68 rfl (lv_at hl 3 rfl) ?_
              refine lv_iconst (v := nI 4) hx hb dX1_lostDrawing_69 rfl ?_
              refine lv_imul hx hb dX1_lostDrawing_70 ?_
              refine x_top (y := nI (y * 4)) (pk_mul _ _) ?_
              refine lv_iload hx hb dX1_lostDrawing_71 (lv_at hl 5 rfl) ?_
              refine lv_iadd hx hb dX1_lostDrawing_73 ?_
              refine x_top (y := nI ((y * 4) + b)) (nI_add _ _) ?_
              refine lv_istore_n (lv' := [(3, .int (nI ((y * 4) + b))), (0, .ref (q 2)), (1, .int pi), (2, .int o), (4, .int (nI i)), (5, .int (nI b)), (6, .int x), (7, .int (nI (j + 1)))]) hx hb dX1_lostDrawing_74 rfl hl (Nat.le_of_ble_eq_true rfl) rfl (fun ls hl => ?_)
              refine lv_iinc (v := nI (i + 1)) (lv' := [(4, .int (nI (i + 1))), (3, .int (nI ((y * 4) + b))), (0, .ref (q 2)), (1, .int pi), (2, .int o), (5, .int (nI b)), (6, .int x), (7, .int (nI (j + 1)))]) hx hb dX1_lostDrawing_75 hl (k := 4) rfl (nI_1 _) (Nat.le_of_ble_eq_true rfl) rfl (fun ls hl => ?_)
              refine lv_goto (tgt := 5) hx hb dX1_lostDrawing_78 rfl ?_
              exact ih5_ (i + 1) ((y * 4) + b) _ _ _ (by first | omega | (simp only [] at *; omega)) (by first | assumption | omega | rfl) (by rw [h1, h2, show j = 3 by omega]; rfl) hw (lv_sub hl [2, 3, 4, 1, 0] rfl)
            · refine lv_aload_n hx hb dX1_lostDrawing_35 rfl (lv_at hl 0 rfl) ?_
              refine lv_iload_n hx hb dX1_lostDrawing_36 rfl (lv_at hl 1 rfl) ?_
              refine lv_iload_n hx hb dX1_lostDrawing_37 rfl (lv_at hl 2 rfl) ?_
              refine lv_iload hx hb dX1_lostDrawing_38 (lv_at hl 4 rfl) ?_
              refine lv_iload hx hb dX1_lostDrawing_40 (lv_at hl 7 rfl) ?_
              refine x_fVI (rest := []) (c_X1_lostStrokeCost l D k q z g S X pi o i (j + 1) (by first | assumption | omega) (by first | assumption | omega) (by first | assumption | omega)) mo_X1_61 obC_2 F hw (Nat.le_of_ble_eq_true rfl) (x_cs F (Nat.le_of_ble_eq_true rfl) (Nat.le_of_ble_eq_true rfl)) rfl rfl hl.1 (Nat.le_of_ble_eq_true rfl) dX1_lostDrawing_42 (fun H locs hw => ?_)
              refine lv_istore (lv' := [(8, .int (lscF (slC S) (S 3) (picN S) pi o i (j + 1))), (0, .ref (q 2)), (1, .int pi), (2, .int o), (3, .int (nI y)), (4, .int (nI i)), (5, .int (nI b)), (6, .int x), (7, .int (nI (j + 1)))]) hx hb dX1_lostDrawing_45 hl (Nat.le_of_ble_eq_true rfl) rfl (fun ls hl => ?_)
              refine lv_iload hx hb dX1_lostDrawing_47 (lv_at hl 0 rfl) ?_
              refine lv_iload hx hb dX1_lostDrawing_49 (lv_at hl 7 rfl) ?_
              refine lv_icmp_ge (tgt := 62) hx hb dX1_lostDrawing_51 rfl (fun c51 => ?_) (fun c51 => ?_)
              · refine lv_iinc (v := nI (j + 1 + 1)) (lv' := [(7, .int (nI (j + 1 + 1))), (8, .int (lscF (slC S) (S 3) (picN S) pi o i (j + 1))), (0, .ref (q 2)), (1, .int pi), (2, .int o), (3, .int (nI y)), (4, .int (nI i)), (5, .int (nI b)), (6, .int x)]) hx hb dX1_lostDrawing_62 hl (k := 8) rfl (nI_1 _) (Nat.le_of_ble_eq_true rfl) rfl (fun ls hl => ?_)
                refine lv_goto (tgt := 29) hx hb dX1_lostDrawing_65 rfl ?_
                exact ih29_ (j + 1) b x _ _ _ (by first | omega | (simp only [] at *; omega)) (by first | assumption | omega | rfl) (by first | (rw [show amin _ (j + 1) = _ from if_neg (by rw [← h2, ← h3]; exact Int32.not_lt.mpr c51)]; exact h2) | exact (if_pos (by rw [← h2, ← h3]; exact Int32.not_le.mp c51)).symm) (by first | exact h3 | rfl) hw (lv_sub hl [2, 3, 4, 5, 6, 7, 8, 0] rfl)
              · refine lv_iload hx hb dX1_lostDrawing_54 (lv_at hl 8 rfl) ?_
                refine lv_istore (lv' := [(5, .int (nI (j + 1))), (8, .int (lscF (slC S) (S 3) (picN S) pi o i (j + 1))), (0, .ref (q 2)), (1, .int pi), (2, .int o), (3, .int (nI y)), (4, .int (nI i)), (6, .int x), (7, .int (nI (j + 1)))]) hx hb dX1_lostDrawing_56 hl (Nat.le_of_ble_eq_true rfl) rfl (fun ls hl => ?_)
                refine lv_iload hx hb dX1_lostDrawing_58 (lv_at hl 1 rfl) ?_
                refine lv_istore (lv' := [(6, .int (lscF (slC S) (S 3) (picN S) pi o i (j + 1))), (5, .int (nI (j + 1))), (8, .int (lscF (slC S) (S 3) (picN S) pi o i (j + 1))), (0, .ref (q 2)), (1, .int pi), (2, .int o), (3, .int (nI y)), (4, .int (nI i)), (7, .int (nI (j + 1)))]) hx hb dX1_lostDrawing_60 hl (Nat.le_of_ble_eq_true rfl) rfl (fun ls hl => ?_)
                refine lv_iinc (v := nI (j + 1 + 1)) (lv' := [(7, .int (nI (j + 1 + 1))), (6, .int (lscF (slC S) (S 3) (picN S) pi o i (j + 1))), (5, .int (nI (j + 1))), (8, .int (lscF (slC S) (S 3) (picN S) pi o i (j + 1))), (0, .ref (q 2)), (1, .int pi), (2, .int o), (3, .int (nI y)), (4, .int (nI i))]) hx hb dX1_lostDrawing_62 hl (k := 8) rfl (nI_1 _) (Nat.le_of_ble_eq_true rfl) rfl (fun ls hl => ?_)
                refine lv_goto (tgt := 29) hx hb dX1_lostDrawing_65 rfl ?_
                exact ih29_ (j + 1) (j + 1) (lscF (slC S) (S 3) (picN S) pi o i (j + 1)) _ _ _ (by first | omega | (simp only [] at *; omega)) (by first | assumption | omega | rfl) (by first | (rw [show amin _ (j + 1) = _ from if_neg (by rw [← h2, ← h3]; exact Int32.not_lt.mpr c51)]; exact h2) | exact (if_pos (by rw [← h2, ← h3]; exact Int32.not_le.mp c51)).symm) (by first | exact h3 | rfl) hw (lv_sub hl [4, 5, 6, 7, 8, 2, 1, 0] rfl)
        exact K29 _ 0 0 (lscF (slC S) (S 3) (picN S) pi o i 0) _ _ _ (Nat.lt_succ_self _) (by first | assumption | omega | rfl) (by rfl) (by rfl) hw (lv_sub hl [3, 4, 5, 6, 7, 2, 1, 0] rfl)
  exact K5 _ 0 0 _ _ _ (Nat.lt_succ_self _) (by first | assumption | omega | rfl) (by rfl) hw (lv_sub hl [2, 3, 4, 1, 0] rfl)
set_option maxHeartbeats 4000000 in
set_option maxRecDepth 20000 in
theorem c_X1_throughCost (l : Launch) (D : va_G) (k : Nat → ClassId) (q z : Nat → Nat) (g : Nat → Option Nat) (S : St) (X : va_W) (pi : Int32) (d : Int32) (o : Int32) (hP : okP S) (hpi : 0 ≤ pi → pi.toNatClampNeg < 6) : CI l D k yX1_throughCost cX1_throughCost 6 (some .int) 2 0 0 [.ref (q 2), .int pi, .int d, .int o] (wC k q z g S X) (fun r w' => w' = wC k q z g S X ∧ r = thrF (slC S) (S 3) (picN S) (S 12 0) pi d o) := by
  refine CI.mk (by decide) (Nat.le_of_ble_eq_true rfl) ?_
  intro p e R s m args below meth c A Q ls F hret hw hl
  have hx := xs_hx F
  have hb := xs_hb F
  have hl : lv_has ls 6 [(0, .ref (q 2)), (1, .int pi), (2, .int d), (3, .int o)] := hl
  have h6 := hP.2
  refine lv_iload_n hx hb dX1_throughCost_0 rfl (lv_at hl 1 rfl) ?_
  have K24 : ∀ (x : Int32) (H : Heap) (locs : List Loc) (ls : Array Slot), (x = (if 0 ≤ pi then costF (slC S) (S 3 pi.toNatClampNeg) d 8 else S 12 0)) → Wd D A s.heap H locs (wC k q z g S X) → lv_has ls 6 [(0, .ref (q 2)), (1, .int pi), (2, .int d), (3, .int o)] → W p l e R s m args below meth c H locs 0 0 Q (F0 m 24 ls [.int x]) := by
    intro x H locs ls h0 hw hl
    refine lv_istore (lv' := [(4, .int x), (0, .ref (q 2)), (1, .int pi), (2, .int d), (3, .int o)]) hx hb dX1_throughCost_24 hl (Nat.le_of_ble_eq_true rfl) rfl (fun ls hl => ?_)
    refine lv_iconst (v := nI 0) hx hb dX1_throughCost_26 rfl ?_
    refine lv_istore (lv' := [(5, .int (nI 0)), (4, .int x), (0, .ref (q 2)), (1, .int pi), (2, .int d), (3, .int o)]) hx hb dX1_throughCost_27 hl (Nat.le_of_ble_eq_true rfl) rfl (fun ls hl => ?_)
    have K29 : ∀ (n29_ : Nat) (i : Nat) (x : Int32) (H : Heap) (locs : List Loc) (ls : Array Slot), picN S - i < n29_ → (i ≤ picN S) → (x = sumIf o (fun p => costF (slC S) d (S 3 p) 8) (if 0 ≤ pi then costF (slC S) (S 3 pi.toNatClampNeg) d 8 else S 12 0) i) → Wd D A s.heap H locs (wC k q z g S X) → lv_has ls 6 [(0, .ref (q 2)), (1, .int pi), (2, .int d), (3, .int o), (4, .int x), (5, .int (nI i))] → W p l e R s m args below meth c H locs 0 0 Q (F0 m 29 ls []) := by
      intro n29_
      induction n29_ with
      | zero =>
        intro i x H locs ls hn29_
        exact absurd hn29_ (Nat.not_lt_zero _)
      | succ n29_ ih29_ =>
        intro i x H locs ls hn29_ hi h1 hw hl
        refine lv_iload hx hb dX1_throughCost_29 (lv_at hl 5 rfl) ?_
        refine lv_aload_n hx hb dX1_throughCost_31 rfl (lv_at hl 0 rfl) ?_
        refine x_geti fiC_40 F hw fo_X1_44 dX1_throughCost_32 ?_
        refine x_top (y := nI (picN S)) hP.1 ?_
        refine x_icmp_ge i (picN S) F (by omega) (by omega) (tgt := 70) dX1_throughCost_35 rfl (fun c35 => ?_) (fun c35 => ?_)
        · refine lv_iload hx hb dX1_throughCost_70 (lv_at hl 4 rfl) ?_
          exact hret _ _ _ _ _ _ dX1_throughCost_72 hw rfl ⟨rfl, by rw [h1, show i = picN S by omega]; rfl⟩
        · refine lv_iload_n hx hb dX1_throughCost_38 rfl (lv_at hl 3 rfl) ?_
          refine lv_iload hx hb dX1_throughCost_39 (lv_at hl 5 rfl) ?_
          refine x_fSI (rest := []) (c_X6_hasBit l D k (wC k q z g S X) o i) mo_X1_65 F hw (Nat.le_of_ble_eq_true rfl) (x_cs F (Nat.le_of_ble_eq_true rfl) (Nat.le_of_ble_eq_true rfl)) rfl rfl hl.1 (Nat.le_of_ble_eq_true rfl) dX1_throughCost_41 (fun H locs hw => ?_)
          refine lv_if_eq (tgt := 64) hx hb dX1_throughCost_44 rfl (fun c44 => ?_) (fun c44 => ?_)
          · refine lv_iinc (v := nI (i + 1)) (lv' := [(5, .int (nI (i + 1))), (0, .ref (q 2)), (1, .int pi), (2, .int d), (3, .int o), (4, .int x)]) hx hb dX1_throughCost_64 hl (k := 5) rfl (nI_1 _) (Nat.le_of_ble_eq_true rfl) rfl (fun ls hl => ?_)
            refine lv_goto (tgt := 29) hx hb dX1_throughCost_67 rfl ?_
            exact ih29_ (i + 1) x _ _ _ (by first | omega | (simp only [] at *; omega)) (by first | assumption | omega | rfl) (by rw [h1]; first | exact (sumIf_n (b01_0.mp c44)).symm | exact (sumIf_y (b01_1.mp c44)).symm) hw (lv_sub hl [1, 2, 3, 4, 5, 0] rfl)
          · refine lv_iload hx hb dX1_throughCost_47 (lv_at hl 4 rfl) ?_
            refine lv_aload_n hx hb dX1_throughCost_49 rfl (lv_at hl 0 rfl) ?_
            refine lv_iload_n hx hb dX1_throughCost_50 rfl (lv_at hl 2 rfl) ?_
            refine lv_aload_n hx hb dX1_throughCost_51 rfl (lv_at hl 0 rfl) ?_
            refine x_getr frC_2_2 F hw fo_X1_9 dX1_throughCost_52 ?_
            refine lv_iload hx hb dX1_throughCost_55 (lv_at hl 5 rfl) ?_
            refine x_iald aiC_3 F hw i rfl (by omega) dX1_throughCost_57 ?_
            refine x_fVI (rest := [.int x]) (c_X1_tracingCost l D k q z g S X d (S 3 i)) mo_X1_69 obC_2 F hw (Nat.le_of_ble_eq_true rfl) (x_cs F (Nat.le_of_ble_eq_true rfl) (Nat.le_of_ble_eq_true rfl)) rfl rfl hl.1 (Nat.le_of_ble_eq_true rfl) dX1_throughCost_58 (fun H locs hw => ?_)
            refine lv_iadd hx hb dX1_throughCost_61 ?_
            refine lv_istore (lv' := [(4, .int (x + (costF (slC S) d (S 3 i) 8))), (0, .ref (q 2)), (1, .int pi), (2, .int d), (3, .int o), (5, .int (nI i))]) hx hb dX1_throughCost_62 hl (Nat.le_of_ble_eq_true rfl) rfl (fun ls hl => ?_)
            refine lv_iinc (v := nI (i + 1)) (lv' := [(5, .int (nI (i + 1))), (4, .int (x + (costF (slC S) d (S 3 i) 8))), (0, .ref (q 2)), (1, .int pi), (2, .int d), (3, .int o)]) hx hb dX1_throughCost_64 hl (k := 5) rfl (nI_1 _) (Nat.le_of_ble_eq_true rfl) rfl (fun ls hl => ?_)
            refine lv_goto (tgt := 29) hx hb dX1_throughCost_67 rfl ?_
            exact ih29_ (i + 1) (x + (costF (slC S) d (S 3 i) 8)) _ _ _ (by first | omega | (simp only [] at *; omega)) (by first | assumption | omega | rfl) (by rw [h1]; first | exact (sumIf_n (b01_0.mp c44)).symm | exact (sumIf_y (b01_1.mp c44)).symm) hw (lv_sub hl [2, 3, 4, 5, 1, 0] rfl)
    exact K29 _ 0 x _ _ _ (Nat.lt_succ_self _) (by first | assumption | omega | rfl) (by exact h0) hw (lv_sub hl [2, 3, 4, 5, 1, 0] rfl)
  refine lv_if_ge (tgt := 13) hx hb dX1_throughCost_1 rfl (fun c1 => ?_) (fun c1 => ?_)
  · refine lv_aload_n hx hb dX1_throughCost_13 rfl (lv_at hl 0 rfl) ?_
    refine lv_aload_n hx hb dX1_throughCost_14 rfl (lv_at hl 0 rfl) ?_
    refine x_getr frC_2_2 F hw fo_X1_9 dX1_throughCost_15 ?_
    refine lv_iload_n hx hb dX1_throughCost_18 rfl (lv_at hl 1 rfl) ?_
    refine x_iald aiC_3 F hw pi.toNatClampNeg (nn_of c1) (hpi c1) dX1_throughCost_19 ?_
    refine lv_iload_n hx hb dX1_throughCost_20 rfl (lv_at hl 2 rfl) ?_
    refine x_fVI (rest := []) (c_X1_tracingCost l D k q z g S X (S 3 pi.toNatClampNeg) d) mo_X1_69 obC_2 F hw (Nat.le_of_ble_eq_true rfl) (x_cs F (Nat.le_of_ble_eq_true rfl) (Nat.le_of_ble_eq_true rfl)) rfl rfl hl.1 (Nat.le_of_ble_eq_true rfl) dX1_throughCost_21 (fun H locs hw => ?_)
    exact K24 (costF (slC S) (S 3 pi.toNatClampNeg) d 8) _ _ _ (by first | exact (if_pos c1).symm | exact (if_neg c1).symm) hw (lv_sub hl [0, 1, 2, 3] rfl)
  · refine lv_aload_n hx hb dX1_throughCost_4 rfl (lv_at hl 0 rfl) ?_
    refine x_getr frC_2_7 F hw fo_X1_29 dX1_throughCost_5 ?_
    refine lv_iconst (v := nI 0) hx hb dX1_throughCost_8 rfl ?_
    refine x_iald aiC_12 F hw 0 rfl (by omega) dX1_throughCost_9 ?_
    refine lv_goto (tgt := 24) hx hb dX1_throughCost_10 rfl ?_
    exact K24 (S 12 0) _ _ _ (by first | exact (if_pos c1).symm | exact (if_neg c1).symm) hw (lv_sub hl [0, 1, 2, 3] rfl)
set_option maxHeartbeats 4000000 in
set_option maxRecDepth 20000 in
theorem c_X1_straightCost (l : Launch) (D : va_G) (k : Nat → ClassId) (q z : Nat → Nat) (g : Nat → Option Nat) (S : St) (X : va_W) (pi : Int32) (o : Int32) (hP : okP S) (hpi : 0 ≤ pi → pi.toNatClampNeg < 6) : CI l D k yX1_straightCost cX1_straightCost 5 (some .int) 2 0 0 [.ref (q 2), .int pi, .int o] (wC k q z g S X) (fun r w' => w' = wC k q z g S X ∧ r = strF (slC S) (S 3) (picN S) (S 12 0) pi o) := by
  refine CI.mk (by decide) (Nat.le_of_ble_eq_true rfl) ?_
  intro p e R s m args below meth c A Q ls F hret hw hl
  have hx := xs_hx F
  have hb := xs_hb F
  have hl : lv_has ls 5 [(0, .ref (q 2)), (1, .int pi), (2, .int o)] := hl
  have h6 := hP.2
  refine lv_iconst (v := nI 0) hx hb dX1_straightCost_0 rfl ?_
  refine lv_istore_n (lv' := [(3, .int (nI 0)), (0, .ref (q 2)), (1, .int pi), (2, .int o)]) hx hb dX1_straightCost_1 rfl hl (Nat.le_of_ble_eq_true rfl) rfl (fun ls hl => ?_)
  refine lv_iconst (v := nI 0) hx hb dX1_straightCost_2 rfl ?_
  refine lv_istore (lv' := [(4, .int (nI 0)), (3, .int (nI 0)), (0, .ref (q 2)), (1, .int pi), (2, .int o)]) hx hb dX1_straightCost_3 hl (Nat.le_of_ble_eq_true rfl) rfl (fun ls hl => ?_)
  have K5 : ∀ (n5_ : Nat) (i : Nat) (x : Int32) (H : Heap) (locs : List Loc) (ls : Array Slot), picN S - i < n5_ → (i ≤ picN S) → (x = sumIf o (fun p => if 0 ≤ pi then costF (slC S) (S 3 pi.toNatClampNeg) (S 3 p) 8 else S 12 0) (nI 0) i) → Wd D A s.heap H locs (wC k q z g S X) → lv_has ls 5 [(0, .ref (q 2)), (1, .int pi), (2, .int o), (3, .int x), (4, .int (nI i))] → W p l e R s m args below meth c H locs 0 0 Q (F0 m 5 ls []) := by
    intro n5_
    induction n5_ with
    | zero =>
      intro i x H locs ls hn5_
      exact absurd hn5_ (Nat.not_lt_zero _)
    | succ n5_ ih5_ =>
      intro i x H locs ls hn5_ hi h1 hw hl
      refine lv_iload hx hb dX1_straightCost_5 (lv_at hl 4 rfl) ?_
      refine lv_aload_n hx hb dX1_straightCost_7 rfl (lv_at hl 0 rfl) ?_
      refine x_geti fiC_40 F hw fo_X1_44 dX1_straightCost_8 ?_
      refine x_top (y := nI (picN S)) hP.1 ?_
      refine x_icmp_ge i (picN S) F (by omega) (by omega) (tgt := 62) dX1_straightCost_11 rfl (fun c11 => ?_) (fun c11 => ?_)
      · refine lv_iload_n hx hb dX1_straightCost_62 rfl (lv_at hl 3 rfl) ?_
        exact hret _ _ _ _ _ _ dX1_straightCost_63 hw rfl ⟨rfl, by rw [h1, show i = picN S by omega]; rfl⟩
      · refine lv_iload_n hx hb dX1_straightCost_14 rfl (lv_at hl 2 rfl) ?_
        refine lv_iload hx hb dX1_straightCost_15 (lv_at hl 4 rfl) ?_
        refine x_fSI (rest := []) (c_X6_hasBit l D k (wC k q z g S X) o i) mo_X1_65 F hw (Nat.le_of_ble_eq_true rfl) (x_cs F (Nat.le_of_ble_eq_true rfl) (Nat.le_of_ble_eq_true rfl)) rfl rfl hl.1 (Nat.le_of_ble_eq_true rfl) dX1_straightCost_17 (fun H locs hw => ?_)
        refine lv_if_eq (tgt := 56) hx hb dX1_straightCost_20 rfl (fun c20 => ?_) (fun c20 => ?_)
        · refine lv_iinc (v := nI (i + 1)) (lv' := [(4, .int (nI (i + 1))), (0, .ref (q 2)), (1, .int pi), (2, .int o), (3, .int x)]) hx hb dX1_straightCost_56 hl (k := 4) rfl (nI_1 _) (Nat.le_of_ble_eq_true rfl) rfl (fun ls hl => ?_)
          refine lv_goto (tgt := 5) hx hb dX1_straightCost_59 rfl ?_
          exact ih5_ (i + 1) x _ _ _ (by first | omega | (simp only [] at *; omega)) (by first | assumption | omega | rfl) (by rw [h1]; first | exact (sumIf_n (b01_0.mp c20)).symm | (rw [sumIf_y (b01_1.mp c20), if_pos c25]) | (rw [sumIf_y (b01_1.mp c20), if_neg c25])) hw (lv_sub hl [1, 2, 3, 4, 0] rfl)
        · refine lv_iload_n hx hb dX1_straightCost_23 rfl (lv_at hl 3 rfl) ?_
          refine lv_iload_n hx hb dX1_straightCost_24 rfl (lv_at hl 1 rfl) ?_
          refine lv_if_ge (tgt := 37) hx hb dX1_straightCost_25 rfl (fun c25 => ?_) (fun c25 => ?_)
          · refine lv_aload_n hx hb dX1_straightCost_37 rfl (lv_at hl 0 rfl) ?_
            refine lv_aload_n hx hb dX1_straightCost_38 rfl (lv_at hl 0 rfl) ?_
            refine x_getr frC_2_2 F hw fo_X1_9 dX1_straightCost_39 ?_
            refine lv_iload_n hx hb dX1_straightCost_42 rfl (lv_at hl 1 rfl) ?_
            refine x_iald aiC_3 F hw pi.toNatClampNeg (nn_of c25) (hpi c25) dX1_straightCost_43 ?_
            refine lv_aload_n hx hb dX1_straightCost_44 rfl (lv_at hl 0 rfl) ?_
            refine x_getr frC_2_2 F hw fo_X1_9 dX1_straightCost_45 ?_
            refine lv_iload hx hb dX1_straightCost_48 (lv_at hl 4 rfl) ?_
            refine x_iald aiC_3 F hw i rfl (by omega) dX1_straightCost_50 ?_
            refine x_fVI (rest := [.int x]) (c_X1_tracingCost l D k q z g S X (S 3 pi.toNatClampNeg) (S 3 i)) mo_X1_69 obC_2 F hw (Nat.le_of_ble_eq_true rfl) (x_cs F (Nat.le_of_ble_eq_true rfl) (Nat.le_of_ble_eq_true rfl)) rfl rfl hl.1 (Nat.le_of_ble_eq_true rfl) dX1_straightCost_51 (fun H locs hw => ?_)
            refine lv_iadd hx hb dX1_straightCost_54 ?_
            refine lv_istore_n (lv' := [(3, .int (x + (costF (slC S) (S 3 pi.toNatClampNeg) (S 3 i) 8))), (0, .ref (q 2)), (1, .int pi), (2, .int o), (4, .int (nI i))]) hx hb dX1_straightCost_55 rfl hl (Nat.le_of_ble_eq_true rfl) rfl (fun ls hl => ?_)
            refine lv_iinc (v := nI (i + 1)) (lv' := [(4, .int (nI (i + 1))), (3, .int (x + (costF (slC S) (S 3 pi.toNatClampNeg) (S 3 i) 8))), (0, .ref (q 2)), (1, .int pi), (2, .int o)]) hx hb dX1_straightCost_56 hl (k := 4) rfl (nI_1 _) (Nat.le_of_ble_eq_true rfl) rfl (fun ls hl => ?_)
            refine lv_goto (tgt := 5) hx hb dX1_straightCost_59 rfl ?_
            exact ih5_ (i + 1) (x + (costF (slC S) (S 3 pi.toNatClampNeg) (S 3 i) 8)) _ _ _ (by first | omega | (simp only [] at *; omega)) (by first | assumption | omega | rfl) (by rw [h1]; first | exact (sumIf_n (b01_0.mp c20)).symm | (rw [sumIf_y (b01_1.mp c20), if_pos c25]) | (rw [sumIf_y (b01_1.mp c20), if_neg c25])) hw (lv_sub hl [2, 3, 4, 1, 0] rfl)
          · refine lv_aload_n hx hb dX1_straightCost_28 rfl (lv_at hl 0 rfl) ?_
            refine x_getr frC_2_7 F hw fo_X1_29 dX1_straightCost_29 ?_
            refine lv_iconst (v := nI 0) hx hb dX1_straightCost_32 rfl ?_
            refine x_iald aiC_12 F hw 0 rfl (by omega) dX1_straightCost_33 ?_
            refine lv_goto (tgt := 54) hx hb dX1_straightCost_34 rfl ?_
            refine lv_iadd hx hb dX1_straightCost_54 ?_
            refine lv_istore_n (lv' := [(3, .int (x + (S 12 0))), (0, .ref (q 2)), (1, .int pi), (2, .int o), (4, .int (nI i))]) hx hb dX1_straightCost_55 rfl hl (Nat.le_of_ble_eq_true rfl) rfl (fun ls hl => ?_)
            refine lv_iinc (v := nI (i + 1)) (lv' := [(4, .int (nI (i + 1))), (3, .int (x + (S 12 0))), (0, .ref (q 2)), (1, .int pi), (2, .int o)]) hx hb dX1_straightCost_56 hl (k := 4) rfl (nI_1 _) (Nat.le_of_ble_eq_true rfl) rfl (fun ls hl => ?_)
            refine lv_goto (tgt := 5) hx hb dX1_straightCost_59 rfl ?_
            exact ih5_ (i + 1) (x + (S 12 0)) _ _ _ (by first | omega | (simp only [] at *; omega)) (by first | assumption | omega | rfl) (by rw [h1]; first | exact (sumIf_n (b01_0.mp c20)).symm | (rw [sumIf_y (b01_1.mp c20), if_pos c25]) | (rw [sumIf_y (b01_1.mp c20), if_neg c25])) hw (lv_sub hl [2, 3, 4, 1, 0] rfl)
  exact K5 _ 0 (nI 0) _ _ _ (Nat.lt_succ_self _) (by first | assumption | omega | rfl) (by rfl) hw (lv_sub hl [2, 3, 4, 1, 0] rfl)
set_option maxHeartbeats 4000000 in
set_option maxRecDepth 20000 in
theorem c_X1_hiddenBy (l : Launch) (D : va_G) (k : Nat → ClassId) (q z : Nat → Nat) (g : Nat → Option Nat) (S : St) (X : va_W) (dr : Int32) : CI l D k yX1_hiddenBy cX1_hiddenBy 5 (some .int) 1 0 0 [.ref (q 2), .int dr] (wC k q z g S X) (fun r w' => w' = wC k q z g S X ∧ r = hidF (S 15) (S 16) dr 8) := by
  refine CI.mk (by decide) (Nat.le_of_ble_eq_true rfl) ?_
  intro p e R s m args below meth c A Q ls F hret hw hl
  have hx := xs_hx F
  have hb := xs_hb F
  have hl : lv_has ls 5 [(0, .ref (q 2)), (1, .int dr)] := hl
  refine lv_iconst (v := nI 0) hx hb dX1_hiddenBy_0 rfl ?_
  refine lv_istore_n (lv' := [(2, .int (nI 0)), (0, .ref (q 2)), (1, .int dr)]) hx hb dX1_hiddenBy_1 rfl hl (Nat.le_of_ble_eq_true rfl) rfl (fun ls hl => ?_)
  refine lv_iconst (v := nI 0) hx hb dX1_hiddenBy_2 rfl ?_
  refine lv_istore_n (lv' := [(3, .int (nI 0)), (2, .int (nI 0)), (0, .ref (q 2)), (1, .int dr)]) hx hb dX1_hiddenBy_3 rfl hl (Nat.le_of_ble_eq_true rfl) rfl (fun ls hl => ?_)
  have K4 : ∀ (n4_ : Nat) (i : Nat) (x : Int32) (H : Heap) (locs : List Loc) (ls : Array Slot), 8 - i < n4_ → (i ≤ 8) → (x = hidF (S 15) (S 16) dr i) → Wd D A s.heap H locs (wC k q z g S X) → lv_has ls 5 [(0, .ref (q 2)), (1, .int dr), (2, .int x), (3, .int (nI i))] → W p l e R s m args below meth c H locs 0 0 Q (F0 m 4 ls []) := by
    intro n4_
    induction n4_ with
    | zero =>
      intro i x H locs ls hn4_
      exact absurd hn4_ (Nat.not_lt_zero _)
    | succ n4_ ih4_ =>
      intro i x H locs ls hn4_ hi h1 hw hl
      refine lv_iload_n hx hb dX1_hiddenBy_4 rfl (lv_at hl 3 rfl) ?_
      refine lv_bipush (v := nI 8) hx hb dX1_hiddenBy_5 rfl ?_
      refine x_icmp_ge i 8 F (by omega) (by omega) (tgt := 55) dX1_hiddenBy_7 rfl (fun c7 => ?_) (fun c7 => ?_)
      · refine lv_iload_n hx hb dX1_hiddenBy_55 rfl (lv_at hl 2 rfl) ?_
        exact hret _ _ _ _ _ _ dX1_hiddenBy_56 hw rfl ⟨rfl, by rw [h1, show i = 8 by omega]⟩
      · refine lv_iload_n hx hb dX1_hiddenBy_10 rfl (lv_at hl 1 rfl) ?_
        refine lv_iload_n hx hb dX1_hiddenBy_11 rfl (lv_at hl 3 rfl) ?_
        refine x_fSI (rest := []) (c_X6_strokeOf l D k (wC k q z g S X) dr i) mo_X1_57 F hw (Nat.le_of_ble_eq_true rfl) (x_cs F (Nat.le_of_ble_eq_true rfl) (Nat.le_of_ble_eq_true rfl)) rfl rfl hl.1 (Nat.le_of_ble_eq_true rfl) dX1_hiddenBy_12 (fun H locs hw => ?_)
        have := stk_lt dr i
        refine lv_istore (lv' := [(4, .int (nI ((stk dr i)))), (0, .ref (q 2)), (1, .int dr), (2, .int x), (3, .int (nI i))]) hx hb dX1_hiddenBy_15 hl (Nat.le_of_ble_eq_true rfl) rfl (fun ls hl => ?_)
        refine lv_iload hx hb dX1_hiddenBy_17 (lv_at hl 0 rfl) ?_
        refine lv_iconst (v := nI 3) hx hb dX1_hiddenBy_19 rfl ?_
        refine x_icmp_ne (stk dr i) 3 F (by omega) (by omega) (tgt := 35) dX1_hiddenBy_20 rfl (fun c20 => ?_) (fun c20 => ?_)
        · refine lv_iload hx hb dX1_hiddenBy_35 (lv_at hl 0 rfl) ?_
          refine x_if_eq (stk dr i) F (by omega) (tgt := 49) dX1_hiddenBy_37 rfl (fun c37 => ?_) (fun c37 => ?_)
          · refine lv_iinc (v := nI (i + 1)) (lv' := [(3, .int (nI (i + 1))), (4, .int (nI ((stk dr i)))), (0, .ref (q 2)), (1, .int dr), (2, .int x)]) hx hb dX1_hiddenBy_49 hl (k := 4) rfl (nI_1 _) (Nat.le_of_ble_eq_true rfl) rfl (fun ls hl => ?_)
            refine lv_goto (tgt := 4) hx hb dX1_hiddenBy_52 rfl ?_
            exact ih4_ (i + 1) x _ _ _ (by first | omega | (simp only [] at *; omega)) (by first | assumption | omega | rfl) (by rw [h1]; simp [hidF, *]) hw (lv_sub hl [2, 3, 4, 0] rfl)
          · refine lv_iload_n hx hb dX1_hiddenBy_40 rfl (lv_at hl 3 rfl) ?_
            refine lv_aload_n hx hb dX1_hiddenBy_41 rfl (lv_at hl 1 rfl) ?_
            refine x_getr frC_2_10 F hw fo_X1_38 dX1_hiddenBy_42 ?_
            refine lv_iload_n hx hb dX1_hiddenBy_45 rfl (lv_at hl 4 rfl) ?_
            refine x_iald aiC_15 F hw i rfl (by omega) dX1_hiddenBy_46 ?_
            refine lv_ior hx hb dX1_hiddenBy_47 ?_
            refine lv_istore_n (lv' := [(2, .int (x ||| (S 15 i))), (4, .int (nI ((stk dr i)))), (0, .ref (q 2)), (1, .int dr), (3, .int (nI i))]) hx hb dX1_hiddenBy_48 rfl hl (Nat.le_of_ble_eq_true rfl) rfl (fun ls hl => ?_)
            refine lv_iinc (v := nI (i + 1)) (lv' := [(3, .int (nI (i + 1))), (2, .int (x ||| (S 15 i))), (4, .int (nI ((stk dr i)))), (0, .ref (q 2)), (1, .int dr)]) hx hb dX1_hiddenBy_49 hl (k := 4) rfl (nI_1 _) (Nat.le_of_ble_eq_true rfl) rfl (fun ls hl => ?_)
            refine lv_goto (tgt := 4) hx hb dX1_hiddenBy_52 rfl ?_
            exact ih4_ (i + 1) (x ||| (S 15 i)) _ _ _ (by first | omega | (simp only [] at *; omega)) (by first | assumption | omega | rfl) (by rw [h1]; simp [hidF, *]) hw (lv_sub hl [3, 4, 1, 0] rfl)
        · refine lv_iload_n hx hb dX1_hiddenBy_23 rfl (lv_at hl 3 rfl) ?_
          refine lv_aload_n hx hb dX1_hiddenBy_24 rfl (lv_at hl 1 rfl) ?_
          refine x_getr frC_2_11 F hw fo_X1_41 dX1_hiddenBy_25 ?_
          refine lv_iload_n hx hb dX1_hiddenBy_28 rfl (lv_at hl 4 rfl) ?_
          refine x_iald aiC_16 F hw i rfl (by omega) dX1_hiddenBy_29 ?_
          refine lv_ior hx hb dX1_hiddenBy_30 ?_
          refine lv_istore_n (lv' := [(2, .int (x ||| (S 16 i))), (4, .int (nI ((stk dr i)))), (0, .ref (q 2)), (1, .int dr), (3, .int (nI i))]) hx hb dX1_hiddenBy_31 rfl hl (Nat.le_of_ble_eq_true rfl) rfl (fun ls hl => ?_)
          refine lv_goto (tgt := 49) hx hb dX1_hiddenBy_32 rfl ?_
          refine lv_iinc (v := nI (i + 1)) (lv' := [(3, .int (nI (i + 1))), (2, .int (x ||| (S 16 i))), (4, .int (nI ((stk dr i)))), (0, .ref (q 2)), (1, .int dr)]) hx hb dX1_hiddenBy_49 hl (k := 4) rfl (nI_1 _) (Nat.le_of_ble_eq_true rfl) rfl (fun ls hl => ?_)
          refine lv_goto (tgt := 4) hx hb dX1_hiddenBy_52 rfl ?_
          exact ih4_ (i + 1) (x ||| (S 16 i)) _ _ _ (by first | omega | (simp only [] at *; omega)) (by first | assumption | omega | rfl) (by rw [h1]; simp [hidF, *]) hw (lv_sub hl [3, 4, 1, 0] rfl)
  exact K4 _ 0 (nI 0) _ _ _ (Nat.lt_succ_self _) (by first | assumption | omega | rfl) (by rfl) hw (lv_sub hl [2, 3, 1, 0] rfl)
