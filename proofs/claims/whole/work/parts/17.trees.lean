/-! ===== trees: pure words ===== -/
def treN (S : St) : Nat := (S 43 0).toNatClampNeg
def tpiN (S : St) : Nat := (S 46 0).toNatClampNeg
/-- the cells of rows and costs hold what is counted -/
def okR (S : St) (z : Nat → Nat) : Prop := S 43 0 = nI (treN S) ∧ treN S ≤ z 0 ∧ treN S ≤ z 1 ∧ z 0 < 2 ^ 31 ∧ z 1 < 2 ^ 31
def okQ (S : St) : Prop := S 46 0 = nI (tpiN S) ∧ tpiN S ≤ 6
def trcF (row : Int32) (n : Nat) (so : Int32) : Int32 := orB (fun j => srcIn row j == so) n
def kpB (S : St) (mo : Int32) (t : Nat) : Bool := decide (S 21 t ≤ S 44 0 + mo)
def alF (p : Nat → Bool) (f : Nat → Int32) (x0 : Int32) : Nat → Int32
  | 0 => x0
  | t + 1 => if p t then alF p f x0 t &&& f t else alF p f x0 t
theorem alF_y {p : Nat → Bool} {f : Nat → Int32} {x0 : Int32} {t : Nat} (h : p t = true) : alF p f x0 (t + 1) = alF p f x0 t &&& f t := if_pos h
theorem alF_n {p : Nat → Bool} {f : Nat → Int32} {x0 : Int32} {t : Nat} (h : p t = false) : alF p f x0 (t + 1) = alF p f x0 t := if_neg (by rw [h]; decide)
theorem and_0 (x : Int32) : 0 &&& x = 0 := by
  apply Int32.toBitVec_inj.mp
  simp
theorem alF_0 {p : Nat → Bool} {f : Nat → Int32} {x0 : Int32} {t : Nat} (h : alF p f x0 t = 0) : ∀ m, t ≤ m → alF p f x0 m = 0
  | 0, hm => by rw [← Nat.le_zero.mp hm]; exact h
  | m + 1, hm => by
    rcases Nat.lt_or_ge m t with h1 | h1
    · rw [show m + 1 = t by omega]; exact h
    · have e := alF_0 h m h1
      cases hp : p m with
      | true => rw [alF_y hp, e, and_0]
      | false => rw [alF_n hp, e]
def wlk (src : Nat → Nat) (pa : Nat) : Nat → Nat → Nat
  | 0, at_ => at_
  | j + 1, at_ => if at_ < pa then wlk src pa j (src at_) else at_
theorem wlk_y {src : Nat → Nat} {pa j a : Nat} (h : a < pa) : wlk src pa (j + 1) a = wlk src pa j (src a) := if_pos h
theorem wlk_n {src : Nat → Nat} {pa a : Nat} (h : ¬ a < pa) : ∀ j, wlk src pa j a = a
  | 0 => rfl
  | j + 1 => if_neg h
abbrev trS (S : St) (cn : Nat) (rw co sr : Nat → Int32) : St := va_up (va_up (va_up (va_up S 43 (fun _ => nI cn)) 20 rw) 21 co) 22 sr
set_option maxHeartbeats 4000000 in
set_option maxRecDepth 20000 in
theorem c_X5_forget (l : Launch) (D : va_G) (k : Nat → ClassId) (q z : Nat → Nat) (g : Nat → Option Nat) (S : St) (X : va_W) : CV l D k yX5_forget cX5_forget 1 0 0 0 [.ref (q 19)] (wC k q z g S X) (fun w' => w' = wC k q z g (va_up S 45 (fun _ => nI 0)) X) := by
  refine CV.mk (by decide) (Nat.le_of_ble_eq_true rfl) ?_
  intro p e R s m args below meth c A Q ls F hnm hret hw hl
  have hx := xs_hx F
  have hb := xs_hb F
  have hl : lv_has ls 1 [(0, .ref (q 19))] := hl
  refine lv_aload_n hx hb dX5_forget_0 rfl (lv_at hl 0 rfl) ?_
  refine lv_iconst (v := nI 0) hx hb dX5_forget_1 rfl ?_
  refine x_puti fiC_45 F hw fo_X5_34 rfl rfl dX5_forget_2 (fun H locs hw => ?_)
  exact hret _ _ _ _ _ dX5_forget_5 hw rfl
set_option maxHeartbeats 4000000 in
set_option maxRecDepth 20000 in
theorem c_X5_tracedFrom (l : Launch) (D : va_G) (k : Nat → ClassId) (q z : Nat → Nat) (g : Nat → Option Nat) (S : St) (X : va_W) (row : Int32) (so : Int32) (hQ : okQ S) : CI l D k yX5_tracedFrom cX5_tracedFrom 5 (some .int) 1 0 0 [.ref (q 19), .int row, .int so] (wC k q z g S X) (fun r w' => w' = wC k q z g S X ∧ r = trcF row (tpiN S) so) := by
  refine CI.mk (by decide) (Nat.le_of_ble_eq_true rfl) ?_
  intro p e R s m args below meth c A Q ls F hret hw hl
  have hx := xs_hx F
  have hb := xs_hb F
  have hl : lv_has ls 5 [(0, .ref (q 19)), (1, .int row), (2, .int so)] := hl
  have h6 := hQ.2
  refine lv_iconst (v := nI 0) hx hb dX5_tracedFrom_0 rfl ?_
  refine lv_istore_n (lv' := [(3, .int (nI 0)), (0, .ref (q 19)), (1, .int row), (2, .int so)]) hx hb dX5_tracedFrom_1 rfl hl (Nat.le_of_ble_eq_true rfl) rfl (fun ls hl => ?_)
  refine lv_iconst (v := nI 0) hx hb dX5_tracedFrom_2 rfl ?_
  refine lv_istore (lv' := [(4, .int (nI 0)), (3, .int (nI 0)), (0, .ref (q 19)), (1, .int row), (2, .int so)]) hx hb dX5_tracedFrom_3 hl (Nat.le_of_ble_eq_true rfl) rfl (fun ls hl => ?_)
  have K5 : ∀ (n5_ : Nat) (i : Nat) (x : Int32) (H : Heap) (locs : List Loc) (ls : Array Slot), tpiN S - i < n5_ → (i ≤ tpiN S) → (x = orB (fun j => srcIn row j == so) i) → Wd D A s.heap H locs (wC k q z g S X) → lv_has ls 5 [(0, .ref (q 19)), (1, .int row), (2, .int so), (3, .int x), (4, .int (nI i))] → W p l e R s m args below meth c H locs 0 0 Q (F0 m 5 ls []) := by
    intro n5_
    induction n5_ with
    | zero =>
      intro i x H locs ls hn5_
      exact absurd hn5_ (Nat.not_lt_zero _)
    | succ n5_ ih5_ =>
      intro i x H locs ls hn5_ hi h1 hw hl
      refine lv_iload hx hb dX5_tracedFrom_5 (lv_at hl 4 rfl) ?_
      refine lv_aload_n hx hb dX5_tracedFrom_7 rfl (lv_at hl 0 rfl) ?_
      refine x_geti fiC_46 F hw fo_X5_47 dX5_tracedFrom_8 ?_
      refine x_top (y := nI (tpiN S)) hQ.1 ?_
      refine x_icmp_ge i (tpiN S) F (by omega) (by omega) (tgt := 37) dX5_tracedFrom_11 rfl (fun c11 => ?_) (fun c11 => ?_)
      · refine lv_iload_n hx hb dX5_tracedFrom_37 rfl (lv_at hl 3 rfl) ?_
        exact hret _ _ _ _ _ _ dX5_tracedFrom_38 hw rfl ⟨rfl, by rw [h1, show i = tpiN S by omega]; rfl⟩
      · refine lv_iload_n hx hb dX5_tracedFrom_14 rfl (lv_at hl 1 rfl) ?_
        refine lv_iload hx hb dX5_tracedFrom_15 (lv_at hl 4 rfl) ?_
        refine x_fSI (rest := []) (c_X5_sourceIn l D k (wC k q z g S X) row i) mo_X5_94 F hw (Nat.le_of_ble_eq_true rfl) (x_cs F (Nat.le_of_ble_eq_true rfl) (Nat.le_of_ble_eq_true rfl)) rfl rfl hl.1 (Nat.le_of_ble_eq_true rfl) dX5_tracedFrom_17 (fun H locs hw => ?_)
        refine lv_iload_n hx hb dX5_tracedFrom_20 rfl (lv_at hl 2 rfl) ?_
        refine lv_icmp_ne (tgt := 31) hx hb dX5_tracedFrom_21 rfl (fun c21 => ?_) (fun c21 => ?_)
        · refine lv_iinc (v := nI (i + 1)) (lv' := [(4, .int (nI (i + 1))), (0, .ref (q 19)), (1, .int row), (2, .int so), (3, .int x)]) hx hb dX5_tracedFrom_31 hl (k := 4) rfl (nI_1 _) (Nat.le_of_ble_eq_true rfl) rfl (fun ls hl => ?_)
          refine lv_goto (tgt := 5) hx hb dX5_tracedFrom_34 rfl ?_
          exact ih5_ (i + 1) x _ _ _ (by first | omega | (simp only [] at *; omega)) (by first | assumption | omega | rfl) (by rw [h1]; first | exact (orB_n (beqF c21)).symm | exact (orB_y (beqT c21)).symm) hw (lv_sub hl [1, 2, 3, 4, 0] rfl)
        · refine lv_iload_n hx hb dX5_tracedFrom_24 rfl (lv_at hl 3 rfl) ?_
          refine lv_iconst (v := nI 1) hx hb dX5_tracedFrom_25 rfl ?_
          refine lv_iload hx hb dX5_tracedFrom_26 (lv_at hl 4 rfl) ?_
          refine lv_ishl hx hb dX5_tracedFrom_28 ?_
          refine lv_ior hx hb dX5_tracedFrom_29 ?_
          refine lv_istore_n (lv' := [(3, .int (x ||| ((nI 1) <<< ((nI i) &&& 31)))), (0, .ref (q 19)), (1, .int row), (2, .int so), (4, .int (nI i))]) hx hb dX5_tracedFrom_30 rfl hl (Nat.le_of_ble_eq_true rfl) rfl (fun ls hl => ?_)
          refine lv_iinc (v := nI (i + 1)) (lv' := [(4, .int (nI (i + 1))), (3, .int (x ||| ((nI 1) <<< ((nI i) &&& 31)))), (0, .ref (q 19)), (1, .int row), (2, .int so)]) hx hb dX5_tracedFrom_31 hl (k := 4) rfl (nI_1 _) (Nat.le_of_ble_eq_true rfl) rfl (fun ls hl => ?_)
          refine lv_goto (tgt := 5) hx hb dX5_tracedFrom_34 rfl ?_
          exact ih5_ (i + 1) (x ||| ((nI 1) <<< ((nI i) &&& 31))) _ _ _ (by first | omega | (simp only [] at *; omega)) (by first | assumption | omega | rfl) (by rw [h1]; first | exact (orB_n (beqF c21)).symm | exact (orB_y (beqT c21)).symm) hw (lv_sub hl [2, 3, 4, 1, 0] rfl)
  exact K5 _ 0 (nI 0) _ _ _ (Nat.lt_succ_self _) (by first | assumption | omega | rfl) (by rfl) hw (lv_sub hl [2, 3, 4, 1, 0] rfl)
set_option maxHeartbeats 4000000 in
set_option maxRecDepth 20000 in
theorem c_X5_countWithin (l : Launch) (D : va_G) (k : Nat → ClassId) (q z : Nat → Nat) (g : Nat → Option Nat) (S : St) (X : va_W) (mo : Int32) (hR : okR S z) : CI l D k yX5_countWithin cX5_countWithin 4 (some .int) 0 0 0 [.ref (q 19), .int mo] (wC k q z g S X) (fun r w' => w' = wC k q z g S X ∧ r = nI (cntB (kpB S mo) (treN S))) := by
  refine CI.mk (by decide) (Nat.le_of_ble_eq_true rfl) ?_
  intro p e R s m args below meth c A Q ls F hret hw hl
  have hx := xs_hx F
  have hb := xs_hb F
  have hl : lv_has ls 4 [(0, .ref (q 19)), (1, .int mo)] := hl
  obtain ⟨-, hR1, hR2, hR3, hR4⟩ := id hR
  refine lv_iconst (v := nI 0) hx hb dX5_countWithin_0 rfl ?_
  refine lv_istore_n (lv' := [(2, .int (nI 0)), (0, .ref (q 19)), (1, .int mo)]) hx hb dX5_countWithin_1 rfl hl (Nat.le_of_ble_eq_true rfl) rfl (fun ls hl => ?_)
  refine lv_iconst (v := nI 0) hx hb dX5_countWithin_2 rfl ?_
  refine lv_istore_n (lv' := [(3, .int (nI 0)), (2, .int (nI 0)), (0, .ref (q 19)), (1, .int mo)]) hx hb dX5_countWithin_3 rfl hl (Nat.le_of_ble_eq_true rfl) rfl (fun ls hl => ?_)
  have K4 : ∀ (n4_ : Nat) (i : Nat) (x : Nat) (H : Heap) (locs : List Loc) (ls : Array Slot), treN S - i < n4_ → (i ≤ treN S) → (x = cntB (kpB S mo) i) → Wd D A s.heap H locs (wC k q z g S X) → lv_has ls 4 [(0, .ref (q 19)), (1, .int mo), (2, .int (nI x)), (3, .int (nI i))] → W p l e R s m args below meth c H locs 0 0 Q (F0 m 4 ls []) := by
    intro n4_
    induction n4_ with
    | zero =>
      intro i x H locs ls hn4_
      exact absurd hn4_ (Nat.not_lt_zero _)
    | succ n4_ ih4_ =>
      intro i x H locs ls hn4_ hi h1 hw hl
      refine lv_iload_n hx hb dX5_countWithin_4 rfl (lv_at hl 3 rfl) ?_
      refine lv_aload_n hx hb dX5_countWithin_5 rfl (lv_at hl 0 rfl) ?_
      refine x_geti fiC_43 F hw fo_X5_38 dX5_countWithin_6 ?_
      refine x_top (y := nI (treN S)) hR.1 ?_
      refine x_icmp_ge i (treN S) F (by omega) (by omega) (tgt := 36) dX5_countWithin_9 rfl (fun c9 => ?_) (fun c9 => ?_)
      · refine lv_iload_n hx hb dX5_countWithin_36 rfl (lv_at hl 2 rfl) ?_
        exact hret _ _ _ _ _ _ dX5_countWithin_37 hw rfl ⟨rfl, by rw [h1, show i = treN S by omega]⟩
      · refine lv_aload_n hx hb dX5_countWithin_12 rfl (lv_at hl 0 rfl) ?_
        refine x_getr frC_19_3 F hw fo_X5_15 dX5_countWithin_13 ?_
        refine lv_iload_n hx hb dX5_countWithin_16 rfl (lv_at hl 3 rfl) ?_
        refine x_iald (aiC_21 hR.2.2.2.2) F hw i rfl (by omega) dX5_countWithin_17 ?_
        refine lv_aload_n hx hb dX5_countWithin_18 rfl (lv_at hl 0 rfl) ?_
        refine x_geti fiC_44 F hw fo_X5_75 dX5_countWithin_19 ?_
        refine lv_iload_n hx hb dX5_countWithin_22 rfl (lv_at hl 1 rfl) ?_
        refine lv_iadd hx hb dX5_countWithin_23 ?_
        refine lv_icmp_gt (tgt := 30) hx hb dX5_countWithin_24 rfl (fun c24 => ?_) (fun c24 => ?_)
        · refine lv_iinc (v := nI (i + 1)) (lv' := [(3, .int (nI (i + 1))), (0, .ref (q 19)), (1, .int mo), (2, .int (nI x))]) hx hb dX5_countWithin_30 hl (k := 3) rfl (nI_1 _) (Nat.le_of_ble_eq_true rfl) rfl (fun ls hl => ?_)
          refine lv_goto (tgt := 4) hx hb dX5_countWithin_33 rfl ?_
          exact ih4_ (i + 1) x _ _ _ (by first | omega | (simp only [] at *; omega)) (by first | assumption | omega | rfl) (by first | exact h1.trans (cnt_f (n := i) (decide_eq_false (Int32.not_le.mpr c24))).symm | (rw [h1]; exact (cnt_y (n := i) (decide_eq_true (Int32.not_lt.mp c24))).symm)) hw (lv_sub hl [1, 2, 3, 0] rfl)
        · refine lv_iinc (v := nI (x + 1)) (lv' := [(2, .int (nI (x + 1))), (0, .ref (q 19)), (1, .int mo), (3, .int (nI i))]) hx hb dX5_countWithin_27 hl (k := 2) rfl (nI_1 _) (Nat.le_of_ble_eq_true rfl) rfl (fun ls hl => ?_)
          refine lv_iinc (v := nI (i + 1)) (lv' := [(3, .int (nI (i + 1))), (2, .int (nI (x + 1))), (0, .ref (q 19)), (1, .int mo)]) hx hb dX5_countWithin_30 hl (k := 3) rfl (nI_1 _) (Nat.le_of_ble_eq_true rfl) rfl (fun ls hl => ?_)
          refine lv_goto (tgt := 4) hx hb dX5_countWithin_33 rfl ?_
          exact ih4_ (i + 1) (x + 1) _ _ _ (by first | omega | (simp only [] at *; omega)) (by first | assumption | omega | rfl) (by first | exact h1.trans (cnt_f (n := i) (decide_eq_false (Int32.not_le.mpr c24))).symm | (rw [h1]; exact (cnt_y (n := i) (decide_eq_true (Int32.not_lt.mp c24))).symm)) hw (lv_sub hl [2, 3, 1, 0] rfl)
  exact K4 _ 0 0 _ _ _ (Nat.lt_succ_self _) (by first | assumption | omega | rfl) (by rfl) hw (lv_sub hl [2, 3, 1, 0] rfl)
set_option maxHeartbeats 4000000 in
set_option maxRecDepth 20000 in
theorem c_X5_placeOfKept (l : Launch) (D : va_G) (k : Nat → ClassId) (q z : Nat → Nat) (g : Nat → Option Nat) (S : St) (X : va_W) (mo : Int32) (ix : Int32) (hR : okR S z) : CI l D k yX5_placeOfKept cX5_placeOfKept 5 (some .int) 0 0 0 [.ref (q 19), .int mo, .int ix] (wC k q z g S X) (fun r w' => w' = wC k q z g S X ∧ r = (if fstF (fun t => kpB S mo t && nI (cntB (kpB S mo) t) == ix) (treN S) = 0 then (-6) else nI (fstF (fun t => kpB S mo t && nI (cntB (kpB S mo) t) == ix) (treN S) - 1))) := by
  refine CI.mk (by decide) (Nat.le_of_ble_eq_true rfl) ?_
  intro p e R s m args below meth c A Q ls F hret hw hl
  have hx := xs_hx F
  have hb := xs_hb F
  have hl : lv_has ls 5 [(0, .ref (q 19)), (1, .int mo), (2, .int ix)] := hl
  obtain ⟨-, hR1, hR2, hR3, hR4⟩ := id hR
  refine lv_iconst (v := nI 0) hx hb dX5_placeOfKept_0 rfl ?_
  refine lv_istore_n (lv' := [(3, .int (nI 0)), (0, .ref (q 19)), (1, .int mo), (2, .int ix)]) hx hb dX5_placeOfKept_1 rfl hl (Nat.le_of_ble_eq_true rfl) rfl (fun ls hl => ?_)
  refine lv_iconst (v := nI 0) hx hb dX5_placeOfKept_2 rfl ?_
  refine lv_istore (lv' := [(4, .int (nI 0)), (3, .int (nI 0)), (0, .ref (q 19)), (1, .int mo), (2, .int ix)]) hx hb dX5_placeOfKept_3 hl (Nat.le_of_ble_eq_true rfl) rfl (fun ls hl => ?_)
  have K5 : ∀ (n5_ : Nat) (i : Nat) (x : Nat) (H : Heap) (locs : List Loc) (ls : Array Slot), treN S - i < n5_ → (i ≤ treN S) → (x = cntB (kpB S mo) i) → (fstF (fun t => kpB S mo t && nI (cntB (kpB S mo) t) == ix) i = 0) → Wd D A s.heap H locs (wC k q z g S X) → lv_has ls 5 [(0, .ref (q 19)), (1, .int mo), (2, .int ix), (3, .int (nI x)), (4, .int (nI i))] → W p l e R s m args below meth c H locs 0 0 Q (F0 m 5 ls []) := by
    intro n5_
    induction n5_ with
    | zero =>
      intro i x H locs ls hn5_
      exact absurd hn5_ (Nat.not_lt_zero _)
    | succ n5_ ih5_ =>
      intro i x H locs ls hn5_ hi h1 h2 hw hl
      refine lv_iload hx hb dX5_placeOfKept_5 (lv_at hl 4 rfl) ?_
      refine lv_aload_n hx hb dX5_placeOfKept_7 rfl (lv_at hl 0 rfl) ?_
      refine x_geti fiC_43 F hw fo_X5_38 dX5_placeOfKept_8 ?_
      refine x_top (y := nI (treN S)) hR.1 ?_
      refine x_icmp_ge i (treN S) F (by omega) (by omega) (tgt := 47) dX5_placeOfKept_11 rfl (fun c11 => ?_) (fun c11 => ?_)
      · refine lv_bipush (v := (-6)) hx hb dX5_placeOfKept_47 rfl ?_
        exact hret _ _ _ _ _ _ dX5_placeOfKept_49 hw rfl ⟨rfl, by rw [show treN S = i by omega]; exact (if_pos h2).symm⟩
      · refine lv_aload_n hx hb dX5_placeOfKept_14 rfl (lv_at hl 0 rfl) ?_
        refine x_getr frC_19_3 F hw fo_X5_15 dX5_placeOfKept_15 ?_
        refine lv_iload hx hb dX5_placeOfKept_18 (lv_at hl 4 rfl) ?_
        refine x_iald (aiC_21 hR.2.2.2.2) F hw i rfl (by omega) dX5_placeOfKept_20 ?_
        refine lv_aload_n hx hb dX5_placeOfKept_21 rfl (lv_at hl 0 rfl) ?_
        refine x_geti fiC_44 F hw fo_X5_75 dX5_placeOfKept_22 ?_
        refine lv_iload_n hx hb dX5_placeOfKept_25 rfl (lv_at hl 1 rfl) ?_
        refine lv_iadd hx hb dX5_placeOfKept_26 ?_
        refine lv_icmp_gt (tgt := 41) hx hb dX5_placeOfKept_27 rfl (fun c27 => ?_) (fun c27 => ?_)
        · refine lv_iinc (v := nI (i + 1)) (lv' := [(4, .int (nI (i + 1))), (0, .ref (q 19)), (1, .int mo), (2, .int ix), (3, .int (nI x))]) hx hb dX5_placeOfKept_41 hl (k := 4) rfl (nI_1 _) (Nat.le_of_ble_eq_true rfl) rfl (fun ls hl => ?_)
          refine lv_goto (tgt := 5) hx hb dX5_placeOfKept_44 rfl ?_
          exact ih5_ (i + 1) x _ _ _ (by first | omega | (simp only [] at *; omega)) (by first | assumption | omega | rfl) (by first | exact h1.trans (cnt_f (n := i) (decide_eq_false (Int32.not_le.mpr c27))).symm | (rw [h1]; exact (cnt_y (n := i) (decide_eq_true (Int32.not_lt.mp c27))).symm)) (by first | exact fstF_go h2 (bA0 (decide_eq_false (Int32.not_le.mpr c27))) | exact fstF_go h2 (bA1 (beqF (by rw [← h1]; exact c32)))) hw (lv_sub hl [1, 2, 3, 4, 0] rfl)
        · refine lv_iload_n hx hb dX5_placeOfKept_30 rfl (lv_at hl 3 rfl) ?_
          refine lv_iload_n hx hb dX5_placeOfKept_31 rfl (lv_at hl 2 rfl) ?_
          refine lv_icmp_ne (tgt := 38) hx hb dX5_placeOfKept_32 rfl (fun c32 => ?_) (fun c32 => ?_)
          · refine lv_iinc (v := nI (x + 1)) (lv' := [(3, .int (nI (x + 1))), (0, .ref (q 19)), (1, .int mo), (2, .int ix), (4, .int (nI i))]) hx hb dX5_placeOfKept_38 hl (k := 3) rfl (nI_1 _) (Nat.le_of_ble_eq_true rfl) rfl (fun ls hl => ?_)
            refine lv_iinc (v := nI (i + 1)) (lv' := [(4, .int (nI (i + 1))), (3, .int (nI (x + 1))), (0, .ref (q 19)), (1, .int mo), (2, .int ix)]) hx hb dX5_placeOfKept_41 hl (k := 4) rfl (nI_1 _) (Nat.le_of_ble_eq_true rfl) rfl (fun ls hl => ?_)
            refine lv_goto (tgt := 5) hx hb dX5_placeOfKept_44 rfl ?_
            exact ih5_ (i + 1) (x + 1) _ _ _ (by first | omega | (simp only [] at *; omega)) (by first | assumption | omega | rfl) (by first | exact h1.trans (cnt_f (n := i) (decide_eq_false (Int32.not_le.mpr c27))).symm | (rw [h1]; exact (cnt_y (n := i) (decide_eq_true (Int32.not_lt.mp c27))).symm)) (by first | exact fstF_go h2 (bA0 (decide_eq_false (Int32.not_le.mpr c27))) | exact fstF_go h2 (bA1 (beqF (by rw [← h1]; exact c32)))) hw (lv_sub hl [2, 3, 4, 1, 0] rfl)
          · refine lv_iload hx hb dX5_placeOfKept_35 (lv_at hl 4 rfl) ?_
            have e9 : fstF (fun t => kpB S mo t && nI (cntB (kpB S mo) t) == ix) (treN S) = i + 1 := by rw [fstF_stay (n := i + 1) (by rw [fstF_hit h2 (bAt (decide_eq_true (Int32.not_lt.mp c27)) (beqT (by rw [← h1]; exact c32)))]; omega) _ (by omega), fstF_hit h2 (bAt (decide_eq_true (Int32.not_lt.mp c27)) (beqT (by rw [← h1]; exact c32)))]
            exact hret _ _ _ _ _ _ dX5_placeOfKept_37 hw rfl ⟨rfl, by rw [e9]; rfl⟩
  exact K5 _ 0 0 _ _ _ (Nat.lt_succ_self _) (by first | assumption | omega | rfl) (by rfl) (by rfl) hw (lv_sub hl [2, 3, 4, 1, 0] rfl)
set_option maxHeartbeats 4000000 in
set_option maxRecDepth 20000 in
theorem c_X5_alwaysFrom (l : Launch) (D : va_G) (k : Nat → ClassId) (q z : Nat → Nat) (g : Nat → Option Nat) (S : St) (X : va_W) (mo : Int32) (so : Int32) (hR : okR S z) (hQ : okQ S) : CI l D k yX5_alwaysFrom cX5_alwaysFrom 5 (some .int) 2 0 0 [.ref (q 19), .int mo, .int so] (wC k q z g S X) (fun r w' => w' = wC k q z g S X ∧ r = alF (kpB S mo) (fun t => trcF (S 20 t) (tpiN S) so) ((nI 1 <<< (nI (tpiN S) &&& 31)) - nI 1) (treN S)) := by
  refine CI.mk (by decide) (Nat.le_of_ble_eq_true rfl) ?_
  intro p e R s m args below meth c A Q ls F hret hw hl
  have hx := xs_hx F
  have hb := xs_hb F
  have hl : lv_has ls 5 [(0, .ref (q 19)), (1, .int mo), (2, .int so)] := hl
  obtain ⟨-, hR1, hR2, hR3, hR4⟩ := id hR
  refine lv_iconst (v := nI 1) hx hb dX5_alwaysFrom_0 rfl ?_
  refine lv_aload_n hx hb dX5_alwaysFrom_1 rfl (lv_at hl 0 rfl) ?_
  refine x_geti fiC_46 F hw fo_X5_47 dX5_alwaysFrom_2 ?_
  refine x_top (y := nI (tpiN S)) hQ.1 ?_
  refine lv_ishl hx hb dX5_alwaysFrom_5 ?_
  refine lv_iconst (v := nI 1) hx hb dX5_alwaysFrom_6 rfl ?_
  refine lv_isub hx hb dX5_alwaysFrom_7 ?_
  refine lv_istore_n (lv' := [(3, .int (((nI 1) <<< ((nI (tpiN S)) &&& 31)) - (nI 1))), (0, .ref (q 19)), (1, .int mo), (2, .int so)]) hx hb dX5_alwaysFrom_8 rfl hl (Nat.le_of_ble_eq_true rfl) rfl (fun ls hl => ?_)
  refine lv_iconst (v := nI 0) hx hb dX5_alwaysFrom_9 rfl ?_
  refine lv_istore (lv' := [(4, .int (nI 0)), (3, .int (((nI 1) <<< ((nI (tpiN S)) &&& 31)) - (nI 1))), (0, .ref (q 19)), (1, .int mo), (2, .int so)]) hx hb dX5_alwaysFrom_10 hl (Nat.le_of_ble_eq_true rfl) rfl (fun ls hl => ?_)
  have K12 : ∀ (n12_ : Nat) (i : Nat) (x : Int32) (H : Heap) (locs : List Loc) (ls : Array Slot), treN S - i < n12_ → (i ≤ treN S) → (x = alF (kpB S mo) (fun t => trcF (S 20 t) (tpiN S) so) ((nI 1 <<< (nI (tpiN S) &&& 31)) - nI 1) i) → Wd D A s.heap H locs (wC k q z g S X) → lv_has ls 5 [(0, .ref (q 19)), (1, .int mo), (2, .int so), (3, .int x), (4, .int (nI i))] → W p l e R s m args below meth c H locs 0 0 Q (F0 m 12 ls []) := by
    intro n12_
    induction n12_ with
    | zero =>
      intro i x H locs ls hn12_
      exact absurd hn12_ (Nat.not_lt_zero _)
    | succ n12_ ih12_ =>
      intro i x H locs ls hn12_ hi h1 hw hl
      refine lv_iload hx hb dX5_alwaysFrom_12 (lv_at hl 4 rfl) ?_
      refine lv_aload_n hx hb dX5_alwaysFrom_14 rfl (lv_at hl 0 rfl) ?_
      refine x_geti fiC_43 F hw fo_X5_38 dX5_alwaysFrom_15 ?_
      refine x_top (y := nI (treN S)) hR.1 ?_
      refine x_icmp_ge i (treN S) F (by omega) (by omega) (tgt := 62) dX5_alwaysFrom_18 rfl (fun c18 => ?_) (fun c18 => ?_)
      · refine lv_iload_n hx hb dX5_alwaysFrom_62 rfl (lv_at hl 3 rfl) ?_
        exact hret _ _ _ _ _ _ dX5_alwaysFrom_63 hw rfl ⟨rfl, by first | (rw [h1, show i = treN S by omega]; done) | exact c22.trans (alF_0 (h1.symm.trans c22) _ (by omega)).symm⟩
      · refine lv_iload_n hx hb dX5_alwaysFrom_21 rfl (lv_at hl 3 rfl) ?_
        refine lv_if_eq (tgt := 62) hx hb dX5_alwaysFrom_22 rfl (fun c22 => ?_) (fun c22 => ?_)
        · refine lv_iload_n hx hb dX5_alwaysFrom_62 rfl (lv_at hl 3 rfl) ?_
          exact hret _ _ _ _ _ _ dX5_alwaysFrom_63 hw rfl ⟨rfl, by first | (rw [h1, show i = treN S by omega]; done) | exact c22.trans (alF_0 (h1.symm.trans c22) _ (by omega)).symm⟩
        · refine lv_aload_n hx hb dX5_alwaysFrom_25 rfl (lv_at hl 0 rfl) ?_
          refine x_getr frC_19_3 F hw fo_X5_15 dX5_alwaysFrom_26 ?_
          refine lv_iload hx hb dX5_alwaysFrom_29 (lv_at hl 4 rfl) ?_
          refine x_iald (aiC_21 hR.2.2.2.2) F hw i rfl (by omega) dX5_alwaysFrom_31 ?_
          refine lv_aload_n hx hb dX5_alwaysFrom_32 rfl (lv_at hl 0 rfl) ?_
          refine x_geti fiC_44 F hw fo_X5_75 dX5_alwaysFrom_33 ?_
          refine lv_iload_n hx hb dX5_alwaysFrom_36 rfl (lv_at hl 1 rfl) ?_
          refine lv_iadd hx hb dX5_alwaysFrom_37 ?_
          refine lv_icmp_gt (tgt := 56) hx hb dX5_alwaysFrom_38 rfl (fun c38 => ?_) (fun c38 => ?_)
          · refine lv_iinc (v := nI (i + 1)) (lv' := [(4, .int (nI (i + 1))), (0, .ref (q 19)), (1, .int mo), (2, .int so), (3, .int x)]) hx hb dX5_alwaysFrom_56 hl (k := 4) rfl (nI_1 _) (Nat.le_of_ble_eq_true rfl) rfl (fun ls hl => ?_)
            refine lv_goto (tgt := 12) hx hb dX5_alwaysFrom_59 rfl ?_
            exact ih12_ (i + 1) x _ _ _ (by first | omega | (simp only [] at *; omega)) (by first | assumption | omega | rfl) (by rw [h1]; first | exact (alF_n (decide_eq_false (Int32.not_le.mpr c38))).symm | exact (alF_y (decide_eq_true (Int32.not_lt.mp c38))).symm) hw (lv_sub hl [1, 2, 3, 4, 0] rfl)
          · refine lv_iload_n hx hb dX5_alwaysFrom_41 rfl (lv_at hl 3 rfl) ?_
            refine lv_aload_n hx hb dX5_alwaysFrom_42 rfl (lv_at hl 0 rfl) ?_
            refine lv_aload_n hx hb dX5_alwaysFrom_43 rfl (lv_at hl 0 rfl) ?_
            refine x_getr frC_19_2 F hw fo_X5_9 dX5_alwaysFrom_44 ?_
            refine lv_iload hx hb dX5_alwaysFrom_47 (lv_at hl 4 rfl) ?_
            refine x_iald (aiC_20 hR.2.2.2.1) F hw i rfl (by omega) dX5_alwaysFrom_49 ?_
            refine lv_iload_n hx hb dX5_alwaysFrom_50 rfl (lv_at hl 2 rfl) ?_
            refine x_fVI (rest := [.int x]) (c_X5_tracedFrom l D k q z g S X (S 20 i) so (by first | assumption | omega)) mo_X5_91 obC_19 F hw (Nat.le_of_ble_eq_true rfl) (x_cs F (Nat.le_of_ble_eq_true rfl) (Nat.le_of_ble_eq_true rfl)) rfl rfl hl.1 (Nat.le_of_ble_eq_true rfl) dX5_alwaysFrom_51 (fun H locs hw => ?_)
            refine lv_iand hx hb dX5_alwaysFrom_54 ?_
            refine lv_istore_n (lv' := [(3, .int (x &&& (trcF (S 20 i) (tpiN S) so))), (0, .ref (q 19)), (1, .int mo), (2, .int so), (4, .int (nI i))]) hx hb dX5_alwaysFrom_55 rfl hl (Nat.le_of_ble_eq_true rfl) rfl (fun ls hl => ?_)
            refine lv_iinc (v := nI (i + 1)) (lv' := [(4, .int (nI (i + 1))), (3, .int (x &&& (trcF (S 20 i) (tpiN S) so))), (0, .ref (q 19)), (1, .int mo), (2, .int so)]) hx hb dX5_alwaysFrom_56 hl (k := 4) rfl (nI_1 _) (Nat.le_of_ble_eq_true rfl) rfl (fun ls hl => ?_)
            refine lv_goto (tgt := 12) hx hb dX5_alwaysFrom_59 rfl ?_
            exact ih12_ (i + 1) (x &&& (trcF (S 20 i) (tpiN S) so)) _ _ _ (by first | omega | (simp only [] at *; omega)) (by first | assumption | omega | rfl) (by rw [h1]; first | exact (alF_n (decide_eq_false (Int32.not_le.mpr c38))).symm | exact (alF_y (decide_eq_true (Int32.not_lt.mp c38))).symm) hw (lv_sub hl [2, 3, 4, 1, 0] rfl)
  exact K12 _ 0 (((nI 1) <<< ((nI (tpiN S)) &&& 31)) - (nI 1)) _ _ _ (Nat.lt_succ_self _) (by first | assumption | omega | rfl) (by rfl) hw (lv_sub hl [2, 3, 4, 1, 0] rfl)
set_option maxHeartbeats 4000000 in
set_option maxRecDepth 20000 in
theorem c_X5_comesFrom (l : Launch) (D : va_G) (k : Nat → ClassId) (q z : Nat → Nat) (g : Nat → Option Nat) (S : St) (X : va_W) (fm : Nat) (pa : Nat) (src : Nat → Nat) (hQ : okQ S) (hf : fm < 2 ^ 31) (hp : pa ≤ 6) (hs : ∀ j, j < pa → S 22 j = nI (src j) ∧ src j ≤ 9) : CI l D k yX5_comesFrom cX5_comesFrom 5 (some .boolean) 0 0 0 [.ref (q 19), .int (nI fm), .int (nI pa)] (wC k q z g S X) (fun r w' => w' = wC k q z g S X ∧ r = b01 (wlk src pa (tpiN S) fm == pa)) := by
  refine CI.mk (by decide) (Nat.le_of_ble_eq_true rfl) ?_
  intro p e R s m args below meth c A Q ls F hret hw hl
  have hx := xs_hx F
  have hb := xs_hb F
  have hl : lv_has ls 5 [(0, .ref (q 19)), (1, .int (nI fm)), (2, .int (nI pa))] := hl
  have h6 := hQ.2
  refine lv_iload_n hx hb dX5_comesFrom_0 rfl (lv_at hl 1 rfl) ?_
  refine lv_istore_n (lv' := [(3, .int (nI fm)), (0, .ref (q 19)), (1, .int (nI fm)), (2, .int (nI pa))]) hx hb dX5_comesFrom_1 rfl hl (Nat.le_of_ble_eq_true rfl) rfl (fun ls hl => ?_)
  refine lv_iconst (v := nI 0) hx hb dX5_comesFrom_2 rfl ?_
  refine lv_istore (lv' := [(4, .int (nI 0)), (3, .int (nI fm)), (0, .ref (q 19)), (1, .int (nI fm)), (2, .int (nI pa))]) hx hb dX5_comesFrom_3 hl (Nat.le_of_ble_eq_true rfl) rfl (fun ls hl => ?_)
  have K5 : ∀ (n5_ : Nat) (i : Nat) (a : Nat) (H : Heap) (locs : List Loc) (ls : Array Slot), tpiN S - i < n5_ → (i ≤ tpiN S) → (a < 2 ^ 31) → (wlk src pa (tpiN S) fm = wlk src pa (tpiN S - i) a) → Wd D A s.heap H locs (wC k q z g S X) → lv_has ls 5 [(0, .ref (q 19)), (1, .int (nI fm)), (2, .int (nI pa)), (3, .int (nI a)), (4, .int (nI i))] → W p l e R s m args below meth c H locs 0 0 Q (F0 m 5 ls []) := by
    intro n5_
    induction n5_ with
    | zero =>
      intro i a H locs ls hn5_
      exact absurd hn5_ (Nat.not_lt_zero _)
    | succ n5_ ih5_ =>
      intro i a H locs ls hn5_ hi ha h1 hw hl
      refine lv_iload hx hb dX5_comesFrom_5 (lv_at hl 4 rfl) ?_
      refine lv_aload_n hx hb dX5_comesFrom_7 rfl (lv_at hl 0 rfl) ?_
      refine x_geti fiC_46 F hw fo_X5_47 dX5_comesFrom_8 ?_
      refine x_top (y := nI (tpiN S)) hQ.1 ?_
      refine x_icmp_ge i (tpiN S) F (by omega) (by omega) (tgt := 32) dX5_comesFrom_11 rfl (fun c11 => ?_) (fun c11 => ?_)
      · refine lv_iload_n hx hb dX5_comesFrom_32 rfl (lv_at hl 3 rfl) ?_
        refine lv_iload_n hx hb dX5_comesFrom_33 rfl (lv_at hl 2 rfl) ?_
        refine x_icmp_ne a pa F (by omega) (by omega) (tgt := 41) dX5_comesFrom_34 rfl (fun c34 => ?_) (fun c34 => ?_)
        · refine lv_iconst (v := nI 0) hx hb dX5_comesFrom_41 rfl ?_
          have e9 : wlk src pa (tpiN S) fm = a := by first | (rw [h1]; exact wlk_n (by omega) _) | (rw [h1, show tpiN S - i = 0 by omega]; rfl)
          exact hret _ _ _ _ _ _ dX5_comesFrom_42 hw rfl ⟨rfl, by rw [e9]; first | (rw [beqTn c34]; rfl) | (rw [beqFn c34]; rfl)⟩
        · refine lv_iconst (v := nI 1) hx hb dX5_comesFrom_37 rfl ?_
          refine lv_goto (tgt := 42) hx hb dX5_comesFrom_38 rfl ?_
          have e9 : wlk src pa (tpiN S) fm = a := by first | (rw [h1]; exact wlk_n (by omega) _) | (rw [h1, show tpiN S - i = 0 by omega]; rfl)
          exact hret _ _ _ _ _ _ dX5_comesFrom_42 hw rfl ⟨rfl, by rw [e9]; first | (rw [beqTn c34]; rfl) | (rw [beqFn c34]; rfl)⟩
      · refine lv_iload_n hx hb dX5_comesFrom_14 rfl (lv_at hl 3 rfl) ?_
        refine lv_iload_n hx hb dX5_comesFrom_15 rfl (lv_at hl 2 rfl) ?_
        refine x_icmp_ge a pa F (by omega) (by omega) (tgt := 32) dX5_comesFrom_16 rfl (fun c16 => ?_) (fun c16 => ?_)
        · refine lv_iload_n hx hb dX5_comesFrom_32 rfl (lv_at hl 3 rfl) ?_
          refine lv_iload_n hx hb dX5_comesFrom_33 rfl (lv_at hl 2 rfl) ?_
          refine x_icmp_ne a pa F (by omega) (by omega) (tgt := 41) dX5_comesFrom_34 rfl (fun c34 => ?_) (fun c34 => ?_)
          · refine lv_iconst (v := nI 0) hx hb dX5_comesFrom_41 rfl ?_
            have e9 : wlk src pa (tpiN S) fm = a := by first | (rw [h1]; exact wlk_n (by omega) _) | (rw [h1, show tpiN S - i = 0 by omega]; rfl)
            exact hret _ _ _ _ _ _ dX5_comesFrom_42 hw rfl ⟨rfl, by rw [e9]; first | (rw [beqTn c34]; rfl) | (rw [beqFn c34]; rfl)⟩
          · refine lv_iconst (v := nI 1) hx hb dX5_comesFrom_37 rfl ?_
            refine lv_goto (tgt := 42) hx hb dX5_comesFrom_38 rfl ?_
            have e9 : wlk src pa (tpiN S) fm = a := by first | (rw [h1]; exact wlk_n (by omega) _) | (rw [h1, show tpiN S - i = 0 by omega]; rfl)
            exact hret _ _ _ _ _ _ dX5_comesFrom_42 hw rfl ⟨rfl, by rw [e9]; first | (rw [beqTn c34]; rfl) | (rw [beqFn c34]; rfl)⟩
        · refine lv_aload_n hx hb dX5_comesFrom_19 rfl (lv_at hl 0 rfl) ?_
          refine x_getr frC_19_8 F hw fo_X5_18 dX5_comesFrom_20 ?_
          refine lv_iload_n hx hb dX5_comesFrom_23 rfl (lv_at hl 3 rfl) ?_
          have hs9 := (hs a c16).2
          refine x_iald aiC_22 F hw a rfl (by omega) dX5_comesFrom_24 ?_
          refine x_top (y := nI (src a)) (hs a c16).1 ?_
          refine lv_istore_n (lv' := [(3, .int (nI (src a))), (0, .ref (q 19)), (1, .int (nI fm)), (2, .int (nI pa)), (4, .int (nI i))]) hx hb dX5_comesFrom_25 rfl hl (Nat.le_of_ble_eq_true rfl) rfl (fun ls hl => ?_)
          refine lv_iinc (v := nI (i + 1)) (lv' := [(4, .int (nI (i + 1))), (3, .int (nI (src a))), (0, .ref (q 19)), (1, .int (nI fm)), (2, .int (nI pa))]) hx hb dX5_comesFrom_26 hl (k := 4) rfl (nI_1 _) (Nat.le_of_ble_eq_true rfl) rfl (fun ls hl => ?_)
          refine lv_goto (tgt := 5) hx hb dX5_comesFrom_29 rfl ?_
          exact ih5_ (i + 1) (src a) _ _ _ (by first | omega | (simp only [] at *; omega)) (by first | assumption | omega | rfl) (by first | assumption | omega | rfl) (by rw [h1, show tpiN S - i = tpiN S - (i + 1) + 1 by omega, wlk_y c16]) hw (lv_sub hl [2, 3, 4, 1, 0] rfl)
  exact K5 _ 0 fm _ _ _ (Nat.lt_succ_self _) (by first | assumption | omega | rfl) (by first | assumption | omega | rfl) (by rfl) hw (lv_sub hl [2, 3, 4, 1, 0] rfl)
set_option maxHeartbeats 4000000 in
set_option maxRecDepth 20000 in
theorem c_X5_put (l : Launch) (D : va_G) (k : Nat → ClassId) (q z : Nat → Nat) (g : Nat → Option Nat) (S : St) (X : va_W) (row : Int32) (co : Int32) (cn : Nat) (hc : S 43 0 = nI cn) (h0 : cn < z 0) (h1 : cn < z 1) (h2 : z 0 < 2 ^ 31) (h3 : z 1 < 2 ^ 31) : CV l D k yX5_put cX5_put 3 0 0 0 [.ref (q 19), .int row, .int co] (wC k q z g S X) (fun w' => w' = wC k q z g (va_up (va_up (va_up S 20 (upd (S 20) cn row)) 21 (upd (S 21) cn co)) 43 (fun _ => nI (cn + 1))) X) := by
  refine CV.mk (by decide) (Nat.le_of_ble_eq_true rfl) ?_
  intro p e R s m args below meth c A Q ls F hnm hret hw hl
  have hx := xs_hx F
  have hb := xs_hb F
  have hl : lv_has ls 3 [(0, .ref (q 19)), (1, .int row), (2, .int co)] := hl
  refine lv_aload_n hx hb dX5_put_0 rfl (lv_at hl 0 rfl) ?_
  refine x_geti fiC_43 F hw fo_X5_38 dX5_put_1 ?_
  refine x_top (y := nI cn) hc ?_
  refine lv_aload_n hx hb dX5_put_4 rfl (lv_at hl 0 rfl) ?_
  refine x_getr frC_19_2 F hw fo_X5_9 dX5_put_5 ?_
  refine x_alen (aiC_20 h2) F hw dX5_put_8 ?_
  refine x_icmp_ge cn (z 0) F (by omega) (by omega) (tgt := 54) dX5_put_9 rfl (fun c9 => ?_) (fun c9 => ?_)
  · exact absurd c9 (by omega)
  · refine lv_aload_n hx hb dX5_put_12 rfl (lv_at hl 0 rfl) ?_
    refine x_geti fiC_43 F hw fo_X5_38 dX5_put_13 ?_
    refine x_top (y := nI cn) hc ?_
    refine lv_aload_n hx hb dX5_put_16 rfl (lv_at hl 0 rfl) ?_
    refine x_getr frC_19_3 F hw fo_X5_15 dX5_put_17 ?_
    refine x_alen (aiC_21 h3) F hw dX5_put_20 ?_
    refine x_icmp_ge cn (z 1) F (by omega) (by omega) (tgt := 54) dX5_put_21 rfl (fun c21 => ?_) (fun c21 => ?_)
    · exact absurd c21 (by omega)
    · refine lv_aload_n hx hb dX5_put_24 rfl (lv_at hl 0 rfl) ?_
      refine x_getr frC_19_2 F hw fo_X5_9 dX5_put_25 ?_
      refine lv_aload_n hx hb dX5_put_28 rfl (lv_at hl 0 rfl) ?_
      refine x_geti fiC_43 F hw fo_X5_38 dX5_put_29 ?_
      refine x_top (y := nI cn) hc ?_
      refine lv_iload_n hx hb dX5_put_32 rfl (lv_at hl 1 rfl) ?_
      refine x_iast (aiC_20 h2) F hw cn rfl (by omega) dX5_put_33 (fun H locs hw => ?_)
      refine lv_aload_n hx hb dX5_put_34 rfl (lv_at hl 0 rfl) ?_
      refine x_getr frC_19_3 F hw fo_X5_15 dX5_put_35 ?_
      refine lv_aload_n hx hb dX5_put_38 rfl (lv_at hl 0 rfl) ?_
      refine x_geti fiC_43 F hw fo_X5_38 dX5_put_39 ?_
      refine x_top (y := S 43 0) rfl ?_
      refine x_top (y := nI cn) hc ?_
      refine lv_iload_n hx hb dX5_put_42 rfl (lv_at hl 2 rfl) ?_
      refine x_iast (aiC_21 h3) F hw cn rfl (by omega) dX5_put_43 (fun H locs hw => ?_)
      refine lv_aload_n hx hb dX5_put_44 rfl (lv_at hl 0 rfl) ?_
      refine lv_dup hx hb dX5_put_45 rfl ?_
      refine x_geti fiC_43 F hw fo_X5_38 dX5_put_46 ?_
      refine x_top (y := S 43 0) rfl ?_
      refine x_top (y := nI cn) hc ?_
      refine lv_iconst (v := nI 1) hx hb dX5_put_49 rfl ?_
      refine lv_iadd hx hb dX5_put_50 ?_
      refine x_top (y := nI (cn + 1)) (nI_add _ _) ?_
      refine x_puti fiC_43 F hw fo_X5_38 rfl rfl dX5_put_51 (fun H locs hw => ?_)
      exact hret _ _ _ _ _ dX5_put_54 hw rfl
/-! ===== all trees, in their order ===== -/
def catF (f : Nat → List (Int32 × Int32)) : Nat → List (Int32 × Int32)
  | 0 => []
  | i + 1 => catF f i ++ f i
theorem catF_len {f : Nat → List (Int32 × Int32)} : ∀ {n i : Nat}, i < n → (catF f i).length + (f i).length ≤ (catF f n).length
  | 0, i, h => absurd h (Nat.not_lt_zero _)
  | n + 1, i, h => by
    show _ ≤ (catF f n ++ f n).length
    rw [List.length_append]
    rcases Nat.lt_or_ge i n with h1 | h1
    · have := catF_len (f := f) h1
      omega
    · rw [show i = n by omega]; exact Nat.le_refl _
def gL (n : Nat) (mt : Nat → Nat → Bool) (tr : Nat → Nat → Int32) (nw : Int32) : Nat → Nat → Int32 → Int32 → (Nat → Nat) → List (Int32 × Int32)
  | 0, _, row, co, _ => [(row, co)]
  | m + 1, p, row, co, src =>
    catF (fun i => if (mt i p && !(wlk src p n i == p)) = true then gL n mt tr nw m (p + 1) (row ||| (nI i <<< (nI (4 * p) &&& 31))) (co + tr i p) (va_up src p i) else []) n ++
      gL n mt tr nw m (p + 1) (row ||| (nI 9 <<< (nI (4 * p) &&& 31))) (co + nw) (va_up src p 9)
def apL (f : Nat → Int32) (c : Nat) (L : List Int32) : Nat → Int32 := fun j => if c ≤ j ∧ j < c + L.length then L.getD (j - c) 0 else f j
theorem apL_0 {f : Nat → Int32} {c : Nat} : apL f c [] = f := by
  funext j
  unfold apL
  rw [if_neg (fun h => by have h2 := h.2; simp at h2; omega)]
theorem apL_1 {f : Nat → Int32} {c : Nat} {x : Int32} : apL f c [x] = upd f c x := by
  funext j
  unfold apL
  by_cases h : j = c
  · subst h
    rw [if_pos ⟨Nat.le_refl _, by simp⟩, pk_us, Nat.sub_self]; rfl
  · rw [if_neg (fun q => by have h2 := q.2; simp at h2; omega), pk_un h]
theorem apL_app {f : Nat → Int32} {c : Nat} {A B : List Int32} : apL (apL f c A) (c + A.length) B = apL f c (A ++ B) := by
  funext j
  unfold apL
  rw [List.length_append]
  by_cases h1 : c + A.length ≤ j ∧ j < c + A.length + B.length
  · rw [if_pos h1, if_pos ⟨by omega, by omega⟩]
    simp only [List.getD_eq_getElem?_getD]
    rw [List.getElem?_append_right (by omega)]
    congr 2
    omega
  · rw [if_neg h1]
    by_cases h2 : c ≤ j ∧ j < c + A.length
    · rw [if_pos h2, if_pos ⟨h2.1, by omega⟩]
      simp only [List.getD_eq_getElem?_getD]
      rw [List.getElem?_append_left (by omega)]
    · rw [if_neg h2, if_neg (by omega)]
def gS (S : St) : Nat → Nat → Int32 → Int32 → (Nat → Nat) → List (Int32 × Int32) := gL (tpiN S) (fun i p => S 30 (i * 6 + p) != 0) (fun i p => S (24 + i) p) (S 47 0)
def gPre (S : St) (m pa : Nat) (row co : Int32) (src : Nat → Nat) : Nat → List (Int32 × Int32) := catF (fun i => if ((S 30 (i * 6 + pa) != 0) && !(wlk src pa (tpiN S) i == pa)) = true then gS S m (pa + 1) (row ||| (nI i <<< (nI (4 * pa) &&& 31))) (co + S (24 + i) pa) (va_up src pa i) else [])
theorem gS_s (S : St) (m pa : Nat) (row co : Int32) (src : Nat → Nat) : gS S (m + 1) pa row co src = gPre S m pa row co src (tpiN S) ++ gS S m (pa + 1) (row ||| (nI 9 <<< (nI (4 * pa) &&& 31))) (co + S 47 0) (va_up src pa 9) := rfl
theorem gPre_y {S : St} {m pa : Nat} {row co : Int32} {src : Nat → Nat} {i : Nat} (h : ((S 30 (i * 6 + pa) != 0) && !(wlk src pa (tpiN S) i == pa)) = true) : gPre S m pa row co src (i + 1) = gPre S m pa row co src i ++ gS S m (pa + 1) (row ||| (nI i <<< (nI (4 * pa) &&& 31))) (co + S (24 + i) pa) (va_up src pa i) := by
  show gPre S m pa row co src i ++ (if _ then _ else _) = _
  rw [if_pos h]
theorem gPre_n {S : St} {m pa : Nat} {row co : Int32} {src : Nat → Nat} {i : Nat} (h : ((S 30 (i * 6 + pa) != 0) && !(wlk src pa (tpiN S) i == pa)) = false) : gPre S m pa row co src (i + 1) = gPre S m pa row co src i := by
  show gPre S m pa row co src i ++ (if _ then _ else _) = _
  rw [if_neg (by rw [h]; decide), List.append_nil]
theorem gPre_len {S : St} {m pa : Nat} {row co : Int32} {src : Nat → Nat} {i : Nat} (hi : i < tpiN S) (h : ((S 30 (i * 6 + pa) != 0) && !(wlk src pa (tpiN S) i == pa)) = true) : (gPre S m pa row co src i).length + (gS S m (pa + 1) (row ||| (nI i <<< (nI (4 * pa) &&& 31))) (co + S (24 + i) pa) (va_up src pa i)).length ≤ (gPre S m pa row co src (tpiN S)).length := by
  have := catF_len (f := fun i => if ((S 30 (i * 6 + pa) != 0) && !(wlk src pa (tpiN S) i == pa)) = true then gS S m (pa + 1) (row ||| (nI i <<< (nI (4 * pa) &&& 31))) (co + S (24 + i) pa) (va_up src pa i) else []) hi
  simp only [h, if_true] at this
  exact this
theorem gr_tr {S : St} {a b c_ d_ e_ : Nat → Int32} {i pa : Nat} (h : i < 6) : va_up (va_up (va_up (va_up (va_up S 43 a) 20 b) 21 c_) 22 d_) 22 e_ (24 + i) pa = S (24 + i) pa := by
  simp only [va_up]
  rw [if_neg (by omega), if_neg (by omega), if_neg (by omega), if_neg (by omega), if_neg (by omega)]
theorem gr_src {src : Nat → Nat} {sr : Nat → Int32} {pa v : Nat} (h : ∀ j, j < pa → sr j = nI (src j) ∧ src j ≤ 9) (hv : v ≤ 9) : ∀ j, j < pa + 1 → upd sr pa (nI v) j = nI (va_up src pa v j) ∧ va_up src pa v j ≤ 9 := by
  intro j hj
  by_cases e : j = pa
  · subst e
    rw [pk_us]
    simp [va_up, hv]
  · rw [pk_un e]
    simp only [va_up, if_neg e]
    exact h j (by omega)
set_option maxHeartbeats 4000000 in
set_option maxRecDepth 20000 in
theorem c_X5_grow_0 (l : Launch) (D : va_G) (k : Nat → ClassId) (q z : Nat → Nat) (g : Nat → Option Nat) (S : St) (X : va_W) (hQ : okQ S) (hz0 : z 0 < 2 ^ 31) (hz1 : z 1 < 2 ^ 31)  : ∀ (pa : Nat) (row co : Int32) (src : Nat → Nat) (cn : Nat) (rw_ cs sr : Nat → Int32), pa + 0 = tpiN S → (∀ j, j < pa → sr j = nI (src j) ∧ src j ≤ 9) → cn + (gS S 0 pa row co src).length ≤ z 0 → cn + (gS S 0 pa row co src).length ≤ z 1 → CV l D k yX5_grow cX5_grow 5 (0 + 1) 0 0 [.ref (q 19), .int (nI pa), .int row, .int co] (wC k q z g (trS S cn rw_ cs sr) X) (fun w' => ∃ sr', w' = wC k q z g (trS S (cn + (gS S 0 pa row co src).length) (apL rw_ cn ((gS S 0 pa row co src).map Prod.fst)) (apL cs cn ((gS S 0 pa row co src).map Prod.snd)) sr') X ∧ ∀ j, j < pa → sr' j = sr j) := by
  intro pa row co src cn rw_ cs sr hpm hs hc0 hc1
  have h6 := hQ.2
  have hc0 : cn + 1 ≤ z 0 := hc0
  have hc1 : cn + 1 ≤ z 1 := hc1
  refine CV.mk (by decide) (Nat.le_of_ble_eq_true rfl) ?_
  intro p e R s m args below meth c A Q ls F hnm hret hw hl
  have hx := xs_hx F
  have hb := xs_hb F
  have hl : lv_has ls 5 [(0, .ref (q 19)), (1, .int (nI pa)), (2, .int row), (3, .int co)] := hl
  refine lv_iload_n hx hb dX5_grow_0 rfl (lv_at hl 1 rfl) ?_
  refine lv_aload_n hx hb dX5_grow_1 rfl (lv_at hl 0 rfl) ?_
  refine x_geti fiC_46 F hw fo_X5_47 dX5_grow_2 ?_
  refine x_top (y := S 46 0) rfl ?_
  refine x_top (y := nI (tpiN S)) hQ.1 ?_
  refine x_icmp_lt pa (tpiN S) F (by omega) (by omega) (tgt := 15) dX5_grow_5 rfl (fun c5 => ?_) (fun c5 => ?_)
  · exact absurd c5 (by omega)
  · refine lv_aload_n hx hb dX5_grow_8 rfl (lv_at hl 0 rfl) ?_
    refine lv_iload_n hx hb dX5_grow_9 rfl (lv_at hl 2 rfl) ?_
    refine lv_iload_n hx hb dX5_grow_10 rfl (lv_at hl 3 rfl) ?_
    refine x_fVV (rest := []) (c_X5_put l D k q z g (va_up (va_up (va_up (va_up S 43 (fun _ => nI cn)) 20 rw_) 21 cs) 22 sr) X row co cn (by rfl) (by first | assumption | omega) (by first | assumption | omega) (by first | assumption | omega) (by first | assumption | omega)) mo_X5_83 obC_19 F hw (Nat.le_add_left _ _) (x_cs F (Nat.le_of_ble_eq_true rfl) (Nat.le_of_ble_eq_true rfl)) rfl rfl hl.1 (Nat.le_of_ble_eq_true rfl) dX5_grow_11 (fun H locs hw => ?_)
    exact hret _ _ _ _ _ dX5_grow_14 hw ⟨_, (by rw [show (gS S 0 pa row co src) = [(row, co)] from rfl]; simp only [List.map, apL_1]; rfl), fun j hj => rfl⟩
set_option maxHeartbeats 4000000 in
set_option maxRecDepth 20000 in
theorem c_X5_grow_s (l : Launch) (D : va_G) (k : Nat → ClassId) (q z : Nat → Nat) (g : Nat → Option Nat) (S : St) (X : va_W) (hQ : okQ S) (hz0 : z 0 < 2 ^ 31) (hz1 : z 1 < 2 ^ 31) (m_ : Nat) (ih : ∀ (pa : Nat) (row co : Int32) (src : Nat → Nat) (cn : Nat) (rw_ cs sr : Nat → Int32), pa + m_ = tpiN S → (∀ j, j < pa → sr j = nI (src j) ∧ src j ≤ 9) → cn + (gS S m_ pa row co src).length ≤ z 0 → cn + (gS S m_ pa row co src).length ≤ z 1 → CV l D k yX5_grow cX5_grow 5 (m_ + 1) 0 0 [.ref (q 19), .int (nI pa), .int row, .int co] (wC k q z g (trS S cn rw_ cs sr) X) (fun w' => ∃ sr', w' = wC k q z g (trS S (cn + (gS S m_ pa row co src).length) (apL rw_ cn ((gS S m_ pa row co src).map Prod.fst)) (apL cs cn ((gS S m_ pa row co src).map Prod.snd)) sr') X ∧ ∀ j, j < pa → sr' j = sr j)) : ∀ (pa : Nat) (row co : Int32) (src : Nat → Nat) (cn : Nat) (rw_ cs sr : Nat → Int32), pa + (m_ + 1) = tpiN S → (∀ j, j < pa → sr j = nI (src j) ∧ src j ≤ 9) → cn + (gS S (m_ + 1) pa row co src).length ≤ z 0 → cn + (gS S (m_ + 1) pa row co src).length ≤ z 1 → CV l D k yX5_grow cX5_grow 5 ((m_ + 1) + 1) 0 0 [.ref (q 19), .int (nI pa), .int row, .int co] (wC k q z g (trS S cn rw_ cs sr) X) (fun w' => ∃ sr', w' = wC k q z g (trS S (cn + (gS S (m_ + 1) pa row co src).length) (apL rw_ cn ((gS S (m_ + 1) pa row co src).map Prod.fst)) (apL cs cn ((gS S (m_ + 1) pa row co src).map Prod.snd)) sr') X ∧ ∀ j, j < pa → sr' j = sr j) := by
  intro pa row co src cn rw_ cs sr hpm hs hc0 hc1
  have h6 := hQ.2
  rw [gS_s, List.length_append] at hc0 hc1
  refine CV.mk (by decide) (Nat.le_of_ble_eq_true rfl) ?_
  intro p e R s m args below meth c A Q ls F hnm hret hw hl
  have hx := xs_hx F
  have hb := xs_hb F
  have hl : lv_has ls 5 [(0, .ref (q 19)), (1, .int (nI pa)), (2, .int row), (3, .int co)] := hl
  refine lv_iload_n hx hb dX5_grow_0 rfl (lv_at hl 1 rfl) ?_
  refine lv_aload_n hx hb dX5_grow_1 rfl (lv_at hl 0 rfl) ?_
  refine x_geti fiC_46 F hw fo_X5_47 dX5_grow_2 ?_
  refine x_top (y := S 46 0) rfl ?_
  refine x_top (y := nI (tpiN S)) hQ.1 ?_
  refine x_icmp_lt pa (tpiN S) F (by omega) (by omega) (tgt := 15) dX5_grow_5 rfl (fun c5 => ?_) (fun c5 => ?_)
  · refine lv_iconst (v := nI 0) hx hb dX5_grow_15 rfl ?_
    refine lv_istore (lv' := [(4, .int (nI 0)), (0, .ref (q 19)), (1, .int (nI pa)), (2, .int row), (3, .int co)]) hx hb dX5_grow_16 hl (Nat.le_of_ble_eq_true rfl) rfl (fun ls hl => ?_)
    have K18 : ∀ (n18_ : Nat) (i : Nat) (cn2 : Nat) (rw2 : Nat → Int32) (co2 : Nat → Int32) (sr2 : Nat → Int32) (H : Heap) (locs : List Loc) (ls : Array Slot), tpiN S - i < n18_ → (i ≤ tpiN S) → (cn2 = cn + (gPre S m_ pa row co src i).length) → (rw2 = apL rw_ cn ((gPre S m_ pa row co src i).map Prod.fst)) → (co2 = apL cs cn ((gPre S m_ pa row co src i).map Prod.snd)) → (∀ j, j < pa → sr2 j = sr j) → Wd D A s.heap H locs (wC k q z g (va_up (va_up (va_up (va_up S 43 (fun _ => nI cn2)) 20 rw2) 21 co2) 22 sr2) X) → lv_has ls 5 [(0, .ref (q 19)), (1, .int (nI pa)), (2, .int row), (3, .int co), (4, .int (nI i))] → W p l e R s m args below meth c H locs 0 0 Q (F0 m 18 ls []) := by
      intro n18_
      induction n18_ with
      | zero =>
        intro i cn2 rw2 co2 sr2 H locs ls hn18_
        exact absurd hn18_ (Nat.not_lt_zero _)
      | succ n18_ ih18_ =>
        intro i cn2 rw2 co2 sr2 H locs ls hn18_ hi h1 h2 h3 h4 hw hl
        refine lv_iload hx hb dX5_grow_18 (lv_at hl 4 rfl) ?_
        refine lv_aload_n hx hb dX5_grow_20 rfl (lv_at hl 0 rfl) ?_
        refine x_geti fiC_46 F hw fo_X5_47 dX5_grow_21 ?_
        refine x_top (y := S 46 0) rfl ?_
        refine x_top (y := nI (tpiN S)) hQ.1 ?_
        refine x_icmp_ge i (tpiN S) F (by omega) (by omega) (tgt := 92) dX5_grow_24 rfl (fun c24 => ?_) (fun c24 => ?_)
        · refine lv_aload_n hx hb dX5_grow_92 rfl (lv_at hl 0 rfl) ?_
          refine x_getr frC_19_8 F hw fo_X5_18 dX5_grow_93 ?_
          refine lv_iload_n hx hb dX5_grow_96 rfl (lv_at hl 1 rfl) ?_
          refine lv_bipush (v := nI 9) hx hb dX5_grow_97 rfl ?_
          refine x_iast aiC_22 F hw pa rfl (by omega) dX5_grow_99 (fun H locs hw => ?_)
          refine lv_aload_n hx hb dX5_grow_100 rfl (lv_at hl 0 rfl) ?_
          refine lv_iload_n hx hb dX5_grow_101 rfl (lv_at hl 1 rfl) ?_
          refine lv_iconst (v := nI 1) hx hb dX5_grow_102 rfl ?_
          refine lv_iadd hx hb dX5_grow_103 ?_
          refine x_top (y := nI (pa + 1)) (nI_add _ _) ?_
          refine lv_iload_n hx hb dX5_grow_104 rfl (lv_at hl 2 rfl) ?_
          refine lv_bipush (v := nI 9) hx hb dX5_grow_105 rfl ?_
          refine lv_iconst (v := nI 4) hx hb dX5_grow_107 rfl ?_
          refine lv_iload_n hx hb dX5_grow_108 rfl (lv_at hl 1 rfl) ?_
          refine lv_imul hx hb dX5_grow_109 ?_
          refine x_top (y := nI (4 * pa)) (pk_mul _ _) ?_
          refine lv_ishl hx hb dX5_grow_110 ?_
          refine lv_ior hx hb dX5_grow_111 ?_
          refine lv_iload_n hx hb dX5_grow_112 rfl (lv_at hl 3 rfl) ?_
          refine lv_aload_n hx hb dX5_grow_113 rfl (lv_at hl 0 rfl) ?_
          refine x_geti fiC_47 F hw fo_X5_51 dX5_grow_114 ?_
          refine x_top (y := S 47 0) rfl ?_
          refine lv_iadd hx hb dX5_grow_117 ?_
          refine x_callSV (rest := []) (ih (pa + 1) (row ||| ((nI 9) <<< ((nI (4 * pa)) &&& 31))) (co + (S 47 0)) (va_up src pa 9) cn2 rw2 co2 (upd sr2 pa (nI 9)) (by omega) (fun j hj => gr_src (fun j hj => ⟨(h4 j hj).trans (hs j hj).1, (hs j hj).2⟩) (by omega) j hj) (by rw [h1, show i = tpiN S by omega]; omega) (by rw [h1, show i = tpiN S by omega]; omega)) mo_X5_71 F hw (Nat.le_refl _) (x_cs F (Nat.le_of_ble_eq_true rfl) (Nat.le_of_ble_eq_true rfl)) rfl rfl hl.1 (Nat.le_of_ble_eq_true rfl) dX5_grow_118 (fun w_ H locs hp hw => ?_)
          obtain ⟨sr4, hp1, hp2⟩ := hp
          rw [hp1] at hw
          exact hret _ _ _ _ _ dX5_grow_121 hw ⟨sr4, (by rw [gS_s, List.length_append, List.map_append, List.map_append, ← apL_app, ← apL_app, List.length_map, List.length_map, ← Nat.add_assoc, show tpiN S = i by omega, ← h1, ← h2, ← h3]), fun j hj => (hp2 j (by omega)).trans ((pk_un (by omega)).trans (h4 j hj))⟩
        · refine lv_aload_n hx hb dX5_grow_27 rfl (lv_at hl 0 rfl) ?_
          refine x_getr frC_19_10 F hw fo_X5_26 dX5_grow_28 ?_
          refine lv_iload hx hb dX5_grow_31 (lv_at hl 4 rfl) ?_
          refine lv_bipush (v := nI 6) hx hb dX5_grow_33 rfl ?_
          refine lv_imul hx hb dX5_grow_35 ?_
          refine x_top (y := nI (i * 6)) (pk_mul _ _) ?_
          refine lv_iload_n hx hb dX5_grow_36 rfl (lv_at hl 1 rfl) ?_
          refine lv_iadd hx hb dX5_grow_37 ?_
          refine x_top (y := nI ((i * 6) + pa)) (nI_add _ _) ?_
          refine x_zald aiC_30 F hw ((i * 6) + pa) rfl (by omega) dX5_grow_38 ?_
          refine x_top (y := S 30 ((i * 6) + pa)) rfl ?_
          refine lv_if_eq (tgt := 86) hx hb dX5_grow_39 rfl (fun c39 => ?_) (fun c39 => ?_)
          · refine lv_iinc (v := nI (i + 1)) (lv' := [(4, .int (nI (i + 1))), (0, .ref (q 19)), (1, .int (nI pa)), (2, .int row), (3, .int co)]) hx hb dX5_grow_86 hl (k := 4) rfl (nI_1 _) (Nat.le_of_ble_eq_true rfl) rfl (fun ls hl => ?_)
            refine lv_goto (tgt := 18) hx hb dX5_grow_89 rfl ?_
            exact ih18_ (i + 1) cn2 rw2 co2 sr2 _ _ _ (by first | omega | (simp only [] at *; omega)) (by first | assumption | omega | rfl) (by first | (rw [gPre_n (by first | exact bA0 (bneF c39) | exact bA1 (by rw [b01_1.mp c49]; rfl)), ← h1]; done) | (rw [gPre_y (bAt (bneT c39) (by rw [b01_0.mp c49]; rfl)), List.length_append, h1, Nat.add_assoc])) (by first | (rw [gPre_n (by first | exact bA0 (bneF c39) | exact bA1 (by rw [b01_1.mp c49]; rfl))]; exact h2) | (rw [gPre_y (bAt (bneT c39) (by rw [b01_0.mp c49]; rfl)), List.map_append, ← apL_app, List.length_map, ← h1, ← h2])) (by first | (rw [gPre_n (by first | exact bA0 (bneF c39) | exact bA1 (by rw [b01_1.mp c49]; rfl))]; exact h3) | (rw [gPre_y (bAt (bneT c39) (by rw [b01_0.mp c49]; rfl)), List.map_append, ← apL_app, List.length_map, ← h1, ← h3])) (by first | exact h4 | exact fun j hj => (hp2 j (by omega)).trans ((pk_un (by omega)).trans (h4 j hj))) hw (lv_sub hl [1, 2, 3, 4, 0] rfl)
          · refine lv_aload_n hx hb dX5_grow_42 rfl (lv_at hl 0 rfl) ?_
            refine lv_iload hx hb dX5_grow_43 (lv_at hl 4 rfl) ?_
            refine lv_iload_n hx hb dX5_grow_45 rfl (lv_at hl 1 rfl) ?_
            refine x_fVI (rest := []) (c_X5_comesFrom l D k q z g (va_up (va_up (va_up (va_up S 43 (fun _ => nI cn2)) 20 rw2) 21 co2) 22 sr2) X i pa src (by exact hQ) (by omega) (by omega) (by exact fun j hj => ⟨(h4 j hj).trans (hs j hj).1, (hs j hj).2⟩)) mo_X5_87 obC_19 F hw (Nat.le_add_left _ _) (x_cs F (Nat.le_of_ble_eq_true rfl) (Nat.le_of_ble_eq_true rfl)) rfl rfl hl.1 (Nat.le_of_ble_eq_true rfl) dX5_grow_46 (fun H locs hw => ?_)
            refine x_top (y := b01 (wlk src pa (tpiN S) i == pa)) rfl ?_
            refine lv_if_ne (tgt := 86) hx hb dX5_grow_49 rfl (fun c49 => ?_) (fun c49 => ?_)
            · refine lv_iinc (v := nI (i + 1)) (lv' := [(4, .int (nI (i + 1))), (0, .ref (q 19)), (1, .int (nI pa)), (2, .int row), (3, .int co)]) hx hb dX5_grow_86 hl (k := 4) rfl (nI_1 _) (Nat.le_of_ble_eq_true rfl) rfl (fun ls hl => ?_)
              refine lv_goto (tgt := 18) hx hb dX5_grow_89 rfl ?_
              exact ih18_ (i + 1) cn2 rw2 co2 sr2 _ _ _ (by first | omega | (simp only [] at *; omega)) (by first | assumption | omega | rfl) (by first | (rw [gPre_n (by first | exact bA0 (bneF c39) | exact bA1 (by rw [b01_1.mp c49]; rfl)), ← h1]; done) | (rw [gPre_y (bAt (bneT c39) (by rw [b01_0.mp c49]; rfl)), List.length_append, h1, Nat.add_assoc])) (by first | (rw [gPre_n (by first | exact bA0 (bneF c39) | exact bA1 (by rw [b01_1.mp c49]; rfl))]; exact h2) | (rw [gPre_y (bAt (bneT c39) (by rw [b01_0.mp c49]; rfl)), List.map_append, ← apL_app, List.length_map, ← h1, ← h2])) (by first | (rw [gPre_n (by first | exact bA0 (bneF c39) | exact bA1 (by rw [b01_1.mp c49]; rfl))]; exact h3) | (rw [gPre_y (bAt (bneT c39) (by rw [b01_0.mp c49]; rfl)), List.map_append, ← apL_app, List.length_map, ← h1, ← h3])) (by first | exact h4 | exact fun j hj => (hp2 j (by omega)).trans ((pk_un (by omega)).trans (h4 j hj))) hw (lv_sub hl [1, 2, 3, 4, 0] rfl)
            · refine lv_aload_n hx hb dX5_grow_52 rfl (lv_at hl 0 rfl) ?_
              refine x_getr frC_19_8 F hw fo_X5_18 dX5_grow_53 ?_
              refine lv_iload_n hx hb dX5_grow_56 rfl (lv_at hl 1 rfl) ?_
              refine lv_iload hx hb dX5_grow_57 (lv_at hl 4 rfl) ?_
              refine x_iast aiC_22 F hw pa rfl (by omega) dX5_grow_59 (fun H locs hw => ?_)
              refine lv_aload_n hx hb dX5_grow_60 rfl (lv_at hl 0 rfl) ?_
              refine lv_iload_n hx hb dX5_grow_61 rfl (lv_at hl 1 rfl) ?_
              refine lv_iconst (v := nI 1) hx hb dX5_grow_62 rfl ?_
              refine lv_iadd hx hb dX5_grow_63 ?_
              refine x_top (y := nI (pa + 1)) (nI_add _ _) ?_
              refine lv_iload_n hx hb dX5_grow_64 rfl (lv_at hl 2 rfl) ?_
              refine lv_iload hx hb dX5_grow_65 (lv_at hl 4 rfl) ?_
              refine lv_iconst (v := nI 4) hx hb dX5_grow_67 rfl ?_
              refine lv_iload_n hx hb dX5_grow_68 rfl (lv_at hl 1 rfl) ?_
              refine lv_imul hx hb dX5_grow_69 ?_
              refine x_top (y := nI (4 * pa)) (pk_mul _ _) ?_
              refine lv_ishl hx hb dX5_grow_70 ?_
              refine lv_ior hx hb dX5_grow_71 ?_
              refine lv_iload_n hx hb dX5_grow_72 rfl (lv_at hl 3 rfl) ?_
              refine lv_aload_n hx hb dX5_grow_73 rfl (lv_at hl 0 rfl) ?_
              refine x_getr frC_19_9 F hw fo_X5_23 dX5_grow_74 ?_
              refine lv_iload hx hb dX5_grow_77 (lv_at hl 4 rfl) ?_
              refine x_grow giC_23 F hw i rfl (by omega) dX5_grow_79 ?_
              refine lv_iload_n hx hb dX5_grow_80 rfl (lv_at hl 1 rfl) ?_
              refine x_iald (aiC_trc (j := i) (by omega)) F hw pa rfl (by omega) dX5_grow_81 ?_
              refine x_top (y := (va_up (va_up (va_up (va_up (va_up S 43 (fun _ => nI cn2)) 20 rw2) 21 co2) 22 sr2) 22 (upd sr2 pa (nI i))) (24 + i) pa) rfl ?_
              refine x_top (y := S (24 + i) pa) (gr_tr (by omega)) ?_
              refine lv_iadd hx hb dX5_grow_82 ?_
              refine x_callSV (rest := []) (ih (pa + 1) (row ||| ((nI i) <<< ((nI (4 * pa)) &&& 31))) (co + (S (24 + i) pa)) (va_up src pa i) cn2 rw2 co2 (upd sr2 pa (nI i)) (by omega) (fun j hj => gr_src (fun j hj => ⟨(h4 j hj).trans (hs j hj).1, (hs j hj).2⟩) (by omega) j hj) (by have := gPre_len (m := m_) (row := row) (co := co) (src := src) c24 (bAt (bneT c39) (by rw [b01_0.mp c49]; rfl)); omega) (by have := gPre_len (m := m_) (row := row) (co := co) (src := src) c24 (bAt (bneT c39) (by rw [b01_0.mp c49]; rfl)); omega)) mo_X5_71 F hw (Nat.le_refl _) (x_cs F (Nat.le_of_ble_eq_true rfl) (Nat.le_of_ble_eq_true rfl)) rfl rfl hl.1 (Nat.le_of_ble_eq_true rfl) dX5_grow_83 (fun w_ H locs hp hw => ?_)
              obtain ⟨sr4, hp1, hp2⟩ := hp
              rw [hp1] at hw
              refine lv_iinc (v := nI (i + 1)) (lv' := [(4, .int (nI (i + 1))), (0, .ref (q 19)), (1, .int (nI pa)), (2, .int row), (3, .int co)]) hx hb dX5_grow_86 hl (k := 4) rfl (nI_1 _) (Nat.le_of_ble_eq_true rfl) rfl (fun ls hl => ?_)
              refine lv_goto (tgt := 18) hx hb dX5_grow_89 rfl ?_
              exact ih18_ (i + 1) (cn2 + (gS S m_ (pa + 1) (row ||| ((nI i) <<< ((nI (4 * pa)) &&& 31))) (co + (S (24 + i) pa)) (va_up src pa i)).length) (apL rw2 cn2 ((gS S m_ (pa + 1) (row ||| ((nI i) <<< ((nI (4 * pa)) &&& 31))) (co + (S (24 + i) pa)) (va_up src pa i)).map Prod.fst)) (apL co2 cn2 ((gS S m_ (pa + 1) (row ||| ((nI i) <<< ((nI (4 * pa)) &&& 31))) (co + (S (24 + i) pa)) (va_up src pa i)).map Prod.snd)) sr4 _ _ _ (by first | omega | (simp only [] at *; omega)) (by first | assumption | omega | rfl) (by first | (rw [gPre_n (by first | exact bA0 (bneF c39) | exact bA1 (by rw [b01_1.mp c49]; rfl)), ← h1]; done) | (rw [gPre_y (bAt (bneT c39) (by rw [b01_0.mp c49]; rfl)), List.length_append, h1, Nat.add_assoc])) (by first | (rw [gPre_n (by first | exact bA0 (bneF c39) | exact bA1 (by rw [b01_1.mp c49]; rfl))]; exact h2) | (rw [gPre_y (bAt (bneT c39) (by rw [b01_0.mp c49]; rfl)), List.map_append, ← apL_app, List.length_map, ← h1, ← h2])) (by first | (rw [gPre_n (by first | exact bA0 (bneF c39) | exact bA1 (by rw [b01_1.mp c49]; rfl))]; exact h3) | (rw [gPre_y (bAt (bneT c39) (by rw [b01_0.mp c49]; rfl)), List.map_append, ← apL_app, List.length_map, ← h1, ← h3])) (by first | exact h4 | exact fun j hj => (hp2 j (by omega)).trans ((pk_un (by omega)).trans (h4 j hj))) hw (lv_sub hl [1, 2, 3, 4, 0] rfl)
    exact K18 _ 0 cn rw_ cs sr _ _ _ (Nat.lt_succ_self _) (by first | assumption | omega | rfl) (by rfl) (by exact apL_0.symm) (by exact apL_0.symm) (by exact fun j hj => rfl) hw (lv_sub hl [1, 2, 3, 4, 0] rfl)
  · exact absurd c5 (by omega)
theorem c_X5_grow (l : Launch) (D : va_G) (k : Nat → ClassId) (q z : Nat → Nat) (g : Nat → Option Nat) (S : St) (X : va_W) (hQ : okQ S) (hz0 : z 0 < 2 ^ 31) (hz1 : z 1 < 2 ^ 31) (m : Nat) : ∀ (pa : Nat) (row co : Int32) (src : Nat → Nat) (cn : Nat) (rw_ cs sr : Nat → Int32), pa + m = tpiN S → (∀ j, j < pa → sr j = nI (src j) ∧ src j ≤ 9) → cn + (gS S m pa row co src).length ≤ z 0 → cn + (gS S m pa row co src).length ≤ z 1 → CV l D k yX5_grow cX5_grow 5 (m + 1) 0 0 [.ref (q 19), .int (nI pa), .int row, .int co] (wC k q z g (trS S cn rw_ cs sr) X) (fun w' => ∃ sr', w' = wC k q z g (trS S (cn + (gS S m pa row co src).length) (apL rw_ cn ((gS S m pa row co src).map Prod.fst)) (apL cs cn ((gS S m pa row co src).map Prod.snd)) sr') X ∧ ∀ j, j < pa → sr' j = sr j) := by
  induction m with
  | zero => exact c_X5_grow_0 l D k q z g S X hQ hz0 hz1
  | succ m ih => exact c_X5_grow_s l D k q z g S X hQ hz0 hz1 m ih
