/-! ===== grids in the state ===== -/
def grd (S : St) (b n : Nat) (M : Nat → Nat → Int32) : St := fun r => if b ≤ r ∧ r < b + n then M (r - b) else S r
theorem grd_at {S : St} {b n a : Nat} {M : Nat → Nat → Int32} (h : a < n) : grd S b n M (b + a) = M a := by
  unfold grd
  rw [if_pos ⟨Nat.le_add_right _ _, by omega⟩, Nat.add_sub_cancel_left]
theorem grd_upd {S : St} {b n a e : Nat} {v : Int32} {M : Nat → Nat → Int32} (h : a < n) : va_up (grd S b n M) (b + a) (upd (grd S b n M (b + a)) e v) = grd S b n (va_up M a (upd (M a) e v)) := by
  rw [grd_at h]
  funext r
  unfold grd
  by_cases hr : r = b + a
  · subst hr
    rw [if_pos ⟨Nat.le_add_right _ _, by omega⟩, Nat.add_sub_cancel_left]
    simp [va_up]
  · simp only [va_up, if_neg hr]
    by_cases hb : b ≤ r ∧ r < b + n
    · rw [if_pos hb, if_pos hb, if_neg (by omega)]
    · rw [if_neg hb, if_neg hb]
/-! ===== the law's text: pure words ===== -/
def sgnN (S : St) : Nat := (S 42 0).toNatClampNeg
def okT (S : St) : Prop := S 42 0 = nI (sgnN S) ∧ sgnN S ≤ 50
/-- how the signs are read: a place, or where they fail -/
def scn (f : Nat → Int32) : Nat → Sum Nat Nat
  | 0 => .inl 0
  | n + 1 => match scn f n with
    | .inr i => .inr i
    | .inl p => match nxt p (f n) with
      | some p' => .inl p'
      | none => .inr n
def fltR (f : Nat → Int32) (n : Nat) : Int32 := match scn f n with
  | .inr i => nI i
  | .inl p => if 4 ≤ p then (-6) else nI n
theorem scn_le (f : Nat → Int32) : ∀ n p, scn f n = .inl p → p ≤ 5
  | 0, p, h => by cases h; omega
  | n + 1, p, h => by
    unfold scn at h
    split at h
    · cases h
    · split at h
      · rename_i h2; cases h; exact nxt_lt h2
      · cases h
theorem scn_bad {f : Nat → Int32} {n i : Nat} (h : scn f n = .inr i) : ∀ m, n ≤ m → scn f m = .inr i
  | 0, hm => by rw [← Nat.le_zero.mp hm]; exact h
  | m + 1, hm => by
    rcases Nat.lt_or_ge m n with h1 | h1
    · rw [show m + 1 = n by omega]; exact h
    · unfold scn; rw [scn_bad h m h1]
theorem scn_some {f : Nat → Int32} {n p p' : Nat} (h : scn f n = .inl p) (h2 : nxt p (f n) = some p') : scn f (n + 1) = .inl p' := by unfold scn; rw [h]; simp only [h2]
theorem scn_none {f : Nat → Int32} {n p : Nat} (h : scn f n = .inl p) (h2 : nxt p (f n) = none) : scn f (n + 1) = .inr n := by unfold scn; rw [h]; simp only [h2]
theorem nxI_no {o : Option Nat} (h : nxI o (-1) = (-1)) (hb : ∀ j, o = some j → j ≤ 5) : o = none := by
  cases o with
  | none => rfl
  | some j =>
    have := hb j rfl
    rcases (show j = 0 ∨ j = 1 ∨ j = 2 ∨ j = 3 ∨ j = 4 ∨ j = 5 by omega) with rfl | rfl | rfl | rfl | rfl | rfl <;> exact absurd h (by decide)
theorem nxI_yes {o : Option Nat} {x : Int32} (h : ¬ nxI o x = x) : ∃ j, o = some j := by
  cases o with
  | none => exact absurd rfl h
  | some j => exact ⟨j, rfl⟩
set_option maxHeartbeats 4000000 in
set_option maxRecDepth 20000 in
theorem c_X3_append (l : Launch) (D : va_G) (k : Nat → ClassId) (q z : Nat → Nat) (g : Nat → Option Nat) (S : St) (X : va_W) (sg : Int32) (hT : S 42 0 = nI (sgnN S)) (h49 : sgnN S < 50) : CV l D k yX3_append cX3_append 2 0 0 0 [.ref (q 17), .int sg] (wC k q z g S X) (fun w' => w' = wC k q z g (va_up (va_up S 18 (upd (S 18) (sgnN S) sg)) 42 (fun _ => nI (sgnN S + 1))) X) := by
  refine CV.mk (by decide) (Nat.le_of_ble_eq_true rfl) ?_
  intro p e R s m args below meth c A Q ls F hnm hret hw hl
  have hx := xs_hx F
  have hb := xs_hb F
  have hl : lv_has ls 2 [(0, .ref (q 17)), (1, .int sg)] := hl
  refine lv_aload_n hx hb dX3_append_0 rfl (lv_at hl 0 rfl) ?_
  refine x_geti fiC_42 F hw fo_X3_15 dX3_append_1 ?_
  refine x_top (y := nI (sgnN S)) hT ?_
  refine lv_bipush (v := nI 50) hx hb dX3_append_4 rfl ?_
  refine x_icmp_ge (sgnN S) 50 F (by omega) (by omega) (tgt := 29) dX3_append_6 rfl (fun c6 => ?_) (fun c6 => ?_)
  · exact absurd c6 (by omega)
  · refine lv_aload_n hx hb dX3_append_9 rfl (lv_at hl 0 rfl) ?_
    refine x_getr frC_17_1 F hw fo_X3_9 dX3_append_10 ?_
    refine lv_aload_n hx hb dX3_append_13 rfl (lv_at hl 0 rfl) ?_
    refine x_geti fiC_42 F hw fo_X3_15 dX3_append_14 ?_
    refine x_top (y := nI (sgnN S)) hT ?_
    refine lv_iload_n hx hb dX3_append_17 rfl (lv_at hl 1 rfl) ?_
    refine x_iast aiC_18 F hw (sgnN S) rfl (by omega) dX3_append_18 (fun H locs hw => ?_)
    refine lv_aload_n hx hb dX3_append_19 rfl (lv_at hl 0 rfl) ?_
    refine lv_dup hx hb dX3_append_20 rfl ?_
    refine x_geti fiC_42 F hw fo_X3_15 dX3_append_21 ?_
    refine x_top (y := S 42 0) rfl ?_
    refine x_top (y := nI (sgnN S)) hT ?_
    refine lv_iconst (v := nI 1) hx hb dX3_append_24 rfl ?_
    refine lv_iadd hx hb dX3_append_25 ?_
    refine x_top (y := nI ((sgnN S) + 1)) (nI_add _ _) ?_
    refine x_puti fiC_42 F hw fo_X3_15 rfl rfl dX3_append_26 (fun H locs hw => ?_)
    exact hret _ _ _ _ _ dX3_append_29 hw rfl
set_option maxHeartbeats 4000000 in
set_option maxRecDepth 20000 in
theorem c_X3_faultPlace (l : Launch) (D : va_G) (k : Nat → ClassId) (q z : Nat → Nat) (g : Nat → Option Nat) (S : St) (X : va_W) (hT : okT S) : CI l D k yX3_faultPlace cX3_faultPlace 3 (some .int) 3 0 0 [.ref (q 17)] (wC k q z g S X) (fun r w' => w' = wC k q z g S X ∧ r = fltR (S 18) (sgnN S)) := by
  refine CI.mk (by decide) (Nat.le_of_ble_eq_true rfl) ?_
  intro p e R s m args below meth c A Q ls F hret hw hl
  have hx := xs_hx F
  have hb := xs_hb F
  have hl : lv_has ls 3 [(0, .ref (q 17))] := hl
  have h50 := hT.2
  refine lv_iconst (v := nI 0) hx hb dX3_faultPlace_0 rfl ?_
  refine lv_istore_n (lv' := [(1, .int (nI 0)), (0, .ref (q 17))]) hx hb dX3_faultPlace_1 rfl hl (Nat.le_of_ble_eq_true rfl) rfl (fun ls hl => ?_)
  refine lv_iconst (v := nI 0) hx hb dX3_faultPlace_2 rfl ?_
  refine lv_istore_n (lv' := [(2, .int (nI 0)), (1, .int (nI 0)), (0, .ref (q 17))]) hx hb dX3_faultPlace_3 rfl hl (Nat.le_of_ble_eq_true rfl) rfl (fun ls hl => ?_)
  have K4 : ∀ (n4_ : Nat) (i : Nat) (pl : Nat) (H : Heap) (locs : List Loc) (ls : Array Slot), sgnN S - i < n4_ → (i ≤ sgnN S) → (scn (S 18) i = .inl pl) → Wd D A s.heap H locs (wC k q z g S X) → lv_has ls 3 [(0, .ref (q 17)), (1, .int (nI pl)), (2, .int (nI i))] → W p l e R s m args below meth c H locs 0 0 Q (F0 m 4 ls []) := by
    intro n4_
    induction n4_ with
    | zero =>
      intro i pl H locs ls hn4_
      exact absurd hn4_ (Nat.not_lt_zero _)
    | succ n4_ ih4_ =>
      intro i pl H locs ls hn4_ hi h1 hw hl
      have hp5 := scn_le (S 18) i pl h1
      refine lv_iload_n hx hb dX3_faultPlace_4 rfl (lv_at hl 2 rfl) ?_
      refine lv_aload_n hx hb dX3_faultPlace_5 rfl (lv_at hl 0 rfl) ?_
      refine x_geti fiC_42 F hw fo_X3_15 dX3_faultPlace_6 ?_
      refine x_top (y := nI (sgnN S)) hT.1 ?_
      refine x_icmp_ge i (sgnN S) F (by omega) (by omega) (tgt := 36) dX3_faultPlace_9 rfl (fun c9 => ?_) (fun c9 => ?_)
      · refine lv_iload_n hx hb dX3_faultPlace_36 rfl (lv_at hl 1 rfl) ?_
        refine lv_iconst (v := nI 4) hx hb dX3_faultPlace_37 rfl ?_
        refine x_icmp_lt pl 4 F (by omega) (by omega) (tgt := 46) dX3_faultPlace_38 rfl (fun c38 => ?_) (fun c38 => ?_)
        · refine lv_aload_n hx hb dX3_faultPlace_46 rfl (lv_at hl 0 rfl) ?_
          refine x_geti fiC_42 F hw fo_X3_15 dX3_faultPlace_47 ?_
          refine x_top (y := nI (sgnN S)) hT.1 ?_
          exact hret _ _ _ _ _ _ dX3_faultPlace_50 hw rfl ⟨rfl, by unfold fltR; rw [show sgnN S = i by omega, h1]; first | exact (if_pos c38).symm | exact (if_neg (by omega)).symm⟩
        · refine lv_bipush (v := (-6)) hx hb dX3_faultPlace_41 rfl ?_
          refine lv_goto (tgt := 50) hx hb dX3_faultPlace_43 rfl ?_
          exact hret _ _ _ _ _ _ dX3_faultPlace_50 hw rfl ⟨rfl, by unfold fltR; rw [show sgnN S = i by omega, h1]; first | exact (if_pos c38).symm | exact (if_neg (by omega)).symm⟩
      · refine lv_iload_n hx hb dX3_faultPlace_12 rfl (lv_at hl 1 rfl) ?_
        refine lv_aload_n hx hb dX3_faultPlace_13 rfl (lv_at hl 0 rfl) ?_
        refine x_getr frC_17_1 F hw fo_X3_9 dX3_faultPlace_14 ?_
        refine lv_iload_n hx hb dX3_faultPlace_17 rfl (lv_at hl 2 rfl) ?_
        refine x_iald aiC_18 F hw i rfl (by omega) dX3_faultPlace_18 ?_
        refine x_fSI (rest := []) (c_X3_placeAfter l D k (wC k q z g S X) pl (S 18 i) (by first | assumption | omega)) mo_X3_19 F hw (Nat.le_of_ble_eq_true rfl) (x_cs F (Nat.le_of_ble_eq_true rfl) (Nat.le_of_ble_eq_true rfl)) rfl rfl hl.1 (Nat.le_of_ble_eq_true rfl) dX3_faultPlace_19 (fun H locs hw => ?_)
        refine lv_istore_n (lv' := [(1, .int (nxI (nxt pl (S 18 i)) (-1))), (0, .ref (q 17)), (2, .int (nI i))]) hx hb dX3_faultPlace_22 rfl hl (Nat.le_of_ble_eq_true rfl) rfl (fun ls hl => ?_)
        refine lv_iload_n hx hb dX3_faultPlace_23 rfl (lv_at hl 0 rfl) ?_
        refine lv_iconst (v := (-1)) hx hb dX3_faultPlace_24 rfl ?_
        refine lv_icmp_ne (tgt := 30) hx hb dX3_faultPlace_25 rfl (fun c25 => ?_) (fun c25 => ?_)
        · obtain ⟨p2, hp2⟩ := nxI_yes c25
          have hq2 := nxt_lt hp2
          have hl : lv_has ls 3 [(1, .int (nI p2)), (0, .ref (q 17)), (2, .int (nI i))] := by rw [hp2] at hl; exact hl
          refine lv_iinc (v := nI (i + 1)) (lv' := [(2, .int (nI (i + 1))), (1, .int (nI p2)), (0, .ref (q 17))]) hx hb dX3_faultPlace_30 hl (k := 2) rfl (nI_1 _) (Nat.le_of_ble_eq_true rfl) rfl (fun ls hl => ?_)
          refine lv_goto (tgt := 4) hx hb dX3_faultPlace_33 rfl ?_
          exact ih4_ (i + 1) p2 _ _ _ (by first | omega | (simp only [] at *; omega)) (by first | assumption | omega | rfl) (by exact scn_some h1 hp2) hw (lv_sub hl [2, 1, 0] rfl)
        · refine lv_iload_n hx hb dX3_faultPlace_28 rfl (lv_at hl 2 rfl) ?_
          exact hret _ _ _ _ _ _ dX3_faultPlace_29 hw rfl ⟨rfl, by unfold fltR; rw [scn_bad (scn_none h1 (nxI_no c25 (fun j hj => nxt_lt hj))) _ (by omega)]⟩
  exact K4 _ 0 0 _ _ _ (Nat.lt_succ_self _) (by first | assumption | omega | rfl) (by rfl) hw (lv_sub hl [2, 1, 0] rfl)
def fillU (M : Nat → Nat → Int32) (fr to co : Int32) (n : Nat) : Nat → Nat → Int32 := fun i j => if 4 * i + j < n ∧ j < 4 ∧ (fitK fr i && fitK to j && M i j == (-1)) = true then co else M i j
theorem fillU_at {M : Nat → Nat → Int32} {fr to co : Int32} {a b : Nat} : fillU M fr to co (4 * a + b) a b = M a b := by
  unfold fillU
  rw [if_neg (fun h => absurd h.1 (Nat.lt_irrefl _))]
theorem fillU_y {M : Nat → Nat → Int32} {fr to co : Int32} {a b : Nat} (hb : b < 4) (h : (fitK fr a && fitK to b && M a b == (-1)) = true) : va_up (fillU M fr to co (4 * a + b)) a (upd (fillU M fr to co (4 * a + b) a) b co) = fillU M fr to co (4 * a + (b + 1)) := by
  funext i j
  by_cases hi : i = a
  · subst hi
    by_cases hj : j = b
    · subst hj
      simp only [va_up, if_true, pk_us]
      unfold fillU
      rw [if_pos ⟨by omega, hb, h⟩]
    · simp only [va_up, if_true, pk_un hj]
      unfold fillU
      by_cases q : 4 * i + j < 4 * i + b ∧ j < 4 ∧ (fitK fr i && fitK to j && M i j == (-1)) = true
      · rw [if_pos q, if_pos ⟨by omega, q.2⟩]
      · rw [if_neg q, if_neg (fun z => q ⟨by omega, z.2⟩)]
  · simp only [va_up, if_neg hi]
    unfold fillU
    by_cases q : 4 * i + j < 4 * a + b ∧ j < 4 ∧ (fitK fr i && fitK to j && M i j == (-1)) = true
    · rw [if_pos q, if_pos ⟨by omega, q.2⟩]
    · rw [if_neg q, if_neg (fun z => q ⟨by omega, z.2⟩)]
theorem fillU_n {M : Nat → Nat → Int32} {fr to co : Int32} {a b : Nat} (hb : b < 4) (h : (fitK fr a && fitK to b && M a b == (-1)) = false) : fillU M fr to co (4 * a + b) = fillU M fr to co (4 * a + (b + 1)) := by
  funext i j
  unfold fillU
  by_cases q : 4 * i + j < 4 * a + b ∧ j < 4 ∧ (fitK fr i && fitK to j && M i j == (-1)) = true
  · rw [if_pos q, if_pos ⟨by omega, q.2⟩]
  · rw [if_neg q, if_neg (fun z => ?_)]
    by_cases e : i = a ∧ j = b
    · rw [e.1, e.2, h] at z; exact absurd z.2.2 (by decide)
    · exact q ⟨by omega, z.2⟩
theorem fillU_0 {M : Nat → Nat → Int32} {fr to co : Int32} : fillU M fr to co 0 = M := by
  funext i j
  unfold fillU
  rw [if_neg (fun h => absurd h.1 (Nat.not_lt_zero _))]
/-- the slips before a law is read: 0 where alike, else -1 -/
def inU (M : Nat → Nat → Int32) (n : Nat) : Nat → Nat → Int32 := fun i j => if 4 * i + j < n ∧ j < 4 then (if i = j then nI 0 else (-1)) else M i j
theorem inU_s {M : Nat → Nat → Int32} {a b : Nat} {v : Int32} (hb : b < 4) (hv : v = if a = b then nI 0 else (-1)) : va_up (inU M (4 * a + b)) a (upd (inU M (4 * a + b) a) b v) = inU M (4 * a + (b + 1)) := by
  funext i j
  by_cases hi : i = a
  · subst hi
    by_cases hj : j = b
    · subst hj
      simp only [va_up, if_true, pk_us]
      unfold inU
      rw [if_pos ⟨by omega, hb⟩, hv]
    · simp only [va_up, if_true, pk_un hj]
      unfold inU
      by_cases q : 4 * i + j < 4 * i + b ∧ j < 4
      · rw [if_pos q]; exact (if_pos ⟨by omega, q.2⟩).symm
      · rw [if_neg q, if_neg (fun z => q ⟨by omega, z.2⟩)]
  · simp only [va_up, if_neg hi]
    unfold inU
    by_cases q : 4 * i + j < 4 * a + b ∧ j < 4
    · rw [if_pos q]; exact (if_pos ⟨by omega, q.2⟩).symm
    · rw [if_neg q, if_neg (fun z => q ⟨by omega, z.2⟩)]
theorem inU_0 {M : Nat → Nat → Int32} : inU M 0 = M := by
  funext i j
  unfold inU
  rw [if_neg (fun h => absurd h.1 (Nat.not_lt_zero _))]
set_option maxHeartbeats 4000000 in
set_option maxRecDepth 20000 in
theorem c_X3_fill (l : Launch) (D : va_G) (k : Nat → ClassId) (q z : Nat → Nat) (g : Nat → Option Nat) (S : St) (X : va_W) (M : Nat → Nat → Int32) (fr to co : Int32) : CV l D k yX3_fill cX3_fill 6 1 0 0 [.ref (q 7), .int fr, .int to, .int co] (wC k q z g (grd S 8 4 M) X) (fun w' => w' = wC k q z g (grd S 8 4 (fillU M fr to co 16)) X) := by
  refine CV.mk (by decide) (Nat.le_of_ble_eq_true rfl) ?_
  intro p e R s m args below meth c A Q ls F hnm hret hw hl
  have hx := xs_hx F
  have hb := xs_hb F
  have hl : lv_has ls 6 [(0, .ref (q 7)), (1, .int fr), (2, .int to), (3, .int co)] := hl
  refine lv_iconst (v := nI 0) hx hb dX3_fill_0 rfl ?_
  refine lv_istore (lv' := [(4, .int (nI 0)), (0, .ref (q 7)), (1, .int fr), (2, .int to), (3, .int co)]) hx hb dX3_fill_1 hl (Nat.le_of_ble_eq_true rfl) rfl (fun ls hl => ?_)
  have K3 : ∀ (n3_ : Nat) (i : Nat) (T : Nat → Nat → Int32) (H : Heap) (locs : List Loc) (ls : Array Slot), 4 - i < n3_ → (i ≤ 4) → (T = fillU M fr to co (4 * i)) → Wd D A s.heap H locs (wC k q z g (grd S 8 4 T) X) → lv_has ls 6 [(0, .ref (q 7)), (1, .int fr), (2, .int to), (3, .int co), (4, .int (nI i))] → W p l e R s m args below meth c H locs 0 0 Q (F0 m 3 ls []) := by
    intro n3_
    induction n3_ with
    | zero =>
      intro i T H locs ls hn3_
      exact absurd hn3_ (Nat.not_lt_zero _)
    | succ n3_ ih3_ =>
      intro i T H locs ls hn3_ hi h1 hw hl
      refine lv_iload hx hb dX3_fill_3 (lv_at hl 4 rfl) ?_
      refine lv_iconst (v := nI 4) hx hb dX3_fill_5 rfl ?_
      refine x_icmp_ge i 4 F (by omega) (by omega) (tgt := 67) dX3_fill_6 rfl (fun c6 => ?_) (fun c6 => ?_)
      · exact hret _ _ _ _ _ dX3_fill_67 hw (by rw [h1, show 4 * i = 16 by omega])
      · refine lv_iconst (v := nI 0) hx hb dX3_fill_9 rfl ?_
        refine lv_istore (lv' := [(5, .int (nI 0)), (0, .ref (q 7)), (1, .int fr), (2, .int to), (3, .int co), (4, .int (nI i))]) hx hb dX3_fill_10 hl (Nat.le_of_ble_eq_true rfl) rfl (fun ls hl => ?_)
        have K12 : ∀ (n12_ : Nat) (j : Nat) (T : Nat → Nat → Int32) (H : Heap) (locs : List Loc) (ls : Array Slot), 4 - j < n12_ → (j ≤ 4) → (T = fillU M fr to co (4 * i + j)) → Wd D A s.heap H locs (wC k q z g (grd S 8 4 T) X) → lv_has ls 6 [(0, .ref (q 7)), (1, .int fr), (2, .int to), (3, .int co), (4, .int (nI i)), (5, .int (nI j))] → W p l e R s m args below meth c H locs 0 0 Q (F0 m 12 ls []) := by
          intro n12_
          induction n12_ with
          | zero =>
            intro j T H locs ls hn12_
            exact absurd hn12_ (Nat.not_lt_zero _)
          | succ n12_ ih12_ =>
            intro j T H locs ls hn12_ hj h2 hw hl
            refine lv_iload hx hb dX3_fill_12 (lv_at hl 5 rfl) ?_
            refine lv_iconst (v := nI 4) hx hb dX3_fill_14 rfl ?_
            refine x_icmp_ge j 4 F (by omega) (by omega) (tgt := 61) dX3_fill_15 rfl (fun c15 => ?_) (fun c15 => ?_)
            · refine lv_iinc (v := nI (i + 1)) (lv' := [(4, .int (nI (i + 1))), (0, .ref (q 7)), (1, .int fr), (2, .int to), (3, .int co), (5, .int (nI j))]) hx hb dX3_fill_61 hl (k := 4) rfl (nI_1 _) (Nat.le_of_ble_eq_true rfl) rfl (fun ls hl => ?_)
              refine lv_goto (tgt := 3) hx hb dX3_fill_64 rfl ?_
              exact ih3_ (i + 1) T _ _ _ (by first | omega | (simp only [] at *; omega)) (by first | assumption | omega | rfl) (by rw [h2, show 4 * i + j = 4 * (i + 1) by omega]) hw (lv_sub hl [1, 2, 3, 4, 0] rfl)
            · refine lv_iload_n hx hb dX3_fill_18 rfl (lv_at hl 1 rfl) ?_
              refine lv_iload hx hb dX3_fill_19 (lv_at hl 4 rfl) ?_
              refine x_fSI (rest := []) (c_X3_fits l D k (wC k q z g (grd S 8 4 T) X) fr i) mo_X3_39 F hw (Nat.le_of_ble_eq_true rfl) (x_cs F (Nat.le_of_ble_eq_true rfl) (Nat.le_of_ble_eq_true rfl)) rfl rfl hl.1 (Nat.le_of_ble_eq_true rfl) dX3_fill_21 (fun H locs hw => ?_)
              refine lv_if_eq (tgt := 55) hx hb dX3_fill_24 rfl (fun c24 => ?_) (fun c24 => ?_)
              · refine lv_iinc (v := nI (j + 1)) (lv' := [(5, .int (nI (j + 1))), (0, .ref (q 7)), (1, .int fr), (2, .int to), (3, .int co), (4, .int (nI i))]) hx hb dX3_fill_55 hl (k := 5) rfl (nI_1 _) (Nat.le_of_ble_eq_true rfl) rfl (fun ls hl => ?_)
                refine lv_goto (tgt := 12) hx hb dX3_fill_58 rfl ?_
                exact ih12_ (j + 1) T _ _ _ (by first | omega | (simp only [] at *; omega)) (by first | assumption | omega | rfl) (by first | exact h2.trans (fillU_n (by omega) (bA0 (bA0 (b01_0.mp c24)))) | exact h2.trans (fillU_n (by omega) (bA0 (bA1 (b01_0.mp c33)))) | exact h2.trans (fillU_n (by omega) (bA1 (beqF c44))) | (rw [h2]; exact fillU_y (by omega) (bAt (bAt (b01_1.mp c24) (b01_1.mp c33)) (beqT c44)))) hw (lv_sub hl [1, 2, 3, 4, 5, 0] rfl)
              · refine lv_iload_n hx hb dX3_fill_27 rfl (lv_at hl 2 rfl) ?_
                refine lv_iload hx hb dX3_fill_28 (lv_at hl 5 rfl) ?_
                refine x_fSI (rest := []) (c_X3_fits l D k (wC k q z g (grd S 8 4 T) X) to j) mo_X3_39 F hw (Nat.le_of_ble_eq_true rfl) (x_cs F (Nat.le_of_ble_eq_true rfl) (Nat.le_of_ble_eq_true rfl)) rfl rfl hl.1 (Nat.le_of_ble_eq_true rfl) dX3_fill_30 (fun H locs hw => ?_)
                refine lv_if_eq (tgt := 55) hx hb dX3_fill_33 rfl (fun c33 => ?_) (fun c33 => ?_)
                · refine lv_iinc (v := nI (j + 1)) (lv' := [(5, .int (nI (j + 1))), (0, .ref (q 7)), (1, .int fr), (2, .int to), (3, .int co), (4, .int (nI i))]) hx hb dX3_fill_55 hl (k := 5) rfl (nI_1 _) (Nat.le_of_ble_eq_true rfl) rfl (fun ls hl => ?_)
                  refine lv_goto (tgt := 12) hx hb dX3_fill_58 rfl ?_
                  exact ih12_ (j + 1) T _ _ _ (by first | omega | (simp only [] at *; omega)) (by first | assumption | omega | rfl) (by first | exact h2.trans (fillU_n (by omega) (bA0 (bA0 (b01_0.mp c24)))) | exact h2.trans (fillU_n (by omega) (bA0 (bA1 (b01_0.mp c33)))) | exact h2.trans (fillU_n (by omega) (bA1 (beqF c44))) | (rw [h2]; exact fillU_y (by omega) (bAt (bAt (b01_1.mp c24) (b01_1.mp c33)) (beqT c44)))) hw (lv_sub hl [1, 2, 3, 4, 5, 0] rfl)
                · refine lv_aload_n hx hb dX3_fill_36 rfl (lv_at hl 0 rfl) ?_
                  refine lv_iload hx hb dX3_fill_37 (lv_at hl 4 rfl) ?_
                  refine x_grow giC_7 F hw i rfl (by omega) dX3_fill_39 ?_
                  refine lv_iload hx hb dX3_fill_40 (lv_at hl 5 rfl) ?_
                  refine x_iald (aiC_slip (j := i) (by omega)) F hw j rfl (by omega) dX3_fill_42 ?_
                  refine x_top (y := T i j) (congrFun (grd_at (by omega)) _) ?_
                  refine x_top (y := M i j) (by rw [h2]; exact fillU_at) ?_
                  refine lv_iconst (v := (-1)) hx hb dX3_fill_43 rfl ?_
                  refine lv_icmp_ne (tgt := 55) hx hb dX3_fill_44 rfl (fun c44 => ?_) (fun c44 => ?_)
                  · refine lv_iinc (v := nI (j + 1)) (lv' := [(5, .int (nI (j + 1))), (0, .ref (q 7)), (1, .int fr), (2, .int to), (3, .int co), (4, .int (nI i))]) hx hb dX3_fill_55 hl (k := 5) rfl (nI_1 _) (Nat.le_of_ble_eq_true rfl) rfl (fun ls hl => ?_)
                    refine lv_goto (tgt := 12) hx hb dX3_fill_58 rfl ?_
                    exact ih12_ (j + 1) T _ _ _ (by first | omega | (simp only [] at *; omega)) (by first | assumption | omega | rfl) (by first | exact h2.trans (fillU_n (by omega) (bA0 (bA0 (b01_0.mp c24)))) | exact h2.trans (fillU_n (by omega) (bA0 (bA1 (b01_0.mp c33)))) | exact h2.trans (fillU_n (by omega) (bA1 (beqF c44))) | (rw [h2]; exact fillU_y (by omega) (bAt (bAt (b01_1.mp c24) (b01_1.mp c33)) (beqT c44)))) hw (lv_sub hl [1, 2, 3, 4, 5, 0] rfl)
                  · refine lv_aload_n hx hb dX3_fill_47 rfl (lv_at hl 0 rfl) ?_
                    refine lv_iload hx hb dX3_fill_48 (lv_at hl 4 rfl) ?_
                    refine x_grow giC_7 F hw i rfl (by omega) dX3_fill_50 ?_
                    refine lv_iload hx hb dX3_fill_51 (lv_at hl 5 rfl) ?_
                    refine lv_iload_n hx hb dX3_fill_53 rfl (lv_at hl 3 rfl) ?_
                    refine x_iast (aiC_slip (j := i) (by omega)) F hw j rfl (by omega) dX3_fill_54 (fun H locs hw => ?_)
                    rw [grd_upd (by omega)] at hw
                    refine lv_iinc (v := nI (j + 1)) (lv' := [(5, .int (nI (j + 1))), (0, .ref (q 7)), (1, .int fr), (2, .int to), (3, .int co), (4, .int (nI i))]) hx hb dX3_fill_55 hl (k := 5) rfl (nI_1 _) (Nat.le_of_ble_eq_true rfl) rfl (fun ls hl => ?_)
                    refine lv_goto (tgt := 12) hx hb dX3_fill_58 rfl ?_
                    exact ih12_ (j + 1) (va_up T i (upd (T i) j co)) _ _ _ (by first | omega | (simp only [] at *; omega)) (by first | assumption | omega | rfl) (by first | exact h2.trans (fillU_n (by omega) (bA0 (bA0 (b01_0.mp c24)))) | exact h2.trans (fillU_n (by omega) (bA0 (bA1 (b01_0.mp c33)))) | exact h2.trans (fillU_n (by omega) (bA1 (beqF c44))) | (rw [h2]; exact fillU_y (by omega) (bAt (bAt (b01_1.mp c24) (b01_1.mp c33)) (beqT c44)))) hw (lv_sub hl [1, 2, 3, 4, 5, 0] rfl)
        exact K12 _ 0 T _ _ _ (Nat.lt_succ_self _) (by first | assumption | omega | rfl) (by exact h1) hw (lv_sub hl [1, 2, 3, 4, 5, 0] rfl)
  exact K3 _ 0 M _ _ _ (Nat.lt_succ_self _) (by first | assumption | omega | rfl) (by exact fillU_0.symm) hw (lv_sub hl [1, 2, 3, 4, 0] rfl)
def plF (f : Nat → Int32) : Nat → Nat
  | 0 => 0
  | i + 1 => (nxt (plF f i) (f i)).getD 9
def frF (f : Nat → Int32) : Nat → Int32
  | 0 => nI 0
  | i + 1 => if plF f i = 0 then f i else frF f i
def toF (f : Nat → Int32) : Nat → Int32
  | 0 => nI 0
  | i + 1 => if plF f i = 1 then f i else toF f i
def coF (f : Nat → Int32) : Nat → Int32
  | 0 => nI 0
  | i + 1 => if plF f i = 3 then f i - nI 48 else if plF f i = 4 ∧ isDg (f i) = true then coF f i * nI 10 + f i - nI 48 else coF f i
def lnE (f : Nat → Int32) (n i : Nat) : Bool := decide (i = n - 1) || f i == nI 59
def liF (f : Nat → Int32) (n : Nat) : Nat → Nat
  | 0 => 0
  | i + 1 => if lnE f n i then liF f n i + 1 else liF f n i
def mF (f : Nat → Int32) (n : Nat) (M0 : Nat → Nat → Int32) : Nat → Nat → Nat → Int32
  | 0 => M0
  | i + 1 => if lnE f n i then fillU (mF f n M0 i) (frF f (i + 1)) (toF f (i + 1)) (coF f (i + 1)) 16 else mF f n M0 i
theorem scn_pl {f : Nat → Int32} {n p : Nat} (h : scn f n = .inl p) : plF f n = p ∧ ∀ i, i ≤ n → scn f i = .inl (plF f i) := by
  induction n generalizing p with
  | zero => cases h; exact ⟨rfl, fun i hi => by rw [Nat.le_zero.mp hi]; rfl⟩
  | succ n ih =>
    cases hs : scn f n with
    | inr i => exact absurd (h.symm.trans (scn_bad hs _ (Nat.le_succ n))) (by simp)
    | inl p0 =>
      obtain ⟨e1, e2⟩ := ih hs
      cases hx : nxt p0 (f n) with
      | none => exact absurd (h.symm.trans (scn_none hs hx)) (by simp)
      | some p1 =>
        have h3 := h.symm.trans (scn_some hs hx)
        cases h3
        have e3 : plF f (n + 1) = p := by unfold plF; rw [e1, hx]; rfl
        refine ⟨e3, fun i hi => ?_⟩
        rcases Nat.lt_or_ge n i with q | q
        · rw [show i = n + 1 by omega, e3]; exact h
        · exact e2 i q
theorem pl_go {f : Nat → Int32} {n p i : Nat} (h : scn f n = .inl p) (hi : i < n) : plF f i ≤ 5 ∧ nxt (plF f i) (f i) = some (plF f (i + 1)) ∧ plF f (i + 1) ≤ 5 := by
  have h1 := (scn_pl h).2 i (by omega)
  have h2 := (scn_pl h).2 (i + 1) hi
  have b2 := scn_le f _ _ h2
  refine ⟨scn_le f _ _ h1, ?_, b2⟩
  cases hx : nxt (plF f i) (f i) with
  | none => exact absurd (h2.symm.trans (scn_none h1 hx)) (by simp)
  | some p1 => have := h2.symm.trans (scn_some h1 hx); cases this; rfl
def rdM (f : Nat → Int32) (n : Nat) (M : Nat → Nat → Int32) : Nat → Nat → Int32 := fillU (mF f n (inU M 16) n) (nI 42) (nI 42) (nI 10) 16
set_option maxHeartbeats 4000000 in
set_option maxRecDepth 20000 in
theorem c_X3_readInto (l : Launch) (D : va_G) (k : Nat → ClassId) (q z : Nat → Nat) (g : Nat → Option Nat) (S : St) (X : va_W) (hT : okT S) (hF : ∃ pq, scn (S 18) (sgnN S) = .inl pq) : CI l D k yX3_readInto cX3_readInto 10 (some .int) 4 0 0 [.ref (q 17), .ref (q 7)] (wC k q z g S X) (fun r w' => w' = wC k q z g (grd S 8 4 (rdM (S 18) (sgnN S) (fun a => S (8 + a)))) X ∧ r = nI (liF (S 18) (sgnN S) (sgnN S))) := by
  refine CI.mk (by decide) (Nat.le_of_ble_eq_true rfl) ?_
  intro p e R s m args below meth c A Q ls F hret hw hl
  have hx := xs_hx F
  have hb := xs_hb F
  have hl : lv_has ls 10 [(0, .ref (q 17)), (1, .ref (q 7))] := hl
  have h50 := hT.2
  obtain ⟨pq, hq⟩ := hF
  have hw : Wd D A s.heap s.heap [] (wC k q z g (grd S 8 4 (fun a => S (8 + a))) X) := hw
  refine lv_iconst (v := nI 0) hx hb dX3_readInto_0 rfl ?_
  refine lv_istore_n (lv' := [(2, .int (nI 0)), (0, .ref (q 17)), (1, .ref (q 7))]) hx hb dX3_readInto_1 rfl hl (Nat.le_of_ble_eq_true rfl) rfl (fun ls hl => ?_)
  have K2 : ∀ (n2_ : Nat) (i : Nat) (T : Nat → Nat → Int32) (H : Heap) (locs : List Loc) (ls : Array Slot), 4 - i < n2_ → (i ≤ 4) → (T = inU (fun a => S (8 + a)) (4 * i)) → Wd D A s.heap H locs (wC k q z g (grd S 8 4 T) X) → lv_has ls 10 [(0, .ref (q 17)), (1, .ref (q 7)), (2, .int (nI i))] → W p l e R s m args below meth c H locs 0 0 Q (F0 m 2 ls []) := by
    intro n2_
    induction n2_ with
    | zero =>
      intro i T H locs ls hn2_
      exact absurd hn2_ (Nat.not_lt_zero _)
    | succ n2_ ih2_ =>
      intro i T H locs ls hn2_ hi h1 hw hl
      refine lv_iload_n hx hb dX3_readInto_2 rfl (lv_at hl 2 rfl) ?_
      refine lv_iconst (v := nI 4) hx hb dX3_readInto_3 rfl ?_
      refine x_icmp_ge i 4 F (by omega) (by omega) (tgt := 41) dX3_readInto_4 rfl (fun c4 => ?_) (fun c4 => ?_)
      · refine lv_iconst (v := nI 0) hx hb dX3_readInto_41 rfl ?_
        refine lv_istore_n (lv' := [(2, .int (nI 0)), (0, .ref (q 17)), (1, .ref (q 7))]) hx hb dX3_readInto_42 rfl hl (Nat.le_of_ble_eq_true rfl) rfl (fun ls hl => ?_)
        refine lv_iconst (v := nI 0) hx hb dX3_readInto_43 rfl ?_
        refine lv_istore_n (lv' := [(3, .int (nI 0)), (2, .int (nI 0)), (0, .ref (q 17)), (1, .ref (q 7))]) hx hb dX3_readInto_44 rfl hl (Nat.le_of_ble_eq_true rfl) rfl (fun ls hl => ?_)
        refine lv_iconst (v := nI 0) hx hb dX3_readInto_45 rfl ?_
        refine lv_istore (lv' := [(4, .int (nI 0)), (3, .int (nI 0)), (2, .int (nI 0)), (0, .ref (q 17)), (1, .ref (q 7))]) hx hb dX3_readInto_46 hl (Nat.le_of_ble_eq_true rfl) rfl (fun ls hl => ?_)
        refine lv_iconst (v := nI 0) hx hb dX3_readInto_48 rfl ?_
        refine lv_istore (lv' := [(5, .int (nI 0)), (4, .int (nI 0)), (3, .int (nI 0)), (2, .int (nI 0)), (0, .ref (q 17)), (1, .ref (q 7))]) hx hb dX3_readInto_49 hl (Nat.le_of_ble_eq_true rfl) rfl (fun ls hl => ?_)
        refine lv_iconst (v := nI 0) hx hb dX3_readInto_51 rfl ?_
        refine lv_istore (lv' := [(6, .int (nI 0)), (5, .int (nI 0)), (4, .int (nI 0)), (3, .int (nI 0)), (2, .int (nI 0)), (0, .ref (q 17)), (1, .ref (q 7))]) hx hb dX3_readInto_52 hl (Nat.le_of_ble_eq_true rfl) rfl (fun ls hl => ?_)
        refine lv_iconst (v := nI 0) hx hb dX3_readInto_54 rfl ?_
        refine lv_istore (lv' := [(7, .int (nI 0)), (6, .int (nI 0)), (5, .int (nI 0)), (4, .int (nI 0)), (3, .int (nI 0)), (2, .int (nI 0)), (0, .ref (q 17)), (1, .ref (q 7))]) hx hb dX3_readInto_55 hl (Nat.le_of_ble_eq_true rfl) rfl (fun ls hl => ?_)
        have K57 : ∀ (n57_ : Nat) (i : Nat) (ln : Nat) (pl : Nat) (fr : Int32) (to : Int32) (co : Int32) (T : Nat → Nat → Int32) (H : Heap) (locs : List Loc) (ls : Array Slot), sgnN S - i < n57_ → (i ≤ sgnN S) → (pl = plF (S 18) i) → (fr = frF (S 18) i) → (to = toF (S 18) i) → (co = coF (S 18) i) → (ln = liF (S 18) (sgnN S) i) → (T = mF (S 18) (sgnN S) (inU (fun a => S (8 + a)) 16) i) → Wd D A s.heap H locs (wC k q z g (grd S 8 4 T) X) → lv_has ls 10 [(0, .ref (q 17)), (1, .ref (q 7)), (2, .int (nI ln)), (3, .int (nI pl)), (4, .int fr), (5, .int to), (6, .int co), (7, .int (nI i))] → W p l e R s m args below meth c H locs 0 0 Q (F0 m 57 ls []) := by
          intro n57_
          induction n57_ with
          | zero =>
            intro i ln pl fr to co T H locs ls hn57_
            exact absurd hn57_ (Nat.not_lt_zero _)
          | succ n57_ ih57_ =>
            intro i ln pl fr to co T H locs ls hn57_ hi e1 e2 e3 e4 e5 e6 hw hl
            have hp5 : pl ≤ 5 := by rw [e1]; exact scn_le _ _ _ ((scn_pl hq).2 i (by omega))
            refine lv_iload hx hb dX3_readInto_57 (lv_at hl 7 rfl) ?_
            refine lv_aload_n hx hb dX3_readInto_59 rfl (lv_at hl 0 rfl) ?_
            refine x_geti fiC_42 F hw fo_X3_15 dX3_readInto_60 ?_
            refine x_top (y := S 42 0) rfl ?_
            refine x_top (y := nI (sgnN S)) hT.1 ?_
            refine x_icmp_ge i (sgnN S) F (by omega) (by omega) (tgt := 195) dX3_readInto_63 rfl (fun c63 => ?_) (fun c63 => ?_)
            · refine lv_aload_n hx hb dX3_readInto_195 rfl (lv_at hl 1 rfl) ?_
              refine lv_bipush (v := nI 42) hx hb dX3_readInto_196 rfl ?_
              refine lv_bipush (v := nI 42) hx hb dX3_readInto_198 rfl ?_
              refine lv_bipush (v := nI 10) hx hb dX3_readInto_200 rfl ?_
              refine x_fSV (rest := []) (c_X3_fill l D k q z g S X T (nI 42) (nI 42) (nI 10)) mo_X3_35 F hw (Nat.le_of_ble_eq_true rfl) (x_cs F (Nat.le_of_ble_eq_true rfl) (Nat.le_of_ble_eq_true rfl)) rfl rfl hl.1 (Nat.le_of_ble_eq_true rfl) dX3_readInto_202 (fun H locs hw => ?_)
              refine lv_iload_n hx hb dX3_readInto_205 rfl (lv_at hl 2 rfl) ?_
              exact hret _ _ _ _ _ _ dX3_readInto_206 hw rfl ⟨by rw [e6, show i = sgnN S by omega]; rfl, by rw [e5, show i = sgnN S by omega]⟩
            · refine lv_aload_n hx hb dX3_readInto_66 rfl (lv_at hl 0 rfl) ?_
              refine x_getr frC_17_1 F hw fo_X3_9 dX3_readInto_67 ?_
              refine lv_iload hx hb dX3_readInto_70 (lv_at hl 7 rfl) ?_
              refine x_iald aiC_18 F hw i rfl (by omega) dX3_readInto_72 ?_
              refine x_top (y := S 18 i) rfl ?_
              refine lv_istore (lv' := [(8, .int (S 18 i)), (0, .ref (q 17)), (1, .ref (q 7)), (2, .int (nI ln)), (3, .int (nI pl)), (4, .int fr), (5, .int to), (6, .int co), (7, .int (nI i))]) hx hb dX3_readInto_73 hl (Nat.le_of_ble_eq_true rfl) rfl (fun ls hl => ?_)
              have K139 : ∀ (fr2 : Int32) (to2 : Int32) (co2 : Int32) (H : Heap) (locs : List Loc) (ls : Array Slot), (fr2 = frF (S 18) (i + 1)) → (to2 = toF (S 18) (i + 1)) → (co2 = coF (S 18) (i + 1)) → Wd D A s.heap H locs (wC k q z g (grd S 8 4 T) X) → lv_has ls 10 [(0, .ref (q 17)), (1, .ref (q 7)), (2, .int (nI ln)), (3, .int (nI pl)), (4, .int fr2), (5, .int to2), (6, .int co2), (7, .int (nI i)), (8, .int (S 18 i))] → W p l e R s m args below meth c H locs 0 0 Q (F0 m 139 ls []) := by
                intro fr2 to2 co2 H locs ls e2n e3n e4n hw hl
                refine lv_iload_n hx hb dX3_readInto_139 rfl (lv_at hl 3 rfl) ?_
                refine lv_iload hx hb dX3_readInto_140 (lv_at hl 8 rfl) ?_
                refine x_fSI (rest := []) (c_X3_placeAfter l D k (wC k q z g (grd S 8 4 T) X) pl (S 18 i) (by first | assumption | omega)) mo_X3_19 F hw (Nat.le_of_ble_eq_true rfl) (x_cs F (Nat.le_of_ble_eq_true rfl) (Nat.le_of_ble_eq_true rfl)) rfl rfl hl.1 (Nat.le_of_ble_eq_true rfl) dX3_readInto_142 (fun H locs hw => ?_)
                refine x_top (y := nI (plF (S 18) (i + 1))) (by rw [e1, (pl_go hq (by omega)).2.1]; rfl) ?_
                refine lv_istore_n (lv' := [(3, .int (nI (plF (S 18) (i + 1)))), (0, .ref (q 17)), (1, .ref (q 7)), (2, .int (nI ln)), (4, .int fr2), (5, .int to2), (6, .int co2), (7, .int (nI i)), (8, .int (S 18 i))]) hx hb dX3_readInto_145 rfl hl (Nat.le_of_ble_eq_true rfl) rfl (fun ls hl => ?_)
                refine lv_iload hx hb dX3_readInto_146 (lv_at hl 7 rfl) ?_
                refine lv_aload_n hx hb dX3_readInto_148 rfl (lv_at hl 1 rfl) ?_
                refine x_geti fiC_42 F hw fo_X3_15 dX3_readInto_149 ?_
                refine x_top (y := S 42 0) rfl ?_
                refine x_top (y := nI (sgnN S)) hT.1 ?_
                refine lv_iconst (v := nI 1) hx hb dX3_readInto_152 rfl ?_
                refine lv_isub hx hb dX3_readInto_153 ?_
                refine x_top (y := nI (sgnN S - 1)) (pk_sub (by omega)) ?_
                have K169 : ∀ (t : Bool) (H : Heap) (locs : List Loc) (ls : Array Slot), (t = lnE (S 18) (sgnN S) i) → Wd D A s.heap H locs (wC k q z g (grd S 8 4 T) X) → lv_has ls 10 [(0, .ref (q 17)), (1, .ref (q 7)), (2, .int (nI ln)), (3, .int (nI (plF (S 18) (i + 1)))), (4, .int fr2), (5, .int to2), (6, .int co2), (7, .int (nI i)), (8, .int (S 18 i))] → W p l e R s m args below meth c H locs 0 0 Q (F0 m 169 ls [.int (b01 t)]) := by
                  intro t H locs ls h169 hw hl
                  refine lv_istore (lv' := [(9, .int (b01 t)), (0, .ref (q 17)), (1, .ref (q 7)), (2, .int (nI ln)), (3, .int (nI (plF (S 18) (i + 1)))), (4, .int fr2), (5, .int to2), (6, .int co2), (7, .int (nI i)), (8, .int (S 18 i))]) hx hb dX3_readInto_169 hl (Nat.le_of_ble_eq_true rfl) rfl (fun ls hl => ?_)
                  refine lv_iload hx hb dX3_readInto_171 (lv_at hl 0 rfl) ?_
                  refine lv_if_eq (tgt := 189) hx hb dX3_readInto_173 rfl (fun c173 => ?_) (fun c173 => ?_)
                  · refine lv_iinc (v := nI (i + 1)) (lv' := [(7, .int (nI (i + 1))), (9, .int (b01 t)), (0, .ref (q 17)), (1, .ref (q 7)), (2, .int (nI ln)), (3, .int (nI (plF (S 18) (i + 1)))), (4, .int fr2), (5, .int to2), (6, .int co2), (8, .int (S 18 i))]) hx hb dX3_readInto_189 hl (k := 8) rfl (nI_1 _) (Nat.le_of_ble_eq_true rfl) rfl (fun ls hl => ?_)
                    refine lv_goto (tgt := 57) hx hb dX3_readInto_192 rfl ?_
                    exact ih57_ (i + 1) ln (plF (S 18) (i + 1)) fr2 to2 co2 T _ _ _ (by first | omega | (simp only [] at *; omega)) (by first | assumption | omega | rfl) (by rfl) (by exact e2n) (by exact e3n) (by exact e4n) (by rw [e5]; first | exact (if_pos (h169.symm.trans (b01_1.mp c173))).symm | exact (if_neg (by rw [← h169, b01_0.mp c173]; decide)).symm) (by first | (rw [e6, e2n, e3n, e4n]; exact (if_pos (h169.symm.trans (b01_1.mp c173))).symm) | exact e6.trans (if_neg (by rw [← h169, b01_0.mp c173]; decide)).symm) hw (lv_sub hl [2, 3, 4, 5, 6, 7, 8, 0] rfl)
                  · refine lv_aload_n hx hb dX3_readInto_176 rfl (lv_at hl 2 rfl) ?_
                    refine lv_iload hx hb dX3_readInto_177 (lv_at hl 5 rfl) ?_
                    refine lv_iload hx hb dX3_readInto_179 (lv_at hl 6 rfl) ?_
                    refine lv_iload hx hb dX3_readInto_181 (lv_at hl 7 rfl) ?_
                    refine x_fSV (rest := []) (c_X3_fill l D k q z g S X T fr2 to2 co2) mo_X3_35 F hw (Nat.le_of_ble_eq_true rfl) (x_cs F (Nat.le_of_ble_eq_true rfl) (Nat.le_of_ble_eq_true rfl)) rfl rfl hl.1 (Nat.le_of_ble_eq_true rfl) dX3_readInto_183 (fun H locs hw => ?_)
                    refine lv_iinc (v := nI (ln + 1)) (lv' := [(2, .int (nI (ln + 1))), (9, .int (b01 t)), (0, .ref (q 17)), (1, .ref (q 7)), (3, .int (nI (plF (S 18) (i + 1)))), (4, .int fr2), (5, .int to2), (6, .int co2), (7, .int (nI i)), (8, .int (S 18 i))]) hx hb dX3_readInto_186 hl (k := 3) rfl (nI_1 _) (Nat.le_of_ble_eq_true rfl) rfl (fun ls hl => ?_)
                    refine lv_iinc (v := nI (i + 1)) (lv' := [(7, .int (nI (i + 1))), (2, .int (nI (ln + 1))), (9, .int (b01 t)), (0, .ref (q 17)), (1, .ref (q 7)), (3, .int (nI (plF (S 18) (i + 1)))), (4, .int fr2), (5, .int to2), (6, .int co2), (8, .int (S 18 i))]) hx hb dX3_readInto_189 hl (k := 8) rfl (nI_1 _) (Nat.le_of_ble_eq_true rfl) rfl (fun ls hl => ?_)
                    refine lv_goto (tgt := 57) hx hb dX3_readInto_192 rfl ?_
                    exact ih57_ (i + 1) (ln + 1) (plF (S 18) (i + 1)) fr2 to2 co2 (fillU T fr2 to2 co2 16) _ _ _ (by first | omega | (simp only [] at *; omega)) (by first | assumption | omega | rfl) (by rfl) (by exact e2n) (by exact e3n) (by exact e4n) (by rw [e5]; first | exact (if_pos (h169.symm.trans (b01_1.mp c173))).symm | exact (if_neg (by rw [← h169, b01_0.mp c173]; decide)).symm) (by first | (rw [e6, e2n, e3n, e4n]; exact (if_pos (h169.symm.trans (b01_1.mp c173))).symm) | exact e6.trans (if_neg (by rw [← h169, b01_0.mp c173]; decide)).symm) hw (lv_sub hl [3, 4, 1, 5, 6, 7, 8, 0] rfl)
                refine x_icmp_eq i (sgnN S - 1) F (by omega) (by omega) (tgt := 164) dX3_readInto_154 rfl (fun c154 => ?_) (fun c154 => ?_)
                · refine lv_iconst (v := nI 1) hx hb dX3_readInto_164 rfl ?_
                  refine lv_goto (tgt := 169) hx hb dX3_readInto_165 rfl ?_
                  exact K169 true _ _ _ (by unfold lnE; first | (rw [decide_eq_true c154]; rfl) | (rw [decide_eq_false c154, beqF c161]; rfl) | (rw [decide_eq_false c154, beqT c161]; rfl)) hw (lv_sub hl [1, 2, 3, 0, 4, 5, 6, 7, 8] rfl)
                · refine lv_iload hx hb dX3_readInto_157 (lv_at hl 8 rfl) ?_
                  refine lv_bipush (v := nI 59) hx hb dX3_readInto_159 rfl ?_
                  refine lv_icmp_ne (tgt := 168) hx hb dX3_readInto_161 rfl (fun c161 => ?_) (fun c161 => ?_)
                  · refine lv_iconst (v := nI 0) hx hb dX3_readInto_168 rfl ?_
                    exact K169 false _ _ _ (by unfold lnE; first | (rw [decide_eq_true c154]; rfl) | (rw [decide_eq_false c154, beqF c161]; rfl) | (rw [decide_eq_false c154, beqT c161]; rfl)) hw (lv_sub hl [1, 2, 3, 0, 4, 5, 6, 7, 8] rfl)
                  · refine lv_iconst (v := nI 1) hx hb dX3_readInto_164 rfl ?_
                    refine lv_goto (tgt := 169) hx hb dX3_readInto_165 rfl ?_
                    exact K169 true _ _ _ (by unfold lnE; first | (rw [decide_eq_true c154]; rfl) | (rw [decide_eq_false c154, beqF c161]; rfl) | (rw [decide_eq_false c154, beqT c161]; rfl)) hw (lv_sub hl [1, 2, 3, 0, 4, 5, 6, 7, 8] rfl)
              refine lv_iload_n hx hb dX3_readInto_75 rfl (lv_at hl 4 rfl) ?_
              refine x_if_ne pl F (by omega) (tgt := 86) dX3_readInto_76 rfl (fun c76 => ?_) (fun c76 => ?_)
              · refine lv_iload_n hx hb dX3_readInto_86 rfl (lv_at hl 4 rfl) ?_
                refine lv_iconst (v := nI 1) hx hb dX3_readInto_87 rfl ?_
                refine x_icmp_ne pl 1 F (by omega) (by omega) (tgt := 98) dX3_readInto_88 rfl (fun c88 => ?_) (fun c88 => ?_)
                · refine lv_iload_n hx hb dX3_readInto_98 rfl (lv_at hl 4 rfl) ?_
                  refine lv_iconst (v := nI 3) hx hb dX3_readInto_99 rfl ?_
                  refine x_icmp_ne pl 3 F (by omega) (by omega) (tgt := 113) dX3_readInto_100 rfl (fun c100 => ?_) (fun c100 => ?_)
                  · refine lv_iload_n hx hb dX3_readInto_113 rfl (lv_at hl 4 rfl) ?_
                    refine lv_iconst (v := nI 4) hx hb dX3_readInto_114 rfl ?_
                    refine x_icmp_ne pl 4 F (by omega) (by omega) (tgt := 139) dX3_readInto_115 rfl (fun c115 => ?_) (fun c115 => ?_)
                    · exact K139 fr to co _ _ _ (by first | exact (if_pos (by omega)).symm | exact e2.trans (if_neg (by omega)).symm) (by first | exact (if_pos (by omega)).symm | exact e3.trans (if_neg (by omega)).symm) (by first | exact (if_pos (by omega)).symm | (rw [e4]; exact ((if_neg (by omega)).trans (if_pos ⟨by omega, b01_1.mp c123⟩)).symm) | exact e4.trans ((if_neg (by omega)).trans (if_neg (fun q => by omega))).symm | exact e4.trans ((if_neg (by omega)).trans (if_neg (fun q => absurd q.2 (by rw [b01_0.mp c123]; decide)))).symm) hw (lv_sub hl [1, 2, 3, 4, 5, 6, 7, 8, 0] rfl)
                    · refine lv_iload hx hb dX3_readInto_118 (lv_at hl 0 rfl) ?_
                      refine x_fSI (rest := []) (c_X3_isDigit l D k (wC k q z g (grd S 8 4 T) X) (S 18 i)) mo_X3_27 F hw (Nat.le_of_ble_eq_true rfl) (x_cs F (Nat.le_of_ble_eq_true rfl) (Nat.le_of_ble_eq_true rfl)) rfl rfl hl.1 (Nat.le_of_ble_eq_true rfl) dX3_readInto_120 (fun H locs hw => ?_)
                      refine lv_if_eq (tgt := 139) hx hb dX3_readInto_123 rfl (fun c123 => ?_) (fun c123 => ?_)
                      · exact K139 fr to co _ _ _ (by first | exact (if_pos (by omega)).symm | exact e2.trans (if_neg (by omega)).symm) (by first | exact (if_pos (by omega)).symm | exact e3.trans (if_neg (by omega)).symm) (by first | exact (if_pos (by omega)).symm | (rw [e4]; exact ((if_neg (by omega)).trans (if_pos ⟨by omega, b01_1.mp c123⟩)).symm) | exact e4.trans ((if_neg (by omega)).trans (if_neg (fun q => by omega))).symm | exact e4.trans ((if_neg (by omega)).trans (if_neg (fun q => absurd q.2 (by rw [b01_0.mp c123]; decide)))).symm) hw (lv_sub hl [1, 2, 3, 4, 5, 6, 7, 8, 0] rfl)
                      · refine lv_iload hx hb dX3_readInto_126 (lv_at hl 7 rfl) ?_
                        refine lv_bipush (v := nI 10) hx hb dX3_readInto_128 rfl ?_
                        refine lv_imul hx hb dX3_readInto_130 ?_
                        refine lv_iload hx hb dX3_readInto_131 (lv_at hl 0 rfl) ?_
                        refine lv_iadd hx hb dX3_readInto_133 ?_
                        refine lv_bipush (v := nI 48) hx hb dX3_readInto_134 rfl ?_
                        refine lv_isub hx hb dX3_readInto_136 ?_
                        refine lv_istore (lv' := [(6, .int (((co * (nI 10)) + (S 18 i)) - (nI 48))), (8, .int (S 18 i)), (0, .ref (q 17)), (1, .ref (q 7)), (2, .int (nI ln)), (3, .int (nI pl)), (4, .int fr), (5, .int to), (7, .int (nI i))]) hx hb dX3_readInto_137 hl (Nat.le_of_ble_eq_true rfl) rfl (fun ls hl => ?_)
                        exact K139 fr to (((co * (nI 10)) + (S 18 i)) - (nI 48)) _ _ _ (by first | exact (if_pos (by omega)).symm | exact e2.trans (if_neg (by omega)).symm) (by first | exact (if_pos (by omega)).symm | exact e3.trans (if_neg (by omega)).symm) (by first | exact (if_pos (by omega)).symm | (rw [e4]; exact ((if_neg (by omega)).trans (if_pos ⟨by omega, b01_1.mp c123⟩)).symm) | exact e4.trans ((if_neg (by omega)).trans (if_neg (fun q => by omega))).symm | exact e4.trans ((if_neg (by omega)).trans (if_neg (fun q => absurd q.2 (by rw [b01_0.mp c123]; decide)))).symm) hw (lv_sub hl [2, 3, 4, 5, 6, 7, 0, 8, 1] rfl)
                  · refine lv_iload hx hb dX3_readInto_103 (lv_at hl 0 rfl) ?_
                    refine lv_bipush (v := nI 48) hx hb dX3_readInto_105 rfl ?_
                    refine lv_isub hx hb dX3_readInto_107 ?_
                    refine lv_istore (lv' := [(6, .int ((S 18 i) - (nI 48))), (8, .int (S 18 i)), (0, .ref (q 17)), (1, .ref (q 7)), (2, .int (nI ln)), (3, .int (nI pl)), (4, .int fr), (5, .int to), (7, .int (nI i))]) hx hb dX3_readInto_108 hl (Nat.le_of_ble_eq_true rfl) rfl (fun ls hl => ?_)
                    refine lv_goto (tgt := 139) hx hb dX3_readInto_110 rfl ?_
                    exact K139 fr to ((S 18 i) - (nI 48)) _ _ _ (by first | exact (if_pos (by omega)).symm | exact e2.trans (if_neg (by omega)).symm) (by first | exact (if_pos (by omega)).symm | exact e3.trans (if_neg (by omega)).symm) (by first | exact (if_pos (by omega)).symm | (rw [e4]; exact ((if_neg (by omega)).trans (if_pos ⟨by omega, b01_1.mp c123⟩)).symm) | exact e4.trans ((if_neg (by omega)).trans (if_neg (fun q => by omega))).symm | exact e4.trans ((if_neg (by omega)).trans (if_neg (fun q => absurd q.2 (by rw [b01_0.mp c123]; decide)))).symm) hw (lv_sub hl [2, 3, 4, 5, 6, 7, 0, 8, 1] rfl)
                · refine lv_iload hx hb dX3_readInto_91 (lv_at hl 0 rfl) ?_
                  refine lv_istore (lv' := [(5, .int (S 18 i)), (8, .int (S 18 i)), (0, .ref (q 17)), (1, .ref (q 7)), (2, .int (nI ln)), (3, .int (nI pl)), (4, .int fr), (6, .int co), (7, .int (nI i))]) hx hb dX3_readInto_93 hl (Nat.le_of_ble_eq_true rfl) rfl (fun ls hl => ?_)
                  refine lv_goto (tgt := 139) hx hb dX3_readInto_95 rfl ?_
                  exact K139 fr (S 18 i) co _ _ _ (by first | exact (if_pos (by omega)).symm | exact e2.trans (if_neg (by omega)).symm) (by first | exact (if_pos (by omega)).symm | exact e3.trans (if_neg (by omega)).symm) (by first | exact (if_pos (by omega)).symm | (rw [e4]; exact ((if_neg (by omega)).trans (if_pos ⟨by omega, b01_1.mp c123⟩)).symm) | exact e4.trans ((if_neg (by omega)).trans (if_neg (fun q => by omega))).symm | exact e4.trans ((if_neg (by omega)).trans (if_neg (fun q => absurd q.2 (by rw [b01_0.mp c123]; decide)))).symm) hw (lv_sub hl [2, 3, 4, 5, 6, 0, 7, 8, 1] rfl)
              · refine lv_iload hx hb dX3_readInto_79 (lv_at hl 0 rfl) ?_
                refine lv_istore (lv' := [(4, .int (S 18 i)), (8, .int (S 18 i)), (0, .ref (q 17)), (1, .ref (q 7)), (2, .int (nI ln)), (3, .int (nI pl)), (5, .int to), (6, .int co), (7, .int (nI i))]) hx hb dX3_readInto_81 hl (Nat.le_of_ble_eq_true rfl) rfl (fun ls hl => ?_)
                refine lv_goto (tgt := 139) hx hb dX3_readInto_83 rfl ?_
                exact K139 (S 18 i) to co _ _ _ (by first | exact (if_pos (by omega)).symm | exact e2.trans (if_neg (by omega)).symm) (by first | exact (if_pos (by omega)).symm | exact e3.trans (if_neg (by omega)).symm) (by first | exact (if_pos (by omega)).symm | (rw [e4]; exact ((if_neg (by omega)).trans (if_pos ⟨by omega, b01_1.mp c123⟩)).symm) | exact e4.trans ((if_neg (by omega)).trans (if_neg (fun q => by omega))).symm | exact e4.trans ((if_neg (by omega)).trans (if_neg (fun q => absurd q.2 (by rw [b01_0.mp c123]; decide)))).symm) hw (lv_sub hl [2, 3, 4, 5, 0, 6, 7, 8, 1] rfl)
        exact K57 _ 0 0 0 (nI 0) (nI 0) (nI 0) T _ _ _ (Nat.lt_succ_self _) (by first | assumption | omega | rfl) (by rfl) (by rfl) (by rfl) (by rfl) (by rfl) (by rw [h1, show 4 * i = 16 by omega]; rfl) hw (lv_sub hl [6, 7, 5, 4, 3, 2, 1, 0] rfl)
      · refine lv_iconst (v := nI 0) hx hb dX3_readInto_7 rfl ?_
        refine lv_istore_n (lv' := [(3, .int (nI 0)), (0, .ref (q 17)), (1, .ref (q 7)), (2, .int (nI i))]) hx hb dX3_readInto_8 rfl hl (Nat.le_of_ble_eq_true rfl) rfl (fun ls hl => ?_)
        have K9 : ∀ (n9_ : Nat) (j : Nat) (T : Nat → Nat → Int32) (H : Heap) (locs : List Loc) (ls : Array Slot), 4 - j < n9_ → (j ≤ 4) → (T = inU (fun a => S (8 + a)) (4 * i + j)) → Wd D A s.heap H locs (wC k q z g (grd S 8 4 T) X) → lv_has ls 10 [(0, .ref (q 17)), (1, .ref (q 7)), (2, .int (nI i)), (3, .int (nI j))] → W p l e R s m args below meth c H locs 0 0 Q (F0 m 9 ls []) := by
          intro n9_
          induction n9_ with
          | zero =>
            intro j T H locs ls hn9_
            exact absurd hn9_ (Nat.not_lt_zero _)
          | succ n9_ ih9_ =>
            intro j T H locs ls hn9_ hj h2 hw hl
            refine lv_iload_n hx hb dX3_readInto_9 rfl (lv_at hl 3 rfl) ?_
            refine lv_iconst (v := nI 4) hx hb dX3_readInto_10 rfl ?_
            refine x_icmp_ge j 4 F (by omega) (by omega) (tgt := 35) dX3_readInto_11 rfl (fun c11 => ?_) (fun c11 => ?_)
            · refine lv_iinc (v := nI (i + 1)) (lv' := [(2, .int (nI (i + 1))), (0, .ref (q 17)), (1, .ref (q 7)), (3, .int (nI j))]) hx hb dX3_readInto_35 hl (k := 2) rfl (nI_1 _) (Nat.le_of_ble_eq_true rfl) rfl (fun ls hl => ?_)
              refine lv_goto (tgt := 2) hx hb dX3_readInto_38 rfl ?_
              exact ih2_ (i + 1) T _ _ _ (by first | omega | (simp only [] at *; omega)) (by first | assumption | omega | rfl) (by rw [h2, show 4 * i + j = 4 * (i + 1) by omega]) hw (lv_sub hl [1, 2, 0] rfl)
            · refine lv_aload_n hx hb dX3_readInto_14 rfl (lv_at hl 1 rfl) ?_
              refine lv_iload_n hx hb dX3_readInto_15 rfl (lv_at hl 2 rfl) ?_
              refine x_grow giC_7 F hw i rfl (by omega) dX3_readInto_16 ?_
              refine lv_iload_n hx hb dX3_readInto_17 rfl (lv_at hl 3 rfl) ?_
              refine lv_iload_n hx hb dX3_readInto_18 rfl (lv_at hl 2 rfl) ?_
              refine lv_iload_n hx hb dX3_readInto_19 rfl (lv_at hl 3 rfl) ?_
              have K28 : ∀ (x : Int32) (H : Heap) (locs : List Loc) (ls : Array Slot), (x = if i = j then nI 0 else (-1)) → Wd D A s.heap H locs (wC k q z g (grd S 8 4 T) X) → lv_has ls 10 [(0, .ref (q 17)), (1, .ref (q 7)), (2, .int (nI i)), (3, .int (nI j))] → W p l e R s m args below meth c H locs 0 0 Q (F0 m 28 ls [.int x, .int (nI j), .ref (q (8 + i))]) := by
                intro x H locs ls h28 hw hl
                refine x_iast (aiC_slip (j := i) (by omega)) F hw j rfl (by omega) dX3_readInto_28 (fun H locs hw => ?_)
                rw [grd_upd (by omega)] at hw
                refine lv_iinc (v := nI (j + 1)) (lv' := [(3, .int (nI (j + 1))), (0, .ref (q 17)), (1, .ref (q 7)), (2, .int (nI i))]) hx hb dX3_readInto_29 hl (k := 3) rfl (nI_1 _) (Nat.le_of_ble_eq_true rfl) rfl (fun ls hl => ?_)
                refine lv_goto (tgt := 9) hx hb dX3_readInto_32 rfl ?_
                exact ih9_ (j + 1) (va_up T i (upd (T i) j x)) _ _ _ (by first | omega | (simp only [] at *; omega)) (by first | assumption | omega | rfl) (by rw [h2]; exact inU_s (by omega) h28) hw (lv_sub hl [1, 2, 3, 0] rfl)
              refine x_icmp_ne i j F (by omega) (by omega) (tgt := 27) dX3_readInto_20 rfl (fun c20 => ?_) (fun c20 => ?_)
              · refine lv_iconst (v := (-1)) hx hb dX3_readInto_27 rfl ?_
                exact K28 (-1) _ _ _ (by first | exact (if_pos c20).symm | exact (if_neg c20).symm) hw (lv_sub hl [0, 1, 2, 3] rfl)
              · refine lv_iconst (v := nI 0) hx hb dX3_readInto_23 rfl ?_
                refine lv_goto (tgt := 28) hx hb dX3_readInto_24 rfl ?_
                exact K28 (nI 0) _ _ _ (by first | exact (if_pos c20).symm | exact (if_neg c20).symm) hw (lv_sub hl [0, 1, 2, 3] rfl)
        exact K9 _ 0 T _ _ _ (Nat.lt_succ_self _) (by first | assumption | omega | rfl) (by exact h1) hw (lv_sub hl [1, 2, 3, 0] rfl)
  exact K2 _ 0 (fun a => S (8 + a)) _ _ _ (Nat.lt_succ_self _) (by first | assumption | omega | rfl) (by exact inU_0.symm) hw (lv_sub hl [1, 2, 0] rfl)
