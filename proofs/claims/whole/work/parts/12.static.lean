/-! ===== pure words ===== -/
def f_in (v a b : Int32) : Int32 := if a ≤ v ∧ v ≤ b then nI 1 else nI 0
theorem f_in_n (v a b : Int32) : narrow .boolean (.int (f_in v a b)) = .int (f_in v a b) := by
  unfold f_in
  split <;> rfl
theorem f_in_0 {v a b : Int32} : f_in v a b = 0 ↔ ¬ (a ≤ v ∧ v ≤ b) := by
  unfold f_in
  split
  · rename_i h; exact ⟨fun q => absurd q (by decide), fun q => absurd h q⟩
  · rename_i h; exact ⟨fun _ => h, fun _ => rfl⟩
/-- what a stroke of a drawing is -/
def stkI (d s : Int32) : Int32 := (d >>> ((nI 2 * (nI 7 - s)) &&& 31)) &&& nI 3
def stk (d : Int32) (s : Nat) : Nat := (stkI d (nI s)).toNatClampNeg
theorem stk_ex (d : Int32) (s : Nat) : stkI d (nI s) = nI (stk d s) ∧ stk d s < 4 := by
  obtain ⟨j, hj, e⟩ := pk_andE (d >>> ((nI 2 * (nI 7 - nI s)) &&& 31)) (m := nI 3) 2 (by decide)
  have h : stk d s = j := by
    unfold stk stkI
    rw [e]
    exact nI_clamp (by omega)
  refine ⟨?_, by rw [h]; exact hj⟩
  rw [h]
  exact e
theorem stk_lt (d : Int32) (s : Nat) : stk d s < 4 := (stk_ex d s).2
theorem stk_14 : ∀ s : Nat, s < 8 → nI 14 - nI (2 * s) = nI 2 * (nI 7 - nI s) := by decide
/-- the bits of those that fit -/
def orB (p : Nat → Bool) : Nat → Int32
  | 0 => nI 0
  | n + 1 => if p n then orB p n ||| (nI 1 <<< (nI n &&& 31)) else orB p n
def allB (p : Nat → Bool) : Nat → Bool
  | 0 => true
  | n + 1 => allB p n && p n
theorem allB_le {p : Nat → Bool} : ∀ {n m : Nat}, n ≤ m → allB p m = true → allB p n = true
  | n, 0, h, _ => by rw [Nat.le_zero.mp h]; rfl
  | n, m + 1, h, q => by
    simp only [allB, Bool.and_eq_true] at q
    rcases Nat.lt_or_ge n (m + 1) with h1 | h1
    · exact allB_le (by omega) q.1
    · rw [show n = m + 1 by omega]; simp only [allB, Bool.and_eq_true]; exact q
theorem allB_no {p : Nat → Bool} {n m : Nat} (h : n < m) (hp : p n = false) : allB p m = false := by
  cases hq : allB p m with
  | false => rfl
  | true =>
    have := allB_le (p := p) (n := n + 1) (m := m) h hq
    simp [allB, hp] at this
def b01 (b : Bool) : Int32 := if b then nI 1 else nI 0
theorem b01_n (b : Bool) : narrow .boolean (.int (b01 b)) = .int (b01 b) := by cases b <;> rfl
theorem b01_0 {b : Bool} : b01 b = 0 ↔ b = false := by cases b <;> decide
def hbt (x : Int32) (n : Nat) : Bool := (x >>> (nI n &&& 31)) &&& nI 1 != 0
def inkN (d : Int32) : Nat → Nat
  | 0 => 0
  | n + 1 => inkN d n + (if stk d n = 0 then 0 else if stk d n = 3 then 2 else 1)
theorem inkN_le (d : Int32) : ∀ n, inkN d n ≤ 2 * n
  | 0 => Nat.le_refl _
  | n + 1 => by
    have := inkN_le d n
    unfold inkN
    split <;> (try split) <;> omega
def isDr (d : Int32) : Int32 := f_in d (nI 0) (nI 65535)
def spanP (a b lo hi : Int32) : Prop := lo ≤ a ∧ a ≤ b ∧ b ≤ hi
set_option maxHeartbeats 4000000 in
set_option maxRecDepth 20000 in
theorem c_X6_within (l : Launch) (D : va_G) (k : Nat → ClassId) (X : va_W) (v : Int32) (a : Int32) (b : Int32) : CI l D k yX6_within cX6_within 3 (some .boolean) 0 0 0 [.int v, .int a, .int b] X (fun r w' => w' = X ∧ r = f_in v a b) := by
  refine CI.mk (by decide) (Nat.le_of_ble_eq_true rfl) ?_
  intro p e R s m args below meth c A Q ls F hret hw hl
  have hx := xs_hx F
  have hb := xs_hb F
  have hl : lv_has ls 3 [(0, .int v), (1, .int a), (2, .int b)] := hl
  refine lv_iload_n hx hb dX6_within_0 rfl (lv_at hl 0 rfl) ?_
  refine lv_iload_n hx hb dX6_within_1 rfl (lv_at hl 1 rfl) ?_
  refine lv_icmp_lt (tgt := 14) hx hb dX6_within_2 rfl (fun c2 => ?_) (fun c2 => ?_)
  · refine lv_iconst (v := nI 0) hx hb dX6_within_14 rfl ?_
    exact hret _ _ _ _ _ _ dX6_within_15 hw rfl ⟨rfl, by first | exact (if_neg (fun q => Int32.not_le.mpr c7 q.2)).symm | exact (if_neg (fun q => Int32.not_le.mpr c2 q.1)).symm | exact (if_pos ⟨Int32.not_lt.mp c2, Int32.not_lt.mp c7⟩).symm⟩
  · refine lv_iload_n hx hb dX6_within_5 rfl (lv_at hl 0 rfl) ?_
    refine lv_iload_n hx hb dX6_within_6 rfl (lv_at hl 2 rfl) ?_
    refine lv_icmp_gt (tgt := 14) hx hb dX6_within_7 rfl (fun c7 => ?_) (fun c7 => ?_)
    · refine lv_iconst (v := nI 0) hx hb dX6_within_14 rfl ?_
      exact hret _ _ _ _ _ _ dX6_within_15 hw rfl ⟨rfl, by first | exact (if_neg (fun q => Int32.not_le.mpr c7 q.2)).symm | exact (if_neg (fun q => Int32.not_le.mpr c2 q.1)).symm | exact (if_pos ⟨Int32.not_lt.mp c2, Int32.not_lt.mp c7⟩).symm⟩
    · refine lv_iconst (v := nI 1) hx hb dX6_within_10 rfl ?_
      refine lv_goto (tgt := 15) hx hb dX6_within_11 rfl ?_
      exact hret _ _ _ _ _ _ dX6_within_15 hw rfl ⟨rfl, by first | exact (if_neg (fun q => Int32.not_le.mpr c7 q.2)).symm | exact (if_neg (fun q => Int32.not_le.mpr c2 q.1)).symm | exact (if_pos ⟨Int32.not_lt.mp c2, Int32.not_lt.mp c7⟩).symm⟩
set_option maxHeartbeats 4000000 in
set_option maxRecDepth 20000 in
theorem c_X7_in (l : Launch) (D : va_G) (k : Nat → ClassId) (X : va_W) (v : Int32) (a : Int32) (b : Int32) : CI l D k yX7_in cX7_in 3 (some .boolean) 0 0 0 [.int v, .int a, .int b] X (fun r w' => w' = X ∧ r = f_in v a b) := by
  refine CI.mk (by decide) (Nat.le_of_ble_eq_true rfl) ?_
  intro p e R s m args below meth c A Q ls F hret hw hl
  have hx := xs_hx F
  have hb := xs_hb F
  have hl : lv_has ls 3 [(0, .int v), (1, .int a), (2, .int b)] := hl
  refine lv_iload_n hx hb dX7_in_0 rfl (lv_at hl 0 rfl) ?_
  refine lv_iload_n hx hb dX7_in_1 rfl (lv_at hl 1 rfl) ?_
  refine lv_icmp_lt (tgt := 14) hx hb dX7_in_2 rfl (fun c2 => ?_) (fun c2 => ?_)
  · refine lv_iconst (v := nI 0) hx hb dX7_in_14 rfl ?_
    exact hret _ _ _ _ _ _ dX7_in_15 hw rfl ⟨rfl, by first | exact (if_neg (fun q => Int32.not_le.mpr c7 q.2)).symm | exact (if_neg (fun q => Int32.not_le.mpr c2 q.1)).symm | exact (if_pos ⟨Int32.not_lt.mp c2, Int32.not_lt.mp c7⟩).symm⟩
  · refine lv_iload_n hx hb dX7_in_5 rfl (lv_at hl 0 rfl) ?_
    refine lv_iload_n hx hb dX7_in_6 rfl (lv_at hl 2 rfl) ?_
    refine lv_icmp_gt (tgt := 14) hx hb dX7_in_7 rfl (fun c7 => ?_) (fun c7 => ?_)
    · refine lv_iconst (v := nI 0) hx hb dX7_in_14 rfl ?_
      exact hret _ _ _ _ _ _ dX7_in_15 hw rfl ⟨rfl, by first | exact (if_neg (fun q => Int32.not_le.mpr c7 q.2)).symm | exact (if_neg (fun q => Int32.not_le.mpr c2 q.1)).symm | exact (if_pos ⟨Int32.not_lt.mp c2, Int32.not_lt.mp c7⟩).symm⟩
    · refine lv_iconst (v := nI 1) hx hb dX7_in_10 rfl ?_
      refine lv_goto (tgt := 15) hx hb dX7_in_11 rfl ?_
      exact hret _ _ _ _ _ _ dX7_in_15 hw rfl ⟨rfl, by first | exact (if_neg (fun q => Int32.not_le.mpr c7 q.2)).symm | exact (if_neg (fun q => Int32.not_le.mpr c2 q.1)).symm | exact (if_pos ⟨Int32.not_lt.mp c2, Int32.not_lt.mp c7⟩).symm⟩
set_option maxHeartbeats 4000000 in
set_option maxRecDepth 20000 in
theorem c_X6_isDrawing (l : Launch) (D : va_G) (k : Nat → ClassId) (X : va_W) (d : Int32) : CI l D k yX6_isDrawing cX6_isDrawing 1 (some .boolean) 1 0 0 [.int d] X (fun r w' => w' = X ∧ r = isDr d) := by
  refine CI.mk (by decide) (Nat.le_of_ble_eq_true rfl) ?_
  intro p e R s m args below meth c A Q ls F hret hw hl
  have hx := xs_hx F
  have hb := xs_hb F
  have hl : lv_has ls 1 [(0, .int d)] := hl
  refine lv_iload_n hx hb dX6_isDrawing_0 rfl (lv_at hl 0 rfl) ?_
  refine lv_iconst (v := nI 0) hx hb dX6_isDrawing_1 rfl ?_
  refine x_ldc F ld_X6_252 dX6_isDrawing_2 ?_
  refine x_fSI (rest := []) (c_X6_within l D k X d (nI 0) (nI 65535)) mo_X6_93 F hw (Nat.le_of_ble_eq_true rfl) (x_cs F (Nat.le_of_ble_eq_true rfl) (Nat.le_of_ble_eq_true rfl)) rfl rfl hl.1 (Nat.le_of_ble_eq_true rfl) dX6_isDrawing_4 (fun H locs hw => ?_)
  exact hret _ _ _ _ _ _ dX6_isDrawing_7 hw (f_in_n _ _ _) ⟨rfl, rfl⟩
set_option maxHeartbeats 4000000 in
set_option maxRecDepth 20000 in
theorem c_X7_isDrawing (l : Launch) (D : va_G) (k : Nat → ClassId) (X : va_W) (d : Int32) : CI l D k yX7_isDrawing cX7_isDrawing 1 (some .boolean) 1 0 0 [.int d] X (fun r w' => w' = X ∧ r = isDr d) := by
  refine CI.mk (by decide) (Nat.le_of_ble_eq_true rfl) ?_
  intro p e R s m args below meth c A Q ls F hret hw hl
  have hx := xs_hx F
  have hb := xs_hb F
  have hl : lv_has ls 1 [(0, .int d)] := hl
  refine lv_iload_n hx hb dX7_isDrawing_0 rfl (lv_at hl 0 rfl) ?_
  refine lv_iconst (v := nI 0) hx hb dX7_isDrawing_1 rfl ?_
  refine x_ldc F ld_X7_73 dX7_isDrawing_2 ?_
  refine x_fSI (rest := []) (c_X7_in l D k X d (nI 0) (nI 65535)) mo_X7_69 F hw (Nat.le_of_ble_eq_true rfl) (x_cs F (Nat.le_of_ble_eq_true rfl) (Nat.le_of_ble_eq_true rfl)) rfl rfl hl.1 (Nat.le_of_ble_eq_true rfl) dX7_isDrawing_4 (fun H locs hw => ?_)
  exact hret _ _ _ _ _ _ dX7_isDrawing_7 hw (f_in_n _ _ _) ⟨rfl, rfl⟩
set_option maxHeartbeats 4000000 in
set_option maxRecDepth 20000 in
theorem c_X7_isYear (l : Launch) (D : va_G) (k : Nat → ClassId) (X : va_W) (y : Int32) : CI l D k yX7_isYear cX7_isYear 1 (some .boolean) 1 0 0 [.int y] X (fun r w' => w' = X ∧ r = f_in y (nI 0) (nI 99)) := by
  refine CI.mk (by decide) (Nat.le_of_ble_eq_true rfl) ?_
  intro p e R s m args below meth c A Q ls F hret hw hl
  have hx := xs_hx F
  have hb := xs_hb F
  have hl : lv_has ls 1 [(0, .int y)] := hl
  refine lv_iload_n hx hb dX7_isYear_0 rfl (lv_at hl 0 rfl) ?_
  refine lv_iconst (v := nI 0) hx hb dX7_isYear_1 rfl ?_
  refine lv_bipush (v := nI 99) hx hb dX7_isYear_2 rfl ?_
  refine x_fSI (rest := []) (c_X7_in l D k X y (nI 0) (nI 99)) mo_X7_69 F hw (Nat.le_of_ble_eq_true rfl) (x_cs F (Nat.le_of_ble_eq_true rfl) (Nat.le_of_ble_eq_true rfl)) rfl rfl hl.1 (Nat.le_of_ble_eq_true rfl) dX7_isYear_4 (fun H locs hw => ?_)
  exact hret _ _ _ _ _ _ dX7_isYear_7 hw (f_in_n _ _ _) ⟨rfl, rfl⟩
set_option maxHeartbeats 4000000 in
set_option maxRecDepth 20000 in
theorem c_X6_isSpan (l : Launch) (D : va_G) (k : Nat → ClassId) (X : va_W) (a : Int32) (b : Int32) (lo : Int32) (hi : Int32) : CI l D k yX6_isSpan cX6_isSpan 4 (some .boolean) 0 0 0 [.int a, .int b, .int lo, .int hi] X (fun r w' => w' = X ∧ r = (if lo ≤ a ∧ a ≤ b ∧ b ≤ hi then nI 1 else nI 0)) := by
  refine CI.mk (by decide) (Nat.le_of_ble_eq_true rfl) ?_
  intro p e R s m args below meth c A Q ls F hret hw hl
  have hx := xs_hx F
  have hb := xs_hb F
  have hl : lv_has ls 4 [(0, .int a), (1, .int b), (2, .int lo), (3, .int hi)] := hl
  refine lv_iload_n hx hb dX6_isSpan_0 rfl (lv_at hl 0 rfl) ?_
  refine lv_iload_n hx hb dX6_isSpan_1 rfl (lv_at hl 2 rfl) ?_
  refine lv_icmp_lt (tgt := 19) hx hb dX6_isSpan_2 rfl (fun c2 => ?_) (fun c2 => ?_)
  · refine lv_iconst (v := nI 0) hx hb dX6_isSpan_19 rfl ?_
    exact hret _ _ _ _ _ _ dX6_isSpan_20 hw rfl ⟨rfl, by first | exact (if_neg (fun q => Int32.not_le.mpr c12 q.2.2)).symm | exact (if_neg (fun q => Int32.not_le.mpr c7 q.2.1)).symm | exact (if_neg (fun q => Int32.not_le.mpr c2 q.1)).symm | exact (if_pos ⟨Int32.not_lt.mp c2, Int32.not_lt.mp c7, Int32.not_lt.mp c12⟩).symm⟩
  · refine lv_iload_n hx hb dX6_isSpan_5 rfl (lv_at hl 0 rfl) ?_
    refine lv_iload_n hx hb dX6_isSpan_6 rfl (lv_at hl 1 rfl) ?_
    refine lv_icmp_gt (tgt := 19) hx hb dX6_isSpan_7 rfl (fun c7 => ?_) (fun c7 => ?_)
    · refine lv_iconst (v := nI 0) hx hb dX6_isSpan_19 rfl ?_
      exact hret _ _ _ _ _ _ dX6_isSpan_20 hw rfl ⟨rfl, by first | exact (if_neg (fun q => Int32.not_le.mpr c12 q.2.2)).symm | exact (if_neg (fun q => Int32.not_le.mpr c7 q.2.1)).symm | exact (if_neg (fun q => Int32.not_le.mpr c2 q.1)).symm | exact (if_pos ⟨Int32.not_lt.mp c2, Int32.not_lt.mp c7, Int32.not_lt.mp c12⟩).symm⟩
    · refine lv_iload_n hx hb dX6_isSpan_10 rfl (lv_at hl 1 rfl) ?_
      refine lv_iload_n hx hb dX6_isSpan_11 rfl (lv_at hl 3 rfl) ?_
      refine lv_icmp_gt (tgt := 19) hx hb dX6_isSpan_12 rfl (fun c12 => ?_) (fun c12 => ?_)
      · refine lv_iconst (v := nI 0) hx hb dX6_isSpan_19 rfl ?_
        exact hret _ _ _ _ _ _ dX6_isSpan_20 hw rfl ⟨rfl, by first | exact (if_neg (fun q => Int32.not_le.mpr c12 q.2.2)).symm | exact (if_neg (fun q => Int32.not_le.mpr c7 q.2.1)).symm | exact (if_neg (fun q => Int32.not_le.mpr c2 q.1)).symm | exact (if_pos ⟨Int32.not_lt.mp c2, Int32.not_lt.mp c7, Int32.not_lt.mp c12⟩).symm⟩
      · refine lv_iconst (v := nI 1) hx hb dX6_isSpan_15 rfl ?_
        refine lv_goto (tgt := 20) hx hb dX6_isSpan_16 rfl ?_
        exact hret _ _ _ _ _ _ dX6_isSpan_20 hw rfl ⟨rfl, by first | exact (if_neg (fun q => Int32.not_le.mpr c12 q.2.2)).symm | exact (if_neg (fun q => Int32.not_le.mpr c7 q.2.1)).symm | exact (if_neg (fun q => Int32.not_le.mpr c2 q.1)).symm | exact (if_pos ⟨Int32.not_lt.mp c2, Int32.not_lt.mp c7, Int32.not_lt.mp c12⟩).symm⟩
set_option maxHeartbeats 4000000 in
set_option maxRecDepth 20000 in
theorem c_X6_hasBit (l : Launch) (D : va_G) (k : Nat → ClassId) (X : va_W) (x : Int32) (n : Nat) : CI l D k yX6_hasBit cX6_hasBit 2 (some .boolean) 0 0 0 [.int x, .int (nI n)] X (fun r w' => w' = X ∧ r = b01 (hbt x n)) := by
  refine CI.mk (by decide) (Nat.le_of_ble_eq_true rfl) ?_
  intro p e R s m args below meth c A Q ls F hret hw hl
  have hx := xs_hx F
  have hb := xs_hb F
  have hl : lv_has ls 2 [(0, .int x), (1, .int (nI n))] := hl
  refine lv_iload_n hx hb dX6_hasBit_0 rfl (lv_at hl 0 rfl) ?_
  refine lv_iload_n hx hb dX6_hasBit_1 rfl (lv_at hl 1 rfl) ?_
  refine lv_ishr hx hb dX6_hasBit_2 ?_
  refine lv_iconst (v := nI 1) hx hb dX6_hasBit_3 rfl ?_
  refine lv_iand hx hb dX6_hasBit_4 ?_
  refine lv_if_eq (tgt := 12) hx hb dX6_hasBit_5 rfl (fun c5 => ?_) (fun c5 => ?_)
  · refine lv_iconst (v := nI 0) hx hb dX6_hasBit_12 rfl ?_
    exact hret _ _ _ _ _ _ dX6_hasBit_13 hw rfl ⟨rfl, by simp_all [b01, hbt]⟩
  · refine lv_iconst (v := nI 1) hx hb dX6_hasBit_8 rfl ?_
    refine lv_goto (tgt := 13) hx hb dX6_hasBit_9 rfl ?_
    exact hret _ _ _ _ _ _ dX6_hasBit_13 hw rfl ⟨rfl, by simp_all [b01, hbt]⟩
set_option maxHeartbeats 4000000 in
set_option maxRecDepth 20000 in
theorem c_X6_strokeOf (l : Launch) (D : va_G) (k : Nat → ClassId) (X : va_W) (dr : Int32) (sk : Nat) : CI l D k yX6_strokeOf cX6_strokeOf 2 (some .int) 0 0 0 [.int dr, .int (nI sk)] X (fun r w' => w' = X ∧ r = nI (stk dr sk)) := by
  refine CI.mk (by decide) (Nat.le_of_ble_eq_true rfl) ?_
  intro p e R s m args below meth c A Q ls F hret hw hl
  have hx := xs_hx F
  have hb := xs_hb F
  have hl : lv_has ls 2 [(0, .int dr), (1, .int (nI sk))] := hl
  refine lv_iload_n hx hb dX6_strokeOf_0 rfl (lv_at hl 0 rfl) ?_
  refine lv_iconst (v := nI 2) hx hb dX6_strokeOf_1 rfl ?_
  refine lv_bipush (v := nI 7) hx hb dX6_strokeOf_2 rfl ?_
  refine lv_iload_n hx hb dX6_strokeOf_4 rfl (lv_at hl 1 rfl) ?_
  refine lv_isub hx hb dX6_strokeOf_5 ?_
  refine lv_imul hx hb dX6_strokeOf_6 ?_
  refine lv_ishr hx hb dX6_strokeOf_7 ?_
  refine lv_iconst (v := nI 3) hx hb dX6_strokeOf_8 rfl ?_
  refine lv_iand hx hb dX6_strokeOf_9 ?_
  exact hret _ _ _ _ _ _ dX6_strokeOf_10 hw rfl ⟨rfl, (stk_ex dr sk).1⟩
set_option maxHeartbeats 4000000 in
set_option maxRecDepth 20000 in
theorem c_X7_strokeOf (l : Launch) (D : va_G) (k : Nat → ClassId) (X : va_W) (dr : Int32) (sk : Nat) (hs : sk < 8) : CI l D k yX7_strokeOf cX7_strokeOf 2 (some .int) 0 0 0 [.int dr, .int (nI sk)] X (fun r w' => w' = X ∧ r = nI (stk dr sk)) := by
  refine CI.mk (by decide) (Nat.le_of_ble_eq_true rfl) ?_
  intro p e R s m args below meth c A Q ls F hret hw hl
  have hx := xs_hx F
  have hb := xs_hb F
  have hl : lv_has ls 2 [(0, .int dr), (1, .int (nI sk))] := hl
  refine lv_iload_n hx hb dX7_strokeOf_0 rfl (lv_at hl 0 rfl) ?_
  refine lv_bipush (v := nI 14) hx hb dX7_strokeOf_1 rfl ?_
  refine lv_iconst (v := nI 2) hx hb dX7_strokeOf_3 rfl ?_
  refine lv_iload_n hx hb dX7_strokeOf_4 rfl (lv_at hl 1 rfl) ?_
  refine lv_imul hx hb dX7_strokeOf_5 ?_
  refine x_top (y := nI (2 * sk)) (pk_mul _ _) ?_
  refine lv_isub hx hb dX7_strokeOf_6 ?_
  refine x_top (y := nI 2 * (nI 7 - nI sk)) (stk_14 sk hs) ?_
  refine lv_ishr hx hb dX7_strokeOf_7 ?_
  refine lv_iconst (v := nI 3) hx hb dX7_strokeOf_8 rfl ?_
  refine lv_iand hx hb dX7_strokeOf_9 ?_
  exact hret _ _ _ _ _ _ dX7_strokeOf_10 hw rfl ⟨rfl, (stk_ex dr sk).1⟩
set_option maxHeartbeats 4000000 in
set_option maxRecDepth 20000 in
theorem c_X6_strokesIn (l : Launch) (D : va_G) (k : Nat → ClassId) (X : va_W) (dr : Int32) : CI l D k yX6_strokesIn cX6_strokesIn 3 (some .int) 1 0 0 [.int dr] X (fun r w' => w' = X ∧ r = orB (fun j => stk dr j != 0) 8) := by
  refine CI.mk (by decide) (Nat.le_of_ble_eq_true rfl) ?_
  intro p e R s m args below meth c A Q ls F hret hw hl
  have hx := xs_hx F
  have hb := xs_hb F
  have hl : lv_has ls 3 [(0, .int dr)] := hl
  refine lv_iconst (v := nI 0) hx hb dX6_strokesIn_0 rfl ?_
  refine lv_istore_n (lv' := [(1, .int (nI 0)), (0, .int dr)]) hx hb dX6_strokesIn_1 rfl hl (Nat.le_of_ble_eq_true rfl) rfl (fun ls hl => ?_)
  refine lv_iconst (v := nI 0) hx hb dX6_strokesIn_2 rfl ?_
  refine lv_istore_n (lv' := [(2, .int (nI 0)), (1, .int (nI 0)), (0, .int dr)]) hx hb dX6_strokesIn_3 rfl hl (Nat.le_of_ble_eq_true rfl) rfl (fun ls hl => ?_)
  have K4 : ∀ (n4_ : Nat) (i : Nat) (x : Int32) (H : Heap) (locs : List Loc) (ls : Array Slot), 8 - i < n4_ → (i ≤ 8) → (x = orB (fun j => stk dr j != 0) i) → Wd D A s.heap H locs X → lv_has ls 3 [(0, .int dr), (1, .int x), (2, .int (nI i))] → W p l e R s m args below meth c H locs 0 0 Q (F0 m 4 ls []) := by
    intro n4_
    induction n4_ with
    | zero =>
      intro i x H locs ls hn4_
      exact absurd hn4_ (Nat.not_lt_zero _)
    | succ n4_ ih4_ =>
      intro i x H locs ls hn4_ hi h1 hw hl
      refine lv_iload_n hx hb dX6_strokesIn_4 rfl (lv_at hl 2 rfl) ?_
      refine lv_bipush (v := nI 8) hx hb dX6_strokesIn_5 rfl ?_
      refine x_icmp_ge i 8 F (by omega) (by omega) (tgt := 30) dX6_strokesIn_7 rfl (fun c7 => ?_) (fun c7 => ?_)
      · refine lv_iload_n hx hb dX6_strokesIn_30 rfl (lv_at hl 1 rfl) ?_
        exact hret _ _ _ _ _ _ dX6_strokesIn_31 hw rfl ⟨rfl, by rw [h1, show i = 8 by omega]⟩
      · refine lv_iload_n hx hb dX6_strokesIn_10 rfl (lv_at hl 0 rfl) ?_
        refine lv_iload_n hx hb dX6_strokesIn_11 rfl (lv_at hl 2 rfl) ?_
        refine x_fSI (rest := []) (c_X6_strokeOf l D k X dr i) mo_X6_253 F hw (Nat.le_of_ble_eq_true rfl) (x_cs F (Nat.le_of_ble_eq_true rfl) (Nat.le_of_ble_eq_true rfl)) rfl rfl hl.1 (Nat.le_of_ble_eq_true rfl) dX6_strokesIn_12 (fun H locs hw => ?_)
        have := stk_lt dr i
        refine x_if_eq (stk dr i) F (by omega) (tgt := 24) dX6_strokesIn_15 rfl (fun c15 => ?_) (fun c15 => ?_)
        · refine lv_iinc (v := nI (i + 1)) (lv' := [(2, .int (nI (i + 1))), (0, .int dr), (1, .int x)]) hx hb dX6_strokesIn_24 hl (k := 2) rfl (nI_1 _) (Nat.le_of_ble_eq_true rfl) rfl (fun ls hl => ?_)
          refine lv_goto (tgt := 4) hx hb dX6_strokesIn_27 rfl ?_
          exact ih4_ (i + 1) x _ _ _ (by first | omega | (simp only [] at *; omega)) (by first | assumption | omega | rfl) (by simp [orB, h1, c15]) hw (lv_sub hl [1, 2, 0] rfl)
        · refine lv_iload_n hx hb dX6_strokesIn_18 rfl (lv_at hl 1 rfl) ?_
          refine lv_iconst (v := nI 1) hx hb dX6_strokesIn_19 rfl ?_
          refine lv_iload_n hx hb dX6_strokesIn_20 rfl (lv_at hl 2 rfl) ?_
          refine lv_ishl hx hb dX6_strokesIn_21 ?_
          refine lv_ior hx hb dX6_strokesIn_22 ?_
          refine lv_istore_n (lv' := [(1, .int (x ||| ((nI 1) <<< ((nI i) &&& 31)))), (0, .int dr), (2, .int (nI i))]) hx hb dX6_strokesIn_23 rfl hl (Nat.le_of_ble_eq_true rfl) rfl (fun ls hl => ?_)
          refine lv_iinc (v := nI (i + 1)) (lv' := [(2, .int (nI (i + 1))), (1, .int (x ||| ((nI 1) <<< ((nI i) &&& 31)))), (0, .int dr)]) hx hb dX6_strokesIn_24 hl (k := 2) rfl (nI_1 _) (Nat.le_of_ble_eq_true rfl) rfl (fun ls hl => ?_)
          refine lv_goto (tgt := 4) hx hb dX6_strokesIn_27 rfl ?_
          exact ih4_ (i + 1) (x ||| ((nI 1) <<< ((nI i) &&& 31))) _ _ _ (by first | omega | (simp only [] at *; omega)) (by first | assumption | omega | rfl) (by simp [orB, h1, c15]) hw (lv_sub hl [2, 1, 0] rfl)
  exact K4 _ 0 (nI 0) _ _ _ (Nat.lt_succ_self _) (by first | assumption | omega | rfl) (by rfl) hw (lv_sub hl [2, 1, 0] rfl)
set_option maxHeartbeats 4000000 in
set_option maxRecDepth 20000 in
theorem c_X6_inkOf (l : Launch) (D : va_G) (k : Nat → ClassId) (X : va_W) (dr : Int32) : CI l D k yX6_inkOf cX6_inkOf 4 (some .int) 1 0 0 [.int dr] X (fun r w' => w' = X ∧ r = nI (inkN dr 8)) := by
  refine CI.mk (by decide) (Nat.le_of_ble_eq_true rfl) ?_
  intro p e R s m args below meth c A Q ls F hret hw hl
  have hx := xs_hx F
  have hb := xs_hb F
  have hl : lv_has ls 4 [(0, .int dr)] := hl
  refine lv_iconst (v := nI 0) hx hb dX6_inkOf_0 rfl ?_
  refine lv_istore_n (lv' := [(1, .int (nI 0)), (0, .int dr)]) hx hb dX6_inkOf_1 rfl hl (Nat.le_of_ble_eq_true rfl) rfl (fun ls hl => ?_)
  refine lv_iconst (v := nI 0) hx hb dX6_inkOf_2 rfl ?_
  refine lv_istore_n (lv' := [(2, .int (nI 0)), (1, .int (nI 0)), (0, .int dr)]) hx hb dX6_inkOf_3 rfl hl (Nat.le_of_ble_eq_true rfl) rfl (fun ls hl => ?_)
  have K4 : ∀ (n4_ : Nat) (i : Nat) (x : Nat) (H : Heap) (locs : List Loc) (ls : Array Slot), 8 - i < n4_ → (i ≤ 8) → (x = inkN dr i) → Wd D A s.heap H locs X → lv_has ls 4 [(0, .int dr), (1, .int (nI x)), (2, .int (nI i))] → W p l e R s m args below meth c H locs 0 0 Q (F0 m 4 ls []) := by
    intro n4_
    induction n4_ with
    | zero =>
      intro i x H locs ls hn4_
      exact absurd hn4_ (Nat.not_lt_zero _)
    | succ n4_ ih4_ =>
      intro i x H locs ls hn4_ hi h1 hw hl
      refine lv_iload_n hx hb dX6_inkOf_4 rfl (lv_at hl 2 rfl) ?_
      refine lv_bipush (v := nI 8) hx hb dX6_inkOf_5 rfl ?_
      refine x_icmp_ge i 8 F (by omega) (by omega) (tgt := 40) dX6_inkOf_7 rfl (fun c7 => ?_) (fun c7 => ?_)
      · refine lv_iload_n hx hb dX6_inkOf_40 rfl (lv_at hl 1 rfl) ?_
        exact hret _ _ _ _ _ _ dX6_inkOf_41 hw rfl ⟨rfl, by rw [h1, show i = 8 by omega]⟩
      · refine lv_iload_n hx hb dX6_inkOf_10 rfl (lv_at hl 0 rfl) ?_
        refine lv_iload_n hx hb dX6_inkOf_11 rfl (lv_at hl 2 rfl) ?_
        refine x_fSI (rest := []) (c_X6_strokeOf l D k X dr i) mo_X6_253 F hw (Nat.le_of_ble_eq_true rfl) (x_cs F (Nat.le_of_ble_eq_true rfl) (Nat.le_of_ble_eq_true rfl)) rfl rfl hl.1 (Nat.le_of_ble_eq_true rfl) dX6_inkOf_12 (fun H locs hw => ?_)
        have := stk_lt dr i
        refine lv_istore_n (lv' := [(3, .int (nI ((stk dr i)))), (0, .int dr), (1, .int (nI x)), (2, .int (nI i))]) hx hb dX6_inkOf_15 rfl hl (Nat.le_of_ble_eq_true rfl) rfl (fun ls hl => ?_)
        refine lv_iload_n hx hb dX6_inkOf_16 rfl (lv_at hl 0 rfl) ?_
        refine lv_iconst (v := nI 3) hx hb dX6_inkOf_17 rfl ?_
        refine x_icmp_ne (stk dr i) 3 F (by omega) (by omega) (tgt := 27) dX6_inkOf_18 rfl (fun c18 => ?_) (fun c18 => ?_)
        · refine lv_iload_n hx hb dX6_inkOf_27 rfl (lv_at hl 0 rfl) ?_
          refine x_if_eq (stk dr i) F (by omega) (tgt := 34) dX6_inkOf_28 rfl (fun c28 => ?_) (fun c28 => ?_)
          · refine lv_iinc (v := nI (i + 1)) (lv' := [(2, .int (nI (i + 1))), (3, .int (nI ((stk dr i)))), (0, .int dr), (1, .int (nI x))]) hx hb dX6_inkOf_34 hl (k := 3) rfl (nI_1 _) (Nat.le_of_ble_eq_true rfl) rfl (fun ls hl => ?_)
            refine lv_goto (tgt := 4) hx hb dX6_inkOf_37 rfl ?_
            exact ih4_ (i + 1) x _ _ _ (by first | omega | (simp only [] at *; omega)) (by first | assumption | omega | rfl) (by simp [inkN, h1, *]) hw (lv_sub hl [2, 3, 0] rfl)
          · refine lv_iinc (v := nI (x + 1)) (lv' := [(1, .int (nI (x + 1))), (3, .int (nI ((stk dr i)))), (0, .int dr), (2, .int (nI i))]) hx hb dX6_inkOf_31 hl (k := 2) rfl (nI_1 _) (Nat.le_of_ble_eq_true rfl) rfl (fun ls hl => ?_)
            refine lv_iinc (v := nI (i + 1)) (lv' := [(2, .int (nI (i + 1))), (1, .int (nI (x + 1))), (3, .int (nI ((stk dr i)))), (0, .int dr)]) hx hb dX6_inkOf_34 hl (k := 3) rfl (nI_1 _) (Nat.le_of_ble_eq_true rfl) rfl (fun ls hl => ?_)
            refine lv_goto (tgt := 4) hx hb dX6_inkOf_37 rfl ?_
            exact ih4_ (i + 1) (x + 1) _ _ _ (by first | omega | (simp only [] at *; omega)) (by first | assumption | omega | rfl) (by simp [inkN, h1, *]) hw (lv_sub hl [3, 1, 0] rfl)
        · refine lv_iinc (v := nI (x + 2)) (lv' := [(1, .int (nI (x + 2))), (3, .int (nI ((stk dr i)))), (0, .int dr), (2, .int (nI i))]) hx hb dX6_inkOf_21 hl (k := 2) rfl (nI_add _ 2) (Nat.le_of_ble_eq_true rfl) rfl (fun ls hl => ?_)
          refine lv_goto (tgt := 34) hx hb dX6_inkOf_24 rfl ?_
          refine lv_iinc (v := nI (i + 1)) (lv' := [(2, .int (nI (i + 1))), (1, .int (nI (x + 2))), (3, .int (nI ((stk dr i)))), (0, .int dr)]) hx hb dX6_inkOf_34 hl (k := 3) rfl (nI_1 _) (Nat.le_of_ble_eq_true rfl) rfl (fun ls hl => ?_)
          refine lv_goto (tgt := 4) hx hb dX6_inkOf_37 rfl ?_
          exact ih4_ (i + 1) (x + 2) _ _ _ (by first | omega | (simp only [] at *; omega)) (by first | assumption | omega | rfl) (by simp [inkN, h1, *]) hw (lv_sub hl [3, 1, 0] rfl)
  exact K4 _ 0 0 _ _ _ (Nat.lt_succ_self _) (by first | assumption | omega | rfl) (by rfl) hw (lv_sub hl [2, 1, 0] rfl)
set_option maxHeartbeats 4000000 in
set_option maxRecDepth 20000 in
theorem c_X7_ink (l : Launch) (D : va_G) (k : Nat → ClassId) (X : va_W) (dr : Int32) : CI l D k yX7_ink cX7_ink 4 (some .int) 1 0 0 [.int dr] X (fun r w' => w' = X ∧ r = nI (inkN dr 8)) := by
  refine CI.mk (by decide) (Nat.le_of_ble_eq_true rfl) ?_
  intro p e R s m args below meth c A Q ls F hret hw hl
  have hx := xs_hx F
  have hb := xs_hb F
  have hl : lv_has ls 4 [(0, .int dr)] := hl
  refine lv_iconst (v := nI 0) hx hb dX7_ink_0 rfl ?_
  refine lv_istore_n (lv' := [(1, .int (nI 0)), (0, .int dr)]) hx hb dX7_ink_1 rfl hl (Nat.le_of_ble_eq_true rfl) rfl (fun ls hl => ?_)
  refine lv_iconst (v := nI 0) hx hb dX7_ink_2 rfl ?_
  refine lv_istore_n (lv' := [(2, .int (nI 0)), (1, .int (nI 0)), (0, .int dr)]) hx hb dX7_ink_3 rfl hl (Nat.le_of_ble_eq_true rfl) rfl (fun ls hl => ?_)
  have K4 : ∀ (n4_ : Nat) (i : Nat) (x : Nat) (H : Heap) (locs : List Loc) (ls : Array Slot), 8 - i < n4_ → (i ≤ 8) → (x = inkN dr i) → Wd D A s.heap H locs X → lv_has ls 4 [(0, .int dr), (1, .int (nI x)), (2, .int (nI i))] → W p l e R s m args below meth c H locs 0 0 Q (F0 m 4 ls []) := by
    intro n4_
    induction n4_ with
    | zero =>
      intro i x H locs ls hn4_
      exact absurd hn4_ (Nat.not_lt_zero _)
    | succ n4_ ih4_ =>
      intro i x H locs ls hn4_ hi h1 hw hl
      refine lv_iload_n hx hb dX7_ink_4 rfl (lv_at hl 2 rfl) ?_
      refine lv_bipush (v := nI 8) hx hb dX7_ink_5 rfl ?_
      refine x_icmp_ge i 8 F (by omega) (by omega) (tgt := 43) dX7_ink_7 rfl (fun c7 => ?_) (fun c7 => ?_)
      · refine lv_iload_n hx hb dX7_ink_43 rfl (lv_at hl 1 rfl) ?_
        exact hret _ _ _ _ _ _ dX7_ink_44 hw rfl ⟨rfl, by rw [h1, show i = 8 by omega]⟩
      · refine lv_iload_n hx hb dX7_ink_10 rfl (lv_at hl 0 rfl) ?_
        refine lv_iload_n hx hb dX7_ink_11 rfl (lv_at hl 2 rfl) ?_
        refine x_fSI (rest := []) (c_X7_strokeOf l D k X dr i (by first | assumption | omega)) mo_X7_104 F hw (Nat.le_of_ble_eq_true rfl) (x_cs F (Nat.le_of_ble_eq_true rfl) (Nat.le_of_ble_eq_true rfl)) rfl rfl hl.1 (Nat.le_of_ble_eq_true rfl) dX7_ink_12 (fun H locs hw => ?_)
        have := stk_lt dr i
        refine lv_istore_n (lv' := [(3, .int (nI ((stk dr i)))), (0, .int dr), (1, .int (nI x)), (2, .int (nI i))]) hx hb dX7_ink_15 rfl hl (Nat.le_of_ble_eq_true rfl) rfl (fun ls hl => ?_)
        refine lv_iload_n hx hb dX7_ink_16 rfl (lv_at hl 2 rfl) ?_
        refine lv_iload_n hx hb dX7_ink_17 rfl (lv_at hl 0 rfl) ?_
        refine x_if_ne (stk dr i) F (by omega) (tgt := 25) dX7_ink_18 rfl (fun c18 => ?_) (fun c18 => ?_)
        · refine lv_iload_n hx hb dX7_ink_25 rfl (lv_at hl 0 rfl) ?_
          refine lv_iconst (v := nI 3) hx hb dX7_ink_26 rfl ?_
          refine x_icmp_ne (stk dr i) 3 F (by omega) (by omega) (tgt := 34) dX7_ink_27 rfl (fun c27 => ?_) (fun c27 => ?_)
          · refine lv_iconst (v := nI 1) hx hb dX7_ink_34 rfl ?_
            refine lv_iadd hx hb dX7_ink_35 ?_
            refine x_top (y := nI (x + 1)) (nI_add _ _) ?_
            refine lv_istore_n (lv' := [(1, .int (nI (x + 1))), (3, .int (nI ((stk dr i)))), (0, .int dr), (2, .int (nI i))]) hx hb dX7_ink_36 rfl hl (Nat.le_of_ble_eq_true rfl) rfl (fun ls hl => ?_)
            refine lv_iinc (v := nI (i + 1)) (lv' := [(2, .int (nI (i + 1))), (1, .int (nI (x + 1))), (3, .int (nI ((stk dr i)))), (0, .int dr)]) hx hb dX7_ink_37 hl (k := 3) rfl (nI_1 _) (Nat.le_of_ble_eq_true rfl) rfl (fun ls hl => ?_)
            refine lv_goto (tgt := 4) hx hb dX7_ink_40 rfl ?_
            exact ih4_ (i + 1) (x + 1) _ _ _ (by first | omega | (simp only [] at *; omega)) (by first | assumption | omega | rfl) (by simp [inkN, h1, *]) hw (lv_sub hl [3, 1, 0] rfl)
          · refine lv_iconst (v := nI 2) hx hb dX7_ink_30 rfl ?_
            refine lv_goto (tgt := 35) hx hb dX7_ink_31 rfl ?_
            refine lv_iadd hx hb dX7_ink_35 ?_
            refine x_top (y := nI (x + 2)) (nI_add _ _) ?_
            refine lv_istore_n (lv' := [(1, .int (nI (x + 2))), (3, .int (nI ((stk dr i)))), (0, .int dr), (2, .int (nI i))]) hx hb dX7_ink_36 rfl hl (Nat.le_of_ble_eq_true rfl) rfl (fun ls hl => ?_)
            refine lv_iinc (v := nI (i + 1)) (lv' := [(2, .int (nI (i + 1))), (1, .int (nI (x + 2))), (3, .int (nI ((stk dr i)))), (0, .int dr)]) hx hb dX7_ink_37 hl (k := 3) rfl (nI_1 _) (Nat.le_of_ble_eq_true rfl) rfl (fun ls hl => ?_)
            refine lv_goto (tgt := 4) hx hb dX7_ink_40 rfl ?_
            exact ih4_ (i + 1) (x + 2) _ _ _ (by first | omega | (simp only [] at *; omega)) (by first | assumption | omega | rfl) (by simp [inkN, h1, *]) hw (lv_sub hl [3, 1, 0] rfl)
        · refine lv_iconst (v := nI 0) hx hb dX7_ink_21 rfl ?_
          refine lv_goto (tgt := 35) hx hb dX7_ink_22 rfl ?_
          refine lv_iadd hx hb dX7_ink_35 ?_
          refine x_top (y := nI (x + 0)) (nI_add _ _) ?_
          refine lv_istore_n (lv' := [(1, .int (nI (x + 0))), (3, .int (nI ((stk dr i)))), (0, .int dr), (2, .int (nI i))]) hx hb dX7_ink_36 rfl hl (Nat.le_of_ble_eq_true rfl) rfl (fun ls hl => ?_)
          refine lv_iinc (v := nI (i + 1)) (lv' := [(2, .int (nI (i + 1))), (1, .int (nI (x + 0))), (3, .int (nI ((stk dr i)))), (0, .int dr)]) hx hb dX7_ink_37 hl (k := 3) rfl (nI_1 _) (Nat.le_of_ble_eq_true rfl) rfl (fun ls hl => ?_)
          refine lv_goto (tgt := 4) hx hb dX7_ink_40 rfl ?_
          exact ih4_ (i + 1) (x + 0) _ _ _ (by first | omega | (simp only [] at *; omega)) (by first | assumption | omega | rfl) (by simp [inkN, h1, *]) hw (lv_sub hl [3, 1, 0] rfl)
  exact K4 _ 0 0 _ _ _ (Nat.lt_succ_self _) (by first | assumption | omega | rfl) (by rfl) hw (lv_sub hl [2, 1, 0] rfl)
set_option maxHeartbeats 4000000 in
set_option maxRecDepth 20000 in
theorem c_X6_mayLieUnder (l : Launch) (D : va_G) (k : Nat → ClassId) (X : va_W) (od : Int32) (sw : Int32) (hi : Int32) : CI l D k yX6_mayLieUnder cX6_mayLieUnder 5 (some .boolean) 1 0 0 [.int od, .int sw, .int hi] X (fun r w' => w' = X ∧ r = b01 (allB (fun j => stk od j == 0 || hbt hi j || stk od j == stk sw j) 8)) := by
  refine CI.mk (by decide) (Nat.le_of_ble_eq_true rfl) ?_
  intro p e R s m args below meth c A Q ls F hret hw hl
  have hx := xs_hx F
  have hb := xs_hb F
  have hl : lv_has ls 5 [(0, .int od), (1, .int sw), (2, .int hi)] := hl
  refine lv_iconst (v := nI 0) hx hb dX6_mayLieUnder_0 rfl ?_
  refine lv_istore_n (lv' := [(3, .int (nI 0)), (0, .int od), (1, .int sw), (2, .int hi)]) hx hb dX6_mayLieUnder_1 rfl hl (Nat.le_of_ble_eq_true rfl) rfl (fun ls hl => ?_)
  have K2 : ∀ (n2_ : Nat) (i : Nat) (H : Heap) (locs : List Loc) (ls : Array Slot), 8 - i < n2_ → (i ≤ 8) → (allB (fun j => stk od j == 0 || hbt hi j || stk od j == stk sw j) i = true) → Wd D A s.heap H locs X → lv_has ls 5 [(0, .int od), (1, .int sw), (2, .int hi), (3, .int (nI i))] → W p l e R s m args below meth c H locs 0 0 Q (F0 m 2 ls []) := by
    intro n2_
    induction n2_ with
    | zero =>
      intro i H locs ls hn2_
      exact absurd hn2_ (Nat.not_lt_zero _)
    | succ n2_ ih2_ =>
      intro i H locs ls hn2_ hi8 h1 hw hl
      refine lv_iload_n hx hb dX6_mayLieUnder_2 rfl (lv_at hl 3 rfl) ?_
      refine lv_bipush (v := nI 8) hx hb dX6_mayLieUnder_3 rfl ?_
      refine x_icmp_ge i 8 F (by omega) (by omega) (tgt := 46) dX6_mayLieUnder_5 rfl (fun c5 => ?_) (fun c5 => ?_)
      · refine lv_iconst (v := nI 1) hx hb dX6_mayLieUnder_46 rfl ?_
        exact hret _ _ _ _ _ _ dX6_mayLieUnder_47 hw rfl ⟨rfl, by rw [show 8 = i by omega, h1]; rfl⟩
      · refine lv_iload_n hx hb dX6_mayLieUnder_8 rfl (lv_at hl 0 rfl) ?_
        refine lv_iload_n hx hb dX6_mayLieUnder_9 rfl (lv_at hl 3 rfl) ?_
        refine x_fSI (rest := []) (c_X6_strokeOf l D k X od i) mo_X6_253 F hw (Nat.le_of_ble_eq_true rfl) (x_cs F (Nat.le_of_ble_eq_true rfl) (Nat.le_of_ble_eq_true rfl)) rfl rfl hl.1 (Nat.le_of_ble_eq_true rfl) dX6_mayLieUnder_10 (fun H locs hw => ?_)
        have := stk_lt od i
        refine lv_istore (lv' := [(4, .int (nI ((stk od i)))), (0, .int od), (1, .int sw), (2, .int hi), (3, .int (nI i))]) hx hb dX6_mayLieUnder_13 hl (Nat.le_of_ble_eq_true rfl) rfl (fun ls hl => ?_)
        refine lv_iload hx hb dX6_mayLieUnder_15 (lv_at hl 0 rfl) ?_
        refine x_if_eq (stk od i) F (by omega) (tgt := 40) dX6_mayLieUnder_17 rfl (fun c17 => ?_) (fun c17 => ?_)
        · refine lv_iinc (v := nI (i + 1)) (lv' := [(3, .int (nI (i + 1))), (4, .int (nI ((stk od i)))), (0, .int od), (1, .int sw), (2, .int hi)]) hx hb dX6_mayLieUnder_40 hl (k := 4) rfl (nI_1 _) (Nat.le_of_ble_eq_true rfl) rfl (fun ls hl => ?_)
          refine lv_goto (tgt := 2) hx hb dX6_mayLieUnder_43 rfl ?_
          exact ih2_ (i + 1) _ _ _ (by first | omega | (simp only [] at *; omega)) (by first | assumption | omega | rfl) (by simp [allB, h1]; simp_all [b01_0]) hw (lv_sub hl [2, 3, 4, 0] rfl)
        · refine lv_iload_n hx hb dX6_mayLieUnder_20 rfl (lv_at hl 3 rfl) ?_
          refine lv_iload_n hx hb dX6_mayLieUnder_21 rfl (lv_at hl 4 rfl) ?_
          refine x_fSI (rest := []) (c_X6_hasBit l D k X hi i) mo_X6_151 F hw (Nat.le_of_ble_eq_true rfl) (x_cs F (Nat.le_of_ble_eq_true rfl) (Nat.le_of_ble_eq_true rfl)) rfl rfl hl.1 (Nat.le_of_ble_eq_true rfl) dX6_mayLieUnder_22 (fun H locs hw => ?_)
          refine lv_if_ne (tgt := 40) hx hb dX6_mayLieUnder_25 rfl (fun c25 => ?_) (fun c25 => ?_)
          · refine lv_iinc (v := nI (i + 1)) (lv' := [(3, .int (nI (i + 1))), (4, .int (nI ((stk od i)))), (0, .int od), (1, .int sw), (2, .int hi)]) hx hb dX6_mayLieUnder_40 hl (k := 4) rfl (nI_1 _) (Nat.le_of_ble_eq_true rfl) rfl (fun ls hl => ?_)
            refine lv_goto (tgt := 2) hx hb dX6_mayLieUnder_43 rfl ?_
            exact ih2_ (i + 1) _ _ _ (by first | omega | (simp only [] at *; omega)) (by first | assumption | omega | rfl) (by simp [allB, h1]; simp_all [b01_0]) hw (lv_sub hl [2, 3, 4, 0] rfl)
          · refine lv_iload hx hb dX6_mayLieUnder_28 (lv_at hl 0 rfl) ?_
            refine lv_iload_n hx hb dX6_mayLieUnder_30 rfl (lv_at hl 2 rfl) ?_
            refine lv_iload_n hx hb dX6_mayLieUnder_31 rfl (lv_at hl 4 rfl) ?_
            refine x_fSI (rest := [.int (nI ((stk od i)))]) (c_X6_strokeOf l D k X sw i) mo_X6_253 F hw (Nat.le_of_ble_eq_true rfl) (x_cs F (Nat.le_of_ble_eq_true rfl) (Nat.le_of_ble_eq_true rfl)) rfl rfl hl.1 (Nat.le_of_ble_eq_true rfl) dX6_mayLieUnder_32 (fun H locs hw => ?_)
            have := stk_lt sw i
            refine x_icmp_eq (stk od i) (stk sw i) F (by omega) (by omega) (tgt := 40) dX6_mayLieUnder_35 rfl (fun c35 => ?_) (fun c35 => ?_)
            · refine lv_iinc (v := nI (i + 1)) (lv' := [(3, .int (nI (i + 1))), (4, .int (nI ((stk od i)))), (0, .int od), (1, .int sw), (2, .int hi)]) hx hb dX6_mayLieUnder_40 hl (k := 4) rfl (nI_1 _) (Nat.le_of_ble_eq_true rfl) rfl (fun ls hl => ?_)
              refine lv_goto (tgt := 2) hx hb dX6_mayLieUnder_43 rfl ?_
              exact ih2_ (i + 1) _ _ _ (by first | omega | (simp only [] at *; omega)) (by first | assumption | omega | rfl) (by simp [allB, h1]; simp_all [b01_0]) hw (lv_sub hl [2, 3, 4, 0] rfl)
            · refine lv_iconst (v := nI 0) hx hb dX6_mayLieUnder_38 rfl ?_
              exact hret _ _ _ _ _ _ dX6_mayLieUnder_39 hw rfl ⟨rfl, by rw [allB_no (n := i) (by omega) (by simp_all [b01_0])]; rfl⟩
  exact K2 _ 0 _ _ _ (Nat.lt_succ_self _) (by first | assumption | omega | rfl) (by rfl) hw (lv_sub hl [1, 2, 3, 0] rfl)
def srcIn (row : Int32) (p : Nat) : Int32 := (row >>> (nI (4 * p) &&& 31)) &&& nI 15
def isDg (c : Int32) : Bool := decide (nI 48 ≤ c ∧ c ≤ nI 57)
/-- the places of a law's text: 0 from, 1 to, 2 =, 3 a digit, 4 behind one, 5 behind two -/
def nxt (pl : Nat) (c : Int32) : Option Nat :=
  if pl < 2 then (if c = nI 42 ∨ (nI 48 ≤ c ∧ c ≤ nI 51) then some (pl + 1) else none)
  else if pl = 2 then (if c = nI 61 then some 3 else none)
  else if pl = 3 then (if isDg c then some 4 else none)
  else if pl = 4 then (if isDg c then some 5 else if c = nI 59 then some 0 else none)
  else (if c = nI 59 then some 0 else none)
def nxI (o : Option Nat) (no : Int32) : Int32 := match o with
  | some j => nI j
  | none => no
theorem nxt_lt {pl j : Nat} {c : Int32} (h : nxt pl c = some j) : j ≤ 5 := by
  unfold nxt at h
  repeat' split at h
  all_goals first | (cases h; omega) | (cases h)
def fitK (sg : Int32) (kd : Nat) : Bool := sg == nI 42 || sg - nI 48 == nI kd
theorem x_tab4 {x : Int32} (h0 : ¬ x = nI 0) (h1 : ¬ x = nI 1) (h2 : ¬ x = nI 2) (h3 : ¬ x = nI 3) (h4 : ¬ x = nI 4) : x.toInt < 0 ∨ 4 < x.toInt := by
  rcases pk_ix x (n := 5) (by decide) with h | h | ⟨j, hj, rfl⟩
  · exact Or.inl ((Int32.lt_iff_toInt_lt).mp h)
  · right
    have := (Int32.le_iff_toInt_le).mp h
    have e : (nI 5).toInt = 5 := rfl
    omega
  · rcases (show j = 0 ∨ j = 1 ∨ j = 2 ∨ j = 3 ∨ j = 4 by omega) with rfl | rfl | rfl | rfl | rfl <;> contradiction
set_option maxHeartbeats 4000000 in
set_option maxRecDepth 20000 in
theorem c_X5_sourceIn (l : Launch) (D : va_G) (k : Nat → ClassId) (X : va_W) (rw : Int32) (pi : Nat) : CI l D k yX5_sourceIn cX5_sourceIn 2 (some .int) 0 0 0 [.int rw, .int (nI pi)] X (fun r w' => w' = X ∧ r = srcIn rw pi) := by
  refine CI.mk (by decide) (Nat.le_of_ble_eq_true rfl) ?_
  intro p e R s m args below meth c A Q ls F hret hw hl
  have hx := xs_hx F
  have hb := xs_hb F
  have hl : lv_has ls 2 [(0, .int rw), (1, .int (nI pi))] := hl
  refine lv_iload_n hx hb dX5_sourceIn_0 rfl (lv_at hl 0 rfl) ?_
  refine lv_iconst (v := nI 4) hx hb dX5_sourceIn_1 rfl ?_
  refine lv_iload_n hx hb dX5_sourceIn_2 rfl (lv_at hl 1 rfl) ?_
  refine lv_imul hx hb dX5_sourceIn_3 ?_
  refine x_top (y := nI (4 * pi)) (pk_mul _ _) ?_
  refine lv_ishr hx hb dX5_sourceIn_4 ?_
  refine lv_bipush (v := nI 15) hx hb dX5_sourceIn_5 rfl ?_
  refine lv_iand hx hb dX5_sourceIn_7 ?_
  exact hret _ _ _ _ _ _ dX5_sourceIn_8 hw rfl ⟨rfl, rfl⟩
set_option maxHeartbeats 4000000 in
set_option maxRecDepth 20000 in
theorem c_X3_isDigit (l : Launch) (D : va_G) (k : Nat → ClassId) (X : va_W) (cr : Int32) : CI l D k yX3_isDigit cX3_isDigit 1 (some .boolean) 1 0 0 [.int cr] X (fun r w' => w' = X ∧ r = b01 (isDg cr)) := by
  refine CI.mk (by decide) (Nat.le_of_ble_eq_true rfl) ?_
  intro p e R s m args below meth c A Q ls F hret hw hl
  have hx := xs_hx F
  have hb := xs_hb F
  have hl : lv_has ls 1 [(0, .int cr)] := hl
  refine lv_iload_n hx hb dX3_isDigit_0 rfl (lv_at hl 0 rfl) ?_
  refine lv_bipush (v := nI 48) hx hb dX3_isDigit_1 rfl ?_
  refine lv_bipush (v := nI 57) hx hb dX3_isDigit_3 rfl ?_
  refine x_fSI (rest := []) (c_X6_within l D k X cr (nI 48) (nI 57)) mo_X3_23 F hw (Nat.le_of_ble_eq_true rfl) (x_cs F (Nat.le_of_ble_eq_true rfl) (Nat.le_of_ble_eq_true rfl)) rfl rfl hl.1 (Nat.le_of_ble_eq_true rfl) dX3_isDigit_5 (fun H locs hw => ?_)
  exact hret _ _ _ _ _ _ dX3_isDigit_8 hw (f_in_n _ _ _) ⟨rfl, by unfold f_in b01 isDg; simp⟩
set_option maxHeartbeats 4000000 in
set_option maxRecDepth 20000 in
theorem c_X3_afterLine (l : Launch) (D : va_G) (k : Nat → ClassId) (X : va_W) (cr : Int32) : CI l D k yX3_afterLine cX3_afterLine 1 (some .int) 0 0 0 [.int cr] X (fun r w' => w' = X ∧ r = (if cr = nI 59 then nI 0 else (-1))) := by
  refine CI.mk (by decide) (Nat.le_of_ble_eq_true rfl) ?_
  intro p e R s m args below meth c A Q ls F hret hw hl
  have hx := xs_hx F
  have hb := xs_hb F
  have hl : lv_has ls 1 [(0, .int cr)] := hl
  refine lv_iload_n hx hb dX3_afterLine_0 rfl (lv_at hl 0 rfl) ?_
  refine lv_bipush (v := nI 59) hx hb dX3_afterLine_1 rfl ?_
  refine lv_icmp_ne (tgt := 10) hx hb dX3_afterLine_3 rfl (fun c3 => ?_) (fun c3 => ?_)
  · refine lv_iconst (v := (-1)) hx hb dX3_afterLine_10 rfl ?_
    exact hret _ _ _ _ _ _ dX3_afterLine_11 hw rfl ⟨rfl, by simp [c3]⟩
  · refine lv_iconst (v := nI 0) hx hb dX3_afterLine_6 rfl ?_
    refine lv_goto (tgt := 11) hx hb dX3_afterLine_7 rfl ?_
    exact hret _ _ _ _ _ _ dX3_afterLine_11 hw rfl ⟨rfl, by simp [c3]⟩
set_option maxHeartbeats 4000000 in
set_option maxRecDepth 20000 in
theorem c_X3_placeAfter (l : Launch) (D : va_G) (k : Nat → ClassId) (X : va_W) (pl : Nat) (cr : Int32) (hp : pl ≤ 5) : CI l D k yX3_placeAfter cX3_placeAfter 2 (some .int) 2 0 0 [.int (nI pl), .int cr] X (fun r w' => w' = X ∧ r = nxI (nxt pl cr) (-1)) := by
  refine CI.mk (by decide) (Nat.le_of_ble_eq_true rfl) ?_
  intro p e R s m args below meth c A Q ls F hret hw hl
  have hx := xs_hx F
  have hb := xs_hb F
  have hl : lv_has ls 2 [(0, .int (nI pl)), (1, .int cr)] := hl
  refine lv_iload_n hx hb dX3_placeAfter_0 rfl (lv_at hl 0 rfl) ?_
  rcases Decidable.em (pl = 0) with c1_0 | c1_0
  · refine lv_tableIn (tgt := 36) hx hb dX3_placeAfter_1 (by rw [c1_0]; decide) (by rw [c1_0]; decide) (by rw [c1_0]; rfl) rfl ?_
    refine lv_iload_n hx hb dX3_placeAfter_36 rfl (lv_at hl 1 rfl) ?_
    refine lv_bipush (v := nI 42) hx hb dX3_placeAfter_37 rfl ?_
    refine lv_icmp_eq (tgt := 53) hx hb dX3_placeAfter_39 rfl (fun c39 => ?_) (fun c39 => ?_)
    · refine lv_iload_n hx hb dX3_placeAfter_53 rfl (lv_at hl 0 rfl) ?_
      refine lv_iconst (v := nI 1) hx hb dX3_placeAfter_54 rfl ?_
      refine lv_iadd hx hb dX3_placeAfter_55 ?_
      refine x_top (y := nI (pl + 1)) (nI_add _ _) ?_
      refine lv_goto (tgt := 60) hx hb dX3_placeAfter_56 rfl ?_
      exact hret _ _ _ _ _ _ dX3_placeAfter_60 hw rfl ⟨rfl, by first | (unfold nxt; rw [if_pos (by omega), if_neg (by intro h; rcases h with h | h; exact c39 h; exact f_in_0.mp c50 h)]; rfl) | (simp_all [nxt, nxI, b01_0, f_in_0]; done) | (simp_all [nxt, nxI, b01_0, f_in_0]; split <;> simp_all)⟩
    · refine lv_iload_n hx hb dX3_placeAfter_42 rfl (lv_at hl 1 rfl) ?_
      refine lv_bipush (v := nI 48) hx hb dX3_placeAfter_43 rfl ?_
      refine lv_bipush (v := nI 51) hx hb dX3_placeAfter_45 rfl ?_
      refine x_fSI (rest := []) (c_X6_within l D k X cr (nI 48) (nI 51)) mo_X3_23 F hw (Nat.le_of_ble_eq_true rfl) (x_cs F (Nat.le_of_ble_eq_true rfl) (Nat.le_of_ble_eq_true rfl)) rfl rfl hl.1 (Nat.le_of_ble_eq_true rfl) dX3_placeAfter_47 (fun H locs hw => ?_)
      refine lv_if_eq (tgt := 59) hx hb dX3_placeAfter_50 rfl (fun c50 => ?_) (fun c50 => ?_)
      · refine lv_iconst (v := (-1)) hx hb dX3_placeAfter_59 rfl ?_
        exact hret _ _ _ _ _ _ dX3_placeAfter_60 hw rfl ⟨rfl, by first | (unfold nxt; rw [if_pos (by omega), if_neg (by intro h; rcases h with h | h; exact c39 h; exact f_in_0.mp c50 h)]; rfl) | (simp_all [nxt, nxI, b01_0, f_in_0]; done) | (simp_all [nxt, nxI, b01_0, f_in_0]; split <;> simp_all)⟩
      · refine lv_iload_n hx hb dX3_placeAfter_53 rfl (lv_at hl 0 rfl) ?_
        refine lv_iconst (v := nI 1) hx hb dX3_placeAfter_54 rfl ?_
        refine lv_iadd hx hb dX3_placeAfter_55 ?_
        refine x_top (y := nI (pl + 1)) (nI_add _ _) ?_
        refine lv_goto (tgt := 60) hx hb dX3_placeAfter_56 rfl ?_
        exact hret _ _ _ _ _ _ dX3_placeAfter_60 hw rfl ⟨rfl, by first | (unfold nxt; rw [if_pos (by omega), if_neg (by intro h; rcases h with h | h; exact c39 h; exact f_in_0.mp c50 h)]; rfl) | (simp_all [nxt, nxI, b01_0, f_in_0]; done) | (simp_all [nxt, nxI, b01_0, f_in_0]; split <;> simp_all)⟩
  rcases Decidable.em (pl = 1) with c1_1 | c1_1
  · refine lv_tableIn (tgt := 36) hx hb dX3_placeAfter_1 (by rw [c1_1]; decide) (by rw [c1_1]; decide) (by rw [c1_1]; rfl) rfl ?_
    refine lv_iload_n hx hb dX3_placeAfter_36 rfl (lv_at hl 1 rfl) ?_
    refine lv_bipush (v := nI 42) hx hb dX3_placeAfter_37 rfl ?_
    refine lv_icmp_eq (tgt := 53) hx hb dX3_placeAfter_39 rfl (fun c39 => ?_) (fun c39 => ?_)
    · refine lv_iload_n hx hb dX3_placeAfter_53 rfl (lv_at hl 0 rfl) ?_
      refine lv_iconst (v := nI 1) hx hb dX3_placeAfter_54 rfl ?_
      refine lv_iadd hx hb dX3_placeAfter_55 ?_
      refine x_top (y := nI (pl + 1)) (nI_add _ _) ?_
      refine lv_goto (tgt := 60) hx hb dX3_placeAfter_56 rfl ?_
      exact hret _ _ _ _ _ _ dX3_placeAfter_60 hw rfl ⟨rfl, by first | (unfold nxt; rw [if_pos (by omega), if_neg (by intro h; rcases h with h | h; exact c39 h; exact f_in_0.mp c50 h)]; rfl) | (simp_all [nxt, nxI, b01_0, f_in_0]; done) | (simp_all [nxt, nxI, b01_0, f_in_0]; split <;> simp_all)⟩
    · refine lv_iload_n hx hb dX3_placeAfter_42 rfl (lv_at hl 1 rfl) ?_
      refine lv_bipush (v := nI 48) hx hb dX3_placeAfter_43 rfl ?_
      refine lv_bipush (v := nI 51) hx hb dX3_placeAfter_45 rfl ?_
      refine x_fSI (rest := []) (c_X6_within l D k X cr (nI 48) (nI 51)) mo_X3_23 F hw (Nat.le_of_ble_eq_true rfl) (x_cs F (Nat.le_of_ble_eq_true rfl) (Nat.le_of_ble_eq_true rfl)) rfl rfl hl.1 (Nat.le_of_ble_eq_true rfl) dX3_placeAfter_47 (fun H locs hw => ?_)
      refine lv_if_eq (tgt := 59) hx hb dX3_placeAfter_50 rfl (fun c50 => ?_) (fun c50 => ?_)
      · refine lv_iconst (v := (-1)) hx hb dX3_placeAfter_59 rfl ?_
        exact hret _ _ _ _ _ _ dX3_placeAfter_60 hw rfl ⟨rfl, by first | (unfold nxt; rw [if_pos (by omega), if_neg (by intro h; rcases h with h | h; exact c39 h; exact f_in_0.mp c50 h)]; rfl) | (simp_all [nxt, nxI, b01_0, f_in_0]; done) | (simp_all [nxt, nxI, b01_0, f_in_0]; split <;> simp_all)⟩
      · refine lv_iload_n hx hb dX3_placeAfter_53 rfl (lv_at hl 0 rfl) ?_
        refine lv_iconst (v := nI 1) hx hb dX3_placeAfter_54 rfl ?_
        refine lv_iadd hx hb dX3_placeAfter_55 ?_
        refine x_top (y := nI (pl + 1)) (nI_add _ _) ?_
        refine lv_goto (tgt := 60) hx hb dX3_placeAfter_56 rfl ?_
        exact hret _ _ _ _ _ _ dX3_placeAfter_60 hw rfl ⟨rfl, by first | (unfold nxt; rw [if_pos (by omega), if_neg (by intro h; rcases h with h | h; exact c39 h; exact f_in_0.mp c50 h)]; rfl) | (simp_all [nxt, nxI, b01_0, f_in_0]; done) | (simp_all [nxt, nxI, b01_0, f_in_0]; split <;> simp_all)⟩
  rcases Decidable.em (pl = 2) with c1_2 | c1_2
  · refine lv_tableIn (tgt := 61) hx hb dX3_placeAfter_1 (by rw [c1_2]; decide) (by rw [c1_2]; decide) (by rw [c1_2]; rfl) rfl ?_
    refine lv_iload_n hx hb dX3_placeAfter_61 rfl (lv_at hl 1 rfl) ?_
    refine lv_bipush (v := nI 61) hx hb dX3_placeAfter_62 rfl ?_
    refine lv_icmp_ne (tgt := 71) hx hb dX3_placeAfter_64 rfl (fun c64 => ?_) (fun c64 => ?_)
    · refine lv_iconst (v := (-1)) hx hb dX3_placeAfter_71 rfl ?_
      exact hret _ _ _ _ _ _ dX3_placeAfter_72 hw rfl ⟨rfl, by first | (unfold nxt; rw [if_pos (by omega), if_neg (by intro h; rcases h with h | h; exact c39 h; exact f_in_0.mp c50 h)]; rfl) | (simp_all [nxt, nxI, b01_0, f_in_0]; done) | (simp_all [nxt, nxI, b01_0, f_in_0]; split <;> simp_all)⟩
    · refine lv_iconst (v := nI 3) hx hb dX3_placeAfter_67 rfl ?_
      refine lv_goto (tgt := 72) hx hb dX3_placeAfter_68 rfl ?_
      exact hret _ _ _ _ _ _ dX3_placeAfter_72 hw rfl ⟨rfl, by first | (unfold nxt; rw [if_pos (by omega), if_neg (by intro h; rcases h with h | h; exact c39 h; exact f_in_0.mp c50 h)]; rfl) | (simp_all [nxt, nxI, b01_0, f_in_0]; done) | (simp_all [nxt, nxI, b01_0, f_in_0]; split <;> simp_all)⟩
  rcases Decidable.em (pl = 3) with c1_3 | c1_3
  · refine lv_tableIn (tgt := 73) hx hb dX3_placeAfter_1 (by rw [c1_3]; decide) (by rw [c1_3]; decide) (by rw [c1_3]; rfl) rfl ?_
    refine lv_iload_n hx hb dX3_placeAfter_73 rfl (lv_at hl 1 rfl) ?_
    refine x_fSI (rest := []) (c_X3_isDigit l D k X cr) mo_X3_27 F hw (Nat.le_of_ble_eq_true rfl) (x_cs F (Nat.le_of_ble_eq_true rfl) (Nat.le_of_ble_eq_true rfl)) rfl rfl hl.1 (Nat.le_of_ble_eq_true rfl) dX3_placeAfter_74 (fun H locs hw => ?_)
    refine lv_if_eq (tgt := 84) hx hb dX3_placeAfter_77 rfl (fun c77 => ?_) (fun c77 => ?_)
    · refine lv_iconst (v := (-1)) hx hb dX3_placeAfter_84 rfl ?_
      exact hret _ _ _ _ _ _ dX3_placeAfter_85 hw rfl ⟨rfl, by first | (unfold nxt; rw [if_pos (by omega), if_neg (by intro h; rcases h with h | h; exact c39 h; exact f_in_0.mp c50 h)]; rfl) | (simp_all [nxt, nxI, b01_0, f_in_0]; done) | (simp_all [nxt, nxI, b01_0, f_in_0]; split <;> simp_all)⟩
    · refine lv_iconst (v := nI 4) hx hb dX3_placeAfter_80 rfl ?_
      refine lv_goto (tgt := 85) hx hb dX3_placeAfter_81 rfl ?_
      exact hret _ _ _ _ _ _ dX3_placeAfter_85 hw rfl ⟨rfl, by first | (unfold nxt; rw [if_pos (by omega), if_neg (by intro h; rcases h with h | h; exact c39 h; exact f_in_0.mp c50 h)]; rfl) | (simp_all [nxt, nxI, b01_0, f_in_0]; done) | (simp_all [nxt, nxI, b01_0, f_in_0]; split <;> simp_all)⟩
  rcases Decidable.em (pl = 4) with c1_4 | c1_4
  · refine lv_tableIn (tgt := 86) hx hb dX3_placeAfter_1 (by rw [c1_4]; decide) (by rw [c1_4]; decide) (by rw [c1_4]; rfl) rfl ?_
    refine lv_iload_n hx hb dX3_placeAfter_86 rfl (lv_at hl 1 rfl) ?_
    refine x_fSI (rest := []) (c_X3_isDigit l D k X cr) mo_X3_27 F hw (Nat.le_of_ble_eq_true rfl) (x_cs F (Nat.le_of_ble_eq_true rfl) (Nat.le_of_ble_eq_true rfl)) rfl rfl hl.1 (Nat.le_of_ble_eq_true rfl) dX3_placeAfter_87 (fun H locs hw => ?_)
    refine lv_if_eq (tgt := 97) hx hb dX3_placeAfter_90 rfl (fun c90 => ?_) (fun c90 => ?_)
    · refine lv_iload_n hx hb dX3_placeAfter_97 rfl (lv_at hl 1 rfl) ?_
      refine x_fSI (rest := []) (c_X3_afterLine l D k X cr) mo_X3_31 F hw (Nat.le_of_ble_eq_true rfl) (x_cs F (Nat.le_of_ble_eq_true rfl) (Nat.le_of_ble_eq_true rfl)) rfl rfl hl.1 (Nat.le_of_ble_eq_true rfl) dX3_placeAfter_98 (fun H locs hw => ?_)
      exact hret _ _ _ _ _ _ dX3_placeAfter_101 hw rfl ⟨rfl, by first | (unfold nxt; rw [if_pos (by omega), if_neg (by intro h; rcases h with h | h; exact c39 h; exact f_in_0.mp c50 h)]; rfl) | (simp_all [nxt, nxI, b01_0, f_in_0]; done) | (simp_all [nxt, nxI, b01_0, f_in_0]; split <;> simp_all)⟩
    · refine lv_iconst (v := nI 5) hx hb dX3_placeAfter_93 rfl ?_
      refine lv_goto (tgt := 101) hx hb dX3_placeAfter_94 rfl ?_
      exact hret _ _ _ _ _ _ dX3_placeAfter_101 hw rfl ⟨rfl, by first | (unfold nxt; rw [if_pos (by omega), if_neg (by intro h; rcases h with h | h; exact c39 h; exact f_in_0.mp c50 h)]; rfl) | (simp_all [nxt, nxI, b01_0, f_in_0]; done) | (simp_all [nxt, nxI, b01_0, f_in_0]; split <;> simp_all)⟩
  refine lv_tableOut (tgt := 102) hx hb dX3_placeAfter_1 (x_tab4 (fun h => c1_0 ((nI_eq (by omega) (by omega)).mp h)) (fun h => c1_1 ((nI_eq (by omega) (by omega)).mp h)) (fun h => c1_2 ((nI_eq (by omega) (by omega)).mp h)) (fun h => c1_3 ((nI_eq (by omega) (by omega)).mp h)) (fun h => c1_4 ((nI_eq (by omega) (by omega)).mp h))) rfl ?_
  have c5 : pl = 5 := by omega
  refine lv_iload_n hx hb dX3_placeAfter_102 rfl (lv_at hl 1 rfl) ?_
  refine x_fSI (rest := []) (c_X3_afterLine l D k X cr) mo_X3_31 F hw (Nat.le_of_ble_eq_true rfl) (x_cs F (Nat.le_of_ble_eq_true rfl) (Nat.le_of_ble_eq_true rfl)) rfl rfl hl.1 (Nat.le_of_ble_eq_true rfl) dX3_placeAfter_103 (fun H locs hw => ?_)
  exact hret _ _ _ _ _ _ dX3_placeAfter_106 hw rfl ⟨rfl, by first | (unfold nxt; rw [if_pos (by omega), if_neg (by intro h; rcases h with h | h; exact c39 h; exact f_in_0.mp c50 h)]; rfl) | (simp_all [nxt, nxI, b01_0, f_in_0]; done) | (simp_all [nxt, nxI, b01_0, f_in_0]; split <;> simp_all)⟩
set_option maxHeartbeats 4000000 in
set_option maxRecDepth 20000 in
theorem c_X3_fits (l : Launch) (D : va_G) (k : Nat → ClassId) (X : va_W) (sg : Int32) (kd : Nat) : CI l D k yX3_fits cX3_fits 2 (some .boolean) 0 0 0 [.int sg, .int (nI kd)] X (fun r w' => w' = X ∧ r = b01 (fitK sg kd)) := by
  refine CI.mk (by decide) (Nat.le_of_ble_eq_true rfl) ?_
  intro p e R s m args below meth c A Q ls F hret hw hl
  have hx := xs_hx F
  have hb := xs_hb F
  have hl : lv_has ls 2 [(0, .int sg), (1, .int (nI kd))] := hl
  refine lv_iload_n hx hb dX3_fits_0 rfl (lv_at hl 0 rfl) ?_
  refine lv_bipush (v := nI 42) hx hb dX3_fits_1 rfl ?_
  refine lv_icmp_eq (tgt := 14) hx hb dX3_fits_3 rfl (fun c3 => ?_) (fun c3 => ?_)
  · refine lv_iconst (v := nI 1) hx hb dX3_fits_14 rfl ?_
    refine lv_goto (tgt := 19) hx hb dX3_fits_15 rfl ?_
    exact hret _ _ _ _ _ _ dX3_fits_19 hw rfl ⟨rfl, by simp_all [b01, fitK]⟩
  · refine lv_iload_n hx hb dX3_fits_6 rfl (lv_at hl 0 rfl) ?_
    refine lv_bipush (v := nI 48) hx hb dX3_fits_7 rfl ?_
    refine lv_isub hx hb dX3_fits_9 ?_
    refine lv_iload_n hx hb dX3_fits_10 rfl (lv_at hl 1 rfl) ?_
    refine lv_icmp_ne (tgt := 18) hx hb dX3_fits_11 rfl (fun c11 => ?_) (fun c11 => ?_)
    · refine lv_iconst (v := nI 0) hx hb dX3_fits_18 rfl ?_
      exact hret _ _ _ _ _ _ dX3_fits_19 hw rfl ⟨rfl, by simp_all [b01, fitK]⟩
    · refine lv_iconst (v := nI 1) hx hb dX3_fits_14 rfl ?_
      refine lv_goto (tgt := 19) hx hb dX3_fits_15 rfl ?_
      exact hret _ _ _ _ _ _ dX3_fits_19 hw rfl ⟨rfl, by simp_all [b01, fitK]⟩
