/-! ===== the reference: needle, ages: pure words ===== -/
theorem or_0 (x : Int32) : x ||| nI 0 = x := by
  apply Int32.toBitVec_inj.mp
  show x.toBitVec ||| 0#32 = x.toBitVec
  simp
theorem and1 (x : Int32) : x &&& nI 1 = nI 0 ∨ x &&& nI 1 = nI 1 := by
  obtain ⟨j, hj, e⟩ := pk_andE x (m := nI 1) 1 (by decide)
  rcases (show j = 0 ∨ j = 1 by omega) with rfl | rfl
  · exact Or.inl e
  · exact Or.inr e
theorem hbt_1 {x : Int32} {n : Nat} (h : (x >>> (nI n &&& 31)) &&& nI 1 = nI 1) : hbt x n = true := by
  unfold hbt
  rw [h]
  rfl
theorem hbt_0 {x : Int32} {n : Nat} (h : ¬ (x >>> (nI n &&& 31)) &&& nI 1 = nI 1) : hbt x n = false := by
  unfold hbt
  rw [(and1 (x >>> (nI n &&& 31))).resolve_right h]
  rfl
def msck (S : St) : Int32 := orB (fun j => decide (0 ≤ S 14 j)) (mmnN S)
def mgv1 (S : St) (mn j : Nat) : Bool := decide (S 16 (j + 1) = nI mn) && (f_in (S 17 (j + 1)) (S 14 mn - S 5 2) (S 14 mn - nI 1) != 0)
def mgv2 (S : St) (mn j : Nat) : Bool := decide (¬ S 16 j = nI mn) && decide (0 ≤ S 14 (S 16 j).toNatClampNeg) && (f_in (S 17 (j + 1)) (S 14 (S 16 j).toNatClampNeg - S 5 2) (S 14 (S 16 j).toNatClampNeg + S 5 3 - nI 2) != 0)
def mgvF (S : St) (mn : Nat) : Nat → Int32
  | 0 => nI 0
  | j + 1 => if mgv1 S mn j && mgv2 S mn j then mgvF S mn j ||| (nI 1 <<< (S 16 j &&& 31)) else mgvF S mn j
theorem mgvF_y {S : St} {mn j : Nat} (h : (mgv1 S mn j && mgv2 S mn j) = true) : mgvF S mn (j + 1) = mgvF S mn j ||| (nI 1 <<< (S 16 j &&& 31)) := if_pos h
theorem mgvF_n {S : St} {mn j : Nat} (h : (mgv1 S mn j && mgv2 S mn j) = false) : mgvF S mn (j + 1) = mgvF S mn j := if_neg (by rw [h]; decide)
def mgvs (S : St) (mn : Nat) : Int32 := if S 14 mn < 0 then nI 0 else mgvF S mn (mmtN S - 1)
def fsF (S : St) : Nat → Int32
  | 0 => msck S
  | j + 1 => fsF S j &&& (if mgvs S j = 0 then nI 255 else ((nI 1 <<< (nI j &&& 31)) ^^^ (-1)))
def thF (S : St) (x : Int32) : Nat → Int32
  | 0 => x
  | j + 1 => thF S x j ||| (if mgvs S j &&& x = 0 then nI 0 else (nI 1 <<< (nI j &&& 31)))
def mrch (S : St) (wo : Int32) : Nat → Int32
  | 0 => fsF S (mmnN S) &&& (wo ^^^ (-1))
  | i + 1 => thF S (mrch S wo i) (mmnN S) &&& (wo ^^^ (-1))
def mspF (S : St) (mn : Nat) (wo : Int32) : Nat := fstF (fun i => hbt (mrch S wo i) mn) (mmnN S)
def okMG (S : St) : Prop := ∃ a b w : Nat, S 10 2 = nI a ∧ S 10 3 = nI b ∧ S 5 1 = nI w ∧ a ≤ 99 ∧ b ≤ 99 ∧ w ≤ 99
theorem okMG.cl {S : St} (h : okMG S) : S 10 2 = nI (clN (S 10 2)) ∧ S 10 3 = nI (clN (S 10 3)) ∧ S 5 1 = nI (clN (S 5 1)) ∧ clN (S 10 2) ≤ 99 ∧ clN (S 10 3) ≤ 99 ∧ clN (S 5 1) ≤ 99 := by
  obtain ⟨a, b, w, h1, h2, h3, h4, h5, h6⟩ := h
  have e1 : clN (S 10 2) = a := by unfold clN; rw [h1]; exact nI_clamp (by omega)
  have e2 : clN (S 10 3) = b := by unfold clN; rw [h2]; exact nI_clamp (by omega)
  have e3 : clN (S 5 1) = w := by unfold clN; rw [h3]; exact nI_clamp (by omega)
  rw [e1, e2, e3]
  exact ⟨h1, h2, h3, h4, h5, h6⟩
def mreS (S : St) (pn y : Nat) : Bool := reB (S 10 0) (S 10 1) (S 4 pn) (nI (clN (S 5 1)) - nI y) (clN (S 10 2)) (clN (S 10 3))
def agI (p : Nat → Bool) (n : Nat) : Int32 := if cntB p n = 0 then (-6) else nI (frsB p n)
def agL (p : Nat → Bool) (n : Nat) : Int32 := if cntB p n = 0 then (-6) else nI (lstB p n)
theorem frsB_le (p : Nat → Bool) : ∀ n, frsB p n ≤ n
  | 0 => Nat.le_refl _
  | n + 1 => by
    have := frsB_le p n
    unfold frsB
    split <;> omega
theorem agI_f {p : Nat → Bool} {n : Nat} (h : p n = false) : agI p (n + 1) = agI p n := by unfold agI; rw [cnt_f h, frs_f h]
theorem agL_f {p : Nat → Bool} {n : Nat} (h : p n = false) : agL p (n + 1) = agL p n := by unfold agL; rw [cnt_f h, lst_f h]
theorem agL_y {p : Nat → Bool} {n : Nat} (h : p n = true) : agL p (n + 1) = nI n := by unfold agL; rw [cnt_y h, lst_y h, if_neg (by omega)]
theorem agI_y1 {p : Nat → Bool} {n : Nat} (hn : n < 1000) (h : p n = true) (h0 : ¬ 0 ≤ agI p n) : agI p (n + 1) = nI n := by
  have hc : cntB p n = 0 := Decidable.byContradiction (fun q => h0 (by unfold agI; rw [if_neg q]; exact nI_pos' (by have := frsB_le p n; omega)))
  unfold agI
  rw [cnt_y h, if_neg (by omega), frs_y h hc]
theorem agI_y2 {p : Nat → Bool} {n : Nat} (h : p n = true) (h0 : 0 ≤ agI p n) : agI p (n + 1) = agI p n := by
  have hc : ¬ cntB p n = 0 := fun q => absurd h0 (by unfold agI; rw [if_pos q]; decide)
  unfold agI
  rw [cnt_y h, if_neg (by omega), frs_n hc, if_neg hc]
def magS (S : St) (pn : Nat) : St := va_up (va_up (va_up S 25 (fun _ => agI (mreS S pn) (clN (S 5 1) + 1))) 26 (fun _ => agL (mreS S pn) (clN (S 5 1) + 1))) 27 (fun _ => nI (cntB (mreS S pn) (clN (S 5 1) + 1)))
set_option maxHeartbeats 4000000 in
set_option maxRecDepth 20000 in
theorem c_X7_hidden (l : Launch) (D : va_G) (k : Nat → ClassId) (q : Nat → Nat) (S : St) (X : va_W) (dr : Int32) : CI l D k yX7_hidden cX7_hidden 5 (some .int) 1 0 0 [.ref (q 30), .int dr] (wM k q S X) (fun r w' => w' = wM k q S X ∧ r = hidF (S 11) (S 12) dr 8) := by
  refine CI.mk (by decide) (Nat.le_of_ble_eq_true rfl) ?_
  intro p e R s m args below meth c A Q ls F hret hw hl
  have hx := xs_hx F
  have hb := xs_hb F
  have hl : lv_has ls 5 [(0, .ref (q 30)), (1, .int dr)] := hl
  refine lv_iconst (v := nI 0) hx hb dX7_hidden_0 rfl ?_
  refine lv_istore_n (lv' := [(2, .int (nI 0)), (0, .ref (q 30)), (1, .int dr)]) hx hb dX7_hidden_1 rfl hl (Nat.le_of_ble_eq_true rfl) rfl (fun ls hl => ?_)
  refine lv_iconst (v := nI 0) hx hb dX7_hidden_2 rfl ?_
  refine lv_istore_n (lv' := [(3, .int (nI 0)), (2, .int (nI 0)), (0, .ref (q 30)), (1, .int dr)]) hx hb dX7_hidden_3 rfl hl (Nat.le_of_ble_eq_true rfl) rfl (fun ls hl => ?_)
  have K4 : ∀ (n4_ : Nat) (i : Nat) (x : Int32) (H : Heap) (locs : List Loc) (ls : Array Slot), 8 - i < n4_ → (i ≤ 8) → (x = hidF (S 11) (S 12) dr i) → Wd D A s.heap H locs (wM k q S X) → lv_has ls 5 [(0, .ref (q 30)), (1, .int dr), (2, .int x), (3, .int (nI i))] → W p l e R s m args below meth c H locs 0 0 Q (F0 m 4 ls []) := by
    intro n4_
    induction n4_ with
    | zero =>
      intro i x H locs ls hn4_
      exact absurd hn4_ (Nat.not_lt_zero _)
    | succ n4_ ih4_ =>
      intro i x H locs ls hn4_ hi h1 hw hl
      refine lv_iload_n hx hb dX7_hidden_4 rfl (lv_at hl 3 rfl) ?_
      refine lv_bipush (v := nI 8) hx hb dX7_hidden_5 rfl ?_
      refine x_icmp_ge i 8 F (by omega) (by omega) (tgt := 56) dX7_hidden_7 rfl (fun c7 => ?_) (fun c7 => ?_)
      · refine lv_iload_n hx hb dX7_hidden_56 rfl (lv_at hl 2 rfl) ?_
        exact hret _ _ _ _ _ _ dX7_hidden_57 hw rfl ⟨rfl, by rw [h1, show i = 8 by omega]⟩
      · refine lv_iload_n hx hb dX7_hidden_10 rfl (lv_at hl 1 rfl) ?_
        refine lv_iload_n hx hb dX7_hidden_11 rfl (lv_at hl 3 rfl) ?_
        refine x_fSI (rest := []) (c_X7_strokeOf l D k (wM k q S X) dr i (by first | assumption | omega)) mo_X7_104 F hw (Nat.le_of_ble_eq_true rfl) (x_cs F (Nat.le_of_ble_eq_true rfl) (Nat.le_of_ble_eq_true rfl)) rfl rfl hl.1 (Nat.le_of_ble_eq_true rfl) dX7_hidden_12 (fun H locs hw => ?_)
        have := stk_lt dr i
        refine lv_istore (lv' := [(4, .int (nI ((stk dr i)))), (0, .ref (q 30)), (1, .int dr), (2, .int x), (3, .int (nI i))]) hx hb dX7_hidden_15 hl (Nat.le_of_ble_eq_true rfl) rfl (fun ls hl => ?_)
        refine lv_iload_n hx hb dX7_hidden_17 rfl (lv_at hl 3 rfl) ?_
        refine lv_iload hx hb dX7_hidden_18 (lv_at hl 0 rfl) ?_
        refine x_if_ne (stk dr i) F (by omega) (tgt := 27) dX7_hidden_20 rfl (fun c20 => ?_) (fun c20 => ?_)
        · refine lv_iload hx hb dX7_hidden_27 (lv_at hl 0 rfl) ?_
          refine lv_iconst (v := nI 3) hx hb dX7_hidden_29 rfl ?_
          refine x_icmp_ne (stk dr i) 3 F (by omega) (by omega) (tgt := 42) dX7_hidden_30 rfl (fun c30 => ?_) (fun c30 => ?_)
          · refine lv_aload_n hx hb dX7_hidden_42 rfl (lv_at hl 1 rfl) ?_
            refine x_getr frM_11 F hw fo_X7_34 dX7_hidden_43 ?_
            refine lv_iload_n hx hb dX7_hidden_46 rfl (lv_at hl 4 rfl) ?_
            refine x_iald aiM_11 F hw i rfl (by omega) dX7_hidden_47 ?_
            refine lv_ior hx hb dX7_hidden_48 ?_
            refine lv_istore_n (lv' := [(2, .int (x ||| (S 11 i))), (4, .int (nI ((stk dr i)))), (0, .ref (q 30)), (1, .int dr), (3, .int (nI i))]) hx hb dX7_hidden_49 rfl hl (Nat.le_of_ble_eq_true rfl) rfl (fun ls hl => ?_)
            refine lv_iinc (v := nI (i + 1)) (lv' := [(3, .int (nI (i + 1))), (2, .int (x ||| (S 11 i))), (4, .int (nI ((stk dr i)))), (0, .ref (q 30)), (1, .int dr)]) hx hb dX7_hidden_50 hl (k := 4) rfl (nI_1 _) (Nat.le_of_ble_eq_true rfl) rfl (fun ls hl => ?_)
            refine lv_goto (tgt := 4) hx hb dX7_hidden_53 rfl ?_
            exact ih4_ (i + 1) (x ||| (S 11 i)) _ _ _ (by first | omega | (simp only [] at *; omega)) (by first | assumption | omega | rfl) (by rw [h1]; simp [hidF, or_0, *]) hw (lv_sub hl [3, 4, 1, 0] rfl)
          · refine lv_aload_n hx hb dX7_hidden_33 rfl (lv_at hl 1 rfl) ?_
            refine x_getr frM_12 F hw fo_X7_37 dX7_hidden_34 ?_
            refine lv_iload_n hx hb dX7_hidden_37 rfl (lv_at hl 4 rfl) ?_
            refine x_iald aiM_12 F hw i rfl (by omega) dX7_hidden_38 ?_
            refine lv_goto (tgt := 48) hx hb dX7_hidden_39 rfl ?_
            refine lv_ior hx hb dX7_hidden_48 ?_
            refine lv_istore_n (lv' := [(2, .int (x ||| (S 12 i))), (4, .int (nI ((stk dr i)))), (0, .ref (q 30)), (1, .int dr), (3, .int (nI i))]) hx hb dX7_hidden_49 rfl hl (Nat.le_of_ble_eq_true rfl) rfl (fun ls hl => ?_)
            refine lv_iinc (v := nI (i + 1)) (lv' := [(3, .int (nI (i + 1))), (2, .int (x ||| (S 12 i))), (4, .int (nI ((stk dr i)))), (0, .ref (q 30)), (1, .int dr)]) hx hb dX7_hidden_50 hl (k := 4) rfl (nI_1 _) (Nat.le_of_ble_eq_true rfl) rfl (fun ls hl => ?_)
            refine lv_goto (tgt := 4) hx hb dX7_hidden_53 rfl ?_
            exact ih4_ (i + 1) (x ||| (S 12 i)) _ _ _ (by first | omega | (simp only [] at *; omega)) (by first | assumption | omega | rfl) (by rw [h1]; simp [hidF, or_0, *]) hw (lv_sub hl [3, 4, 1, 0] rfl)
        · refine lv_iconst (v := nI 0) hx hb dX7_hidden_23 rfl ?_
          refine lv_goto (tgt := 48) hx hb dX7_hidden_24 rfl ?_
          refine lv_ior hx hb dX7_hidden_48 ?_
          refine lv_istore_n (lv' := [(2, .int (x ||| (nI 0))), (4, .int (nI ((stk dr i)))), (0, .ref (q 30)), (1, .int dr), (3, .int (nI i))]) hx hb dX7_hidden_49 rfl hl (Nat.le_of_ble_eq_true rfl) rfl (fun ls hl => ?_)
          refine lv_iinc (v := nI (i + 1)) (lv' := [(3, .int (nI (i + 1))), (2, .int (x ||| (nI 0))), (4, .int (nI ((stk dr i)))), (0, .ref (q 30)), (1, .int dr)]) hx hb dX7_hidden_50 hl (k := 4) rfl (nI_1 _) (Nat.le_of_ble_eq_true rfl) rfl (fun ls hl => ?_)
          refine lv_goto (tgt := 4) hx hb dX7_hidden_53 rfl ?_
          exact ih4_ (i + 1) (x ||| (nI 0)) _ _ _ (by first | omega | (simp only [] at *; omega)) (by first | assumption | omega | rfl) (by rw [h1]; simp [hidF, or_0, *]) hw (lv_sub hl [3, 4, 1, 0] rfl)
  exact K4 _ 0 (nI 0) _ _ _ (Nat.lt_succ_self _) (by first | assumption | omega | rfl) (by rfl) hw (lv_sub hl [2, 3, 1, 0] rfl)
set_option maxHeartbeats 4000000 in
set_option maxRecDepth 20000 in
theorem c_X7_sickSet (l : Launch) (D : va_G) (k : Nat → ClassId) (q : Nat → Nat) (S : St) (X : va_W) (hN : okMN S) : CI l D k yX7_sickSet cX7_sickSet 3 (some .int) 0 0 0 [.ref (q 30)] (wM k q S X) (fun r w' => w' = wM k q S X ∧ r = msck S) := by
  refine CI.mk (by decide) (Nat.le_of_ble_eq_true rfl) ?_
  intro p e R s m args below meth c A Q ls F hret hw hl
  have hx := xs_hx F
  have hb := xs_hb F
  have hl : lv_has ls 3 [(0, .ref (q 30))] := hl
  have h8 := hN.1.2
  have h16 := hN.2.1.2
  refine lv_iconst (v := nI 0) hx hb dX7_sickSet_0 rfl ?_
  refine lv_istore_n (lv' := [(1, .int (nI 0)), (0, .ref (q 30))]) hx hb dX7_sickSet_1 rfl hl (Nat.le_of_ble_eq_true rfl) rfl (fun ls hl => ?_)
  refine lv_iconst (v := nI 0) hx hb dX7_sickSet_2 rfl ?_
  refine lv_istore_n (lv' := [(2, .int (nI 0)), (1, .int (nI 0)), (0, .ref (q 30))]) hx hb dX7_sickSet_3 rfl hl (Nat.le_of_ble_eq_true rfl) rfl (fun ls hl => ?_)
  have K4 : ∀ (n4_ : Nat) (i : Nat) (x : Int32) (H : Heap) (locs : List Loc) (ls : Array Slot), mmnN S - i < n4_ → (i ≤ mmnN S) → (x = orB (fun j => decide (0 ≤ S 14 j)) i) → Wd D A s.heap H locs (wM k q S X) → lv_has ls 3 [(0, .ref (q 30)), (1, .int x), (2, .int (nI i))] → W p l e R s m args below meth c H locs 0 0 Q (F0 m 4 ls []) := by
    intro n4_
    induction n4_ with
    | zero =>
      intro i x H locs ls hn4_
      exact absurd hn4_ (Nat.not_lt_zero _)
    | succ n4_ ih4_ =>
      intro i x H locs ls hn4_ hi h1 hw hl
      refine lv_iload_n hx hb dX7_sickSet_4 rfl (lv_at hl 2 rfl) ?_
      refine lv_aload_n hx hb dX7_sickSet_5 rfl (lv_at hl 0 rfl) ?_
      refine x_geti fiM_13 F hw fo_X7_150 dX7_sickSet_6 ?_
      refine x_top (y := nI (mmnN S)) hN.1.1 ?_
      refine x_icmp_ge i (mmnN S) F (by omega) (by omega) (tgt := 37) dX7_sickSet_9 rfl (fun c9 => ?_) (fun c9 => ?_)
      · refine lv_iload_n hx hb dX7_sickSet_37 rfl (lv_at hl 1 rfl) ?_
        exact hret _ _ _ _ _ _ dX7_sickSet_38 hw rfl ⟨rfl, by rw [h1, show i = mmnN S by omega]; rfl⟩
      · refine lv_iload_n hx hb dX7_sickSet_12 rfl (lv_at hl 1 rfl) ?_
        refine lv_aload_n hx hb dX7_sickSet_13 rfl (lv_at hl 0 rfl) ?_
        refine x_getr frM_14 F hw fo_X7_40 dX7_sickSet_14 ?_
        refine lv_iload_n hx hb dX7_sickSet_17 rfl (lv_at hl 2 rfl) ?_
        refine x_iald aiM_14 F hw i rfl (by omega) dX7_sickSet_18 ?_
        refine lv_if_lt (tgt := 28) hx hb dX7_sickSet_19 rfl (fun c19 => ?_) (fun c19 => ?_)
        · refine lv_iconst (v := nI 0) hx hb dX7_sickSet_28 rfl ?_
          refine lv_ior hx hb dX7_sickSet_29 ?_
          refine lv_istore_n (lv' := [(1, .int (x ||| (nI 0))), (0, .ref (q 30)), (2, .int (nI i))]) hx hb dX7_sickSet_30 rfl hl (Nat.le_of_ble_eq_true rfl) rfl (fun ls hl => ?_)
          refine lv_iinc (v := nI (i + 1)) (lv' := [(2, .int (nI (i + 1))), (1, .int (x ||| (nI 0))), (0, .ref (q 30))]) hx hb dX7_sickSet_31 hl (k := 2) rfl (nI_1 _) (Nat.le_of_ble_eq_true rfl) rfl (fun ls hl => ?_)
          refine lv_goto (tgt := 4) hx hb dX7_sickSet_34 rfl ?_
          exact ih4_ (i + 1) (x ||| (nI 0)) _ _ _ (by first | omega | (simp only [] at *; omega)) (by first | assumption | omega | rfl) (by rw [h1]; first | (rw [or_0]; refine (orB_n ?_).symm; exact decide_eq_false (Int32.not_le.mpr c19)) | (refine (orB_y ?_).symm; exact decide_eq_true (Int32.not_lt.mp c19))) hw (lv_sub hl [2, 1, 0] rfl)
        · refine lv_iconst (v := nI 1) hx hb dX7_sickSet_22 rfl ?_
          refine lv_iload_n hx hb dX7_sickSet_23 rfl (lv_at hl 2 rfl) ?_
          refine lv_ishl hx hb dX7_sickSet_24 ?_
          refine lv_goto (tgt := 29) hx hb dX7_sickSet_25 rfl ?_
          refine lv_ior hx hb dX7_sickSet_29 ?_
          refine lv_istore_n (lv' := [(1, .int (x ||| ((nI 1) <<< ((nI i) &&& 31)))), (0, .ref (q 30)), (2, .int (nI i))]) hx hb dX7_sickSet_30 rfl hl (Nat.le_of_ble_eq_true rfl) rfl (fun ls hl => ?_)
          refine lv_iinc (v := nI (i + 1)) (lv' := [(2, .int (nI (i + 1))), (1, .int (x ||| ((nI 1) <<< ((nI i) &&& 31)))), (0, .ref (q 30))]) hx hb dX7_sickSet_31 hl (k := 2) rfl (nI_1 _) (Nat.le_of_ble_eq_true rfl) rfl (fun ls hl => ?_)
          refine lv_goto (tgt := 4) hx hb dX7_sickSet_34 rfl ?_
          exact ih4_ (i + 1) (x ||| ((nI 1) <<< ((nI i) &&& 31))) _ _ _ (by first | omega | (simp only [] at *; omega)) (by first | assumption | omega | rfl) (by rw [h1]; first | (rw [or_0]; refine (orB_n ?_).symm; exact decide_eq_false (Int32.not_le.mpr c19)) | (refine (orB_y ?_).symm; exact decide_eq_true (Int32.not_lt.mp c19))) hw (lv_sub hl [2, 1, 0] rfl)
  exact K4 _ 0 (nI 0) _ _ _ (Nat.lt_succ_self _) (by first | assumption | omega | rfl) (by rfl) hw (lv_sub hl [2, 1, 0] rfl)
set_option maxHeartbeats 4000000 in
set_option maxRecDepth 20000 in
theorem c_X7_fromOf (l : Launch) (D : va_G) (k : Nat → ClassId) (q : Nat → Nat) (S : St) (X : va_W) (mn : Nat) (hN : okMN S) (hm : mn < 8) : CI l D k yX7_fromOf cX7_fromOf 8 (some .int) 1 0 0 [.ref (q 30), .int (nI mn)] (wM k q S X) (fun r w' => w' = wM k q S X ∧ r = mgvs S mn) := by
  refine CI.mk (by decide) (Nat.le_of_ble_eq_true rfl) ?_
  intro p e R s m args below meth c A Q ls F hret hw hl
  have hx := xs_hx F
  have hb := xs_hb F
  have hl : lv_has ls 8 [(0, .ref (q 30)), (1, .int (nI mn))] := hl
  have h8 := hN.1.2
  have h16 := hN.2.1.2
  refine lv_iconst (v := nI 0) hx hb dX7_fromOf_0 rfl ?_
  refine lv_istore_n (lv' := [(2, .int (nI 0)), (0, .ref (q 30)), (1, .int (nI mn))]) hx hb dX7_fromOf_1 rfl hl (Nat.le_of_ble_eq_true rfl) rfl (fun ls hl => ?_)
  refine lv_iconst (v := nI 1) hx hb dX7_fromOf_2 rfl ?_
  refine lv_istore_n (lv' := [(3, .int (nI 1)), (2, .int (nI 0)), (0, .ref (q 30)), (1, .int (nI mn))]) hx hb dX7_fromOf_3 rfl hl (Nat.le_of_ble_eq_true rfl) rfl (fun ls hl => ?_)
  have K4 : ∀ (n4_ : Nat) (i : Nat) (x : Int32) (H : Heap) (locs : List Loc) (ls : Array Slot), mmtN S - i < n4_ → (i ≤ mmtN S - 1) → (i = 0 ∨ ¬ S 14 mn < 0) → (x = mgvF S mn i) → Wd D A s.heap H locs (wM k q S X) → lv_has ls 8 [(0, .ref (q 30)), (1, .int (nI mn)), (2, .int x), (3, .int (nI (i + 1)))] → W p l e R s m args below meth c H locs 0 0 Q (F0 m 4 ls []) := by
    intro n4_
    induction n4_ with
    | zero =>
      intro i x H locs ls hn4_
      exact absurd hn4_ (Nat.not_lt_zero _)
    | succ n4_ ih4_ =>
      intro i x H locs ls hn4_ hi hs h1 hw hl
      refine lv_iload_n hx hb dX7_fromOf_4 rfl (lv_at hl 3 rfl) ?_
      refine lv_aload_n hx hb dX7_fromOf_5 rfl (lv_at hl 0 rfl) ?_
      refine x_geti fiM_15 F hw fo_X7_156 dX7_fromOf_6 ?_
      refine x_top (y := nI (mmtN S)) hN.2.1.1 ?_
      refine x_icmp_ge (i + 1) (mmtN S) F (by omega) (by omega) (tgt := 173) dX7_fromOf_9 rfl (fun c9 => ?_) (fun c9 => ?_)
      · refine lv_iload_n hx hb dX7_fromOf_173 rfl (lv_at hl 2 rfl) ?_
        exact hret _ _ _ _ _ _ dX7_fromOf_174 hw rfl ⟨rfl, by unfold mgvs; first | (rw [if_pos c18, h1, show i = 0 from hs.resolve_right (fun q => q c18)]; rfl) | (by_cases hq : S 14 mn < 0; (rw [if_pos hq, h1, show i = 0 from hs.resolve_right (fun q => q hq)]; rfl); (rw [if_neg hq, h1, show i = mmtN S - 1 by omega]))⟩
      · refine lv_aload_n hx hb dX7_fromOf_12 rfl (lv_at hl 0 rfl) ?_
        refine x_getr frM_14 F hw fo_X7_40 dX7_fromOf_13 ?_
        refine lv_iload_n hx hb dX7_fromOf_16 rfl (lv_at hl 1 rfl) ?_
        refine x_iald aiM_14 F hw mn rfl (by omega) dX7_fromOf_17 ?_
        refine lv_if_lt (tgt := 173) hx hb dX7_fromOf_18 rfl (fun c18 => ?_) (fun c18 => ?_)
        · refine lv_iload_n hx hb dX7_fromOf_173 rfl (lv_at hl 2 rfl) ?_
          exact hret _ _ _ _ _ _ dX7_fromOf_174 hw rfl ⟨rfl, by unfold mgvs; first | (rw [if_pos c18, h1, show i = 0 from hs.resolve_right (fun q => q c18)]; rfl) | (by_cases hq : S 14 mn < 0; (rw [if_pos hq, h1, show i = 0 from hs.resolve_right (fun q => q hq)]; rfl); (rw [if_neg hq, h1, show i = mmtN S - 1 by omega]))⟩
        · obtain ⟨gm, hgm, egm⟩ := hN.2.2 i (by omega)
          have ecl : (S 16 i).toNatClampNeg = gm := by rw [egm]; exact nI_clamp (by omega)
          refine lv_aload_n hx hb dX7_fromOf_21 rfl (lv_at hl 0 rfl) ?_
          refine x_getr frM_16 F hw fo_X7_43 dX7_fromOf_22 ?_
          refine lv_iload_n hx hb dX7_fromOf_25 rfl (lv_at hl 3 rfl) ?_
          refine lv_iconst (v := nI 1) hx hb dX7_fromOf_26 rfl ?_
          refine lv_isub hx hb dX7_fromOf_27 ?_
          refine x_top (y := nI i) (nI_pred _) ?_
          refine x_iald aiM_16 F hw i rfl (by omega) dX7_fromOf_28 ?_
          refine x_top (y := nI gm) egm ?_
          refine lv_istore (lv' := [(4, .int (nI gm)), (0, .ref (q 30)), (1, .int (nI mn)), (2, .int x), (3, .int (nI (i + 1)))]) hx hb dX7_fromOf_29 hl (Nat.le_of_ble_eq_true rfl) rfl (fun ls hl => ?_)
          refine lv_aload_n hx hb dX7_fromOf_31 rfl (lv_at hl 1 rfl) ?_
          refine x_getr frM_17 F hw fo_X7_46 dX7_fromOf_32 ?_
          refine lv_iload_n hx hb dX7_fromOf_35 rfl (lv_at hl 4 rfl) ?_
          refine x_iald aiM_17 F hw (i + 1) rfl (by omega) dX7_fromOf_36 ?_
          refine lv_istore (lv' := [(5, .int (S 17 (i + 1))), (4, .int (nI gm)), (0, .ref (q 30)), (1, .int (nI mn)), (2, .int x), (3, .int (nI (i + 1)))]) hx hb dX7_fromOf_37 hl (Nat.le_of_ble_eq_true rfl) rfl (fun ls hl => ?_)
          refine lv_aload_n hx hb dX7_fromOf_39 rfl (lv_at hl 2 rfl) ?_
          refine x_getr frM_16 F hw fo_X7_43 dX7_fromOf_40 ?_
          refine lv_iload_n hx hb dX7_fromOf_43 rfl (lv_at hl 5 rfl) ?_
          refine x_iald aiM_16 F hw (i + 1) rfl (by omega) dX7_fromOf_44 ?_
          refine lv_iload_n hx hb dX7_fromOf_45 rfl (lv_at hl 3 rfl) ?_
          have K83 : ∀ (t1 : Bool) (H : Heap) (locs : List Loc) (ls : Array Slot), (t1 = mgv1 S mn i) → Wd D A s.heap H locs (wM k q S X) → lv_has ls 8 [(0, .ref (q 30)), (1, .int (nI mn)), (2, .int x), (3, .int (nI (i + 1))), (4, .int (nI gm)), (5, .int (S 17 (i + 1)))] → W p l e R s m args below meth c H locs 0 0 Q (F0 m 83 ls [.int (b01 t1)]) := by
            intro t1 H locs ls h83 hw hl
            refine lv_istore (lv' := [(6, .int (b01 t1)), (0, .ref (q 30)), (1, .int (nI mn)), (2, .int x), (3, .int (nI (i + 1))), (4, .int (nI gm)), (5, .int (S 17 (i + 1)))]) hx hb dX7_fromOf_83 hl (Nat.le_of_ble_eq_true rfl) rfl (fun ls hl => ?_)
            refine lv_iload hx hb dX7_fromOf_85 (lv_at hl 5 rfl) ?_
            refine lv_iload_n hx hb dX7_fromOf_87 rfl (lv_at hl 2 rfl) ?_
            have K144 : ∀ (t2 : Bool) (H : Heap) (locs : List Loc) (ls : Array Slot), (t2 = mgv2 S mn i) → Wd D A s.heap H locs (wM k q S X) → lv_has ls 8 [(0, .ref (q 30)), (1, .int (nI mn)), (2, .int x), (3, .int (nI (i + 1))), (4, .int (nI gm)), (5, .int (S 17 (i + 1))), (6, .int (b01 t1))] → W p l e R s m args below meth c H locs 0 0 Q (F0 m 144 ls [.int (b01 t2)]) := by
              intro t2 H locs ls h144 hw hl
              refine lv_istore (lv' := [(7, .int (b01 t2)), (0, .ref (q 30)), (1, .int (nI mn)), (2, .int x), (3, .int (nI (i + 1))), (4, .int (nI gm)), (5, .int (S 17 (i + 1))), (6, .int (b01 t1))]) hx hb dX7_fromOf_144 hl (Nat.le_of_ble_eq_true rfl) rfl (fun ls hl => ?_)
              refine lv_iload_n hx hb dX7_fromOf_146 rfl (lv_at hl 3 rfl) ?_
              refine lv_iload hx hb dX7_fromOf_147 (lv_at hl 7 rfl) ?_
              refine lv_if_eq (tgt := 164) hx hb dX7_fromOf_149 rfl (fun c149 => ?_) (fun c149 => ?_)
              · refine lv_iconst (v := nI 0) hx hb dX7_fromOf_164 rfl ?_
                refine lv_ior hx hb dX7_fromOf_165 ?_
                refine lv_istore_n (lv' := [(2, .int (x ||| (nI 0))), (7, .int (b01 t2)), (0, .ref (q 30)), (1, .int (nI mn)), (3, .int (nI (i + 1))), (4, .int (nI gm)), (5, .int (S 17 (i + 1))), (6, .int (b01 t1))]) hx hb dX7_fromOf_166 rfl hl (Nat.le_of_ble_eq_true rfl) rfl (fun ls hl => ?_)
                refine lv_iinc (v := nI (i + 1 + 1)) (lv' := [(3, .int (nI (i + 1 + 1))), (2, .int (x ||| (nI 0))), (7, .int (b01 t2)), (0, .ref (q 30)), (1, .int (nI mn)), (4, .int (nI gm)), (5, .int (S 17 (i + 1))), (6, .int (b01 t1))]) hx hb dX7_fromOf_167 hl (k := 4) rfl (nI_1 _) (Nat.le_of_ble_eq_true rfl) rfl (fun ls hl => ?_)
                refine lv_goto (tgt := 4) hx hb dX7_fromOf_170 rfl ?_
                exact ih4_ (i + 1) (x ||| (nI 0)) _ _ _ (by first | omega | (simp only [] at *; omega)) (by first | assumption | omega | rfl) (by exact Or.inr c18) (by rw [h1]; first | (rw [or_0]; exact (mgvF_n (bA0 (h83.symm.trans (b01_0.mp c149)))).symm) | (rw [or_0]; exact (mgvF_n (bA1 (h144.symm.trans (b01_0.mp c154)))).symm) | (rw [mgvF_y (bAt (h83.symm.trans (b01_1.mp c149)) (h144.symm.trans (b01_1.mp c154))), egm])) hw (lv_sub hl [3, 4, 1, 0] rfl)
              · refine lv_iload hx hb dX7_fromOf_152 (lv_at hl 0 rfl) ?_
                refine lv_if_eq (tgt := 164) hx hb dX7_fromOf_154 rfl (fun c154 => ?_) (fun c154 => ?_)
                · refine lv_iconst (v := nI 0) hx hb dX7_fromOf_164 rfl ?_
                  refine lv_ior hx hb dX7_fromOf_165 ?_
                  refine lv_istore_n (lv' := [(2, .int (x ||| (nI 0))), (7, .int (b01 t2)), (0, .ref (q 30)), (1, .int (nI mn)), (3, .int (nI (i + 1))), (4, .int (nI gm)), (5, .int (S 17 (i + 1))), (6, .int (b01 t1))]) hx hb dX7_fromOf_166 rfl hl (Nat.le_of_ble_eq_true rfl) rfl (fun ls hl => ?_)
                  refine lv_iinc (v := nI (i + 1 + 1)) (lv' := [(3, .int (nI (i + 1 + 1))), (2, .int (x ||| (nI 0))), (7, .int (b01 t2)), (0, .ref (q 30)), (1, .int (nI mn)), (4, .int (nI gm)), (5, .int (S 17 (i + 1))), (6, .int (b01 t1))]) hx hb dX7_fromOf_167 hl (k := 4) rfl (nI_1 _) (Nat.le_of_ble_eq_true rfl) rfl (fun ls hl => ?_)
                  refine lv_goto (tgt := 4) hx hb dX7_fromOf_170 rfl ?_
                  exact ih4_ (i + 1) (x ||| (nI 0)) _ _ _ (by first | omega | (simp only [] at *; omega)) (by first | assumption | omega | rfl) (by exact Or.inr c18) (by rw [h1]; first | (rw [or_0]; exact (mgvF_n (bA0 (h83.symm.trans (b01_0.mp c149)))).symm) | (rw [or_0]; exact (mgvF_n (bA1 (h144.symm.trans (b01_0.mp c154)))).symm) | (rw [mgvF_y (bAt (h83.symm.trans (b01_1.mp c149)) (h144.symm.trans (b01_1.mp c154))), egm])) hw (lv_sub hl [3, 4, 1, 0] rfl)
                · refine lv_iconst (v := nI 1) hx hb dX7_fromOf_157 rfl ?_
                  refine lv_iload hx hb dX7_fromOf_158 (lv_at hl 5 rfl) ?_
                  refine lv_ishl hx hb dX7_fromOf_160 ?_
                  refine lv_goto (tgt := 165) hx hb dX7_fromOf_161 rfl ?_
                  refine lv_ior hx hb dX7_fromOf_165 ?_
                  refine lv_istore_n (lv' := [(2, .int (x ||| ((nI 1) <<< ((nI gm) &&& 31)))), (7, .int (b01 t2)), (0, .ref (q 30)), (1, .int (nI mn)), (3, .int (nI (i + 1))), (4, .int (nI gm)), (5, .int (S 17 (i + 1))), (6, .int (b01 t1))]) hx hb dX7_fromOf_166 rfl hl (Nat.le_of_ble_eq_true rfl) rfl (fun ls hl => ?_)
                  refine lv_iinc (v := nI (i + 1 + 1)) (lv' := [(3, .int (nI (i + 1 + 1))), (2, .int (x ||| ((nI 1) <<< ((nI gm) &&& 31)))), (7, .int (b01 t2)), (0, .ref (q 30)), (1, .int (nI mn)), (4, .int (nI gm)), (5, .int (S 17 (i + 1))), (6, .int (b01 t1))]) hx hb dX7_fromOf_167 hl (k := 4) rfl (nI_1 _) (Nat.le_of_ble_eq_true rfl) rfl (fun ls hl => ?_)
                  refine lv_goto (tgt := 4) hx hb dX7_fromOf_170 rfl ?_
                  exact ih4_ (i + 1) (x ||| ((nI 1) <<< ((nI gm) &&& 31))) _ _ _ (by first | omega | (simp only [] at *; omega)) (by first | assumption | omega | rfl) (by exact Or.inr c18) (by rw [h1]; first | (rw [or_0]; exact (mgvF_n (bA0 (h83.symm.trans (b01_0.mp c149)))).symm) | (rw [or_0]; exact (mgvF_n (bA1 (h144.symm.trans (b01_0.mp c154)))).symm) | (rw [mgvF_y (bAt (h83.symm.trans (b01_1.mp c149)) (h144.symm.trans (b01_1.mp c154))), egm])) hw (lv_sub hl [3, 4, 1, 0] rfl)
            refine x_icmp_eq gm mn F (by omega) (by omega) (tgt := 143) dX7_fromOf_88 rfl (fun c88 => ?_) (fun c88 => ?_)
            · refine lv_iconst (v := nI 0) hx hb dX7_fromOf_143 rfl ?_
              exact K144 false _ _ _ (by unfold mgv2; rw [ecl]; first | exact (bA0 (bA0 (decide_eq_false (fun q => q (by rw [egm, c88]))))).symm | exact (bA0 (bA1 (decide_eq_false (Int32.not_le.mpr c98)))).symm | exact (bA1 (bneF c136)).symm | exact (bAt (bAt (decide_eq_true (show ¬ S 16 i = nI mn from fun q => c88 ((nI_eq (by omega) (by omega)).mp (egm.symm.trans q)))) (decide_eq_true (Int32.not_lt.mp c98))) (bneT c136)).symm) hw (lv_sub hl [1, 2, 3, 4, 5, 6, 0] rfl)
            · refine lv_aload_n hx hb dX7_fromOf_91 rfl (lv_at hl 1 rfl) ?_
              refine x_getr frM_14 F hw fo_X7_40 dX7_fromOf_92 ?_
              refine lv_iload hx hb dX7_fromOf_95 (lv_at hl 5 rfl) ?_
              refine x_iald aiM_14 F hw gm rfl (by omega) dX7_fromOf_97 ?_
              refine lv_if_lt (tgt := 143) hx hb dX7_fromOf_98 rfl (fun c98 => ?_) (fun c98 => ?_)
              · refine lv_iconst (v := nI 0) hx hb dX7_fromOf_143 rfl ?_
                exact K144 false _ _ _ (by unfold mgv2; rw [ecl]; first | exact (bA0 (bA0 (decide_eq_false (fun q => q (by rw [egm, c88]))))).symm | exact (bA0 (bA1 (decide_eq_false (Int32.not_le.mpr c98)))).symm | exact (bA1 (bneF c136)).symm | exact (bAt (bAt (decide_eq_true (show ¬ S 16 i = nI mn from fun q => c88 ((nI_eq (by omega) (by omega)).mp (egm.symm.trans q)))) (decide_eq_true (Int32.not_lt.mp c98))) (bneT c136)).symm) hw (lv_sub hl [1, 2, 3, 4, 5, 6, 0] rfl)
              · refine lv_iload hx hb dX7_fromOf_101 (lv_at hl 6 rfl) ?_
                refine lv_aload_n hx hb dX7_fromOf_103 rfl (lv_at hl 1 rfl) ?_
                refine x_getr frM_14 F hw fo_X7_40 dX7_fromOf_104 ?_
                refine lv_iload hx hb dX7_fromOf_107 (lv_at hl 5 rfl) ?_
                refine x_iald aiM_14 F hw gm rfl (by omega) dX7_fromOf_109 ?_
                refine lv_aload_n hx hb dX7_fromOf_110 rfl (lv_at hl 1 rfl) ?_
                refine x_getr frM_5 F hw fo_X7_22 dX7_fromOf_111 ?_
                refine lv_iconst (v := nI 2) hx hb dX7_fromOf_114 rfl ?_
                refine x_iald aiM_5 F hw 2 rfl (by omega) dX7_fromOf_115 ?_
                refine lv_isub hx hb dX7_fromOf_116 ?_
                refine lv_aload_n hx hb dX7_fromOf_117 rfl (lv_at hl 1 rfl) ?_
                refine x_getr frM_14 F hw fo_X7_40 dX7_fromOf_118 ?_
                refine lv_iload hx hb dX7_fromOf_121 (lv_at hl 5 rfl) ?_
                refine x_iald aiM_14 F hw gm rfl (by omega) dX7_fromOf_123 ?_
                refine lv_aload_n hx hb dX7_fromOf_124 rfl (lv_at hl 1 rfl) ?_
                refine x_getr frM_5 F hw fo_X7_22 dX7_fromOf_125 ?_
                refine lv_iconst (v := nI 3) hx hb dX7_fromOf_128 rfl ?_
                refine x_iald aiM_5 F hw 3 rfl (by omega) dX7_fromOf_129 ?_
                refine lv_iadd hx hb dX7_fromOf_130 ?_
                refine lv_iconst (v := nI 2) hx hb dX7_fromOf_131 rfl ?_
                refine lv_isub hx hb dX7_fromOf_132 ?_
                refine x_fSI (rest := []) (c_X7_in l D k (wM k q S X) (S 17 (i + 1)) ((S 14 gm) - (S 5 2)) (((S 14 gm) + (S 5 3)) - (nI 2))) mo_X7_69 F hw (Nat.le_of_ble_eq_true rfl) (x_cs F (Nat.le_of_ble_eq_true rfl) (Nat.le_of_ble_eq_true rfl)) rfl rfl hl.1 (Nat.le_of_ble_eq_true rfl) dX7_fromOf_133 (fun H locs hw => ?_)
                refine lv_if_eq (tgt := 143) hx hb dX7_fromOf_136 rfl (fun c136 => ?_) (fun c136 => ?_)
                · refine lv_iconst (v := nI 0) hx hb dX7_fromOf_143 rfl ?_
                  exact K144 false _ _ _ (by unfold mgv2; rw [ecl]; first | exact (bA0 (bA0 (decide_eq_false (fun q => q (by rw [egm, c88]))))).symm | exact (bA0 (bA1 (decide_eq_false (Int32.not_le.mpr c98)))).symm | exact (bA1 (bneF c136)).symm | exact (bAt (bAt (decide_eq_true (show ¬ S 16 i = nI mn from fun q => c88 ((nI_eq (by omega) (by omega)).mp (egm.symm.trans q)))) (decide_eq_true (Int32.not_lt.mp c98))) (bneT c136)).symm) hw (lv_sub hl [1, 2, 3, 4, 5, 6, 0] rfl)
                · refine lv_iconst (v := nI 1) hx hb dX7_fromOf_139 rfl ?_
                  refine lv_goto (tgt := 144) hx hb dX7_fromOf_140 rfl ?_
                  exact K144 true _ _ _ (by unfold mgv2; rw [ecl]; first | exact (bA0 (bA0 (decide_eq_false (fun q => q (by rw [egm, c88]))))).symm | exact (bA0 (bA1 (decide_eq_false (Int32.not_le.mpr c98)))).symm | exact (bA1 (bneF c136)).symm | exact (bAt (bAt (decide_eq_true (show ¬ S 16 i = nI mn from fun q => c88 ((nI_eq (by omega) (by omega)).mp (egm.symm.trans q)))) (decide_eq_true (Int32.not_lt.mp c98))) (bneT c136)).symm) hw (lv_sub hl [1, 2, 3, 4, 5, 6, 0] rfl)
          refine lv_icmp_ne (tgt := 82) hx hb dX7_fromOf_46 rfl (fun c46 => ?_) (fun c46 => ?_)
          · refine lv_iconst (v := nI 0) hx hb dX7_fromOf_82 rfl ?_
            exact K83 false _ _ _ (by unfold mgv1; first | exact (bA0 (decide_eq_false c46)).symm | exact (bA1 (bneF c75)).symm | exact (bAt (decide_eq_true c46) (bneT c75)).symm) hw (lv_sub hl [2, 3, 4, 5, 1, 0] rfl)
          · refine lv_iload hx hb dX7_fromOf_49 (lv_at hl 0 rfl) ?_
            refine lv_aload_n hx hb dX7_fromOf_51 rfl (lv_at hl 2 rfl) ?_
            refine x_getr frM_14 F hw fo_X7_40 dX7_fromOf_52 ?_
            refine lv_iload_n hx hb dX7_fromOf_55 rfl (lv_at hl 3 rfl) ?_
            refine x_iald aiM_14 F hw mn rfl (by omega) dX7_fromOf_56 ?_
            refine lv_aload_n hx hb dX7_fromOf_57 rfl (lv_at hl 2 rfl) ?_
            refine x_getr frM_5 F hw fo_X7_22 dX7_fromOf_58 ?_
            refine lv_iconst (v := nI 2) hx hb dX7_fromOf_61 rfl ?_
            refine x_iald aiM_5 F hw 2 rfl (by omega) dX7_fromOf_62 ?_
            refine lv_isub hx hb dX7_fromOf_63 ?_
            refine lv_aload_n hx hb dX7_fromOf_64 rfl (lv_at hl 2 rfl) ?_
            refine x_getr frM_14 F hw fo_X7_40 dX7_fromOf_65 ?_
            refine lv_iload_n hx hb dX7_fromOf_68 rfl (lv_at hl 3 rfl) ?_
            refine x_iald aiM_14 F hw mn rfl (by omega) dX7_fromOf_69 ?_
            refine lv_iconst (v := nI 1) hx hb dX7_fromOf_70 rfl ?_
            refine lv_isub hx hb dX7_fromOf_71 ?_
            refine x_fSI (rest := []) (c_X7_in l D k (wM k q S X) (S 17 (i + 1)) ((S 14 mn) - (S 5 2)) ((S 14 mn) - (nI 1))) mo_X7_69 F hw (Nat.le_of_ble_eq_true rfl) (x_cs F (Nat.le_of_ble_eq_true rfl) (Nat.le_of_ble_eq_true rfl)) rfl rfl hl.1 (Nat.le_of_ble_eq_true rfl) dX7_fromOf_72 (fun H locs hw => ?_)
            refine lv_if_eq (tgt := 82) hx hb dX7_fromOf_75 rfl (fun c75 => ?_) (fun c75 => ?_)
            · refine lv_iconst (v := nI 0) hx hb dX7_fromOf_82 rfl ?_
              exact K83 false _ _ _ (by unfold mgv1; first | exact (bA0 (decide_eq_false c46)).symm | exact (bA1 (bneF c75)).symm | exact (bAt (decide_eq_true c46) (bneT c75)).symm) hw (lv_sub hl [2, 3, 4, 5, 1, 0] rfl)
            · refine lv_iconst (v := nI 1) hx hb dX7_fromOf_78 rfl ?_
              refine lv_goto (tgt := 83) hx hb dX7_fromOf_79 rfl ?_
              exact K83 true _ _ _ (by unfold mgv1; first | exact (bA0 (decide_eq_false c46)).symm | exact (bA1 (bneF c75)).symm | exact (bAt (decide_eq_true c46) (bneT c75)).symm) hw (lv_sub hl [2, 3, 4, 5, 1, 0] rfl)
  exact K4 _ 0 (nI 0) _ _ _ (Nat.lt_succ_self _) (by first | assumption | omega | rfl) (by exact Or.inl rfl) (by rfl) hw (lv_sub hl [2, 3, 1, 0] rfl)
set_option maxHeartbeats 4000000 in
set_option maxRecDepth 20000 in
theorem c_X7_firstSet (l : Launch) (D : va_G) (k : Nat → ClassId) (q : Nat → Nat) (S : St) (X : va_W) (hN : okMN S) : CI l D k yX7_firstSet cX7_firstSet 3 (some .int) 2 0 0 [.ref (q 30)] (wM k q S X) (fun r w' => w' = wM k q S X ∧ r = fsF S (mmnN S)) := by
  refine CI.mk (by decide) (Nat.le_of_ble_eq_true rfl) ?_
  intro p e R s m args below meth c A Q ls F hret hw hl
  have hx := xs_hx F
  have hb := xs_hb F
  have hl : lv_has ls 3 [(0, .ref (q 30))] := hl
  have h8 := hN.1.2
  have h16 := hN.2.1.2
  refine lv_aload_n hx hb dX7_firstSet_0 rfl (lv_at hl 0 rfl) ?_
  refine x_fVI (rest := []) (c_X7_sickSet l D k q S X (by first | assumption | omega)) mo_X7_162 obM F hw (Nat.le_of_ble_eq_true rfl) (x_cs F (Nat.le_of_ble_eq_true rfl) (Nat.le_of_ble_eq_true rfl)) rfl rfl hl.1 (Nat.le_of_ble_eq_true rfl) dX7_firstSet_1 (fun H locs hw => ?_)
  refine lv_istore_n (lv' := [(1, .int (msck S)), (0, .ref (q 30))]) hx hb dX7_firstSet_4 rfl hl (Nat.le_of_ble_eq_true rfl) rfl (fun ls hl => ?_)
  refine lv_iconst (v := nI 0) hx hb dX7_firstSet_5 rfl ?_
  refine lv_istore_n (lv' := [(2, .int (nI 0)), (1, .int (msck S)), (0, .ref (q 30))]) hx hb dX7_firstSet_6 rfl hl (Nat.le_of_ble_eq_true rfl) rfl (fun ls hl => ?_)
  have K7 : ∀ (n7_ : Nat) (i : Nat) (x : Int32) (H : Heap) (locs : List Loc) (ls : Array Slot), mmnN S - i < n7_ → (i ≤ mmnN S) → (x = fsF S i) → Wd D A s.heap H locs (wM k q S X) → lv_has ls 3 [(0, .ref (q 30)), (1, .int x), (2, .int (nI i))] → W p l e R s m args below meth c H locs 0 0 Q (F0 m 7 ls []) := by
    intro n7_
    induction n7_ with
    | zero =>
      intro i x H locs ls hn7_
      exact absurd hn7_ (Nat.not_lt_zero _)
    | succ n7_ ih7_ =>
      intro i x H locs ls hn7_ hi h1 hw hl
      refine lv_iload_n hx hb dX7_firstSet_7 rfl (lv_at hl 2 rfl) ?_
      refine lv_aload_n hx hb dX7_firstSet_8 rfl (lv_at hl 0 rfl) ?_
      refine x_geti fiM_13 F hw fo_X7_150 dX7_firstSet_9 ?_
      refine x_top (y := nI (mmnN S)) hN.1.1 ?_
      refine x_icmp_ge i (mmnN S) F (by omega) (by omega) (tgt := 43) dX7_firstSet_12 rfl (fun c12 => ?_) (fun c12 => ?_)
      · refine lv_iload_n hx hb dX7_firstSet_43 rfl (lv_at hl 1 rfl) ?_
        exact hret _ _ _ _ _ _ dX7_firstSet_44 hw rfl ⟨rfl, by rw [h1, show i = mmnN S by omega]⟩
      · refine lv_iload_n hx hb dX7_firstSet_15 rfl (lv_at hl 1 rfl) ?_
        refine lv_aload_n hx hb dX7_firstSet_16 rfl (lv_at hl 0 rfl) ?_
        refine lv_iload_n hx hb dX7_firstSet_17 rfl (lv_at hl 2 rfl) ?_
        refine x_fVI (rest := [.int x]) (c_X7_fromOf l D k q S X i (by first | assumption | omega) (by omega)) mo_X7_159 obM F hw (Nat.le_of_ble_eq_true rfl) (x_cs F (Nat.le_of_ble_eq_true rfl) (Nat.le_of_ble_eq_true rfl)) rfl rfl hl.1 (Nat.le_of_ble_eq_true rfl) dX7_firstSet_18 (fun H locs hw => ?_)
        refine lv_if_ne (tgt := 30) hx hb dX7_firstSet_21 rfl (fun c21 => ?_) (fun c21 => ?_)
        · refine lv_iconst (v := nI 1) hx hb dX7_firstSet_30 rfl ?_
          refine lv_iload_n hx hb dX7_firstSet_31 rfl (lv_at hl 2 rfl) ?_
          refine lv_ishl hx hb dX7_firstSet_32 ?_
          refine lv_iconst (v := (-1)) hx hb dX7_firstSet_33 rfl ?_
          refine lv_ixor hx hb dX7_firstSet_34 ?_
          refine lv_iand hx hb dX7_firstSet_35 ?_
          refine lv_istore_n (lv' := [(1, .int (x &&& (((nI 1) <<< ((nI i) &&& 31)) ^^^ (-1)))), (0, .ref (q 30)), (2, .int (nI i))]) hx hb dX7_firstSet_36 rfl hl (Nat.le_of_ble_eq_true rfl) rfl (fun ls hl => ?_)
          refine lv_iinc (v := nI (i + 1)) (lv' := [(2, .int (nI (i + 1))), (1, .int (x &&& (((nI 1) <<< ((nI i) &&& 31)) ^^^ (-1)))), (0, .ref (q 30))]) hx hb dX7_firstSet_37 hl (k := 2) rfl (nI_1 _) (Nat.le_of_ble_eq_true rfl) rfl (fun ls hl => ?_)
          refine lv_goto (tgt := 7) hx hb dX7_firstSet_40 rfl ?_
          exact ih7_ (i + 1) (x &&& (((nI 1) <<< ((nI i) &&& 31)) ^^^ (-1))) _ _ _ (by first | omega | (simp only [] at *; omega)) (by first | assumption | omega | rfl) (by rw [h1]; first | (show _ = fsF S i &&& (if _ then _ else _); rw [if_pos c21]) | (show _ = fsF S i &&& (if _ then _ else _); rw [if_neg c21])) hw (lv_sub hl [2, 1, 0] rfl)
        · refine lv_sipush (v := nI 255) hx hb dX7_firstSet_24 rfl ?_
          refine lv_goto (tgt := 35) hx hb dX7_firstSet_27 rfl ?_
          refine lv_iand hx hb dX7_firstSet_35 ?_
          refine lv_istore_n (lv' := [(1, .int (x &&& (nI 255))), (0, .ref (q 30)), (2, .int (nI i))]) hx hb dX7_firstSet_36 rfl hl (Nat.le_of_ble_eq_true rfl) rfl (fun ls hl => ?_)
          refine lv_iinc (v := nI (i + 1)) (lv' := [(2, .int (nI (i + 1))), (1, .int (x &&& (nI 255))), (0, .ref (q 30))]) hx hb dX7_firstSet_37 hl (k := 2) rfl (nI_1 _) (Nat.le_of_ble_eq_true rfl) rfl (fun ls hl => ?_)
          refine lv_goto (tgt := 7) hx hb dX7_firstSet_40 rfl ?_
          exact ih7_ (i + 1) (x &&& (nI 255)) _ _ _ (by first | omega | (simp only [] at *; omega)) (by first | assumption | omega | rfl) (by rw [h1]; first | (show _ = fsF S i &&& (if _ then _ else _); rw [if_pos c21]) | (show _ = fsF S i &&& (if _ then _ else _); rw [if_neg c21])) hw (lv_sub hl [2, 1, 0] rfl)
  exact K7 _ 0 (msck S) _ _ _ (Nat.lt_succ_self _) (by first | assumption | omega | rfl) (by rfl) hw (lv_sub hl [2, 1, 0] rfl)
set_option maxHeartbeats 4000000 in
set_option maxRecDepth 20000 in
theorem c_X7_pathTo (l : Launch) (D : va_G) (k : Nat → ClassId) (q : Nat → Nat) (S : St) (X : va_W) (mn : Nat) (wo : Int32) (hN : okMN S) : CI l D k yX7_pathTo cX7_pathTo 7 (some .int) 3 0 0 [.ref (q 30), .int (nI mn), .int wo] (wM k q S X) (fun r w' => w' = wM k q S X ∧ r = nI (mspF S mn wo)) := by
  refine CI.mk (by decide) (Nat.le_of_ble_eq_true rfl) ?_
  intro p e R s m args below meth c A Q ls F hret hw hl
  have hx := xs_hx F
  have hb := xs_hb F
  have hl : lv_has ls 7 [(0, .ref (q 30)), (1, .int (nI mn)), (2, .int wo)] := hl
  have h8 := hN.1.2
  have h16 := hN.2.1.2
  refine lv_aload_n hx hb dX7_pathTo_0 rfl (lv_at hl 0 rfl) ?_
  refine x_fVI (rest := []) (c_X7_firstSet l D k q S X (by first | assumption | omega)) mo_X7_165 obM F hw (Nat.le_of_ble_eq_true rfl) (x_cs F (Nat.le_of_ble_eq_true rfl) (Nat.le_of_ble_eq_true rfl)) rfl rfl hl.1 (Nat.le_of_ble_eq_true rfl) dX7_pathTo_1 (fun H locs hw => ?_)
  refine lv_iload_n hx hb dX7_pathTo_4 rfl (lv_at hl 2 rfl) ?_
  refine lv_iconst (v := (-1)) hx hb dX7_pathTo_5 rfl ?_
  refine lv_ixor hx hb dX7_pathTo_6 ?_
  refine lv_iand hx hb dX7_pathTo_7 ?_
  refine lv_istore_n (lv' := [(3, .int ((fsF S (mmnN S)) &&& (wo ^^^ (-1)))), (0, .ref (q 30)), (1, .int (nI mn)), (2, .int wo)]) hx hb dX7_pathTo_8 rfl hl (Nat.le_of_ble_eq_true rfl) rfl (fun ls hl => ?_)
  refine lv_iconst (v := nI 1) hx hb dX7_pathTo_9 rfl ?_
  refine lv_istore (lv' := [(4, .int (nI 1)), (3, .int ((fsF S (mmnN S)) &&& (wo ^^^ (-1)))), (0, .ref (q 30)), (1, .int (nI mn)), (2, .int wo)]) hx hb dX7_pathTo_10 hl (Nat.le_of_ble_eq_true rfl) rfl (fun ls hl => ?_)
  have K12 : ∀ (n12_ : Nat) (i : Nat) (x : Int32) (H : Heap) (locs : List Loc) (ls : Array Slot), mmnN S - i < n12_ → (i ≤ mmnN S) → (x = mrch S wo i) → (fstF (fun i => hbt (mrch S wo i) mn) i = 0) → Wd D A s.heap H locs (wM k q S X) → lv_has ls 7 [(0, .ref (q 30)), (1, .int (nI mn)), (2, .int wo), (3, .int x), (4, .int (nI (i + 1)))] → W p l e R s m args below meth c H locs 0 0 Q (F0 m 12 ls []) := by
    intro n12_
    induction n12_ with
    | zero =>
      intro i x H locs ls hn12_
      exact absurd hn12_ (Nat.not_lt_zero _)
    | succ n12_ ih12_ =>
      intro i x H locs ls hn12_ hi h1 h3 hw hl
      refine lv_iload hx hb dX7_pathTo_12 (lv_at hl 4 rfl) ?_
      refine lv_aload_n hx hb dX7_pathTo_14 rfl (lv_at hl 0 rfl) ?_
      refine x_geti fiM_13 F hw fo_X7_150 dX7_pathTo_15 ?_
      refine x_top (y := nI (mmnN S)) hN.1.1 ?_
      refine x_icmp_gt (i + 1) (mmnN S) F (by omega) (by omega) (tgt := 91) dX7_pathTo_18 rfl (fun c18 => ?_) (fun c18 => ?_)
      · refine lv_iconst (v := nI 0) hx hb dX7_pathTo_91 rfl ?_
        exact hret _ _ _ _ _ _ dX7_pathTo_92 hw rfl ⟨rfl, (congrArg nI ((congrArg (fstF _) (show mmnN S = i by omega)).trans h3)).symm⟩
      · refine lv_iload_n hx hb dX7_pathTo_21 rfl (lv_at hl 3 rfl) ?_
        refine lv_iload_n hx hb dX7_pathTo_22 rfl (lv_at hl 1 rfl) ?_
        refine lv_ishr hx hb dX7_pathTo_23 ?_
        refine lv_iconst (v := nI 1) hx hb dX7_pathTo_24 rfl ?_
        refine lv_iand hx hb dX7_pathTo_25 ?_
        refine lv_iconst (v := nI 1) hx hb dX7_pathTo_26 rfl ?_
        refine lv_icmp_ne (tgt := 33) hx hb dX7_pathTo_27 rfl (fun c27 => ?_) (fun c27 => ?_)
        · refine lv_iload_n hx hb dX7_pathTo_33 rfl (lv_at hl 3 rfl) ?_
          refine lv_istore (lv' := [(5, .int x), (0, .ref (q 30)), (1, .int (nI mn)), (2, .int wo), (3, .int x), (4, .int (nI (i + 1)))]) hx hb dX7_pathTo_34 hl (Nat.le_of_ble_eq_true rfl) rfl (fun ls hl => ?_)
          refine lv_iconst (v := nI 0) hx hb dX7_pathTo_36 rfl ?_
          refine lv_istore (lv' := [(6, .int (nI 0)), (5, .int x), (0, .ref (q 30)), (1, .int (nI mn)), (2, .int wo), (3, .int x), (4, .int (nI (i + 1)))]) hx hb dX7_pathTo_37 hl (Nat.le_of_ble_eq_true rfl) rfl (fun ls hl => ?_)
          have K39 : ∀ (n39_ : Nat) (j : Nat) (y : Int32) (H : Heap) (locs : List Loc) (ls : Array Slot), mmnN S - j < n39_ → (j ≤ mmnN S) → (y = thF S x j) → Wd D A s.heap H locs (wM k q S X) → lv_has ls 7 [(0, .ref (q 30)), (1, .int (nI mn)), (2, .int wo), (3, .int x), (4, .int (nI (i + 1))), (5, .int y), (6, .int (nI j))] → W p l e R s m args below meth c H locs 0 0 Q (F0 m 39 ls []) := by
            intro n39_
            induction n39_ with
            | zero =>
              intro j y H locs ls hn39_
              exact absurd hn39_ (Nat.not_lt_zero _)
            | succ n39_ ih39_ =>
              intro j y H locs ls hn39_ hj h2 hw hl
              refine lv_iload hx hb dX7_pathTo_39 (lv_at hl 6 rfl) ?_
              refine lv_aload_n hx hb dX7_pathTo_41 rfl (lv_at hl 0 rfl) ?_
              refine x_geti fiM_13 F hw fo_X7_150 dX7_pathTo_42 ?_
              refine x_top (y := nI (mmnN S)) hN.1.1 ?_
              refine x_icmp_ge j (mmnN S) F (by omega) (by omega) (tgt := 78) dX7_pathTo_45 rfl (fun c45 => ?_) (fun c45 => ?_)
              · refine lv_iload hx hb dX7_pathTo_78 (lv_at hl 5 rfl) ?_
                refine lv_iload_n hx hb dX7_pathTo_80 rfl (lv_at hl 2 rfl) ?_
                refine lv_iconst (v := (-1)) hx hb dX7_pathTo_81 rfl ?_
                refine lv_ixor hx hb dX7_pathTo_82 ?_
                refine lv_iand hx hb dX7_pathTo_83 ?_
                refine lv_istore_n (lv' := [(3, .int (y &&& (wo ^^^ (-1)))), (0, .ref (q 30)), (1, .int (nI mn)), (2, .int wo), (4, .int (nI (i + 1))), (5, .int y), (6, .int (nI j))]) hx hb dX7_pathTo_84 rfl hl (Nat.le_of_ble_eq_true rfl) rfl (fun ls hl => ?_)
                refine lv_iinc (v := nI (i + 1 + 1)) (lv' := [(4, .int (nI (i + 1 + 1))), (3, .int (y &&& (wo ^^^ (-1)))), (0, .ref (q 30)), (1, .int (nI mn)), (2, .int wo), (5, .int y), (6, .int (nI j))]) hx hb dX7_pathTo_85 hl (k := 4) rfl (nI_1 _) (Nat.le_of_ble_eq_true rfl) rfl (fun ls hl => ?_)
                refine lv_goto (tgt := 12) hx hb dX7_pathTo_88 rfl ?_
                exact ih12_ (i + 1) (y &&& (wo ^^^ (-1))) _ _ _ (by first | omega | (simp only [] at *; omega)) (by first | assumption | omega | rfl) (by rw [h2, h1, show j = mmnN S by omega]; rfl) (by exact fstF_go h3 (by show hbt _ mn = false; rw [← h1]; exact hbt_0 c27)) hw (lv_sub hl [2, 3, 4, 1, 0] rfl)
              · refine lv_iload hx hb dX7_pathTo_48 (lv_at hl 5 rfl) ?_
                refine lv_aload_n hx hb dX7_pathTo_50 rfl (lv_at hl 0 rfl) ?_
                refine lv_iload hx hb dX7_pathTo_51 (lv_at hl 6 rfl) ?_
                refine x_fVI (rest := [.int y]) (c_X7_fromOf l D k q S X j (by first | assumption | omega) (by omega)) mo_X7_159 obM F hw (Nat.le_of_ble_eq_true rfl) (x_cs F (Nat.le_of_ble_eq_true rfl) (Nat.le_of_ble_eq_true rfl)) rfl rfl hl.1 (Nat.le_of_ble_eq_true rfl) dX7_pathTo_53 (fun H locs hw => ?_)
                refine lv_iload_n hx hb dX7_pathTo_56 rfl (lv_at hl 3 rfl) ?_
                refine lv_iand hx hb dX7_pathTo_57 ?_
                refine lv_if_eq (tgt := 68) hx hb dX7_pathTo_58 rfl (fun c58 => ?_) (fun c58 => ?_)
                · refine lv_iconst (v := nI 0) hx hb dX7_pathTo_68 rfl ?_
                  refine lv_ior hx hb dX7_pathTo_69 ?_
                  refine lv_istore (lv' := [(5, .int (y ||| (nI 0))), (0, .ref (q 30)), (1, .int (nI mn)), (2, .int wo), (3, .int x), (4, .int (nI (i + 1))), (6, .int (nI j))]) hx hb dX7_pathTo_70 hl (Nat.le_of_ble_eq_true rfl) rfl (fun ls hl => ?_)
                  refine lv_iinc (v := nI (j + 1)) (lv' := [(6, .int (nI (j + 1))), (5, .int (y ||| (nI 0))), (0, .ref (q 30)), (1, .int (nI mn)), (2, .int wo), (3, .int x), (4, .int (nI (i + 1)))]) hx hb dX7_pathTo_72 hl (k := 6) rfl (nI_1 _) (Nat.le_of_ble_eq_true rfl) rfl (fun ls hl => ?_)
                  refine lv_goto (tgt := 39) hx hb dX7_pathTo_75 rfl ?_
                  exact ih39_ (j + 1) (y ||| (nI 0)) _ _ _ (by first | omega | (simp only [] at *; omega)) (by first | assumption | omega | rfl) (by rw [h2]; first | (show _ = thF S x j ||| (if _ then _ else _); rw [if_pos c58]) | (show _ = thF S x j ||| (if _ then _ else _); rw [if_neg c58])) hw (lv_sub hl [2, 3, 4, 5, 6, 1, 0] rfl)
                · refine lv_iconst (v := nI 1) hx hb dX7_pathTo_61 rfl ?_
                  refine lv_iload hx hb dX7_pathTo_62 (lv_at hl 6 rfl) ?_
                  refine lv_ishl hx hb dX7_pathTo_64 ?_
                  refine lv_goto (tgt := 69) hx hb dX7_pathTo_65 rfl ?_
                  refine lv_ior hx hb dX7_pathTo_69 ?_
                  refine lv_istore (lv' := [(5, .int (y ||| ((nI 1) <<< ((nI j) &&& 31)))), (0, .ref (q 30)), (1, .int (nI mn)), (2, .int wo), (3, .int x), (4, .int (nI (i + 1))), (6, .int (nI j))]) hx hb dX7_pathTo_70 hl (Nat.le_of_ble_eq_true rfl) rfl (fun ls hl => ?_)
                  refine lv_iinc (v := nI (j + 1)) (lv' := [(6, .int (nI (j + 1))), (5, .int (y ||| ((nI 1) <<< ((nI j) &&& 31)))), (0, .ref (q 30)), (1, .int (nI mn)), (2, .int wo), (3, .int x), (4, .int (nI (i + 1)))]) hx hb dX7_pathTo_72 hl (k := 6) rfl (nI_1 _) (Nat.le_of_ble_eq_true rfl) rfl (fun ls hl => ?_)
                  refine lv_goto (tgt := 39) hx hb dX7_pathTo_75 rfl ?_
                  exact ih39_ (j + 1) (y ||| ((nI 1) <<< ((nI j) &&& 31))) _ _ _ (by first | omega | (simp only [] at *; omega)) (by first | assumption | omega | rfl) (by rw [h2]; first | (show _ = thF S x j ||| (if _ then _ else _); rw [if_pos c58]) | (show _ = thF S x j ||| (if _ then _ else _); rw [if_neg c58])) hw (lv_sub hl [2, 3, 4, 5, 6, 1, 0] rfl)
          exact K39 _ 0 x _ _ _ (Nat.lt_succ_self _) (by first | assumption | omega | rfl) (by rfl) hw (lv_sub hl [2, 3, 4, 5, 6, 1, 0] rfl)
        · refine lv_iload hx hb dX7_pathTo_30 (lv_at hl 4 rfl) ?_
          exact hret _ _ _ _ _ _ dX7_pathTo_32 hw rfl ⟨rfl, by unfold mspF; rw [fstF_stay (n := i + 1) (by rw [fstF_hit h3 (by show hbt _ mn = true; rw [← h1]; exact hbt_1 c27)]; omega) _ (by omega), fstF_hit h3 (by show hbt _ mn = true; rw [← h1]; exact hbt_1 c27)]⟩
  exact K12 _ 0 ((fsF S (mmnN S)) &&& (wo ^^^ (-1))) _ _ _ (Nat.lt_succ_self _) (by first | assumption | omega | rfl) (by rfl) (by rfl) hw (lv_sub hl [2, 3, 4, 1, 0] rfl)
set_option maxHeartbeats 4000000 in
set_option maxRecDepth 20000 in
theorem c_X7_layAged (l : Launch) (D : va_G) (k : Nat → ClassId) (q : Nat → Nat) (S : St) (X : va_W) (pn : Nat) (hG : okMG S) (hp : pn < 6) : CV l D k yX7_layAged cX7_layAged 6 1 0 0 [.ref (q 30), .int (nI pn)] (wM k q S X) (fun w' => w' = wM k q (magS S pn) X) := by
  refine CV.mk (by decide) (Nat.le_of_ble_eq_true rfl) ?_
  intro p e R s m args below meth c A Q ls F hnm hret hw hl
  have hx := xs_hx F
  have hb := xs_hb F
  have hl : lv_has ls 6 [(0, .ref (q 30)), (1, .int (nI pn))] := hl
  obtain ⟨eA, eB, eW, lA, lB, lW⟩ := hG.cl
  refine lv_aload_n hx hb dX7_layAged_0 rfl (lv_at hl 0 rfl) ?_
  refine lv_bipush (v := (-6)) hx hb dX7_layAged_1 rfl ?_
  refine x_puti fiM_25 F hw fo_X7_131 rfl rfl dX7_layAged_3 (fun H locs hw => ?_)
  refine lv_aload_n hx hb dX7_layAged_6 rfl (lv_at hl 0 rfl) ?_
  refine lv_bipush (v := (-6)) hx hb dX7_layAged_7 rfl ?_
  refine x_puti fiM_26 F hw fo_X7_134 rfl rfl dX7_layAged_9 (fun H locs hw => ?_)
  refine lv_aload_n hx hb dX7_layAged_12 rfl (lv_at hl 0 rfl) ?_
  refine lv_iconst (v := nI 0) hx hb dX7_layAged_13 rfl ?_
  refine x_puti fiM_27 F hw fo_X7_137 rfl rfl dX7_layAged_14 (fun H locs hw => ?_)
  refine lv_iconst (v := nI 0) hx hb dX7_layAged_17 rfl ?_
  refine lv_istore_n (lv' := [(2, .int (nI 0)), (0, .ref (q 30)), (1, .int (nI pn))]) hx hb dX7_layAged_18 rfl hl (Nat.le_of_ble_eq_true rfl) rfl (fun ls hl => ?_)
  have K19 : ∀ (n19_ : Nat) (y : Nat) (ff : Int32) (ll : Int32) (cc : Nat) (H : Heap) (locs : List Loc) (ls : Array Slot), clN (S 5 1) + 1 - y < n19_ → (y ≤ clN (S 5 1) + 1) → (ff = agI (mreS S pn) y) → (ll = agL (mreS S pn) y) → (cc = cntB (mreS S pn) y) → Wd D A s.heap H locs (wM k q (va_up (va_up (va_up S 25 (fun _ => ff)) 26 (fun _ => ll)) 27 (fun _ => nI cc)) X) → lv_has ls 6 [(0, .ref (q 30)), (1, .int (nI pn)), (2, .int (nI y))] → W p l e R s m args below meth c H locs 0 0 Q (F0 m 19 ls []) := by
    intro n19_
    induction n19_ with
    | zero =>
      intro y ff ll cc H locs ls hn19_
      exact absurd hn19_ (Nat.not_lt_zero _)
    | succ n19_ ih19_ =>
      intro y ff ll cc H locs ls hn19_ hy g1 g2 g3 hw hl
      refine lv_iload_n hx hb dX7_layAged_19 rfl (lv_at hl 2 rfl) ?_
      refine lv_aload_n hx hb dX7_layAged_20 rfl (lv_at hl 0 rfl) ?_
      refine x_getr frM_5 F hw fo_X7_22 dX7_layAged_21 ?_
      refine lv_iconst (v := nI 1) hx hb dX7_layAged_24 rfl ?_
      refine x_iald aiM_5 F hw 1 rfl (by omega) dX7_layAged_25 ?_
      refine x_top (y := S 5 1) rfl ?_
      refine x_top (y := nI (clN (S 5 1))) eW ?_
      refine x_icmp_gt y (clN (S 5 1)) F (by omega) (by omega) (tgt := 150) dX7_layAged_26 rfl (fun c26 => ?_) (fun c26 => ?_)
      · exact hret _ _ _ _ _ dX7_layAged_150 hw (by rw [g1, g2, g3, show y = clN (S 5 1) + 1 by omega]; rfl)
      · refine lv_iconst (v := nI 0) hx hb dX7_layAged_29 rfl ?_
        refine lv_istore_n (lv' := [(3, .int (nI 0)), (0, .ref (q 30)), (1, .int (nI pn)), (2, .int (nI y))]) hx hb dX7_layAged_30 rfl hl (Nat.le_of_ble_eq_true rfl) rfl (fun ls hl => ?_)
        refine lv_aload_n hx hb dX7_layAged_31 rfl (lv_at hl 1 rfl) ?_
        refine x_getr frM_10 F hw fo_X7_31 dX7_layAged_32 ?_
        refine lv_iconst (v := nI 2) hx hb dX7_layAged_35 rfl ?_
        refine x_iald aiM_10 F hw 2 rfl (by omega) dX7_layAged_36 ?_
        refine x_top (y := S 10 2) rfl ?_
        refine x_top (y := nI (clN (S 10 2))) eA ?_
        refine lv_istore (lv' := [(4, .int (nI (clN (S 10 2)))), (3, .int (nI 0)), (0, .ref (q 30)), (1, .int (nI pn)), (2, .int (nI y))]) hx hb dX7_layAged_37 hl (Nat.le_of_ble_eq_true rfl) rfl (fun ls hl => ?_)
        have K39 : ∀ (n39_ : Nat) (i : Nat) (t : Bool) (H : Heap) (locs : List Loc) (ls : Array Slot), clN (S 10 3) + 1 - i < n39_ → (i ≤ clN (S 10 3) + 1 - clN (S 10 2)) → (t = anyB (fun i => f_in (S 4 pn - nI (clN (S 10 2) + i) * (nI (clN (S 5 1)) - nI y)) (S 10 0) (S 10 1) != 0) i) → Wd D A s.heap H locs (wM k q (va_up (va_up (va_up S 25 (fun _ => ff)) 26 (fun _ => ll)) 27 (fun _ => nI cc)) X) → lv_has ls 6 [(0, .ref (q 30)), (1, .int (nI pn)), (2, .int (nI y)), (3, .int (b01 t)), (4, .int (nI (clN (S 10 2) + i)))] → W p l e R s m args below meth c H locs 0 0 Q (F0 m 39 ls []) := by
          intro n39_
          induction n39_ with
          | zero =>
            intro i t H locs ls hn39_
            exact absurd hn39_ (Nat.not_lt_zero _)
          | succ n39_ ih39_ =>
            intro i t H locs ls hn39_ hi h1 hw hl
            refine lv_iload hx hb dX7_layAged_39 (lv_at hl 4 rfl) ?_
            refine lv_aload_n hx hb dX7_layAged_41 rfl (lv_at hl 0 rfl) ?_
            refine x_getr frM_10 F hw fo_X7_31 dX7_layAged_42 ?_
            refine lv_iconst (v := nI 3) hx hb dX7_layAged_45 rfl ?_
            refine x_iald aiM_10 F hw 3 rfl (by omega) dX7_layAged_46 ?_
            refine x_top (y := S 10 3) rfl ?_
            refine x_top (y := nI (clN (S 10 3))) eB ?_
            refine x_icmp_gt (clN (S 10 2) + i) (clN (S 10 3)) F (by omega) (by omega) (tgt := 106) dX7_layAged_47 rfl (fun c47 => ?_) (fun c47 => ?_)
            · refine lv_iload_n hx hb dX7_layAged_106 rfl (lv_at hl 3 rfl) ?_
              refine lv_if_eq (tgt := 144) hx hb dX7_layAged_107 rfl (fun c107 => ?_) (fun c107 => ?_)
              · have hpy : mreS S pn y = false := by unfold mreS reB; rw [show clN (S 10 3) + 1 - clN (S 10 2) = i by omega]; exact h1.symm.trans (b01_0.mp c107)
                refine lv_iinc (v := nI (y + 1)) (lv' := [(2, .int (nI (y + 1))), (0, .ref (q 30)), (1, .int (nI pn)), (3, .int (b01 t)), (4, .int (nI (clN (S 10 2) + i)))]) hx hb dX7_layAged_144 hl (k := 2) rfl (nI_1 _) (Nat.le_of_ble_eq_true rfl) rfl (fun ls hl => ?_)
                refine lv_goto (tgt := 19) hx hb dX7_layAged_147 rfl ?_
                exact ih19_ (y + 1) ff ll cc _ _ _ (by first | omega | (simp only [] at *; omega)) (by first | assumption | omega | rfl) (by first | exact g1.trans (agI_f hpy).symm | exact (agI_y1 (by omega) hpy (by rw [← g1]; exact c115)).symm | exact g1.trans (agI_y2 hpy (by rw [← g1]; exact c115)).symm) (by first | exact g2.trans (agL_f hpy).symm | exact (agL_y hpy).symm) (by first | exact g3.trans (cnt_f hpy).symm | (rw [g3]; exact (cnt_y hpy).symm)) hw (lv_sub hl [1, 2, 0] rfl)
              · have hpy : mreS S pn y = true := by unfold mreS reB; rw [show clN (S 10 3) + 1 - clN (S 10 2) = i by omega]; exact h1.symm.trans (b01_1.mp c107)
                refine lv_aload_n hx hb dX7_layAged_110 rfl (lv_at hl 0 rfl) ?_
                refine lv_aload_n hx hb dX7_layAged_111 rfl (lv_at hl 0 rfl) ?_
                refine x_geti fiM_25 F hw fo_X7_131 dX7_layAged_112 ?_
                refine x_top (y := ff) rfl ?_
                refine x_top (y := ff) rfl ?_
                refine lv_if_ge (tgt := 122) hx hb dX7_layAged_115 rfl (fun c115 => ?_) (fun c115 => ?_)
                · refine lv_aload_n hx hb dX7_layAged_122 rfl (lv_at hl 0 rfl) ?_
                  refine x_geti fiM_25 F hw fo_X7_131 dX7_layAged_123 ?_
                  refine x_top (y := ff) rfl ?_
                  refine x_top (y := ff) rfl ?_
                  refine x_puti fiM_25 F hw fo_X7_131 rfl rfl dX7_layAged_126 (fun H locs hw => ?_)
                  refine lv_aload_n hx hb dX7_layAged_129 rfl (lv_at hl 0 rfl) ?_
                  refine lv_iload_n hx hb dX7_layAged_130 rfl (lv_at hl 2 rfl) ?_
                  refine x_puti fiM_26 F hw fo_X7_134 rfl rfl dX7_layAged_131 (fun H locs hw => ?_)
                  refine lv_aload_n hx hb dX7_layAged_134 rfl (lv_at hl 0 rfl) ?_
                  refine lv_dup hx hb dX7_layAged_135 rfl ?_
                  refine x_geti fiM_27 F hw fo_X7_137 dX7_layAged_136 ?_
                  refine x_top (y := nI cc) rfl ?_
                  refine x_top (y := nI cc) rfl ?_
                  refine lv_iconst (v := nI 1) hx hb dX7_layAged_139 rfl ?_
                  refine lv_iadd hx hb dX7_layAged_140 ?_
                  refine x_top (y := nI (cc + 1)) (nI_add _ _) ?_
                  refine x_puti fiM_27 F hw fo_X7_137 rfl rfl dX7_layAged_141 (fun H locs hw => ?_)
                  refine lv_iinc (v := nI (y + 1)) (lv' := [(2, .int (nI (y + 1))), (0, .ref (q 30)), (1, .int (nI pn)), (3, .int (b01 t)), (4, .int (nI (clN (S 10 2) + i)))]) hx hb dX7_layAged_144 hl (k := 2) rfl (nI_1 _) (Nat.le_of_ble_eq_true rfl) rfl (fun ls hl => ?_)
                  refine lv_goto (tgt := 19) hx hb dX7_layAged_147 rfl ?_
                  exact ih19_ (y + 1) ff (nI y) (cc + 1) _ _ _ (by first | omega | (simp only [] at *; omega)) (by first | assumption | omega | rfl) (by first | exact g1.trans (agI_f hpy).symm | exact (agI_y1 (by omega) hpy (by rw [← g1]; exact c115)).symm | exact g1.trans (agI_y2 hpy (by rw [← g1]; exact c115)).symm) (by first | exact g2.trans (agL_f hpy).symm | exact (agL_y hpy).symm) (by first | exact g3.trans (cnt_f hpy).symm | (rw [g3]; exact (cnt_y hpy).symm)) hw (lv_sub hl [1, 2, 0] rfl)
                · refine lv_iload_n hx hb dX7_layAged_118 rfl (lv_at hl 2 rfl) ?_
                  refine lv_goto (tgt := 126) hx hb dX7_layAged_119 rfl ?_
                  refine x_puti fiM_25 F hw fo_X7_131 rfl rfl dX7_layAged_126 (fun H locs hw => ?_)
                  refine lv_aload_n hx hb dX7_layAged_129 rfl (lv_at hl 0 rfl) ?_
                  refine lv_iload_n hx hb dX7_layAged_130 rfl (lv_at hl 2 rfl) ?_
                  refine x_puti fiM_26 F hw fo_X7_134 rfl rfl dX7_layAged_131 (fun H locs hw => ?_)
                  refine lv_aload_n hx hb dX7_layAged_134 rfl (lv_at hl 0 rfl) ?_
                  refine lv_dup hx hb dX7_layAged_135 rfl ?_
                  refine x_geti fiM_27 F hw fo_X7_137 dX7_layAged_136 ?_
                  refine x_top (y := nI cc) rfl ?_
                  refine x_top (y := nI cc) rfl ?_
                  refine lv_iconst (v := nI 1) hx hb dX7_layAged_139 rfl ?_
                  refine lv_iadd hx hb dX7_layAged_140 ?_
                  refine x_top (y := nI (cc + 1)) (nI_add _ _) ?_
                  refine x_puti fiM_27 F hw fo_X7_137 rfl rfl dX7_layAged_141 (fun H locs hw => ?_)
                  refine lv_iinc (v := nI (y + 1)) (lv' := [(2, .int (nI (y + 1))), (0, .ref (q 30)), (1, .int (nI pn)), (3, .int (b01 t)), (4, .int (nI (clN (S 10 2) + i)))]) hx hb dX7_layAged_144 hl (k := 2) rfl (nI_1 _) (Nat.le_of_ble_eq_true rfl) rfl (fun ls hl => ?_)
                  refine lv_goto (tgt := 19) hx hb dX7_layAged_147 rfl ?_
                  exact ih19_ (y + 1) (nI y) (nI y) (cc + 1) _ _ _ (by first | omega | (simp only [] at *; omega)) (by first | assumption | omega | rfl) (by first | exact g1.trans (agI_f hpy).symm | exact (agI_y1 (by omega) hpy (by rw [← g1]; exact c115)).symm | exact g1.trans (agI_y2 hpy (by rw [← g1]; exact c115)).symm) (by first | exact g2.trans (agL_f hpy).symm | exact (agL_y hpy).symm) (by first | exact g3.trans (cnt_f hpy).symm | (rw [g3]; exact (cnt_y hpy).symm)) hw (lv_sub hl [1, 2, 0] rfl)
            · refine lv_aload_n hx hb dX7_layAged_50 rfl (lv_at hl 0 rfl) ?_
              refine x_getr frM_4 F hw fo_X7_19 dX7_layAged_51 ?_
              refine lv_iload_n hx hb dX7_layAged_54 rfl (lv_at hl 1 rfl) ?_
              refine x_iald aiM_4 F hw pn rfl (by omega) dX7_layAged_55 ?_
              refine x_top (y := S 4 pn) rfl ?_
              refine lv_iload hx hb dX7_layAged_56 (lv_at hl 4 rfl) ?_
              refine lv_aload_n hx hb dX7_layAged_58 rfl (lv_at hl 0 rfl) ?_
              refine x_getr frM_5 F hw fo_X7_22 dX7_layAged_59 ?_
              refine lv_iconst (v := nI 1) hx hb dX7_layAged_62 rfl ?_
              refine x_iald aiM_5 F hw 1 rfl (by omega) dX7_layAged_63 ?_
              refine x_top (y := S 5 1) rfl ?_
              refine x_top (y := nI (clN (S 5 1))) eW ?_
              refine lv_iload_n hx hb dX7_layAged_64 rfl (lv_at hl 2 rfl) ?_
              refine lv_isub hx hb dX7_layAged_65 ?_
              refine lv_imul hx hb dX7_layAged_66 ?_
              refine lv_isub hx hb dX7_layAged_67 ?_
              refine lv_istore (lv' := [(5, .int ((S 4 pn) - ((nI (clN (S 10 2) + i)) * ((nI (clN (S 5 1))) - (nI y))))), (0, .ref (q 30)), (1, .int (nI pn)), (2, .int (nI y)), (3, .int (b01 t)), (4, .int (nI (clN (S 10 2) + i)))]) hx hb dX7_layAged_68 hl (Nat.le_of_ble_eq_true rfl) rfl (fun ls hl => ?_)
              refine lv_iload_n hx hb dX7_layAged_70 rfl (lv_at hl 4 rfl) ?_
              have K99 : ∀ (t2 : Bool) (H : Heap) (locs : List Loc) (ls : Array Slot), (t2 = anyB (fun i => f_in (S 4 pn - nI (clN (S 10 2) + i) * (nI (clN (S 5 1)) - nI y)) (S 10 0) (S 10 1) != 0) (i + 1)) → Wd D A s.heap H locs (wM k q (va_up (va_up (va_up S 25 (fun _ => ff)) 26 (fun _ => ll)) 27 (fun _ => nI cc)) X) → lv_has ls 6 [(0, .ref (q 30)), (1, .int (nI pn)), (2, .int (nI y)), (3, .int (b01 t)), (4, .int (nI (clN (S 10 2) + i))), (5, .int ((S 4 pn) - ((nI (clN (S 10 2) + i)) * ((nI (clN (S 5 1))) - (nI y)))))] → W p l e R s m args below meth c H locs 0 0 Q (F0 m 99 ls [.int (b01 t2)]) := by
                intro t2 H locs ls h99 hw hl
                refine lv_istore_n (lv' := [(3, .int (b01 t2)), (0, .ref (q 30)), (1, .int (nI pn)), (2, .int (nI y)), (4, .int (nI (clN (S 10 2) + i))), (5, .int ((S 4 pn) - ((nI (clN (S 10 2) + i)) * ((nI (clN (S 5 1))) - (nI y)))))]) hx hb dX7_layAged_99 rfl hl (Nat.le_of_ble_eq_true rfl) rfl (fun ls hl => ?_)
                refine lv_iinc (v := nI (clN (S 10 2) + (i + 1))) (lv' := [(4, .int (nI (clN (S 10 2) + (i + 1)))), (3, .int (b01 t2)), (0, .ref (q 30)), (1, .int (nI pn)), (2, .int (nI y)), (5, .int ((S 4 pn) - ((nI (clN (S 10 2) + i)) * ((nI (clN (S 5 1))) - (nI y)))))]) hx hb dX7_layAged_100 hl (k := 4) rfl (nI_1 _) (Nat.le_of_ble_eq_true rfl) rfl (fun ls hl => ?_)
                refine lv_goto (tgt := 39) hx hb dX7_layAged_103 rfl ?_
                exact ih39_ (i + 1) t2 _ _ _ (by first | omega | (simp only [] at *; omega)) (by first | assumption | omega | rfl) (by exact h99) hw (lv_sub hl [2, 3, 4, 1, 0] rfl)
              refine lv_if_ne (tgt := 94) hx hb dX7_layAged_71 rfl (fun c71 => ?_) (fun c71 => ?_)
              · refine lv_iconst (v := nI 1) hx hb dX7_layAged_94 rfl ?_
                refine lv_goto (tgt := 99) hx hb dX7_layAged_95 rfl ?_
                exact K99 true _ _ _ (by show _ = (anyB _ i || _); rw [← h1]; first | (rw [b01_1.mp c71]; rfl) | (rw [b01_0.mp c71]; exact (bneT c91).symm) | (rw [b01_0.mp c71]; exact (bneF c91).symm)) hw (lv_sub hl [1, 2, 3, 4, 5, 0] rfl)
              · refine lv_iload hx hb dX7_layAged_74 (lv_at hl 0 rfl) ?_
                refine lv_aload_n hx hb dX7_layAged_76 rfl (lv_at hl 1 rfl) ?_
                refine x_getr frM_10 F hw fo_X7_31 dX7_layAged_77 ?_
                refine lv_iconst (v := nI 0) hx hb dX7_layAged_80 rfl ?_
                refine x_iald aiM_10 F hw 0 rfl (by omega) dX7_layAged_81 ?_
                refine x_top (y := S 10 0) rfl ?_
                refine lv_aload_n hx hb dX7_layAged_82 rfl (lv_at hl 1 rfl) ?_
                refine x_getr frM_10 F hw fo_X7_31 dX7_layAged_83 ?_
                refine lv_iconst (v := nI 1) hx hb dX7_layAged_86 rfl ?_
                refine x_iald aiM_10 F hw 1 rfl (by omega) dX7_layAged_87 ?_
                refine x_top (y := S 10 1) rfl ?_
                refine x_fSI (rest := []) (c_X7_in l D k (wM k q (va_up (va_up (va_up S 25 (fun _ => ff)) 26 (fun _ => ll)) 27 (fun _ => nI cc)) X) ((S 4 pn) - ((nI (clN (S 10 2) + i)) * ((nI (clN (S 5 1))) - (nI y)))) (S 10 0) (S 10 1)) mo_X7_69 F hw (Nat.le_of_ble_eq_true rfl) (x_cs F (Nat.le_of_ble_eq_true rfl) (Nat.le_of_ble_eq_true rfl)) rfl rfl hl.1 (Nat.le_of_ble_eq_true rfl) dX7_layAged_88 (fun H locs hw => ?_)
                refine lv_if_eq (tgt := 98) hx hb dX7_layAged_91 rfl (fun c91 => ?_) (fun c91 => ?_)
                · refine lv_iconst (v := nI 0) hx hb dX7_layAged_98 rfl ?_
                  exact K99 false _ _ _ (by show _ = (anyB _ i || _); rw [← h1]; first | (rw [b01_1.mp c71]; rfl) | (rw [b01_0.mp c71]; exact (bneT c91).symm) | (rw [b01_0.mp c71]; exact (bneF c91).symm)) hw (lv_sub hl [1, 2, 3, 4, 5, 0] rfl)
                · refine lv_iconst (v := nI 1) hx hb dX7_layAged_94 rfl ?_
                  refine lv_goto (tgt := 99) hx hb dX7_layAged_95 rfl ?_
                  exact K99 true _ _ _ (by show _ = (anyB _ i || _); rw [← h1]; first | (rw [b01_1.mp c71]; rfl) | (rw [b01_0.mp c71]; exact (bneT c91).symm) | (rw [b01_0.mp c71]; exact (bneF c91).symm)) hw (lv_sub hl [1, 2, 3, 4, 5, 0] rfl)
        exact K39 _ 0 false _ _ _ (Nat.lt_succ_self _) (by first | assumption | omega | rfl) (by rfl) hw (lv_sub hl [2, 3, 4, 1, 0] rfl)
  exact K19 _ 0 (-6) (-6) 0 _ _ _ (Nat.lt_succ_self _) (by first | assumption | omega | rfl) (by rfl) (by rfl) (by rfl) hw (lv_sub hl [1, 2, 0] rfl)
