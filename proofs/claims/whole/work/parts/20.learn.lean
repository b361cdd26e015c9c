/-! ===== room for the trees; learning them ===== -/
def mst (n : Nat) : Nat := (n + 1) ^ (n - 1)
theorem mst_le : ∀ n, n ≤ 6 → 1 ≤ mst n ∧ mst n ≤ 16807 := by decide
def mkP (S : St) (q z : Nat → Nat) (g : Nat → Option Nat) (k : Nat → ClassId) (X : va_W) (n : Nat) (w' : va_W) : Prop := ∃ (z' : Nat → Nat) (f20 f21 : Nat → Int32), w' = wC k q z' g (va_up (va_up S 20 f20) 21 f21) X ∧ mst n ≤ z' 0 ∧ z' 1 = z' 0 ∧ z' 0 ≤ 16807
set_option maxHeartbeats 4000000 in
set_option maxRecDepth 20000 in
theorem c_X5_makeRoom (l : Launch) (D : va_G) (k : Nat → ClassId) (q z : Nat → Nat) (g : Nat → Option Nat) (S : St) (X : va_W) (pn : Nat) (h6 : pn ≤ 6) (hz : z 1 = z 0) (hz9 : z 0 ≤ 16807) : CV l D k yX5_makeRoom cX5_makeRoom 4 0 2 33614 [.ref (q 19), .int (nI pn)] (wC k q z g S X) (mkP S q z g k X pn) := by
  refine CV.mk (by decide) (Nat.le_of_ble_eq_true rfl) ?_
  intro p e R s m args below meth c A Q ls F hnm hret hw hl
  have hx := xs_hx F
  have hb := xs_hb F
  have hl : lv_has ls 4 [(0, .ref (q 19)), (1, .int (nI pn))] := hl
  have hz31 : z 0 < 2 ^ 31 := by omega
  refine lv_iconst (v := nI 1) hx hb dX5_makeRoom_0 rfl ?_
  refine lv_istore_n (lv' := [(2, .int (nI 1)), (0, .ref (q 19)), (1, .int (nI pn))]) hx hb dX5_makeRoom_1 rfl hl (Nat.le_of_ble_eq_true rfl) rfl (fun ls hl => ?_)
  refine lv_iconst (v := nI 1) hx hb dX5_makeRoom_2 rfl ?_
  refine lv_istore_n (lv' := [(3, .int (nI 1)), (2, .int (nI 1)), (0, .ref (q 19)), (1, .int (nI pn))]) hx hb dX5_makeRoom_3 rfl hl (Nat.le_of_ble_eq_true rfl) rfl (fun ls hl => ?_)
  have K4 : ∀ (n4_ : Nat) (i : Nat) (x : Nat) (H : Heap) (locs : List Loc) (ls : Array Slot), pn - i < n4_ → (i ≤ pn - 1) → (x = (pn + 1) ^ i) → Wd D A s.heap H locs (wC k q z g S X) → lv_has ls 4 [(0, .ref (q 19)), (1, .int (nI pn)), (2, .int (nI x)), (3, .int (nI (i + 1)))] → W p l e R s m args below meth c H locs 0 0 Q (F0 m 4 ls []) := by
    intro n4_
    induction n4_ with
    | zero =>
      intro i x H locs ls hn4_
      exact absurd hn4_ (Nat.not_lt_zero _)
    | succ n4_ ih4_ =>
      intro i x H locs ls hn4_ hi h1 hw hl
      refine lv_iload_n hx hb dX5_makeRoom_4 rfl (lv_at hl 3 rfl) ?_
      refine lv_iload_n hx hb dX5_makeRoom_5 rfl (lv_at hl 1 rfl) ?_
      refine x_icmp_ge (i + 1) pn F (by omega) (by omega) (tgt := 21) dX5_makeRoom_6 rfl (fun c6 => ?_) (fun c6 => ?_)
      · have hx2 : x = mst pn := by rw [h1, show i = pn - 1 by omega]; rfl
        have hm := mst_le pn h6
        refine lv_aload_n hx hb dX5_makeRoom_21 rfl (lv_at hl 0 rfl) ?_
        refine x_getr frC_19_2 F hw fo_X5_9 dX5_makeRoom_22 ?_
        refine x_alen (aiC_20 (by omega)) F hw dX5_makeRoom_25 ?_
        refine lv_iload_n hx hb dX5_makeRoom_26 rfl (lv_at hl 2 rfl) ?_
        refine x_icmp_ge (z 0) x F (by omega) (by omega) (tgt := 44) dX5_makeRoom_27 rfl (fun c27 => ?_) (fun c27 => ?_)
        · refine W.widen (k := 2) (n := 33614) (by omega) (by omega) ?_
          exact hret _ _ _ _ _ dX5_makeRoom_44 hw (by first | exact ⟨_, _, _, rfl, (by show mst pn ≤ x; omega), rfl, (by show x ≤ 16807; omega)⟩ | exact ⟨z, S 20, S 21, rfl, (by omega), hz, hz9⟩)
        · refine lv_aload_n hx hb dX5_makeRoom_30 rfl (lv_at hl 0 rfl) ?_
          refine lv_iload_n hx hb dX5_makeRoom_31 rfl (lv_at hl 2 rfl) ?_
          refine x_newi x F w_acI hw rfl (by omega) (x_cs F (by omega) (by omega)) dX5_makeRoom_32 (fun a1 H hw => ?_)
          refine x_put 20 rfl (Nat.le_of_ble_eq_true rfl) F hw fo_X5_9 rfl rfl dX5_makeRoom_34 (fun H locs hw => ?_)
          have hw : Wd D A s.heap H locs (wC k q (va_up (va_up z 0 x) 2 a1) g (va_up S 20 (fun _ => 0)) X) := hw.repl 20
          refine lv_aload_n hx hb dX5_makeRoom_37 rfl (lv_at hl 0 rfl) ?_
          refine lv_iload_n hx hb dX5_makeRoom_38 rfl (lv_at hl 2 rfl) ?_
          refine x_newi x F w_acI hw rfl (by omega) (x_cs F (by omega) (by omega)) dX5_makeRoom_39 (fun a2 H hw => ?_)
          refine x_put 20 rfl (Nat.le_of_ble_eq_true rfl) F hw fo_X5_15 rfl rfl dX5_makeRoom_41 (fun H locs hw => ?_)
          have hw : Wd D A s.heap H locs (wC k q (va_up (va_up (va_up (va_up z 0 x) 2 a1) 1 x) 3 a2) g (va_up (va_up S 20 (fun _ => 0)) 21 (fun _ => 0)) X) := hw.repl 21
          refine W.widen (k := 2) (n := 33614) (by omega) (by omega) ?_
          exact hret _ _ _ _ _ dX5_makeRoom_44 hw (by first | exact ⟨_, _, _, rfl, (by show mst pn ≤ x; omega), rfl, (by show x ≤ 16807; omega)⟩ | exact ⟨z, S 20, S 21, rfl, (by omega), hz, hz9⟩)
      · refine lv_iload_n hx hb dX5_makeRoom_9 rfl (lv_at hl 2 rfl) ?_
        refine lv_iload_n hx hb dX5_makeRoom_10 rfl (lv_at hl 1 rfl) ?_
        refine lv_iconst (v := nI 1) hx hb dX5_makeRoom_11 rfl ?_
        refine lv_iadd hx hb dX5_makeRoom_12 ?_
        refine x_top (y := nI (pn + 1)) (nI_add _ _) ?_
        refine lv_imul hx hb dX5_makeRoom_13 ?_
        refine x_top (y := nI (x * (pn + 1))) (pk_mul _ _) ?_
        refine lv_istore_n (lv' := [(2, .int (nI (x * (pn + 1)))), (0, .ref (q 19)), (1, .int (nI pn)), (3, .int (nI (i + 1)))]) hx hb dX5_makeRoom_14 rfl hl (Nat.le_of_ble_eq_true rfl) rfl (fun ls hl => ?_)
        refine lv_iinc (v := nI (i + 1 + 1)) (lv' := [(3, .int (nI (i + 1 + 1))), (2, .int (nI (x * (pn + 1)))), (0, .ref (q 19)), (1, .int (nI pn))]) hx hb dX5_makeRoom_15 hl (k := 3) rfl (nI_1 _) (Nat.le_of_ble_eq_true rfl) rfl (fun ls hl => ?_)
        refine lv_goto (tgt := 4) hx hb dX5_makeRoom_18 rfl ?_
        exact ih4_ (i + 1) (x * (pn + 1)) _ _ _ (by first | omega | (simp only [] at *; omega)) (by first | assumption | omega | rfl) (by rw [h1, Nat.pow_succ]) hw (lv_sub hl [2, 3, 1, 0] rfl)
  exact K4 _ 0 1 _ _ _ (Nat.lt_succ_self _) (by first | assumption | omega | rfl) (by rfl) hw (lv_sub hl [2, 3, 1, 0] rfl)
def mtA (S : St) (i p : Nat) : Bool := (i != p) && decide (S 4 i ≤ S 5 p)
def trA (S : St) (i p : Nat) : Int32 := costF (slC S) (S 3 i) (S 3 p) 8
def tA (S : St) : List (Int32 × Int32) := gL (picN S) (mtA S) (trA S) (S 12 0) (picN S) 0 (nI 0) (nI 0) (fun _ => 0)
def mnF (f : Nat → Int32) : Nat → Int32
  | 0 => f 0
  | t + 1 => if f (t + 1) < mnF f t then f (t + 1) else mnF f t
def okK (S : St) : Prop := S 43 0 = nI (tA S).length ∧ (∀ j, j < (tA S).length → S 20 j = ((tA S).map Prod.fst).getD j 0 ∧ S 21 j = ((tA S).map Prod.snd).getD j 0) ∧ S 46 0 = S 40 0 ∧ S 44 0 = mnF (S 21) ((tA S).length - 1)
def LR (S S' : St) (z' : Nat → Nat) : Prop := (∀ r, (r < 20 ∨ (30 < r ∧ r < 43) ∨ 47 < r) → S' r = S r) ∧ S' 45 0 = nI 1 ∧ okK S' ∧ z' 1 = z' 0 ∧ z' 0 ≤ 16807 ∧ (tA S').length ≤ z' 0
def lrB (S : St) (f20 f21 : Nat → Int32) : St := va_up (va_up (va_up (va_up (va_up (va_up S 45 (fun _ => nI 1)) 43 (fun _ => nI 0)) 46 (fun _ => nI (picN S))) 47 (fun _ => S 12 0)) 20 f20) 21 f21
theorem costF_congr {sl sl' : Nat → Nat → Int32} (h : ∀ a b, a < 4 → sl a b = sl' a b) (d1 d2 : Int32) : ∀ n, costF sl d1 d2 n = costF sl' d1 d2 n
  | 0 => rfl
  | n + 1 => by
    show costF sl d1 d2 n + _ = costF sl' d1 d2 n + _
    rw [costF_congr h d1 d2 n, h _ _ (stk_lt _ _)]
theorem lr_cost {S : St} {f20 f21 gz : Nat → Int32} {T : Nat → Nat → Int32} {d1 d2 : Int32} : costF (slC (grd (va_up (lrB S f20 f21) 30 gz) 24 6 T)) d1 d2 8 = costF (slC S) d1 d2 8 := by
  refine costF_congr (fun a b ha => ?_) d1 d2 8
  unfold slC grd lrB
  rw [if_neg (by omega)]
  simp only [va_up]
  rw [if_neg (by omega), if_neg (by omega), if_neg (by omega), if_neg (by omega), if_neg (by omega), if_neg (by omega), if_neg (by omega)]
theorem b01_nar (t : Bool) : vp_nar .boolean (b01 t) = b01 t := by cases t <;> rfl
theorem lr_step {n i j : Nat} {T : Nat → Nat → Int32} {gz : Nat → Int32} {tr : Nat → Nat → Int32} {mt : Nat → Nat → Bool} {v : Int32} {t : Bool} (hn : n ≤ 6) (hj : j < n) (h : ∀ a b, a < n → b < n → (a < i ∨ a = i ∧ b < j) → T a b = tr a b ∧ gz (a * 6 + b) = b01 (mt a b)) (hv : v = tr i j) (ht : t = mt i j) : ∀ a b, a < n → b < n → (a < i ∨ a = i ∧ b < j + 1) → va_up T i (upd (T i) j v) a b = tr a b ∧ upd gz (i * 6 + j) (b01 t) (a * 6 + b) = b01 (mt a b) := by
  intro a b ha hb hab
  by_cases e : a = i ∧ b = j
  · obtain ⟨rfl, rfl⟩ := e
    simp only [va_up, if_true, pk_us]
    exact ⟨hv, by rw [ht]⟩
  · have h2 := h a b ha hb (by omega)
    refine ⟨?_, ?_⟩
    · by_cases e1 : a = i
      · subst e1
        simp only [va_up, if_true, pk_un (show b ≠ j by omega)]
        exact h2.1
      · simp only [va_up, if_neg e1]
        exact h2.1
    · rw [pk_un (by omega)]
      exact h2.2
theorem gL_congr {n : Nat} {mt mt' : Nat → Nat → Bool} {tr tr' : Nat → Nat → Int32} {nw : Int32} (h : ∀ i p, i < n → p < n → mt i p = mt' i p ∧ tr i p = tr' i p) : ∀ (m p : Nat) (row co : Int32) (src : Nat → Nat), p + m = n → gL n mt tr nw m p row co src = gL n mt' tr' nw m p row co src
  | 0, _, _, _, _, _ => rfl
  | m + 1, p, row, co, src, hp => by
    unfold gL
    rw [gL_congr h m (p + 1) _ _ _ (by omega)]
    congr 1
    have hc : ∀ N, N ≤ n → ∀ f f' : Nat → List (Int32 × Int32), (∀ i, i < n → f i = f' i) → catF f N = catF f' N := by
      intro N
      induction N with
      | zero => intros; rfl
      | succ N ih => intro hN f f' hf; show catF f N ++ f N = catF f' N ++ f' N; rw [ih (by omega) f f' hf, hf N (by omega)]
    refine hc n (Nat.le_refl _) _ _ (fun i hi => ?_)
    have h1 := h i p hi (by omega)
    rw [h1.1, h1.2, gL_congr h m (p + 1) _ _ _ (by omega)]
theorem gL_pos {n : Nat} {mt : Nat → Nat → Bool} {tr : Nat → Nat → Int32} {nw : Int32} : ∀ (m p : Nat) (row co : Int32) (src : Nat → Nat), 1 ≤ (gL n mt tr nw m p row co src).length
  | 0, _, _, _, _ => Nat.le_refl _
  | m + 1, p, row, co, src => by
    unfold gL
    rw [List.length_append]
    have := gL_pos (n := n) (mt := mt) (tr := tr) (nw := nw) m (p + 1) (row ||| (nI 9 <<< (nI (4 * p) &&& 31))) (co + nw) (va_up src p 9)
    omega
theorem tA_congr {S S' : St} (h : ∀ r, r < 20 → S' r = S r) (h40 : S' 40 = S 40) : tA S' = tA S := by
  have hp : picN S' = picN S := by unfold picN; rw [h40]
  unfold tA
  rw [hp, h 12 (by omega)]
  refine gL_congr (fun i p _ _ => ⟨?_, ?_⟩) _ _ _ _ _ (by omega)
  · unfold mtA; rw [h 4 (by omega), h 5 (by omega)]
  · unfold trA
    rw [h 3 (by omega)]
    exact costF_congr (fun a b ha => by unfold slC; rw [h (8 + a) (by omega)]) _ _ 8
theorem lr_gS {S : St} {f20 f21 gz : Nat → Int32} {T : Nat → Nat → Int32} (hP : okP S) (h : ∀ a b, a < picN S → b < picN S → T a b = trA S a b ∧ gz (a * 6 + b) = b01 (mtA S a b)) : gS (grd (va_up (lrB S f20 f21) 30 gz) 24 6 T) (picN S) 0 (nI 0) (nI 0) (fun _ => 0) = tA S := by
  have h6 := hP.2
  have e0 : tpiN (grd (va_up (lrB S f20 f21) 30 gz) 24 6 T) = picN S := by
    show (nI (picN S)).toNatClampNeg = picN S
    exact nI_clamp (by omega)
  unfold gS tA
  rw [e0]
  refine gL_congr (nw := S 12 0) (fun i p hi hp => ⟨?_, ?_⟩) _ _ _ _ _ (by omega)
  · show (gz (i * 6 + p) != 0) = _
    rw [(h i p hi hp).2]
    cases mtA S i p <;> rfl
  · rw [grd_at (by omega)]
    exact (h i p hi hp).1
theorem lr_fin {S U : St} {f20 f21 gz sr : Nat → Int32} {T : Nat → Nat → Int32} (hP : okP S) (hU : U = trS (grd (va_up (lrB S f20 f21) 30 gz) 24 6 T) (0 + (tA S).length) (apL ((grd (va_up (lrB S f20 f21) 30 gz) 24 6 T) 20) 0 ((tA S).map Prod.fst)) (apL ((grd (va_up (lrB S f20 f21) 30 gz) 24 6 T) 21) 0 ((tA S).map Prod.snd)) sr) {x : Int32} (hx : x = mnF (U 21) ((tA S).length - 1)) {z : Nat → Nat} (hz : z 1 = z 0) (hz9 : z 0 ≤ 16807) (hc : (tA S).length ≤ z 0) : LR S (va_up U 44 (fun _ => x)) z := by
  have hr : ∀ r, (r < 20 ∨ (30 < r ∧ r < 43) ∨ 47 < r) → va_up U 44 (fun _ => x) r = S r := by
    intro r h
    rw [hU]
    unfold grd lrB
    simp only [va_up]
    rw [if_neg (by omega), if_neg (by omega), if_neg (by omega), if_neg (by omega), if_neg (by omega), if_neg (by omega), if_neg (by omega), if_neg (by omega), if_neg (by omega), if_neg (by omega), if_neg (by omega), if_neg (by omega), if_neg (by omega)]
  have ht : tA (va_up U 44 (fun _ => x)) = tA S := tA_congr (fun r h => hr r (Or.inl h)) (hr 40 (by omega))
  have hl := gL_pos (n := picN S) (mt := mtA S) (tr := trA S) (nw := S 12 0) (picN S) 0 (nI 0) (nI 0) (fun _ => 0)
  refine ⟨hr, by rw [hU]; rfl, ⟨?_, fun j hj => ?_, ?_, ?_⟩, hz, hz9, by rw [ht]; exact hc⟩
  · rw [ht, hU]; show nI (0 + (tA S).length) = _; rw [Nat.zero_add]
  · rw [ht] at hj ⊢
    have e20 : va_up U 44 (fun _ => x) 20 = apL ((grd (va_up (lrB S f20 f21) 30 gz) 24 6 T) 20) 0 ((tA S).map Prod.fst) := by rw [hU]; rfl
    have e21 : va_up U 44 (fun _ => x) 21 = apL ((grd (va_up (lrB S f20 f21) 30 gz) 24 6 T) 21) 0 ((tA S).map Prod.snd) := by rw [hU]; rfl
    rw [e20, e21]
    unfold apL
    rw [if_pos ⟨Nat.zero_le _, by rw [List.length_map]; omega⟩, if_pos ⟨Nat.zero_le _, by rw [List.length_map]; omega⟩]
    exact ⟨rfl, rfl⟩
  · rw [hr 40 (by omega), hU]; show nI (picN S) = _; rw [hP.1]
  · rw [ht]; exact hx
set_option maxHeartbeats 4000000 in
set_option maxRecDepth 20000 in
theorem c_X5_learn (l : Launch) (D : va_G) (k : Nat → ClassId) (q z : Nat → Nat) (g : Nat → Option Nat) (S : St) (X : va_W) (hP : okP S) (hk0 : S 45 0 = nI 0 ∨ (S 45 0 = nI 1 ∧ okK S ∧ (tA S).length ≤ z 0)) (hz : z 1 = z 0) (hz9 : z 0 ≤ 16807) (hcap : (tA S).length ≤ mst (picN S)) : CV l D k yX5_learn cX5_learn 3 9 2 33614 [.ref (q 19)] (wC k q z g S X) (fun w' => ∃ (z' : Nat → Nat) (S' : St), w' = wC k q z' g S' X ∧ LR S S' z') := by
  refine CV.mk (by decide) (Nat.le_of_ble_eq_true rfl) ?_
  intro p e R s m args below meth c A Q ls F hnm hret hw hl
  have hx := xs_hx F
  have hb := xs_hb F
  have hl : lv_has ls 3 [(0, .ref (q 19))] := hl
  have h6 := hP.2
  refine lv_aload_n hx hb dX5_learn_0 rfl (lv_at hl 0 rfl) ?_
  refine x_geti fiC_45 F hw fo_X5_34 dX5_learn_1 ?_
  refine lv_if_eq (tgt := 8) hx hb dX5_learn_4 rfl (fun c4 => ?_) (fun c4 => ?_)
  · refine lv_aload_n hx hb dX5_learn_8 rfl (lv_at hl 0 rfl) ?_
    refine lv_iconst (v := nI 1) hx hb dX5_learn_9 rfl ?_
    refine x_puti fiC_45 F hw fo_X5_34 rfl rfl dX5_learn_10 (fun H locs hw => ?_)
    refine lv_aload_n hx hb dX5_learn_13 rfl (lv_at hl 0 rfl) ?_
    refine lv_iconst (v := nI 0) hx hb dX5_learn_14 rfl ?_
    refine x_puti fiC_43 F hw fo_X5_38 rfl rfl dX5_learn_15 (fun H locs hw => ?_)
    refine lv_aload_n hx hb dX5_learn_18 rfl (lv_at hl 0 rfl) ?_
    refine lv_aload_n hx hb dX5_learn_19 rfl (lv_at hl 0 rfl) ?_
    refine x_getr frC_19_4 F hw fo_X5_30 dX5_learn_20 ?_
    refine x_geti fiC_40 F hw fo_X5_42 dX5_learn_23 ?_
    refine x_top (y := S 40 0) rfl ?_
    refine x_top (y := nI (picN S)) hP.1 ?_
    refine x_puti fiC_46 F hw fo_X5_47 rfl rfl dX5_learn_26 (fun H locs hw => ?_)
    refine lv_aload_n hx hb dX5_learn_29 rfl (lv_at hl 0 rfl) ?_
    refine lv_aload_n hx hb dX5_learn_30 rfl (lv_at hl 0 rfl) ?_
    refine x_getr frC_19_4 F hw fo_X5_30 dX5_learn_31 ?_
    refine x_getr frC_2_7 F hw fo_X5_48 dX5_learn_34 ?_
    refine lv_iconst (v := nI 0) hx hb dX5_learn_37 rfl ?_
    refine x_iald aiC_12 F hw 0 rfl (by omega) dX5_learn_38 ?_
    refine x_top (y := S 12 0) rfl ?_
    refine x_puti fiC_47 F hw fo_X5_51 rfl rfl dX5_learn_39 (fun H locs hw => ?_)
    refine lv_aload_n hx hb dX5_learn_42 rfl (lv_at hl 0 rfl) ?_
    refine lv_aload_n hx hb dX5_learn_43 rfl (lv_at hl 0 rfl) ?_
    refine x_geti fiC_46 F hw fo_X5_47 dX5_learn_44 ?_
    refine x_top (y := nI (picN S)) rfl ?_
    refine x_callVV (rest := []) (c_X5_makeRoom l D k q z g (va_up (va_up (va_up (va_up S 45 (fun _ => nI 1)) 43 (fun _ => nI 0)) 46 (fun _ => nI (picN S))) 47 (fun _ => S 12 0)) X (picN S) h6 hz hz9) mo_X5_54 obC_19 F hw (Nat.le_of_ble_eq_true rfl) (x_cs F (by omega) (by omega)) rfl rfl hl.1 (Nat.le_of_ble_eq_true rfl) dX5_learn_47 (fun w_ H locs hp hw => ?_)
    obtain ⟨z, f20, f21, hp1, hm, hz, hz9⟩ := hp
    rw [hp1] at hw
    have hw : Wd D A s.heap H locs (wC k q z g (grd (va_up (lrB S f20 f21) 30 (S 30)) 24 6 (fun a => S (24 + a))) X) := hw
    refine lv_iconst (v := nI 0) hx hb dX5_learn_50 rfl ?_
    refine lv_istore_n (lv' := [(1, .int (nI 0)), (0, .ref (q 19))]) hx hb dX5_learn_51 rfl hl (Nat.le_of_ble_eq_true rfl) rfl (fun ls hl => ?_)
    have K52 : ∀ (n52_ : Nat) (i : Nat) (gz : Nat → Int32) (T : Nat → Nat → Int32) (H : Heap) (locs : List Loc) (ls : Array Slot), picN S - i < n52_ → (i ≤ picN S) → (∀ a b, a < picN S → b < picN S → a < i → T a b = trA S a b ∧ gz (a * 6 + b) = b01 (mtA S a b)) → Wd D A s.heap H locs (wC k q z g (grd (va_up (lrB S f20 f21) 30 gz) 24 6 T) X) → lv_has ls 3 [(0, .ref (q 19)), (1, .int (nI i))] → W p l e R s m args below meth c H locs (0 + 2) (0 + 33614) Q (F0 m 52 ls []) := by
      intro n52_
      induction n52_ with
      | zero =>
        intro i gz T H locs ls hn52_
        exact absurd hn52_ (Nat.not_lt_zero _)
      | succ n52_ ih52_ =>
        intro i gz T H locs ls hn52_ hi hT hw hl
        refine lv_iload_n hx hb dX5_learn_52 rfl (lv_at hl 1 rfl) ?_
        refine lv_aload_n hx hb dX5_learn_53 rfl (lv_at hl 0 rfl) ?_
        refine x_geti fiC_46 F hw fo_X5_47 dX5_learn_54 ?_
        refine x_top (y := (va_up (lrB S f20 f21) 30 gz) 46 0) rfl ?_
        refine x_top (y := nI (picN S)) rfl ?_
        refine x_icmp_ge i (picN S) F (by omega) (by omega) (tgt := 157) dX5_learn_57 rfl (fun c57 => ?_) (fun c57 => ?_)
        · refine lv_aload_n hx hb dX5_learn_157 rfl (lv_at hl 0 rfl) ?_
          refine lv_iconst (v := nI 0) hx hb dX5_learn_158 rfl ?_
          refine lv_iconst (v := nI 0) hx hb dX5_learn_159 rfl ?_
          refine lv_iconst (v := nI 0) hx hb dX5_learn_160 rfl ?_
          have hL : gS (grd (va_up (lrB S f20 f21) 30 gz) 24 6 T) (picN S) 0 (nI 0) (nI 0) (fun _ => 0) = tA S := lr_gS hP (fun a b ha hb => hT a b ha hb (by omega))
          have e0 : tpiN (grd (va_up (lrB S f20 f21) 30 gz) 24 6 T) = picN S := by show (nI (picN S)).toNatClampNeg = picN S; exact nI_clamp (by omega)
          refine x_callSV (rest := []) (c_X5_grow l D k q z g (grd (va_up (lrB S f20 f21) 30 gz) 24 6 T) X ⟨by rw [e0]; rfl, by rw [e0]; exact h6⟩ (by omega) (by omega) (picN S) 0 (nI 0) (nI 0) (fun _ => 0) 0 ((grd (va_up (lrB S f20 f21) 30 gz) 24 6 T) 20) ((grd (va_up (lrB S f20 f21) 30 gz) 24 6 T) 21) ((grd (va_up (lrB S f20 f21) 30 gz) 24 6 T) 22) (by rw [e0]; omega) (fun j hj => absurd hj (Nat.not_lt_zero _)) (by rw [hL]; omega) (by rw [hL]; omega)) mo_X5_71 F hw (by omega) (x_cs F (by omega) (by omega)) rfl rfl hl.1 (Nat.le_of_ble_eq_true rfl) dX5_learn_161 (fun w_ H locs hp hw => ?_)
          obtain ⟨sr, hp1, -⟩ := hp
          rw [hL] at hp1
          obtain ⟨U, hU⟩ : ∃ U, U = trS (grd (va_up (lrB S f20 f21) 30 gz) 24 6 T) (0 + (tA S).length) (apL ((grd (va_up (lrB S f20 f21) 30 gz) 24 6 T) 20) 0 ((tA S).map Prod.fst)) (apL ((grd (va_up (lrB S f20 f21) 30 gz) 24 6 T) 21) 0 ((tA S).map Prod.snd)) sr := ⟨_, rfl⟩
          rw [hp1, ← hU] at hw
          have e43 : U 43 0 = nI (tA S).length := by rw [hU]; show nI (0 + (tA S).length) = _; rw [Nat.zero_add]
          refine lv_aload_n hx hb dX5_learn_164 rfl (lv_at hl 0 rfl) ?_
          refine lv_aload_n hx hb dX5_learn_165 rfl (lv_at hl 0 rfl) ?_
          have hlen := gL_pos (n := picN S) (mt := mtA S) (tr := trA S) (nw := S 12 0) (picN S) 0 (nI 0) (nI 0) (fun _ => 0)
          have hlen : 1 ≤ (tA S).length := hlen
          refine x_getr frC_19_3 F hw fo_X5_15 dX5_learn_166 ?_
          refine lv_iconst (v := nI 0) hx hb dX5_learn_169 rfl ?_
          refine x_iald (aiC_21 (by omega)) F hw 0 rfl (by omega) dX5_learn_170 ?_
          refine x_puti fiC_44 F hw fo_X5_75 rfl rfl dX5_learn_171 (fun H locs hw => ?_)
          refine lv_iconst (v := nI 1) hx hb dX5_learn_174 rfl ?_
          refine lv_istore_n (lv' := [(1, .int (nI 1)), (0, .ref (q 19))]) hx hb dX5_learn_175 rfl hl (Nat.le_of_ble_eq_true rfl) rfl (fun ls hl => ?_)
          have K176 : ∀ (n176_ : Nat) (i : Nat) (x : Int32) (H : Heap) (locs : List Loc) (ls : Array Slot), (tA S).length - i < n176_ → (i ≤ (tA S).length - 1) → (x = mnF (U 21) i) → Wd D A s.heap H locs (wC k q z g (va_up U 44 (fun _ => x)) X) → lv_has ls 3 [(0, .ref (q 19)), (1, .int (nI (i + 1)))] → W p l e R s m args below meth c H locs (0 + 2 + 0) (0 + 33614 + 0) Q (F0 m 176 ls []) := by
            intro n176_
            induction n176_ with
            | zero =>
              intro i x H locs ls hn176_
              exact absurd hn176_ (Nat.not_lt_zero _)
            | succ n176_ ih176_ =>
              intro i x H locs ls hn176_ hi2 h44 hw hl
              refine lv_iload_n hx hb dX5_learn_176 rfl (lv_at hl 1 rfl) ?_
              refine lv_aload_n hx hb dX5_learn_177 rfl (lv_at hl 0 rfl) ?_
              refine x_geti fiC_43 F hw fo_X5_38 dX5_learn_178 ?_
              refine x_top (y := U 43 0) rfl ?_
              refine x_top (y := nI ((tA S).length)) e43 ?_
              refine x_icmp_ge (i + 1) ((tA S).length) F (by omega) (by omega) (tgt := 207) dX5_learn_181 rfl (fun c181 => ?_) (fun c181 => ?_)
              · refine W.widen (k := 2) (n := 33614) (by omega) (by omega) ?_
                exact hret _ _ _ _ _ dX5_learn_207 hw ⟨z, _, rfl, lr_fin hP hU (by rw [h44, show i = (tA S).length - 1 by omega]) hz hz9 (by omega)⟩
              · refine lv_aload_n hx hb dX5_learn_184 rfl (lv_at hl 0 rfl) ?_
                refine lv_aload_n hx hb dX5_learn_185 rfl (lv_at hl 0 rfl) ?_
                refine x_geti fiC_44 F hw fo_X5_75 dX5_learn_186 ?_
                refine x_top (y := x) rfl ?_
                refine lv_aload_n hx hb dX5_learn_189 rfl (lv_at hl 0 rfl) ?_
                refine x_getr frC_19_3 F hw fo_X5_15 dX5_learn_190 ?_
                refine lv_iload_n hx hb dX5_learn_193 rfl (lv_at hl 1 rfl) ?_
                refine x_iald (aiC_21 (by omega)) F hw (i + 1) rfl (by omega) dX5_learn_194 ?_
                refine x_top (y := U 21 (i + 1)) rfl ?_
                refine x_mmin F (Nat.le_of_ble_eq_true rfl) hl.1 mk_X5_78 ⟨by omega, by omega⟩ (Nat.le_of_ble_eq_true rfl) dX5_learn_195 ?_
                refine x_puti fiC_44 F hw fo_X5_75 rfl rfl dX5_learn_198 (fun H locs hw => ?_)
                refine lv_iinc (v := nI (i + 1 + 1)) (lv' := [(1, .int (nI (i + 1 + 1))), (0, .ref (q 19))]) hx hb dX5_learn_201 hl (k := 1) rfl (nI_1 _) (Nat.le_of_ble_eq_true rfl) rfl (fun ls hl => ?_)
                refine lv_goto (tgt := 176) hx hb dX5_learn_204 rfl ?_
                exact ih176_ (i + 1) (if (U 21 (i + 1)) < x then (U 21 (i + 1)) else x) _ _ _ (by first | omega | (simp only [] at *; omega)) (by first | assumption | omega | rfl) (by rw [h44]; rfl) hw (lv_sub hl [1, 0] rfl)
          exact K176 _ 0 (U 21 0) _ _ _ (Nat.lt_succ_self _) (by first | assumption | omega | rfl) (by rfl) hw (lv_sub hl [1, 0] rfl)
        · refine lv_iconst (v := nI 0) hx hb dX5_learn_60 rfl ?_
          refine lv_istore_n (lv' := [(2, .int (nI 0)), (0, .ref (q 19)), (1, .int (nI i))]) hx hb dX5_learn_61 rfl hl (Nat.le_of_ble_eq_true rfl) rfl (fun ls hl => ?_)
          have K62 : ∀ (n62_ : Nat) (j : Nat) (gz : Nat → Int32) (T : Nat → Nat → Int32) (H : Heap) (locs : List Loc) (ls : Array Slot), picN S - j < n62_ → (j ≤ picN S) → (∀ a b, a < picN S → b < picN S → (a < i ∨ a = i ∧ b < j) → T a b = trA S a b ∧ gz (a * 6 + b) = b01 (mtA S a b)) → Wd D A s.heap H locs (wC k q z g (grd (va_up (lrB S f20 f21) 30 gz) 24 6 T) X) → lv_has ls 3 [(0, .ref (q 19)), (1, .int (nI i)), (2, .int (nI j))] → W p l e R s m args below meth c H locs (0 + 2) (0 + 33614) Q (F0 m 62 ls []) := by
            intro n62_
            induction n62_ with
            | zero =>
              intro j gz T H locs ls hn62_
              exact absurd hn62_ (Nat.not_lt_zero _)
            | succ n62_ ih62_ =>
              intro j gz T H locs ls hn62_ hj hT2 hw hl
              refine lv_iload_n hx hb dX5_learn_62 rfl (lv_at hl 2 rfl) ?_
              refine lv_aload_n hx hb dX5_learn_63 rfl (lv_at hl 0 rfl) ?_
              refine x_geti fiC_46 F hw fo_X5_47 dX5_learn_64 ?_
              refine x_top (y := (va_up (lrB S f20 f21) 30 gz) 46 0) rfl ?_
              refine x_top (y := nI (picN S)) rfl ?_
              refine x_icmp_ge j (picN S) F (by omega) (by omega) (tgt := 151) dX5_learn_67 rfl (fun c67 => ?_) (fun c67 => ?_)
              · refine lv_iinc (v := nI (i + 1)) (lv' := [(1, .int (nI (i + 1))), (0, .ref (q 19)), (2, .int (nI j))]) hx hb dX5_learn_151 hl (k := 1) rfl (nI_1 _) (Nat.le_of_ble_eq_true rfl) rfl (fun ls hl => ?_)
                refine lv_goto (tgt := 52) hx hb dX5_learn_154 rfl ?_
                exact ih52_ (i + 1) gz T _ _ _ (by first | omega | (simp only [] at *; omega)) (by first | assumption | omega | rfl) (by exact fun a b ha hb h => hT2 a b ha hb (by omega)) hw (lv_sub hl [1, 0] rfl)
              · refine lv_aload_n hx hb dX5_learn_70 rfl (lv_at hl 0 rfl) ?_
                refine x_getr frC_19_9 F hw fo_X5_23 dX5_learn_71 ?_
                refine lv_iload_n hx hb dX5_learn_74 rfl (lv_at hl 1 rfl) ?_
                refine x_grow giC_23 F hw i rfl (by omega) dX5_learn_75 ?_
                refine lv_iload_n hx hb dX5_learn_76 rfl (lv_at hl 2 rfl) ?_
                refine lv_aload_n hx hb dX5_learn_77 rfl (lv_at hl 0 rfl) ?_
                refine x_getr frC_19_4 F hw fo_X5_30 dX5_learn_78 ?_
                refine lv_aload_n hx hb dX5_learn_81 rfl (lv_at hl 0 rfl) ?_
                refine x_getr frC_19_4 F hw fo_X5_30 dX5_learn_82 ?_
                refine x_getr frC_2_2 F hw fo_X5_58 dX5_learn_85 ?_
                refine lv_iload_n hx hb dX5_learn_88 rfl (lv_at hl 1 rfl) ?_
                refine x_iald aiC_3 F hw i rfl (by omega) dX5_learn_89 ?_
                refine x_top (y := (va_up (lrB S f20 f21) 30 gz) 3 i) rfl ?_
                refine x_top (y := S 3 i) rfl ?_
                refine lv_aload_n hx hb dX5_learn_90 rfl (lv_at hl 0 rfl) ?_
                refine x_getr frC_19_4 F hw fo_X5_30 dX5_learn_91 ?_
                refine x_getr frC_2_2 F hw fo_X5_58 dX5_learn_94 ?_
                refine lv_iload_n hx hb dX5_learn_97 rfl (lv_at hl 2 rfl) ?_
                refine x_iald aiC_3 F hw j rfl (by omega) dX5_learn_98 ?_
                refine x_top (y := (va_up (lrB S f20 f21) 30 gz) 3 j) rfl ?_
                refine x_top (y := S 3 j) rfl ?_
                refine x_fVI (rest := [.int (nI j), .ref (q (24 + i))]) (c_X1_tracingCost l D k q z g (grd (va_up (lrB S f20 f21) 30 gz) 24 6 T) X (S 3 i) (S 3 j)) mo_X5_61 obC_2 F hw (Nat.le_of_ble_eq_true rfl) (x_cs F (Nat.le_of_ble_eq_true rfl) (Nat.le_of_ble_eq_true rfl)) rfl rfl hl.1 (Nat.le_of_ble_eq_true rfl) dX5_learn_99 (fun H locs hw => ?_)
                refine x_top (y := trA S i j) lr_cost ?_
                refine x_iast (aiC_trc (j := i) (by omega)) F hw j rfl (by omega) dX5_learn_102 (fun H locs hw => ?_)
                rw [grd_upd (by omega)] at hw
                refine lv_aload_n hx hb dX5_learn_103 rfl (lv_at hl 0 rfl) ?_
                refine x_getr frC_19_10 F hw fo_X5_26 dX5_learn_104 ?_
                refine lv_iload_n hx hb dX5_learn_107 rfl (lv_at hl 1 rfl) ?_
                refine lv_bipush (v := nI 6) hx hb dX5_learn_108 rfl ?_
                refine lv_imul hx hb dX5_learn_110 ?_
                refine x_top (y := nI (i * 6)) (pk_mul _ _) ?_
                refine lv_iload_n hx hb dX5_learn_111 rfl (lv_at hl 2 rfl) ?_
                refine lv_iadd hx hb dX5_learn_112 ?_
                refine x_top (y := nI ((i * 6) + j)) (nI_add _ _) ?_
                refine lv_iload_n hx hb dX5_learn_113 rfl (lv_at hl 1 rfl) ?_
                refine lv_iload_n hx hb dX5_learn_114 rfl (lv_at hl 2 rfl) ?_
                have K144 : ∀ (t : Bool) (H : Heap) (locs : List Loc) (ls : Array Slot), (t = mtA S i j) → Wd D A s.heap H locs (wC k q z g (grd (va_up (lrB S f20 f21) 30 gz) 24 6 (va_up T i (upd (T i) j (trA S i j)))) X) → lv_has ls 3 [(0, .ref (q 19)), (1, .int (nI i)), (2, .int (nI j))] → W p l e R s m args below meth c H locs (0 + 2) (0 + 33614) Q (F0 m 144 ls [.int (b01 t), .int (nI ((i * 6) + j)), .ref (q 30)]) := by
                  intro t H locs ls h144 hw hl
                  refine x_zast aiC_30 F hw ((i * 6) + j) rfl (by omega) (b01_nar _) dX5_learn_144 (fun H locs hw => ?_)
                  refine lv_iinc (v := nI (j + 1)) (lv' := [(2, .int (nI (j + 1))), (0, .ref (q 19)), (1, .int (nI i))]) hx hb dX5_learn_145 hl (k := 2) rfl (nI_1 _) (Nat.le_of_ble_eq_true rfl) rfl (fun ls hl => ?_)
                  refine lv_goto (tgt := 62) hx hb dX5_learn_148 rfl ?_
                  exact ih62_ (j + 1) (upd gz (i * 6 + j) (b01 t)) (va_up T i (upd (T i) j (trA S i j))) _ _ _ (by first | omega | (simp only [] at *; omega)) (by first | assumption | omega | rfl) (by exact lr_step h6 (by omega) hT2 rfl h144) hw (lv_sub hl [1, 2, 0] rfl)
                refine x_icmp_eq i j F (by omega) (by omega) (tgt := 143) dX5_learn_115 rfl (fun c115 => ?_) (fun c115 => ?_)
                · refine lv_iconst (v := nI 0) hx hb dX5_learn_143 rfl ?_
                  exact K144 false _ _ _ (by unfold mtA; first | (rw [c115]; simp; done) | (rw [decide_eq_true (Int32.not_lt.mp c136)]; simp [c115]; done) | (rw [decide_eq_false (Int32.not_le.mpr c136)]; simp; done)) hw (lv_sub hl [0, 1, 2] rfl)
                · refine lv_aload_n hx hb dX5_learn_118 rfl (lv_at hl 0 rfl) ?_
                  refine x_getr frC_19_4 F hw fo_X5_30 dX5_learn_119 ?_
                  refine x_getr frC_2_3 F hw fo_X5_65 dX5_learn_122 ?_
                  refine lv_iload_n hx hb dX5_learn_125 rfl (lv_at hl 1 rfl) ?_
                  refine x_iald aiC_4 F hw i rfl (by omega) dX5_learn_126 ?_
                  refine x_top (y := (va_up (lrB S f20 f21) 30 gz) 4 i) rfl ?_
                  refine x_top (y := S 4 i) rfl ?_
                  refine lv_aload_n hx hb dX5_learn_127 rfl (lv_at hl 0 rfl) ?_
                  refine x_getr frC_19_4 F hw fo_X5_30 dX5_learn_128 ?_
                  refine x_getr frC_2_4 F hw fo_X5_68 dX5_learn_131 ?_
                  refine lv_iload_n hx hb dX5_learn_134 rfl (lv_at hl 2 rfl) ?_
                  refine x_iald aiC_5 F hw j rfl (by omega) dX5_learn_135 ?_
                  refine x_top (y := (va_up (lrB S f20 f21) 30 gz) 5 j) rfl ?_
                  refine x_top (y := S 5 j) rfl ?_
                  refine lv_icmp_gt (tgt := 143) hx hb dX5_learn_136 rfl (fun c136 => ?_) (fun c136 => ?_)
                  · refine lv_iconst (v := nI 0) hx hb dX5_learn_143 rfl ?_
                    exact K144 false _ _ _ (by unfold mtA; first | (rw [c115]; simp; done) | (rw [decide_eq_true (Int32.not_lt.mp c136)]; simp [c115]; done) | (rw [decide_eq_false (Int32.not_le.mpr c136)]; simp; done)) hw (lv_sub hl [0, 1, 2] rfl)
                  · refine lv_iconst (v := nI 1) hx hb dX5_learn_139 rfl ?_
                    refine lv_goto (tgt := 144) hx hb dX5_learn_140 rfl ?_
                    exact K144 true _ _ _ (by unfold mtA; first | (rw [c115]; simp; done) | (rw [decide_eq_true (Int32.not_lt.mp c136)]; simp [c115]; done) | (rw [decide_eq_false (Int32.not_le.mpr c136)]; simp; done)) hw (lv_sub hl [0, 1, 2] rfl)
          exact K62 _ 0 gz T _ _ _ (Nat.lt_succ_self _) (by first | assumption | omega | rfl) (by exact fun a b ha hb h => hT a b ha hb (by omega)) hw (lv_sub hl [1, 2, 0] rfl)
    exact K52 _ 0 (S 30) (fun a => S (24 + a)) _ _ _ (Nat.lt_succ_self _) (by first | assumption | omega | rfl) (by exact fun a b _ _ h => absurd h (Nat.not_lt_zero _)) hw (lv_sub hl [1, 0] rfl)
  · refine W.widen (k := 2) (n := 33614) (by omega) (by omega) ?_
    exact hret _ _ _ _ _ dX5_learn_7 hw ⟨z, S, rfl, fun r _ => rfl, (hk0.resolve_left (fun q => c4 q)).1, (hk0.resolve_left (fun q => c4 q)).2.1, hz, hz9, (hk0.resolve_left (fun q => c4 q)).2.2⟩
