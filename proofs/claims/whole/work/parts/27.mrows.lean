/-! ===== the reference: trees by number: pure words ===== -/
def dgt (n cd p : Nat) : Nat := cd / 7 ^ (n - (p + 1)) % 7
def smF (tv : Nat → Nat → Nat) (n cd : Nat) : Nat → Nat
  | 0 => 0
  | j + 1 => smF tv n cd j + tv (n - (j + 1)) (cd / 7 ^ j % 7)
def wkR (dg : Nat → Nat) : Nat → Nat → Nat
  | 0, a => a
  | j + 1, a => if a < 6 then wkR dg j (dg a) else a
theorem wkR_y {dg : Nat → Nat} {j a : Nat} (h : a < 6) : wkR dg (j + 1) a = wkR dg j (dg a) := if_pos h
theorem wkR_n {dg : Nat → Nat} {a : Nat} (h : ¬ a < 6) : ∀ j, wkR dg j a = a
  | 0 => rfl
  | j + 1 => if_neg h
def okW (n cd : Nat) : Bool := allB (fun p => decide (6 ≤ wkR (dgt n cd) n p)) n
def lrN (tv : Nat → Nat → Nat) (n cd : Nat) : Nat := if 100000000 ≤ smF tv n cd n then 100000000 else if okW n cd then smF tv n cd n else 100000000
def rowF (f : Nat → Int32) (n cd : Nat) : Nat → Int32 := fun p => if p < n then nI (dgt n cd p) else f p
/-- the table of tracings: small numbers, or far; what isn't far is a picture or none -/
def okTv (S : St) (tv : Nat → Nat → Nat) : Prop := ∀ p x, p < mpcN S → x < 7 → S 20 (7 * p + x) = nI (tv p x) ∧ tv p x ≤ 100000000 ∧ (tv p x < 100000000 → x < mpcN S ∨ x = 6)
theorem rw_dn : ∀ n : Nat, n ≤ 6 → ∀ j : Nat, j ≤ 6 → nI n - nI (j + 1) + Int32.ofInt (-1) = nI n - nI (j + 1 + 1) := by decide
theorem rw_lt : ∀ n : Nat, n ≤ 6 → ∀ j : Nat, j ≤ 6 → (nI n - nI (j + 1) < 0 ↔ n ≤ j) := by decide
theorem smF_le {tv : Nat → Nat → Nat} {n cd : Nat} (h : ∀ p x, p < n → x < 7 → tv p x ≤ 100000000) : ∀ j, j ≤ n → smF tv n cd j ≤ j * 100000000
  | 0, _ => Nat.le_refl _
  | j + 1, hj => by
    have h1 := smF_le (cd := cd) h j (by omega)
    have h2 := h (n - (j + 1)) (cd / 7 ^ j % 7) (by omega) (Nat.mod_lt _ (by decide))
    show smF tv n cd j + _ ≤ _
    omega
theorem smF_ge {tv : Nat → Nat → Nat} {n cd : Nat} : ∀ j i, i < j → tv (n - (i + 1)) (cd / 7 ^ i % 7) ≤ smF tv n cd j
  | 0, i, h => absurd h (Nat.not_lt_zero _)
  | j + 1, i, h => by
    show _ ≤ smF tv n cd j + tv (n - (j + 1)) (cd / 7 ^ j % 7)
    rcases Nat.lt_or_ge i j with h1 | h1
    · have := smF_ge (tv := tv) (n := n) (cd := cd) j i h1
      omega
    · rw [show i = j by omega]; omega
theorem dg_ok {S : St} {tv : Nat → Nat → Nat} {cd : Nat} (hT : okTv S tv) (hs : smF tv (mpcN S) cd (mpcN S) < 100000000) (p : Nat) (hp : p < mpcN S) : dgt (mpcN S) cd p < mpcN S ∨ dgt (mpcN S) cd p = 6 := by
  have h1 := smF_ge (tv := tv) (n := mpcN S) (cd := cd) (mpcN S) (mpcN S - (p + 1)) (by omega)
  rw [show mpcN S - (mpcN S - (p + 1) + 1) = p by omega] at h1
  exact (hT p (dgt (mpcN S) cd p) hp (Nat.mod_lt _ (by decide))).2.2 (by unfold dgt; omega)
theorem row_st {f : Nat → Int32} {n cd j : Nat} (hj : j < n) {T : Nat → Int32} (h : T = fun p => if n - j ≤ p ∧ p < n then nI (dgt n cd p) else f p) {lf : Nat} (hl : lf = cd / 7 ^ j) : upd T (n - (j + 1)) (nI (lf % 7)) = fun p => if n - (j + 1) ≤ p ∧ p < n then nI (dgt n cd p) else f p := by
  funext p
  by_cases e : p = n - (j + 1)
  · rw [e, pk_us, if_pos ⟨by omega, by omega⟩, hl]
    unfold dgt
    rw [show n - (n - (j + 1) + 1) = j by omega]
  · rw [pk_un e, h]
    show (if n - j ≤ p ∧ p < n then nI (dgt n cd p) else f p) = _
    by_cases q : n - j ≤ p ∧ p < n
    · rw [if_pos q, if_pos ⟨by omega, q.2⟩]
    · rw [if_neg q, if_neg (by omega)]
set_option maxHeartbeats 4000000 in
set_option maxRecDepth 20000 in
theorem c_X7_rows (l : Launch) (D : va_G) (k : Nat → ClassId) (q : Nat → Nat) (S : St) (X : va_W) (hP : okMP S) : CI l D k yX7_rows cX7_rows 3 (some .int) 0 0 0 [.ref (q 30)] (wM k q S X) (fun r w' => w' = wM k q S X ∧ r = nI (7 ^ mpcN S)) := by
  refine CI.mk (by decide) (Nat.le_of_ble_eq_true rfl) ?_
  intro p e R s m args below meth c A Q ls F hret hw hl
  have hx := xs_hx F
  have hb := xs_hb F
  have hl : lv_has ls 3 [(0, .ref (q 30))] := hl
  have h6 := hP.2
  refine lv_iconst (v := nI 1) hx hb dX7_rows_0 rfl ?_
  refine lv_istore_n (lv' := [(1, .int (nI 1)), (0, .ref (q 30))]) hx hb dX7_rows_1 rfl hl (Nat.le_of_ble_eq_true rfl) rfl (fun ls hl => ?_)
  refine lv_iconst (v := nI 0) hx hb dX7_rows_2 rfl ?_
  refine lv_istore_n (lv' := [(2, .int (nI 0)), (1, .int (nI 1)), (0, .ref (q 30))]) hx hb dX7_rows_3 rfl hl (Nat.le_of_ble_eq_true rfl) rfl (fun ls hl => ?_)
  have K4 : ∀ (n4_ : Nat) (i : Nat) (x : Nat) (H : Heap) (locs : List Loc) (ls : Array Slot), mpcN S - i < n4_ → (i ≤ mpcN S) → (x = 7 ^ i) → Wd D A s.heap H locs (wM k q S X) → lv_has ls 3 [(0, .ref (q 30)), (1, .int (nI x)), (2, .int (nI i))] → W p l e R s m args below meth c H locs 0 0 Q (F0 m 4 ls []) := by
    intro n4_
    induction n4_ with
    | zero =>
      intro i x H locs ls hn4_
      exact absurd hn4_ (Nat.not_lt_zero _)
    | succ n4_ ih4_ =>
      intro i x H locs ls hn4_ hi h1 hw hl
      refine lv_iload_n hx hb dX7_rows_4 rfl (lv_at hl 2 rfl) ?_
      refine lv_aload_n hx hb dX7_rows_5 rfl (lv_at hl 0 rfl) ?_
      refine x_geti fiM_0 F hw fo_X7_65 dX7_rows_6 ?_
      refine x_top (y := nI (mpcN S)) hP.1 ?_
      refine x_icmp_ge i (mpcN S) F (by omega) (by omega) (tgt := 23) dX7_rows_9 rfl (fun c9 => ?_) (fun c9 => ?_)
      · refine lv_iload_n hx hb dX7_rows_23 rfl (lv_at hl 1 rfl) ?_
        exact hret _ _ _ _ _ _ dX7_rows_24 hw rfl ⟨rfl, by rw [h1, show i = mpcN S by omega]⟩
      · refine lv_iload_n hx hb dX7_rows_12 rfl (lv_at hl 1 rfl) ?_
        refine lv_bipush (v := nI 7) hx hb dX7_rows_13 rfl ?_
        refine lv_imul hx hb dX7_rows_15 ?_
        refine x_top (y := nI (x * 7)) (pk_mul _ _) ?_
        refine lv_istore_n (lv' := [(1, .int (nI (x * 7))), (0, .ref (q 30)), (2, .int (nI i))]) hx hb dX7_rows_16 rfl hl (Nat.le_of_ble_eq_true rfl) rfl (fun ls hl => ?_)
        refine lv_iinc (v := nI (i + 1)) (lv' := [(2, .int (nI (i + 1))), (1, .int (nI (x * 7))), (0, .ref (q 30))]) hx hb dX7_rows_17 hl (k := 2) rfl (nI_1 _) (Nat.le_of_ble_eq_true rfl) rfl (fun ls hl => ?_)
        refine lv_goto (tgt := 4) hx hb dX7_rows_20 rfl ?_
        exact ih4_ (i + 1) (x * 7) _ _ _ (by first | omega | (simp only [] at *; omega)) (by first | assumption | omega | rfl) (by rw [h1, Nat.pow_succ]) hw (lv_sub hl [2, 1, 0] rfl)
  exact K4 _ 0 1 _ _ _ (Nat.lt_succ_self _) (by first | assumption | omega | rfl) (by rfl) hw (lv_sub hl [2, 1, 0] rfl)
set_option maxHeartbeats 4000000 in
set_option maxRecDepth 20000 in
theorem c_X7_layRow (l : Launch) (D : va_G) (k : Nat → ClassId) (q : Nat → Nat) (S : St) (X : va_W) (cd : Nat) (tv : Nat → Nat → Nat) (hP : okMP S) (hc : cd < 117649) (hT : okTv S tv) : CI l D k yX7_layRow cX7_layRow 7 (some .int) 0 0 0 [.ref (q 30), .int (nI cd)] (wM k q S X) (fun r w' => w' = wM k q (va_up S 21 (rowF (S 21) (mpcN S) cd)) X ∧ r = nI (lrN tv (mpcN S) cd)) := by
  refine CI.mk (by decide) (Nat.le_of_ble_eq_true rfl) ?_
  intro p e R s m args below meth c A Q ls F hret hw hl
  have hx := xs_hx F
  have hb := xs_hb F
  have hl : lv_has ls 7 [(0, .ref (q 30)), (1, .int (nI cd))] := hl
  have h6 := hP.2
  refine lv_iload_n hx hb dX7_layRow_0 rfl (lv_at hl 1 rfl) ?_
  refine lv_istore_n (lv' := [(2, .int (nI cd)), (0, .ref (q 30)), (1, .int (nI cd))]) hx hb dX7_layRow_1 rfl hl (Nat.le_of_ble_eq_true rfl) rfl (fun ls hl => ?_)
  refine lv_iconst (v := nI 0) hx hb dX7_layRow_2 rfl ?_
  refine lv_istore_n (lv' := [(3, .int (nI 0)), (2, .int (nI cd)), (0, .ref (q 30)), (1, .int (nI cd))]) hx hb dX7_layRow_3 rfl hl (Nat.le_of_ble_eq_true rfl) rfl (fun ls hl => ?_)
  refine lv_aload_n hx hb dX7_layRow_4 rfl (lv_at hl 2 rfl) ?_
  refine x_geti fiM_0 F hw fo_X7_65 dX7_layRow_5 ?_
  refine x_top (y := nI (mpcN S)) hP.1 ?_
  refine lv_iconst (v := nI 1) hx hb dX7_layRow_8 rfl ?_
  refine lv_isub hx hb dX7_layRow_9 ?_
  refine lv_istore (lv' := [(4, .int ((nI (mpcN S)) - (nI 1))), (3, .int (nI 0)), (2, .int (nI cd)), (0, .ref (q 30)), (1, .int (nI cd))]) hx hb dX7_layRow_10 hl (Nat.le_of_ble_eq_true rfl) rfl (fun ls hl => ?_)
  have K12 : ∀ (n12_ : Nat) (j : Nat) (lf : Nat) (sm : Nat) (f : Nat → Int32) (H : Heap) (locs : List Loc) (ls : Array Slot), mpcN S - j < n12_ → (j ≤ mpcN S) → (lf ≤ cd) → (lf = cd / 7 ^ j) → (f = fun p => if mpcN S - j ≤ p ∧ p < mpcN S then nI (dgt (mpcN S) cd p) else S 21 p) → (sm = smF tv (mpcN S) cd j) → Wd D A s.heap H locs (wM k q (va_up S 21 f) X) → lv_has ls 7 [(0, .ref (q 30)), (1, .int (nI cd)), (2, .int (nI lf)), (3, .int (nI sm)), (4, .int (nI (mpcN S) - nI (j + 1)))] → W p l e R s m args below meth c H locs 0 0 Q (F0 m 12 ls []) := by
    intro n12_
    induction n12_ with
    | zero =>
      intro j lf sm f H locs ls hn12_
      exact absurd hn12_ (Nat.not_lt_zero _)
    | succ n12_ ih12_ =>
      intro j lf sm f H locs ls hn12_ hj hlf h2 h1 h3 hw hl
      refine lv_iload hx hb dX7_layRow_12 (lv_at hl 4 rfl) ?_
      refine lv_if_lt (tgt := 60) hx hb dX7_layRow_14 rfl (fun c14 => ?_) (fun c14 => ?_)
      · have hjn := (rw_lt _ h6 j (by omega)).mp c14
        have hjn : j = mpcN S := by omega
        have hf : f = rowF (S 21) (mpcN S) cd := by rw [h1]; funext p; unfold rowF; rw [hjn]; by_cases q : p < mpcN S; (rw [if_pos q, if_pos ⟨by omega, q⟩]); (rw [if_neg q, if_neg (by omega)])
        have hsm : sm = smF tv (mpcN S) cd (mpcN S) := by rw [h3, hjn]
        have hsl := smF_le (tv := tv) (n := mpcN S) (cd := cd) (fun p x a b => (hT p x a b).2.1) (mpcN S) (Nat.le_refl _)
        refine lv_iload_n hx hb dX7_layRow_60 rfl (lv_at hl 3 rfl) ?_
        refine x_ldc F ld_X7_111 dX7_layRow_61 ?_
        refine x_icmp_lt sm 100000000 F (by omega) (by omega) (tgt := 69) dX7_layRow_63 rfl (fun c63 => ?_) (fun c63 => ?_)
        · refine lv_iconst (v := nI 0) hx hb dX7_layRow_69 rfl ?_
          refine lv_istore (lv' := [(4, .int (nI 0)), (0, .ref (q 30)), (1, .int (nI cd)), (2, .int (nI lf)), (3, .int (nI sm))]) hx hb dX7_layRow_70 hl (Nat.le_of_ble_eq_true rfl) rfl (fun ls hl => ?_)
          have K72 : ∀ (n72_ : Nat) (i : Nat) (H : Heap) (locs : List Loc) (ls : Array Slot), mpcN S - i < n72_ → (i ≤ mpcN S) → (allB (fun p => decide (6 ≤ wkR (dgt (mpcN S) cd) (mpcN S) p)) i = true) → Wd D A s.heap H locs (wM k q (va_up S 21 f) X) → lv_has ls 7 [(0, .ref (q 30)), (1, .int (nI cd)), (2, .int (nI lf)), (3, .int (nI sm)), (4, .int (nI i))] → W p l e R s m args below meth c H locs 0 0 Q (F0 m 72 ls []) := by
            intro n72_
            induction n72_ with
            | zero =>
              intro i H locs ls hn72_
              exact absurd hn72_ (Nat.not_lt_zero _)
            | succ n72_ ih72_ =>
              intro i H locs ls hn72_ hi h4 hw hl
              refine lv_iload hx hb dX7_layRow_72 (lv_at hl 4 rfl) ?_
              refine lv_aload_n hx hb dX7_layRow_74 rfl (lv_at hl 0 rfl) ?_
              refine x_geti fiM_0 F hw fo_X7_65 dX7_layRow_75 ?_
              refine x_top (y := S 0 0) rfl ?_
              refine x_top (y := nI (mpcN S)) hP.1 ?_
              refine x_icmp_ge i (mpcN S) F (by omega) (by omega) (tgt := 135) dX7_layRow_78 rfl (fun c78 => ?_) (fun c78 => ?_)
              · refine lv_iload_n hx hb dX7_layRow_135 rfl (lv_at hl 3 rfl) ?_
                exact hret _ _ _ _ _ _ dX7_layRow_136 hw rfl ⟨by rw [hf], by unfold lrN okW; rw [if_neg (by omega), (congrArg (allB _) (show mpcN S = i by omega)).trans h4]; exact congrArg nI hsm⟩
              · refine lv_iload hx hb dX7_layRow_81 (lv_at hl 4 rfl) ?_
                refine lv_istore (lv' := [(5, .int (nI i)), (0, .ref (q 30)), (1, .int (nI cd)), (2, .int (nI lf)), (3, .int (nI sm)), (4, .int (nI i))]) hx hb dX7_layRow_83 hl (Nat.le_of_ble_eq_true rfl) rfl (fun ls hl => ?_)
                refine lv_iconst (v := nI 0) hx hb dX7_layRow_85 rfl ?_
                refine lv_istore (lv' := [(6, .int (nI 0)), (5, .int (nI i)), (0, .ref (q 30)), (1, .int (nI cd)), (2, .int (nI lf)), (3, .int (nI sm)), (4, .int (nI i))]) hx hb dX7_layRow_86 hl (Nat.le_of_ble_eq_true rfl) rfl (fun ls hl => ?_)
                have K88 : ∀ (n88_ : Nat) (x : Nat) (a : Nat) (H : Heap) (locs : List Loc) (ls : Array Slot), mpcN S - x < n88_ → (x ≤ mpcN S) → (a < mpcN S ∨ a = 6) → (wkR (dgt (mpcN S) cd) (mpcN S) i = wkR (dgt (mpcN S) cd) (mpcN S - x) a) → Wd D A s.heap H locs (wM k q (va_up S 21 f) X) → lv_has ls 7 [(0, .ref (q 30)), (1, .int (nI cd)), (2, .int (nI lf)), (3, .int (nI sm)), (4, .int (nI i)), (5, .int (nI a)), (6, .int (nI x))] → W p l e R s m args below meth c H locs 0 0 Q (F0 m 88 ls []) := by
                  intro n88_
                  induction n88_ with
                  | zero =>
                    intro x a H locs ls hn88_
                    exact absurd hn88_ (Nat.not_lt_zero _)
                  | succ n88_ ih88_ =>
                    intro x a H locs ls hn88_ hx1 ha h5 hw hl
                    refine lv_iload hx hb dX7_layRow_88 (lv_at hl 6 rfl) ?_
                    refine lv_aload_n hx hb dX7_layRow_90 rfl (lv_at hl 0 rfl) ?_
                    refine x_geti fiM_0 F hw fo_X7_65 dX7_layRow_91 ?_
                    refine x_top (y := S 0 0) rfl ?_
                    refine x_top (y := nI (mpcN S)) hP.1 ?_
                    have K119 : ∀ (H : Heap) (locs : List Loc) (ls : Array Slot), (wkR (dgt (mpcN S) cd) (mpcN S) i = a) → Wd D A s.heap H locs (wM k q (va_up S 21 f) X) → lv_has ls 7 [(0, .ref (q 30)), (1, .int (nI cd)), (2, .int (nI lf)), (3, .int (nI sm)), (4, .int (nI i)), (5, .int (nI a)), (6, .int (nI x))] → W p l e R s m args below meth c H locs 0 0 Q (F0 m 119 ls []) := by
                      intro H locs ls h5w hw hl
                      refine lv_iload hx hb dX7_layRow_119 (lv_at hl 5 rfl) ?_
                      refine lv_bipush (v := nI 6) hx hb dX7_layRow_121 rfl ?_
                      refine x_icmp_ge a 6 F (by omega) (by omega) (tgt := 129) dX7_layRow_123 rfl (fun c123 => ?_) (fun c123 => ?_)
                      · refine lv_iinc (v := nI (i + 1)) (lv' := [(4, .int (nI (i + 1))), (0, .ref (q 30)), (1, .int (nI cd)), (2, .int (nI lf)), (3, .int (nI sm)), (5, .int (nI a)), (6, .int (nI x))]) hx hb dX7_layRow_129 hl (k := 4) rfl (nI_1 _) (Nat.le_of_ble_eq_true rfl) rfl (fun ls hl => ?_)
                        refine lv_goto (tgt := 72) hx hb dX7_layRow_132 rfl ?_
                        exact ih72_ (i + 1) _ _ _ (by first | omega | (simp only [] at *; omega)) (by first | assumption | omega | rfl) (by exact bAt h4 (decide_eq_true (by rw [h5w]; exact c123))) hw (lv_sub hl [1, 2, 3, 4, 0] rfl)
                      · refine x_ldc F ld_X7_111 dX7_layRow_126 ?_
                        exact hret _ _ _ _ _ _ dX7_layRow_128 hw rfl ⟨by rw [hf], by unfold lrN okW; rw [if_neg (by omega), allB_no (n := i) (by omega) (decide_eq_false (by rw [h5w]; omega))]; rfl⟩
                    refine x_icmp_ge x (mpcN S) F (by omega) (by omega) (tgt := 119) dX7_layRow_94 rfl (fun c94 => ?_) (fun c94 => ?_)
                    · exact K119 _ _ _ (by rw [h5]; first | exact wkR_n (by omega) _ | (rw [show mpcN S - x = 0 by omega]; rfl)) hw (lv_sub hl [0, 1, 2, 3, 4, 5, 6] rfl)
                    · refine lv_iload hx hb dX7_layRow_97 (lv_at hl 5 rfl) ?_
                      refine lv_bipush (v := nI 6) hx hb dX7_layRow_99 rfl ?_
                      refine x_icmp_ge a 6 F (by omega) (by omega) (tgt := 119) dX7_layRow_101 rfl (fun c101 => ?_) (fun c101 => ?_)
                      · exact K119 _ _ _ (by rw [h5]; first | exact wkR_n (by omega) _ | (rw [show mpcN S - x = 0 by omega]; rfl)) hw (lv_sub hl [0, 1, 2, 3, 4, 5, 6] rfl)
                      · refine lv_aload_n hx hb dX7_layRow_104 rfl (lv_at hl 0 rfl) ?_
                        refine x_getr frM_21 F hw fo_X7_55 dX7_layRow_105 ?_
                        have hdo := dg_ok (cd := cd) hT (by omega) a (by omega)
                        refine lv_iload hx hb dX7_layRow_108 (lv_at hl 5 rfl) ?_
                        refine x_iald aiM_21 F hw a rfl (by omega) dX7_layRow_110 ?_
                        refine x_top (y := f a) rfl ?_
                        refine x_top (y := nI (dgt (mpcN S) cd a)) (by rw [hf]; exact if_pos (by omega)) ?_
                        refine lv_istore (lv' := [(5, .int (nI (dgt (mpcN S) cd a))), (0, .ref (q 30)), (1, .int (nI cd)), (2, .int (nI lf)), (3, .int (nI sm)), (4, .int (nI i)), (6, .int (nI x))]) hx hb dX7_layRow_111 hl (Nat.le_of_ble_eq_true rfl) rfl (fun ls hl => ?_)
                        refine lv_iinc (v := nI (x + 1)) (lv' := [(6, .int (nI (x + 1))), (5, .int (nI (dgt (mpcN S) cd a))), (0, .ref (q 30)), (1, .int (nI cd)), (2, .int (nI lf)), (3, .int (nI sm)), (4, .int (nI i))]) hx hb dX7_layRow_113 hl (k := 6) rfl (nI_1 _) (Nat.le_of_ble_eq_true rfl) rfl (fun ls hl => ?_)
                        refine lv_goto (tgt := 88) hx hb dX7_layRow_116 rfl ?_
                        exact ih88_ (x + 1) (dgt (mpcN S) cd a) _ _ _ (by first | omega | (simp only [] at *; omega)) (by first | assumption | omega | rfl) (by exact hdo) (by rw [h5, show mpcN S - x = mpcN S - (x + 1) + 1 by omega, wkR_y c101]) hw (lv_sub hl [2, 3, 4, 5, 6, 1, 0] rfl)
                exact K88 _ 0 i _ _ _ (Nat.lt_succ_self _) (by first | assumption | omega | rfl) (by omega) (by rfl) hw (lv_sub hl [2, 3, 4, 5, 6, 1, 0] rfl)
          exact K72 _ 0 _ _ _ (Nat.lt_succ_self _) (by first | assumption | omega | rfl) (by rfl) hw (lv_sub hl [1, 2, 3, 4, 0] rfl)
        · refine x_ldc F ld_X7_111 dX7_layRow_66 ?_
          exact hret _ _ _ _ _ _ dX7_layRow_68 hw rfl ⟨by rw [hf], by unfold lrN; rw [if_pos (by omega)]⟩
      · have hjn : j < mpcN S := Nat.lt_of_not_le (fun q => c14 ((rw_lt _ h6 j (by omega)).mpr q))
        have hlm : lf % 7 < 7 := Nat.mod_lt _ (by decide)
        have htv := (hT (mpcN S - (j + 1)) (lf % 7) (by omega) hlm).2.1
        refine lv_aload_n hx hb dX7_layRow_17 rfl (lv_at hl 0 rfl) ?_
        refine x_getr frM_21 F hw fo_X7_55 dX7_layRow_18 ?_
        refine lv_iload hx hb dX7_layRow_21 (lv_at hl 4 rfl) ?_
        refine lv_iload_n hx hb dX7_layRow_23 rfl (lv_at hl 2 rfl) ?_
        refine lv_bipush (v := nI 7) hx hb dX7_layRow_24 rfl ?_
        refine lv_irem hx hb dX7_layRow_26 (by decide) ?_
        refine x_top (y := nI (lf % 7)) (pk_rem (by omega) (by omega) (by omega)) ?_
        refine x_iast aiM_21 F hw (mpcN S - (j + 1)) (pk_sub (by omega)) (by omega) dX7_layRow_27 (fun H locs hw => ?_)
        refine lv_iload_n hx hb dX7_layRow_28 rfl (lv_at hl 2 rfl) ?_
        refine lv_bipush (v := nI 7) hx hb dX7_layRow_29 rfl ?_
        refine lv_idiv hx hb dX7_layRow_31 (by decide) ?_
        refine x_top (y := nI (lf / 7)) (pk_div (by omega) (by omega) (by omega)) ?_
        refine lv_istore_n (lv' := [(2, .int (nI (lf / 7))), (0, .ref (q 30)), (1, .int (nI cd)), (3, .int (nI sm)), (4, .int (nI (mpcN S) - nI (j + 1)))]) hx hb dX7_layRow_32 rfl hl (Nat.le_of_ble_eq_true rfl) rfl (fun ls hl => ?_)
        refine lv_iload_n hx hb dX7_layRow_33 rfl (lv_at hl 3 rfl) ?_
        refine lv_aload_n hx hb dX7_layRow_34 rfl (lv_at hl 1 rfl) ?_
        refine x_getr frM_20 F hw fo_X7_52 dX7_layRow_35 ?_
        refine lv_bipush (v := nI 7) hx hb dX7_layRow_38 rfl ?_
        refine lv_iload hx hb dX7_layRow_40 (lv_at hl 4 rfl) ?_
        refine x_top (y := nI (mpcN S - (j + 1))) (pk_sub (by omega)) ?_
        refine lv_imul hx hb dX7_layRow_42 ?_
        refine x_top (y := nI (7 * (mpcN S - (j + 1)))) (pk_mul _ _) ?_
        refine lv_aload_n hx hb dX7_layRow_43 rfl (lv_at hl 1 rfl) ?_
        refine x_getr frM_21 F hw fo_X7_55 dX7_layRow_44 ?_
        refine lv_iload hx hb dX7_layRow_47 (lv_at hl 4 rfl) ?_
        refine x_top (y := nI (mpcN S - (j + 1))) (pk_sub (by omega)) ?_
        refine x_iald aiM_21 F hw (mpcN S - (j + 1)) rfl (by omega) dX7_layRow_49 ?_
        refine x_top (y := (upd f (mpcN S - (j + 1)) (nI (lf % 7))) (mpcN S - (j + 1))) rfl ?_
        refine x_top (y := nI (lf % 7)) pk_us ?_
        refine lv_iadd hx hb dX7_layRow_50 ?_
        refine x_top (y := nI ((7 * (mpcN S - (j + 1))) + (lf % 7))) (nI_add _ _) ?_
        refine x_iald aiM_20 F hw ((7 * (mpcN S - (j + 1))) + (lf % 7)) rfl (by omega) dX7_layRow_51 ?_
        refine x_top (y := S 20 ((7 * (mpcN S - (j + 1))) + (lf % 7))) rfl ?_
        refine x_top (y := nI (tv (mpcN S - (j + 1)) (lf % 7))) (hT _ _ (by omega) (by omega)).1 ?_
        refine lv_iadd hx hb dX7_layRow_52 ?_
        refine x_top (y := nI (sm + (tv (mpcN S - (j + 1)) (lf % 7)))) (nI_add _ _) ?_
        refine lv_istore_n (lv' := [(3, .int (nI (sm + (tv (mpcN S - (j + 1)) (lf % 7))))), (2, .int (nI (lf / 7))), (0, .ref (q 30)), (1, .int (nI cd)), (4, .int (nI (mpcN S) - nI (j + 1)))]) hx hb dX7_layRow_53 rfl hl (Nat.le_of_ble_eq_true rfl) rfl (fun ls hl => ?_)
        refine lv_iinc (v := nI (mpcN S) - nI (j + 1 + 1)) (lv' := [(4, .int (nI (mpcN S) - nI (j + 1 + 1))), (3, .int (nI (sm + (tv (mpcN S - (j + 1)) (lf % 7))))), (2, .int (nI (lf / 7))), (0, .ref (q 30)), (1, .int (nI cd))]) hx hb dX7_layRow_54 hl (k := 4) rfl (rw_dn _ h6 _ (by omega)) (Nat.le_of_ble_eq_true rfl) rfl (fun ls hl => ?_)
        refine lv_goto (tgt := 12) hx hb dX7_layRow_57 rfl ?_
        exact ih12_ (j + 1) (lf / 7) (sm + (tv (mpcN S - (j + 1)) (lf % 7))) (upd f (mpcN S - (j + 1)) (nI (lf % 7))) _ _ _ (by first | omega | (simp only [] at *; omega)) (by first | assumption | omega | rfl) (by exact Nat.le_trans (Nat.div_le_self _ _) hlf) (by rw [h2, Nat.div_div_eq_div_mul, Nat.pow_succ]) (by exact row_st hjn h1 h2) (by rw [h3, h2]; rfl) hw (lv_sub hl [3, 4, 2, 1, 0] rfl)
  exact K12 _ 0 cd 0 (S 21) _ _ _ (Nat.lt_succ_self _) (by first | assumption | omega | rfl) (by omega) (by simp) (by funext p; rw [if_neg (by omega)]) (by rfl) hw (lv_sub hl [3, 4, 2, 1, 0] rfl)
