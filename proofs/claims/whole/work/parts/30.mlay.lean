/-! ===== the reference: layTrees ===== -/
theorem lrN_le (tv : Nat → Nat → Nat) (n c : Nat) : lrN tv n c ≤ 100000000 := by
  unfold lrN
  split
  · omega
  · split <;> omega
/-- how far the trees are laid -/
def LT (S : St) (c : Nat) (T : St) : Prop := (∀ r, (r < 18 ∨ 24 < r) → T r = S r) ∧ T 18 0 = nI 1 ∧ slOk S (T 19) ∧ okTv T (mtr S) ∧ T 22 0 = nI (lcF (mtr S) (mpcN S) c) ∧ T 23 0 = nI (lmF (mtr S) (mpcN S) c) ∧ T 24 0 = nI (mtn (mtr S) (mpcN S) c)
theorem LT.pc {S T : St} {c : Nat} (h : LT S c T) : mpcN T = mpcN S := by unfold mpcN; rw [h.1 0 (by omega)]
theorem LT.fin {S T : St} (h : LT S (7 ^ mpcN S) T) : LM S T := by
  have e0 := h.pc
  obtain ⟨h1, h2, h3, h4, h5, h6, h7⟩ := h
  have et : mtr T = mtr S := mtr_cg (fun r hr => h1 r (by omega))
  refine ⟨h1, h2, ?_, by rw [et]; exact h4, by rw [et, e0]; exact h5, by rw [et, e0]; exact h6, by rw [et, e0]; exact h7⟩
  intro a b ha hb
  unfold rulN
  rw [h1 8 (by omega), h1 9 (by omega)]
  exact h3 a b ha hb
theorem LT.ini {S : St} {fs f : Nat → Int32} (hB : okMB S) (hV : okMV S) (hsl : slOk S fs) (h20 : f = trU (S 20) (mtr S) (7 * mpcN S)) : LT S 0 (va_up (va_up (va_up (va_up (va_up (va_up S 18 (fun _ => nI 1)) 19 fs) 20 f) 22 (fun _ => nI 100000000)) 23 (fun _ => nI 0)) 24 (fun _ => nI 0)) := by
  refine ⟨?_, rfl, hsl, ?_, rfl, rfl, rfl⟩
  · intro r hr
    simp only [va_up]
    rw [if_neg (by omega), if_neg (by omega), if_neg (by omega), if_neg (by omega), if_neg (by omega), if_neg (by omega)]
  · intro p x hp hx
    have hp : p < mpcN S := hp
    refine ⟨?_, (mtr_le hB hV p x).1, (mtr_le hB hV p x).2⟩
    show f (7 * p + x) = _
    rw [h20]
    unfold trU
    rw [if_pos (by omega), show (7 * p + x) / 7 = p by omega, show (7 * p + x) % 7 = x by omega]
theorem LT.far {S T : St} {c : Nat} {g : Nat → Int32} (h : LT S c T) (hf : ¬ lrN (mtr S) (mpcN S) c < 100000000) : LT S (c + 1) (va_up T 21 g) := by
  obtain ⟨h1, h2, h3, h4, h5, h6, h7⟩ := h
  have hle := lcF_le (mtr S) (mpcN S) c
  refine ⟨fun r hr => ?_, h2, h3, h4, ?_, ?_, ?_⟩
  · simp only [va_up]; rw [if_neg (by omega)]; exact h1 r hr
  · show T 22 0 = nI (if _ then _ else _); rw [if_neg (by omega)]; exact h5
  · show T 23 0 = nI (if _ then _ else _); rw [if_neg hf]; exact h6
  · show T 24 0 = nI (cntB _ (c + 1)); rw [cnt_f (decide_eq_false hf)]; exact h7
theorem LT.near {S T : St} {c : Nat} {g : Nat → Int32} {a b : Nat} (h : LT S c T) (hf : lrN (mtr S) (mpcN S) c < 100000000) (ha : a = if lrN (mtr S) (mpcN S) c < lcF (mtr S) (mpcN S) c then 1 else if lrN (mtr S) (mpcN S) c = lcF (mtr S) (mpcN S) c then lmF (mtr S) (mpcN S) c + 1 else lmF (mtr S) (mpcN S) c) (hb : b = if lrN (mtr S) (mpcN S) c < lcF (mtr S) (mpcN S) c then lrN (mtr S) (mpcN S) c else lcF (mtr S) (mpcN S) c) : LT S (c + 1) (va_up (va_up (va_up (va_up T 21 g) 24 (fun _ => nI (mtn (mtr S) (mpcN S) c + 1))) 23 (fun _ => nI a)) 22 (fun _ => nI b)) := by
  obtain ⟨h1, h2, h3, h4, h5, h6, h7⟩ := h
  refine ⟨fun r hr => ?_, h2, h3, h4, ?_, ?_, ?_⟩
  · simp only [va_up]; rw [if_neg (by omega), if_neg (by omega), if_neg (by omega), if_neg (by omega)]; exact h1 r hr
  · show nI b = nI (if _ then _ else _); rw [hb]
  · show nI a = nI (if _ then _ else _); rw [if_pos hf, ha]
  · show nI _ = nI (cntB _ (c + 1)); rw [cnt_y (decide_eq_true hf)]; rfl
set_option maxHeartbeats 4000000 in
set_option maxRecDepth 20000 in
theorem c_X7_layTrees (l : Launch) (D : va_G) (k : Nat → ClassId) (q : Nat → Nat) (S : St) (X : va_W) (hP : okMP S) (hL : okML S) (hV : okMV S) (hB : okMB S) (hLd : S 18 0 = nI 0 ∨ (S 18 0 = nI 1 ∧ okLd S)) : CV l D k yX7_layTrees cX7_layTrees 4 2 0 0 [.ref (q 30)] (wM k q S X) (fun w' => ∃ S', w' = wM k q S' X ∧ LM S S') := by
  refine CV.mk (by decide) (Nat.le_of_ble_eq_true rfl) ?_
  intro p e R s m args below meth c A Q ls F hnm hret hw hl
  have hx := xs_hx F
  have hb := xs_hb F
  have hl : lv_has ls 4 [(0, .ref (q 30))] := hl
  have h6 := hP.2
  have hl50 := hL.2
  refine lv_aload_n hx hb dX7_layTrees_0 rfl (lv_at hl 0 rfl) ?_
  refine x_geti fiM_18 F hw fo_X7_81 dX7_layTrees_1 ?_
  refine lv_if_eq (tgt := 8) hx hb dX7_layTrees_4 rfl (fun c4 => ?_) (fun c4 => ?_)
  · refine lv_aload_n hx hb dX7_layTrees_8 rfl (lv_at hl 0 rfl) ?_
    refine lv_iconst (v := nI 1) hx hb dX7_layTrees_9 rfl ?_
    refine x_puti fiM_18 F hw fo_X7_81 rfl rfl dX7_layTrees_10 (fun H locs hw => ?_)
    refine lv_aload_n hx hb dX7_layTrees_13 rfl (lv_at hl 0 rfl) ?_
    refine x_callVV (rest := []) (c_X7_laySlips l D k q (va_up S 18 (fun _ => nI 1)) X hL hV) mo_X7_101 obM F hw (Nat.le_of_ble_eq_true rfl) (x_cs F (Nat.le_of_ble_eq_true rfl) (Nat.le_of_ble_eq_true rfl)) rfl rfl hl.1 (Nat.le_of_ble_eq_true rfl) dX7_layTrees_14 (fun w_ H locs hp hw => ?_)
    obtain ⟨fs, hp1, hsl⟩ := hp
    rw [hp1] at hw
    have hsl : slOk S fs := hsl
    refine lv_iconst (v := nI 0) hx hb dX7_layTrees_17 rfl ?_
    refine lv_istore_n (lv' := [(1, .int (nI 0)), (0, .ref (q 30))]) hx hb dX7_layTrees_18 rfl hl (Nat.le_of_ble_eq_true rfl) rfl (fun ls hl => ?_)
    have K19 : ∀ (n19_ : Nat) (pn : Nat) (f : Nat → Int32) (H : Heap) (locs : List Loc) (ls : Array Slot), mpcN S - pn < n19_ → (pn ≤ mpcN S) → (f = trU (S 20) (mtr S) (7 * pn)) → Wd D A s.heap H locs (wM k q (va_up (va_up (va_up S 18 (fun _ => nI 1)) 19 fs) 20 f) X) → lv_has ls 4 [(0, .ref (q 30)), (1, .int (nI pn))] → W p l e R s m args below meth c H locs 0 0 Q (F0 m 19 ls []) := by
      intro n19_
      induction n19_ with
      | zero =>
        intro pn f H locs ls hn19_
        exact absurd hn19_ (Nat.not_lt_zero _)
      | succ n19_ ih19_ =>
        intro pn f H locs ls hn19_ hp h1 hw hl
        refine lv_iload_n hx hb dX7_layTrees_19 rfl (lv_at hl 1 rfl) ?_
        refine lv_aload_n hx hb dX7_layTrees_20 rfl (lv_at hl 0 rfl) ?_
        refine x_geti fiM_0 F hw fo_X7_65 dX7_layTrees_21 ?_
        refine x_top (y := S 0 0) rfl ?_
        refine x_top (y := nI (mpcN S)) hP.1 ?_
        refine x_icmp_ge pn (mpcN S) F (by omega) (by omega) (tgt := 135) dX7_layTrees_24 rfl (fun c24 => ?_) (fun c24 => ?_)
        · refine lv_aload_n hx hb dX7_layTrees_135 rfl (lv_at hl 0 rfl) ?_
          refine x_ldc F ld_X7_111 dX7_layTrees_136 ?_
          refine x_puti fiM_22 F hw fo_X7_112 rfl rfl dX7_layTrees_138 (fun H locs hw => ?_)
          refine lv_aload_n hx hb dX7_layTrees_141 rfl (lv_at hl 0 rfl) ?_
          refine lv_iconst (v := nI 0) hx hb dX7_layTrees_142 rfl ?_
          refine x_puti fiM_23 F hw fo_X7_115 rfl rfl dX7_layTrees_143 (fun H locs hw => ?_)
          refine lv_aload_n hx hb dX7_layTrees_146 rfl (lv_at hl 0 rfl) ?_
          refine lv_iconst (v := nI 0) hx hb dX7_layTrees_147 rfl ?_
          refine x_puti fiM_24 F hw fo_X7_118 rfl rfl dX7_layTrees_148 (fun H locs hw => ?_)
          refine lv_aload_n hx hb dX7_layTrees_151 rfl (lv_at hl 0 rfl) ?_
          refine x_fVI (rest := []) (c_X7_rows l D k q (va_up (va_up (va_up (va_up (va_up (va_up S 18 (fun _ => nI 1)) 19 fs) 20 f) 22 (fun _ => nI 100000000)) 23 (fun _ => nI 0)) 24 (fun _ => nI 0)) X (by first | assumption | omega)) mo_X7_121 obM F hw (Nat.le_of_ble_eq_true rfl) (x_cs F (Nat.le_of_ble_eq_true rfl) (Nat.le_of_ble_eq_true rfl)) rfl rfl hl.1 (Nat.le_of_ble_eq_true rfl) dX7_layTrees_152 (fun H locs hw => ?_)
          refine lv_istore_n (lv' := [(1, .int (nI ((7 ^ mpcN (va_up (va_up (va_up (va_up (va_up (va_up S 18 (fun _ => nI 1)) 19 fs) 20 f) 22 (fun _ => nI 100000000)) 23 (fun _ => nI 0)) 24 (fun _ => nI 0)))))), (0, .ref (q 30))]) hx hb dX7_layTrees_155 rfl hl (Nat.le_of_ble_eq_true rfl) rfl (fun ls hl => ?_)
          refine lv_iconst (v := nI 0) hx hb dX7_layTrees_156 rfl ?_
          refine lv_istore_n (lv' := [(2, .int (nI 0)), (1, .int (nI ((7 ^ mpcN (va_up (va_up (va_up (va_up (va_up (va_up S 18 (fun _ => nI 1)) 19 fs) 20 f) 22 (fun _ => nI 100000000)) 23 (fun _ => nI 0)) 24 (fun _ => nI 0)))))), (0, .ref (q 30))]) hx hb dX7_layTrees_157 rfl hl (Nat.le_of_ble_eq_true rfl) rfl (fun ls hl => ?_)
          have K158 : ∀ (n158_ : Nat) (cc : Nat) (T : St) (H : Heap) (locs : List Loc) (ls : Array Slot), 7 ^ mpcN S - cc < n158_ → (cc ≤ 7 ^ mpcN S) → (LT S cc T) → Wd D A s.heap H locs (wM k q T X) → lv_has ls 4 [(0, .ref (q 30)), (1, .int (nI (7 ^ mpcN S))), (2, .int (nI cc))] → W p l e R s m args below meth c H locs 0 0 Q (F0 m 158 ls []) := by
            intro n158_
            induction n158_ with
            | zero =>
              intro cc T H locs ls hn158_
              exact absurd hn158_ (Nat.not_lt_zero _)
            | succ n158_ ih158_ =>
              intro cc T H locs ls hn158_ hc hLT hw hl
              have hPT : okMP T := by unfold okMP; rw [hLT.pc, hLT.1 0 (by omega)]; exact hP
              have h7c : 7 ^ mpcN S ≤ 117649 := Nat.le_trans (Nat.pow_le_pow_right (by omega) h6) (by decide)
              refine lv_iload_n hx hb dX7_layTrees_158 rfl (lv_at hl 2 rfl) ?_
              refine lv_iload_n hx hb dX7_layTrees_159 rfl (lv_at hl 1 rfl) ?_
              refine x_icmp_ge cc (7 ^ mpcN S) F (by omega) (by omega) (tgt := 248) dX7_layTrees_160 rfl (fun c160 => ?_) (fun c160 => ?_)
              · exact hret _ _ _ _ _ dX7_layTrees_248 hw ⟨T, rfl, LT.fin (by rw [show 7 ^ mpcN S = cc by omega]; exact hLT)⟩
              · have hlr := lrN_le (mtr S) (mpcN S) cc
                have hcT : cc < 117649 := by omega
                refine lv_aload_n hx hb dX7_layTrees_163 rfl (lv_at hl 0 rfl) ?_
                refine lv_iload_n hx hb dX7_layTrees_164 rfl (lv_at hl 2 rfl) ?_
                refine x_fVI (rest := []) (c_X7_layRow l D k q T X cc (mtr S) hPT hcT hLT.2.2.2.1) mo_X7_124 obM F hw (Nat.le_of_ble_eq_true rfl) (x_cs F (Nat.le_of_ble_eq_true rfl) (Nat.le_of_ble_eq_true rfl)) rfl rfl hl.1 (Nat.le_of_ble_eq_true rfl) dX7_layTrees_165 (fun H locs hw => ?_)
                refine x_top (y := nI (lrN (mtr S) (mpcN S) cc)) (congrArg (fun z => nI (lrN (mtr S) z cc)) hLT.pc) ?_
                refine lv_istore_n (lv' := [(3, .int (nI (lrN (mtr S) (mpcN S) cc))), (0, .ref (q 30)), (1, .int (nI (7 ^ mpcN S))), (2, .int (nI cc))]) hx hb dX7_layTrees_168 rfl hl (Nat.le_of_ble_eq_true rfl) rfl (fun ls hl => ?_)
                refine lv_iload_n hx hb dX7_layTrees_169 rfl (lv_at hl 0 rfl) ?_
                refine x_ldc F ld_X7_111 dX7_layTrees_170 ?_
                refine x_icmp_ge (lrN (mtr S) (mpcN S) cc) 100000000 F (by omega) (by omega) (tgt := 242) dX7_layTrees_172 rfl (fun c172 => ?_) (fun c172 => ?_)
                · refine lv_iinc (v := nI (cc + 1)) (lv' := [(2, .int (nI (cc + 1))), (3, .int (nI (lrN (mtr S) (mpcN S) cc))), (0, .ref (q 30)), (1, .int (nI (7 ^ mpcN S)))]) hx hb dX7_layTrees_242 hl (k := 3) rfl (nI_1 _) (Nat.le_of_ble_eq_true rfl) rfl (fun ls hl => ?_)
                  refine lv_goto (tgt := 158) hx hb dX7_layTrees_245 rfl ?_
                  exact ih158_ (cc + 1) (va_up T 21 (rowF (T 21) (mpcN T) cc)) _ _ _ (by first | omega | (simp only [] at *; omega)) (by omega) (by first | exact hLT.far (by omega) | exact hLT.near (by omega) h219 h239) hw (lv_sub hl [2, 3, 0] rfl)
                · have hlc := lcF_le (mtr S) (mpcN S) cc
                  have hlm := lmF_le (mtr S) (mpcN S) cc
                  have hmt : mtn (mtr S) (mpcN S) cc ≤ cc := cntB_le _ _
                  refine lv_aload_n hx hb dX7_layTrees_175 rfl (lv_at hl 1 rfl) ?_
                  refine lv_dup hx hb dX7_layTrees_176 rfl ?_
                  refine x_geti fiM_24 F hw fo_X7_118 dX7_layTrees_177 ?_
                  refine x_top (y := nI (mtn (mtr S) (mpcN S) cc)) hLT.2.2.2.2.2.2 ?_
                  refine lv_iconst (v := nI 1) hx hb dX7_layTrees_180 rfl ?_
                  refine lv_iadd hx hb dX7_layTrees_181 ?_
                  refine x_top (y := nI ((mtn (mtr S) (mpcN S) cc) + 1)) (nI_add _ _) ?_
                  refine x_puti fiM_24 F hw fo_X7_118 rfl rfl dX7_layTrees_182 (fun H locs hw => ?_)
                  refine lv_aload_n hx hb dX7_layTrees_185 rfl (lv_at hl 1 rfl) ?_
                  refine lv_iload_n hx hb dX7_layTrees_186 rfl (lv_at hl 0 rfl) ?_
                  refine lv_aload_n hx hb dX7_layTrees_187 rfl (lv_at hl 1 rfl) ?_
                  refine x_geti fiM_22 F hw fo_X7_112 dX7_layTrees_188 ?_
                  refine x_top (y := (va_up T 21 (rowF (T 21) (mpcN T) cc)) 22 0) rfl ?_
                  refine x_top (y := nI (lcF (mtr S) (mpcN S) cc)) hLT.2.2.2.2.1 ?_
                  have K219 : ∀ (a : Nat) (H : Heap) (locs : List Loc) (ls : Array Slot), (a = if lrN (mtr S) (mpcN S) cc < lcF (mtr S) (mpcN S) cc then 1 else if lrN (mtr S) (mpcN S) cc = lcF (mtr S) (mpcN S) cc then lmF (mtr S) (mpcN S) cc + 1 else lmF (mtr S) (mpcN S) cc) → Wd D A s.heap H locs (wM k q (va_up (va_up T 21 (rowF (T 21) (mpcN T) cc)) 24 (fun _ => nI ((mtn (mtr S) (mpcN S) cc) + 1))) X) → lv_has ls 4 [(0, .ref (q 30)), (1, .int (nI (7 ^ mpcN S))), (2, .int (nI cc)), (3, .int (nI (lrN (mtr S) (mpcN S) cc)))] → W p l e R s m args below meth c H locs 0 0 Q (F0 m 219 ls [.int (nI a), .ref (q 30)]) := by
                    intro a H locs ls h219 hw hl
                    refine x_puti fiM_23 F hw fo_X7_115 rfl rfl dX7_layTrees_219 (fun H locs hw => ?_)
                    refine lv_aload_n hx hb dX7_layTrees_222 rfl (lv_at hl 0 rfl) ?_
                    refine lv_iload_n hx hb dX7_layTrees_223 rfl (lv_at hl 3 rfl) ?_
                    refine lv_aload_n hx hb dX7_layTrees_224 rfl (lv_at hl 0 rfl) ?_
                    refine x_geti fiM_22 F hw fo_X7_112 dX7_layTrees_225 ?_
                    refine x_top (y := (va_up T 21 (rowF (T 21) (mpcN T) cc)) 22 0) rfl ?_
                    refine x_top (y := nI (lcF (mtr S) (mpcN S) cc)) hLT.2.2.2.2.1 ?_
                    have K239 : ∀ (b : Nat) (H : Heap) (locs : List Loc) (ls : Array Slot), (b = if lrN (mtr S) (mpcN S) cc < lcF (mtr S) (mpcN S) cc then lrN (mtr S) (mpcN S) cc else lcF (mtr S) (mpcN S) cc) → Wd D A s.heap H locs (wM k q (va_up (va_up (va_up T 21 (rowF (T 21) (mpcN T) cc)) 24 (fun _ => nI ((mtn (mtr S) (mpcN S) cc) + 1))) 23 (fun _ => nI a)) X) → lv_has ls 4 [(0, .ref (q 30)), (1, .int (nI (7 ^ mpcN S))), (2, .int (nI cc)), (3, .int (nI (lrN (mtr S) (mpcN S) cc)))] → W p l e R s m args below meth c H locs 0 0 Q (F0 m 239 ls [.int (nI b), .ref (q 30)]) := by
                      intro b H locs ls h239 hw hl
                      refine x_puti fiM_22 F hw fo_X7_112 rfl rfl dX7_layTrees_239 (fun H locs hw => ?_)
                      refine lv_iinc (v := nI (cc + 1)) (lv' := [(2, .int (nI (cc + 1))), (0, .ref (q 30)), (1, .int (nI (7 ^ mpcN S))), (3, .int (nI (lrN (mtr S) (mpcN S) cc)))]) hx hb dX7_layTrees_242 hl (k := 2) rfl (nI_1 _) (Nat.le_of_ble_eq_true rfl) rfl (fun ls hl => ?_)
                      refine lv_goto (tgt := 158) hx hb dX7_layTrees_245 rfl ?_
                      exact ih158_ (cc + 1) (va_up (va_up (va_up (va_up T 21 (rowF (T 21) (mpcN T) cc)) 24 (fun _ => nI ((mtn (mtr S) (mpcN S) cc) + 1))) 23 (fun _ => nI a)) 22 (fun _ => nI b)) _ _ _ (by first | omega | (simp only [] at *; omega)) (by omega) (by first | exact hLT.far (by omega) | exact hLT.near (by omega) h219 h239) hw (lv_sub hl [1, 2, 0] rfl)
                    refine x_icmp_ge (lrN (mtr S) (mpcN S) cc) (lcF (mtr S) (mpcN S) cc) F (by omega) (by omega) (tgt := 235) dX7_layTrees_228 rfl (fun c228 => ?_) (fun c228 => ?_)
                    · refine lv_aload_n hx hb dX7_layTrees_235 rfl (lv_at hl 0 rfl) ?_
                      refine x_geti fiM_22 F hw fo_X7_112 dX7_layTrees_236 ?_
                      refine x_top (y := (va_up T 21 (rowF (T 21) (mpcN T) cc)) 22 0) rfl ?_
                      refine x_top (y := nI (lcF (mtr S) (mpcN S) cc)) hLT.2.2.2.2.1 ?_
                      exact K239 (lcF (mtr S) (mpcN S) cc) _ _ _ (by first | exact (if_pos (by omega)).symm | exact (if_neg (by omega)).symm) hw (lv_sub hl [0, 1, 2, 3] rfl)
                    · refine lv_iload_n hx hb dX7_layTrees_231 rfl (lv_at hl 3 rfl) ?_
                      refine lv_goto (tgt := 239) hx hb dX7_layTrees_232 rfl ?_
                      exact K239 (lrN (mtr S) (mpcN S) cc) _ _ _ (by first | exact (if_pos (by omega)).symm | exact (if_neg (by omega)).symm) hw (lv_sub hl [0, 1, 2, 3] rfl)
                  refine x_icmp_ge (lrN (mtr S) (mpcN S) cc) (lcF (mtr S) (mpcN S) cc) F (by omega) (by omega) (tgt := 198) dX7_layTrees_191 rfl (fun c191 => ?_) (fun c191 => ?_)
                  · refine lv_iload_n hx hb dX7_layTrees_198 rfl (lv_at hl 0 rfl) ?_
                    refine lv_aload_n hx hb dX7_layTrees_199 rfl (lv_at hl 1 rfl) ?_
                    refine x_geti fiM_22 F hw fo_X7_112 dX7_layTrees_200 ?_
                    refine x_top (y := (va_up T 21 (rowF (T 21) (mpcN T) cc)) 22 0) rfl ?_
                    refine x_top (y := nI (lcF (mtr S) (mpcN S) cc)) hLT.2.2.2.2.1 ?_
                    refine x_icmp_ne (lrN (mtr S) (mpcN S) cc) (lcF (mtr S) (mpcN S) cc) F (by omega) (by omega) (tgt := 215) dX7_layTrees_203 rfl (fun c203 => ?_) (fun c203 => ?_)
                    · refine lv_aload_n hx hb dX7_layTrees_215 rfl (lv_at hl 1 rfl) ?_
                      refine x_geti fiM_23 F hw fo_X7_115 dX7_layTrees_216 ?_
                      refine x_top (y := (va_up T 21 (rowF (T 21) (mpcN T) cc)) 23 0) rfl ?_
                      refine x_top (y := nI (lmF (mtr S) (mpcN S) cc)) hLT.2.2.2.2.2.1 ?_
                      exact K219 (lmF (mtr S) (mpcN S) cc) _ _ _ (by first | exact (if_pos (by omega)).symm | exact ((if_neg (by omega)).trans (if_pos (by omega))).symm | exact ((if_neg (by omega)).trans (if_neg (by omega))).symm) hw (lv_sub hl [1, 2, 3, 0] rfl)
                    · refine lv_aload_n hx hb dX7_layTrees_206 rfl (lv_at hl 1 rfl) ?_
                      refine x_geti fiM_23 F hw fo_X7_115 dX7_layTrees_207 ?_
                      refine x_top (y := (va_up T 21 (rowF (T 21) (mpcN T) cc)) 23 0) rfl ?_
                      refine x_top (y := nI (lmF (mtr S) (mpcN S) cc)) hLT.2.2.2.2.2.1 ?_
                      refine lv_iconst (v := nI 1) hx hb dX7_layTrees_210 rfl ?_
                      refine lv_iadd hx hb dX7_layTrees_211 ?_
                      refine x_top (y := nI ((lmF (mtr S) (mpcN S) cc) + 1)) (nI_add _ _) ?_
                      refine lv_goto (tgt := 219) hx hb dX7_layTrees_212 rfl ?_
                      exact K219 ((lmF (mtr S) (mpcN S) cc) + 1) _ _ _ (by first | exact (if_pos (by omega)).symm | exact ((if_neg (by omega)).trans (if_pos (by omega))).symm | exact ((if_neg (by omega)).trans (if_neg (by omega))).symm) hw (lv_sub hl [1, 2, 3, 0] rfl)
                  · refine lv_iconst (v := nI 1) hx hb dX7_layTrees_194 rfl ?_
                    refine lv_goto (tgt := 219) hx hb dX7_layTrees_195 rfl ?_
                    exact K219 1 _ _ _ (by first | exact (if_pos (by omega)).symm | exact ((if_neg (by omega)).trans (if_pos (by omega))).symm | exact ((if_neg (by omega)).trans (if_neg (by omega))).symm) hw (lv_sub hl [1, 2, 3, 0] rfl)
          exact K158 _ 0 (va_up (va_up (va_up (va_up (va_up (va_up S 18 (fun _ => nI 1)) 19 fs) 20 f) 22 (fun _ => nI 100000000)) 23 (fun _ => nI 0)) 24 (fun _ => nI 0)) _ _ _ (Nat.lt_succ_self _) (by exact Nat.zero_le _) (by exact LT.ini hB hV hsl (by rw [h1, show pn = mpcN S by omega])) hw (lv_sub hl [2, 1, 0] rfl)
        · refine lv_iconst (v := nI 0) hx hb dX7_layTrees_27 rfl ?_
          refine lv_istore_n (lv' := [(2, .int (nI 0)), (0, .ref (q 30)), (1, .int (nI pn))]) hx hb dX7_layTrees_28 rfl hl (Nat.le_of_ble_eq_true rfl) rfl (fun ls hl => ?_)
          have K29 : ∀ (n29_ : Nat) (x : Nat) (f : Nat → Int32) (H : Heap) (locs : List Loc) (ls : Array Slot), 6 - x < n29_ → (x ≤ 6) → (f = trU (S 20) (mtr S) (7 * pn + x)) → Wd D A s.heap H locs (wM k q (va_up (va_up (va_up S 18 (fun _ => nI 1)) 19 fs) 20 f) X) → lv_has ls 4 [(0, .ref (q 30)), (1, .int (nI pn)), (2, .int (nI x))] → W p l e R s m args below meth c H locs 0 0 Q (F0 m 29 ls []) := by
            intro n29_
            induction n29_ with
            | zero =>
              intro x f H locs ls hn29_
              exact absurd hn29_ (Nat.not_lt_zero _)
            | succ n29_ ih29_ =>
              intro x f H locs ls hn29_ hx6 h2 hw hl
              refine lv_iload_n hx hb dX7_layTrees_29 rfl (lv_at hl 2 rfl) ?_
              refine lv_bipush (v := nI 6) hx hb dX7_layTrees_30 rfl ?_
              refine x_icmp_ge x 6 F (by omega) (by omega) (tgt := 111) dX7_layTrees_32 rfl (fun c32 => ?_) (fun c32 => ?_)
              · refine lv_aload_n hx hb dX7_layTrees_111 rfl (lv_at hl 0 rfl) ?_
                refine x_getr frM_20 F hw fo_X7_52 dX7_layTrees_112 ?_
                refine lv_bipush (v := nI 7) hx hb dX7_layTrees_115 rfl ?_
                refine lv_iload_n hx hb dX7_layTrees_117 rfl (lv_at hl 1 rfl) ?_
                refine lv_imul hx hb dX7_layTrees_118 ?_
                refine x_top (y := nI (7 * pn)) (pk_mul _ _) ?_
                refine lv_bipush (v := nI 6) hx hb dX7_layTrees_119 rfl ?_
                refine lv_iadd hx hb dX7_layTrees_121 ?_
                refine x_top (y := nI ((7 * pn) + 6)) (nI_add _ _) ?_
                refine lv_aload_n hx hb dX7_layTrees_122 rfl (lv_at hl 0 rfl) ?_
                refine x_getr frM_5 F hw fo_X7_22 dX7_layTrees_123 ?_
                refine lv_iconst (v := nI 0) hx hb dX7_layTrees_126 rfl ?_
                refine x_iald aiM_5 F hw 0 rfl (by omega) dX7_layTrees_127 ?_
                refine x_top (y := S 5 0) rfl ?_
                refine x_top (y := nI (clN (S 5 0))) hB.1 ?_
                refine x_iast aiM_20 F hw ((7 * pn) + 6) rfl (by omega) dX7_layTrees_128 (fun H locs hw => ?_)
                refine lv_iinc (v := nI (pn + 1)) (lv' := [(1, .int (nI (pn + 1))), (0, .ref (q 30)), (2, .int (nI x))]) hx hb dX7_layTrees_129 hl (k := 1) rfl (nI_1 _) (Nat.le_of_ble_eq_true rfl) rfl (fun ls hl => ?_)
                refine lv_goto (tgt := 19) hx hb dX7_layTrees_132 rfl ?_
                exact ih19_ (pn + 1) (upd f ((7 * pn) + 6) (nI (clN (S 5 0)))) _ _ _ (by first | omega | (simp only [] at *; omega)) (by first | assumption | omega | rfl) (by rw [h2, show x = 6 by omega]; exact trU_s (by omega) mtr_6.symm) hw (lv_sub hl [1, 0] rfl)
              · refine lv_iload_n hx hb dX7_layTrees_35 rfl (lv_at hl 2 rfl) ?_
                refine lv_aload_n hx hb dX7_layTrees_36 rfl (lv_at hl 0 rfl) ?_
                refine x_geti fiM_0 F hw fo_X7_65 dX7_layTrees_37 ?_
                refine x_top (y := S 0 0) rfl ?_
                refine x_top (y := nI (mpcN S)) hP.1 ?_
                have K68 : ∀ (t : Bool) (H : Heap) (locs : List Loc) (ls : Array Slot), (t = mtB S pn x) → Wd D A s.heap H locs (wM k q (va_up (va_up (va_up S 18 (fun _ => nI 1)) 19 fs) 20 f) X) → lv_has ls 4 [(0, .ref (q 30)), (1, .int (nI pn)), (2, .int (nI x))] → W p l e R s m args below meth c H locs 0 0 Q (F0 m 68 ls [.int (b01 t)]) := by
                  intro t H locs ls h68 hw hl
                  refine lv_istore_n (lv' := [(3, .int (b01 t)), (0, .ref (q 30)), (1, .int (nI pn)), (2, .int (nI x))]) hx hb dX7_layTrees_68 rfl hl (Nat.le_of_ble_eq_true rfl) rfl (fun ls hl => ?_)
                  refine lv_aload_n hx hb dX7_layTrees_69 rfl (lv_at hl 1 rfl) ?_
                  refine x_getr frM_20 F hw fo_X7_52 dX7_layTrees_70 ?_
                  refine lv_bipush (v := nI 7) hx hb dX7_layTrees_73 rfl ?_
                  refine lv_iload_n hx hb dX7_layTrees_75 rfl (lv_at hl 2 rfl) ?_
                  refine lv_imul hx hb dX7_layTrees_76 ?_
                  refine x_top (y := nI (7 * pn)) (pk_mul _ _) ?_
                  refine lv_iload_n hx hb dX7_layTrees_77 rfl (lv_at hl 3 rfl) ?_
                  refine lv_iadd hx hb dX7_layTrees_78 ?_
                  refine x_top (y := nI ((7 * pn) + x)) (nI_add _ _) ?_
                  refine lv_iload_n hx hb dX7_layTrees_79 rfl (lv_at hl 0 rfl) ?_
                  have K104 : ∀ (v : Nat) (H : Heap) (locs : List Loc) (ls : Array Slot), (v = mtr S pn x) → Wd D A s.heap H locs (wM k q (va_up (va_up (va_up S 18 (fun _ => nI 1)) 19 fs) 20 f) X) → lv_has ls 4 [(0, .ref (q 30)), (1, .int (nI pn)), (2, .int (nI x)), (3, .int (b01 t))] → W p l e R s m args below meth c H locs 0 0 Q (F0 m 104 ls [.int (nI v), .int (nI (7 * pn + x)), .ref (q 20)]) := by
                    intro v H locs ls h104 hw hl
                    refine x_iast aiM_20 F hw (7 * pn + x) rfl (by omega) dX7_layTrees_104 (fun H locs hw => ?_)
                    refine lv_iinc (v := nI (x + 1)) (lv' := [(2, .int (nI (x + 1))), (0, .ref (q 30)), (1, .int (nI pn)), (3, .int (b01 t))]) hx hb dX7_layTrees_105 hl (k := 2) rfl (nI_1 _) (Nat.le_of_ble_eq_true rfl) rfl (fun ls hl => ?_)
                    refine lv_goto (tgt := 29) hx hb dX7_layTrees_108 rfl ?_
                    exact ih29_ (x + 1) (upd f (7 * pn + x) (nI v)) _ _ _ (by first | omega | (simp only [] at *; omega)) (by first | assumption | omega | rfl) (by rw [h2]; exact trU_s (by omega) h104) hw (lv_sub hl [1, 2, 0] rfl)
                  refine lv_if_eq (tgt := 102) hx hb dX7_layTrees_80 rfl (fun c80 => ?_) (fun c80 => ?_)
                  · refine x_ldc F ld_X7_111 dX7_layTrees_102 ?_
                    exact K104 100000000 _ _ _ (by first | exact (mtr_far (by omega) (h68.symm.trans (b01_0.mp c80))).symm | exact (mtr_near (by omega) (h68.symm.trans (b01_1.mp c80))).symm) hw (lv_sub hl [1, 2, 3, 0] rfl)
                  · refine lv_aload_n hx hb dX7_layTrees_83 rfl (lv_at hl 1 rfl) ?_
                    refine lv_aload_n hx hb dX7_layTrees_84 rfl (lv_at hl 1 rfl) ?_
                    refine x_getr frM_1 F hw fo_X7_7 dX7_layTrees_85 ?_
                    refine lv_iload_n hx hb dX7_layTrees_88 rfl (lv_at hl 3 rfl) ?_
                    refine x_iald aiM_1 F hw x rfl (by omega) dX7_layTrees_89 ?_
                    refine x_top (y := S 1 x) rfl ?_
                    refine lv_aload_n hx hb dX7_layTrees_90 rfl (lv_at hl 1 rfl) ?_
                    refine x_getr frM_1 F hw fo_X7_7 dX7_layTrees_91 ?_
                    refine lv_iload_n hx hb dX7_layTrees_94 rfl (lv_at hl 2 rfl) ?_
                    refine x_iald aiM_1 F hw pn rfl (by omega) dX7_layTrees_95 ?_
                    refine x_top (y := S 1 pn) rfl ?_
                    refine x_fVI (rest := [.int (nI ((7 * pn) + x)), .ref (q 20)]) (c_X7_costOf l D k q (va_up (va_up (va_up S 18 (fun _ => nI 1)) 19 fs) 20 f) X (S 1 x) (S 1 pn)) mo_X7_108 obM F hw (Nat.le_of_ble_eq_true rfl) (x_cs F (Nat.le_of_ble_eq_true rfl) (Nat.le_of_ble_eq_true rfl)) rfl rfl hl.1 (Nat.le_of_ble_eq_true rfl) dX7_layTrees_96 (fun H locs hw => ?_)
                    refine x_top (y := nI (cstN (slN (S 9) (rulN S)) (S 1 x) (S 1 pn) 8)) ((costF_cg (sl' := slM (S 9) (rulN S)) hsl (S 1 x) (S 1 pn) 8).trans (cst_nat (fun a b ha hb => slM_nat hV ha hb) _ _ 8).1) ?_
                    refine lv_goto (tgt := 104) hx hb dX7_layTrees_99 rfl ?_
                    exact K104 (cstN (slN (S 9) (rulN S)) (S 1 x) (S 1 pn) 8) _ _ _ (by first | exact (mtr_far (by omega) (h68.symm.trans (b01_0.mp c80))).symm | exact (mtr_near (by omega) (h68.symm.trans (b01_1.mp c80))).symm) hw (lv_sub hl [1, 2, 3, 0] rfl)
                refine x_icmp_ge x (mpcN S) F (by omega) (by omega) (tgt := 67) dX7_layTrees_40 rfl (fun c40 => ?_) (fun c40 => ?_)
                · refine lv_iconst (v := nI 0) hx hb dX7_layTrees_67 rfl ?_
                  exact K68 false _ _ _ (by unfold mtB; first | exact (bA0 (bA0 (decide_eq_false (by omega)))).symm | exact (bA0 (bA1 (decide_eq_false (by omega)))).symm | exact (bA1 (decide_eq_false (Int32.not_le.mpr c60))).symm | exact (bAt (bAt (decide_eq_true (by omega)) (decide_eq_true (by omega))) (decide_eq_true (Int32.not_lt.mp c60))).symm) hw (lv_sub hl [0, 1, 2] rfl)
                · refine lv_iload_n hx hb dX7_layTrees_43 rfl (lv_at hl 2 rfl) ?_
                  refine lv_iload_n hx hb dX7_layTrees_44 rfl (lv_at hl 1 rfl) ?_
                  refine x_icmp_eq x pn F (by omega) (by omega) (tgt := 67) dX7_layTrees_45 rfl (fun c45 => ?_) (fun c45 => ?_)
                  · refine lv_iconst (v := nI 0) hx hb dX7_layTrees_67 rfl ?_
                    exact K68 false _ _ _ (by unfold mtB; first | exact (bA0 (bA0 (decide_eq_false (by omega)))).symm | exact (bA0 (bA1 (decide_eq_false (by omega)))).symm | exact (bA1 (decide_eq_false (Int32.not_le.mpr c60))).symm | exact (bAt (bAt (decide_eq_true (by omega)) (decide_eq_true (by omega))) (decide_eq_true (Int32.not_lt.mp c60))).symm) hw (lv_sub hl [0, 1, 2] rfl)
                  · refine lv_aload_n hx hb dX7_layTrees_48 rfl (lv_at hl 0 rfl) ?_
                    refine x_getr frM_2 F hw fo_X7_13 dX7_layTrees_49 ?_
                    refine lv_iload_n hx hb dX7_layTrees_52 rfl (lv_at hl 2 rfl) ?_
                    refine x_iald aiM_2 F hw x rfl (by omega) dX7_layTrees_53 ?_
                    refine x_top (y := S 2 x) rfl ?_
                    refine lv_aload_n hx hb dX7_layTrees_54 rfl (lv_at hl 0 rfl) ?_
                    refine x_getr frM_3 F hw fo_X7_16 dX7_layTrees_55 ?_
                    refine lv_iload_n hx hb dX7_layTrees_58 rfl (lv_at hl 1 rfl) ?_
                    refine x_iald aiM_3 F hw pn rfl (by omega) dX7_layTrees_59 ?_
                    refine x_top (y := S 3 pn) rfl ?_
                    refine lv_icmp_gt (tgt := 67) hx hb dX7_layTrees_60 rfl (fun c60 => ?_) (fun c60 => ?_)
                    · refine lv_iconst (v := nI 0) hx hb dX7_layTrees_67 rfl ?_
                      exact K68 false _ _ _ (by unfold mtB; first | exact (bA0 (bA0 (decide_eq_false (by omega)))).symm | exact (bA0 (bA1 (decide_eq_false (by omega)))).symm | exact (bA1 (decide_eq_false (Int32.not_le.mpr c60))).symm | exact (bAt (bAt (decide_eq_true (by omega)) (decide_eq_true (by omega))) (decide_eq_true (Int32.not_lt.mp c60))).symm) hw (lv_sub hl [0, 1, 2] rfl)
                    · refine lv_iconst (v := nI 1) hx hb dX7_layTrees_63 rfl ?_
                      refine lv_goto (tgt := 68) hx hb dX7_layTrees_64 rfl ?_
                      exact K68 true _ _ _ (by unfold mtB; first | exact (bA0 (bA0 (decide_eq_false (by omega)))).symm | exact (bA0 (bA1 (decide_eq_false (by omega)))).symm | exact (bA1 (decide_eq_false (Int32.not_le.mpr c60))).symm | exact (bAt (bAt (decide_eq_true (by omega)) (decide_eq_true (by omega))) (decide_eq_true (Int32.not_lt.mp c60))).symm) hw (lv_sub hl [0, 1, 2] rfl)
          exact K29 _ 0 f _ _ _ (Nat.lt_succ_self _) (by first | assumption | omega | rfl) (by exact h1) hw (lv_sub hl [1, 2, 0] rfl)
    exact K19 _ 0 (S 20) _ _ _ (Nat.lt_succ_self _) (by first | assumption | omega | rfl) (by exact trU_0.symm) hw (lv_sub hl [1, 0] rfl)
  · obtain ⟨hl1, hl2⟩ := hLd.resolve_left (fun q => c4 q)
    exact hret _ _ _ _ _ dX7_layTrees_7 hw ⟨S, rfl, fun _ _ => rfl, hl1, hl2⟩
