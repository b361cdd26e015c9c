/-! ===== the reference: lost: pure words ===== -/
def lwL (f : Nat → Int32) : Nat → Int32
  | 0 => nI 100000000
  | b + 1 => if f b < lwL f b then f b else lwL f b
def lwK (f : Nat → Int32) : Nat → Nat
  | 0 => 0
  | b + 1 => if f b < lwL f b then b else lwK f b
def slm (S : St) : Nat → Nat → Int32 := slM (S 9) (rulN S)
def mls (S : St) (pi o : Int32) : Nat → Nat → Int32 := lscF (slm S) (S 1) (mpcN S) pi o
def mdN (S : St) (pi o : Int32) : Nat → Nat
  | 0 => 0
  | s + 1 => 4 * mdN S pi o s + lwK (mls S pi o s) 4
def mcw (S : St) (pi o : Int32) : Nat → Int32
  | 0 => if 0 ≤ pi then nI 0 else S 5 0
  | s + 1 => mcw S pi o s + lwL (mls S pi o s) 4
def m_lost (S : St) (pi o wh : Int32) : Int32 := if (¬ pi = (-1) ∧ haMP S pi = 0) ∨ o < 0 ∨ ¬ o < (nI 1 <<< (nI (mpcN S) &&& 31)) then (-1) else if o = 0 ∨ (0 ≤ pi ∧ hbt o (clN pi) = true) ∨ f_in wh (nI 0) (nI 2) = 0 then (-2) else if wh = 0 then nI (mdN S pi o 8) else if wh = nI 1 then mcw S pi o 8 else strF (slm S) (S 1) (mpcN S) (S 5 0) pi o - mcw S pi o 8 + nI 10000
theorem add_0 (x : Int32) : x + nI 0 = x := Int32.add_zero x
theorem sumIf_s {o : Int32} {f : Nat → Int32} {x0 y x : Int32} {n : Nat} (h : y = if hbt o n then f n else nI 0) (hx : x = sumIf o f x0 n) : x + y = sumIf o f x0 (n + 1) := by
  cases e : hbt o n with
  | true => rw [sumIf_y e, h, if_pos e, hx]
  | false => rw [sumIf_n e, h, if_neg (by rw [e]; decide), add_0, hx]
set_option maxHeartbeats 4000000 in
set_option maxRecDepth 20000 in
theorem c_X7_lost (l : Launch) (D : va_G) (k : Nat → ClassId) (q : Nat → Nat) (S : St) (X : va_W) (pi : Int32) (o : Int32) (wh : Int32) (hP : okMP S) (hL : okML S) (hV : okMV S) : CI l D k yX7_lost cX7_lost 12 (some .int) 2 0 0 [.ref (q 30), .int pi, .int o, .int wh] (wM k q S X) (fun r w' => ∃ S', w' = wM k q S' X ∧ SlR S S' ∧ r = m_lost S pi o wh) := by
  refine CI.mk (by decide) (Nat.le_of_ble_eq_true rfl) ?_
  intro p e R s m args below meth c A Q ls F hret hw hl
  have hx := xs_hx F
  have hb := xs_hb F
  have hl : lv_has ls 12 [(0, .ref (q 30)), (1, .int pi), (2, .int o), (3, .int wh)] := hl
  have h6 := hP.2
  have hl50 := hL.2
  refine lv_iload_n hx hb dX7_lost_0 rfl (lv_at hl 1 rfl) ?_
  refine lv_iconst (v := (-1)) hx hb dX7_lost_1 rfl ?_
  have K13 : ∀ (H : Heap) (locs : List Loc) (ls : Array Slot), (¬ (¬ pi = (-1) ∧ haMP S pi = 0)) → Wd D A s.heap H locs (wM k q S X) → lv_has ls 12 [(0, .ref (q 30)), (1, .int pi), (2, .int o), (3, .int wh)] → W p l e R s m args below meth c H locs 0 0 Q (F0 m 13 ls []) := by
    intro H locs ls hck hw hl
    have hpi : 0 ≤ pi → clN pi < mpcN S := fun w => (haMP_t hP (fun z => hck ⟨fun e => by rw [e] at w; exact absurd w (by decide), z⟩)).2
    refine lv_iload_n hx hb dX7_lost_13 rfl (lv_at hl 2 rfl) ?_
    refine lv_if_lt (tgt := 27) hx hb dX7_lost_14 rfl (fun c14 => ?_) (fun c14 => ?_)
    · refine lv_iconst (v := (-1)) hx hb dX7_lost_27 rfl ?_
      exact hret _ _ _ _ _ _ dX7_lost_28 hw rfl ⟨S, rfl, Or.inl rfl, by unfold m_lost; first | exact (if_pos (Or.inr (Or.inr c24))).symm | exact (if_pos (Or.inr (Or.inl c14))).symm | exact (if_pos (Or.inl (And.intro c2 c10))).symm⟩
    · refine lv_iload_n hx hb dX7_lost_17 rfl (lv_at hl 2 rfl) ?_
      refine lv_iconst (v := nI 1) hx hb dX7_lost_18 rfl ?_
      refine lv_aload_n hx hb dX7_lost_19 rfl (lv_at hl 0 rfl) ?_
      refine x_geti fiM_0 F hw fo_X7_65 dX7_lost_20 ?_
      refine x_top (y := nI (mpcN S)) hP.1 ?_
      refine lv_ishl hx hb dX7_lost_23 ?_
      refine lv_icmp_lt (tgt := 29) hx hb dX7_lost_24 rfl (fun c24 => ?_) (fun c24 => ?_)
      · refine lv_iload_n hx hb dX7_lost_29 rfl (lv_at hl 2 rfl) ?_
        refine lv_if_eq (tgt := 55) hx hb dX7_lost_30 rfl (fun c30 => ?_) (fun c30 => ?_)
        · refine lv_bipush (v := (-2)) hx hb dX7_lost_55 rfl ?_
          exact hret _ _ _ _ _ _ dX7_lost_57 hw rfl ⟨S, rfl, Or.inl rfl, by unfold m_lost; rw [if_neg (fun w => w.elim hck (fun w => w.elim c14 (fun w => w c24)))]; first | exact (if_pos (Or.inl c30)).symm | exact (if_pos (Or.inr (Or.inr c52))).symm | exact (if_pos (Or.inr (Or.inl ⟨Int32.not_lt.mp c34, hbt_1 c43⟩))).symm⟩
        · refine lv_iload_n hx hb dX7_lost_33 rfl (lv_at hl 1 rfl) ?_
          have K46 : ∀ (H : Heap) (locs : List Loc) (ls : Array Slot), (¬ (0 ≤ pi ∧ hbt o (clN pi) = true)) → Wd D A s.heap H locs (wM k q S X) → lv_has ls 12 [(0, .ref (q 30)), (1, .int pi), (2, .int o), (3, .int wh)] → W p l e R s m args below meth c H locs 0 0 Q (F0 m 46 ls []) := by
            intro H locs ls h46 hw hl
            refine lv_iload_n hx hb dX7_lost_46 rfl (lv_at hl 3 rfl) ?_
            refine lv_iconst (v := nI 0) hx hb dX7_lost_47 rfl ?_
            refine lv_iconst (v := nI 2) hx hb dX7_lost_48 rfl ?_
            refine x_fSI (rest := []) (c_X7_in l D k (wM k q S X) wh (nI 0) (nI 2)) mo_X7_69 F hw (Nat.le_of_ble_eq_true rfl) (x_cs F (Nat.le_of_ble_eq_true rfl) (Nat.le_of_ble_eq_true rfl)) rfl rfl hl.1 (Nat.le_of_ble_eq_true rfl) dX7_lost_49 (fun H locs hw => ?_)
            refine lv_if_ne (tgt := 58) hx hb dX7_lost_52 rfl (fun c52 => ?_) (fun c52 => ?_)
            · refine lv_aload_n hx hb dX7_lost_58 rfl (lv_at hl 0 rfl) ?_
              refine x_callVV (rest := []) (c_X7_laySlips l D k q S X hL hV) mo_X7_101 obM F hw (Nat.le_of_ble_eq_true rfl) (x_cs F (Nat.le_of_ble_eq_true rfl) (Nat.le_of_ble_eq_true rfl)) rfl rfl hl.1 (Nat.le_of_ble_eq_true rfl) dX7_lost_59 (fun w_ H locs hp hw => ?_)
              obtain ⟨fs, hp1, hsl⟩ := hp
              rw [hp1] at hw
              have hsl : slOk S fs := hsl
              refine lv_iconst (v := nI 0) hx hb dX7_lost_62 rfl ?_
              refine lv_istore (lv' := [(4, .int (nI 0)), (0, .ref (q 30)), (1, .int pi), (2, .int o), (3, .int wh)]) hx hb dX7_lost_63 hl (Nat.le_of_ble_eq_true rfl) rfl (fun ls hl => ?_)
              refine lv_iload_n hx hb dX7_lost_65 rfl (lv_at hl 2 rfl) ?_
              have K79 : ∀ (y : Int32) (H : Heap) (locs : List Loc) (ls : Array Slot), (y = mcw S pi o 0) → Wd D A s.heap H locs (wM k q (va_up S 19 fs) X) → lv_has ls 12 [(0, .ref (q 30)), (1, .int pi), (2, .int o), (3, .int wh), (4, .int (nI 0))] → W p l e R s m args below meth c H locs 0 0 Q (F0 m 79 ls [.int y]) := by
                intro y H locs ls h79 hw hl
                refine lv_istore (lv' := [(5, .int y), (0, .ref (q 30)), (1, .int pi), (2, .int o), (3, .int wh), (4, .int (nI 0))]) hx hb dX7_lost_79 hl (Nat.le_of_ble_eq_true rfl) rfl (fun ls hl => ?_)
                refine lv_iconst (v := nI 0) hx hb dX7_lost_81 rfl ?_
                refine lv_istore (lv' := [(6, .int (nI 0)), (5, .int y), (0, .ref (q 30)), (1, .int pi), (2, .int o), (3, .int wh), (4, .int (nI 0))]) hx hb dX7_lost_82 hl (Nat.le_of_ble_eq_true rfl) rfl (fun ls hl => ?_)
                have K84 : ∀ (n84_ : Nat) (s8 : Nat) (md : Nat) (co : Int32) (H : Heap) (locs : List Loc) (ls : Array Slot), 8 - s8 < n84_ → (s8 ≤ 8) → (md = mdN S pi o s8) → (co = mcw S pi o s8) → Wd D A s.heap H locs (wM k q (va_up S 19 fs) X) → lv_has ls 12 [(0, .ref (q 30)), (1, .int pi), (2, .int o), (3, .int wh), (4, .int (nI md)), (5, .int co), (6, .int (nI s8))] → W p l e R s m args below meth c H locs 0 0 Q (F0 m 84 ls []) := by
                  intro n84_
                  induction n84_ with
                  | zero =>
                    intro s8 md co H locs ls hn84_
                    exact absurd hn84_ (Nat.not_lt_zero _)
                  | succ n84_ ih84_ =>
                    intro s8 md co H locs ls hn84_ hs8 h1 h2 hw hl
                    refine lv_iload hx hb dX7_lost_84 (lv_at hl 6 rfl) ?_
                    refine lv_bipush (v := nI 8) hx hb dX7_lost_86 rfl ?_
                    refine x_icmp_ge s8 8 F (by omega) (by omega) (tgt := 257) dX7_lost_88 rfl (fun c88 => ?_) (fun c88 => ?_)
                    · refine lv_iconst (v := nI 0) hx hb dX7_lost_257 rfl ?_
                      refine lv_istore (lv' := [(6, .int (nI 0)), (0, .ref (q 30)), (1, .int pi), (2, .int o), (3, .int wh), (4, .int (nI md)), (5, .int co)]) hx hb dX7_lost_258 hl (Nat.le_of_ble_eq_true rfl) rfl (fun ls hl => ?_)
                      refine lv_iconst (v := nI 0) hx hb dX7_lost_260 rfl ?_
                      refine lv_istore (lv' := [(7, .int (nI 0)), (6, .int (nI 0)), (0, .ref (q 30)), (1, .int pi), (2, .int o), (3, .int wh), (4, .int (nI md)), (5, .int co)]) hx hb dX7_lost_261 hl (Nat.le_of_ble_eq_true rfl) rfl (fun ls hl => ?_)
                      have K263 : ∀ (n263_ : Nat) (pn : Nat) (sv : Int32) (H : Heap) (locs : List Loc) (ls : Array Slot), mpcN S - pn < n263_ → (pn ≤ mpcN S) → (sv = sumIf o (fun p => if 0 ≤ pi then costF (slm S) (S 1 pi.toNatClampNeg) (S 1 p) 8 else S 5 0) (nI 0) pn) → Wd D A s.heap H locs (wM k q (va_up S 19 fs) X) → lv_has ls 12 [(0, .ref (q 30)), (1, .int pi), (2, .int o), (3, .int wh), (4, .int (nI md)), (5, .int co), (6, .int sv), (7, .int (nI pn))] → W p l e R s m args below meth c H locs 0 0 Q (F0 m 263 ls []) := by
                        intro n263_
                        induction n263_ with
                        | zero =>
                          intro pn sv H locs ls hn263_
                          exact absurd hn263_ (Nat.not_lt_zero _)
                        | succ n263_ ih263_ =>
                          intro pn sv H locs ls hn263_ hpn h6s hw hl
                          refine lv_iload hx hb dX7_lost_263 (lv_at hl 7 rfl) ?_
                          refine lv_aload_n hx hb dX7_lost_265 rfl (lv_at hl 0 rfl) ?_
                          refine x_geti fiM_0 F hw fo_X7_65 dX7_lost_266 ?_
                          refine x_top (y := S 0 0) rfl ?_
                          refine x_top (y := nI (mpcN S)) hP.1 ?_
                          refine x_icmp_ge pn (mpcN S) F (by omega) (by omega) (tgt := 326) dX7_lost_269 rfl (fun c269 => ?_) (fun c269 => ?_)
                          · refine lv_iload_n hx hb dX7_lost_326 rfl (lv_at hl 3 rfl) ?_
                            have K354 : ∀ (y : Int32) (H : Heap) (locs : List Loc) (ls : Array Slot), (y = if wh = 0 then nI (mdN S pi o 8) else if wh = nI 1 then mcw S pi o 8 else strF (slm S) (S 1) (mpcN S) (S 5 0) pi o - mcw S pi o 8 + nI 10000) → Wd D A s.heap H locs (wM k q (va_up S 19 fs) X) → lv_has ls 12 [(0, .ref (q 30)), (1, .int pi), (2, .int o), (3, .int wh), (4, .int (nI md)), (5, .int co), (6, .int sv), (7, .int (nI pn))] → W p l e R s m args below meth c H locs 0 0 Q (F0 m 354 ls [.int y]) := by
                              intro y H locs ls h354 hw hl
                              exact hret _ _ _ _ _ _ dX7_lost_354 hw rfl ⟨_, rfl, Or.inr ⟨fs, rfl, hsl⟩, by unfold m_lost; rw [if_neg (fun w => w.elim hck (fun w => w.elim c14 (fun w => w c24))), if_neg (fun w => w.elim c30 (fun w => w.elim h46 c52))]; exact h354⟩
                            refine lv_if_ne (tgt := 335) hx hb dX7_lost_327 rfl (fun c327 => ?_) (fun c327 => ?_)
                            · refine lv_iload_n hx hb dX7_lost_335 rfl (lv_at hl 3 rfl) ?_
                              refine lv_iconst (v := nI 1) hx hb dX7_lost_336 rfl ?_
                              refine lv_icmp_ne (tgt := 345) hx hb dX7_lost_337 rfl (fun c337 => ?_) (fun c337 => ?_)
                              · refine lv_iload hx hb dX7_lost_345 (lv_at hl 6 rfl) ?_
                                refine lv_iload hx hb dX7_lost_347 (lv_at hl 5 rfl) ?_
                                refine lv_isub hx hb dX7_lost_349 ?_
                                refine lv_sipush (v := nI 10000) hx hb dX7_lost_350 rfl ?_
                                refine lv_iadd hx hb dX7_lost_353 ?_
                                exact K354 ((sv - co) + (nI 10000)) _ _ _ (by first | (rw [if_pos c327, h1, show s8 = 8 by omega]) | (rw [if_neg c327, if_pos c337, h2, show s8 = 8 by omega]) | (rw [if_neg c327, if_neg c337, h6s, h2, show s8 = 8 by omega, show pn = mpcN S by omega]; rfl)) hw (lv_sub hl [0, 1, 2, 3, 4, 5, 6, 7] rfl)
                              · refine lv_iload hx hb dX7_lost_340 (lv_at hl 5 rfl) ?_
                                refine lv_goto (tgt := 354) hx hb dX7_lost_342 rfl ?_
                                exact K354 co _ _ _ (by first | (rw [if_pos c327, h1, show s8 = 8 by omega]) | (rw [if_neg c327, if_pos c337, h2, show s8 = 8 by omega]) | (rw [if_neg c327, if_neg c337, h6s, h2, show s8 = 8 by omega, show pn = mpcN S by omega]; rfl)) hw (lv_sub hl [0, 1, 2, 3, 4, 5, 6, 7] rfl)
                            · refine lv_iload hx hb dX7_lost_330 (lv_at hl 4 rfl) ?_
                              refine lv_goto (tgt := 354) hx hb dX7_lost_332 rfl ?_
                              exact K354 (nI md) _ _ _ (by first | (rw [if_pos c327, h1, show s8 = 8 by omega]) | (rw [if_neg c327, if_pos c337, h2, show s8 = 8 by omega]) | (rw [if_neg c327, if_neg c337, h6s, h2, show s8 = 8 by omega, show pn = mpcN S by omega]; rfl)) hw (lv_sub hl [0, 1, 2, 3, 4, 5, 6, 7] rfl)
                          · refine lv_iload hx hb dX7_lost_272 (lv_at hl 6 rfl) ?_
                            refine lv_iload_n hx hb dX7_lost_274 rfl (lv_at hl 2 rfl) ?_
                            refine lv_iload hx hb dX7_lost_275 (lv_at hl 7 rfl) ?_
                            refine lv_ishr hx hb dX7_lost_277 ?_
                            refine lv_iconst (v := nI 1) hx hb dX7_lost_278 rfl ?_
                            refine lv_iand hx hb dX7_lost_279 ?_
                            have K317 : ∀ (y : Int32) (H : Heap) (locs : List Loc) (ls : Array Slot), (y = if hbt o pn then (fun p => if 0 ≤ pi then costF (slm S) (S 1 pi.toNatClampNeg) (S 1 p) 8 else S 5 0) pn else nI 0) → Wd D A s.heap H locs (wM k q (va_up S 19 fs) X) → lv_has ls 12 [(0, .ref (q 30)), (1, .int pi), (2, .int o), (3, .int wh), (4, .int (nI md)), (5, .int co), (6, .int sv), (7, .int (nI pn))] → W p l e R s m args below meth c H locs 0 0 Q (F0 m 317 ls [.int y, .int sv]) := by
                              intro y H locs ls h317 hw hl
                              refine lv_iadd hx hb dX7_lost_317 ?_
                              refine lv_istore (lv' := [(6, .int (sv + y)), (0, .ref (q 30)), (1, .int pi), (2, .int o), (3, .int wh), (4, .int (nI md)), (5, .int co), (7, .int (nI pn))]) hx hb dX7_lost_318 hl (Nat.le_of_ble_eq_true rfl) rfl (fun ls hl => ?_)
                              refine lv_iinc (v := nI (pn + 1)) (lv' := [(7, .int (nI (pn + 1))), (6, .int (sv + y)), (0, .ref (q 30)), (1, .int pi), (2, .int o), (3, .int wh), (4, .int (nI md)), (5, .int co)]) hx hb dX7_lost_320 hl (k := 7) rfl (nI_1 _) (Nat.le_of_ble_eq_true rfl) rfl (fun ls hl => ?_)
                              refine lv_goto (tgt := 263) hx hb dX7_lost_323 rfl ?_
                              exact ih263_ (pn + 1) (sv + y) _ _ _ (by first | omega | (simp only [] at *; omega)) (by first | assumption | omega | rfl) (by exact sumIf_s h317 h6s) hw (lv_sub hl [2, 3, 4, 5, 6, 7, 1, 0] rfl)
                            refine lv_if_ne (tgt := 287) hx hb dX7_lost_280 rfl (fun c280 => ?_) (fun c280 => ?_)
                            · refine lv_iload_n hx hb dX7_lost_287 rfl (lv_at hl 1 rfl) ?_
                              refine lv_if_ge (tgt := 300) hx hb dX7_lost_288 rfl (fun c288 => ?_) (fun c288 => ?_)
                              · refine lv_aload_n hx hb dX7_lost_300 rfl (lv_at hl 0 rfl) ?_
                                refine lv_aload_n hx hb dX7_lost_301 rfl (lv_at hl 0 rfl) ?_
                                refine x_getr frM_1 F hw fo_X7_7 dX7_lost_302 ?_
                                refine lv_iload_n hx hb dX7_lost_305 rfl (lv_at hl 1 rfl) ?_
                                refine x_iald aiM_1 F hw (clN pi) (nn_of c288) (Nat.lt_of_lt_of_le (hpi c288) h6) dX7_lost_306 ?_
                                refine x_top (y := S 1 (clN pi)) rfl ?_
                                refine lv_aload_n hx hb dX7_lost_307 rfl (lv_at hl 0 rfl) ?_
                                refine x_getr frM_1 F hw fo_X7_7 dX7_lost_308 ?_
                                refine lv_iload hx hb dX7_lost_311 (lv_at hl 7 rfl) ?_
                                refine x_iald aiM_1 F hw pn rfl (by omega) dX7_lost_313 ?_
                                refine x_top (y := S 1 pn) rfl ?_
                                refine x_fVI (rest := [.int sv]) (c_X7_costOf l D k q (va_up S 19 fs) X (S 1 (clN pi)) (S 1 pn)) mo_X7_108 obM F hw (Nat.le_of_ble_eq_true rfl) (x_cs F (Nat.le_of_ble_eq_true rfl) (Nat.le_of_ble_eq_true rfl)) rfl rfl hl.1 (Nat.le_of_ble_eq_true rfl) dX7_lost_314 (fun H locs hw => ?_)
                                refine x_top (y := costF (slm S) (S 1 (clN pi)) (S 1 pn) 8) (costF_cg hsl _ _ 8) ?_
                                exact K317 (costF (slm S) (S 1 (clN pi)) (S 1 pn) 8) _ _ _ (by first | exact (if_neg (by rw [show hbt o pn = false from bneF c280]; decide)).symm | exact ((if_pos (bneT c280)).trans (if_pos c288)).symm | exact ((if_pos (bneT c280)).trans (if_neg c288)).symm) hw (lv_sub hl [0, 1, 2, 3, 4, 5, 6, 7] rfl)
                              · refine lv_aload_n hx hb dX7_lost_291 rfl (lv_at hl 0 rfl) ?_
                                refine x_getr frM_5 F hw fo_X7_22 dX7_lost_292 ?_
                                refine lv_iconst (v := nI 0) hx hb dX7_lost_295 rfl ?_
                                refine x_iald aiM_5 F hw 0 rfl (by omega) dX7_lost_296 ?_
                                refine x_top (y := S 5 0) rfl ?_
                                refine lv_goto (tgt := 317) hx hb dX7_lost_297 rfl ?_
                                exact K317 (S 5 0) _ _ _ (by first | exact (if_neg (by rw [show hbt o pn = false from bneF c280]; decide)).symm | exact ((if_pos (bneT c280)).trans (if_pos c288)).symm | exact ((if_pos (bneT c280)).trans (if_neg c288)).symm) hw (lv_sub hl [0, 1, 2, 3, 4, 5, 6, 7] rfl)
                            · refine lv_iconst (v := nI 0) hx hb dX7_lost_283 rfl ?_
                              refine lv_goto (tgt := 317) hx hb dX7_lost_284 rfl ?_
                              exact K317 (nI 0) _ _ _ (by first | exact (if_neg (by rw [show hbt o pn = false from bneF c280]; decide)).symm | exact ((if_pos (bneT c280)).trans (if_pos c288)).symm | exact ((if_pos (bneT c280)).trans (if_neg c288)).symm) hw (lv_sub hl [0, 1, 2, 3, 4, 5, 6, 7] rfl)
                      exact K263 _ 0 (nI 0) _ _ _ (Nat.lt_succ_self _) (by first | assumption | omega | rfl) (by rfl) hw (lv_sub hl [2, 3, 4, 5, 6, 7, 1, 0] rfl)
                    · refine lv_iconst (v := nI 0) hx hb dX7_lost_91 rfl ?_
                      refine lv_istore (lv' := [(7, .int (nI 0)), (0, .ref (q 30)), (1, .int pi), (2, .int o), (3, .int wh), (4, .int (nI md)), (5, .int co), (6, .int (nI s8))]) hx hb dX7_lost_92 hl (Nat.le_of_ble_eq_true rfl) rfl (fun ls hl => ?_)
                      refine x_ldc F ld_X7_111 dX7_lost_94 ?_
                      refine lv_istore (lv' := [(8, .int (nI 100000000)), (7, .int (nI 0)), (0, .ref (q 30)), (1, .int pi), (2, .int o), (3, .int wh), (4, .int (nI md)), (5, .int co), (6, .int (nI s8))]) hx hb dX7_lost_96 hl (Nat.le_of_ble_eq_true rfl) rfl (fun ls hl => ?_)
                      refine lv_iconst (v := nI 0) hx hb dX7_lost_98 rfl ?_
                      refine lv_istore (lv' := [(9, .int (nI 0)), (8, .int (nI 100000000)), (7, .int (nI 0)), (0, .ref (q 30)), (1, .int pi), (2, .int o), (3, .int wh), (4, .int (nI md)), (5, .int co), (6, .int (nI s8))]) hx hb dX7_lost_99 hl (Nat.le_of_ble_eq_true rfl) rfl (fun ls hl => ?_)
                      have K101 : ∀ (n101_ : Nat) (b : Nat) (kd : Nat) (lw : Int32) (H : Heap) (locs : List Loc) (ls : Array Slot), 4 - b < n101_ → (b ≤ 4) → (kd = lwK (mls S pi o s8) b) → (lw = lwL (mls S pi o s8) b) → Wd D A s.heap H locs (wM k q (va_up S 19 fs) X) → lv_has ls 12 [(0, .ref (q 30)), (1, .int pi), (2, .int o), (3, .int wh), (4, .int (nI md)), (5, .int co), (6, .int (nI s8)), (7, .int (nI kd)), (8, .int lw), (9, .int (nI b))] → W p l e R s m args below meth c H locs 0 0 Q (F0 m 101 ls []) := by
                        intro n101_
                        induction n101_ with
                        | zero =>
                          intro b kd lw H locs ls hn101_
                          exact absurd hn101_ (Nat.not_lt_zero _)
                        | succ n101_ ih101_ =>
                          intro b kd lw H locs ls hn101_ hb4 h4 h5 hw hl
                          refine lv_iload hx hb dX7_lost_101 (lv_at hl 9 rfl) ?_
                          refine lv_iconst (v := nI 4) hx hb dX7_lost_103 rfl ?_
                          refine x_icmp_ge b 4 F (by omega) (by omega) (tgt := 235) dX7_lost_104 rfl (fun c104 => ?_) (fun c104 => ?_)
                          · refine lv_iconst (v := nI 4) hx hb dX7_lost_235 rfl ?_
                            refine lv_iload hx hb dX7_lost_236 (lv_at hl 4 rfl) ?_
                            refine lv_imul hx hb dX7_lost_238 ?_
                            refine x_top (y := nI (4 * md)) (pk_mul _ _) ?_
                            refine lv_iload hx hb dX7_lost_239 (lv_at hl 7 rfl) ?_
                            refine lv_iadd hx hb dX7_lost_241 ?_
                            refine x_top (y := nI ((4 * md) + kd)) (nI_add _ _) ?_
                            refine lv_istore (lv' := [(4, .int (nI ((4 * md) + kd))), (0, .ref (q 30)), (1, .int pi), (2, .int o), (3, .int wh), (5, .int co), (6, .int (nI s8)), (7, .int (nI kd)), (8, .int lw), (9, .int (nI b))]) hx hb dX7_lost_242 hl (Nat.le_of_ble_eq_true rfl) rfl (fun ls hl => ?_)
                            refine lv_iload hx hb dX7_lost_244 (lv_at hl 5 rfl) ?_
                            refine lv_iload hx hb dX7_lost_246 (lv_at hl 8 rfl) ?_
                            refine lv_iadd hx hb dX7_lost_248 ?_
                            refine lv_istore (lv' := [(5, .int (co + lw)), (4, .int (nI ((4 * md) + kd))), (0, .ref (q 30)), (1, .int pi), (2, .int o), (3, .int wh), (6, .int (nI s8)), (7, .int (nI kd)), (8, .int lw), (9, .int (nI b))]) hx hb dX7_lost_249 hl (Nat.le_of_ble_eq_true rfl) rfl (fun ls hl => ?_)
                            refine lv_iinc (v := nI (s8 + 1)) (lv' := [(6, .int (nI (s8 + 1))), (5, .int (co + lw)), (4, .int (nI ((4 * md) + kd))), (0, .ref (q 30)), (1, .int pi), (2, .int o), (3, .int wh), (7, .int (nI kd)), (8, .int lw), (9, .int (nI b))]) hx hb dX7_lost_251 hl (k := 6) rfl (nI_1 _) (Nat.le_of_ble_eq_true rfl) rfl (fun ls hl => ?_)
                            refine lv_goto (tgt := 84) hx hb dX7_lost_254 rfl ?_
                            exact ih84_ (s8 + 1) ((4 * md) + kd) (co + lw) _ _ _ (by first | omega | (simp only [] at *; omega)) (by first | assumption | omega | rfl) (by rw [h1, h4, show b = 4 by omega]; rfl) (by rw [h2, h5, show b = 4 by omega]; rfl) hw (lv_sub hl [3, 4, 5, 6, 2, 1, 0] rfl)
                          · refine lv_iload_n hx hb dX7_lost_107 rfl (lv_at hl 1 rfl) ?_
                            have K136 : ∀ (y : Int32) (H : Heap) (locs : List Loc) (ls : Array Slot), (y = (if 0 ≤ pi then slm S (stk (S 1 (clN pi)) s8) b else nI 0)) → Wd D A s.heap H locs (wM k q (va_up S 19 fs) X) → lv_has ls 12 [(0, .ref (q 30)), (1, .int pi), (2, .int o), (3, .int wh), (4, .int (nI md)), (5, .int co), (6, .int (nI s8)), (7, .int (nI kd)), (8, .int lw), (9, .int (nI b))] → W p l e R s m args below meth c H locs 0 0 Q (F0 m 136 ls [.int y]) := by
                              intro y H locs ls h136 hw hl
                              refine lv_istore (lv' := [(10, .int y), (0, .ref (q 30)), (1, .int pi), (2, .int o), (3, .int wh), (4, .int (nI md)), (5, .int co), (6, .int (nI s8)), (7, .int (nI kd)), (8, .int lw), (9, .int (nI b))]) hx hb dX7_lost_136 hl (Nat.le_of_ble_eq_true rfl) rfl (fun ls hl => ?_)
                              refine lv_iconst (v := nI 0) hx hb dX7_lost_138 rfl ?_
                              refine lv_istore (lv' := [(11, .int (nI 0)), (10, .int y), (0, .ref (q 30)), (1, .int pi), (2, .int o), (3, .int wh), (4, .int (nI md)), (5, .int co), (6, .int (nI s8)), (7, .int (nI kd)), (8, .int lw), (9, .int (nI b))]) hx hb dX7_lost_139 hl (Nat.le_of_ble_eq_true rfl) rfl (fun ls hl => ?_)
                              have K141 : ∀ (n141_ : Nat) (pn : Nat) (sm : Int32) (H : Heap) (locs : List Loc) (ls : Array Slot), mpcN S - pn < n141_ → (pn ≤ mpcN S) → (sm = sumIf o (fun p => slm S b (stk (S 1 p) s8)) (if 0 ≤ pi then slm S (stk (S 1 (clN pi)) s8) b else nI 0) pn) → Wd D A s.heap H locs (wM k q (va_up S 19 fs) X) → lv_has ls 12 [(0, .ref (q 30)), (1, .int pi), (2, .int o), (3, .int wh), (4, .int (nI md)), (5, .int co), (6, .int (nI s8)), (7, .int (nI kd)), (8, .int lw), (9, .int (nI b)), (10, .int sm), (11, .int (nI pn))] → W p l e R s m args below meth c H locs 0 0 Q (F0 m 141 ls []) := by
                                intro n141_
                                induction n141_ with
                                | zero =>
                                  intro pn sm H locs ls hn141_
                                  exact absurd hn141_ (Nat.not_lt_zero _)
                                | succ n141_ ih141_ =>
                                  intro pn sm H locs ls hn141_ hpn h3 hw hl
                                  refine lv_iload hx hb dX7_lost_141 (lv_at hl 11 rfl) ?_
                                  refine lv_aload_n hx hb dX7_lost_143 rfl (lv_at hl 0 rfl) ?_
                                  refine x_geti fiM_0 F hw fo_X7_65 dX7_lost_144 ?_
                                  refine x_top (y := S 0 0) rfl ?_
                                  refine x_top (y := nI (mpcN S)) hP.1 ?_
                                  refine x_icmp_ge pn (mpcN S) F (by omega) (by omega) (tgt := 197) dX7_lost_147 rfl (fun c147 => ?_) (fun c147 => ?_)
                                  · have hsm : sm = mls S pi o s8 b := by rw [h3, show pn = mpcN S by omega]; rfl
                                    refine lv_iload hx hb dX7_lost_197 (lv_at hl 10 rfl) ?_
                                    refine lv_iload hx hb dX7_lost_199 (lv_at hl 8 rfl) ?_
                                    have K211 : ∀ (y : Nat) (H : Heap) (locs : List Loc) (ls : Array Slot), (y = lwK (mls S pi o s8) (b + 1)) → Wd D A s.heap H locs (wM k q (va_up S 19 fs) X) → lv_has ls 12 [(0, .ref (q 30)), (1, .int pi), (2, .int o), (3, .int wh), (4, .int (nI md)), (5, .int co), (6, .int (nI s8)), (7, .int (nI kd)), (8, .int lw), (9, .int (nI b)), (10, .int sm), (11, .int (nI pn))] → W p l e R s m args below meth c H locs 0 0 Q (F0 m 211 ls [.int (nI y)]) := by
                                      intro y H locs ls h211 hw hl
                                      refine lv_istore (lv' := [(7, .int (nI y)), (0, .ref (q 30)), (1, .int pi), (2, .int o), (3, .int wh), (4, .int (nI md)), (5, .int co), (6, .int (nI s8)), (8, .int lw), (9, .int (nI b)), (10, .int sm), (11, .int (nI pn))]) hx hb dX7_lost_211 hl (Nat.le_of_ble_eq_true rfl) rfl (fun ls hl => ?_)
                                      refine lv_iload hx hb dX7_lost_213 (lv_at hl 10 rfl) ?_
                                      refine lv_iload hx hb dX7_lost_215 (lv_at hl 8 rfl) ?_
                                      have K227 : ∀ (y2 : Int32) (H : Heap) (locs : List Loc) (ls : Array Slot), (y2 = lwL (mls S pi o s8) (b + 1)) → Wd D A s.heap H locs (wM k q (va_up S 19 fs) X) → lv_has ls 12 [(0, .ref (q 30)), (1, .int pi), (2, .int o), (3, .int wh), (4, .int (nI md)), (5, .int co), (6, .int (nI s8)), (7, .int (nI y)), (8, .int lw), (9, .int (nI b)), (10, .int sm), (11, .int (nI pn))] → W p l e R s m args below meth c H locs 0 0 Q (F0 m 227 ls [.int y2]) := by
                                        intro y2 H locs ls h227 hw hl
                                        refine lv_istore (lv' := [(8, .int y2), (0, .ref (q 30)), (1, .int pi), (2, .int o), (3, .int wh), (4, .int (nI md)), (5, .int co), (6, .int (nI s8)), (7, .int (nI y)), (9, .int (nI b)), (10, .int sm), (11, .int (nI pn))]) hx hb dX7_lost_227 hl (Nat.le_of_ble_eq_true rfl) rfl (fun ls hl => ?_)
                                        refine lv_iinc (v := nI (b + 1)) (lv' := [(9, .int (nI (b + 1))), (8, .int y2), (0, .ref (q 30)), (1, .int pi), (2, .int o), (3, .int wh), (4, .int (nI md)), (5, .int co), (6, .int (nI s8)), (7, .int (nI y)), (10, .int sm), (11, .int (nI pn))]) hx hb dX7_lost_229 hl (k := 9) rfl (nI_1 _) (Nat.le_of_ble_eq_true rfl) rfl (fun ls hl => ?_)
                                        refine lv_goto (tgt := 101) hx hb dX7_lost_232 rfl ?_
                                        exact ih101_ (b + 1) y y2 _ _ _ (by first | omega | (simp only [] at *; omega)) (by first | assumption | omega | rfl) (by exact h211) (by exact h227) hw (lv_sub hl [2, 3, 4, 5, 6, 7, 8, 9, 1, 0] rfl)
                                      refine lv_icmp_ge (tgt := 225) hx hb dX7_lost_217 rfl (fun c217 => ?_) (fun c217 => ?_)
                                      · refine lv_iload hx hb dX7_lost_225 (lv_at hl 8 rfl) ?_
                                        exact K227 lw _ _ _ (by show _ = if _ then _ else _; rw [← h5, ← hsm]; first | exact (if_neg (Int32.not_lt.mpr c217)).symm | exact (if_pos (Int32.not_le.mp c217)).symm) hw (lv_sub hl [1, 2, 3, 4, 5, 6, 7, 0, 8, 9, 10, 11] rfl)
                                      · refine lv_iload hx hb dX7_lost_220 (lv_at hl 10 rfl) ?_
                                        refine lv_goto (tgt := 227) hx hb dX7_lost_222 rfl ?_
                                        exact K227 sm _ _ _ (by show _ = if _ then _ else _; rw [← h5, ← hsm]; first | exact (if_neg (Int32.not_lt.mpr c217)).symm | exact (if_pos (Int32.not_le.mp c217)).symm) hw (lv_sub hl [1, 2, 3, 4, 5, 6, 7, 0, 8, 9, 10, 11] rfl)
                                    refine lv_icmp_ge (tgt := 209) hx hb dX7_lost_201 rfl (fun c201 => ?_) (fun c201 => ?_)
                                    · refine lv_iload hx hb dX7_lost_209 (lv_at hl 7 rfl) ?_
                                      exact K211 kd _ _ _ (by show _ = if _ then _ else _; rw [← h4, ← h5, ← hsm]; first | exact (if_neg (Int32.not_lt.mpr c201)).symm | exact (if_pos (Int32.not_le.mp c201)).symm) hw (lv_sub hl [0, 1, 2, 3, 4, 5, 6, 7, 8, 9, 10, 11] rfl)
                                    · refine lv_iload hx hb dX7_lost_204 (lv_at hl 9 rfl) ?_
                                      refine lv_goto (tgt := 211) hx hb dX7_lost_206 rfl ?_
                                      exact K211 b _ _ _ (by show _ = if _ then _ else _; rw [← h4, ← h5, ← hsm]; first | exact (if_neg (Int32.not_lt.mpr c201)).symm | exact (if_pos (Int32.not_le.mp c201)).symm) hw (lv_sub hl [0, 1, 2, 3, 4, 5, 6, 7, 8, 9, 10, 11] rfl)
                                  · refine lv_iload hx hb dX7_lost_150 (lv_at hl 10 rfl) ?_
                                    refine lv_iload_n hx hb dX7_lost_152 rfl (lv_at hl 2 rfl) ?_
                                    refine lv_iload hx hb dX7_lost_153 (lv_at hl 11 rfl) ?_
                                    refine lv_ishr hx hb dX7_lost_155 ?_
                                    refine lv_iconst (v := nI 1) hx hb dX7_lost_156 rfl ?_
                                    refine lv_iand hx hb dX7_lost_157 ?_
                                    refine lv_iconst (v := nI 1) hx hb dX7_lost_158 rfl ?_
                                    have K188 : ∀ (y : Int32) (H : Heap) (locs : List Loc) (ls : Array Slot), (y = if hbt o pn then (fun p => slm S b (stk (S 1 p) s8)) pn else nI 0) → Wd D A s.heap H locs (wM k q (va_up S 19 fs) X) → lv_has ls 12 [(0, .ref (q 30)), (1, .int pi), (2, .int o), (3, .int wh), (4, .int (nI md)), (5, .int co), (6, .int (nI s8)), (7, .int (nI kd)), (8, .int lw), (9, .int (nI b)), (10, .int sm), (11, .int (nI pn))] → W p l e R s m args below meth c H locs 0 0 Q (F0 m 188 ls [.int y, .int sm]) := by
                                      intro y H locs ls h188 hw hl
                                      refine lv_iadd hx hb dX7_lost_188 ?_
                                      refine lv_istore (lv' := [(10, .int (sm + y)), (0, .ref (q 30)), (1, .int pi), (2, .int o), (3, .int wh), (4, .int (nI md)), (5, .int co), (6, .int (nI s8)), (7, .int (nI kd)), (8, .int lw), (9, .int (nI b)), (11, .int (nI pn))]) hx hb dX7_lost_189 hl (Nat.le_of_ble_eq_true rfl) rfl (fun ls hl => ?_)
                                      refine lv_iinc (v := nI (pn + 1)) (lv' := [(11, .int (nI (pn + 1))), (10, .int (sm + y)), (0, .ref (q 30)), (1, .int pi), (2, .int o), (3, .int wh), (4, .int (nI md)), (5, .int co), (6, .int (nI s8)), (7, .int (nI kd)), (8, .int lw), (9, .int (nI b))]) hx hb dX7_lost_191 hl (k := 11) rfl (nI_1 _) (Nat.le_of_ble_eq_true rfl) rfl (fun ls hl => ?_)
                                      refine lv_goto (tgt := 141) hx hb dX7_lost_194 rfl ?_
                                      exact ih141_ (pn + 1) (sm + y) _ _ _ (by first | omega | (simp only [] at *; omega)) (by first | assumption | omega | rfl) (by exact sumIf_s h188 h3) hw (lv_sub hl [2, 3, 4, 5, 6, 7, 8, 9, 10, 11, 1, 0] rfl)
                                    refine lv_icmp_ne (tgt := 187) hx hb dX7_lost_159 rfl (fun c159 => ?_) (fun c159 => ?_)
                                    · refine lv_iconst (v := nI 0) hx hb dX7_lost_187 rfl ?_
                                      exact K188 (nI 0) _ _ _ (by first | exact (if_pos (hbt_1 c159)).symm | exact (if_neg (by rw [hbt_0 c159]; decide)).symm) hw (lv_sub hl [0, 1, 2, 3, 4, 5, 6, 7, 8, 9, 10, 11] rfl)
                                    · refine lv_aload_n hx hb dX7_lost_162 rfl (lv_at hl 0 rfl) ?_
                                      refine x_getr frM_19 F hw fo_X7_49 dX7_lost_163 ?_
                                      refine lv_iconst (v := nI 4) hx hb dX7_lost_166 rfl ?_
                                      refine lv_iload hx hb dX7_lost_167 (lv_at hl 9 rfl) ?_
                                      refine lv_imul hx hb dX7_lost_169 ?_
                                      refine x_top (y := nI (4 * b)) (pk_mul _ _) ?_
                                      refine lv_aload_n hx hb dX7_lost_170 rfl (lv_at hl 0 rfl) ?_
                                      refine x_getr frM_1 F hw fo_X7_7 dX7_lost_171 ?_
                                      refine lv_iload hx hb dX7_lost_174 (lv_at hl 11 rfl) ?_
                                      refine x_iald aiM_1 F hw pn rfl (by omega) dX7_lost_176 ?_
                                      refine x_top (y := S 1 pn) rfl ?_
                                      refine lv_iload hx hb dX7_lost_177 (lv_at hl 6 rfl) ?_
                                      refine x_fSI (rest := [.int (nI (4 * b)), .ref (q 19), .int sm]) (c_X7_strokeOf l D k (wM k q (va_up S 19 fs) X) (S 1 pn) s8 (by first | assumption | omega)) mo_X7_104 F hw (Nat.le_of_ble_eq_true rfl) (x_cs F (Nat.le_of_ble_eq_true rfl) (Nat.le_of_ble_eq_true rfl)) rfl rfl hl.1 (Nat.le_of_ble_eq_true rfl) dX7_lost_179 (fun H locs hw => ?_)
                                      have := stk_lt (S 1 pn) s8
                                      refine lv_iadd hx hb dX7_lost_182 ?_
                                      refine x_top (y := nI ((4 * b) + (stk (S 1 pn) s8))) (nI_add _ _) ?_
                                      refine x_iald aiM_19 F hw ((4 * b) + (stk (S 1 pn) s8)) rfl (by omega) dX7_lost_183 ?_
                                      refine x_top (y := fs ((4 * b) + (stk (S 1 pn) s8))) rfl ?_
                                      refine x_top (y := slm S b (stk (S 1 pn) s8)) (hsl _ _ (by omega) (stk_lt _ _)) ?_
                                      refine lv_goto (tgt := 188) hx hb dX7_lost_184 rfl ?_
                                      exact K188 (slm S b (stk (S 1 pn) s8)) _ _ _ (by first | exact (if_pos (hbt_1 c159)).symm | exact (if_neg (by rw [hbt_0 c159]; decide)).symm) hw (lv_sub hl [0, 1, 2, 3, 4, 5, 6, 7, 8, 9, 10, 11] rfl)
                              exact K141 _ 0 y _ _ _ (Nat.lt_succ_self _) (by first | assumption | omega | rfl) (by exact h136) hw (lv_sub hl [2, 3, 4, 5, 6, 7, 8, 9, 10, 11, 1, 0] rfl)
                            refine lv_if_ge (tgt := 115) hx hb dX7_lost_108 rfl (fun c108 => ?_) (fun c108 => ?_)
                            · refine lv_aload_n hx hb dX7_lost_115 rfl (lv_at hl 0 rfl) ?_
                              refine x_getr frM_19 F hw fo_X7_49 dX7_lost_116 ?_
                              refine lv_iconst (v := nI 4) hx hb dX7_lost_119 rfl ?_
                              refine lv_aload_n hx hb dX7_lost_120 rfl (lv_at hl 0 rfl) ?_
                              refine x_getr frM_1 F hw fo_X7_7 dX7_lost_121 ?_
                              refine lv_iload_n hx hb dX7_lost_124 rfl (lv_at hl 1 rfl) ?_
                              refine x_iald aiM_1 F hw (clN pi) (nn_of c108) (Nat.lt_of_lt_of_le (hpi c108) h6) dX7_lost_125 ?_
                              refine x_top (y := S 1 (clN pi)) rfl ?_
                              refine lv_iload hx hb dX7_lost_126 (lv_at hl 6 rfl) ?_
                              refine x_fSI (rest := [.int (nI 4), .ref (q 19)]) (c_X7_strokeOf l D k (wM k q (va_up S 19 fs) X) (S 1 (clN pi)) s8 (by first | assumption | omega)) mo_X7_104 F hw (Nat.le_of_ble_eq_true rfl) (x_cs F (Nat.le_of_ble_eq_true rfl) (Nat.le_of_ble_eq_true rfl)) rfl rfl hl.1 (Nat.le_of_ble_eq_true rfl) dX7_lost_128 (fun H locs hw => ?_)
                              have := stk_lt (S 1 (clN pi)) s8
                              refine lv_imul hx hb dX7_lost_131 ?_
                              refine x_top (y := nI (4 * (stk (S 1 (clN pi)) s8))) (pk_mul _ _) ?_
                              refine lv_iload hx hb dX7_lost_132 (lv_at hl 9 rfl) ?_
                              refine lv_iadd hx hb dX7_lost_134 ?_
                              refine x_top (y := nI ((4 * (stk (S 1 (clN pi)) s8)) + b)) (nI_add _ _) ?_
                              refine x_iald aiM_19 F hw ((4 * (stk (S 1 (clN pi)) s8)) + b) rfl (by omega) dX7_lost_135 ?_
                              refine x_top (y := fs ((4 * (stk (S 1 (clN pi)) s8)) + b)) rfl ?_
                              refine x_top (y := slm S (stk (S 1 (clN pi)) s8) b) (hsl _ _ (stk_lt _ _) (by omega)) ?_
                              exact K136 (slm S (stk (S 1 (clN pi)) s8) b) _ _ _ (by first | exact (if_pos c108).symm | exact (if_neg c108).symm) hw (lv_sub hl [0, 1, 2, 3, 4, 5, 6, 7, 8, 9] rfl)
                            · refine lv_iconst (v := nI 0) hx hb dX7_lost_111 rfl ?_
                              refine lv_goto (tgt := 136) hx hb dX7_lost_112 rfl ?_
                              exact K136 (nI 0) _ _ _ (by first | exact (if_pos c108).symm | exact (if_neg c108).symm) hw (lv_sub hl [0, 1, 2, 3, 4, 5, 6, 7, 8, 9] rfl)
                      exact K101 _ 0 0 (nI 100000000) _ _ _ (Nat.lt_succ_self _) (by first | assumption | omega | rfl) (by rfl) (by rfl) hw (lv_sub hl [3, 4, 5, 6, 7, 8, 9, 2, 1, 0] rfl)
                exact K84 _ 0 0 y _ _ _ (Nat.lt_succ_self _) (by first | assumption | omega | rfl) (by rfl) (by exact h79) hw (lv_sub hl [2, 3, 4, 5, 6, 1, 0] rfl)
              refine lv_if_ge (tgt := 78) hx hb dX7_lost_66 rfl (fun c66 => ?_) (fun c66 => ?_)
              · refine lv_iconst (v := nI 0) hx hb dX7_lost_78 rfl ?_
                exact K79 (nI 0) _ _ _ (by first | exact (if_pos c66).symm | exact (if_neg c66).symm) hw (lv_sub hl [1, 2, 3, 4, 0] rfl)
              · refine lv_aload_n hx hb dX7_lost_69 rfl (lv_at hl 1 rfl) ?_
                refine x_getr frM_5 F hw fo_X7_22 dX7_lost_70 ?_
                refine lv_iconst (v := nI 0) hx hb dX7_lost_73 rfl ?_
                refine x_iald aiM_5 F hw 0 rfl (by omega) dX7_lost_74 ?_
                refine x_top (y := S 5 0) rfl ?_
                refine lv_goto (tgt := 79) hx hb dX7_lost_75 rfl ?_
                exact K79 (S 5 0) _ _ _ (by first | exact (if_pos c66).symm | exact (if_neg c66).symm) hw (lv_sub hl [1, 2, 3, 4, 0] rfl)
            · refine lv_bipush (v := (-2)) hx hb dX7_lost_55 rfl ?_
              exact hret _ _ _ _ _ _ dX7_lost_57 hw rfl ⟨S, rfl, Or.inl rfl, by unfold m_lost; rw [if_neg (fun w => w.elim hck (fun w => w.elim c14 (fun w => w c24)))]; first | exact (if_pos (Or.inl c30)).symm | exact (if_pos (Or.inr (Or.inr c52))).symm | exact (if_pos (Or.inr (Or.inl ⟨Int32.not_lt.mp c34, hbt_1 c43⟩))).symm⟩
          refine lv_if_lt (tgt := 46) hx hb dX7_lost_34 rfl (fun c34 => ?_) (fun c34 => ?_)
          · exact K46 _ _ _ (by first | exact fun w => absurd w.1 (Int32.not_le.mpr c34) | exact fun w => absurd (hbt_0 c43) (by rw [w.2]; decide)) hw (lv_sub hl [0, 1, 2, 3] rfl)
          · refine lv_iload_n hx hb dX7_lost_37 rfl (lv_at hl 2 rfl) ?_
            refine lv_iload_n hx hb dX7_lost_38 rfl (lv_at hl 1 rfl) ?_
            refine x_top (y := nI (clN pi)) (nn_of (Int32.not_lt.mp c34)) ?_
            refine lv_ishr hx hb dX7_lost_39 ?_
            refine lv_iconst (v := nI 1) hx hb dX7_lost_40 rfl ?_
            refine lv_iand hx hb dX7_lost_41 ?_
            refine lv_iconst (v := nI 1) hx hb dX7_lost_42 rfl ?_
            refine lv_icmp_eq (tgt := 55) hx hb dX7_lost_43 rfl (fun c43 => ?_) (fun c43 => ?_)
            · refine lv_bipush (v := (-2)) hx hb dX7_lost_55 rfl ?_
              exact hret _ _ _ _ _ _ dX7_lost_57 hw rfl ⟨S, rfl, Or.inl rfl, by unfold m_lost; rw [if_neg (fun w => w.elim hck (fun w => w.elim c14 (fun w => w c24)))]; first | exact (if_pos (Or.inl c30)).symm | exact (if_pos (Or.inr (Or.inr c52))).symm | exact (if_pos (Or.inr (Or.inl ⟨Int32.not_lt.mp c34, hbt_1 c43⟩))).symm⟩
            · exact K46 _ _ _ (by first | exact fun w => absurd w.1 (Int32.not_le.mpr c34) | exact fun w => absurd (hbt_0 c43) (by rw [w.2]; decide)) hw (lv_sub hl [0, 1, 2, 3] rfl)
      · refine lv_iconst (v := (-1)) hx hb dX7_lost_27 rfl ?_
        exact hret _ _ _ _ _ _ dX7_lost_28 hw rfl ⟨S, rfl, Or.inl rfl, by unfold m_lost; first | exact (if_pos (Or.inr (Or.inr c24))).symm | exact (if_pos (Or.inr (Or.inl c14))).symm | exact (if_pos (Or.inl (And.intro c2 c10))).symm⟩
  refine lv_icmp_eq (tgt := 13) hx hb dX7_lost_2 rfl (fun c2 => ?_) (fun c2 => ?_)
  · exact K13 _ _ _ (by first | exact fun w => w.1 c2 | exact fun w => c10 w.2) hw (lv_sub hl [0, 1, 2, 3] rfl)
  · refine lv_aload_n hx hb dX7_lost_5 rfl (lv_at hl 0 rfl) ?_
    refine lv_iload_n hx hb dX7_lost_6 rfl (lv_at hl 1 rfl) ?_
    refine x_fVI (rest := []) (c_X7_isPicture l D k q S X pi (by first | assumption | omega)) mo_X7_85 obM F hw (Nat.le_of_ble_eq_true rfl) (x_cs F (Nat.le_of_ble_eq_true rfl) (Nat.le_of_ble_eq_true rfl)) rfl rfl hl.1 (Nat.le_of_ble_eq_true rfl) dX7_lost_7 (fun H locs hw => ?_)
    refine lv_if_eq (tgt := 27) hx hb dX7_lost_10 rfl (fun c10 => ?_) (fun c10 => ?_)
    · refine lv_iconst (v := (-1)) hx hb dX7_lost_27 rfl ?_
      exact hret _ _ _ _ _ _ dX7_lost_28 hw rfl ⟨S, rfl, Or.inl rfl, by unfold m_lost; first | exact (if_pos (Or.inr (Or.inr c24))).symm | exact (if_pos (Or.inr (Or.inl c14))).symm | exact (if_pos (Or.inl (And.intro c2 c10))).symm⟩
    · exact K13 _ _ _ (by first | exact fun w => w.1 c2 | exact fun w => c10 w.2) hw (lv_sub hl [0, 1, 2, 3] rfl)
