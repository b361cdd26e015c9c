/-! ===== the reference: least, kept, sure: pure words ===== -/
theorem LM.pc {S T : St} (h : LM S T) : mpcN T = mpcN S := by unfold mpcN; rw [h.1 0 (by omega)]
theorem LM.mt {S T : St} (h : LM S T) : mtr T = mtr S := mtr_cg (fun r hr => h.1 r (by omega))
theorem LM.okP {S T : St} (h : LM S T) (hP : okMP S) : okMP T := by unfold okMP; rw [h.pc, h.1 0 (by omega)]; exact hP
theorem LM.tv {S T : St} (h : LM S T) : okTv T (mtr S) := by rw [← h.mt]; exact h.2.2.2.1
theorem LM.r22 {S T : St} (h : LM S T) : T 22 0 = nI (lcF (mtr S) (mpcN S) (7 ^ mpcN S)) := by rw [← h.mt, ← h.pc]; exact h.2.2.2.2.1
theorem LM.r23 {S T : St} (h : LM S T) : T 23 0 = nI (lmF (mtr S) (mpcN S) (7 ^ mpcN S)) := by rw [← h.mt, ← h.pc]; exact h.2.2.2.2.2.1
theorem LM.r24 {S T : St} (h : LM S T) : T 24 0 = nI (mtn (mtr S) (mpcN S) (7 ^ mpcN S)) := by rw [← h.mt, ← h.pc]; exact h.2.2.2.2.2.2
theorem LM.row {S T : St} {g : Nat → Int32} (h : LM S T) : LM S (va_up T 21 g) := by
  obtain ⟨h1, h2, h3⟩ := h
  refine ⟨fun r hr => ?_, h2, h3⟩
  simp only [va_up]
  rw [if_neg (by omega)]
  exact h1 r hr
theorem rowF_at {f : Nat → Int32} {n n' cd p : Nat} (e : n' = n) (h : p < n) : rowF f n' cd p = nI (dgt n cd p) := by
  rw [e]
  exact if_pos h
theorem dgt_lt (n cd p : Nat) : dgt n cd p < 7 := Nat.mod_lt _ (by decide)
theorem nI_nm1' {v : Nat} (h : v < 1000000) : ¬ nI v = (-1) := by
  intro e
  have h1 : (0 : Int32) ≤ nI v := nI_pos' (by omega)
  rw [e] at h1
  exact absurd h1 (by decide)
def mN (S : St) : Nat := 7 ^ mpcN S
def mlr (S : St) (c : Nat) : Nat := lrN (mtr S) (mpcN S) c
def mlc (S : St) : Nat := lcF (mtr S) (mpcN S) (mN S)
def kmB (S : St) (mo : Nat) (c : Nat) : Bool := decide (mlr S c ≤ mlc S + mo)
def mkI (S : St) (mo : Nat) (ix : Int32) : Nat := fstF (fun c => kmB S mo c && nI (cntB (kmB S mo) c) == ix) (mN S)
def m_least (S : St) (wh : Int32) : Int32 := if f_in wh (nI 0) (nI 2) = 0 then (-2) else if mpcN S = 0 then (-3) else if wh = nI 0 then nI (mlc S) else if wh = nI 1 then nI (lmF (mtr S) (mpcN S) (mN S)) else nI (mtn (mtr S) (mpcN S) (mN S))
def dg9 (d : Nat) : Int32 := if d = 6 then nI 9 else nI d
def mkR (S : St) (c : Nat) (pi : Int32) : Int32 := if pi = nI 9 then nI (mlr S c) else dg9 (dgt (mpcN S) c (clN pi))
def m_kept (S : St) (mo ix pi : Int32) : Int32 := if ¬ ix = (-1) ∧ ¬ pi = nI 9 ∧ haMP S pi = 0 then (-1) else if f_in mo (nI 0) (nI 99) = 0 then (-2) else if mpcN S = 0 then (-3) else if mkI S (clN mo) ix = 0 then (if ix = (-1) then nI (cntB (kmB S (clN mo)) (mN S)) else (-6)) else mkR S (mkI S (clN mo) ix - 1) pi
def inF (dg : Nat → Nat) (so x0 : Int32) : Nat → Int32
  | 0 => x0
  | j + 1 => inF dg so x0 j &&& (if nI (dg j) = so then nI 63 else ((nI 1 <<< (nI j &&& 31)) ^^^ (-1)))
def soI (pi : Int32) : Int32 := if pi = nI 9 then nI 6 else pi
def suF (S : St) (mo : Nat) (pi : Int32) : Nat → Int32
  | 0 => (nI 1 <<< (nI (mpcN S) &&& 31)) - nI 1
  | c + 1 => if kmB S mo c then inF (dgt (mpcN S) c) (soI pi) (suF S mo pi c) (mpcN S) else suF S mo pi c
theorem suF_y {S : St} {mo c : Nat} {pi : Int32} (h : kmB S mo c = true) : suF S mo pi (c + 1) = inF (dgt (mpcN S) c) (soI pi) (suF S mo pi c) (mpcN S) := if_pos h
theorem suF_n {S : St} {mo c : Nat} {pi : Int32} (h : kmB S mo c = false) : suF S mo pi (c + 1) = suF S mo pi c := if_neg (by rw [h]; decide)
def m_sure (S : St) (mo pi : Int32) : Int32 := if ¬ pi = nI 9 ∧ haMP S pi = 0 then (-1) else if f_in mo (nI 0) (nI 99) = 0 then (-2) else if mpcN S = 0 then (-3) else suF S (clN mo) pi (mN S)
def LQ (S S' : St) : Prop := S' = S ∨ LM S S'
set_option maxHeartbeats 4000000 in
set_option maxRecDepth 20000 in
theorem c_X7_least (l : Launch) (D : va_G) (k : Nat → ClassId) (q : Nat → Nat) (S : St) (X : va_W) (wh : Int32) (hP : okMP S) (hL : okML S) (hV : okMV S) (hB : okMB S) (hLd : S 18 0 = nI 0 ∨ (S 18 0 = nI 1 ∧ okLd S)) : CI l D k yX7_least cX7_least 2 (some .int) 3 0 0 [.ref (q 30), .int wh] (wM k q S X) (fun r w' => ∃ S', w' = wM k q S' X ∧ LQ S S' ∧ r = m_least S wh) := by
  refine CI.mk (by decide) (Nat.le_of_ble_eq_true rfl) ?_
  intro p e R s m args below meth c A Q ls F hret hw hl
  have hx := xs_hx F
  have hb := xs_hb F
  have hl : lv_has ls 2 [(0, .ref (q 30)), (1, .int wh)] := hl
  have h6 := hP.2
  have hl50 := hL.2
  refine lv_iload_n hx hb dX7_least_0 rfl (lv_at hl 1 rfl) ?_
  refine lv_iconst (v := nI 0) hx hb dX7_least_1 rfl ?_
  refine lv_iconst (v := nI 2) hx hb dX7_least_2 rfl ?_
  refine x_fSI (rest := []) (c_X7_in l D k (wM k q S X) wh (nI 0) (nI 2)) mo_X7_69 F hw (Nat.le_of_ble_eq_true rfl) (x_cs F (Nat.le_of_ble_eq_true rfl) (Nat.le_of_ble_eq_true rfl)) rfl rfl hl.1 (Nat.le_of_ble_eq_true rfl) dX7_least_3 (fun H locs hw => ?_)
  refine lv_if_ne (tgt := 12) hx hb dX7_least_6 rfl (fun c6 => ?_) (fun c6 => ?_)
  · refine lv_aload_n hx hb dX7_least_12 rfl (lv_at hl 0 rfl) ?_
    refine x_geti fiM_0 F hw fo_X7_65 dX7_least_13 ?_
    refine x_top (y := nI (mpcN S)) hP.1 ?_
    refine x_if_ne (mpcN S) F (by omega) (tgt := 22) dX7_least_16 rfl (fun c16 => ?_) (fun c16 => ?_)
    · refine lv_aload_n hx hb dX7_least_22 rfl (lv_at hl 0 rfl) ?_
      refine x_callVV (rest := []) (c_X7_layTrees l D k q S X hP hL hV hB hLd) mo_X7_128 obM F hw (Nat.le_of_ble_eq_true rfl) (x_cs F (Nat.le_of_ble_eq_true rfl) (Nat.le_of_ble_eq_true rfl)) rfl rfl hl.1 (Nat.le_of_ble_eq_true rfl) dX7_least_23 (fun w_ H locs hp hw => ?_)
      obtain ⟨S2, hp1, hLM⟩ := hp
      rw [hp1] at hw
      have hLM : LM S S2 := hLM
      refine lv_iload_n hx hb dX7_least_26 rfl (lv_at hl 1 rfl) ?_
      have K53 : ∀ (y : Int32) (H : Heap) (locs : List Loc) (ls : Array Slot), (y = m_least S wh) → Wd D A s.heap H locs (wM k q S2 X) → lv_has ls 2 [(0, .ref (q 30)), (1, .int wh)] → W p l e R s m args below meth c H locs 0 0 Q (F0 m 53 ls [.int y]) := by
        intro y H locs ls h53 hw hl
        exact hret _ _ _ _ _ _ dX7_least_53 hw rfl ⟨S2, rfl, Or.inr hLM, h53⟩
      refine lv_if_ne (tgt := 37) hx hb dX7_least_27 rfl (fun c27 => ?_) (fun c27 => ?_)
      · refine lv_iload_n hx hb dX7_least_37 rfl (lv_at hl 1 rfl) ?_
        refine lv_iconst (v := nI 1) hx hb dX7_least_38 rfl ?_
        refine lv_icmp_ne (tgt := 49) hx hb dX7_least_39 rfl (fun c39 => ?_) (fun c39 => ?_)
        · refine lv_aload_n hx hb dX7_least_49 rfl (lv_at hl 0 rfl) ?_
          refine x_geti fiM_24 F hw fo_X7_118 dX7_least_50 ?_
          exact K53 (S2 24 0) _ _ _ (by unfold m_least; rw [if_neg c6, if_neg (by omega)]; first | exact hLM.r22.trans (if_pos (show wh = nI 0 from c27)).symm | exact hLM.r23.trans ((if_neg (show ¬ wh = nI 0 from c27)).trans (if_pos c39)).symm | exact hLM.r24.trans ((if_neg (show ¬ wh = nI 0 from c27)).trans (if_neg c39)).symm) hw (lv_sub hl [0, 1] rfl)
        · refine lv_aload_n hx hb dX7_least_42 rfl (lv_at hl 0 rfl) ?_
          refine x_geti fiM_23 F hw fo_X7_115 dX7_least_43 ?_
          refine lv_goto (tgt := 53) hx hb dX7_least_46 rfl ?_
          exact K53 (S2 23 0) _ _ _ (by unfold m_least; rw [if_neg c6, if_neg (by omega)]; first | exact hLM.r22.trans (if_pos (show wh = nI 0 from c27)).symm | exact hLM.r23.trans ((if_neg (show ¬ wh = nI 0 from c27)).trans (if_pos c39)).symm | exact hLM.r24.trans ((if_neg (show ¬ wh = nI 0 from c27)).trans (if_neg c39)).symm) hw (lv_sub hl [0, 1] rfl)
      · refine lv_aload_n hx hb dX7_least_30 rfl (lv_at hl 0 rfl) ?_
        refine x_geti fiM_22 F hw fo_X7_112 dX7_least_31 ?_
        refine lv_goto (tgt := 53) hx hb dX7_least_34 rfl ?_
        exact K53 (S2 22 0) _ _ _ (by unfold m_least; rw [if_neg c6, if_neg (by omega)]; first | exact hLM.r22.trans (if_pos (show wh = nI 0 from c27)).symm | exact hLM.r23.trans ((if_neg (show ¬ wh = nI 0 from c27)).trans (if_pos c39)).symm | exact hLM.r24.trans ((if_neg (show ¬ wh = nI 0 from c27)).trans (if_neg c39)).symm) hw (lv_sub hl [0, 1] rfl)
    · refine lv_bipush (v := (-3)) hx hb dX7_least_19 rfl ?_
      exact hret _ _ _ _ _ _ dX7_least_21 hw rfl ⟨S, rfl, Or.inl rfl, by unfold m_least; rw [if_neg c6, if_pos (by omega)]⟩
  · refine lv_bipush (v := (-2)) hx hb dX7_least_9 rfl ?_
    exact hret _ _ _ _ _ _ dX7_least_11 hw rfl ⟨S, rfl, Or.inl rfl, by unfold m_least; rw [if_pos c6]⟩
set_option maxHeartbeats 4000000 in
set_option maxRecDepth 20000 in
theorem c_X7_kept (l : Launch) (D : va_G) (k : Nat → ClassId) (q : Nat → Nat) (S : St) (X : va_W) (mo : Int32) (ix : Int32) (pi : Int32) (hP : okMP S) (hL : okML S) (hV : okMV S) (hB : okMB S) (hLd : S 18 0 = nI 0 ∨ (S 18 0 = nI 1 ∧ okLd S)) : CI l D k yX7_kept cX7_kept 8 (some .int) 3 0 0 [.ref (q 30), .int mo, .int ix, .int pi] (wM k q S X) (fun r w' => ∃ S', w' = wM k q S' X ∧ LQ S S' ∧ r = m_kept S mo ix pi) := by
  refine CI.mk (by decide) (Nat.le_of_ble_eq_true rfl) ?_
  intro p e R s m args below meth c A Q ls F hret hw hl
  have hx := xs_hx F
  have hb := xs_hb F
  have hl : lv_has ls 8 [(0, .ref (q 30)), (1, .int mo), (2, .int ix), (3, .int pi)] := hl
  have h6 := hP.2
  have hl50 := hL.2
  have h7c : mN S ≤ 117649 := Nat.le_trans (Nat.pow_le_pow_right (by omega) h6) (by decide)
  refine lv_iload_n hx hb dX7_kept_0 rfl (lv_at hl 2 rfl) ?_
  refine lv_iconst (v := (-1)) hx hb dX7_kept_1 rfl ?_
  have K21 : ∀ (H : Heap) (locs : List Loc) (ls : Array Slot), (¬ (¬ ix = (-1) ∧ ¬ pi = nI 9 ∧ haMP S pi = 0)) → Wd D A s.heap H locs (wM k q S X) → lv_has ls 8 [(0, .ref (q 30)), (1, .int mo), (2, .int ix), (3, .int pi)] → W p l e R s m args below meth c H locs 0 0 Q (F0 m 21 ls []) := by
    intro H locs ls hck hw hl
    refine lv_iload_n hx hb dX7_kept_21 rfl (lv_at hl 1 rfl) ?_
    refine lv_iconst (v := nI 0) hx hb dX7_kept_22 rfl ?_
    refine lv_bipush (v := nI 99) hx hb dX7_kept_23 rfl ?_
    refine x_fSI (rest := []) (c_X7_in l D k (wM k q S X) mo (nI 0) (nI 99)) mo_X7_69 F hw (Nat.le_of_ble_eq_true rfl) (x_cs F (Nat.le_of_ble_eq_true rfl) (Nat.le_of_ble_eq_true rfl)) rfl rfl hl.1 (Nat.le_of_ble_eq_true rfl) dX7_kept_25 (fun H locs hw => ?_)
    refine lv_if_ne (tgt := 34) hx hb dX7_kept_28 rfl (fun c28 => ?_) (fun c28 => ?_)
    · have hmo := f_in_t (by omega) c28
      refine lv_aload_n hx hb dX7_kept_34 rfl (lv_at hl 0 rfl) ?_
      refine x_geti fiM_0 F hw fo_X7_65 dX7_kept_35 ?_
      refine x_top (y := nI (mpcN S)) hP.1 ?_
      refine x_if_ne (mpcN S) F (by omega) (tgt := 44) dX7_kept_38 rfl (fun c38 => ?_) (fun c38 => ?_)
      · refine lv_aload_n hx hb dX7_kept_44 rfl (lv_at hl 0 rfl) ?_
        refine x_callVV (rest := []) (c_X7_layTrees l D k q S X hP hL hV hB hLd) mo_X7_128 obM F hw (Nat.le_of_ble_eq_true rfl) (x_cs F (Nat.le_of_ble_eq_true rfl) (Nat.le_of_ble_eq_true rfl)) rfl rfl hl.1 (Nat.le_of_ble_eq_true rfl) dX7_kept_45 (fun w_ H locs hp hw => ?_)
        obtain ⟨S2, hp1, hLM⟩ := hp
        rw [hp1] at hw
        have hLM : LM S S2 := hLM
        refine lv_iconst (v := nI 0) hx hb dX7_kept_48 rfl ?_
        refine lv_istore (lv' := [(4, .int (nI 0)), (0, .ref (q 30)), (1, .int mo), (2, .int ix), (3, .int pi)]) hx hb dX7_kept_49 hl (Nat.le_of_ble_eq_true rfl) rfl (fun ls hl => ?_)
        refine lv_aload_n hx hb dX7_kept_51 rfl (lv_at hl 1 rfl) ?_
        refine x_fVI (rest := []) (c_X7_rows l D k q S2 X (by exact hLM.okP hP)) mo_X7_121 obM F hw (Nat.le_of_ble_eq_true rfl) (x_cs F (Nat.le_of_ble_eq_true rfl) (Nat.le_of_ble_eq_true rfl)) rfl rfl hl.1 (Nat.le_of_ble_eq_true rfl) dX7_kept_52 (fun H locs hw => ?_)
        refine x_top (y := nI (mN S)) (congrArg (fun z => nI (7 ^ z)) hLM.pc) ?_
        refine lv_istore (lv' := [(5, .int (nI (mN S))), (4, .int (nI 0)), (0, .ref (q 30)), (1, .int mo), (2, .int ix), (3, .int pi)]) hx hb dX7_kept_55 hl (Nat.le_of_ble_eq_true rfl) rfl (fun ls hl => ?_)
        refine lv_iconst (v := nI 0) hx hb dX7_kept_57 rfl ?_
        refine lv_istore (lv' := [(6, .int (nI 0)), (5, .int (nI (mN S))), (4, .int (nI 0)), (0, .ref (q 30)), (1, .int mo), (2, .int ix), (3, .int pi)]) hx hb dX7_kept_58 hl (Nat.le_of_ble_eq_true rfl) rfl (fun ls hl => ?_)
        have K60 : ∀ (n60_ : Nat) (cd : Nat) (ct : Nat) (T : St) (H : Heap) (locs : List Loc) (ls : Array Slot), mN S - cd < n60_ → (cd ≤ mN S) → (ct ≤ cd) → (LM S T) → (ct = cntB (kmB S (clN mo)) cd) → (fstF (fun c => kmB S (clN mo) c && nI (cntB (kmB S (clN mo)) c) == ix) cd = 0) → Wd D A s.heap H locs (wM k q T X) → lv_has ls 8 [(0, .ref (q 30)), (1, .int mo), (2, .int ix), (3, .int pi), (4, .int (nI ct)), (5, .int (nI (mN S))), (6, .int (nI cd))] → W p l e R s m args below meth c H locs 0 0 Q (F0 m 60 ls []) := by
          intro n60_
          induction n60_ with
          | zero =>
            intro cd ct T H locs ls hn60_
            exact absurd hn60_ (Nat.not_lt_zero _)
          | succ n60_ ih60_ =>
            intro cd ct T H locs ls hn60_ hc hct hLM h1 h2 hw hl
            refine lv_iload hx hb dX7_kept_60 (lv_at hl 6 rfl) ?_
            refine lv_iload hx hb dX7_kept_62 (lv_at hl 5 rfl) ?_
            refine x_icmp_ge cd (mN S) F (by omega) (by omega) (tgt := 135) dX7_kept_64 rfl (fun c64 => ?_) (fun c64 => ?_)
            · refine lv_iload_n hx hb dX7_kept_135 rfl (lv_at hl 2 rfl) ?_
              refine lv_iconst (v := (-1)) hx hb dX7_kept_136 rfl ?_
              have K147 : ∀ (y : Int32) (H : Heap) (locs : List Loc) (ls : Array Slot), (y = if ix = (-1) then nI (cntB (kmB S (clN mo)) (mN S)) else (-6)) → Wd D A s.heap H locs (wM k q T X) → lv_has ls 8 [(0, .ref (q 30)), (1, .int mo), (2, .int ix), (3, .int pi), (4, .int (nI ct)), (5, .int (nI (mN S))), (6, .int (nI cd))] → W p l e R s m args below meth c H locs 0 0 Q (F0 m 147 ls [.int y]) := by
                intro y H locs ls h147 hw hl
                exact hret _ _ _ _ _ _ dX7_kept_147 hw rfl ⟨T, rfl, Or.inr hLM, by unfold m_kept; rw [if_neg hck, if_neg c28, if_neg (by omega), if_pos (show mkI S (clN mo) ix = 0 by unfold mkI; rw [show mN S = cd by omega]; exact h2)]; exact h147⟩
              refine lv_icmp_ne (tgt := 145) hx hb dX7_kept_137 rfl (fun c137 => ?_) (fun c137 => ?_)
              · refine lv_bipush (v := (-6)) hx hb dX7_kept_145 rfl ?_
                exact K147 (-6) _ _ _ (by first | (rw [if_pos c137, show mN S = cd by omega]; exact congrArg nI h1) | exact (if_neg c137).symm) hw (lv_sub hl [0, 1, 2, 3, 4, 5, 6] rfl)
              · refine lv_iload hx hb dX7_kept_140 (lv_at hl 4 rfl) ?_
                refine lv_goto (tgt := 147) hx hb dX7_kept_142 rfl ?_
                exact K147 (nI ct) _ _ _ (by first | (rw [if_pos c137, show mN S = cd by omega]; exact congrArg nI h1) | exact (if_neg c137).symm) hw (lv_sub hl [0, 1, 2, 3, 4, 5, 6] rfl)
            · have hlc : mlc S ≤ 100000000 := lcF_le _ _ _
              have hlr : mlr S cd ≤ 100000000 := lrN_le _ _ _
              have hcT : cd < 117649 := by omega
              refine lv_aload_n hx hb dX7_kept_67 rfl (lv_at hl 0 rfl) ?_
              refine lv_iload hx hb dX7_kept_68 (lv_at hl 6 rfl) ?_
              refine x_fVI (rest := []) (c_X7_layRow l D k q T X cd (mtr S) (hLM.okP hP) hcT hLM.tv) mo_X7_124 obM F hw (Nat.le_of_ble_eq_true rfl) (x_cs F (Nat.le_of_ble_eq_true rfl) (Nat.le_of_ble_eq_true rfl)) rfl rfl hl.1 (Nat.le_of_ble_eq_true rfl) dX7_kept_70 (fun H locs hw => ?_)
              refine x_top (y := nI (mlr S cd)) (congrArg (fun z => nI (lrN (mtr S) z cd)) hLM.pc) ?_
              refine lv_istore (lv' := [(7, .int (nI (mlr S cd))), (0, .ref (q 30)), (1, .int mo), (2, .int ix), (3, .int pi), (4, .int (nI ct)), (5, .int (nI (mN S))), (6, .int (nI cd))]) hx hb dX7_kept_73 hl (Nat.le_of_ble_eq_true rfl) rfl (fun ls hl => ?_)
              refine lv_iload hx hb dX7_kept_75 (lv_at hl 0 rfl) ?_
              refine lv_aload_n hx hb dX7_kept_77 rfl (lv_at hl 1 rfl) ?_
              refine x_geti fiM_22 F hw fo_X7_112 dX7_kept_78 ?_
              refine x_top (y := T 22 0) rfl ?_
              refine x_top (y := nI (mlc S)) hLM.r22 ?_
              refine lv_iload_n hx hb dX7_kept_81 rfl (lv_at hl 2 rfl) ?_
              refine x_top (y := nI (clN mo)) hmo.1 ?_
              refine lv_iadd hx hb dX7_kept_82 ?_
              refine x_top (y := nI ((mlc S) + (clN mo))) (nI_add _ _) ?_
              refine x_icmp_gt (mlr S cd) ((mlc S) + (clN mo)) F (by omega) (by omega) (tgt := 129) dX7_kept_83 rfl (fun c83 => ?_) (fun c83 => ?_)
              · refine lv_iinc (v := nI (cd + 1)) (lv' := [(6, .int (nI (cd + 1))), (7, .int (nI (mlr S cd))), (0, .ref (q 30)), (1, .int mo), (2, .int ix), (3, .int pi), (4, .int (nI ct)), (5, .int (nI (mN S)))]) hx hb dX7_kept_129 hl (k := 7) rfl (nI_1 _) (Nat.le_of_ble_eq_true rfl) rfl (fun ls hl => ?_)
                refine lv_goto (tgt := 60) hx hb dX7_kept_132 rfl ?_
                exact ih60_ (cd + 1) ct (va_up T 21 (rowF (T 21) (mpcN T) cd)) _ _ _ (by first | omega | (simp only [] at *; omega)) (by omega) (by first | assumption | omega | rfl) (by exact hLM.row) (by first | (rw [cnt_y (decide_eq_true (by omega))]; omega) | (rw [cnt_f (decide_eq_false (by omega))]; exact h1)) (by first | exact fstF_go h2 (bA0 (decide_eq_false (by omega))) | exact fstF_go h2 (bA1 (beqF (by rw [← h1]; exact c89)))) hw (lv_sub hl [2, 3, 4, 5, 6, 7, 0] rfl)
              · refine lv_iload hx hb dX7_kept_86 (lv_at hl 5 rfl) ?_
                refine lv_iload_n hx hb dX7_kept_88 rfl (lv_at hl 3 rfl) ?_
                refine lv_icmp_ne (tgt := 126) hx hb dX7_kept_89 rfl (fun c89 => ?_) (fun c89 => ?_)
                · refine lv_iinc (v := nI (ct + 1)) (lv' := [(4, .int (nI (ct + 1))), (7, .int (nI (mlr S cd))), (0, .ref (q 30)), (1, .int mo), (2, .int ix), (3, .int pi), (5, .int (nI (mN S))), (6, .int (nI cd))]) hx hb dX7_kept_126 hl (k := 5) rfl (nI_1 _) (Nat.le_of_ble_eq_true rfl) rfl (fun ls hl => ?_)
                  refine lv_iinc (v := nI (cd + 1)) (lv' := [(6, .int (nI (cd + 1))), (4, .int (nI (ct + 1))), (7, .int (nI (mlr S cd))), (0, .ref (q 30)), (1, .int mo), (2, .int ix), (3, .int pi), (5, .int (nI (mN S)))]) hx hb dX7_kept_129 hl (k := 7) rfl (nI_1 _) (Nat.le_of_ble_eq_true rfl) rfl (fun ls hl => ?_)
                  refine lv_goto (tgt := 60) hx hb dX7_kept_132 rfl ?_
                  exact ih60_ (cd + 1) (ct + 1) (va_up T 21 (rowF (T 21) (mpcN T) cd)) _ _ _ (by first | omega | (simp only [] at *; omega)) (by omega) (by first | assumption | omega | rfl) (by exact hLM.row) (by first | (rw [cnt_y (decide_eq_true (by omega))]; omega) | (rw [cnt_f (decide_eq_false (by omega))]; exact h1)) (by first | exact fstF_go h2 (bA0 (decide_eq_false (by omega))) | exact fstF_go h2 (bA1 (beqF (by rw [← h1]; exact c89)))) hw (lv_sub hl [3, 4, 5, 6, 1, 7, 0] rfl)
                · have hix : ¬ ix = (-1) := fun w => nI_nm1' (show ct < 1000000 by omega) (c89.trans w)
                  have hmk : mkI S (clN mo) ix = cd + 1 := by unfold mkI; rw [fstF_stay (n := cd + 1) (by rw [fstF_hit h2 (bAt (decide_eq_true (by omega)) (beqT (by rw [← h1]; exact c89)))]; omega) _ (by omega)]; exact fstF_hit h2 (bAt (decide_eq_true (by omega)) (beqT (by rw [← h1]; exact c89)))
                  refine lv_iload_n hx hb dX7_kept_92 rfl (lv_at hl 4 rfl) ?_
                  refine lv_bipush (v := nI 9) hx hb dX7_kept_93 rfl ?_
                  have K125 : ∀ (y : Int32) (H : Heap) (locs : List Loc) (ls : Array Slot), (y = mkR S cd pi) → Wd D A s.heap H locs (wM k q (va_up T 21 (rowF (T 21) (mpcN T) cd)) X) → lv_has ls 8 [(0, .ref (q 30)), (1, .int mo), (2, .int ix), (3, .int pi), (4, .int (nI ct)), (5, .int (nI (mN S))), (6, .int (nI cd)), (7, .int (nI (mlr S cd)))] → W p l e R s m args below meth c H locs 0 0 Q (F0 m 125 ls [.int y]) := by
                    intro y H locs ls h125 hw hl
                    exact hret _ _ _ _ _ _ dX7_kept_125 hw rfl ⟨_, rfl, Or.inr hLM.row, by unfold m_kept; rw [if_neg hck, if_neg c28, if_neg (by omega), hmk, if_neg (by omega), h125]; rfl⟩
                  refine lv_icmp_ne (tgt := 103) hx hb dX7_kept_95 rfl (fun c95 => ?_) (fun c95 => ?_)
                  · have hpi := haMP_t hP (fun w => hck ⟨hix, c95, w⟩)
                    have hdl := dgt_lt (mpcN S) cd (clN pi)
                    refine lv_aload_n hx hb dX7_kept_103 rfl (lv_at hl 1 rfl) ?_
                    refine x_getr frM_21 F hw fo_X7_55 dX7_kept_104 ?_
                    refine lv_iload_n hx hb dX7_kept_107 rfl (lv_at hl 4 rfl) ?_
                    refine x_top (y := nI (clN pi)) hpi.1 ?_
                    refine x_iald aiM_21 F hw (clN pi) rfl (by omega) dX7_kept_108 ?_
                    refine x_top (y := (rowF (T 21) (mpcN T) cd) (clN pi)) rfl ?_
                    refine x_top (y := nI (dgt (mpcN S) cd (clN pi))) (rowF_at hLM.pc hpi.2) ?_
                    refine lv_bipush (v := nI 6) hx hb dX7_kept_109 rfl ?_
                    refine x_icmp_ne (dgt (mpcN S) cd (clN pi)) 6 F (by omega) (by omega) (tgt := 119) dX7_kept_111 rfl (fun c111 => ?_) (fun c111 => ?_)
                    · refine lv_aload_n hx hb dX7_kept_119 rfl (lv_at hl 1 rfl) ?_
                      refine x_getr frM_21 F hw fo_X7_55 dX7_kept_120 ?_
                      refine lv_iload_n hx hb dX7_kept_123 rfl (lv_at hl 4 rfl) ?_
                      refine x_top (y := nI (clN pi)) hpi.1 ?_
                      refine x_iald aiM_21 F hw (clN pi) rfl (by omega) dX7_kept_124 ?_
                      refine x_top (y := (rowF (T 21) (mpcN T) cd) (clN pi)) rfl ?_
                      refine x_top (y := nI (dgt (mpcN S) cd (clN pi))) (rowF_at hLM.pc hpi.2) ?_
                      exact K125 (nI (dgt (mpcN S) cd (clN pi))) _ _ _ (by unfold mkR dg9; first | exact (if_pos c95).symm | exact ((if_neg c95).trans (if_pos (by omega))).symm | exact ((if_neg c95).trans (if_neg (by omega))).symm) hw (lv_sub hl [1, 2, 3, 4, 5, 6, 7, 0] rfl)
                    · refine lv_bipush (v := nI 9) hx hb dX7_kept_114 rfl ?_
                      refine lv_goto (tgt := 125) hx hb dX7_kept_116 rfl ?_
                      exact K125 (nI 9) _ _ _ (by unfold mkR dg9; first | exact (if_pos c95).symm | exact ((if_neg c95).trans (if_pos (by omega))).symm | exact ((if_neg c95).trans (if_neg (by omega))).symm) hw (lv_sub hl [1, 2, 3, 4, 5, 6, 7, 0] rfl)
                  · refine lv_iload hx hb dX7_kept_98 (lv_at hl 0 rfl) ?_
                    refine lv_goto (tgt := 125) hx hb dX7_kept_100 rfl ?_
                    exact K125 (nI (mlr S cd)) _ _ _ (by unfold mkR dg9; first | exact (if_pos c95).symm | exact ((if_neg c95).trans (if_pos (by omega))).symm | exact ((if_neg c95).trans (if_neg (by omega))).symm) hw (lv_sub hl [1, 2, 3, 4, 5, 6, 7, 0] rfl)
        exact K60 _ 0 0 S2 _ _ _ (Nat.lt_succ_self _) (by exact Nat.zero_le _) (by first | assumption | omega | rfl) (by exact hLM) (by rfl) (by rfl) hw (lv_sub hl [3, 4, 5, 6, 2, 1, 0] rfl)
      · refine lv_bipush (v := (-3)) hx hb dX7_kept_41 rfl ?_
        exact hret _ _ _ _ _ _ dX7_kept_43 hw rfl ⟨S, rfl, Or.inl rfl, by unfold m_kept; rw [if_neg hck, if_neg c28, if_pos (by omega)]⟩
    · refine lv_bipush (v := (-2)) hx hb dX7_kept_31 rfl ?_
      exact hret _ _ _ _ _ _ dX7_kept_33 hw rfl ⟨S, rfl, Or.inl rfl, by unfold m_kept; rw [if_neg hck, if_pos c28]⟩
  refine lv_icmp_eq (tgt := 21) hx hb dX7_kept_2 rfl (fun c2 => ?_) (fun c2 => ?_)
  · exact K21 _ _ _ (by first | exact fun w => w.1 c2 | exact fun w => w.2.1 c8 | exact fun w => c16 w.2.2) hw (lv_sub hl [0, 1, 2, 3] rfl)
  · refine lv_iload_n hx hb dX7_kept_5 rfl (lv_at hl 3 rfl) ?_
    refine lv_bipush (v := nI 9) hx hb dX7_kept_6 rfl ?_
    refine lv_icmp_eq (tgt := 21) hx hb dX7_kept_8 rfl (fun c8 => ?_) (fun c8 => ?_)
    · exact K21 _ _ _ (by first | exact fun w => w.1 c2 | exact fun w => w.2.1 c8 | exact fun w => c16 w.2.2) hw (lv_sub hl [0, 1, 2, 3] rfl)
    · refine lv_aload_n hx hb dX7_kept_11 rfl (lv_at hl 0 rfl) ?_
      refine lv_iload_n hx hb dX7_kept_12 rfl (lv_at hl 3 rfl) ?_
      refine x_fVI (rest := []) (c_X7_isPicture l D k q S X pi (by first | assumption | omega)) mo_X7_85 obM F hw (Nat.le_of_ble_eq_true rfl) (x_cs F (Nat.le_of_ble_eq_true rfl) (Nat.le_of_ble_eq_true rfl)) rfl rfl hl.1 (Nat.le_of_ble_eq_true rfl) dX7_kept_13 (fun H locs hw => ?_)
      refine lv_if_ne (tgt := 21) hx hb dX7_kept_16 rfl (fun c16 => ?_) (fun c16 => ?_)
      · exact K21 _ _ _ (by first | exact fun w => w.1 c2 | exact fun w => w.2.1 c8 | exact fun w => c16 w.2.2) hw (lv_sub hl [0, 1, 2, 3] rfl)
      · refine lv_iconst (v := (-1)) hx hb dX7_kept_19 rfl ?_
        exact hret _ _ _ _ _ _ dX7_kept_20 hw rfl ⟨S, rfl, Or.inl rfl, by unfold m_kept; rw [if_pos ⟨c2, c8, c16⟩]⟩
set_option maxHeartbeats 4000000 in
set_option maxRecDepth 20000 in
theorem c_X7_sure (l : Launch) (D : va_G) (k : Nat → ClassId) (q : Nat → Nat) (S : St) (X : va_W) (mo : Int32) (pi : Int32) (hP : okMP S) (hL : okML S) (hV : okMV S) (hB : okMB S) (hLd : S 18 0 = nI 0 ∨ (S 18 0 = nI 1 ∧ okLd S)) : CI l D k yX7_sure cX7_sure 7 (some .int) 3 0 0 [.ref (q 30), .int mo, .int pi] (wM k q S X) (fun r w' => ∃ S', w' = wM k q S' X ∧ LQ S S' ∧ r = m_sure S mo pi) := by
  refine CI.mk (by decide) (Nat.le_of_ble_eq_true rfl) ?_
  intro p e R s m args below meth c A Q ls F hret hw hl
  have hx := xs_hx F
  have hb := xs_hb F
  have hl : lv_has ls 7 [(0, .ref (q 30)), (1, .int mo), (2, .int pi)] := hl
  have h6 := hP.2
  have hl50 := hL.2
  have h7c : mN S ≤ 117649 := Nat.le_trans (Nat.pow_le_pow_right (by omega) h6) (by decide)
  refine lv_iload_n hx hb dX7_sure_0 rfl (lv_at hl 2 rfl) ?_
  refine lv_bipush (v := nI 9) hx hb dX7_sure_1 rfl ?_
  have K16 : ∀ (H : Heap) (locs : List Loc) (ls : Array Slot), (¬ (¬ pi = nI 9 ∧ haMP S pi = 0)) → Wd D A s.heap H locs (wM k q S X) → lv_has ls 7 [(0, .ref (q 30)), (1, .int mo), (2, .int pi)] → W p l e R s m args below meth c H locs 0 0 Q (F0 m 16 ls []) := by
    intro H locs ls hck hw hl
    refine lv_iload_n hx hb dX7_sure_16 rfl (lv_at hl 1 rfl) ?_
    refine lv_iconst (v := nI 0) hx hb dX7_sure_17 rfl ?_
    refine lv_bipush (v := nI 99) hx hb dX7_sure_18 rfl ?_
    refine x_fSI (rest := []) (c_X7_in l D k (wM k q S X) mo (nI 0) (nI 99)) mo_X7_69 F hw (Nat.le_of_ble_eq_true rfl) (x_cs F (Nat.le_of_ble_eq_true rfl) (Nat.le_of_ble_eq_true rfl)) rfl rfl hl.1 (Nat.le_of_ble_eq_true rfl) dX7_sure_20 (fun H locs hw => ?_)
    refine lv_if_ne (tgt := 29) hx hb dX7_sure_23 rfl (fun c23 => ?_) (fun c23 => ?_)
    · have hmo := f_in_t (by omega) c23
      refine lv_aload_n hx hb dX7_sure_29 rfl (lv_at hl 0 rfl) ?_
      refine x_geti fiM_0 F hw fo_X7_65 dX7_sure_30 ?_
      refine x_top (y := nI (mpcN S)) hP.1 ?_
      refine x_if_ne (mpcN S) F (by omega) (tgt := 39) dX7_sure_33 rfl (fun c33 => ?_) (fun c33 => ?_)
      · refine lv_aload_n hx hb dX7_sure_39 rfl (lv_at hl 0 rfl) ?_
        refine x_callVV (rest := []) (c_X7_layTrees l D k q S X hP hL hV hB hLd) mo_X7_128 obM F hw (Nat.le_of_ble_eq_true rfl) (x_cs F (Nat.le_of_ble_eq_true rfl) (Nat.le_of_ble_eq_true rfl)) rfl rfl hl.1 (Nat.le_of_ble_eq_true rfl) dX7_sure_40 (fun w_ H locs hp hw => ?_)
        obtain ⟨S2, hp1, hLM⟩ := hp
        rw [hp1] at hw
        have hLM : LM S S2 := hLM
        refine lv_iconst (v := nI 1) hx hb dX7_sure_43 rfl ?_
        refine lv_aload_n hx hb dX7_sure_44 rfl (lv_at hl 0 rfl) ?_
        refine x_geti fiM_0 F hw fo_X7_65 dX7_sure_45 ?_
        refine x_top (y := nI (mpcN S)) ((congrFun (hLM.1 0 (by omega)) 0).trans hP.1) ?_
        refine lv_ishl hx hb dX7_sure_48 ?_
        refine lv_iconst (v := nI 1) hx hb dX7_sure_49 rfl ?_
        refine lv_isub hx hb dX7_sure_50 ?_
        refine lv_istore_n (lv' := [(3, .int (((nI 1) <<< ((nI (mpcN S)) &&& 31)) - (nI 1))), (0, .ref (q 30)), (1, .int mo), (2, .int pi)]) hx hb dX7_sure_51 rfl hl (Nat.le_of_ble_eq_true rfl) rfl (fun ls hl => ?_)
        refine lv_aload_n hx hb dX7_sure_52 rfl (lv_at hl 1 rfl) ?_
        refine x_fVI (rest := []) (c_X7_rows l D k q S2 X (by exact hLM.okP hP)) mo_X7_121 obM F hw (Nat.le_of_ble_eq_true rfl) (x_cs F (Nat.le_of_ble_eq_true rfl) (Nat.le_of_ble_eq_true rfl)) rfl rfl hl.1 (Nat.le_of_ble_eq_true rfl) dX7_sure_53 (fun H locs hw => ?_)
        refine x_top (y := nI (mN S)) (congrArg (fun z => nI (7 ^ z)) hLM.pc) ?_
        refine lv_istore (lv' := [(4, .int (nI (mN S))), (3, .int (((nI 1) <<< ((nI (mpcN S)) &&& 31)) - (nI 1))), (0, .ref (q 30)), (1, .int mo), (2, .int pi)]) hx hb dX7_sure_56 hl (Nat.le_of_ble_eq_true rfl) rfl (fun ls hl => ?_)
        refine lv_iconst (v := nI 0) hx hb dX7_sure_58 rfl ?_
        refine lv_istore (lv' := [(5, .int (nI 0)), (4, .int (nI (mN S))), (3, .int (((nI 1) <<< ((nI (mpcN S)) &&& 31)) - (nI 1))), (0, .ref (q 30)), (1, .int mo), (2, .int pi)]) hx hb dX7_sure_59 hl (Nat.le_of_ble_eq_true rfl) rfl (fun ls hl => ?_)
        have K61 : ∀ (n61_ : Nat) (cd : Nat) (x : Int32) (T : St) (H : Heap) (locs : List Loc) (ls : Array Slot), mN S - cd < n61_ → (cd ≤ mN S) → (LM S T) → (x = suF S (clN mo) pi cd) → Wd D A s.heap H locs (wM k q T X) → lv_has ls 7 [(0, .ref (q 30)), (1, .int mo), (2, .int pi), (3, .int x), (4, .int (nI (mN S))), (5, .int (nI cd))] → W p l e R s m args below meth c H locs 0 0 Q (F0 m 61 ls []) := by
          intro n61_
          induction n61_ with
          | zero =>
            intro cd x T H locs ls hn61_
            exact absurd hn61_ (Nat.not_lt_zero _)
          | succ n61_ ih61_ =>
            intro cd x T H locs ls hn61_ hc hLM h1 hw hl
            refine lv_iload hx hb dX7_sure_61 (lv_at hl 5 rfl) ?_
            refine lv_iload hx hb dX7_sure_63 (lv_at hl 4 rfl) ?_
            refine x_icmp_ge cd (mN S) F (by omega) (by omega) (tgt := 143) dX7_sure_65 rfl (fun c65 => ?_) (fun c65 => ?_)
            · refine lv_iload_n hx hb dX7_sure_143 rfl (lv_at hl 3 rfl) ?_
              exact hret _ _ _ _ _ _ dX7_sure_144 hw rfl ⟨T, rfl, Or.inr hLM, by unfold m_sure; rw [if_neg hck, if_neg c23, if_neg (by omega), h1, show mN S = cd by omega]⟩
            · have hlc : mlc S ≤ 100000000 := lcF_le _ _ _
              have hlr : mlr S cd ≤ 100000000 := lrN_le _ _ _
              have hcT : cd < 117649 := by omega
              refine lv_aload_n hx hb dX7_sure_68 rfl (lv_at hl 0 rfl) ?_
              refine lv_iload hx hb dX7_sure_69 (lv_at hl 5 rfl) ?_
              refine x_fVI (rest := []) (c_X7_layRow l D k q T X cd (mtr S) (hLM.okP hP) hcT hLM.tv) mo_X7_124 obM F hw (Nat.le_of_ble_eq_true rfl) (x_cs F (Nat.le_of_ble_eq_true rfl) (Nat.le_of_ble_eq_true rfl)) rfl rfl hl.1 (Nat.le_of_ble_eq_true rfl) dX7_sure_71 (fun H locs hw => ?_)
              refine x_top (y := nI (mlr S cd)) (congrArg (fun z => nI (lrN (mtr S) z cd)) hLM.pc) ?_
              refine lv_aload_n hx hb dX7_sure_74 rfl (lv_at hl 0 rfl) ?_
              refine x_geti fiM_22 F hw fo_X7_112 dX7_sure_75 ?_
              refine x_top (y := T 22 0) rfl ?_
              refine x_top (y := nI (mlc S)) hLM.r22 ?_
              refine lv_iload_n hx hb dX7_sure_78 rfl (lv_at hl 1 rfl) ?_
              refine x_top (y := nI (clN mo)) hmo.1 ?_
              refine lv_iadd hx hb dX7_sure_79 ?_
              refine x_top (y := nI ((mlc S) + (clN mo))) (nI_add _ _) ?_
              refine x_icmp_gt (mlr S cd) ((mlc S) + (clN mo)) F (by omega) (by omega) (tgt := 137) dX7_sure_80 rfl (fun c80 => ?_) (fun c80 => ?_)
              · refine lv_iinc (v := nI (cd + 1)) (lv' := [(5, .int (nI (cd + 1))), (0, .ref (q 30)), (1, .int mo), (2, .int pi), (3, .int x), (4, .int (nI (mN S)))]) hx hb dX7_sure_137 hl (k := 5) rfl (nI_1 _) (Nat.le_of_ble_eq_true rfl) rfl (fun ls hl => ?_)
                refine lv_goto (tgt := 61) hx hb dX7_sure_140 rfl ?_
                exact ih61_ (cd + 1) x (va_up T 21 (rowF (T 21) (mpcN T) cd)) _ _ _ (by first | omega | (simp only [] at *; omega)) (by omega) (by exact hLM.row) (by first | exact h1.trans (suF_n (decide_eq_false (by omega))).symm | (rw [suF_y (decide_eq_true (by omega)), h2, h1, show pn = mpcN S by omega])) hw (lv_sub hl [1, 2, 3, 4, 5, 0] rfl)
              · refine lv_iconst (v := nI 0) hx hb dX7_sure_83 rfl ?_
                refine lv_istore (lv' := [(6, .int (nI 0)), (0, .ref (q 30)), (1, .int mo), (2, .int pi), (3, .int x), (4, .int (nI (mN S))), (5, .int (nI cd))]) hx hb dX7_sure_84 hl (Nat.le_of_ble_eq_true rfl) rfl (fun ls hl => ?_)
                have K86 : ∀ (n86_ : Nat) (pn : Nat) (y : Int32) (H : Heap) (locs : List Loc) (ls : Array Slot), mpcN S - pn < n86_ → (pn ≤ mpcN S) → (y = inF (dgt (mpcN S) cd) (soI pi) x pn) → Wd D A s.heap H locs (wM k q (va_up T 21 (rowF (T 21) (mpcN T) cd)) X) → lv_has ls 7 [(0, .ref (q 30)), (1, .int mo), (2, .int pi), (3, .int y), (4, .int (nI (mN S))), (5, .int (nI cd)), (6, .int (nI pn))] → W p l e R s m args below meth c H locs 0 0 Q (F0 m 86 ls []) := by
                  intro n86_
                  induction n86_ with
                  | zero =>
                    intro pn y H locs ls hn86_
                    exact absurd hn86_ (Nat.not_lt_zero _)
                  | succ n86_ ih86_ =>
                    intro pn y H locs ls hn86_ hpn h2 hw hl
                    refine lv_iload hx hb dX7_sure_86 (lv_at hl 6 rfl) ?_
                    refine lv_aload_n hx hb dX7_sure_88 rfl (lv_at hl 0 rfl) ?_
                    refine x_geti fiM_0 F hw fo_X7_65 dX7_sure_89 ?_
                    refine x_top (y := T 0 0) rfl ?_
                    refine x_top (y := nI (mpcN S)) ((congrFun (hLM.1 0 (by omega)) 0).trans hP.1) ?_
                    refine x_icmp_ge pn (mpcN S) F (by omega) (by omega) (tgt := 137) dX7_sure_92 rfl (fun c92 => ?_) (fun c92 => ?_)
                    · refine lv_iinc (v := nI (cd + 1)) (lv' := [(5, .int (nI (cd + 1))), (0, .ref (q 30)), (1, .int mo), (2, .int pi), (3, .int y), (4, .int (nI (mN S))), (6, .int (nI pn))]) hx hb dX7_sure_137 hl (k := 5) rfl (nI_1 _) (Nat.le_of_ble_eq_true rfl) rfl (fun ls hl => ?_)
                      refine lv_goto (tgt := 61) hx hb dX7_sure_140 rfl ?_
                      exact ih61_ (cd + 1) y (va_up T 21 (rowF (T 21) (mpcN T) cd)) _ _ _ (by first | omega | (simp only [] at *; omega)) (by omega) (by exact hLM.row) (by first | exact h1.trans (suF_n (decide_eq_false (by omega))).symm | (rw [suF_y (decide_eq_true (by omega)), h2, h1, show pn = mpcN S by omega])) hw (lv_sub hl [1, 2, 3, 4, 5, 0] rfl)
                    · refine lv_iload_n hx hb dX7_sure_95 rfl (lv_at hl 3 rfl) ?_
                      refine lv_aload_n hx hb dX7_sure_96 rfl (lv_at hl 0 rfl) ?_
                      refine x_getr frM_21 F hw fo_X7_55 dX7_sure_97 ?_
                      refine lv_iload hx hb dX7_sure_100 (lv_at hl 6 rfl) ?_
                      refine x_iald aiM_21 F hw pn rfl (by omega) dX7_sure_102 ?_
                      refine x_top (y := (rowF (T 21) (mpcN T) cd) pn) rfl ?_
                      refine x_top (y := nI (dgt (mpcN S) cd pn)) (rowF_at hLM.pc (by omega)) ?_
                      refine lv_iload_n hx hb dX7_sure_103 rfl (lv_at hl 2 rfl) ?_
                      refine lv_bipush (v := nI 9) hx hb dX7_sure_104 rfl ?_
                      have K115 : ∀ (so : Int32) (H : Heap) (locs : List Loc) (ls : Array Slot), (so = soI pi) → Wd D A s.heap H locs (wM k q (va_up T 21 (rowF (T 21) (mpcN T) cd)) X) → lv_has ls 7 [(0, .ref (q 30)), (1, .int mo), (2, .int pi), (3, .int y), (4, .int (nI (mN S))), (5, .int (nI cd)), (6, .int (nI pn))] → W p l e R s m args below meth c H locs 0 0 Q (F0 m 115 ls [.int so, .int (nI (dgt (mpcN S) cd pn)), .int y]) := by
                        intro so H locs ls h115 hw hl
                        have K129 : ∀ (v : Int32) (H : Heap) (locs : List Loc) (ls : Array Slot), (v = if nI (dgt (mpcN S) cd pn) = soI pi then nI 63 else ((nI 1 <<< (nI pn &&& 31)) ^^^ (-1))) → Wd D A s.heap H locs (wM k q (va_up T 21 (rowF (T 21) (mpcN T) cd)) X) → lv_has ls 7 [(0, .ref (q 30)), (1, .int mo), (2, .int pi), (3, .int y), (4, .int (nI (mN S))), (5, .int (nI cd)), (6, .int (nI pn))] → W p l e R s m args below meth c H locs 0 0 Q (F0 m 129 ls [.int v, .int y]) := by
                          intro v H locs ls h129 hw hl
                          refine lv_iand hx hb dX7_sure_129 ?_
                          refine lv_istore_n (lv' := [(3, .int (y &&& v)), (0, .ref (q 30)), (1, .int mo), (2, .int pi), (4, .int (nI (mN S))), (5, .int (nI cd)), (6, .int (nI pn))]) hx hb dX7_sure_130 rfl hl (Nat.le_of_ble_eq_true rfl) rfl (fun ls hl => ?_)
                          refine lv_iinc (v := nI (pn + 1)) (lv' := [(6, .int (nI (pn + 1))), (3, .int (y &&& v)), (0, .ref (q 30)), (1, .int mo), (2, .int pi), (4, .int (nI (mN S))), (5, .int (nI cd))]) hx hb dX7_sure_131 hl (k := 6) rfl (nI_1 _) (Nat.le_of_ble_eq_true rfl) rfl (fun ls hl => ?_)
                          refine lv_goto (tgt := 86) hx hb dX7_sure_134 rfl ?_
                          exact ih86_ (pn + 1) (y &&& v) _ _ _ (by first | omega | (simp only [] at *; omega)) (by first | assumption | omega | rfl) (by rw [h129, h2]; rfl) hw (lv_sub hl [2, 3, 4, 1, 5, 6, 0] rfl)
                        refine lv_icmp_ne (tgt := 123) hx hb dX7_sure_115 rfl (fun c115 => ?_) (fun c115 => ?_)
                        · refine lv_iconst (v := nI 1) hx hb dX7_sure_123 rfl ?_
                          refine lv_iload hx hb dX7_sure_124 (lv_at hl 6 rfl) ?_
                          refine lv_ishl hx hb dX7_sure_126 ?_
                          refine lv_iconst (v := (-1)) hx hb dX7_sure_127 rfl ?_
                          refine lv_ixor hx hb dX7_sure_128 ?_
                          exact K129 (((nI 1) <<< ((nI pn) &&& 31)) ^^^ (-1)) _ _ _ (by rw [← h115]; first | exact (if_pos c115).symm | exact (if_neg c115).symm) hw (lv_sub hl [0, 1, 2, 3, 4, 5, 6] rfl)
                        · refine lv_bipush (v := nI 63) hx hb dX7_sure_118 rfl ?_
                          refine lv_goto (tgt := 129) hx hb dX7_sure_120 rfl ?_
                          exact K129 (nI 63) _ _ _ (by rw [← h115]; first | exact (if_pos c115).symm | exact (if_neg c115).symm) hw (lv_sub hl [0, 1, 2, 3, 4, 5, 6] rfl)
                      refine lv_icmp_ne (tgt := 114) hx hb dX7_sure_106 rfl (fun c106 => ?_) (fun c106 => ?_)
                      · refine lv_iload_n hx hb dX7_sure_114 rfl (lv_at hl 2 rfl) ?_
                        have K129 : ∀ (v : Int32) (H : Heap) (locs : List Loc) (ls : Array Slot), (v = if nI (dgt (mpcN S) cd pn) = soI pi then nI 63 else ((nI 1 <<< (nI pn &&& 31)) ^^^ (-1))) → Wd D A s.heap H locs (wM k q (va_up T 21 (rowF (T 21) (mpcN T) cd)) X) → lv_has ls 7 [(0, .ref (q 30)), (1, .int mo), (2, .int pi), (3, .int y), (4, .int (nI (mN S))), (5, .int (nI cd)), (6, .int (nI pn))] → W p l e R s m args below meth c H locs 0 0 Q (F0 m 129 ls [.int v, .int y]) := by
                          intro v H locs ls h129 hw hl
                          refine lv_iand hx hb dX7_sure_129 ?_
                          refine lv_istore_n (lv' := [(3, .int (y &&& v)), (0, .ref (q 30)), (1, .int mo), (2, .int pi), (4, .int (nI (mN S))), (5, .int (nI cd)), (6, .int (nI pn))]) hx hb dX7_sure_130 rfl hl (Nat.le_of_ble_eq_true rfl) rfl (fun ls hl => ?_)
                          refine lv_iinc (v := nI (pn + 1)) (lv' := [(6, .int (nI (pn + 1))), (3, .int (y &&& v)), (0, .ref (q 30)), (1, .int mo), (2, .int pi), (4, .int (nI (mN S))), (5, .int (nI cd))]) hx hb dX7_sure_131 hl (k := 6) rfl (nI_1 _) (Nat.le_of_ble_eq_true rfl) rfl (fun ls hl => ?_)
                          refine lv_goto (tgt := 86) hx hb dX7_sure_134 rfl ?_
                          exact ih86_ (pn + 1) (y &&& v) _ _ _ (by first | omega | (simp only [] at *; omega)) (by first | assumption | omega | rfl) (by rw [h129, h2]; rfl) hw (lv_sub hl [2, 3, 4, 1, 5, 6, 0] rfl)
                        exact K115 pi _ _ _ (by unfold soI; first | exact (if_pos c106).symm | exact (if_neg c106).symm) hw (lv_sub hl [0, 1, 2, 3, 4, 5, 6] rfl)
                      · refine lv_bipush (v := nI 6) hx hb dX7_sure_109 rfl ?_
                        refine lv_goto (tgt := 115) hx hb dX7_sure_111 rfl ?_
                        have K129 : ∀ (v : Int32) (H : Heap) (locs : List Loc) (ls : Array Slot), (v = if nI (dgt (mpcN S) cd pn) = soI pi then nI 63 else ((nI 1 <<< (nI pn &&& 31)) ^^^ (-1))) → Wd D A s.heap H locs (wM k q (va_up T 21 (rowF (T 21) (mpcN T) cd)) X) → lv_has ls 7 [(0, .ref (q 30)), (1, .int mo), (2, .int pi), (3, .int y), (4, .int (nI (mN S))), (5, .int (nI cd)), (6, .int (nI pn))] → W p l e R s m args below meth c H locs 0 0 Q (F0 m 129 ls [.int v, .int y]) := by
                          intro v H locs ls h129 hw hl
                          refine lv_iand hx hb dX7_sure_129 ?_
                          refine lv_istore_n (lv' := [(3, .int (y &&& v)), (0, .ref (q 30)), (1, .int mo), (2, .int pi), (4, .int (nI (mN S))), (5, .int (nI cd)), (6, .int (nI pn))]) hx hb dX7_sure_130 rfl hl (Nat.le_of_ble_eq_true rfl) rfl (fun ls hl => ?_)
                          refine lv_iinc (v := nI (pn + 1)) (lv' := [(6, .int (nI (pn + 1))), (3, .int (y &&& v)), (0, .ref (q 30)), (1, .int mo), (2, .int pi), (4, .int (nI (mN S))), (5, .int (nI cd))]) hx hb dX7_sure_131 hl (k := 6) rfl (nI_1 _) (Nat.le_of_ble_eq_true rfl) rfl (fun ls hl => ?_)
                          refine lv_goto (tgt := 86) hx hb dX7_sure_134 rfl ?_
                          exact ih86_ (pn + 1) (y &&& v) _ _ _ (by first | omega | (simp only [] at *; omega)) (by first | assumption | omega | rfl) (by rw [h129, h2]; rfl) hw (lv_sub hl [2, 3, 4, 1, 5, 6, 0] rfl)
                        exact K115 (nI 6) _ _ _ (by unfold soI; first | exact (if_pos c106).symm | exact (if_neg c106).symm) hw (lv_sub hl [0, 1, 2, 3, 4, 5, 6] rfl)
                exact K86 _ 0 x _ _ _ (Nat.lt_succ_self _) (by first | assumption | omega | rfl) (by rfl) hw (lv_sub hl [1, 2, 3, 4, 5, 6, 0] rfl)
        exact K61 _ 0 (((nI 1) <<< ((nI (mpcN S)) &&& 31)) - (nI 1)) S2 _ _ _ (Nat.lt_succ_self _) (by exact Nat.zero_le _) (by exact hLM) (by rfl) hw (lv_sub hl [3, 4, 5, 2, 1, 0] rfl)
      · refine lv_bipush (v := (-3)) hx hb dX7_sure_36 rfl ?_
        exact hret _ _ _ _ _ _ dX7_sure_38 hw rfl ⟨S, rfl, Or.inl rfl, by unfold m_sure; rw [if_neg hck, if_neg c23, if_pos (by omega)]⟩
    · refine lv_bipush (v := (-2)) hx hb dX7_sure_26 rfl ?_
      exact hret _ _ _ _ _ _ dX7_sure_28 hw rfl ⟨S, rfl, Or.inl rfl, by unfold m_sure; rw [if_neg hck, if_pos c23]⟩
  refine lv_icmp_eq (tgt := 16) hx hb dX7_sure_3 rfl (fun c3 => ?_) (fun c3 => ?_)
  · exact K16 _ _ _ (by first | exact fun w => w.1 c3 | exact fun w => c11 w.2) hw (lv_sub hl [0, 1, 2] rfl)
  · refine lv_aload_n hx hb dX7_sure_6 rfl (lv_at hl 0 rfl) ?_
    refine lv_iload_n hx hb dX7_sure_7 rfl (lv_at hl 2 rfl) ?_
    refine x_fVI (rest := []) (c_X7_isPicture l D k q S X pi (by first | assumption | omega)) mo_X7_85 obM F hw (Nat.le_of_ble_eq_true rfl) (x_cs F (Nat.le_of_ble_eq_true rfl) (Nat.le_of_ble_eq_true rfl)) rfl rfl hl.1 (Nat.le_of_ble_eq_true rfl) dX7_sure_8 (fun H locs hw => ?_)
    refine lv_if_ne (tgt := 16) hx hb dX7_sure_11 rfl (fun c11 => ?_) (fun c11 => ?_)
    · exact K16 _ _ _ (by first | exact fun w => w.1 c3 | exact fun w => c11 w.2) hw (lv_sub hl [0, 1, 2] rfl)
    · refine lv_iconst (v := (-1)) hx hb dX7_sure_14 rfl ?_
      exact hret _ _ _ _ _ _ dX7_sure_15 hw rfl ⟨S, rfl, Or.inl rfl, by unfold m_sure; rw [if_pos ⟨c3, c11⟩]⟩
