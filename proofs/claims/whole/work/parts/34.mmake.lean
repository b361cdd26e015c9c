/-! ===== the reference: its maker ===== -/
def S0 : St := fun _ _ => 0
def bR (f : Nat → Int32) (n : Nat) : Prop := ∀ j, j < n → f j = nI 1 <<< (nI j &&& 31)
theorem bR_s {f : Nat → Int32} {i : Nat} (h : bR f i) : bR (upd f i (nI 1 <<< (nI i &&& 31))) (i + 1) := upd_cp (g := fun j => nI 1 <<< (nI j &&& 31)) h
def d7 : List Value := [.int 0, .null, .null, .null, .null, .null, .int 0, .null, .int 0, .null, .null, .null, .null, .int 0, .null, .int 0, .null, .null, .int 0, .null, .null, .null, .int 0, .int 0, .int 0, .int 0, .int 0, .int 0, .null, .null]
def t5M : Nat → Int32 := (upd (upd (upd (upd (fun _ => 0) 0 (nI 20)) 1 (nI 99)) 2 (nI 10)) 3 (nI 10))
def t10M : Nat → Int32 := (upd (upd (upd (upd (fun _ => 0) 0 (nI 10)) 1 (nI 10)) 2 (nI 1)) 3 (nI 1))
def iniM (k : Nat → ClassId) (a : Nat) (X : va_W) (w' : va_W) : Prop := ∃ (q : Nat → Nat) (f11 f12 : Nat → Int32), q 30 = a ∧ w' = wM k q (va_up (va_up (va_up (va_up S0 5 t5M) 10 t10M) 11 f11) 12 f12) X ∧ bR f11 8 ∧ bR f12 8
set_option maxHeartbeats 4000000 in
set_option maxRecDepth 20000 in
theorem c_X7_init (l : Launch) (D : va_G) (k : Nat → ClassId) (a : Nat) (X : va_W) : CV l D k yX7_init cX7_init 2 1 18 474 [.ref a] ((a, .inr (7, d7)) :: X) (iniM k a X) := by
  refine CV.mk (by decide) (Nat.le_of_ble_eq_true rfl) ?_
  intro p e R s m args below meth c A Q ls F hnm hret hw hl
  have hx := xs_hx F
  have hb := xs_hb F
  have hl : lv_has ls 2 [(0, .ref a)] := hl
  refine lv_aload_n hx hb dX7_init_0 rfl (lv_at hl 0 rfl) ?_
  refine x_obj F ol_X7_1 (Nat.le_of_ble_eq_true rfl) hl.1 (Nat.le_of_ble_eq_true rfl) dX7_init_1 w_oi w_oc ?_
  refine lv_aload_n hx hb dX7_init_4 rfl (lv_at hl 0 rfl) ?_
  refine lv_bipush (v := nI 6) hx hb dX7_init_5 rfl ?_
  refine x_newi 6 F w_acI hw rfl (by omega) (x_cs F (Nat.le_of_ble_eq_true rfl) (Nat.le_of_ble_eq_true rfl)) dX7_init_7 (fun a1 H hw => ?_)
  refine x_putF 1 rfl (Nat.le_of_ble_eq_true rfl) F hw fo_X7_7 hnm rfl rfl rfl dX7_init_9 (fun H locs hw => ?_)
  have hw : Wd D A s.heap H locs ((a1, .inl (k 0, 6, .inl (fun _ => 0))) :: (a, .inr (7, [.int 0, .ref a1, .null, .null, .null, .null, .int 0, .null, .int 0, .null, .null, .null, .null, .int 0, .null, .int 0, .null, .null, .int 0, .null, .null, .null, .int 0, .int 0, .int 0, .int 0, .int 0, .int 0, .null, .null])) :: X) := hw
  refine lv_aload_n hx hb dX7_init_12 rfl (lv_at hl 0 rfl) ?_
  refine lv_bipush (v := nI 6) hx hb dX7_init_13 rfl ?_
  refine x_newi 6 F w_acI hw rfl (by omega) (x_cs F (Nat.le_of_ble_eq_true rfl) (Nat.le_of_ble_eq_true rfl)) dX7_init_15 (fun a2 H hw => ?_)
  refine x_putF 2 rfl (Nat.le_of_ble_eq_true rfl) F hw fo_X7_13 hnm rfl rfl rfl dX7_init_17 (fun H locs hw => ?_)
  have hw : Wd D A s.heap H locs ((a2, .inl (k 0, 6, .inl (fun _ => 0))) :: (a1, .inl (k 0, 6, .inl (fun _ => 0))) :: (a, .inr (7, [.int 0, .ref a1, .ref a2, .null, .null, .null, .int 0, .null, .int 0, .null, .null, .null, .null, .int 0, .null, .int 0, .null, .null, .int 0, .null, .null, .null, .int 0, .int 0, .int 0, .int 0, .int 0, .int 0, .null, .null])) :: X) := hw
  refine lv_aload_n hx hb dX7_init_20 rfl (lv_at hl 0 rfl) ?_
  refine lv_bipush (v := nI 6) hx hb dX7_init_21 rfl ?_
  refine x_newi 6 F w_acI hw rfl (by omega) (x_cs F (Nat.le_of_ble_eq_true rfl) (Nat.le_of_ble_eq_true rfl)) dX7_init_23 (fun a3 H hw => ?_)
  refine x_putF 3 rfl (Nat.le_of_ble_eq_true rfl) F hw fo_X7_16 hnm rfl rfl rfl dX7_init_25 (fun H locs hw => ?_)
  have hw : Wd D A s.heap H locs ((a3, .inl (k 0, 6, .inl (fun _ => 0))) :: (a2, .inl (k 0, 6, .inl (fun _ => 0))) :: (a1, .inl (k 0, 6, .inl (fun _ => 0))) :: (a, .inr (7, [.int 0, .ref a1, .ref a2, .ref a3, .null, .null, .int 0, .null, .int 0, .null, .null, .null, .null, .int 0, .null, .int 0, .null, .null, .int 0, .null, .null, .null, .int 0, .int 0, .int 0, .int 0, .int 0, .int 0, .null, .null])) :: X) := hw
  refine lv_aload_n hx hb dX7_init_28 rfl (lv_at hl 0 rfl) ?_
  refine lv_bipush (v := nI 6) hx hb dX7_init_29 rfl ?_
  refine x_newi 6 F w_acI hw rfl (by omega) (x_cs F (Nat.le_of_ble_eq_true rfl) (Nat.le_of_ble_eq_true rfl)) dX7_init_31 (fun a4 H hw => ?_)
  refine x_putF 4 rfl (Nat.le_of_ble_eq_true rfl) F hw fo_X7_19 hnm rfl rfl rfl dX7_init_33 (fun H locs hw => ?_)
  have hw : Wd D A s.heap H locs ((a4, .inl (k 0, 6, .inl (fun _ => 0))) :: (a3, .inl (k 0, 6, .inl (fun _ => 0))) :: (a2, .inl (k 0, 6, .inl (fun _ => 0))) :: (a1, .inl (k 0, 6, .inl (fun _ => 0))) :: (a, .inr (7, [.int 0, .ref a1, .ref a2, .ref a3, .ref a4, .null, .int 0, .null, .int 0, .null, .null, .null, .null, .int 0, .null, .int 0, .null, .null, .int 0, .null, .null, .null, .int 0, .int 0, .int 0, .int 0, .int 0, .int 0, .null, .null])) :: X) := hw
  refine lv_aload_n hx hb dX7_init_36 rfl (lv_at hl 0 rfl) ?_
  refine lv_iconst (v := nI 4) hx hb dX7_init_37 rfl ?_
  refine x_newi 4 F w_acI hw rfl (by omega) (x_cs F (Nat.le_of_ble_eq_true rfl) (Nat.le_of_ble_eq_true rfl)) dX7_init_38 (fun a5 H hw => ?_)
  refine x_putF 5 rfl (Nat.le_of_ble_eq_true rfl) F hw fo_X7_22 hnm rfl rfl rfl dX7_init_40 (fun H locs hw => ?_)
  have hw : Wd D A s.heap H locs ((a5, .inl (k 0, 4, .inl (fun _ => 0))) :: (a4, .inl (k 0, 6, .inl (fun _ => 0))) :: (a3, .inl (k 0, 6, .inl (fun _ => 0))) :: (a2, .inl (k 0, 6, .inl (fun _ => 0))) :: (a1, .inl (k 0, 6, .inl (fun _ => 0))) :: (a, .inr (7, [.int 0, .ref a1, .ref a2, .ref a3, .ref a4, .ref a5, .int 0, .null, .int 0, .null, .null, .null, .null, .int 0, .null, .int 0, .null, .null, .int 0, .null, .null, .null, .int 0, .int 0, .int 0, .int 0, .int 0, .int 0, .null, .null])) :: X) := hw
  refine lv_aload_n hx hb dX7_init_43 rfl (lv_at hl 0 rfl) ?_
  refine lv_bipush (v := nI 50) hx hb dX7_init_44 rfl ?_
  refine x_newi 50 F w_acI hw rfl (by omega) (x_cs F (Nat.le_of_ble_eq_true rfl) (Nat.le_of_ble_eq_true rfl)) dX7_init_46 (fun a7 H hw => ?_)
  refine x_putF 6 rfl (Nat.le_of_ble_eq_true rfl) F hw fo_X7_25 hnm rfl rfl rfl dX7_init_48 (fun H locs hw => ?_)
  have hw : Wd D A s.heap H locs ((a7, .inl (k 0, 50, .inl (fun _ => 0))) :: (a5, .inl (k 0, 4, .inl (fun _ => 0))) :: (a4, .inl (k 0, 6, .inl (fun _ => 0))) :: (a3, .inl (k 0, 6, .inl (fun _ => 0))) :: (a2, .inl (k 0, 6, .inl (fun _ => 0))) :: (a1, .inl (k 0, 6, .inl (fun _ => 0))) :: (a, .inr (7, [.int 0, .ref a1, .ref a2, .ref a3, .ref a4, .ref a5, .int 0, .ref a7, .int 0, .null, .null, .null, .null, .int 0, .null, .int 0, .null, .null, .int 0, .null, .null, .null, .int 0, .int 0, .int 0, .int 0, .int 0, .int 0, .null, .null])) :: X) := hw
  refine lv_aload_n hx hb dX7_init_51 rfl (lv_at hl 0 rfl) ?_
  refine lv_bipush (v := nI 50) hx hb dX7_init_52 rfl ?_
  refine x_newi 50 F w_acI hw rfl (by omega) (x_cs F (Nat.le_of_ble_eq_true rfl) (Nat.le_of_ble_eq_true rfl)) dX7_init_54 (fun a9 H hw => ?_)
  refine x_putF 7 rfl (Nat.le_of_ble_eq_true rfl) F hw fo_X7_28 hnm rfl rfl rfl dX7_init_56 (fun H locs hw => ?_)
  have hw : Wd D A s.heap H locs ((a9, .inl (k 0, 50, .inl (fun _ => 0))) :: (a7, .inl (k 0, 50, .inl (fun _ => 0))) :: (a5, .inl (k 0, 4, .inl (fun _ => 0))) :: (a4, .inl (k 0, 6, .inl (fun _ => 0))) :: (a3, .inl (k 0, 6, .inl (fun _ => 0))) :: (a2, .inl (k 0, 6, .inl (fun _ => 0))) :: (a1, .inl (k 0, 6, .inl (fun _ => 0))) :: (a, .inr (7, [.int 0, .ref a1, .ref a2, .ref a3, .ref a4, .ref a5, .int 0, .ref a7, .int 0, .ref a9, .null, .null, .null, .int 0, .null, .int 0, .null, .null, .int 0, .null, .null, .null, .int 0, .int 0, .int 0, .int 0, .int 0, .int 0, .null, .null])) :: X) := hw
  refine lv_aload_n hx hb dX7_init_59 rfl (lv_at hl 0 rfl) ?_
  refine lv_iconst (v := nI 4) hx hb dX7_init_60 rfl ?_
  refine x_newi 4 F w_acI hw rfl (by omega) (x_cs F (Nat.le_of_ble_eq_true rfl) (Nat.le_of_ble_eq_true rfl)) dX7_init_61 (fun a10 H hw => ?_)
  refine x_putF 8 rfl (Nat.le_of_ble_eq_true rfl) F hw fo_X7_31 hnm rfl rfl rfl dX7_init_63 (fun H locs hw => ?_)
  have hw : Wd D A s.heap H locs ((a10, .inl (k 0, 4, .inl (fun _ => 0))) :: (a9, .inl (k 0, 50, .inl (fun _ => 0))) :: (a7, .inl (k 0, 50, .inl (fun _ => 0))) :: (a5, .inl (k 0, 4, .inl (fun _ => 0))) :: (a4, .inl (k 0, 6, .inl (fun _ => 0))) :: (a3, .inl (k 0, 6, .inl (fun _ => 0))) :: (a2, .inl (k 0, 6, .inl (fun _ => 0))) :: (a1, .inl (k 0, 6, .inl (fun _ => 0))) :: (a, .inr (7, [.int 0, .ref a1, .ref a2, .ref a3, .ref a4, .ref a5, .int 0, .ref a7, .int 0, .ref a9, .ref a10, .null, .null, .int 0, .null, .int 0, .null, .null, .int 0, .null, .null, .null, .int 0, .int 0, .int 0, .int 0, .int 0, .int 0, .null, .null])) :: X) := hw
  refine lv_aload_n hx hb dX7_init_66 rfl (lv_at hl 0 rfl) ?_
  refine lv_bipush (v := nI 8) hx hb dX7_init_67 rfl ?_
  refine x_newi 8 F w_acI hw rfl (by omega) (x_cs F (Nat.le_of_ble_eq_true rfl) (Nat.le_of_ble_eq_true rfl)) dX7_init_69 (fun a11 H hw => ?_)
  refine x_putF 9 rfl (Nat.le_of_ble_eq_true rfl) F hw fo_X7_34 hnm rfl rfl rfl dX7_init_71 (fun H locs hw => ?_)
  have hw : Wd D A s.heap H locs ((a11, .inl (k 0, 8, .inl (fun _ => 0))) :: (a10, .inl (k 0, 4, .inl (fun _ => 0))) :: (a9, .inl (k 0, 50, .inl (fun _ => 0))) :: (a7, .inl (k 0, 50, .inl (fun _ => 0))) :: (a5, .inl (k 0, 4, .inl (fun _ => 0))) :: (a4, .inl (k 0, 6, .inl (fun _ => 0))) :: (a3, .inl (k 0, 6, .inl (fun _ => 0))) :: (a2, .inl (k 0, 6, .inl (fun _ => 0))) :: (a1, .inl (k 0, 6, .inl (fun _ => 0))) :: (a, .inr (7, [.int 0, .ref a1, .ref a2, .ref a3, .ref a4, .ref a5, .int 0, .ref a7, .int 0, .ref a9, .ref a10, .ref a11, .null, .int 0, .null, .int 0, .null, .null, .int 0, .null, .null, .null, .int 0, .int 0, .int 0, .int 0, .int 0, .int 0, .null, .null])) :: X) := hw
  refine lv_aload_n hx hb dX7_init_74 rfl (lv_at hl 0 rfl) ?_
  refine lv_bipush (v := nI 8) hx hb dX7_init_75 rfl ?_
  refine x_newi 8 F w_acI hw rfl (by omega) (x_cs F (Nat.le_of_ble_eq_true rfl) (Nat.le_of_ble_eq_true rfl)) dX7_init_77 (fun a12 H hw => ?_)
  refine x_putF 10 rfl (Nat.le_of_ble_eq_true rfl) F hw fo_X7_37 hnm rfl rfl rfl dX7_init_79 (fun H locs hw => ?_)
  have hw : Wd D A s.heap H locs ((a12, .inl (k 0, 8, .inl (fun _ => 0))) :: (a11, .inl (k 0, 8, .inl (fun _ => 0))) :: (a10, .inl (k 0, 4, .inl (fun _ => 0))) :: (a9, .inl (k 0, 50, .inl (fun _ => 0))) :: (a7, .inl (k 0, 50, .inl (fun _ => 0))) :: (a5, .inl (k 0, 4, .inl (fun _ => 0))) :: (a4, .inl (k 0, 6, .inl (fun _ => 0))) :: (a3, .inl (k 0, 6, .inl (fun _ => 0))) :: (a2, .inl (k 0, 6, .inl (fun _ => 0))) :: (a1, .inl (k 0, 6, .inl (fun _ => 0))) :: (a, .inr (7, [.int 0, .ref a1, .ref a2, .ref a3, .ref a4, .ref a5, .int 0, .ref a7, .int 0, .ref a9, .ref a10, .ref a11, .ref a12, .int 0, .null, .int 0, .null, .null, .int 0, .null, .null, .null, .int 0, .int 0, .int 0, .int 0, .int 0, .int 0, .null, .null])) :: X) := hw
  refine lv_aload_n hx hb dX7_init_82 rfl (lv_at hl 0 rfl) ?_
  refine lv_bipush (v := nI 8) hx hb dX7_init_83 rfl ?_
  refine x_newi 8 F w_acI hw rfl (by omega) (x_cs F (Nat.le_of_ble_eq_true rfl) (Nat.le_of_ble_eq_true rfl)) dX7_init_85 (fun a14 H hw => ?_)
  refine x_putF 11 rfl (Nat.le_of_ble_eq_true rfl) F hw fo_X7_40 hnm rfl rfl rfl dX7_init_87 (fun H locs hw => ?_)
  have hw : Wd D A s.heap H locs ((a14, .inl (k 0, 8, .inl (fun _ => 0))) :: (a12, .inl (k 0, 8, .inl (fun _ => 0))) :: (a11, .inl (k 0, 8, .inl (fun _ => 0))) :: (a10, .inl (k 0, 4, .inl (fun _ => 0))) :: (a9, .inl (k 0, 50, .inl (fun _ => 0))) :: (a7, .inl (k 0, 50, .inl (fun _ => 0))) :: (a5, .inl (k 0, 4, .inl (fun _ => 0))) :: (a4, .inl (k 0, 6, .inl (fun _ => 0))) :: (a3, .inl (k 0, 6, .inl (fun _ => 0))) :: (a2, .inl (k 0, 6, .inl (fun _ => 0))) :: (a1, .inl (k 0, 6, .inl (fun _ => 0))) :: (a, .inr (7, [.int 0, .ref a1, .ref a2, .ref a3, .ref a4, .ref a5, .int 0, .ref a7, .int 0, .ref a9, .ref a10, .ref a11, .ref a12, .int 0, .ref a14, .int 0, .null, .null, .int 0, .null, .null, .null, .int 0, .int 0, .int 0, .int 0, .int 0, .int 0, .null, .null])) :: X) := hw
  refine lv_aload_n hx hb dX7_init_90 rfl (lv_at hl 0 rfl) ?_
  refine lv_bipush (v := nI 16) hx hb dX7_init_91 rfl ?_
  refine x_newi 16 F w_acI hw rfl (by omega) (x_cs F (Nat.le_of_ble_eq_true rfl) (Nat.le_of_ble_eq_true rfl)) dX7_init_93 (fun a16 H hw => ?_)
  refine x_putF 12 rfl (Nat.le_of_ble_eq_true rfl) F hw fo_X7_43 hnm rfl rfl rfl dX7_init_95 (fun H locs hw => ?_)
  have hw : Wd D A s.heap H locs ((a16, .inl (k 0, 16, .inl (fun _ => 0))) :: (a14, .inl (k 0, 8, .inl (fun _ => 0))) :: (a12, .inl (k 0, 8, .inl (fun _ => 0))) :: (a11, .inl (k 0, 8, .inl (fun _ => 0))) :: (a10, .inl (k 0, 4, .inl (fun _ => 0))) :: (a9, .inl (k 0, 50, .inl (fun _ => 0))) :: (a7, .inl (k 0, 50, .inl (fun _ => 0))) :: (a5, .inl (k 0, 4, .inl (fun _ => 0))) :: (a4, .inl (k 0, 6, .inl (fun _ => 0))) :: (a3, .inl (k 0, 6, .inl (fun _ => 0))) :: (a2, .inl (k 0, 6, .inl (fun _ => 0))) :: (a1, .inl (k 0, 6, .inl (fun _ => 0))) :: (a, .inr (7, [.int 0, .ref a1, .ref a2, .ref a3, .ref a4, .ref a5, .int 0, .ref a7, .int 0, .ref a9, .ref a10, .ref a11, .ref a12, .int 0, .ref a14, .int 0, .ref a16, .null, .int 0, .null, .null, .null, .int 0, .int 0, .int 0, .int 0, .int 0, .int 0, .null, .null])) :: X) := hw
  refine lv_aload_n hx hb dX7_init_98 rfl (lv_at hl 0 rfl) ?_
  refine lv_bipush (v := nI 16) hx hb dX7_init_99 rfl ?_
  refine x_newi 16 F w_acI hw rfl (by omega) (x_cs F (Nat.le_of_ble_eq_true rfl) (Nat.le_of_ble_eq_true rfl)) dX7_init_101 (fun a17 H hw => ?_)
  refine x_putF 13 rfl (Nat.le_of_ble_eq_true rfl) F hw fo_X7_46 hnm rfl rfl rfl dX7_init_103 (fun H locs hw => ?_)
  have hw : Wd D A s.heap H locs ((a17, .inl (k 0, 16, .inl (fun _ => 0))) :: (a16, .inl (k 0, 16, .inl (fun _ => 0))) :: (a14, .inl (k 0, 8, .inl (fun _ => 0))) :: (a12, .inl (k 0, 8, .inl (fun _ => 0))) :: (a11, .inl (k 0, 8, .inl (fun _ => 0))) :: (a10, .inl (k 0, 4, .inl (fun _ => 0))) :: (a9, .inl (k 0, 50, .inl (fun _ => 0))) :: (a7, .inl (k 0, 50, .inl (fun _ => 0))) :: (a5, .inl (k 0, 4, .inl (fun _ => 0))) :: (a4, .inl (k 0, 6, .inl (fun _ => 0))) :: (a3, .inl (k 0, 6, .inl (fun _ => 0))) :: (a2, .inl (k 0, 6, .inl (fun _ => 0))) :: (a1, .inl (k 0, 6, .inl (fun _ => 0))) :: (a, .inr (7, [.int 0, .ref a1, .ref a2, .ref a3, .ref a4, .ref a5, .int 0, .ref a7, .int 0, .ref a9, .ref a10, .ref a11, .ref a12, .int 0, .ref a14, .int 0, .ref a16, .ref a17, .int 0, .null, .null, .null, .int 0, .int 0, .int 0, .int 0, .int 0, .int 0, .null, .null])) :: X) := hw
  refine lv_aload_n hx hb dX7_init_106 rfl (lv_at hl 0 rfl) ?_
  refine lv_bipush (v := nI 16) hx hb dX7_init_107 rfl ?_
  refine x_newi 16 F w_acI hw rfl (by omega) (x_cs F (Nat.le_of_ble_eq_true rfl) (Nat.le_of_ble_eq_true rfl)) dX7_init_109 (fun a19 H hw => ?_)
  refine x_putF 14 rfl (Nat.le_of_ble_eq_true rfl) F hw fo_X7_49 hnm rfl rfl rfl dX7_init_111 (fun H locs hw => ?_)
  have hw : Wd D A s.heap H locs ((a19, .inl (k 0, 16, .inl (fun _ => 0))) :: (a17, .inl (k 0, 16, .inl (fun _ => 0))) :: (a16, .inl (k 0, 16, .inl (fun _ => 0))) :: (a14, .inl (k 0, 8, .inl (fun _ => 0))) :: (a12, .inl (k 0, 8, .inl (fun _ => 0))) :: (a11, .inl (k 0, 8, .inl (fun _ => 0))) :: (a10, .inl (k 0, 4, .inl (fun _ => 0))) :: (a9, .inl (k 0, 50, .inl (fun _ => 0))) :: (a7, .inl (k 0, 50, .inl (fun _ => 0))) :: (a5, .inl (k 0, 4, .inl (fun _ => 0))) :: (a4, .inl (k 0, 6, .inl (fun _ => 0))) :: (a3, .inl (k 0, 6, .inl (fun _ => 0))) :: (a2, .inl (k 0, 6, .inl (fun _ => 0))) :: (a1, .inl (k 0, 6, .inl (fun _ => 0))) :: (a, .inr (7, [.int 0, .ref a1, .ref a2, .ref a3, .ref a4, .ref a5, .int 0, .ref a7, .int 0, .ref a9, .ref a10, .ref a11, .ref a12, .int 0, .ref a14, .int 0, .ref a16, .ref a17, .int 0, .ref a19, .null, .null, .int 0, .int 0, .int 0, .int 0, .int 0, .int 0, .null, .null])) :: X) := hw
  refine lv_aload_n hx hb dX7_init_114 rfl (lv_at hl 0 rfl) ?_
  refine lv_bipush (v := nI 42) hx hb dX7_init_115 rfl ?_
  refine x_newi 42 F w_acI hw rfl (by omega) (x_cs F (Nat.le_of_ble_eq_true rfl) (Nat.le_of_ble_eq_true rfl)) dX7_init_117 (fun a20 H hw => ?_)
  refine x_putF 15 rfl (Nat.le_of_ble_eq_true rfl) F hw fo_X7_52 hnm rfl rfl rfl dX7_init_119 (fun H locs hw => ?_)
  have hw : Wd D A s.heap H locs ((a20, .inl (k 0, 42, .inl (fun _ => 0))) :: (a19, .inl (k 0, 16, .inl (fun _ => 0))) :: (a17, .inl (k 0, 16, .inl (fun _ => 0))) :: (a16, .inl (k 0, 16, .inl (fun _ => 0))) :: (a14, .inl (k 0, 8, .inl (fun _ => 0))) :: (a12, .inl (k 0, 8, .inl (fun _ => 0))) :: (a11, .inl (k 0, 8, .inl (fun _ => 0))) :: (a10, .inl (k 0, 4, .inl (fun _ => 0))) :: (a9, .inl (k 0, 50, .inl (fun _ => 0))) :: (a7, .inl (k 0, 50, .inl (fun _ => 0))) :: (a5, .inl (k 0, 4, .inl (fun _ => 0))) :: (a4, .inl (k 0, 6, .inl (fun _ => 0))) :: (a3, .inl (k 0, 6, .inl (fun _ => 0))) :: (a2, .inl (k 0, 6, .inl (fun _ => 0))) :: (a1, .inl (k 0, 6, .inl (fun _ => 0))) :: (a, .inr (7, [.int 0, .ref a1, .ref a2, .ref a3, .ref a4, .ref a5, .int 0, .ref a7, .int 0, .ref a9, .ref a10, .ref a11, .ref a12, .int 0, .ref a14, .int 0, .ref a16, .ref a17, .int 0, .ref a19, .ref a20, .null, .int 0, .int 0, .int 0, .int 0, .int 0, .int 0, .null, .null])) :: X) := hw
  refine lv_aload_n hx hb dX7_init_122 rfl (lv_at hl 0 rfl) ?_
  refine lv_bipush (v := nI 6) hx hb dX7_init_123 rfl ?_
  refine x_newi 6 F w_acI hw rfl (by omega) (x_cs F (Nat.le_of_ble_eq_true rfl) (Nat.le_of_ble_eq_true rfl)) dX7_init_125 (fun a21 H hw => ?_)
  refine x_putF 16 rfl (Nat.le_of_ble_eq_true rfl) F hw fo_X7_55 hnm rfl rfl rfl dX7_init_127 (fun H locs hw => ?_)
  have hw : Wd D A s.heap H locs ((a21, .inl (k 0, 6, .inl (fun _ => 0))) :: (a20, .inl (k 0, 42, .inl (fun _ => 0))) :: (a19, .inl (k 0, 16, .inl (fun _ => 0))) :: (a17, .inl (k 0, 16, .inl (fun _ => 0))) :: (a16, .inl (k 0, 16, .inl (fun _ => 0))) :: (a14, .inl (k 0, 8, .inl (fun _ => 0))) :: (a12, .inl (k 0, 8, .inl (fun _ => 0))) :: (a11, .inl (k 0, 8, .inl (fun _ => 0))) :: (a10, .inl (k 0, 4, .inl (fun _ => 0))) :: (a9, .inl (k 0, 50, .inl (fun _ => 0))) :: (a7, .inl (k 0, 50, .inl (fun _ => 0))) :: (a5, .inl (k 0, 4, .inl (fun _ => 0))) :: (a4, .inl (k 0, 6, .inl (fun _ => 0))) :: (a3, .inl (k 0, 6, .inl (fun _ => 0))) :: (a2, .inl (k 0, 6, .inl (fun _ => 0))) :: (a1, .inl (k 0, 6, .inl (fun _ => 0))) :: (a, .inr (7, [.int 0, .ref a1, .ref a2, .ref a3, .ref a4, .ref a5, .int 0, .ref a7, .int 0, .ref a9, .ref a10, .ref a11, .ref a12, .int 0, .ref a14, .int 0, .ref a16, .ref a17, .int 0, .ref a19, .ref a20, .ref a21, .int 0, .int 0, .int 0, .int 0, .int 0, .int 0, .null, .null])) :: X) := hw
  refine lv_aload_n hx hb dX7_init_130 rfl (lv_at hl 0 rfl) ?_
  refine lv_sipush (v := nI 220) hx hb dX7_init_131 rfl ?_
  refine x_newi 220 F w_acI hw rfl (by omega) (x_cs F (Nat.le_of_ble_eq_true rfl) (Nat.le_of_ble_eq_true rfl)) dX7_init_134 (fun a28 H hw => ?_)
  refine x_putF 17 rfl (Nat.le_of_ble_eq_true rfl) F hw fo_X7_58 hnm rfl rfl rfl dX7_init_136 (fun H locs hw => ?_)
  have hw : Wd D A s.heap H locs ((a28, .inl (k 0, 220, .inl (fun _ => 0))) :: (a21, .inl (k 0, 6, .inl (fun _ => 0))) :: (a20, .inl (k 0, 42, .inl (fun _ => 0))) :: (a19, .inl (k 0, 16, .inl (fun _ => 0))) :: (a17, .inl (k 0, 16, .inl (fun _ => 0))) :: (a16, .inl (k 0, 16, .inl (fun _ => 0))) :: (a14, .inl (k 0, 8, .inl (fun _ => 0))) :: (a12, .inl (k 0, 8, .inl (fun _ => 0))) :: (a11, .inl (k 0, 8, .inl (fun _ => 0))) :: (a10, .inl (k 0, 4, .inl (fun _ => 0))) :: (a9, .inl (k 0, 50, .inl (fun _ => 0))) :: (a7, .inl (k 0, 50, .inl (fun _ => 0))) :: (a5, .inl (k 0, 4, .inl (fun _ => 0))) :: (a4, .inl (k 0, 6, .inl (fun _ => 0))) :: (a3, .inl (k 0, 6, .inl (fun _ => 0))) :: (a2, .inl (k 0, 6, .inl (fun _ => 0))) :: (a1, .inl (k 0, 6, .inl (fun _ => 0))) :: (a, .inr (7, [.int 0, .ref a1, .ref a2, .ref a3, .ref a4, .ref a5, .int 0, .ref a7, .int 0, .ref a9, .ref a10, .ref a11, .ref a12, .int 0, .ref a14, .int 0, .ref a16, .ref a17, .int 0, .ref a19, .ref a20, .ref a21, .int 0, .int 0, .int 0, .int 0, .int 0, .int 0, .ref a28, .null])) :: X) := hw
  refine lv_aload_n hx hb dX7_init_139 rfl (lv_at hl 0 rfl) ?_
  refine lv_iconst (v := nI 2) hx hb dX7_init_140 rfl ?_
  refine x_newz 2 F w_acZ hw rfl (by omega) (x_cs F (Nat.le_of_ble_eq_true rfl) (Nat.le_of_ble_eq_true rfl)) dX7_init_141 (fun a29 H hw => ?_)
  refine x_putF 18 rfl (Nat.le_of_ble_eq_true rfl) F hw fo_X7_61 hnm rfl rfl rfl dX7_init_143 (fun H locs hw => ?_)
  have hw : Wd D A s.heap H locs ((a29, .inl (k 1, 2, .inl (fun _ => 0))) :: (a28, .inl (k 0, 220, .inl (fun _ => 0))) :: (a21, .inl (k 0, 6, .inl (fun _ => 0))) :: (a20, .inl (k 0, 42, .inl (fun _ => 0))) :: (a19, .inl (k 0, 16, .inl (fun _ => 0))) :: (a17, .inl (k 0, 16, .inl (fun _ => 0))) :: (a16, .inl (k 0, 16, .inl (fun _ => 0))) :: (a14, .inl (k 0, 8, .inl (fun _ => 0))) :: (a12, .inl (k 0, 8, .inl (fun _ => 0))) :: (a11, .inl (k 0, 8, .inl (fun _ => 0))) :: (a10, .inl (k 0, 4, .inl (fun _ => 0))) :: (a9, .inl (k 0, 50, .inl (fun _ => 0))) :: (a7, .inl (k 0, 50, .inl (fun _ => 0))) :: (a5, .inl (k 0, 4, .inl (fun _ => 0))) :: (a4, .inl (k 0, 6, .inl (fun _ => 0))) :: (a3, .inl (k 0, 6, .inl (fun _ => 0))) :: (a2, .inl (k 0, 6, .inl (fun _ => 0))) :: (a1, .inl (k 0, 6, .inl (fun _ => 0))) :: (a, .inr (7, [.int 0, .ref a1, .ref a2, .ref a3, .ref a4, .ref a5, .int 0, .ref a7, .int 0, .ref a9, .ref a10, .ref a11, .ref a12, .int 0, .ref a14, .int 0, .ref a16, .ref a17, .int 0, .ref a19, .ref a20, .ref a21, .int 0, .int 0, .int 0, .int 0, .int 0, .int 0, .ref a28, .ref a29])) :: X) := hw
  have hw : Wd D A s.heap H locs (wM k (fun i => [0, a1, a2, a3, a4, a5, 0, a7, 0, a9, a10, a11, a12, 0, a14, 0, a16, a17, 0, a19, a20, a21, 0, 0, 0, 0, 0, 0, a28, a29, a].getD i 0) S0 X) := Wd.perm (w := [(a29, .inl (k 1, 2, .inl (fun _ => 0))), (a28, .inl (k 0, 220, .inl (fun _ => 0))), (a21, .inl (k 0, 6, .inl (fun _ => 0))), (a20, .inl (k 0, 42, .inl (fun _ => 0))), (a19, .inl (k 0, 16, .inl (fun _ => 0))), (a17, .inl (k 0, 16, .inl (fun _ => 0))), (a16, .inl (k 0, 16, .inl (fun _ => 0))), (a14, .inl (k 0, 8, .inl (fun _ => 0))), (a12, .inl (k 0, 8, .inl (fun _ => 0))), (a11, .inl (k 0, 8, .inl (fun _ => 0))), (a10, .inl (k 0, 4, .inl (fun _ => 0))), (a9, .inl (k 0, 50, .inl (fun _ => 0))), (a7, .inl (k 0, 50, .inl (fun _ => 0))), (a5, .inl (k 0, 4, .inl (fun _ => 0))), (a4, .inl (k 0, 6, .inl (fun _ => 0))), (a3, .inl (k 0, 6, .inl (fun _ => 0))), (a2, .inl (k 0, 6, .inl (fun _ => 0))), (a1, .inl (k 0, 6, .inl (fun _ => 0))), (a, .inr (7, [.int 0, .ref a1, .ref a2, .ref a3, .ref a4, .ref a5, .int 0, .ref a7, .int 0, .ref a9, .ref a10, .ref a11, .ref a12, .int 0, .ref a14, .int 0, .ref a16, .ref a17, .int 0, .ref a19, .ref a20, .ref a21, .int 0, .int 0, .int 0, .int 0, .int 0, .int 0, .ref a28, .ref a29]))] ++ X) hw ((List.reverse_perm [(a29, .inl (k 1, 2, .inl (fun _ => 0))), (a28, .inl (k 0, 220, .inl (fun _ => 0))), (a21, .inl (k 0, 6, .inl (fun _ => 0))), (a20, .inl (k 0, 42, .inl (fun _ => 0))), (a19, .inl (k 0, 16, .inl (fun _ => 0))), (a17, .inl (k 0, 16, .inl (fun _ => 0))), (a16, .inl (k 0, 16, .inl (fun _ => 0))), (a14, .inl (k 0, 8, .inl (fun _ => 0))), (a12, .inl (k 0, 8, .inl (fun _ => 0))), (a11, .inl (k 0, 8, .inl (fun _ => 0))), (a10, .inl (k 0, 4, .inl (fun _ => 0))), (a9, .inl (k 0, 50, .inl (fun _ => 0))), (a7, .inl (k 0, 50, .inl (fun _ => 0))), (a5, .inl (k 0, 4, .inl (fun _ => 0))), (a4, .inl (k 0, 6, .inl (fun _ => 0))), (a3, .inl (k 0, 6, .inl (fun _ => 0))), (a2, .inl (k 0, 6, .inl (fun _ => 0))), (a1, .inl (k 0, 6, .inl (fun _ => 0))), (a, .inr (7, [.int 0, .ref a1, .ref a2, .ref a3, .ref a4, .ref a5, .int 0, .ref a7, .int 0, .ref a9, .ref a10, .ref a11, .ref a12, .int 0, .ref a14, .int 0, .ref a16, .ref a17, .int 0, .ref a19, .ref a20, .ref a21, .int 0, .int 0, .int 0, .int 0, .int 0, .int 0, .ref a28, .ref a29]))]).symm.append_right X)
  obtain ⟨q, hq⟩ : ∃ q : Nat → Nat, q = (fun i => [0, a1, a2, a3, a4, a5, 0, a7, 0, a9, a10, a11, a12, 0, a14, 0, a16, a17, 0, a19, a20, a21, 0, 0, 0, 0, 0, 0, a28, a29, a].getD i 0) := ⟨_, rfl⟩
  rw [← hq] at hw
  have ea : q 30 = a := by rw [hq]; rfl
  rw [← ea] at hl
  refine lv_aload_n hx hb dX7_init_146 rfl (lv_at hl 0 rfl) ?_
  refine x_getr frM_5 F hw fo_X7_22 dX7_init_147 ?_
  refine lv_iconst (v := nI 0) hx hb dX7_init_150 rfl ?_
  refine lv_bipush (v := nI 20) hx hb dX7_init_151 rfl ?_
  refine x_iast aiM_5 F hw 0 rfl (by omega) dX7_init_153 (fun H locs hw => ?_)
  refine lv_aload_n hx hb dX7_init_154 rfl (lv_at hl 0 rfl) ?_
  refine x_getr frM_5 F hw fo_X7_22 dX7_init_155 ?_
  refine lv_iconst (v := nI 1) hx hb dX7_init_158 rfl ?_
  refine lv_bipush (v := nI 99) hx hb dX7_init_159 rfl ?_
  refine x_iast aiM_5 F hw 1 rfl (by omega) dX7_init_161 (fun H locs hw => ?_)
  refine lv_aload_n hx hb dX7_init_162 rfl (lv_at hl 0 rfl) ?_
  refine x_getr frM_5 F hw fo_X7_22 dX7_init_163 ?_
  refine lv_iconst (v := nI 2) hx hb dX7_init_166 rfl ?_
  refine lv_bipush (v := nI 10) hx hb dX7_init_167 rfl ?_
  refine x_iast aiM_5 F hw 2 rfl (by omega) dX7_init_169 (fun H locs hw => ?_)
  refine lv_aload_n hx hb dX7_init_170 rfl (lv_at hl 0 rfl) ?_
  refine x_getr frM_5 F hw fo_X7_22 dX7_init_171 ?_
  refine lv_iconst (v := nI 3) hx hb dX7_init_174 rfl ?_
  refine lv_bipush (v := nI 10) hx hb dX7_init_175 rfl ?_
  refine x_iast aiM_5 F hw 3 rfl (by omega) dX7_init_177 (fun H locs hw => ?_)
  refine lv_aload_n hx hb dX7_init_178 rfl (lv_at hl 0 rfl) ?_
  refine x_getr frM_10 F hw fo_X7_31 dX7_init_179 ?_
  refine lv_iconst (v := nI 0) hx hb dX7_init_182 rfl ?_
  refine lv_bipush (v := nI 10) hx hb dX7_init_183 rfl ?_
  refine x_iast aiM_10 F hw 0 rfl (by omega) dX7_init_185 (fun H locs hw => ?_)
  refine lv_aload_n hx hb dX7_init_186 rfl (lv_at hl 0 rfl) ?_
  refine x_getr frM_10 F hw fo_X7_31 dX7_init_187 ?_
  refine lv_iconst (v := nI 1) hx hb dX7_init_190 rfl ?_
  refine lv_bipush (v := nI 10) hx hb dX7_init_191 rfl ?_
  refine x_iast aiM_10 F hw 1 rfl (by omega) dX7_init_193 (fun H locs hw => ?_)
  refine lv_aload_n hx hb dX7_init_194 rfl (lv_at hl 0 rfl) ?_
  refine x_getr frM_10 F hw fo_X7_31 dX7_init_195 ?_
  refine lv_iconst (v := nI 2) hx hb dX7_init_198 rfl ?_
  refine lv_iconst (v := nI 1) hx hb dX7_init_199 rfl ?_
  refine x_iast aiM_10 F hw 2 rfl (by omega) dX7_init_200 (fun H locs hw => ?_)
  refine lv_aload_n hx hb dX7_init_201 rfl (lv_at hl 0 rfl) ?_
  refine x_getr frM_10 F hw fo_X7_31 dX7_init_202 ?_
  refine lv_iconst (v := nI 3) hx hb dX7_init_205 rfl ?_
  refine lv_iconst (v := nI 1) hx hb dX7_init_206 rfl ?_
  refine x_iast aiM_10 F hw 3 rfl (by omega) dX7_init_207 (fun H locs hw => ?_)
  refine lv_iconst (v := nI 0) hx hb dX7_init_208 rfl ?_
  refine lv_istore_n (lv' := [(1, .int (nI 0)), (0, .ref (q 30))]) hx hb dX7_init_209 rfl hl (Nat.le_of_ble_eq_true rfl) rfl (fun ls hl => ?_)
  have K210 : ∀ (n210_ : Nat) (i : Nat) (f11 : Nat → Int32) (f12 : Nat → Int32) (H : Heap) (locs : List Loc) (ls : Array Slot), 8 - i < n210_ → (i ≤ 8) → (bR f11 i) → (bR f12 i) → Wd D A s.heap H locs (wM k q (va_up (va_up (va_up (va_up S0 5 t5M) 10 t10M) 11 f11) 12 f12) X) → lv_has ls 2 [(0, .ref (q 30)), (1, .int (nI i))] → W p l e R s m args below meth c H locs (0 + 1 + 1 + 1 + 1 + 1 + 1 + 1 + 1 + 1 + 1 + 1 + 1 + 1 + 1 + 1 + 1 + 1 + 1) (0 + 6 + 6 + 6 + 6 + 4 + 50 + 50 + 4 + 8 + 8 + 8 + 16 + 16 + 16 + 42 + 6 + 220 + 2) Q (F0 m 210 ls []) := by
    intro n210_
    induction n210_ with
    | zero =>
      intro i f11 f12 H locs ls hn210_
      exact absurd hn210_ (Nat.not_lt_zero _)
    | succ n210_ ih210_ =>
      intro i f11 f12 H locs ls hn210_ hi h1 h2 hw hl
      refine lv_iload_n hx hb dX7_init_210 rfl (lv_at hl 1 rfl) ?_
      refine lv_bipush (v := nI 8) hx hb dX7_init_211 rfl ?_
      refine x_icmp_ge i 8 F (by omega) (by omega) (tgt := 240) dX7_init_213 rfl (fun c213 => ?_) (fun c213 => ?_)
      · refine W.widen (k := 18) (n := 474) (by omega) (by omega) ?_
        exact hret _ _ _ _ _ dX7_init_240 hw ⟨q, f11, f12, ea, rfl, by rw [show i = 8 by omega] at h1; exact h1, by rw [show i = 8 by omega] at h2; exact h2⟩
      · refine lv_aload_n hx hb dX7_init_216 rfl (lv_at hl 0 rfl) ?_
        refine x_getr frM_11 F hw fo_X7_34 dX7_init_217 ?_
        refine lv_iload_n hx hb dX7_init_220 rfl (lv_at hl 1 rfl) ?_
        refine lv_iconst (v := nI 1) hx hb dX7_init_221 rfl ?_
        refine lv_iload_n hx hb dX7_init_222 rfl (lv_at hl 1 rfl) ?_
        refine lv_ishl hx hb dX7_init_223 ?_
        refine x_iast aiM_11 F hw i rfl (by omega) dX7_init_224 (fun H locs hw => ?_)
        refine lv_aload_n hx hb dX7_init_225 rfl (lv_at hl 0 rfl) ?_
        refine x_getr frM_12 F hw fo_X7_37 dX7_init_226 ?_
        refine lv_iload_n hx hb dX7_init_229 rfl (lv_at hl 1 rfl) ?_
        refine lv_iconst (v := nI 1) hx hb dX7_init_230 rfl ?_
        refine lv_iload_n hx hb dX7_init_231 rfl (lv_at hl 1 rfl) ?_
        refine lv_ishl hx hb dX7_init_232 ?_
        refine x_iast aiM_12 F hw i rfl (by omega) dX7_init_233 (fun H locs hw => ?_)
        refine lv_iinc (v := nI (i + 1)) (lv' := [(1, .int (nI (i + 1))), (0, .ref (q 30))]) hx hb dX7_init_234 hl (k := 1) rfl (nI_1 _) (Nat.le_of_ble_eq_true rfl) rfl (fun ls hl => ?_)
        refine lv_goto (tgt := 210) hx hb dX7_init_237 rfl ?_
        exact ih210_ (i + 1) (upd f11 i ((nI 1) <<< ((nI i) &&& 31))) (upd f12 i ((nI 1) <<< ((nI i) &&& 31))) _ _ _ (by first | omega | (simp only [] at *; omega)) (by first | assumption | omega | rfl) (by exact bR_s h1) (by exact bR_s h2) hw (lv_sub hl [1, 0] rfl)
  exact K210 _ 0 (S0 11) (S0 12) _ _ _ (Nat.lt_succ_self _) (by first | assumption | omega | rfl) (by exact fun j hj => absurd hj (Nat.not_lt_zero _)) (by exact fun j hj => absurd hj (Nat.not_lt_zero _)) hw (lv_sub hl [1, 0] rfl)
