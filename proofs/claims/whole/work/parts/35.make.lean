/-! ===== the class: makers ===== -/
def iniX3 (k : Nat → ClassId) (a : Nat) (X w' : va_W) : Prop := ∃ b, w' = (b, .inl (k 0, 50, .inl (fun _ => 0))) :: (a, .inr (3, [.int 0, .ref b])) :: X
set_option maxHeartbeats 4000000 in
set_option maxRecDepth 20000 in
theorem c_X3_init (l : Launch) (D : va_G) (k : Nat → ClassId) (a : Nat) (X : va_W) : CV l D k yX3_init cX3_init 1 1 1 50 [.ref a] ((a, .inr (3, [.int 0, .null])) :: X) (iniX3 k a X) := by
  refine CV.mk (by decide) (Nat.le_of_ble_eq_true rfl) ?_
  intro p e R s m args below meth c A Q ls F hnm hret hw hl
  have hx := xs_hx F
  have hb := xs_hb F
  have hl : lv_has ls 1 [(0, .ref a)] := hl
  refine lv_aload_n hx hb dX3_init_0 rfl (lv_at hl 0 rfl) ?_
  refine x_obj F ol_X3_3 (Nat.le_of_ble_eq_true rfl) hl.1 (Nat.le_of_ble_eq_true rfl) dX3_init_1 w_oi w_oc ?_
  refine lv_aload_n hx hb dX3_init_4 rfl (lv_at hl 0 rfl) ?_
  refine lv_bipush (v := nI 50) hx hb dX3_init_5 rfl ?_
  refine x_newi 50 F w_acI hw rfl (by omega) (x_cs F (Nat.le_of_ble_eq_true rfl) (Nat.le_of_ble_eq_true rfl)) dX3_init_7 (fun b H hw => ?_)
  refine x_putF 1 rfl (Nat.le_of_ble_eq_true rfl) F hw fo_X3_9 hnm rfl rfl rfl dX3_init_9 (fun H locs hw => ?_)
  have hw : Wd D A s.heap H locs ((b, .inl (k 0, 50, .inl (fun _ => 0))) :: (a, .inr (3, [.int 0, .ref b])) :: X) := hw
  refine W.widen (k := 1) (n := 50) (by omega) (by omega) ?_
  exact hret _ _ _ _ _ dX3_init_12 hw ⟨b, rfl⟩
set_option maxHeartbeats 4000000 in
set_option maxRecDepth 20000 in
theorem c_X0_init (l : Launch) (D : va_G) (k : Nat → ClassId) (a : Nat) (X : va_W) (al : Nat) : CV l D k yX0_init cX0_init 2 1 0 0 [.ref a, .ref al] ((a, .inr (0, [.int 0, .int 0, .int 0, .null])) :: X) (fun w' => w' = (a, .inr (0, [.int 0, .int 0, .int 0, .ref al])) :: X) := by
  refine CV.mk (by decide) (Nat.le_of_ble_eq_true rfl) ?_
  intro p e R s m args below meth c A Q ls F hnm hret hw hl
  have hx := xs_hx F
  have hb := xs_hb F
  have hl : lv_has ls 2 [(0, .ref a), (1, .ref al)] := hl
  refine lv_aload_n hx hb dX0_init_0 rfl (lv_at hl 0 rfl) ?_
  refine x_obj F ol_X0_3 (Nat.le_of_ble_eq_true rfl) hl.1 (Nat.le_of_ble_eq_true rfl) dX0_init_1 w_oi w_oc ?_
  refine lv_aload_n hx hb dX0_init_4 rfl (lv_at hl 0 rfl) ?_
  refine lv_aload_n hx hb dX0_init_5 rfl (lv_at hl 1 rfl) ?_
  refine x_putF 0 rfl (Nat.le_of_ble_eq_true rfl) F hw fo_X0_9 hnm rfl rfl rfl dX0_init_6 (fun H locs hw => ?_)
  have hw : Wd D A s.heap H locs ((a, .inr (0, [.int 0, .int 0, .int 0, .ref al])) :: X) := hw
  exact hret _ _ _ _ _ dX0_init_9 hw rfl
set_option maxHeartbeats 4000000 in
set_option maxRecDepth 20000 in
theorem c_X2_init (l : Launch) (D : va_G) (k : Nat → ClassId) (a : Nat) (X : va_W) (al : Nat) : CV l D k yX2_init cX2_init 2 1 0 0 [.ref a, .ref al] ((a, .inr (2, [.null, .int 0, .int 0])) :: X) (fun w' => w' = (a, .inr (2, [.ref al, .int 0, .int 0])) :: X) := by
  refine CV.mk (by decide) (Nat.le_of_ble_eq_true rfl) ?_
  intro p e R s m args below meth c A Q ls F hnm hret hw hl
  have hx := xs_hx F
  have hb := xs_hb F
  have hl : lv_has ls 2 [(0, .ref a), (1, .ref al)] := hl
  refine lv_aload_n hx hb dX2_init_0 rfl (lv_at hl 0 rfl) ?_
  refine x_obj F ol_X2_3 (Nat.le_of_ble_eq_true rfl) hl.1 (Nat.le_of_ble_eq_true rfl) dX2_init_1 w_oi w_oc ?_
  refine lv_aload_n hx hb dX2_init_4 rfl (lv_at hl 0 rfl) ?_
  refine lv_aload_n hx hb dX2_init_5 rfl (lv_at hl 1 rfl) ?_
  refine x_putF 0 rfl (Nat.le_of_ble_eq_true rfl) F hw fo_X2_9 hnm rfl rfl rfl dX2_init_6 (fun H locs hw => ?_)
  have hw : Wd D A s.heap H locs ((a, .inr (2, [.ref al, .int 0, .int 0])) :: X) := hw
  exact hret _ _ _ _ _ dX2_init_9 hw rfl
def iniX5 (k : Nat → ClassId) (a al : Nat) (X w' : va_W) : Prop := ∃ (b2 b3 b8 b9 : Nat) (r : Nat → Nat) (b10 : Nat), w' = (b10, .inl (k 1, 36, .inl (fun _ => 0))) :: (b9, .inl (k 2, 6, .inr (.inr (.inr (.inr (fun i => if i < 6 then some (r i) else none)))))) :: (r 0, .inl (k 0, 6, .inl (fun _ => 0))) :: (r 1, .inl (k 0, 6, .inl (fun _ => 0))) :: (r 2, .inl (k 0, 6, .inl (fun _ => 0))) :: (r 3, .inl (k 0, 6, .inl (fun _ => 0))) :: (r 4, .inl (k 0, 6, .inl (fun _ => 0))) :: (r 5, .inl (k 0, 6, .inl (fun _ => 0))) :: (b8, .inl (k 0, 6, .inl (fun _ => 0))) :: (b3, .inl (k 0, 1, .inl (fun _ => 0))) :: (b2, .inl (k 0, 1, .inl (fun _ => 0))) :: (a, .inr (5, [.int 0, .int 0, .ref b2, .ref b3, .ref al, .int 0, .int 0, .int 0, .ref b8, .ref b9, .ref b10])) :: X
set_option maxHeartbeats 4000000 in
set_option maxRecDepth 20000 in
theorem c_X5_init (l : Launch) (D : va_G) (k : Nat → ClassId) (a : Nat) (X : va_W) (al : Nat) : CV l D k yX5_init cX5_init 2 1 11 86 [.ref a, .ref al] ((a, .inr (5, [.int 0, .int 0, .null, .null, .null, .int 0, .int 0, .int 0, .null, .null, .null])) :: X) (iniX5 k a al X) := by
  refine CV.mk (by decide) (Nat.le_of_ble_eq_true rfl) ?_
  intro p e R s m args below meth c A Q ls F hnm hret hw hl
  have hx := xs_hx F
  have hb := xs_hb F
  have hl : lv_has ls 2 [(0, .ref a), (1, .ref al)] := hl
  refine lv_aload_n hx hb dX5_init_0 rfl (lv_at hl 0 rfl) ?_
  refine x_obj F ol_X5_3 (Nat.le_of_ble_eq_true rfl) hl.1 (Nat.le_of_ble_eq_true rfl) dX5_init_1 w_oi w_oc ?_
  refine lv_aload_n hx hb dX5_init_4 rfl (lv_at hl 0 rfl) ?_
  refine lv_iconst (v := nI 1) hx hb dX5_init_5 rfl ?_
  refine x_newi 1 F w_acI hw rfl (by omega) (x_cs F (Nat.le_of_ble_eq_true rfl) (Nat.le_of_ble_eq_true rfl)) dX5_init_6 (fun b2 H hw => ?_)
  refine x_put 1 rfl (Nat.le_of_ble_eq_true rfl) F hw fo_X5_9 rfl rfl dX5_init_8 (fun H locs hw => ?_)
  have hw : Wd D A s.heap H locs ((b2, .inl (k 0, 1, .inl (fun _ => 0))) :: (a, .inr (5, [.int 0, .int 0, .ref b2, .null, .null, .int 0, .int 0, .int 0, .null, .null, .null])) :: X) := hw
  refine lv_aload_n hx hb dX5_init_11 rfl (lv_at hl 0 rfl) ?_
  refine lv_iconst (v := nI 1) hx hb dX5_init_12 rfl ?_
  refine x_newi 1 F w_acI hw rfl (by omega) (x_cs F (Nat.le_of_ble_eq_true rfl) (Nat.le_of_ble_eq_true rfl)) dX5_init_13 (fun b3 H hw => ?_)
  refine x_put 2 rfl (Nat.le_of_ble_eq_true rfl) F hw fo_X5_15 rfl rfl dX5_init_15 (fun H locs hw => ?_)
  have hw : Wd D A s.heap H locs ((b3, .inl (k 0, 1, .inl (fun _ => 0))) :: (b2, .inl (k 0, 1, .inl (fun _ => 0))) :: (a, .inr (5, [.int 0, .int 0, .ref b2, .ref b3, .null, .int 0, .int 0, .int 0, .null, .null, .null])) :: X) := hw
  refine lv_aload_n hx hb dX5_init_18 rfl (lv_at hl 0 rfl) ?_
  refine lv_bipush (v := nI 6) hx hb dX5_init_19 rfl ?_
  refine x_newi 6 F w_acI hw rfl (by omega) (x_cs F (Nat.le_of_ble_eq_true rfl) (Nat.le_of_ble_eq_true rfl)) dX5_init_21 (fun b8 H hw => ?_)
  refine x_putF 3 rfl (Nat.le_of_ble_eq_true rfl) F hw fo_X5_18 hnm rfl rfl rfl dX5_init_23 (fun H locs hw => ?_)
  have hw : Wd D A s.heap H locs ((b8, .inl (k 0, 6, .inl (fun _ => 0))) :: (b3, .inl (k 0, 1, .inl (fun _ => 0))) :: (b2, .inl (k 0, 1, .inl (fun _ => 0))) :: (a, .inr (5, [.int 0, .int 0, .ref b2, .ref b3, .null, .int 0, .int 0, .int 0, .ref b8, .null, .null])) :: X) := hw
  refine lv_aload_n hx hb dX5_init_26 rfl (lv_at hl 0 rfl) ?_
  refine lv_bipush (v := nI 6) hx hb dX5_init_27 rfl ?_
  refine lv_bipush (v := nI 6) hx hb dX5_init_29 rfl ?_
  refine x_mna (N := 6) (K := 6) F cl_X5_21 w_acI hw (by omega) (by omega) (x_cs F (Nat.le_of_ble_eq_true rfl) (Nat.le_of_ble_eq_true rfl)) dX5_init_31 (fun b9 r H hw => ?_)
  have hw : Wd D A s.heap H locs ((b9, .inl (k 2, 6, .inr (.inr (.inr (.inr (fun i => if i < 6 then some (r i) else none)))))) :: (r 0, .inl (k 0, 6, .inl (fun _ => 0))) :: (r 1, .inl (k 0, 6, .inl (fun _ => 0))) :: (r 2, .inl (k 0, 6, .inl (fun _ => 0))) :: (r 3, .inl (k 0, 6, .inl (fun _ => 0))) :: (r 4, .inl (k 0, 6, .inl (fun _ => 0))) :: (r 5, .inl (k 0, 6, .inl (fun _ => 0))) :: (b8, .inl (k 0, 6, .inl (fun _ => 0))) :: (b3, .inl (k 0, 1, .inl (fun _ => 0))) :: (b2, .inl (k 0, 1, .inl (fun _ => 0))) :: (a, .inr (5, [.int 0, .int 0, .ref b2, .ref b3, .null, .int 0, .int 0, .int 0, .ref b8, .null, .null])) :: X) := hw
  refine x_putF 10 rfl (Nat.le_of_ble_eq_true rfl) F hw fo_X5_23 hnm rfl rfl rfl dX5_init_35 (fun H locs hw => ?_)
  have hw : Wd D A s.heap H locs ((b9, .inl (k 2, 6, .inr (.inr (.inr (.inr (fun i => if i < 6 then some (r i) else none)))))) :: (r 0, .inl (k 0, 6, .inl (fun _ => 0))) :: (r 1, .inl (k 0, 6, .inl (fun _ => 0))) :: (r 2, .inl (k 0, 6, .inl (fun _ => 0))) :: (r 3, .inl (k 0, 6, .inl (fun _ => 0))) :: (r 4, .inl (k 0, 6, .inl (fun _ => 0))) :: (r 5, .inl (k 0, 6, .inl (fun _ => 0))) :: (b8, .inl (k 0, 6, .inl (fun _ => 0))) :: (b3, .inl (k 0, 1, .inl (fun _ => 0))) :: (b2, .inl (k 0, 1, .inl (fun _ => 0))) :: (a, .inr (5, [.int 0, .int 0, .ref b2, .ref b3, .null, .int 0, .int 0, .int 0, .ref b8, .ref b9, .null])) :: X) := hw
  refine lv_aload_n hx hb dX5_init_38 rfl (lv_at hl 0 rfl) ?_
  refine lv_bipush (v := nI 36) hx hb dX5_init_39 rfl ?_
  refine x_newz 36 F w_acZ hw rfl (by omega) (x_cs F (Nat.le_of_ble_eq_true rfl) (Nat.le_of_ble_eq_true rfl)) dX5_init_41 (fun b10 H hw => ?_)
  refine x_putF 11 rfl (Nat.le_of_ble_eq_true rfl) F hw fo_X5_26 hnm rfl rfl rfl dX5_init_43 (fun H locs hw => ?_)
  have hw : Wd D A s.heap H locs ((b10, .inl (k 1, 36, .inl (fun _ => 0))) :: (b9, .inl (k 2, 6, .inr (.inr (.inr (.inr (fun i => if i < 6 then some (r i) else none)))))) :: (r 0, .inl (k 0, 6, .inl (fun _ => 0))) :: (r 1, .inl (k 0, 6, .inl (fun _ => 0))) :: (r 2, .inl (k 0, 6, .inl (fun _ => 0))) :: (r 3, .inl (k 0, 6, .inl (fun _ => 0))) :: (r 4, .inl (k 0, 6, .inl (fun _ => 0))) :: (r 5, .inl (k 0, 6, .inl (fun _ => 0))) :: (b8, .inl (k 0, 6, .inl (fun _ => 0))) :: (b3, .inl (k 0, 1, .inl (fun _ => 0))) :: (b2, .inl (k 0, 1, .inl (fun _ => 0))) :: (a, .inr (5, [.int 0, .int 0, .ref b2, .ref b3, .null, .int 0, .int 0, .int 0, .ref b8, .ref b9, .ref b10])) :: X) := hw
  refine lv_aload_n hx hb dX5_init_46 rfl (lv_at hl 0 rfl) ?_
  refine lv_aload_n hx hb dX5_init_47 rfl (lv_at hl 1 rfl) ?_
  refine x_putF 11 rfl (Nat.le_of_ble_eq_true rfl) F hw fo_X5_30 hnm rfl rfl rfl dX5_init_48 (fun H locs hw => ?_)
  have hw : Wd D A s.heap H locs ((b10, .inl (k 1, 36, .inl (fun _ => 0))) :: (b9, .inl (k 2, 6, .inr (.inr (.inr (.inr (fun i => if i < 6 then some (r i) else none)))))) :: (r 0, .inl (k 0, 6, .inl (fun _ => 0))) :: (r 1, .inl (k 0, 6, .inl (fun _ => 0))) :: (r 2, .inl (k 0, 6, .inl (fun _ => 0))) :: (r 3, .inl (k 0, 6, .inl (fun _ => 0))) :: (r 4, .inl (k 0, 6, .inl (fun _ => 0))) :: (r 5, .inl (k 0, 6, .inl (fun _ => 0))) :: (b8, .inl (k 0, 6, .inl (fun _ => 0))) :: (b3, .inl (k 0, 1, .inl (fun _ => 0))) :: (b2, .inl (k 0, 1, .inl (fun _ => 0))) :: (a, .inr (5, [.int 0, .int 0, .ref b2, .ref b3, .ref al, .int 0, .int 0, .int 0, .ref b8, .ref b9, .ref b10])) :: X) := hw
  refine W.widen (k := 11) (n := 86) (by omega) (by omega) ?_
  exact hret _ _ _ _ _ dX5_init_51 hw ⟨b2, b3, b8, b9, r, b10, rfl⟩
