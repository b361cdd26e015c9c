/-! ===== the class: the needle's maker, the album's ===== -/
def wN (k : Nat → ClassId) (q : Nat → Nat) (S : St) (X : va_W) : va_W :=
  (q 37, .inl (k 0, 8, .inl (S 37))) :: (q 36, .inl (k 0, 16, .inl (S 36))) :: (q 35, .inl (k 0, 16, .inl (S 35))) :: (q 34, .inl (k 0, 8, .inl (S 34))) ::
  (q 33, .inr (4, [.int (S 53 0), .int (S 54 0), .int (S 55 0), .ref (q 34), .ref (q 35), .ref (q 36), .ref (q 37)])) :: X
theorem frN_33_3 {k : Nat → ClassId} {q : Nat → Nat} {S : St} {X : va_W} : FR (wN k q S X) 4 (q 33) 4 3 (q 34) := ⟨_, rfl, rfl⟩
theorem aiN_34 {k : Nat → ClassId} {q : Nat → Nat} {X : va_W} : AI (fun S => wN k q S X) 3 (q 34) (k 0) 8 34 := ⟨fun _ => rfl, fun _ _ => rfl, Nat.le_of_ble_eq_true rfl⟩
def mR (f : Nat → Int32) (n : Nat) : Prop := ∀ j, j < n → f j = (-1)
theorem mR_s {f : Nat → Int32} {i : Nat} (h : mR f i) : mR (upd f i (-1)) (i + 1) := upd_cp (g := fun _ => (-1)) h
def iniX4 (k : Nat → ClassId) (a : Nat) (X w' : va_W) : Prop := ∃ (q : Nat → Nat) (f : Nat → Int32), q 33 = a ∧ w' = wN k q (va_up S0 34 f) X ∧ mR f 8
set_option maxHeartbeats 4000000 in
set_option maxRecDepth 20000 in
theorem c_X4_init (l : Launch) (D : va_G) (k : Nat → ClassId) (a : Nat) (X : va_W) : CV l D k yX4_init cX4_init 2 1 4 48 [.ref a] ((a, .inr (4, [.int 0, .int 0, .int 0, .null, .null, .null, .null])) :: X) (iniX4 k a X) := by
  refine CV.mk (by decide) (Nat.le_of_ble_eq_true rfl) ?_
  intro p e R s m args below meth c A Q ls F hnm hret hw hl
  have hx := xs_hx F
  have hb := xs_hb F
  have hl : lv_has ls 2 [(0, .ref a)] := hl
  refine lv_aload_n hx hb dX4_init_0 rfl (lv_at hl 0 rfl) ?_
  refine x_obj F ol_X4_3 (Nat.le_of_ble_eq_true rfl) hl.1 (Nat.le_of_ble_eq_true rfl) dX4_init_1 w_oi w_oc ?_
  refine lv_aload_n hx hb dX4_init_4 rfl (lv_at hl 0 rfl) ?_
  refine lv_bipush (v := nI 8) hx hb dX4_init_5 rfl ?_
  refine x_newi 8 F w_acI hw rfl (by omega) (x_cs F (Nat.le_of_ble_eq_true rfl) (Nat.le_of_ble_eq_true rfl)) dX4_init_7 (fun b34 H hw => ?_)
  refine x_putF 1 rfl (Nat.le_of_ble_eq_true rfl) F hw fo_X4_9 hnm rfl rfl rfl dX4_init_9 (fun H locs hw => ?_)
  have hw : Wd D A s.heap H locs ((b34, .inl (k 0, 8, .inl (fun _ => 0))) :: (a, .inr (4, [.int 0, .int 0, .int 0, .ref b34, .null, .null, .null])) :: X) := hw
  refine lv_aload_n hx hb dX4_init_12 rfl (lv_at hl 0 rfl) ?_
  refine lv_bipush (v := nI 16) hx hb dX4_init_13 rfl ?_
  refine x_newi 16 F w_acI hw rfl (by omega) (x_cs F (Nat.le_of_ble_eq_true rfl) (Nat.le_of_ble_eq_true rfl)) dX4_init_15 (fun b35 H hw => ?_)
  refine x_putF 2 rfl (Nat.le_of_ble_eq_true rfl) F hw fo_X4_15 hnm rfl rfl rfl dX4_init_17 (fun H locs hw => ?_)
  have hw : Wd D A s.heap H locs ((b35, .inl (k 0, 16, .inl (fun _ => 0))) :: (b34, .inl (k 0, 8, .inl (fun _ => 0))) :: (a, .inr (4, [.int 0, .int 0, .int 0, .ref b34, .ref b35, .null, .null])) :: X) := hw
  refine lv_aload_n hx hb dX4_init_20 rfl (lv_at hl 0 rfl) ?_
  refine lv_bipush (v := nI 16) hx hb dX4_init_21 rfl ?_
  refine x_newi 16 F w_acI hw rfl (by omega) (x_cs F (Nat.le_of_ble_eq_true rfl) (Nat.le_of_ble_eq_true rfl)) dX4_init_23 (fun b36 H hw => ?_)
  refine x_putF 3 rfl (Nat.le_of_ble_eq_true rfl) F hw fo_X4_18 hnm rfl rfl rfl dX4_init_25 (fun H locs hw => ?_)
  have hw : Wd D A s.heap H locs ((b36, .inl (k 0, 16, .inl (fun _ => 0))) :: (b35, .inl (k 0, 16, .inl (fun _ => 0))) :: (b34, .inl (k 0, 8, .inl (fun _ => 0))) :: (a, .inr (4, [.int 0, .int 0, .int 0, .ref b34, .ref b35, .ref b36, .null])) :: X) := hw
  refine lv_aload_n hx hb dX4_init_28 rfl (lv_at hl 0 rfl) ?_
  refine lv_bipush (v := nI 8) hx hb dX4_init_29 rfl ?_
  refine x_newi 8 F w_acI hw rfl (by omega) (x_cs F (Nat.le_of_ble_eq_true rfl) (Nat.le_of_ble_eq_true rfl)) dX4_init_31 (fun b37 H hw => ?_)
  refine x_putF 4 rfl (Nat.le_of_ble_eq_true rfl) F hw fo_X4_21 hnm rfl rfl rfl dX4_init_33 (fun H locs hw => ?_)
  have hw : Wd D A s.heap H locs ((b37, .inl (k 0, 8, .inl (fun _ => 0))) :: (b36, .inl (k 0, 16, .inl (fun _ => 0))) :: (b35, .inl (k 0, 16, .inl (fun _ => 0))) :: (b34, .inl (k 0, 8, .inl (fun _ => 0))) :: (a, .inr (4, [.int 0, .int 0, .int 0, .ref b34, .ref b35, .ref b36, .ref b37])) :: X) := hw
  have hw : Wd D A s.heap H locs (wN k (fun i => [0, 0, 0, 0, 0, 0, 0, 0, 0, 0, 0, 0, 0, 0, 0, 0, 0, 0, 0, 0, 0, 0, 0, 0, 0, 0, 0, 0, 0, 0, 0, 0, 0, a, b34, b35, b36, b37].getD i 0) S0 X) := hw
  obtain ⟨q, hq⟩ : ∃ q : Nat → Nat, q = (fun i => [0, 0, 0, 0, 0, 0, 0, 0, 0, 0, 0, 0, 0, 0, 0, 0, 0, 0, 0, 0, 0, 0, 0, 0, 0, 0, 0, 0, 0, 0, 0, 0, 0, a, b34, b35, b36, b37].getD i 0) := ⟨_, rfl⟩
  rw [← hq] at hw
  have ea : q 33 = a := by rw [hq]; rfl
  rw [← ea] at hl
  refine lv_iconst (v := nI 0) hx hb dX4_init_36 rfl ?_
  refine lv_istore_n (lv' := [(1, .int (nI 0)), (0, .ref (q 33))]) hx hb dX4_init_37 rfl hl (Nat.le_of_ble_eq_true rfl) rfl (fun ls hl => ?_)
  have K38 : ∀ (n38_ : Nat) (i : Nat) (f : Nat → Int32) (H : Heap) (locs : List Loc) (ls : Array Slot), 8 - i < n38_ → (i ≤ 8) → (mR f i) → Wd D A s.heap H locs (wN k q (va_up (S0) 34 f) X) → lv_has ls 2 [(0, .ref (q 33)), (1, .int (nI i))] → W p l e R s m args below meth c H locs (0 + 1 + 1 + 1 + 1) (0 + 8 + 16 + 16 + 8) Q (F0 m 38 ls []) := by
    intro n38_
    induction n38_ with
    | zero =>
      intro i f H locs ls hn38_
      exact absurd hn38_ (Nat.not_lt_zero _)
    | succ n38_ ih38_ =>
      intro i f H locs ls hn38_ hi h1 hw hl
      refine lv_iload_n hx hb dX4_init_38 rfl (lv_at hl 1 rfl) ?_
      refine lv_bipush (v := nI 8) hx hb dX4_init_39 rfl ?_
      refine x_icmp_ge i 8 F (by omega) (by omega) (tgt := 57) dX4_init_41 rfl (fun c41 => ?_) (fun c41 => ?_)
      · refine W.widen (k := 4) (n := 48) (by omega) (by omega) ?_
        exact hret _ _ _ _ _ dX4_init_57 hw ⟨q, f, ea, rfl, by rw [show i = 8 by omega] at h1; exact h1⟩
      · refine lv_aload_n hx hb dX4_init_44 rfl (lv_at hl 0 rfl) ?_
        refine x_getr frN_33_3 F hw fo_X4_9 dX4_init_45 ?_
        refine lv_iload_n hx hb dX4_init_48 rfl (lv_at hl 1 rfl) ?_
        refine lv_iconst (v := (-1)) hx hb dX4_init_49 rfl ?_
        refine x_iast aiN_34 F hw i rfl (by omega) dX4_init_50 (fun H locs hw => ?_)
        refine lv_iinc (v := nI (i + 1)) (lv' := [(1, .int (nI (i + 1))), (0, .ref (q 33))]) hx hb dX4_init_51 hl (k := 1) rfl (nI_1 _) (Nat.le_of_ble_eq_true rfl) rfl (fun ls hl => ?_)
        refine lv_goto (tgt := 38) hx hb dX4_init_54 rfl ?_
        exact ih38_ (i + 1) (upd f i (-1)) _ _ _ (by first | omega | (simp only [] at *; omega)) (by first | assumption | omega | rfl) (by exact mR_s h1) hw (lv_sub hl [1, 0] rfl)
  exact K38 _ 0 (S0 34) _ _ _ (Nat.lt_succ_self _) (by first | assumption | omega | rfl) (by exact fun j hj => absurd hj (Nat.not_lt_zero _)) hw (lv_sub hl [1, 0] rfl)
theorem frA_2_2 {k : Nat → ClassId} {q : Nat → Nat} {S : St} {X : va_W} : FR (alb k q S X) 0 (q 2) 1 2 (q 3) := ⟨_, rfl, rfl⟩
theorem frA_2_3 {k : Nat → ClassId} {q : Nat → Nat} {S : St} {X : va_W} : FR (alb k q S X) 0 (q 2) 1 3 (q 4) := ⟨_, rfl, rfl⟩
theorem frA_2_4 {k : Nat → ClassId} {q : Nat → Nat} {S : St} {X : va_W} : FR (alb k q S X) 0 (q 2) 1 4 (q 5) := ⟨_, rfl, rfl⟩
theorem frA_2_5 {k : Nat → ClassId} {q : Nat → Nat} {S : St} {X : va_W} : FR (alb k q S X) 0 (q 2) 1 5 (q 6) := ⟨_, rfl, rfl⟩
theorem frA_2_6 {k : Nat → ClassId} {q : Nat → Nat} {S : St} {X : va_W} : FR (alb k q S X) 0 (q 2) 1 6 (q 7) := ⟨_, rfl, rfl⟩
theorem frA_2_7 {k : Nat → ClassId} {q : Nat → Nat} {S : St} {X : va_W} : FR (alb k q S X) 0 (q 2) 1 7 (q 12) := ⟨_, rfl, rfl⟩
theorem frA_2_8 {k : Nat → ClassId} {q : Nat → Nat} {S : St} {X : va_W} : FR (alb k q S X) 0 (q 2) 1 8 (q 13) := ⟨_, rfl, rfl⟩
theorem frA_2_9 {k : Nat → ClassId} {q : Nat → Nat} {S : St} {X : va_W} : FR (alb k q S X) 0 (q 2) 1 9 (q 14) := ⟨_, rfl, rfl⟩
theorem frA_2_10 {k : Nat → ClassId} {q : Nat → Nat} {S : St} {X : va_W} : FR (alb k q S X) 0 (q 2) 1 10 (q 15) := ⟨_, rfl, rfl⟩
theorem frA_2_11 {k : Nat → ClassId} {q : Nat → Nat} {S : St} {X : va_W} : FR (alb k q S X) 0 (q 2) 1 11 (q 16) := ⟨_, rfl, rfl⟩
theorem aiA_12 {k : Nat → ClassId} {q : Nat → Nat} {X : va_W} : AI (fun S => alb k q S X) 10 (q 12) (k 0) 4 12 := ⟨fun _ => rfl, fun _ _ => rfl, Nat.le_of_ble_eq_true rfl⟩
theorem aiA_13 {k : Nat → ClassId} {q : Nat → Nat} {X : va_W} : AI (fun S => alb k q S X) 11 (q 13) (k 0) 2 13 := ⟨fun _ => rfl, fun _ _ => rfl, Nat.le_of_ble_eq_true rfl⟩
theorem aiA_14 {k : Nat → ClassId} {q : Nat → Nat} {X : va_W} : AI (fun S => alb k q S X) 12 (q 14) (k 0) 2 14 := ⟨fun _ => rfl, fun _ _ => rfl, Nat.le_of_ble_eq_true rfl⟩
theorem aiA_15 {k : Nat → ClassId} {q : Nat → Nat} {X : va_W} : AI (fun S => alb k q S X) 13 (q 15) (k 0) 8 15 := ⟨fun _ => rfl, fun _ _ => rfl, Nat.le_of_ble_eq_true rfl⟩
theorem aiA_16 {k : Nat → ClassId} {q : Nat → Nat} {X : va_W} : AI (fun S => alb k q S X) 14 (q 16) (k 0) 8 16 := ⟨fun _ => rfl, fun _ _ => rfl, Nat.le_of_ble_eq_true rfl⟩
theorem aiA_3 {k : Nat → ClassId} {q : Nat → Nat} {X : va_W} : AI (fun S => alb k q S X) 1 (q 3) (k 0) 6 3 := ⟨fun _ => rfl, fun _ _ => rfl, Nat.le_of_ble_eq_true rfl⟩
theorem aiA_4 {k : Nat → ClassId} {q : Nat → Nat} {X : va_W} : AI (fun S => alb k q S X) 2 (q 4) (k 0) 6 4 := ⟨fun _ => rfl, fun _ _ => rfl, Nat.le_of_ble_eq_true rfl⟩
theorem aiA_5 {k : Nat → ClassId} {q : Nat → Nat} {X : va_W} : AI (fun S => alb k q S X) 3 (q 5) (k 0) 6 5 := ⟨fun _ => rfl, fun _ _ => rfl, Nat.le_of_ble_eq_true rfl⟩
theorem aiA_6 {k : Nat → ClassId} {q : Nat → Nat} {X : va_W} : AI (fun S => alb k q S X) 4 (q 6) (k 0) 6 6 := ⟨fun _ => rfl, fun _ _ => rfl, Nat.le_of_ble_eq_true rfl⟩
theorem aiA_slip {k : Nat → ClassId} {q : Nat → Nat} {X : va_W} : ∀ {j : Nat}, j < 4 → AI (fun S => alb k q S X) (6 + j) (q (8 + j)) (k 0) 4 (8 + j)
  | 0, _ => ⟨fun _ => rfl, fun _ _ => rfl, Nat.le_of_ble_eq_true rfl⟩
  | 1, _ => ⟨fun _ => rfl, fun _ _ => rfl, Nat.le_of_ble_eq_true rfl⟩
  | 2, _ => ⟨fun _ => rfl, fun _ _ => rfl, Nat.le_of_ble_eq_true rfl⟩
  | 3, _ => ⟨fun _ => rfl, fun _ _ => rfl, Nat.le_of_ble_eq_true rfl⟩
  | j + 4, h => absurd h (by omega)
theorem giA_7 {k : Nat → ClassId} {q : Nat → Nat} {S : St} {X : va_W} : GI k (alb k q S X) 5 (q 7) 4 (fun i => q (8 + i)) := ⟨rfl, Nat.le_of_ble_eq_true rfl⟩
def t2M : Nat → Int32 := upd (upd (fun _ => 0) 0 (nI 10)) 1 (nI 1)
def SA0 : St := va_up (va_up (va_up S0 12 t5M) 13 t2M) 14 t2M
def inW (M w : Nat → Nat → Int32) (n : Nat) : Nat → Nat → Int32 := fun i j => if 4 * i + j < n ∧ j < 4 then w i j else M i j
theorem inW_s {M w : Nat → Nat → Int32} {a b : Nat} {v : Int32} (hb : b < 4) (hv : v = w a b) : va_up (inW M w (4 * a + b)) a (upd (inW M w (4 * a + b) a) b v) = inW M w (4 * a + (b + 1)) := by
  funext i j
  by_cases hi : i = a
  · subst hi
    by_cases hj : j = b
    · subst hj
      simp only [va_up, if_true, pk_us]
      unfold inW
      rw [if_pos ⟨by omega, hb⟩, hv]
    · simp only [va_up, if_true, pk_un hj]
      unfold inW
      by_cases q : 4 * i + j < 4 * i + b ∧ j < 4
      · rw [if_pos q]; exact (if_pos ⟨by omega, q.2⟩).symm
      · rw [if_neg q, if_neg (fun z => q ⟨by omega, z.2⟩)]
  · simp only [va_up, if_neg hi]
    unfold inW
    by_cases q : 4 * i + j < 4 * a + b ∧ j < 4
    · rw [if_pos q]; exact (if_pos ⟨by omega, q.2⟩).symm
    · rw [if_neg q, if_neg (fun z => q ⟨by omega, z.2⟩)]
theorem inW_0 {M w : Nat → Nat → Int32} : inW M w 0 = M := by
  funext i j
  unfold inW
  rw [if_neg (fun h => absurd h.1 (Nat.not_lt_zero _))]
def w10 (i j : Nat) : Int32 := if i = j then nI 0 else nI 10
def iniX1 (k : Nat → ClassId) (a : Nat) (X w' : va_W) : Prop := ∃ (q : Nat → Nat) (T : Nat → Nat → Int32) (f15 f16 : Nat → Int32), q 2 = a ∧ w' = alb k q (va_up (va_up (grd SA0 8 4 T) 15 f15) 16 f16) X ∧ (∀ i j, i < 4 → j < 4 → T i j = w10 i j) ∧ bR f15 8 ∧ bR f16 8
set_option maxHeartbeats 4000000 in
set_option maxRecDepth 20000 in
theorem c_X1_init (l : Launch) (D : va_G) (k : Nat → ClassId) (a : Nat) (X : va_W) : CV l D k yX1_init cX1_init 3 1 14 68 [.ref a] ((a, .inr (1, [.int 0, .int 0, .null, .null, .null, .null, .null, .null, .null, .null, .null, .null])) :: X) (iniX1 k a X) := by
  refine CV.mk (by decide) (Nat.le_of_ble_eq_true rfl) ?_
  intro p e R s m args below meth c A Q ls F hnm hret hw hl
  have hx := xs_hx F
  have hb := xs_hb F
  have hl : lv_has ls 3 [(0, .ref a)] := hl
  refine lv_aload_n hx hb dX1_init_0 rfl (lv_at hl 0 rfl) ?_
  refine x_obj F ol_X1_3 (Nat.le_of_ble_eq_true rfl) hl.1 (Nat.le_of_ble_eq_true rfl) dX1_init_1 w_oi w_oc ?_
  refine lv_aload_n hx hb dX1_init_4 rfl (lv_at hl 0 rfl) ?_
  refine lv_bipush (v := nI 6) hx hb dX1_init_5 rfl ?_
  refine x_newi 6 F w_acI hw rfl (by omega) (x_cs F (Nat.le_of_ble_eq_true rfl) (Nat.le_of_ble_eq_true rfl)) dX1_init_7 (fun b3 H hw => ?_)
  refine x_putF 1 rfl (Nat.le_of_ble_eq_true rfl) F hw fo_X1_9 hnm rfl rfl rfl dX1_init_9 (fun H locs hw => ?_)
  have hw : Wd D A s.heap H locs ((b3, .inl (k 0, 6, .inl (fun _ => 0))) :: (a, .inr (1, [.int 0, .int 0, .ref b3, .null, .null, .null, .null, .null, .null, .null, .null, .null])) :: X) := hw
  refine lv_aload_n hx hb dX1_init_12 rfl (lv_at hl 0 rfl) ?_
  refine lv_bipush (v := nI 6) hx hb dX1_init_13 rfl ?_
  refine x_newi 6 F w_acI hw rfl (by omega) (x_cs F (Nat.le_of_ble_eq_true rfl) (Nat.le_of_ble_eq_true rfl)) dX1_init_15 (fun b4 H hw => ?_)
  refine x_putF 2 rfl (Nat.le_of_ble_eq_true rfl) F hw fo_X1_15 hnm rfl rfl rfl dX1_init_17 (fun H locs hw => ?_)
  have hw : Wd D A s.heap H locs ((b4, .inl (k 0, 6, .inl (fun _ => 0))) :: (b3, .inl (k 0, 6, .inl (fun _ => 0))) :: (a, .inr (1, [.int 0, .int 0, .ref b3, .ref b4, .null, .null, .null, .null, .null, .null, .null, .null])) :: X) := hw
  refine lv_aload_n hx hb dX1_init_20 rfl (lv_at hl 0 rfl) ?_
  refine lv_bipush (v := nI 6) hx hb dX1_init_21 rfl ?_
  refine x_newi 6 F w_acI hw rfl (by omega) (x_cs F (Nat.le_of_ble_eq_true rfl) (Nat.le_of_ble_eq_true rfl)) dX1_init_23 (fun b5 H hw => ?_)
  refine x_putF 3 rfl (Nat.le_of_ble_eq_true rfl) F hw fo_X1_18 hnm rfl rfl rfl dX1_init_25 (fun H locs hw => ?_)
  have hw : Wd D A s.heap H locs ((b5, .inl (k 0, 6, .inl (fun _ => 0))) :: (b4, .inl (k 0, 6, .inl (fun _ => 0))) :: (b3, .inl (k 0, 6, .inl (fun _ => 0))) :: (a, .inr (1, [.int 0, .int 0, .ref b3, .ref b4, .ref b5, .null, .null, .null, .null, .null, .null, .null])) :: X) := hw
  refine lv_aload_n hx hb dX1_init_28 rfl (lv_at hl 0 rfl) ?_
  refine lv_bipush (v := nI 6) hx hb dX1_init_29 rfl ?_
  refine x_newi 6 F w_acI hw rfl (by omega) (x_cs F (Nat.le_of_ble_eq_true rfl) (Nat.le_of_ble_eq_true rfl)) dX1_init_31 (fun b6 H hw => ?_)
  refine x_putF 4 rfl (Nat.le_of_ble_eq_true rfl) F hw fo_X1_21 hnm rfl rfl rfl dX1_init_33 (fun H locs hw => ?_)
  have hw : Wd D A s.heap H locs ((b6, .inl (k 0, 6, .inl (fun _ => 0))) :: (b5, .inl (k 0, 6, .inl (fun _ => 0))) :: (b4, .inl (k 0, 6, .inl (fun _ => 0))) :: (b3, .inl (k 0, 6, .inl (fun _ => 0))) :: (a, .inr (1, [.int 0, .int 0, .ref b3, .ref b4, .ref b5, .ref b6, .null, .null, .null, .null, .null, .null])) :: X) := hw
  refine lv_aload_n hx hb dX1_init_36 rfl (lv_at hl 0 rfl) ?_
  refine lv_iconst (v := nI 4) hx hb dX1_init_37 rfl ?_
  refine lv_iconst (v := nI 4) hx hb dX1_init_38 rfl ?_
  refine x_mna (N := 4) (K := 4) F cl_X1_24 w_acI hw (by omega) (by omega) (x_cs F (Nat.le_of_ble_eq_true rfl) (Nat.le_of_ble_eq_true rfl)) dX1_init_39 (fun b7 r H hw => ?_)
  have hw : Wd D A s.heap H locs ((b7, .inl (k 2, 4, .inr (.inr (.inr (.inr (fun i => if i < 4 then some (r i) else none)))))) :: (r 0, .inl (k 0, 4, .inl (fun _ => 0))) :: (r 1, .inl (k 0, 4, .inl (fun _ => 0))) :: (r 2, .inl (k 0, 4, .inl (fun _ => 0))) :: (r 3, .inl (k 0, 4, .inl (fun _ => 0))) :: (b6, .inl (k 0, 6, .inl (fun _ => 0))) :: (b5, .inl (k 0, 6, .inl (fun _ => 0))) :: (b4, .inl (k 0, 6, .inl (fun _ => 0))) :: (b3, .inl (k 0, 6, .inl (fun _ => 0))) :: (a, .inr (1, [.int 0, .int 0, .ref b3, .ref b4, .ref b5, .ref b6, .null, .null, .null, .null, .null, .null])) :: X) := hw
  refine x_putF 9 rfl (Nat.le_of_ble_eq_true rfl) F hw fo_X1_26 hnm rfl rfl rfl dX1_init_43 (fun H locs hw => ?_)
  have hw : Wd D A s.heap H locs ((b7, .inl (k 2, 4, .inr (.inr (.inr (.inr (fun i => if i < 4 then some (r i) else none)))))) :: (r 0, .inl (k 0, 4, .inl (fun _ => 0))) :: (r 1, .inl (k 0, 4, .inl (fun _ => 0))) :: (r 2, .inl (k 0, 4, .inl (fun _ => 0))) :: (r 3, .inl (k 0, 4, .inl (fun _ => 0))) :: (b6, .inl (k 0, 6, .inl (fun _ => 0))) :: (b5, .inl (k 0, 6, .inl (fun _ => 0))) :: (b4, .inl (k 0, 6, .inl (fun _ => 0))) :: (b3, .inl (k 0, 6, .inl (fun _ => 0))) :: (a, .inr (1, [.int 0, .int 0, .ref b3, .ref b4, .ref b5, .ref b6, .ref b7, .null, .null, .null, .null, .null])) :: X) := hw
  refine lv_aload_n hx hb dX1_init_46 rfl (lv_at hl 0 rfl) ?_
  refine lv_iconst (v := nI 4) hx hb dX1_init_47 rfl ?_
  refine x_newi 4 F w_acI hw rfl (by omega) (x_cs F (Nat.le_of_ble_eq_true rfl) (Nat.le_of_ble_eq_true rfl)) dX1_init_48 (fun b12 H hw => ?_)
  refine lv_dup hx hb dX1_init_50 rfl ?_
  refine lv_iconst (v := nI 0) hx hb dX1_init_51 rfl ?_
  refine lv_bipush (v := nI 20) hx hb dX1_init_52 rfl ?_
  refine x_iast (w := fun S => (b12, .inl (k 0, 4, .inl (S 0))) :: (b7, .inl (k 2, 4, .inr (.inr (.inr (.inr (fun i => if i < 4 then some (r i) else none)))))) :: (r 0, .inl (k 0, 4, .inl (fun _ => 0))) :: (r 1, .inl (k 0, 4, .inl (fun _ => 0))) :: (r 2, .inl (k 0, 4, .inl (fun _ => 0))) :: (r 3, .inl (k 0, 4, .inl (fun _ => 0))) :: (b6, .inl (k 0, 6, .inl (fun _ => 0))) :: (b5, .inl (k 0, 6, .inl (fun _ => 0))) :: (b4, .inl (k 0, 6, .inl (fun _ => 0))) :: (b3, .inl (k 0, 6, .inl (fun _ => 0))) :: (a, .inr (1, [.int 0, .int 0, .ref b3, .ref b4, .ref b5, .ref b6, .ref b7, .null, .null, .null, .null, .null])) :: X) (S := fun _ => (fun _ => 0)) (p0 := 0) (j := 0) ⟨fun _ => rfl, fun _ _ => rfl, Nat.le_of_ble_eq_true rfl⟩ F hw 0 rfl (by omega) dX1_init_54 (fun H locs hw => ?_)
  have hw : Wd D A s.heap H locs ((b12, .inl (k 0, 4, .inl (upd (fun _ => 0) 0 (nI 20)))) :: (b7, .inl (k 2, 4, .inr (.inr (.inr (.inr (fun i => if i < 4 then some (r i) else none)))))) :: (r 0, .inl (k 0, 4, .inl (fun _ => 0))) :: (r 1, .inl (k 0, 4, .inl (fun _ => 0))) :: (r 2, .inl (k 0, 4, .inl (fun _ => 0))) :: (r 3, .inl (k 0, 4, .inl (fun _ => 0))) :: (b6, .inl (k 0, 6, .inl (fun _ => 0))) :: (b5, .inl (k 0, 6, .inl (fun _ => 0))) :: (b4, .inl (k 0, 6, .inl (fun _ => 0))) :: (b3, .inl (k 0, 6, .inl (fun _ => 0))) :: (a, .inr (1, [.int 0, .int 0, .ref b3, .ref b4, .ref b5, .ref b6, .ref b7, .null, .null, .null, .null, .null])) :: X) := hw
  refine lv_dup hx hb dX1_init_55 rfl ?_
  refine lv_iconst (v := nI 1) hx hb dX1_init_56 rfl ?_
  refine lv_bipush (v := nI 99) hx hb dX1_init_57 rfl ?_
  refine x_iast (w := fun S => (b12, .inl (k 0, 4, .inl (S 0))) :: (b7, .inl (k 2, 4, .inr (.inr (.inr (.inr (fun i => if i < 4 then some (r i) else none)))))) :: (r 0, .inl (k 0, 4, .inl (fun _ => 0))) :: (r 1, .inl (k 0, 4, .inl (fun _ => 0))) :: (r 2, .inl (k 0, 4, .inl (fun _ => 0))) :: (r 3, .inl (k 0, 4, .inl (fun _ => 0))) :: (b6, .inl (k 0, 6, .inl (fun _ => 0))) :: (b5, .inl (k 0, 6, .inl (fun _ => 0))) :: (b4, .inl (k 0, 6, .inl (fun _ => 0))) :: (b3, .inl (k 0, 6, .inl (fun _ => 0))) :: (a, .inr (1, [.int 0, .int 0, .ref b3, .ref b4, .ref b5, .ref b6, .ref b7, .null, .null, .null, .null, .null])) :: X) (S := fun _ => (upd (fun _ => 0) 0 (nI 20))) (p0 := 0) (j := 0) ⟨fun _ => rfl, fun _ _ => rfl, Nat.le_of_ble_eq_true rfl⟩ F hw 1 rfl (by omega) dX1_init_59 (fun H locs hw => ?_)
  have hw : Wd D A s.heap H locs ((b12, .inl (k 0, 4, .inl (upd (upd (fun _ => 0) 0 (nI 20)) 1 (nI 99)))) :: (b7, .inl (k 2, 4, .inr (.inr (.inr (.inr (fun i => if i < 4 then some (r i) else none)))))) :: (r 0, .inl (k 0, 4, .inl (fun _ => 0))) :: (r 1, .inl (k 0, 4, .inl (fun _ => 0))) :: (r 2, .inl (k 0, 4, .inl (fun _ => 0))) :: (r 3, .inl (k 0, 4, .inl (fun _ => 0))) :: (b6, .inl (k 0, 6, .inl (fun _ => 0))) :: (b5, .inl (k 0, 6, .inl (fun _ => 0))) :: (b4, .inl (k 0, 6, .inl (fun _ => 0))) :: (b3, .inl (k 0, 6, .inl (fun _ => 0))) :: (a, .inr (1, [.int 0, .int 0, .ref b3, .ref b4, .ref b5, .ref b6, .ref b7, .null, .null, .null, .null, .null])) :: X) := hw
  refine lv_dup hx hb dX1_init_60 rfl ?_
  refine lv_iconst (v := nI 2) hx hb dX1_init_61 rfl ?_
  refine lv_bipush (v := nI 10) hx hb dX1_init_62 rfl ?_
  refine x_iast (w := fun S => (b12, .inl (k 0, 4, .inl (S 0))) :: (b7, .inl (k 2, 4, .inr (.inr (.inr (.inr (fun i => if i < 4 then some (r i) else none)))))) :: (r 0, .inl (k 0, 4, .inl (fun _ => 0))) :: (r 1, .inl (k 0, 4, .inl (fun _ => 0))) :: (r 2, .inl (k 0, 4, .inl (fun _ => 0))) :: (r 3, .inl (k 0, 4, .inl (fun _ => 0))) :: (b6, .inl (k 0, 6, .inl (fun _ => 0))) :: (b5, .inl (k 0, 6, .inl (fun _ => 0))) :: (b4, .inl (k 0, 6, .inl (fun _ => 0))) :: (b3, .inl (k 0, 6, .inl (fun _ => 0))) :: (a, .inr (1, [.int 0, .int 0, .ref b3, .ref b4, .ref b5, .ref b6, .ref b7, .null, .null, .null, .null, .null])) :: X) (S := fun _ => (upd (upd (fun _ => 0) 0 (nI 20)) 1 (nI 99))) (p0 := 0) (j := 0) ⟨fun _ => rfl, fun _ _ => rfl, Nat.le_of_ble_eq_true rfl⟩ F hw 2 rfl (by omega) dX1_init_64 (fun H locs hw => ?_)
  have hw : Wd D A s.heap H locs ((b12, .inl (k 0, 4, .inl (upd (upd (upd (fun _ => 0) 0 (nI 20)) 1 (nI 99)) 2 (nI 10)))) :: (b7, .inl (k 2, 4, .inr (.inr (.inr (.inr (fun i => if i < 4 then some (r i) else none)))))) :: (r 0, .inl (k 0, 4, .inl (fun _ => 0))) :: (r 1, .inl (k 0, 4, .inl (fun _ => 0))) :: (r 2, .inl (k 0, 4, .inl (fun _ => 0))) :: (r 3, .inl (k 0, 4, .inl (fun _ => 0))) :: (b6, .inl (k 0, 6, .inl (fun _ => 0))) :: (b5, .inl (k 0, 6, .inl (fun _ => 0))) :: (b4, .inl (k 0, 6, .inl (fun _ => 0))) :: (b3, .inl (k 0, 6, .inl (fun _ => 0))) :: (a, .inr (1, [.int 0, .int 0, .ref b3, .ref b4, .ref b5, .ref b6, .ref b7, .null, .null, .null, .null, .null])) :: X) := hw
  refine lv_dup hx hb dX1_init_65 rfl ?_
  refine lv_iconst (v := nI 3) hx hb dX1_init_66 rfl ?_
  refine lv_bipush (v := nI 10) hx hb dX1_init_67 rfl ?_
  refine x_iast (w := fun S => (b12, .inl (k 0, 4, .inl (S 0))) :: (b7, .inl (k 2, 4, .inr (.inr (.inr (.inr (fun i => if i < 4 then some (r i) else none)))))) :: (r 0, .inl (k 0, 4, .inl (fun _ => 0))) :: (r 1, .inl (k 0, 4, .inl (fun _ => 0))) :: (r 2, .inl (k 0, 4, .inl (fun _ => 0))) :: (r 3, .inl (k 0, 4, .inl (fun _ => 0))) :: (b6, .inl (k 0, 6, .inl (fun _ => 0))) :: (b5, .inl (k 0, 6, .inl (fun _ => 0))) :: (b4, .inl (k 0, 6, .inl (fun _ => 0))) :: (b3, .inl (k 0, 6, .inl (fun _ => 0))) :: (a, .inr (1, [.int 0, .int 0, .ref b3, .ref b4, .ref b5, .ref b6, .ref b7, .null, .null, .null, .null, .null])) :: X) (S := fun _ => (upd (upd (upd (fun _ => 0) 0 (nI 20)) 1 (nI 99)) 2 (nI 10))) (p0 := 0) (j := 0) ⟨fun _ => rfl, fun _ _ => rfl, Nat.le_of_ble_eq_true rfl⟩ F hw 3 rfl (by omega) dX1_init_69 (fun H locs hw => ?_)
  have hw : Wd D A s.heap H locs ((b12, .inl (k 0, 4, .inl (upd (upd (upd (upd (fun _ => 0) 0 (nI 20)) 1 (nI 99)) 2 (nI 10)) 3 (nI 10)))) :: (b7, .inl (k 2, 4, .inr (.inr (.inr (.inr (fun i => if i < 4 then some (r i) else none)))))) :: (r 0, .inl (k 0, 4, .inl (fun _ => 0))) :: (r 1, .inl (k 0, 4, .inl (fun _ => 0))) :: (r 2, .inl (k 0, 4, .inl (fun _ => 0))) :: (r 3, .inl (k 0, 4, .inl (fun _ => 0))) :: (b6, .inl (k 0, 6, .inl (fun _ => 0))) :: (b5, .inl (k 0, 6, .inl (fun _ => 0))) :: (b4, .inl (k 0, 6, .inl (fun _ => 0))) :: (b3, .inl (k 0, 6, .inl (fun _ => 0))) :: (a, .inr (1, [.int 0, .int 0, .ref b3, .ref b4, .ref b5, .ref b6, .ref b7, .null, .null, .null, .null, .null])) :: X) := hw
  refine x_putF 10 rfl (Nat.le_of_ble_eq_true rfl) F hw fo_X1_29 hnm rfl rfl rfl dX1_init_70 (fun H locs hw => ?_)
  have hw : Wd D A s.heap H locs ((b12, .inl (k 0, 4, .inl (upd (upd (upd (upd (fun _ => 0) 0 (nI 20)) 1 (nI 99)) 2 (nI 10)) 3 (nI 10)))) :: (b7, .inl (k 2, 4, .inr (.inr (.inr (.inr (fun i => if i < 4 then some (r i) else none)))))) :: (r 0, .inl (k 0, 4, .inl (fun _ => 0))) :: (r 1, .inl (k 0, 4, .inl (fun _ => 0))) :: (r 2, .inl (k 0, 4, .inl (fun _ => 0))) :: (r 3, .inl (k 0, 4, .inl (fun _ => 0))) :: (b6, .inl (k 0, 6, .inl (fun _ => 0))) :: (b5, .inl (k 0, 6, .inl (fun _ => 0))) :: (b4, .inl (k 0, 6, .inl (fun _ => 0))) :: (b3, .inl (k 0, 6, .inl (fun _ => 0))) :: (a, .inr (1, [.int 0, .int 0, .ref b3, .ref b4, .ref b5, .ref b6, .ref b7, .ref b12, .null, .null, .null, .null])) :: X) := hw
  refine lv_aload_n hx hb dX1_init_73 rfl (lv_at hl 0 rfl) ?_
  refine lv_iconst (v := nI 2) hx hb dX1_init_74 rfl ?_
  refine x_newi 2 F w_acI hw rfl (by omega) (x_cs F (Nat.le_of_ble_eq_true rfl) (Nat.le_of_ble_eq_true rfl)) dX1_init_75 (fun b13 H hw => ?_)
  refine lv_dup hx hb dX1_init_77 rfl ?_
  refine lv_iconst (v := nI 0) hx hb dX1_init_78 rfl ?_
  refine lv_bipush (v := nI 10) hx hb dX1_init_79 rfl ?_
  refine x_iast (w := fun S => (b13, .inl (k 0, 2, .inl (S 0))) :: (b12, .inl (k 0, 4, .inl (upd (upd (upd (upd (fun _ => 0) 0 (nI 20)) 1 (nI 99)) 2 (nI 10)) 3 (nI 10)))) :: (b7, .inl (k 2, 4, .inr (.inr (.inr (.inr (fun i => if i < 4 then some (r i) else none)))))) :: (r 0, .inl (k 0, 4, .inl (fun _ => 0))) :: (r 1, .inl (k 0, 4, .inl (fun _ => 0))) :: (r 2, .inl (k 0, 4, .inl (fun _ => 0))) :: (r 3, .inl (k 0, 4, .inl (fun _ => 0))) :: (b6, .inl (k 0, 6, .inl (fun _ => 0))) :: (b5, .inl (k 0, 6, .inl (fun _ => 0))) :: (b4, .inl (k 0, 6, .inl (fun _ => 0))) :: (b3, .inl (k 0, 6, .inl (fun _ => 0))) :: (a, .inr (1, [.int 0, .int 0, .ref b3, .ref b4, .ref b5, .ref b6, .ref b7, .ref b12, .null, .null, .null, .null])) :: X) (S := fun _ => (fun _ => 0)) (p0 := 0) (j := 0) ⟨fun _ => rfl, fun _ _ => rfl, Nat.le_of_ble_eq_true rfl⟩ F hw 0 rfl (by omega) dX1_init_81 (fun H locs hw => ?_)
  have hw : Wd D A s.heap H locs ((b13, .inl (k 0, 2, .inl (upd (fun _ => 0) 0 (nI 10)))) :: (b12, .inl (k 0, 4, .inl (upd (upd (upd (upd (fun _ => 0) 0 (nI 20)) 1 (nI 99)) 2 (nI 10)) 3 (nI 10)))) :: (b7, .inl (k 2, 4, .inr (.inr (.inr (.inr (fun i => if i < 4 then some (r i) else none)))))) :: (r 0, .inl (k 0, 4, .inl (fun _ => 0))) :: (r 1, .inl (k 0, 4, .inl (fun _ => 0))) :: (r 2, .inl (k 0, 4, .inl (fun _ => 0))) :: (r 3, .inl (k 0, 4, .inl (fun _ => 0))) :: (b6, .inl (k 0, 6, .inl (fun _ => 0))) :: (b5, .inl (k 0, 6, .inl (fun _ => 0))) :: (b4, .inl (k 0, 6, .inl (fun _ => 0))) :: (b3, .inl (k 0, 6, .inl (fun _ => 0))) :: (a, .inr (1, [.int 0, .int 0, .ref b3, .ref b4, .ref b5, .ref b6, .ref b7, .ref b12, .null, .null, .null, .null])) :: X) := hw
  refine lv_dup hx hb dX1_init_82 rfl ?_
  refine lv_iconst (v := nI 1) hx hb dX1_init_83 rfl ?_
  refine lv_iconst (v := nI 1) hx hb dX1_init_84 rfl ?_
  refine x_iast (w := fun S => (b13, .inl (k 0, 2, .inl (S 0))) :: (b12, .inl (k 0, 4, .inl (upd (upd (upd (upd (fun _ => 0) 0 (nI 20)) 1 (nI 99)) 2 (nI 10)) 3 (nI 10)))) :: (b7, .inl (k 2, 4, .inr (.inr (.inr (.inr (fun i => if i < 4 then some (r i) else none)))))) :: (r 0, .inl (k 0, 4, .inl (fun _ => 0))) :: (r 1, .inl (k 0, 4, .inl (fun _ => 0))) :: (r 2, .inl (k 0, 4, .inl (fun _ => 0))) :: (r 3, .inl (k 0, 4, .inl (fun _ => 0))) :: (b6, .inl (k 0, 6, .inl (fun _ => 0))) :: (b5, .inl (k 0, 6, .inl (fun _ => 0))) :: (b4, .inl (k 0, 6, .inl (fun _ => 0))) :: (b3, .inl (k 0, 6, .inl (fun _ => 0))) :: (a, .inr (1, [.int 0, .int 0, .ref b3, .ref b4, .ref b5, .ref b6, .ref b7, .ref b12, .null, .null, .null, .null])) :: X) (S := fun _ => (upd (fun _ => 0) 0 (nI 10))) (p0 := 0) (j := 0) ⟨fun _ => rfl, fun _ _ => rfl, Nat.le_of_ble_eq_true rfl⟩ F hw 1 rfl (by omega) dX1_init_85 (fun H locs hw => ?_)
  have hw : Wd D A s.heap H locs ((b13, .inl (k 0, 2, .inl (upd (upd (fun _ => 0) 0 (nI 10)) 1 (nI 1)))) :: (b12, .inl (k 0, 4, .inl (upd (upd (upd (upd (fun _ => 0) 0 (nI 20)) 1 (nI 99)) 2 (nI 10)) 3 (nI 10)))) :: (b7, .inl (k 2, 4, .inr (.inr (.inr (.inr (fun i => if i < 4 then some (r i) else none)))))) :: (r 0, .inl (k 0, 4, .inl (fun _ => 0))) :: (r 1, .inl (k 0, 4, .inl (fun _ => 0))) :: (r 2, .inl (k 0, 4, .inl (fun _ => 0))) :: (r 3, .inl (k 0, 4, .inl (fun _ => 0))) :: (b6, .inl (k 0, 6, .inl (fun _ => 0))) :: (b5, .inl (k 0, 6, .inl (fun _ => 0))) :: (b4, .inl (k 0, 6, .inl (fun _ => 0))) :: (b3, .inl (k 0, 6, .inl (fun _ => 0))) :: (a, .inr (1, [.int 0, .int 0, .ref b3, .ref b4, .ref b5, .ref b6, .ref b7, .ref b12, .null, .null, .null, .null])) :: X) := hw
  refine x_putF 11 rfl (Nat.le_of_ble_eq_true rfl) F hw fo_X1_32 hnm rfl rfl rfl dX1_init_86 (fun H locs hw => ?_)
  have hw : Wd D A s.heap H locs ((b13, .inl (k 0, 2, .inl (upd (upd (fun _ => 0) 0 (nI 10)) 1 (nI 1)))) :: (b12, .inl (k 0, 4, .inl (upd (upd (upd (upd (fun _ => 0) 0 (nI 20)) 1 (nI 99)) 2 (nI 10)) 3 (nI 10)))) :: (b7, .inl (k 2, 4, .inr (.inr (.inr (.inr (fun i => if i < 4 then some (r i) else none)))))) :: (r 0, .inl (k 0, 4, .inl (fun _ => 0))) :: (r 1, .inl (k 0, 4, .inl (fun _ => 0))) :: (r 2, .inl (k 0, 4, .inl (fun _ => 0))) :: (r 3, .inl (k 0, 4, .inl (fun _ => 0))) :: (b6, .inl (k 0, 6, .inl (fun _ => 0))) :: (b5, .inl (k 0, 6, .inl (fun _ => 0))) :: (b4, .inl (k 0, 6, .inl (fun _ => 0))) :: (b3, .inl (k 0, 6, .inl (fun _ => 0))) :: (a, .inr (1, [.int 0, .int 0, .ref b3, .ref b4, .ref b5, .ref b6, .ref b7, .ref b12, .ref b13, .null, .null, .null])) :: X) := hw
  refine lv_aload_n hx hb dX1_init_89 rfl (lv_at hl 0 rfl) ?_
  refine lv_iconst (v := nI 2) hx hb dX1_init_90 rfl ?_
  refine x_newi 2 F w_acI hw rfl (by omega) (x_cs F (Nat.le_of_ble_eq_true rfl) (Nat.le_of_ble_eq_true rfl)) dX1_init_91 (fun b14 H hw => ?_)
  refine lv_dup hx hb dX1_init_93 rfl ?_
  refine lv_iconst (v := nI 0) hx hb dX1_init_94 rfl ?_
  refine lv_bipush (v := nI 10) hx hb dX1_init_95 rfl ?_
  refine x_iast (w := fun S => (b14, .inl (k 0, 2, .inl (S 0))) :: (b13, .inl (k 0, 2, .inl (upd (upd (fun _ => 0) 0 (nI 10)) 1 (nI 1)))) :: (b12, .inl (k 0, 4, .inl (upd (upd (upd (upd (fun _ => 0) 0 (nI 20)) 1 (nI 99)) 2 (nI 10)) 3 (nI 10)))) :: (b7, .inl (k 2, 4, .inr (.inr (.inr (.inr (fun i => if i < 4 then some (r i) else none)))))) :: (r 0, .inl (k 0, 4, .inl (fun _ => 0))) :: (r 1, .inl (k 0, 4, .inl (fun _ => 0))) :: (r 2, .inl (k 0, 4, .inl (fun _ => 0))) :: (r 3, .inl (k 0, 4, .inl (fun _ => 0))) :: (b6, .inl (k 0, 6, .inl (fun _ => 0))) :: (b5, .inl (k 0, 6, .inl (fun _ => 0))) :: (b4, .inl (k 0, 6, .inl (fun _ => 0))) :: (b3, .inl (k 0, 6, .inl (fun _ => 0))) :: (a, .inr (1, [.int 0, .int 0, .ref b3, .ref b4, .ref b5, .ref b6, .ref b7, .ref b12, .ref b13, .null, .null, .null])) :: X) (S := fun _ => (fun _ => 0)) (p0 := 0) (j := 0) ⟨fun _ => rfl, fun _ _ => rfl, Nat.le_of_ble_eq_true rfl⟩ F hw 0 rfl (by omega) dX1_init_97 (fun H locs hw => ?_)
  have hw : Wd D A s.heap H locs ((b14, .inl (k 0, 2, .inl (upd (fun _ => 0) 0 (nI 10)))) :: (b13, .inl (k 0, 2, .inl (upd (upd (fun _ => 0) 0 (nI 10)) 1 (nI 1)))) :: (b12, .inl (k 0, 4, .inl (upd (upd (upd (upd (fun _ => 0) 0 (nI 20)) 1 (nI 99)) 2 (nI 10)) 3 (nI 10)))) :: (b7, .inl (k 2, 4, .inr (.inr (.inr (.inr (fun i => if i < 4 then some (r i) else none)))))) :: (r 0, .inl (k 0, 4, .inl (fun _ => 0))) :: (r 1, .inl (k 0, 4, .inl (fun _ => 0))) :: (r 2, .inl (k 0, 4, .inl (fun _ => 0))) :: (r 3, .inl (k 0, 4, .inl (fun _ => 0))) :: (b6, .inl (k 0, 6, .inl (fun _ => 0))) :: (b5, .inl (k 0, 6, .inl (fun _ => 0))) :: (b4, .inl (k 0, 6, .inl (fun _ => 0))) :: (b3, .inl (k 0, 6, .inl (fun _ => 0))) :: (a, .inr (1, [.int 0, .int 0, .ref b3, .ref b4, .ref b5, .ref b6, .ref b7, .ref b12, .ref b13, .null, .null, .null])) :: X) := hw
  refine lv_dup hx hb dX1_init_98 rfl ?_
  refine lv_iconst (v := nI 1) hx hb dX1_init_99 rfl ?_
  refine lv_iconst (v := nI 1) hx hb dX1_init_100 rfl ?_
  refine x_iast (w := fun S => (b14, .inl (k 0, 2, .inl (S 0))) :: (b13, .inl (k 0, 2, .inl (upd (upd (fun _ => 0) 0 (nI 10)) 1 (nI 1)))) :: (b12, .inl (k 0, 4, .inl (upd (upd (upd (upd (fun _ => 0) 0 (nI 20)) 1 (nI 99)) 2 (nI 10)) 3 (nI 10)))) :: (b7, .inl (k 2, 4, .inr (.inr (.inr (.inr (fun i => if i < 4 then some (r i) else none)))))) :: (r 0, .inl (k 0, 4, .inl (fun _ => 0))) :: (r 1, .inl (k 0, 4, .inl (fun _ => 0))) :: (r 2, .inl (k 0, 4, .inl (fun _ => 0))) :: (r 3, .inl (k 0, 4, .inl (fun _ => 0))) :: (b6, .inl (k 0, 6, .inl (fun _ => 0))) :: (b5, .inl (k 0, 6, .inl (fun _ => 0))) :: (b4, .inl (k 0, 6, .inl (fun _ => 0))) :: (b3, .inl (k 0, 6, .inl (fun _ => 0))) :: (a, .inr (1, [.int 0, .int 0, .ref b3, .ref b4, .ref b5, .ref b6, .ref b7, .ref b12, .ref b13, .null, .null, .null])) :: X) (S := fun _ => (upd (fun _ => 0) 0 (nI 10))) (p0 := 0) (j := 0) ⟨fun _ => rfl, fun _ _ => rfl, Nat.le_of_ble_eq_true rfl⟩ F hw 1 rfl (by omega) dX1_init_101 (fun H locs hw => ?_)
  have hw : Wd D A s.heap H locs ((b14, .inl (k 0, 2, .inl (upd (upd (fun _ => 0) 0 (nI 10)) 1 (nI 1)))) :: (b13, .inl (k 0, 2, .inl (upd (upd (fun _ => 0) 0 (nI 10)) 1 (nI 1)))) :: (b12, .inl (k 0, 4, .inl (upd (upd (upd (upd (fun _ => 0) 0 (nI 20)) 1 (nI 99)) 2 (nI 10)) 3 (nI 10)))) :: (b7, .inl (k 2, 4, .inr (.inr (.inr (.inr (fun i => if i < 4 then some (r i) else none)))))) :: (r 0, .inl (k 0, 4, .inl (fun _ => 0))) :: (r 1, .inl (k 0, 4, .inl (fun _ => 0))) :: (r 2, .inl (k 0, 4, .inl (fun _ => 0))) :: (r 3, .inl (k 0, 4, .inl (fun _ => 0))) :: (b6, .inl (k 0, 6, .inl (fun _ => 0))) :: (b5, .inl (k 0, 6, .inl (fun _ => 0))) :: (b4, .inl (k 0, 6, .inl (fun _ => 0))) :: (b3, .inl (k 0, 6, .inl (fun _ => 0))) :: (a, .inr (1, [.int 0, .int 0, .ref b3, .ref b4, .ref b5, .ref b6, .ref b7, .ref b12, .ref b13, .null, .null, .null])) :: X) := hw
  refine x_putF 12 rfl (Nat.le_of_ble_eq_true rfl) F hw fo_X1_35 hnm rfl rfl rfl dX1_init_102 (fun H locs hw => ?_)
  have hw : Wd D A s.heap H locs ((b14, .inl (k 0, 2, .inl (upd (upd (fun _ => 0) 0 (nI 10)) 1 (nI 1)))) :: (b13, .inl (k 0, 2, .inl (upd (upd (fun _ => 0) 0 (nI 10)) 1 (nI 1)))) :: (b12, .inl (k 0, 4, .inl (upd (upd (upd (upd (fun _ => 0) 0 (nI 20)) 1 (nI 99)) 2 (nI 10)) 3 (nI 10)))) :: (b7, .inl (k 2, 4, .inr (.inr (.inr (.inr (fun i => if i < 4 then some (r i) else none)))))) :: (r 0, .inl (k 0, 4, .inl (fun _ => 0))) :: (r 1, .inl (k 0, 4, .inl (fun _ => 0))) :: (r 2, .inl (k 0, 4, .inl (fun _ => 0))) :: (r 3, .inl (k 0, 4, .inl (fun _ => 0))) :: (b6, .inl (k 0, 6, .inl (fun _ => 0))) :: (b5, .inl (k 0, 6, .inl (fun _ => 0))) :: (b4, .inl (k 0, 6, .inl (fun _ => 0))) :: (b3, .inl (k 0, 6, .inl (fun _ => 0))) :: (a, .inr (1, [.int 0, .int 0, .ref b3, .ref b4, .ref b5, .ref b6, .ref b7, .ref b12, .ref b13, .ref b14, .null, .null])) :: X) := hw
  refine lv_aload_n hx hb dX1_init_105 rfl (lv_at hl 0 rfl) ?_
  refine lv_bipush (v := nI 8) hx hb dX1_init_106 rfl ?_
  refine x_newi 8 F w_acI hw rfl (by omega) (x_cs F (Nat.le_of_ble_eq_true rfl) (Nat.le_of_ble_eq_true rfl)) dX1_init_108 (fun b15 H hw => ?_)
  refine x_putF 13 rfl (Nat.le_of_ble_eq_true rfl) F hw fo_X1_38 hnm rfl rfl rfl dX1_init_110 (fun H locs hw => ?_)
  have hw : Wd D A s.heap H locs ((b15, .inl (k 0, 8, .inl (fun _ => 0))) :: (b14, .inl (k 0, 2, .inl (upd (upd (fun _ => 0) 0 (nI 10)) 1 (nI 1)))) :: (b13, .inl (k 0, 2, .inl (upd (upd (fun _ => 0) 0 (nI 10)) 1 (nI 1)))) :: (b12, .inl (k 0, 4, .inl (upd (upd (upd (upd (fun _ => 0) 0 (nI 20)) 1 (nI 99)) 2 (nI 10)) 3 (nI 10)))) :: (b7, .inl (k 2, 4, .inr (.inr (.inr (.inr (fun i => if i < 4 then some (r i) else none)))))) :: (r 0, .inl (k 0, 4, .inl (fun _ => 0))) :: (r 1, .inl (k 0, 4, .inl (fun _ => 0))) :: (r 2, .inl (k 0, 4, .inl (fun _ => 0))) :: (r 3, .inl (k 0, 4, .inl (fun _ => 0))) :: (b6, .inl (k 0, 6, .inl (fun _ => 0))) :: (b5, .inl (k 0, 6, .inl (fun _ => 0))) :: (b4, .inl (k 0, 6, .inl (fun _ => 0))) :: (b3, .inl (k 0, 6, .inl (fun _ => 0))) :: (a, .inr (1, [.int 0, .int 0, .ref b3, .ref b4, .ref b5, .ref b6, .ref b7, .ref b12, .ref b13, .ref b14, .ref b15, .null])) :: X) := hw
  refine lv_aload_n hx hb dX1_init_113 rfl (lv_at hl 0 rfl) ?_
  refine lv_bipush (v := nI 8) hx hb dX1_init_114 rfl ?_
  refine x_newi 8 F w_acI hw rfl (by omega) (x_cs F (Nat.le_of_ble_eq_true rfl) (Nat.le_of_ble_eq_true rfl)) dX1_init_116 (fun b16 H hw => ?_)
  refine x_putF 14 rfl (Nat.le_of_ble_eq_true rfl) F hw fo_X1_41 hnm rfl rfl rfl dX1_init_118 (fun H locs hw => ?_)
  have hw : Wd D A s.heap H locs ((b16, .inl (k 0, 8, .inl (fun _ => 0))) :: (b15, .inl (k 0, 8, .inl (fun _ => 0))) :: (b14, .inl (k 0, 2, .inl (upd (upd (fun _ => 0) 0 (nI 10)) 1 (nI 1)))) :: (b13, .inl (k 0, 2, .inl (upd (upd (fun _ => 0) 0 (nI 10)) 1 (nI 1)))) :: (b12, .inl (k 0, 4, .inl (upd (upd (upd (upd (fun _ => 0) 0 (nI 20)) 1 (nI 99)) 2 (nI 10)) 3 (nI 10)))) :: (b7, .inl (k 2, 4, .inr (.inr (.inr (.inr (fun i => if i < 4 then some (r i) else none)))))) :: (r 0, .inl (k 0, 4, .inl (fun _ => 0))) :: (r 1, .inl (k 0, 4, .inl (fun _ => 0))) :: (r 2, .inl (k 0, 4, .inl (fun _ => 0))) :: (r 3, .inl (k 0, 4, .inl (fun _ => 0))) :: (b6, .inl (k 0, 6, .inl (fun _ => 0))) :: (b5, .inl (k 0, 6, .inl (fun _ => 0))) :: (b4, .inl (k 0, 6, .inl (fun _ => 0))) :: (b3, .inl (k 0, 6, .inl (fun _ => 0))) :: (a, .inr (1, [.int 0, .int 0, .ref b3, .ref b4, .ref b5, .ref b6, .ref b7, .ref b12, .ref b13, .ref b14, .ref b15, .ref b16])) :: X) := hw
  have hw : Wd D A s.heap H locs ([(a, .inr (1, [.int 0, .int 0, .ref b3, .ref b4, .ref b5, .ref b6, .ref b7, .ref b12, .ref b13, .ref b14, .ref b15, .ref b16])), (b3, .inl (k 0, 6, .inl (fun _ => 0))), (b4, .inl (k 0, 6, .inl (fun _ => 0))), (b5, .inl (k 0, 6, .inl (fun _ => 0))), (b6, .inl (k 0, 6, .inl (fun _ => 0))), (b7, .inl (k 2, 4, .inr (.inr (.inr (.inr (fun i => if i < 4 then some (r i) else none)))))), (r 0, .inl (k 0, 4, .inl (fun _ => 0))), (r 1, .inl (k 0, 4, .inl (fun _ => 0))), (r 2, .inl (k 0, 4, .inl (fun _ => 0))), (r 3, .inl (k 0, 4, .inl (fun _ => 0))), (b12, .inl (k 0, 4, .inl (upd (upd (upd (upd (fun _ => 0) 0 (nI 20)) 1 (nI 99)) 2 (nI 10)) 3 (nI 10)))), (b13, .inl (k 0, 2, .inl (upd (upd (fun _ => 0) 0 (nI 10)) 1 (nI 1)))), (b14, .inl (k 0, 2, .inl (upd (upd (fun _ => 0) 0 (nI 10)) 1 (nI 1)))), (b15, .inl (k 0, 8, .inl (fun _ => 0))), (b16, .inl (k 0, 8, .inl (fun _ => 0)))] ++ X) := Wd.perm (w := [(b16, .inl (k 0, 8, .inl (fun _ => 0))), (b15, .inl (k 0, 8, .inl (fun _ => 0))), (b14, .inl (k 0, 2, .inl (upd (upd (fun _ => 0) 0 (nI 10)) 1 (nI 1)))), (b13, .inl (k 0, 2, .inl (upd (upd (fun _ => 0) 0 (nI 10)) 1 (nI 1)))), (b12, .inl (k 0, 4, .inl (upd (upd (upd (upd (fun _ => 0) 0 (nI 20)) 1 (nI 99)) 2 (nI 10)) 3 (nI 10)))), (b7, .inl (k 2, 4, .inr (.inr (.inr (.inr (fun i => if i < 4 then some (r i) else none)))))), (r 0, .inl (k 0, 4, .inl (fun _ => 0))), (r 1, .inl (k 0, 4, .inl (fun _ => 0))), (r 2, .inl (k 0, 4, .inl (fun _ => 0))), (r 3, .inl (k 0, 4, .inl (fun _ => 0))), (b6, .inl (k 0, 6, .inl (fun _ => 0))), (b5, .inl (k 0, 6, .inl (fun _ => 0))), (b4, .inl (k 0, 6, .inl (fun _ => 0))), (b3, .inl (k 0, 6, .inl (fun _ => 0))), (a, .inr (1, [.int 0, .int 0, .ref b3, .ref b4, .ref b5, .ref b6, .ref b7, .ref b12, .ref b13, .ref b14, .ref b15, .ref b16]))] ++ X) hw (perm_pick (α := Nat × va_E) (a := [(b16, .inl (k 0, 8, .inl (fun _ => 0))), (b15, .inl (k 0, 8, .inl (fun _ => 0))), (b14, .inl (k 0, 2, .inl (upd (upd (fun _ => 0) 0 (nI 10)) 1 (nI 1)))), (b13, .inl (k 0, 2, .inl (upd (upd (fun _ => 0) 0 (nI 10)) 1 (nI 1)))), (b12, .inl (k 0, 4, .inl (upd (upd (upd (upd (fun _ => 0) 0 (nI 20)) 1 (nI 99)) 2 (nI 10)) 3 (nI 10)))), (b7, .inl (k 2, 4, .inr (.inr (.inr (.inr (fun i => if i < 4 then some (r i) else none)))))), (r 0, .inl (k 0, 4, .inl (fun _ => 0))), (r 1, .inl (k 0, 4, .inl (fun _ => 0))), (r 2, .inl (k 0, 4, .inl (fun _ => 0))), (r 3, .inl (k 0, 4, .inl (fun _ => 0))), (b6, .inl (k 0, 6, .inl (fun _ => 0))), (b5, .inl (k 0, 6, .inl (fun _ => 0))), (b4, .inl (k 0, 6, .inl (fun _ => 0))), (b3, .inl (k 0, 6, .inl (fun _ => 0))), (a, .inr (1, [.int 0, .int 0, .ref b3, .ref b4, .ref b5, .ref b6, .ref b7, .ref b12, .ref b13, .ref b14, .ref b15, .ref b16]))]) (b := [(a, .inr (1, [.int 0, .int 0, .ref b3, .ref b4, .ref b5, .ref b6, .ref b7, .ref b12, .ref b13, .ref b14, .ref b15, .ref b16])), (b3, .inl (k 0, 6, .inl (fun _ => 0))), (b4, .inl (k 0, 6, .inl (fun _ => 0))), (b5, .inl (k 0, 6, .inl (fun _ => 0))), (b6, .inl (k 0, 6, .inl (fun _ => 0))), (b7, .inl (k 2, 4, .inr (.inr (.inr (.inr (fun i => if i < 4 then some (r i) else none)))))), (r 0, .inl (k 0, 4, .inl (fun _ => 0))), (r 1, .inl (k 0, 4, .inl (fun _ => 0))), (r 2, .inl (k 0, 4, .inl (fun _ => 0))), (r 3, .inl (k 0, 4, .inl (fun _ => 0))), (b12, .inl (k 0, 4, .inl (upd (upd (upd (upd (fun _ => 0) 0 (nI 20)) 1 (nI 99)) 2 (nI 10)) 3 (nI 10)))), (b13, .inl (k 0, 2, .inl (upd (upd (fun _ => 0) 0 (nI 10)) 1 (nI 1)))), (b14, .inl (k 0, 2, .inl (upd (upd (fun _ => 0) 0 (nI 10)) 1 (nI 1)))), (b15, .inl (k 0, 8, .inl (fun _ => 0))), (b16, .inl (k 0, 8, .inl (fun _ => 0)))]) [14, 13, 12, 11, 10, 5, 6, 7, 8, 9, 4, 3, 2, 1, 0] (show List.Perm [14, 13, 12, 11, 10, 5, 6, 7, 8, 9, 4, 3, 2, 1, 0] (List.range 15) by decide) rfl)
  have hg : (fun i => if i < 4 then some (r i) else none) = fun i => if i < 4 then some ((fun i => [0, 0, a, b3, b4, b5, b6, b7, r 0, r 1, r 2, r 3, b12, b13, b14, b15, b16].getD i 0) (8 + i)) else none := by funext i; rcases (show i = 0 ∨ i = 1 ∨ i = 2 ∨ i = 3 ∨ 4 ≤ i by omega) with rfl | rfl | rfl | rfl | hi; (· rfl); (· rfl); (· rfl); (· rfl); (· rw [if_neg (by omega), if_neg (by omega)])
  rw [hg] at hw
  have hw : Wd D A s.heap H locs (alb k (fun i => [0, 0, a, b3, b4, b5, b6, b7, r 0, r 1, r 2, r 3, b12, b13, b14, b15, b16].getD i 0) (grd SA0 8 4 (fun a => SA0 (8 + a))) X) := hw
  obtain ⟨q, hq⟩ : ∃ q : Nat → Nat, q = (fun i => [0, 0, a, b3, b4, b5, b6, b7, r 0, r 1, r 2, r 3, b12, b13, b14, b15, b16].getD i 0) := ⟨_, rfl⟩
  rw [← hq] at hw
  have ea : q 2 = a := by rw [hq]; rfl
  rw [← ea] at hl
  refine lv_iconst (v := nI 0) hx hb dX1_init_121 rfl ?_
  refine lv_istore_n (lv' := [(1, .int (nI 0)), (0, .ref (q 2))]) hx hb dX1_init_122 rfl hl (Nat.le_of_ble_eq_true rfl) rfl (fun ls hl => ?_)
  have K123 : ∀ (n123_ : Nat) (i : Nat) (T : Nat → Nat → Int32) (H : Heap) (locs : List Loc) (ls : Array Slot), 4 - i < n123_ → (i ≤ 4) → (T = inW (fun a => SA0 (8 + a)) w10 (4 * i)) → Wd D A s.heap H locs (alb k q (grd SA0 8 4 T) X) → lv_has ls 3 [(0, .ref (q 2)), (1, .int (nI i))] → W p l e R s m args below meth c H locs (0 + 1 + 1 + 1 + 1 + 1 + 4 + 1 + 1 + 1 + 1 + 1) (0 + 6 + 6 + 6 + 6 + 4 + 4 * 4 + 4 + 2 + 2 + 8 + 8) Q (F0 m 123 ls []) := by
    intro n123_
    induction n123_ with
    | zero =>
      intro i T H locs ls hn123_
      exact absurd hn123_ (Nat.not_lt_zero _)
    | succ n123_ ih123_ =>
      intro i T H locs ls hn123_ hi h1 hw hl
      refine lv_iload_n hx hb dX1_init_123 rfl (lv_at hl 1 rfl) ?_
      refine lv_iconst (v := nI 4) hx hb dX1_init_124 rfl ?_
      refine x_icmp_ge i 4 F (by omega) (by omega) (tgt := 166) dX1_init_125 rfl (fun c125 => ?_) (fun c125 => ?_)
      · refine lv_iconst (v := nI 0) hx hb dX1_init_166 rfl ?_
        refine lv_istore_n (lv' := [(1, .int (nI 0)), (0, .ref (q 2))]) hx hb dX1_init_167 rfl hl (Nat.le_of_ble_eq_true rfl) rfl (fun ls hl => ?_)
        have K168 : ∀ (n168_ : Nat) (i2 : Nat) (f15 : Nat → Int32) (f16 : Nat → Int32) (H : Heap) (locs : List Loc) (ls : Array Slot), 8 - i2 < n168_ → (i2 ≤ 8) → (bR f15 i2) → (bR f16 i2) → Wd D A s.heap H locs (alb k q (va_up (va_up (grd SA0 8 4 T) 15 f15) 16 f16) X) → lv_has ls 3 [(0, .ref (q 2)), (1, .int (nI i2))] → W p l e R s m args below meth c H locs (0 + 1 + 1 + 1 + 1 + 1 + 4 + 1 + 1 + 1 + 1 + 1) (0 + 6 + 6 + 6 + 6 + 4 + 4 * 4 + 4 + 2 + 2 + 8 + 8) Q (F0 m 168 ls []) := by
          intro n168_
          induction n168_ with
          | zero =>
            intro i2 f15 f16 H locs ls hn168_
            exact absurd hn168_ (Nat.not_lt_zero _)
          | succ n168_ ih168_ =>
            intro i2 f15 f16 H locs ls hn168_ hi2 h3 h4 hw hl
            refine lv_iload_n hx hb dX1_init_168 rfl (lv_at hl 1 rfl) ?_
            refine lv_bipush (v := nI 8) hx hb dX1_init_169 rfl ?_
            refine x_icmp_ge i2 8 F (by omega) (by omega) (tgt := 198) dX1_init_171 rfl (fun c171 => ?_) (fun c171 => ?_)
            · refine W.widen (k := 14) (n := 68) (by omega) (by omega) ?_
              exact hret _ _ _ _ _ dX1_init_198 hw ⟨q, T, f15, f16, ea, rfl, fun x y hx hy => by rw [h1, show 4 * i = 16 by omega]; exact if_pos ⟨by omega, hy⟩, by rw [show i2 = 8 by omega] at h3; exact h3, by rw [show i2 = 8 by omega] at h4; exact h4⟩
            · refine lv_aload_n hx hb dX1_init_174 rfl (lv_at hl 0 rfl) ?_
              refine x_getr frA_2_10 F hw fo_X1_38 dX1_init_175 ?_
              refine lv_iload_n hx hb dX1_init_178 rfl (lv_at hl 1 rfl) ?_
              refine lv_iconst (v := nI 1) hx hb dX1_init_179 rfl ?_
              refine lv_iload_n hx hb dX1_init_180 rfl (lv_at hl 1 rfl) ?_
              refine lv_ishl hx hb dX1_init_181 ?_
              refine x_iast aiA_15 F hw i2 rfl (by omega) dX1_init_182 (fun H locs hw => ?_)
              refine lv_aload_n hx hb dX1_init_183 rfl (lv_at hl 0 rfl) ?_
              refine x_getr frA_2_11 F hw fo_X1_41 dX1_init_184 ?_
              refine lv_iload_n hx hb dX1_init_187 rfl (lv_at hl 1 rfl) ?_
              refine lv_iconst (v := nI 1) hx hb dX1_init_188 rfl ?_
              refine lv_iload_n hx hb dX1_init_189 rfl (lv_at hl 1 rfl) ?_
              refine lv_ishl hx hb dX1_init_190 ?_
              refine x_iast aiA_16 F hw i2 rfl (by omega) dX1_init_191 (fun H locs hw => ?_)
              refine lv_iinc (v := nI (i2 + 1)) (lv' := [(1, .int (nI (i2 + 1))), (0, .ref (q 2))]) hx hb dX1_init_192 hl (k := 1) rfl (nI_1 _) (Nat.le_of_ble_eq_true rfl) rfl (fun ls hl => ?_)
              refine lv_goto (tgt := 168) hx hb dX1_init_195 rfl ?_
              exact ih168_ (i2 + 1) (upd f15 i2 ((nI 1) <<< ((nI i2) &&& 31))) (upd f16 i2 ((nI 1) <<< ((nI i2) &&& 31))) _ _ _ (by first | omega | (simp only [] at *; omega)) (by first | assumption | omega | rfl) (by exact bR_s h3) (by exact bR_s h4) hw (lv_sub hl [1, 0] rfl)
        exact K168 _ 0 (SA0 15) (SA0 16) _ _ _ (Nat.lt_succ_self _) (by first | assumption | omega | rfl) (by exact fun j hj => absurd hj (Nat.not_lt_zero _)) (by exact fun j hj => absurd hj (Nat.not_lt_zero _)) hw (lv_sub hl [1, 0] rfl)
      · refine lv_iconst (v := nI 0) hx hb dX1_init_128 rfl ?_
        refine lv_istore_n (lv' := [(2, .int (nI 0)), (0, .ref (q 2)), (1, .int (nI i))]) hx hb dX1_init_129 rfl hl (Nat.le_of_ble_eq_true rfl) rfl (fun ls hl => ?_)
        have K130 : ∀ (n130_ : Nat) (j : Nat) (T : Nat → Nat → Int32) (H : Heap) (locs : List Loc) (ls : Array Slot), 4 - j < n130_ → (j ≤ 4) → (T = inW (fun a => SA0 (8 + a)) w10 (4 * i + j)) → Wd D A s.heap H locs (alb k q (grd SA0 8 4 T) X) → lv_has ls 3 [(0, .ref (q 2)), (1, .int (nI i)), (2, .int (nI j))] → W p l e R s m args below meth c H locs (0 + 1 + 1 + 1 + 1 + 1 + 4 + 1 + 1 + 1 + 1 + 1) (0 + 6 + 6 + 6 + 6 + 4 + 4 * 4 + 4 + 2 + 2 + 8 + 8) Q (F0 m 130 ls []) := by
          intro n130_
          induction n130_ with
          | zero =>
            intro j T H locs ls hn130_
            exact absurd hn130_ (Nat.not_lt_zero _)
          | succ n130_ ih130_ =>
            intro j T H locs ls hn130_ hj h2 hw hl
            refine lv_iload_n hx hb dX1_init_130 rfl (lv_at hl 2 rfl) ?_
            refine lv_iconst (v := nI 4) hx hb dX1_init_131 rfl ?_
            refine x_icmp_ge j 4 F (by omega) (by omega) (tgt := 160) dX1_init_132 rfl (fun c132 => ?_) (fun c132 => ?_)
            · refine lv_iinc (v := nI (i + 1)) (lv' := [(1, .int (nI (i + 1))), (0, .ref (q 2)), (2, .int (nI j))]) hx hb dX1_init_160 hl (k := 1) rfl (nI_1 _) (Nat.le_of_ble_eq_true rfl) rfl (fun ls hl => ?_)
              refine lv_goto (tgt := 123) hx hb dX1_init_163 rfl ?_
              exact ih123_ (i + 1) T _ _ _ (by first | omega | (simp only [] at *; omega)) (by first | assumption | omega | rfl) (by rw [h2, show 4 * i + j = 4 * (i + 1) by omega]) hw (lv_sub hl [1, 0] rfl)
            · refine lv_aload_n hx hb dX1_init_135 rfl (lv_at hl 0 rfl) ?_
              refine x_getr frA_2_6 F hw fo_X1_26 dX1_init_136 ?_
              refine lv_iload_n hx hb dX1_init_139 rfl (lv_at hl 1 rfl) ?_
              refine x_grow giA_7 F hw i rfl (by omega) dX1_init_140 ?_
              refine lv_iload_n hx hb dX1_init_141 rfl (lv_at hl 2 rfl) ?_
              refine lv_iload_n hx hb dX1_init_142 rfl (lv_at hl 1 rfl) ?_
              refine lv_iload_n hx hb dX1_init_143 rfl (lv_at hl 2 rfl) ?_
              have K153 : ∀ (x : Int32) (H : Heap) (locs : List Loc) (ls : Array Slot), (x = w10 i j) → Wd D A s.heap H locs (alb k q (grd SA0 8 4 T) X) → lv_has ls 3 [(0, .ref (q 2)), (1, .int (nI i)), (2, .int (nI j))] → W p l e R s m args below meth c H locs (0 + 1 + 1 + 1 + 1 + 1 + 4 + 1 + 1 + 1 + 1 + 1) (0 + 6 + 6 + 6 + 6 + 4 + 4 * 4 + 4 + 2 + 2 + 8 + 8) Q (F0 m 153 ls [.int x, .int (nI j), .ref (q (8 + i))]) := by
                intro x H locs ls h153 hw hl
                refine x_iast (aiA_slip (j := i) (by omega)) F hw j rfl (by omega) dX1_init_153 (fun H locs hw => ?_)
                rw [grd_upd (by omega)] at hw
                refine lv_iinc (v := nI (j + 1)) (lv' := [(2, .int (nI (j + 1))), (0, .ref (q 2)), (1, .int (nI i))]) hx hb dX1_init_154 hl (k := 2) rfl (nI_1 _) (Nat.le_of_ble_eq_true rfl) rfl (fun ls hl => ?_)
                refine lv_goto (tgt := 130) hx hb dX1_init_157 rfl ?_
                exact ih130_ (j + 1) (va_up T i (upd (T i) j x)) _ _ _ (by first | omega | (simp only [] at *; omega)) (by first | assumption | omega | rfl) (by rw [h2]; exact inW_s (by omega) h153) hw (lv_sub hl [1, 2, 0] rfl)
              refine x_icmp_ne i j F (by omega) (by omega) (tgt := 151) dX1_init_144 rfl (fun c144 => ?_) (fun c144 => ?_)
              · refine lv_bipush (v := nI 10) hx hb dX1_init_151 rfl ?_
                exact K153 (nI 10) _ _ _ (by unfold w10; first | exact (if_pos (by omega)).symm | exact (if_neg (by omega)).symm) hw (lv_sub hl [0, 1, 2] rfl)
              · refine lv_iconst (v := nI 0) hx hb dX1_init_147 rfl ?_
                refine lv_goto (tgt := 153) hx hb dX1_init_148 rfl ?_
                exact K153 (nI 0) _ _ _ (by unfold w10; first | exact (if_pos (by omega)).symm | exact (if_neg (by omega)).symm) hw (lv_sub hl [0, 1, 2] rfl)
        exact K130 _ 0 T _ _ _ (Nat.lt_succ_self _) (by first | assumption | omega | rfl) (by exact h1) hw (lv_sub hl [1, 2, 0] rfl)
  exact K123 _ 0 (fun a => SA0 (8 + a)) _ _ _ (Nat.lt_succ_self _) (by first | assumption | omega | rfl) (by exact inW_0.symm) hw (lv_sub hl [1, 0] rfl)
