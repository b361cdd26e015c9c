/-! ===== the reference: images: pure words ===== -/
/-- an image in the row f at b, as far as it is written -/
def IM (S : St) (f0 f : Nat → Int32) (b n6 n4 n8 n50 : Nat) : Prop := (f b = S 0 0 ∧ f (b + 1) = S 8 0) ∧ (∀ j, j < n6 → f (b + 2 + j) = S 1 j ∧ f (b + 8 + j) = S 2 j ∧ f (b + 14 + j) = S 3 j ∧ f (b + 20 + j) = S 4 j) ∧ (∀ j, j < n4 → f (b + 26 + j) = S 5 j ∧ f (b + 30 + j) = S 10 j) ∧ (∀ j, j < n8 → f (b + 34 + j) = S 11 j ∧ f (b + 42 + j) = S 12 j) ∧ (∀ j, j < n50 → f (b + 50 + j) = S 9 j) ∧ ∀ e, (e < b ∨ b + 110 ≤ e) → f e = f0 e
theorem IM.i0 {S : St} {f0 : Nat → Int32} {b : Nat} : IM S f0 (upd (upd f0 b (S 0 0)) (b + 1) (S 8 0)) b 0 0 0 0 := by
  refine ⟨⟨?_, pk_us⟩, fun j hj => absurd hj (Nat.not_lt_zero _), fun j hj => absurd hj (Nat.not_lt_zero _), fun j hj => absurd hj (Nat.not_lt_zero _), fun j hj => absurd hj (Nat.not_lt_zero _), fun e he => ?_⟩
  · rw [pk_un (by omega), pk_us]
  · rw [pk_un (by omega), pk_un (by omega)]
theorem IM.i6 {S : St} {f0 f : Nat → Int32} {b i : Nat} (hi : i < 6) (h : IM S f0 f b i 0 0 0) : IM S f0 (upd (upd (upd (upd f (b + 2 + i) (S 1 i)) (b + 8 + i) (S 2 i)) (b + 14 + i) (S 3 i)) (b + 20 + i) (S 4 i)) b (i + 1) 0 0 0 := by
  obtain ⟨⟨h1, h2⟩, h3, h4, h5, h6, h7⟩ := h
  have key : ∀ e, ¬ e = b + 2 + i → ¬ e = b + 8 + i → ¬ e = b + 14 + i → ¬ e = b + 20 + i → upd (upd (upd (upd f (b + 2 + i) (S 1 i)) (b + 8 + i) (S 2 i)) (b + 14 + i) (S 3 i)) (b + 20 + i) (S 4 i) e = f e := fun e a1 a2 a3 a4 => by rw [pk_un a4, pk_un a3, pk_un a2, pk_un a1]
  refine ⟨⟨by rw [key _ (by omega) (by omega) (by omega) (by omega)]; exact h1, by rw [key _ (by omega) (by omega) (by omega) (by omega)]; exact h2⟩, fun j hj => ?_, fun j hj => absurd hj (Nat.not_lt_zero _), fun j hj => absurd hj (Nat.not_lt_zero _), fun j hj => absurd hj (Nat.not_lt_zero _), fun e he => by rw [key _ (by omega) (by omega) (by omega) (by omega)]; exact h7 e he⟩
  by_cases e : j = i
  · subst e
    exact ⟨by rw [pk_un (by omega), pk_un (by omega), pk_un (by omega), pk_us], by rw [pk_un (by omega), pk_un (by omega), pk_us], by rw [pk_un (by omega), pk_us], pk_us⟩
  · obtain ⟨a1, a2, a3, a4⟩ := h3 j (by omega)
    refine ⟨?_, ?_, ?_, ?_⟩
    · rw [key _ (by omega) (by omega) (by omega) (by omega)]; exact a1
    · rw [key _ (by omega) (by omega) (by omega) (by omega)]; exact a2
    · rw [key _ (by omega) (by omega) (by omega) (by omega)]; exact a3
    · rw [key _ (by omega) (by omega) (by omega) (by omega)]; exact a4
theorem IM.i4 {S : St} {f0 f : Nat → Int32} {b i : Nat} (hi : i < 4) (h : IM S f0 f b 6 i 0 0) : IM S f0 (upd (upd f (b + 26 + i) (S 5 i)) (b + 30 + i) (S 10 i)) b 6 (i + 1) 0 0 := by
  obtain ⟨⟨h1, h2⟩, h3, h4, h5, h6, h7⟩ := h
  have key : ∀ e, ¬ e = b + 26 + i → ¬ e = b + 30 + i → upd (upd f (b + 26 + i) (S 5 i)) (b + 30 + i) (S 10 i) e = f e := fun e a1 a2 => by rw [pk_un a2, pk_un a1]
  refine ⟨⟨by rw [key _ (by omega) (by omega)]; exact h1, by rw [key _ (by omega) (by omega)]; exact h2⟩, fun j hj => ?_, fun j hj => ?_, fun j hj => absurd hj (Nat.not_lt_zero _), fun j hj => absurd hj (Nat.not_lt_zero _), fun e he => by rw [key _ (by omega) (by omega)]; exact h7 e he⟩
  · rw [key _ (by omega) (by omega), key _ (by omega) (by omega), key _ (by omega) (by omega), key _ (by omega) (by omega)]
    exact h3 j hj
  · by_cases e : j = i
    · subst e
      exact ⟨by rw [pk_un (by omega), pk_us], pk_us⟩
    · rw [key _ (by omega) (by omega), key _ (by omega) (by omega)]
      exact h4 j (by omega)
theorem IM.i8 {S : St} {f0 f : Nat → Int32} {b i : Nat} (hi : i < 8) (h : IM S f0 f b 6 4 i 0) : IM S f0 (upd (upd f (b + 34 + i) (S 11 i)) (b + 42 + i) (S 12 i)) b 6 4 (i + 1) 0 := by
  obtain ⟨⟨h1, h2⟩, h3, h4, h5, h6, h7⟩ := h
  have key : ∀ e, ¬ e = b + 34 + i → ¬ e = b + 42 + i → upd (upd f (b + 34 + i) (S 11 i)) (b + 42 + i) (S 12 i) e = f e := fun e a1 a2 => by rw [pk_un a2, pk_un a1]
  refine ⟨⟨by rw [key _ (by omega) (by omega)]; exact h1, by rw [key _ (by omega) (by omega)]; exact h2⟩, fun j hj => ?_, fun j hj => ?_, fun j hj => ?_, fun j hj => absurd hj (Nat.not_lt_zero _), fun e he => by rw [key _ (by omega) (by omega)]; exact h7 e he⟩
  · rw [key _ (by omega) (by omega), key _ (by omega) (by omega), key _ (by omega) (by omega), key _ (by omega) (by omega)]
    exact h3 j hj
  · rw [key _ (by omega) (by omega), key _ (by omega) (by omega)]
    exact h4 j hj
  · by_cases e : j = i
    · subst e
      exact ⟨by rw [pk_un (by omega), pk_us], pk_us⟩
    · rw [key _ (by omega) (by omega), key _ (by omega) (by omega)]
      exact h5 j (by omega)
theorem IM.i50 {S : St} {f0 f : Nat → Int32} {b i : Nat} (hi : i < 50) (h : IM S f0 f b 6 4 8 i) : IM S f0 (upd f (b + 50 + i) (S 9 i)) b 6 4 8 (i + 1) := by
  obtain ⟨⟨h1, h2⟩, h3, h4, h5, h6, h7⟩ := h
  have key : ∀ e, ¬ e = b + 50 + i → upd f (b + 50 + i) (S 9 i) e = f e := fun e a1 => pk_un a1
  refine ⟨⟨by rw [key _ (by omega)]; exact h1, by rw [key _ (by omega)]; exact h2⟩, fun j hj => ?_, fun j hj => ?_, fun j hj => ?_, fun j hj => ?_, fun e he => by rw [key _ (by omega)]; exact h7 e he⟩
  · rw [key _ (by omega), key _ (by omega), key _ (by omega), key _ (by omega)]
    exact h3 j hj
  · rw [key _ (by omega), key _ (by omega)]
    exact h4 j hj
  · rw [key _ (by omega), key _ (by omega)]
    exact h5 j hj
  · by_cases e : j = i
    · subst e
      exact pk_us
    · rw [key _ (by omega)]
      exact h6 j (by omega)
def mImg (S S' : St) (sl : Int32) : Prop := ∃ f, S' = va_up (va_up S 28 f) 29 (upd (S 29) (clN sl) (nI 1)) ∧ IM S (S 28) f (110 * clN sl) 6 4 8 50
theorem upd_cp {f g : Nat → Int32} {i : Nat} (h : ∀ j, j < i → f j = g j) : ∀ j, j < i + 1 → upd f i (g i) j = g j := by
  intro j hj
  by_cases e : j = i
  · subst e; exact pk_us
  · rw [pk_un e]; exact h j (by omega)
def mRes (S S' : St) (b : Nat) : Prop := ∃ f1 f2 f3 f4 f5 f9 f10 f11 f12, S' = va_up (va_up (va_up (va_up (va_up (va_up (va_up (va_up (va_up (va_up (va_up (va_up S 0 (fun _ => S 28 b)) 8 (fun _ => S 28 (b + 1))) 1 f1) 2 f2) 3 f3) 4 f4) 5 f5) 10 f10) 11 f11) 12 f12) 9 f9) 18 (fun _ => nI 0) ∧ (∀ j, j < 6 → f1 j = S 28 (b + 2 + j)) ∧ (∀ j, j < 6 → f2 j = S 28 (b + 8 + j)) ∧ (∀ j, j < 6 → f3 j = S 28 (b + 14 + j)) ∧ (∀ j, j < 6 → f4 j = S 28 (b + 20 + j)) ∧ (∀ j, j < 4 → f5 j = S 28 (b + 26 + j)) ∧ (∀ j, j < 4 → f10 j = S 28 (b + 30 + j)) ∧ (∀ j, j < 8 → f11 j = S 28 (b + 34 + j)) ∧ (∀ j, j < 8 → f12 j = S 28 (b + 42 + j)) ∧ (∀ j, j < 50 → f9 j = S 28 (b + 50 + j))
set_option maxHeartbeats 4000000 in
set_option maxRecDepth 20000 in
theorem c_X7_image (l : Launch) (D : va_G) (k : Nat → ClassId) (q : Nat → Nat) (S : St) (X : va_W) (sl : Int32) : CI l D k yX7_image cX7_image 4 (some .int) 1 0 0 [.ref (q 30), .int sl] (wM k q S X) (fun r w' => ∃ S', w' = wM k q S' X ∧ ((f_in sl (nI 0) (nI 1) = 0 ∧ S' = S ∧ r = (-2)) ∨ (¬ f_in sl (nI 0) (nI 1) = 0 ∧ mImg S S' sl ∧ r = nI 1))) := by
  refine CI.mk (by decide) (Nat.le_of_ble_eq_true rfl) ?_
  intro p e R s m args below meth c A Q ls F hret hw hl
  have hx := xs_hx F
  have hb := xs_hb F
  have hl : lv_has ls 4 [(0, .ref (q 30)), (1, .int sl)] := hl
  refine lv_iload_n hx hb dX7_image_0 rfl (lv_at hl 1 rfl) ?_
  refine lv_iconst (v := nI 0) hx hb dX7_image_1 rfl ?_
  refine lv_iconst (v := nI 1) hx hb dX7_image_2 rfl ?_
  refine x_fSI (rest := []) (c_X7_in l D k (wM k q S X) sl (nI 0) (nI 1)) mo_X7_69 F hw (Nat.le_of_ble_eq_true rfl) (x_cs F (Nat.le_of_ble_eq_true rfl) (Nat.le_of_ble_eq_true rfl)) rfl rfl hl.1 (Nat.le_of_ble_eq_true rfl) dX7_image_3 (fun H locs hw => ?_)
  refine lv_if_ne (tgt := 12) hx hb dX7_image_6 rfl (fun c6 => ?_) (fun c6 => ?_)
  · have hsl := f_in_t (by omega) c6
    refine lv_bipush (v := nI 110) hx hb dX7_image_12 rfl ?_
    refine lv_iload_n hx hb dX7_image_14 rfl (lv_at hl 1 rfl) ?_
    refine x_top (y := nI (clN sl)) hsl.1 ?_
    refine lv_imul hx hb dX7_image_15 ?_
    refine x_top (y := nI (110 * (clN sl))) (pk_mul _ _) ?_
    refine lv_istore_n (lv' := [(2, .int (nI (110 * (clN sl)))), (0, .ref (q 30)), (1, .int sl)]) hx hb dX7_image_16 rfl hl (Nat.le_of_ble_eq_true rfl) rfl (fun ls hl => ?_)
    refine lv_aload_n hx hb dX7_image_17 rfl (lv_at hl 1 rfl) ?_
    refine x_getr frM_28 F hw fo_X7_58 dX7_image_18 ?_
    refine lv_iload_n hx hb dX7_image_21 rfl (lv_at hl 0 rfl) ?_
    refine lv_aload_n hx hb dX7_image_22 rfl (lv_at hl 1 rfl) ?_
    refine x_geti fiM_0 F hw fo_X7_65 dX7_image_23 ?_
    refine x_iast aiM_28 F hw (110 * (clN sl)) rfl (by omega) dX7_image_26 (fun H locs hw => ?_)
    refine lv_aload_n hx hb dX7_image_27 rfl (lv_at hl 1 rfl) ?_
    refine x_getr frM_28 F hw fo_X7_58 dX7_image_28 ?_
    refine lv_iload_n hx hb dX7_image_31 rfl (lv_at hl 0 rfl) ?_
    refine lv_iconst (v := nI 1) hx hb dX7_image_32 rfl ?_
    refine lv_iadd hx hb dX7_image_33 ?_
    refine x_top (y := nI ((110 * (clN sl)) + 1)) (nI_add _ _) ?_
    refine lv_aload_n hx hb dX7_image_34 rfl (lv_at hl 1 rfl) ?_
    refine x_geti fiM_8 F hw fo_X7_95 dX7_image_35 ?_
    refine x_top (y := S 8 0) rfl ?_
    refine x_iast aiM_28 F hw ((110 * (clN sl)) + 1) rfl (by omega) dX7_image_38 (fun H locs hw => ?_)
    refine lv_iconst (v := nI 0) hx hb dX7_image_39 rfl ?_
    refine lv_istore_n (lv' := [(3, .int (nI 0)), (2, .int (nI (110 * (clN sl)))), (0, .ref (q 30)), (1, .int sl)]) hx hb dX7_image_40 rfl hl (Nat.le_of_ble_eq_true rfl) rfl (fun ls hl => ?_)
    have K41 : ∀ (n41_ : Nat) (i : Nat) (f : Nat → Int32) (H : Heap) (locs : List Loc) (ls : Array Slot), 6 - i < n41_ → (i ≤ 6) → (IM S (S 28) f (110 * clN sl) i 0 0 0) → Wd D A s.heap H locs (wM k q (va_up S 28 f) X) → lv_has ls 4 [(0, .ref (q 30)), (1, .int sl), (2, .int (nI (110 * (clN sl)))), (3, .int (nI i))] → W p l e R s m args below meth c H locs 0 0 Q (F0 m 41 ls []) := by
      intro n41_
      induction n41_ with
      | zero =>
        intro i f H locs ls hn41_
        exact absurd hn41_ (Nat.not_lt_zero _)
      | succ n41_ ih41_ =>
        intro i f H locs ls hn41_ hi h1 hw hl
        refine lv_iload_n hx hb dX7_image_41 rfl (lv_at hl 3 rfl) ?_
        refine lv_bipush (v := nI 6) hx hb dX7_image_42 rfl ?_
        refine x_icmp_ge i 6 F (by omega) (by omega) (tgt := 120) dX7_image_44 rfl (fun c44 => ?_) (fun c44 => ?_)
        · refine lv_iconst (v := nI 0) hx hb dX7_image_120 rfl ?_
          refine lv_istore_n (lv' := [(3, .int (nI 0)), (0, .ref (q 30)), (1, .int sl), (2, .int (nI (110 * (clN sl))))]) hx hb dX7_image_121 rfl hl (Nat.le_of_ble_eq_true rfl) rfl (fun ls hl => ?_)
          have K122 : ∀ (n122_ : Nat) (j : Nat) (f : Nat → Int32) (H : Heap) (locs : List Loc) (ls : Array Slot), 4 - j < n122_ → (j ≤ 4) → (IM S (S 28) f (110 * clN sl) 6 j 0 0) → Wd D A s.heap H locs (wM k q (va_up S 28 f) X) → lv_has ls 4 [(0, .ref (q 30)), (1, .int sl), (2, .int (nI (110 * (clN sl)))), (3, .int (nI j))] → W p l e R s m args below meth c H locs 0 0 Q (F0 m 122 ls []) := by
            intro n122_
            induction n122_ with
            | zero =>
              intro j f H locs ls hn122_
              exact absurd hn122_ (Nat.not_lt_zero _)
            | succ n122_ ih122_ =>
              intro j f H locs ls hn122_ hj h2 hw hl
              refine lv_iload_n hx hb dX7_image_122 rfl (lv_at hl 3 rfl) ?_
              refine lv_iconst (v := nI 4) hx hb dX7_image_123 rfl ?_
              refine x_icmp_ge j 4 F (by omega) (by omega) (tgt := 167) dX7_image_124 rfl (fun c124 => ?_) (fun c124 => ?_)
              · refine lv_iconst (v := nI 0) hx hb dX7_image_167 rfl ?_
                refine lv_istore_n (lv' := [(3, .int (nI 0)), (0, .ref (q 30)), (1, .int sl), (2, .int (nI (110 * (clN sl))))]) hx hb dX7_image_168 rfl hl (Nat.le_of_ble_eq_true rfl) rfl (fun ls hl => ?_)
                have K169 : ∀ (n169_ : Nat) (n : Nat) (f : Nat → Int32) (H : Heap) (locs : List Loc) (ls : Array Slot), 8 - n < n169_ → (n ≤ 8) → (IM S (S 28) f (110 * clN sl) 6 4 n 0) → Wd D A s.heap H locs (wM k q (va_up S 28 f) X) → lv_has ls 4 [(0, .ref (q 30)), (1, .int sl), (2, .int (nI (110 * (clN sl)))), (3, .int (nI n))] → W p l e R s m args below meth c H locs 0 0 Q (F0 m 169 ls []) := by
                  intro n169_
                  induction n169_ with
                  | zero =>
                    intro n f H locs ls hn169_
                    exact absurd hn169_ (Nat.not_lt_zero _)
                  | succ n169_ ih169_ =>
                    intro n f H locs ls hn169_ hn h3 hw hl
                    refine lv_iload_n hx hb dX7_image_169 rfl (lv_at hl 3 rfl) ?_
                    refine lv_bipush (v := nI 8) hx hb dX7_image_170 rfl ?_
                    refine x_icmp_ge n 8 F (by omega) (by omega) (tgt := 215) dX7_image_172 rfl (fun c172 => ?_) (fun c172 => ?_)
                    · refine lv_iconst (v := nI 0) hx hb dX7_image_215 rfl ?_
                      refine lv_istore_n (lv' := [(3, .int (nI 0)), (0, .ref (q 30)), (1, .int sl), (2, .int (nI (110 * (clN sl))))]) hx hb dX7_image_216 rfl hl (Nat.le_of_ble_eq_true rfl) rfl (fun ls hl => ?_)
                      have K217 : ∀ (n217_ : Nat) (t : Nat) (f : Nat → Int32) (H : Heap) (locs : List Loc) (ls : Array Slot), 50 - t < n217_ → (t ≤ 50) → (IM S (S 28) f (110 * clN sl) 6 4 8 t) → Wd D A s.heap H locs (wM k q (va_up S 28 f) X) → lv_has ls 4 [(0, .ref (q 30)), (1, .int sl), (2, .int (nI (110 * (clN sl)))), (3, .int (nI t))] → W p l e R s m args below meth c H locs 0 0 Q (F0 m 217 ls []) := by
                        intro n217_
                        induction n217_ with
                        | zero =>
                          intro t f H locs ls hn217_
                          exact absurd hn217_ (Nat.not_lt_zero _)
                        | succ n217_ ih217_ =>
                          intro t f H locs ls hn217_ ht h4 hw hl
                          refine lv_iload_n hx hb dX7_image_217 rfl (lv_at hl 3 rfl) ?_
                          refine lv_bipush (v := nI 50) hx hb dX7_image_218 rfl ?_
                          refine x_icmp_ge t 50 F (by omega) (by omega) (tgt := 246) dX7_image_220 rfl (fun c220 => ?_) (fun c220 => ?_)
                          · refine lv_aload_n hx hb dX7_image_246 rfl (lv_at hl 0 rfl) ?_
                            refine x_getr frM_29 F hw fo_X7_61 dX7_image_247 ?_
                            refine lv_iload_n hx hb dX7_image_250 rfl (lv_at hl 1 rfl) ?_
                            refine x_top (y := nI (clN sl)) hsl.1 ?_
                            refine lv_iconst (v := nI 1) hx hb dX7_image_251 rfl ?_
                            refine x_zast aiM_29 F hw (clN sl) rfl (by omega) rfl dX7_image_252 (fun H locs hw => ?_)
                            refine lv_iconst (v := nI 1) hx hb dX7_image_253 rfl ?_
                            exact hret _ _ _ _ _ _ dX7_image_254 hw rfl ⟨_, rfl, Or.inr ⟨c6, ⟨f, rfl, by rw [show t = 50 by omega] at h4; exact h4⟩, rfl⟩⟩
                          · refine lv_aload_n hx hb dX7_image_223 rfl (lv_at hl 0 rfl) ?_
                            refine x_getr frM_28 F hw fo_X7_58 dX7_image_224 ?_
                            refine lv_iload_n hx hb dX7_image_227 rfl (lv_at hl 2 rfl) ?_
                            refine lv_bipush (v := nI 50) hx hb dX7_image_228 rfl ?_
                            refine lv_iadd hx hb dX7_image_230 ?_
                            refine x_top (y := nI ((110 * (clN sl)) + 50)) (nI_add _ _) ?_
                            refine lv_iload_n hx hb dX7_image_231 rfl (lv_at hl 3 rfl) ?_
                            refine lv_iadd hx hb dX7_image_232 ?_
                            refine x_top (y := nI (((110 * (clN sl)) + 50) + t)) (nI_add _ _) ?_
                            refine lv_aload_n hx hb dX7_image_233 rfl (lv_at hl 0 rfl) ?_
                            refine x_getr frM_9 F hw fo_X7_28 dX7_image_234 ?_
                            refine lv_iload_n hx hb dX7_image_237 rfl (lv_at hl 3 rfl) ?_
                            refine x_iald aiM_9 F hw t rfl (by omega) dX7_image_238 ?_
                            refine x_top (y := S 9 t) rfl ?_
                            refine x_iast aiM_28 F hw (((110 * (clN sl)) + 50) + t) rfl (by omega) dX7_image_239 (fun H locs hw => ?_)
                            refine lv_iinc (v := nI (t + 1)) (lv' := [(3, .int (nI (t + 1))), (0, .ref (q 30)), (1, .int sl), (2, .int (nI (110 * (clN sl))))]) hx hb dX7_image_240 hl (k := 3) rfl (nI_1 _) (Nat.le_of_ble_eq_true rfl) rfl (fun ls hl => ?_)
                            refine lv_goto (tgt := 217) hx hb dX7_image_243 rfl ?_
                            exact ih217_ (t + 1) (upd f (((110 * (clN sl)) + 50) + t) (S 9 t)) _ _ _ (by first | omega | (simp only [] at *; omega)) (by first | assumption | omega | rfl) (by exact IM.i50 (by omega) h4) hw (lv_sub hl [1, 2, 3, 0] rfl)
                      exact K217 _ 0 f _ _ _ (Nat.lt_succ_self _) (by first | assumption | omega | rfl) (by rw [show n = 8 by omega] at h3; exact h3) hw (lv_sub hl [1, 2, 3, 0] rfl)
                    · refine lv_aload_n hx hb dX7_image_175 rfl (lv_at hl 0 rfl) ?_
                      refine x_getr frM_28 F hw fo_X7_58 dX7_image_176 ?_
                      refine lv_iload_n hx hb dX7_image_179 rfl (lv_at hl 2 rfl) ?_
                      refine lv_bipush (v := nI 34) hx hb dX7_image_180 rfl ?_
                      refine lv_iadd hx hb dX7_image_182 ?_
                      refine x_top (y := nI ((110 * (clN sl)) + 34)) (nI_add _ _) ?_
                      refine lv_iload_n hx hb dX7_image_183 rfl (lv_at hl 3 rfl) ?_
                      refine lv_iadd hx hb dX7_image_184 ?_
                      refine x_top (y := nI (((110 * (clN sl)) + 34) + n)) (nI_add _ _) ?_
                      refine lv_aload_n hx hb dX7_image_185 rfl (lv_at hl 0 rfl) ?_
                      refine x_getr frM_11 F hw fo_X7_34 dX7_image_186 ?_
                      refine lv_iload_n hx hb dX7_image_189 rfl (lv_at hl 3 rfl) ?_
                      refine x_iald aiM_11 F hw n rfl (by omega) dX7_image_190 ?_
                      refine x_top (y := S 11 n) rfl ?_
                      refine x_iast aiM_28 F hw (((110 * (clN sl)) + 34) + n) rfl (by omega) dX7_image_191 (fun H locs hw => ?_)
                      refine lv_aload_n hx hb dX7_image_192 rfl (lv_at hl 0 rfl) ?_
                      refine x_getr frM_28 F hw fo_X7_58 dX7_image_193 ?_
                      refine lv_iload_n hx hb dX7_image_196 rfl (lv_at hl 2 rfl) ?_
                      refine lv_bipush (v := nI 42) hx hb dX7_image_197 rfl ?_
                      refine lv_iadd hx hb dX7_image_199 ?_
                      refine x_top (y := nI ((110 * (clN sl)) + 42)) (nI_add _ _) ?_
                      refine lv_iload_n hx hb dX7_image_200 rfl (lv_at hl 3 rfl) ?_
                      refine lv_iadd hx hb dX7_image_201 ?_
                      refine x_top (y := nI (((110 * (clN sl)) + 42) + n)) (nI_add _ _) ?_
                      refine lv_aload_n hx hb dX7_image_202 rfl (lv_at hl 0 rfl) ?_
                      refine x_getr frM_12 F hw fo_X7_37 dX7_image_203 ?_
                      refine lv_iload_n hx hb dX7_image_206 rfl (lv_at hl 3 rfl) ?_
                      refine x_iald aiM_12 F hw n rfl (by omega) dX7_image_207 ?_
                      refine x_top (y := S 12 n) rfl ?_
                      refine x_iast aiM_28 F hw (((110 * (clN sl)) + 42) + n) rfl (by omega) dX7_image_208 (fun H locs hw => ?_)
                      refine lv_iinc (v := nI (n + 1)) (lv' := [(3, .int (nI (n + 1))), (0, .ref (q 30)), (1, .int sl), (2, .int (nI (110 * (clN sl))))]) hx hb dX7_image_209 hl (k := 3) rfl (nI_1 _) (Nat.le_of_ble_eq_true rfl) rfl (fun ls hl => ?_)
                      refine lv_goto (tgt := 169) hx hb dX7_image_212 rfl ?_
                      exact ih169_ (n + 1) (upd (upd f (((110 * (clN sl)) + 34) + n) (S 11 n)) (((110 * (clN sl)) + 42) + n) (S 12 n)) _ _ _ (by first | omega | (simp only [] at *; omega)) (by first | assumption | omega | rfl) (by exact IM.i8 (by omega) h3) hw (lv_sub hl [1, 2, 3, 0] rfl)
                exact K169 _ 0 f _ _ _ (Nat.lt_succ_self _) (by first | assumption | omega | rfl) (by rw [show j = 4 by omega] at h2; exact h2) hw (lv_sub hl [1, 2, 3, 0] rfl)
              · refine lv_aload_n hx hb dX7_image_127 rfl (lv_at hl 0 rfl) ?_
                refine x_getr frM_28 F hw fo_X7_58 dX7_image_128 ?_
                refine lv_iload_n hx hb dX7_image_131 rfl (lv_at hl 2 rfl) ?_
                refine lv_bipush (v := nI 26) hx hb dX7_image_132 rfl ?_
                refine lv_iadd hx hb dX7_image_134 ?_
                refine x_top (y := nI ((110 * (clN sl)) + 26)) (nI_add _ _) ?_
                refine lv_iload_n hx hb dX7_image_135 rfl (lv_at hl 3 rfl) ?_
                refine lv_iadd hx hb dX7_image_136 ?_
                refine x_top (y := nI (((110 * (clN sl)) + 26) + j)) (nI_add _ _) ?_
                refine lv_aload_n hx hb dX7_image_137 rfl (lv_at hl 0 rfl) ?_
                refine x_getr frM_5 F hw fo_X7_22 dX7_image_138 ?_
                refine lv_iload_n hx hb dX7_image_141 rfl (lv_at hl 3 rfl) ?_
                refine x_iald aiM_5 F hw j rfl (by omega) dX7_image_142 ?_
                refine x_top (y := S 5 j) rfl ?_
                refine x_iast aiM_28 F hw (((110 * (clN sl)) + 26) + j) rfl (by omega) dX7_image_143 (fun H locs hw => ?_)
                refine lv_aload_n hx hb dX7_image_144 rfl (lv_at hl 0 rfl) ?_
                refine x_getr frM_28 F hw fo_X7_58 dX7_image_145 ?_
                refine lv_iload_n hx hb dX7_image_148 rfl (lv_at hl 2 rfl) ?_
                refine lv_bipush (v := nI 30) hx hb dX7_image_149 rfl ?_
                refine lv_iadd hx hb dX7_image_151 ?_
                refine x_top (y := nI ((110 * (clN sl)) + 30)) (nI_add _ _) ?_
                refine lv_iload_n hx hb dX7_image_152 rfl (lv_at hl 3 rfl) ?_
                refine lv_iadd hx hb dX7_image_153 ?_
                refine x_top (y := nI (((110 * (clN sl)) + 30) + j)) (nI_add _ _) ?_
                refine lv_aload_n hx hb dX7_image_154 rfl (lv_at hl 0 rfl) ?_
                refine x_getr frM_10 F hw fo_X7_31 dX7_image_155 ?_
                refine lv_iload_n hx hb dX7_image_158 rfl (lv_at hl 3 rfl) ?_
                refine x_iald aiM_10 F hw j rfl (by omega) dX7_image_159 ?_
                refine x_top (y := S 10 j) rfl ?_
                refine x_iast aiM_28 F hw (((110 * (clN sl)) + 30) + j) rfl (by omega) dX7_image_160 (fun H locs hw => ?_)
                refine lv_iinc (v := nI (j + 1)) (lv' := [(3, .int (nI (j + 1))), (0, .ref (q 30)), (1, .int sl), (2, .int (nI (110 * (clN sl))))]) hx hb dX7_image_161 hl (k := 3) rfl (nI_1 _) (Nat.le_of_ble_eq_true rfl) rfl (fun ls hl => ?_)
                refine lv_goto (tgt := 122) hx hb dX7_image_164 rfl ?_
                exact ih122_ (j + 1) (upd (upd f (((110 * (clN sl)) + 26) + j) (S 5 j)) (((110 * (clN sl)) + 30) + j) (S 10 j)) _ _ _ (by first | omega | (simp only [] at *; omega)) (by first | assumption | omega | rfl) (by exact IM.i4 (by omega) h2) hw (lv_sub hl [1, 2, 3, 0] rfl)
          exact K122 _ 0 f _ _ _ (Nat.lt_succ_self _) (by first | assumption | omega | rfl) (by rw [show i = 6 by omega] at h1; exact h1) hw (lv_sub hl [1, 2, 3, 0] rfl)
        · refine lv_aload_n hx hb dX7_image_47 rfl (lv_at hl 0 rfl) ?_
          refine x_getr frM_28 F hw fo_X7_58 dX7_image_48 ?_
          refine lv_iload_n hx hb dX7_image_51 rfl (lv_at hl 2 rfl) ?_
          refine lv_iconst (v := nI 2) hx hb dX7_image_52 rfl ?_
          refine lv_iadd hx hb dX7_image_53 ?_
          refine x_top (y := nI ((110 * (clN sl)) + 2)) (nI_add _ _) ?_
          refine lv_iload_n hx hb dX7_image_54 rfl (lv_at hl 3 rfl) ?_
          refine lv_iadd hx hb dX7_image_55 ?_
          refine x_top (y := nI (((110 * (clN sl)) + 2) + i)) (nI_add _ _) ?_
          refine lv_aload_n hx hb dX7_image_56 rfl (lv_at hl 0 rfl) ?_
          refine x_getr frM_1 F hw fo_X7_7 dX7_image_57 ?_
          refine lv_iload_n hx hb dX7_image_60 rfl (lv_at hl 3 rfl) ?_
          refine x_iald aiM_1 F hw i rfl (by omega) dX7_image_61 ?_
          refine x_top (y := S 1 i) rfl ?_
          refine x_iast aiM_28 F hw (((110 * (clN sl)) + 2) + i) rfl (by omega) dX7_image_62 (fun H locs hw => ?_)
          refine lv_aload_n hx hb dX7_image_63 rfl (lv_at hl 0 rfl) ?_
          refine x_getr frM_28 F hw fo_X7_58 dX7_image_64 ?_
          refine lv_iload_n hx hb dX7_image_67 rfl (lv_at hl 2 rfl) ?_
          refine lv_bipush (v := nI 8) hx hb dX7_image_68 rfl ?_
          refine lv_iadd hx hb dX7_image_70 ?_
          refine x_top (y := nI ((110 * (clN sl)) + 8)) (nI_add _ _) ?_
          refine lv_iload_n hx hb dX7_image_71 rfl (lv_at hl 3 rfl) ?_
          refine lv_iadd hx hb dX7_image_72 ?_
          refine x_top (y := nI (((110 * (clN sl)) + 8) + i)) (nI_add _ _) ?_
          refine lv_aload_n hx hb dX7_image_73 rfl (lv_at hl 0 rfl) ?_
          refine x_getr frM_2 F hw fo_X7_13 dX7_image_74 ?_
          refine lv_iload_n hx hb dX7_image_77 rfl (lv_at hl 3 rfl) ?_
          refine x_iald aiM_2 F hw i rfl (by omega) dX7_image_78 ?_
          refine x_top (y := S 2 i) rfl ?_
          refine x_iast aiM_28 F hw (((110 * (clN sl)) + 8) + i) rfl (by omega) dX7_image_79 (fun H locs hw => ?_)
          refine lv_aload_n hx hb dX7_image_80 rfl (lv_at hl 0 rfl) ?_
          refine x_getr frM_28 F hw fo_X7_58 dX7_image_81 ?_
          refine lv_iload_n hx hb dX7_image_84 rfl (lv_at hl 2 rfl) ?_
          refine lv_bipush (v := nI 14) hx hb dX7_image_85 rfl ?_
          refine lv_iadd hx hb dX7_image_87 ?_
          refine x_top (y := nI ((110 * (clN sl)) + 14)) (nI_add _ _) ?_
          refine lv_iload_n hx hb dX7_image_88 rfl (lv_at hl 3 rfl) ?_
          refine lv_iadd hx hb dX7_image_89 ?_
          refine x_top (y := nI (((110 * (clN sl)) + 14) + i)) (nI_add _ _) ?_
          refine lv_aload_n hx hb dX7_image_90 rfl (lv_at hl 0 rfl) ?_
          refine x_getr frM_3 F hw fo_X7_16 dX7_image_91 ?_
          refine lv_iload_n hx hb dX7_image_94 rfl (lv_at hl 3 rfl) ?_
          refine x_iald aiM_3 F hw i rfl (by omega) dX7_image_95 ?_
          refine x_top (y := S 3 i) rfl ?_
          refine x_iast aiM_28 F hw (((110 * (clN sl)) + 14) + i) rfl (by omega) dX7_image_96 (fun H locs hw => ?_)
          refine lv_aload_n hx hb dX7_image_97 rfl (lv_at hl 0 rfl) ?_
          refine x_getr frM_28 F hw fo_X7_58 dX7_image_98 ?_
          refine lv_iload_n hx hb dX7_image_101 rfl (lv_at hl 2 rfl) ?_
          refine lv_bipush (v := nI 20) hx hb dX7_image_102 rfl ?_
          refine lv_iadd hx hb dX7_image_104 ?_
          refine x_top (y := nI ((110 * (clN sl)) + 20)) (nI_add _ _) ?_
          refine lv_iload_n hx hb dX7_image_105 rfl (lv_at hl 3 rfl) ?_
          refine lv_iadd hx hb dX7_image_106 ?_
          refine x_top (y := nI (((110 * (clN sl)) + 20) + i)) (nI_add _ _) ?_
          refine lv_aload_n hx hb dX7_image_107 rfl (lv_at hl 0 rfl) ?_
          refine x_getr frM_4 F hw fo_X7_19 dX7_image_108 ?_
          refine lv_iload_n hx hb dX7_image_111 rfl (lv_at hl 3 rfl) ?_
          refine x_iald aiM_4 F hw i rfl (by omega) dX7_image_112 ?_
          refine x_top (y := S 4 i) rfl ?_
          refine x_iast aiM_28 F hw (((110 * (clN sl)) + 20) + i) rfl (by omega) dX7_image_113 (fun H locs hw => ?_)
          refine lv_iinc (v := nI (i + 1)) (lv' := [(3, .int (nI (i + 1))), (0, .ref (q 30)), (1, .int sl), (2, .int (nI (110 * (clN sl))))]) hx hb dX7_image_114 hl (k := 3) rfl (nI_1 _) (Nat.le_of_ble_eq_true rfl) rfl (fun ls hl => ?_)
          refine lv_goto (tgt := 41) hx hb dX7_image_117 rfl ?_
          exact ih41_ (i + 1) (upd (upd (upd (upd f (((110 * (clN sl)) + 2) + i) (S 1 i)) (((110 * (clN sl)) + 8) + i) (S 2 i)) (((110 * (clN sl)) + 14) + i) (S 3 i)) (((110 * (clN sl)) + 20) + i) (S 4 i)) _ _ _ (by first | omega | (simp only [] at *; omega)) (by first | assumption | omega | rfl) (by exact IM.i6 (by omega) h1) hw (lv_sub hl [1, 2, 3, 0] rfl)
    exact K41 _ 0 (upd (upd (S 28) (110 * (clN sl)) (S 0 0)) ((110 * (clN sl)) + 1) (S 8 0)) _ _ _ (Nat.lt_succ_self _) (by first | assumption | omega | rfl) (by exact IM.i0) hw (lv_sub hl [2, 3, 1, 0] rfl)
  · refine lv_bipush (v := (-2)) hx hb dX7_image_9 rfl ?_
    exact hret _ _ _ _ _ _ dX7_image_11 hw rfl ⟨S, rfl, Or.inl ⟨c6, rfl, rfl⟩⟩
set_option maxHeartbeats 4000000 in
set_option maxRecDepth 20000 in
theorem c_X7_restore (l : Launch) (D : va_G) (k : Nat → ClassId) (q : Nat → Nat) (S : St) (X : va_W) (sl : Int32) : CI l D k yX7_restore cX7_restore 4 (some .int) 1 0 0 [.ref (q 30), .int sl] (wM k q S X) (fun r w' => ∃ S', w' = wM k q S' X ∧ ((f_in sl (nI 0) (nI 1) = 0 ∧ S' = S ∧ r = (-2)) ∨ (¬ f_in sl (nI 0) (nI 1) = 0 ∧ S 29 (clN sl) = 0 ∧ S' = S ∧ r = (-3)) ∨ (¬ f_in sl (nI 0) (nI 1) = 0 ∧ ¬ S 29 (clN sl) = 0 ∧ mRes S S' (110 * clN sl) ∧ r = nI 1))) := by
  refine CI.mk (by decide) (Nat.le_of_ble_eq_true rfl) ?_
  intro p e R s m args below meth c A Q ls F hret hw hl
  have hx := xs_hx F
  have hb := xs_hb F
  have hl : lv_has ls 4 [(0, .ref (q 30)), (1, .int sl)] := hl
  refine lv_iload_n hx hb dX7_restore_0 rfl (lv_at hl 1 rfl) ?_
  refine lv_iconst (v := nI 0) hx hb dX7_restore_1 rfl ?_
  refine lv_iconst (v := nI 1) hx hb dX7_restore_2 rfl ?_
  refine x_fSI (rest := []) (c_X7_in l D k (wM k q S X) sl (nI 0) (nI 1)) mo_X7_69 F hw (Nat.le_of_ble_eq_true rfl) (x_cs F (Nat.le_of_ble_eq_true rfl) (Nat.le_of_ble_eq_true rfl)) rfl rfl hl.1 (Nat.le_of_ble_eq_true rfl) dX7_restore_3 (fun H locs hw => ?_)
  refine lv_if_ne (tgt := 12) hx hb dX7_restore_6 rfl (fun c6 => ?_) (fun c6 => ?_)
  · have hsl := f_in_t (by omega) c6
    refine lv_aload_n hx hb dX7_restore_12 rfl (lv_at hl 0 rfl) ?_
    refine x_getr frM_29 F hw fo_X7_61 dX7_restore_13 ?_
    refine lv_iload_n hx hb dX7_restore_16 rfl (lv_at hl 1 rfl) ?_
    refine x_top (y := nI (clN sl)) hsl.1 ?_
    refine x_zald aiM_29 F hw (clN sl) rfl (by omega) dX7_restore_17 ?_
    refine lv_if_ne (tgt := 24) hx hb dX7_restore_18 rfl (fun c18 => ?_) (fun c18 => ?_)
    · refine lv_bipush (v := nI 110) hx hb dX7_restore_24 rfl ?_
      refine lv_iload_n hx hb dX7_restore_26 rfl (lv_at hl 1 rfl) ?_
      refine x_top (y := nI (clN sl)) hsl.1 ?_
      refine lv_imul hx hb dX7_restore_27 ?_
      refine x_top (y := nI (110 * (clN sl))) (pk_mul _ _) ?_
      refine lv_istore_n (lv' := [(2, .int (nI (110 * (clN sl)))), (0, .ref (q 30)), (1, .int sl)]) hx hb dX7_restore_28 rfl hl (Nat.le_of_ble_eq_true rfl) rfl (fun ls hl => ?_)
      refine lv_aload_n hx hb dX7_restore_29 rfl (lv_at hl 1 rfl) ?_
      refine lv_aload_n hx hb dX7_restore_30 rfl (lv_at hl 1 rfl) ?_
      refine x_getr frM_28 F hw fo_X7_58 dX7_restore_31 ?_
      refine lv_iload_n hx hb dX7_restore_34 rfl (lv_at hl 0 rfl) ?_
      refine x_iald aiM_28 F hw (110 * (clN sl)) rfl (by omega) dX7_restore_35 ?_
      refine x_puti fiM_0 F hw fo_X7_65 rfl rfl dX7_restore_36 (fun H locs hw => ?_)
      refine lv_aload_n hx hb dX7_restore_39 rfl (lv_at hl 1 rfl) ?_
      refine lv_aload_n hx hb dX7_restore_40 rfl (lv_at hl 1 rfl) ?_
      refine x_getr frM_28 F hw fo_X7_58 dX7_restore_41 ?_
      refine lv_iload_n hx hb dX7_restore_44 rfl (lv_at hl 0 rfl) ?_
      refine lv_iconst (v := nI 1) hx hb dX7_restore_45 rfl ?_
      refine lv_iadd hx hb dX7_restore_46 ?_
      refine x_top (y := nI ((110 * (clN sl)) + 1)) (nI_add _ _) ?_
      refine x_iald aiM_28 F hw ((110 * (clN sl)) + 1) rfl (by omega) dX7_restore_47 ?_
      refine x_top (y := S 28 ((110 * (clN sl)) + 1)) rfl ?_
      refine x_puti fiM_8 F hw fo_X7_95 rfl rfl dX7_restore_48 (fun H locs hw => ?_)
      refine lv_iconst (v := nI 0) hx hb dX7_restore_51 rfl ?_
      refine lv_istore_n (lv' := [(3, .int (nI 0)), (2, .int (nI (110 * (clN sl)))), (0, .ref (q 30)), (1, .int sl)]) hx hb dX7_restore_52 rfl hl (Nat.le_of_ble_eq_true rfl) rfl (fun ls hl => ?_)
      have K53 : ∀ (n53_ : Nat) (i : Nat) (f1 : Nat → Int32) (f2 : Nat → Int32) (f3 : Nat → Int32) (f4 : Nat → Int32) (H : Heap) (locs : List Loc) (ls : Array Slot), 6 - i < n53_ → (i ≤ 6) → (∀ j, j < i → f1 j = S 28 ((110 * clN sl) + 2 + j)) → (∀ j, j < i → f2 j = S 28 ((110 * clN sl) + 8 + j)) → (∀ j, j < i → f3 j = S 28 ((110 * clN sl) + 14 + j)) → (∀ j, j < i → f4 j = S 28 ((110 * clN sl) + 20 + j)) → Wd D A s.heap H locs (wM k q (va_up (va_up (va_up (va_up (va_up (va_up S 0 (fun _ => S 28 (110 * clN sl))) 8 (fun _ => S 28 ((110 * clN sl) + 1))) 1 f1) 2 f2) 3 f3) 4 f4) X) → lv_has ls 4 [(0, .ref (q 30)), (1, .int sl), (2, .int (nI (110 * (clN sl)))), (3, .int (nI i))] → W p l e R s m args below meth c H locs 0 0 Q (F0 m 53 ls []) := by
        intro n53_
        induction n53_ with
        | zero =>
          intro i f1 f2 f3 f4 H locs ls hn53_
          exact absurd hn53_ (Nat.not_lt_zero _)
        | succ n53_ ih53_ =>
          intro i f1 f2 f3 f4 H locs ls hn53_ hi a1 a2 a3 a4 hw hl
          refine lv_iload_n hx hb dX7_restore_53 rfl (lv_at hl 3 rfl) ?_
          refine lv_bipush (v := nI 6) hx hb dX7_restore_54 rfl ?_
          refine x_icmp_ge i 6 F (by omega) (by omega) (tgt := 132) dX7_restore_56 rfl (fun c56 => ?_) (fun c56 => ?_)
          · refine lv_iconst (v := nI 0) hx hb dX7_restore_132 rfl ?_
            refine lv_istore_n (lv' := [(3, .int (nI 0)), (0, .ref (q 30)), (1, .int sl), (2, .int (nI (110 * (clN sl))))]) hx hb dX7_restore_133 rfl hl (Nat.le_of_ble_eq_true rfl) rfl (fun ls hl => ?_)
            have K134 : ∀ (n134_ : Nat) (i2 : Nat) (f5 : Nat → Int32) (f10 : Nat → Int32) (H : Heap) (locs : List Loc) (ls : Array Slot), 4 - i2 < n134_ → (i2 ≤ 4) → (∀ j, j < i2 → f5 j = S 28 ((110 * clN sl) + 26 + j)) → (∀ j, j < i2 → f10 j = S 28 ((110 * clN sl) + 30 + j)) → Wd D A s.heap H locs (wM k q (va_up (va_up (va_up (va_up (va_up (va_up (va_up (va_up S 0 (fun _ => S 28 (110 * clN sl))) 8 (fun _ => S 28 ((110 * clN sl) + 1))) 1 f1) 2 f2) 3 f3) 4 f4) 5 f5) 10 f10) X) → lv_has ls 4 [(0, .ref (q 30)), (1, .int sl), (2, .int (nI (110 * (clN sl)))), (3, .int (nI i2))] → W p l e R s m args below meth c H locs 0 0 Q (F0 m 134 ls []) := by
              intro n134_
              induction n134_ with
              | zero =>
                intro i2 f5 f10 H locs ls hn134_
                exact absurd hn134_ (Nat.not_lt_zero _)
              | succ n134_ ih134_ =>
                intro i2 f5 f10 H locs ls hn134_ hi2 a5 a10 hw hl
                refine lv_iload_n hx hb dX7_restore_134 rfl (lv_at hl 3 rfl) ?_
                refine lv_iconst (v := nI 4) hx hb dX7_restore_135 rfl ?_
                refine x_icmp_ge i2 4 F (by omega) (by omega) (tgt := 179) dX7_restore_136 rfl (fun c136 => ?_) (fun c136 => ?_)
                · refine lv_iconst (v := nI 0) hx hb dX7_restore_179 rfl ?_
                  refine lv_istore_n (lv' := [(3, .int (nI 0)), (0, .ref (q 30)), (1, .int sl), (2, .int (nI (110 * (clN sl))))]) hx hb dX7_restore_180 rfl hl (Nat.le_of_ble_eq_true rfl) rfl (fun ls hl => ?_)
                  have K181 : ∀ (n181_ : Nat) (i3 : Nat) (f11 : Nat → Int32) (f12 : Nat → Int32) (H : Heap) (locs : List Loc) (ls : Array Slot), 8 - i3 < n181_ → (i3 ≤ 8) → (∀ j, j < i3 → f11 j = S 28 ((110 * clN sl) + 34 + j)) → (∀ j, j < i3 → f12 j = S 28 ((110 * clN sl) + 42 + j)) → Wd D A s.heap H locs (wM k q (va_up (va_up (va_up (va_up (va_up (va_up (va_up (va_up (va_up (va_up S 0 (fun _ => S 28 (110 * clN sl))) 8 (fun _ => S 28 ((110 * clN sl) + 1))) 1 f1) 2 f2) 3 f3) 4 f4) 5 f5) 10 f10) 11 f11) 12 f12) X) → lv_has ls 4 [(0, .ref (q 30)), (1, .int sl), (2, .int (nI (110 * (clN sl)))), (3, .int (nI i3))] → W p l e R s m args below meth c H locs 0 0 Q (F0 m 181 ls []) := by
                    intro n181_
                    induction n181_ with
                    | zero =>
                      intro i3 f11 f12 H locs ls hn181_
                      exact absurd hn181_ (Nat.not_lt_zero _)
                    | succ n181_ ih181_ =>
                      intro i3 f11 f12 H locs ls hn181_ hi3 a11 a12 hw hl
                      refine lv_iload_n hx hb dX7_restore_181 rfl (lv_at hl 3 rfl) ?_
                      refine lv_bipush (v := nI 8) hx hb dX7_restore_182 rfl ?_
                      refine x_icmp_ge i3 8 F (by omega) (by omega) (tgt := 227) dX7_restore_184 rfl (fun c184 => ?_) (fun c184 => ?_)
                      · refine lv_iconst (v := nI 0) hx hb dX7_restore_227 rfl ?_
                        refine lv_istore_n (lv' := [(3, .int (nI 0)), (0, .ref (q 30)), (1, .int sl), (2, .int (nI (110 * (clN sl))))]) hx hb dX7_restore_228 rfl hl (Nat.le_of_ble_eq_true rfl) rfl (fun ls hl => ?_)
                        have K229 : ∀ (n229_ : Nat) (i4 : Nat) (f9 : Nat → Int32) (H : Heap) (locs : List Loc) (ls : Array Slot), 50 - i4 < n229_ → (i4 ≤ 50) → (∀ j, j < i4 → f9 j = S 28 ((110 * clN sl) + 50 + j)) → Wd D A s.heap H locs (wM k q (va_up (va_up (va_up (va_up (va_up (va_up (va_up (va_up (va_up (va_up (va_up S 0 (fun _ => S 28 (110 * clN sl))) 8 (fun _ => S 28 ((110 * clN sl) + 1))) 1 f1) 2 f2) 3 f3) 4 f4) 5 f5) 10 f10) 11 f11) 12 f12) 9 f9) X) → lv_has ls 4 [(0, .ref (q 30)), (1, .int sl), (2, .int (nI (110 * (clN sl)))), (3, .int (nI i4))] → W p l e R s m args below meth c H locs 0 0 Q (F0 m 229 ls []) := by
                          intro n229_
                          induction n229_ with
                          | zero =>
                            intro i4 f9 H locs ls hn229_
                            exact absurd hn229_ (Nat.not_lt_zero _)
                          | succ n229_ ih229_ =>
                            intro i4 f9 H locs ls hn229_ hi4 a9 hw hl
                            refine lv_iload_n hx hb dX7_restore_229 rfl (lv_at hl 3 rfl) ?_
                            refine lv_bipush (v := nI 50) hx hb dX7_restore_230 rfl ?_
                            refine x_icmp_ge i4 50 F (by omega) (by omega) (tgt := 258) dX7_restore_232 rfl (fun c232 => ?_) (fun c232 => ?_)
                            · refine lv_aload_n hx hb dX7_restore_258 rfl (lv_at hl 0 rfl) ?_
                              refine lv_iconst (v := nI 0) hx hb dX7_restore_259 rfl ?_
                              refine x_puti fiM_18 F hw fo_X7_81 rfl rfl dX7_restore_260 (fun H locs hw => ?_)
                              refine lv_iconst (v := nI 1) hx hb dX7_restore_263 rfl ?_
                              exact hret _ _ _ _ _ _ dX7_restore_264 hw rfl ⟨_, rfl, Or.inr (Or.inr ⟨c6, c18, ⟨f1, f2, f3, f4, f5, f9, f10, f11, f12, rfl, fun j hj => a1 j (by omega), fun j hj => a2 j (by omega), fun j hj => a3 j (by omega), fun j hj => a4 j (by omega), fun j hj => a5 j (by omega), fun j hj => a10 j (by omega), fun j hj => a11 j (by omega), fun j hj => a12 j (by omega), fun j hj => a9 j (by omega)⟩, rfl⟩)⟩
                            · refine lv_aload_n hx hb dX7_restore_235 rfl (lv_at hl 0 rfl) ?_
                              refine x_getr frM_9 F hw fo_X7_28 dX7_restore_236 ?_
                              refine lv_iload_n hx hb dX7_restore_239 rfl (lv_at hl 3 rfl) ?_
                              refine lv_aload_n hx hb dX7_restore_240 rfl (lv_at hl 0 rfl) ?_
                              refine x_getr frM_28 F hw fo_X7_58 dX7_restore_241 ?_
                              refine lv_iload_n hx hb dX7_restore_244 rfl (lv_at hl 2 rfl) ?_
                              refine lv_bipush (v := nI 50) hx hb dX7_restore_245 rfl ?_
                              refine lv_iadd hx hb dX7_restore_247 ?_
                              refine x_top (y := nI ((110 * (clN sl)) + 50)) (nI_add _ _) ?_
                              refine lv_iload_n hx hb dX7_restore_248 rfl (lv_at hl 3 rfl) ?_
                              refine lv_iadd hx hb dX7_restore_249 ?_
                              refine x_top (y := nI (((110 * (clN sl)) + 50) + i4)) (nI_add _ _) ?_
                              refine x_iald aiM_28 F hw (((110 * (clN sl)) + 50) + i4) rfl (by omega) dX7_restore_250 ?_
                              refine x_top (y := S 28 (((110 * (clN sl)) + 50) + i4)) rfl ?_
                              refine x_iast aiM_9 F hw i4 rfl (by omega) dX7_restore_251 (fun H locs hw => ?_)
                              refine lv_iinc (v := nI (i4 + 1)) (lv' := [(3, .int (nI (i4 + 1))), (0, .ref (q 30)), (1, .int sl), (2, .int (nI (110 * (clN sl))))]) hx hb dX7_restore_252 hl (k := 3) rfl (nI_1 _) (Nat.le_of_ble_eq_true rfl) rfl (fun ls hl => ?_)
                              refine lv_goto (tgt := 229) hx hb dX7_restore_255 rfl ?_
                              exact ih229_ (i4 + 1) (upd f9 i4 (S 28 (((110 * (clN sl)) + 50) + i4))) _ _ _ (by first | omega | (simp only [] at *; omega)) (by first | assumption | omega | rfl) (by exact upd_cp (g := fun j => S 28 ((110 * clN sl) + 50 + j)) a9) hw (lv_sub hl [1, 2, 3, 0] rfl)
                        exact K229 _ 0 (S 9) _ _ _ (Nat.lt_succ_self _) (by first | assumption | omega | rfl) (by exact fun j hj => absurd hj (Nat.not_lt_zero _)) hw (lv_sub hl [1, 2, 3, 0] rfl)
                      · refine lv_aload_n hx hb dX7_restore_187 rfl (lv_at hl 0 rfl) ?_
                        refine x_getr frM_11 F hw fo_X7_34 dX7_restore_188 ?_
                        refine lv_iload_n hx hb dX7_restore_191 rfl (lv_at hl 3 rfl) ?_
                        refine lv_aload_n hx hb dX7_restore_192 rfl (lv_at hl 0 rfl) ?_
                        refine x_getr frM_28 F hw fo_X7_58 dX7_restore_193 ?_
                        refine lv_iload_n hx hb dX7_restore_196 rfl (lv_at hl 2 rfl) ?_
                        refine lv_bipush (v := nI 34) hx hb dX7_restore_197 rfl ?_
                        refine lv_iadd hx hb dX7_restore_199 ?_
                        refine x_top (y := nI ((110 * (clN sl)) + 34)) (nI_add _ _) ?_
                        refine lv_iload_n hx hb dX7_restore_200 rfl (lv_at hl 3 rfl) ?_
                        refine lv_iadd hx hb dX7_restore_201 ?_
                        refine x_top (y := nI (((110 * (clN sl)) + 34) + i3)) (nI_add _ _) ?_
                        refine x_iald aiM_28 F hw (((110 * (clN sl)) + 34) + i3) rfl (by omega) dX7_restore_202 ?_
                        refine x_top (y := S 28 (((110 * (clN sl)) + 34) + i3)) rfl ?_
                        refine x_iast aiM_11 F hw i3 rfl (by omega) dX7_restore_203 (fun H locs hw => ?_)
                        refine lv_aload_n hx hb dX7_restore_204 rfl (lv_at hl 0 rfl) ?_
                        refine x_getr frM_12 F hw fo_X7_37 dX7_restore_205 ?_
                        refine lv_iload_n hx hb dX7_restore_208 rfl (lv_at hl 3 rfl) ?_
                        refine lv_aload_n hx hb dX7_restore_209 rfl (lv_at hl 0 rfl) ?_
                        refine x_getr frM_28 F hw fo_X7_58 dX7_restore_210 ?_
                        refine lv_iload_n hx hb dX7_restore_213 rfl (lv_at hl 2 rfl) ?_
                        refine lv_bipush (v := nI 42) hx hb dX7_restore_214 rfl ?_
                        refine lv_iadd hx hb dX7_restore_216 ?_
                        refine x_top (y := nI ((110 * (clN sl)) + 42)) (nI_add _ _) ?_
                        refine lv_iload_n hx hb dX7_restore_217 rfl (lv_at hl 3 rfl) ?_
                        refine lv_iadd hx hb dX7_restore_218 ?_
                        refine x_top (y := nI (((110 * (clN sl)) + 42) + i3)) (nI_add _ _) ?_
                        refine x_iald aiM_28 F hw (((110 * (clN sl)) + 42) + i3) rfl (by omega) dX7_restore_219 ?_
                        refine x_top (y := S 28 (((110 * (clN sl)) + 42) + i3)) rfl ?_
                        refine x_iast aiM_12 F hw i3 rfl (by omega) dX7_restore_220 (fun H locs hw => ?_)
                        refine lv_iinc (v := nI (i3 + 1)) (lv' := [(3, .int (nI (i3 + 1))), (0, .ref (q 30)), (1, .int sl), (2, .int (nI (110 * (clN sl))))]) hx hb dX7_restore_221 hl (k := 3) rfl (nI_1 _) (Nat.le_of_ble_eq_true rfl) rfl (fun ls hl => ?_)
                        refine lv_goto (tgt := 181) hx hb dX7_restore_224 rfl ?_
                        exact ih181_ (i3 + 1) (upd f11 i3 (S 28 (((110 * (clN sl)) + 34) + i3))) (upd f12 i3 (S 28 (((110 * (clN sl)) + 42) + i3))) _ _ _ (by first | omega | (simp only [] at *; omega)) (by first | assumption | omega | rfl) (by exact upd_cp (g := fun j => S 28 ((110 * clN sl) + 34 + j)) a11) (by exact upd_cp (g := fun j => S 28 ((110 * clN sl) + 42 + j)) a12) hw (lv_sub hl [1, 2, 3, 0] rfl)
                  exact K181 _ 0 (S 11) (S 12) _ _ _ (Nat.lt_succ_self _) (by first | assumption | omega | rfl) (by exact fun j hj => absurd hj (Nat.not_lt_zero _)) (by exact fun j hj => absurd hj (Nat.not_lt_zero _)) hw (lv_sub hl [1, 2, 3, 0] rfl)
                · refine lv_aload_n hx hb dX7_restore_139 rfl (lv_at hl 0 rfl) ?_
                  refine x_getr frM_5 F hw fo_X7_22 dX7_restore_140 ?_
                  refine lv_iload_n hx hb dX7_restore_143 rfl (lv_at hl 3 rfl) ?_
                  refine lv_aload_n hx hb dX7_restore_144 rfl (lv_at hl 0 rfl) ?_
                  refine x_getr frM_28 F hw fo_X7_58 dX7_restore_145 ?_
                  refine lv_iload_n hx hb dX7_restore_148 rfl (lv_at hl 2 rfl) ?_
                  refine lv_bipush (v := nI 26) hx hb dX7_restore_149 rfl ?_
                  refine lv_iadd hx hb dX7_restore_151 ?_
                  refine x_top (y := nI ((110 * (clN sl)) + 26)) (nI_add _ _) ?_
                  refine lv_iload_n hx hb dX7_restore_152 rfl (lv_at hl 3 rfl) ?_
                  refine lv_iadd hx hb dX7_restore_153 ?_
                  refine x_top (y := nI (((110 * (clN sl)) + 26) + i2)) (nI_add _ _) ?_
                  refine x_iald aiM_28 F hw (((110 * (clN sl)) + 26) + i2) rfl (by omega) dX7_restore_154 ?_
                  refine x_top (y := S 28 (((110 * (clN sl)) + 26) + i2)) rfl ?_
                  refine x_iast aiM_5 F hw i2 rfl (by omega) dX7_restore_155 (fun H locs hw => ?_)
                  refine lv_aload_n hx hb dX7_restore_156 rfl (lv_at hl 0 rfl) ?_
                  refine x_getr frM_10 F hw fo_X7_31 dX7_restore_157 ?_
                  refine lv_iload_n hx hb dX7_restore_160 rfl (lv_at hl 3 rfl) ?_
                  refine lv_aload_n hx hb dX7_restore_161 rfl (lv_at hl 0 rfl) ?_
                  refine x_getr frM_28 F hw fo_X7_58 dX7_restore_162 ?_
                  refine lv_iload_n hx hb dX7_restore_165 rfl (lv_at hl 2 rfl) ?_
                  refine lv_bipush (v := nI 30) hx hb dX7_restore_166 rfl ?_
                  refine lv_iadd hx hb dX7_restore_168 ?_
                  refine x_top (y := nI ((110 * (clN sl)) + 30)) (nI_add _ _) ?_
                  refine lv_iload_n hx hb dX7_restore_169 rfl (lv_at hl 3 rfl) ?_
                  refine lv_iadd hx hb dX7_restore_170 ?_
                  refine x_top (y := nI (((110 * (clN sl)) + 30) + i2)) (nI_add _ _) ?_
                  refine x_iald aiM_28 F hw (((110 * (clN sl)) + 30) + i2) rfl (by omega) dX7_restore_171 ?_
                  refine x_top (y := S 28 (((110 * (clN sl)) + 30) + i2)) rfl ?_
                  refine x_iast aiM_10 F hw i2 rfl (by omega) dX7_restore_172 (fun H locs hw => ?_)
                  refine lv_iinc (v := nI (i2 + 1)) (lv' := [(3, .int (nI (i2 + 1))), (0, .ref (q 30)), (1, .int sl), (2, .int (nI (110 * (clN sl))))]) hx hb dX7_restore_173 hl (k := 3) rfl (nI_1 _) (Nat.le_of_ble_eq_true rfl) rfl (fun ls hl => ?_)
                  refine lv_goto (tgt := 134) hx hb dX7_restore_176 rfl ?_
                  exact ih134_ (i2 + 1) (upd f5 i2 (S 28 (((110 * (clN sl)) + 26) + i2))) (upd f10 i2 (S 28 (((110 * (clN sl)) + 30) + i2))) _ _ _ (by first | omega | (simp only [] at *; omega)) (by first | assumption | omega | rfl) (by exact upd_cp (g := fun j => S 28 ((110 * clN sl) + 26 + j)) a5) (by exact upd_cp (g := fun j => S 28 ((110 * clN sl) + 30 + j)) a10) hw (lv_sub hl [1, 2, 3, 0] rfl)
            exact K134 _ 0 (S 5) (S 10) _ _ _ (Nat.lt_succ_self _) (by first | assumption | omega | rfl) (by exact fun j hj => absurd hj (Nat.not_lt_zero _)) (by exact fun j hj => absurd hj (Nat.not_lt_zero _)) hw (lv_sub hl [1, 2, 3, 0] rfl)
          · refine lv_aload_n hx hb dX7_restore_59 rfl (lv_at hl 0 rfl) ?_
            refine x_getr frM_1 F hw fo_X7_7 dX7_restore_60 ?_
            refine lv_iload_n hx hb dX7_restore_63 rfl (lv_at hl 3 rfl) ?_
            refine lv_aload_n hx hb dX7_restore_64 rfl (lv_at hl 0 rfl) ?_
            refine x_getr frM_28 F hw fo_X7_58 dX7_restore_65 ?_
            refine lv_iload_n hx hb dX7_restore_68 rfl (lv_at hl 2 rfl) ?_
            refine lv_iconst (v := nI 2) hx hb dX7_restore_69 rfl ?_
            refine lv_iadd hx hb dX7_restore_70 ?_
            refine x_top (y := nI ((110 * (clN sl)) + 2)) (nI_add _ _) ?_
            refine lv_iload_n hx hb dX7_restore_71 rfl (lv_at hl 3 rfl) ?_
            refine lv_iadd hx hb dX7_restore_72 ?_
            refine x_top (y := nI (((110 * (clN sl)) + 2) + i)) (nI_add _ _) ?_
            refine x_iald aiM_28 F hw (((110 * (clN sl)) + 2) + i) rfl (by omega) dX7_restore_73 ?_
            refine x_top (y := S 28 (((110 * (clN sl)) + 2) + i)) rfl ?_
            refine x_iast aiM_1 F hw i rfl (by omega) dX7_restore_74 (fun H locs hw => ?_)
            refine lv_aload_n hx hb dX7_restore_75 rfl (lv_at hl 0 rfl) ?_
            refine x_getr frM_2 F hw fo_X7_13 dX7_restore_76 ?_
            refine lv_iload_n hx hb dX7_restore_79 rfl (lv_at hl 3 rfl) ?_
            refine lv_aload_n hx hb dX7_restore_80 rfl (lv_at hl 0 rfl) ?_
            refine x_getr frM_28 F hw fo_X7_58 dX7_restore_81 ?_
            refine lv_iload_n hx hb dX7_restore_84 rfl (lv_at hl 2 rfl) ?_
            refine lv_bipush (v := nI 8) hx hb dX7_restore_85 rfl ?_
            refine lv_iadd hx hb dX7_restore_87 ?_
            refine x_top (y := nI ((110 * (clN sl)) + 8)) (nI_add _ _) ?_
            refine lv_iload_n hx hb dX7_restore_88 rfl (lv_at hl 3 rfl) ?_
            refine lv_iadd hx hb dX7_restore_89 ?_
            refine x_top (y := nI (((110 * (clN sl)) + 8) + i)) (nI_add _ _) ?_
            refine x_iald aiM_28 F hw (((110 * (clN sl)) + 8) + i) rfl (by omega) dX7_restore_90 ?_
            refine x_top (y := S 28 (((110 * (clN sl)) + 8) + i)) rfl ?_
            refine x_iast aiM_2 F hw i rfl (by omega) dX7_restore_91 (fun H locs hw => ?_)
            refine lv_aload_n hx hb dX7_restore_92 rfl (lv_at hl 0 rfl) ?_
            refine x_getr frM_3 F hw fo_X7_16 dX7_restore_93 ?_
            refine lv_iload_n hx hb dX7_restore_96 rfl (lv_at hl 3 rfl) ?_
            refine lv_aload_n hx hb dX7_restore_97 rfl (lv_at hl 0 rfl) ?_
            refine x_getr frM_28 F hw fo_X7_58 dX7_restore_98 ?_
            refine lv_iload_n hx hb dX7_restore_101 rfl (lv_at hl 2 rfl) ?_
            refine lv_bipush (v := nI 14) hx hb dX7_restore_102 rfl ?_
            refine lv_iadd hx hb dX7_restore_104 ?_
            refine x_top (y := nI ((110 * (clN sl)) + 14)) (nI_add _ _) ?_
            refine lv_iload_n hx hb dX7_restore_105 rfl (lv_at hl 3 rfl) ?_
            refine lv_iadd hx hb dX7_restore_106 ?_
            refine x_top (y := nI (((110 * (clN sl)) + 14) + i)) (nI_add _ _) ?_
            refine x_iald aiM_28 F hw (((110 * (clN sl)) + 14) + i) rfl (by omega) dX7_restore_107 ?_
            refine x_top (y := S 28 (((110 * (clN sl)) + 14) + i)) rfl ?_
            refine x_iast aiM_3 F hw i rfl (by omega) dX7_restore_108 (fun H locs hw => ?_)
            refine lv_aload_n hx hb dX7_restore_109 rfl (lv_at hl 0 rfl) ?_
            refine x_getr frM_4 F hw fo_X7_19 dX7_restore_110 ?_
            refine lv_iload_n hx hb dX7_restore_113 rfl (lv_at hl 3 rfl) ?_
            refine lv_aload_n hx hb dX7_restore_114 rfl (lv_at hl 0 rfl) ?_
            refine x_getr frM_28 F hw fo_X7_58 dX7_restore_115 ?_
            refine lv_iload_n hx hb dX7_restore_118 rfl (lv_at hl 2 rfl) ?_
            refine lv_bipush (v := nI 20) hx hb dX7_restore_119 rfl ?_
            refine lv_iadd hx hb dX7_restore_121 ?_
            refine x_top (y := nI ((110 * (clN sl)) + 20)) (nI_add _ _) ?_
            refine lv_iload_n hx hb dX7_restore_122 rfl (lv_at hl 3 rfl) ?_
            refine lv_iadd hx hb dX7_restore_123 ?_
            refine x_top (y := nI (((110 * (clN sl)) + 20) + i)) (nI_add _ _) ?_
            refine x_iald aiM_28 F hw (((110 * (clN sl)) + 20) + i) rfl (by omega) dX7_restore_124 ?_
            refine x_top (y := S 28 (((110 * (clN sl)) + 20) + i)) rfl ?_
            refine x_iast aiM_4 F hw i rfl (by omega) dX7_restore_125 (fun H locs hw => ?_)
            refine lv_iinc (v := nI (i + 1)) (lv' := [(3, .int (nI (i + 1))), (0, .ref (q 30)), (1, .int sl), (2, .int (nI (110 * (clN sl))))]) hx hb dX7_restore_126 hl (k := 3) rfl (nI_1 _) (Nat.le_of_ble_eq_true rfl) rfl (fun ls hl => ?_)
            refine lv_goto (tgt := 53) hx hb dX7_restore_129 rfl ?_
            exact ih53_ (i + 1) (upd f1 i (S 28 (((110 * (clN sl)) + 2) + i))) (upd f2 i (S 28 (((110 * (clN sl)) + 8) + i))) (upd f3 i (S 28 (((110 * (clN sl)) + 14) + i))) (upd f4 i (S 28 (((110 * (clN sl)) + 20) + i))) _ _ _ (by first | omega | (simp only [] at *; omega)) (by first | assumption | omega | rfl) (by exact upd_cp (g := fun j => S 28 ((110 * clN sl) + 2 + j)) a1) (by exact upd_cp (g := fun j => S 28 ((110 * clN sl) + 8 + j)) a2) (by exact upd_cp (g := fun j => S 28 ((110 * clN sl) + 14 + j)) a3) (by exact upd_cp (g := fun j => S 28 ((110 * clN sl) + 20 + j)) a4) hw (lv_sub hl [1, 2, 3, 0] rfl)
      exact K53 _ 0 (S 1) (S 2) (S 3) (S 4) _ _ _ (Nat.lt_succ_self _) (by first | assumption | omega | rfl) (by exact fun j hj => absurd hj (Nat.not_lt_zero _)) (by exact fun j hj => absurd hj (Nat.not_lt_zero _)) (by exact fun j hj => absurd hj (Nat.not_lt_zero _)) (by exact fun j hj => absurd hj (Nat.not_lt_zero _)) hw (lv_sub hl [2, 3, 1, 0] rfl)
    · refine lv_bipush (v := (-3)) hx hb dX7_restore_21 rfl ?_
      exact hret _ _ _ _ _ _ dX7_restore_23 hw rfl ⟨S, rfl, Or.inr (Or.inl ⟨c6, c18, rfl, rfl⟩)⟩
  · refine lv_bipush (v := (-2)) hx hb dX7_restore_9 rfl ?_
    exact hret _ _ _ _ _ _ dX7_restore_11 hw rfl ⟨S, rfl, Or.inl ⟨c6, rfl, rfl⟩⟩
