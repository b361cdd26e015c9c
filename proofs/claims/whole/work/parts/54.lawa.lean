/-! ===== the law: case by case ===== -/
section LC
variable {p : Program} {l : Launch} {e : Env} {s : State} {m : MethodId} {below : List Frame} {meth : Method} {c : Code} {H : Heap} {locs : List Loc} {cells slots : Nat} {Q : State → Prop}
variable {ls : Array Slot} {D : va_G} {k : Nat → ClassId} {A : Nat → Prop} {b L j : Nat} {xs : Nat → Int32} {q qm : Nat → Nat}
set_option maxHeartbeats 4000000 in
set_option maxRecDepth 20000 in
theorem st_picture (F : Fx p room_1 s m #[Value.ref b] c cL_law 4 RL D k 12 600000 7302250) (hX : va_X b L xs s s.heap) (hbl : b < s.heap.size) (hbA : ¬ A b) (hL : L ≤ 256) (hj : 4 * j + 4 ≤ L) (hc : cells + 20 ≤ 600000 ∧ slots + 34000 ≤ 7302250) (hI : LInv D A s k q qm H locs) (hl : lv_has ls 4 [(0, .ref b), (1, .ref (q 0)), (2, .ref (qm 30)), (3, .int (nI (4 * j)))]) (kk : ∀ (H : Heap) (locs : List Loc), LInv D A s k q qm H locs → W p l e room_1 s m #[Value.ref b] below meth c H locs (cells + 20) (slots + 34000) Q (F0 m 1044 ls [])) : W p l e room_1 s m #[Value.ref b] below meth c H locs cells slots Q (F0 m 168 ls []) := by
  have hx := xs_hx F
  have hb := xs_hb F
  obtain ⟨z, g, S, T, r, Si, bb, hw, h, hIm⟩ := hI
  refine lv_aload_n hx hb dL_law_168 rfl (lv_at hl 1 rfl) ?_
  refine lv_aload_n hx hb dL_law_169 rfl (lv_at hl 0 rfl) ?_
  refine lv_iload_n hx hb dL_law_170 rfl (lv_at hl 3 rfl) ?_
  refine lv_iconst (v := nI 1) hx hb dL_law_171 rfl ?_
  refine lv_iadd hx hb dL_law_172 ?_
  refine x_top (y := nI (4 * j + 1)) (nI_add _ _) ?_
  refine x_scr hX hbl hbA hL F hw (4 * j + 1) rfl (by omega) dL_law_173 ?_
  refine lv_aload_n hx hb dL_law_174 rfl (lv_at hl 0 rfl) ?_
  refine lv_iload_n hx hb dL_law_175 rfl (lv_at hl 3 rfl) ?_
  refine lv_iconst (v := nI 2) hx hb dL_law_176 rfl ?_
  refine lv_iadd hx hb dL_law_177 ?_
  refine x_top (y := nI (4 * j + 2)) (nI_add _ _) ?_
  refine x_scr hX hbl hbA hL F hw (4 * j + 2) rfl (by omega) dL_law_178 ?_
  refine lv_aload_n hx hb dL_law_179 rfl (lv_at hl 0 rfl) ?_
  refine lv_iload_n hx hb dL_law_180 rfl (lv_at hl 3 rfl) ?_
  refine lv_iconst (v := nI 3) hx hb dL_law_181 rfl ?_
  refine lv_iadd hx hb dL_law_182 ?_
  refine x_top (y := nI (4 * j + 3)) (nI_add _ _) ?_
  refine x_scr hX hbl hbA hL F hw (4 * j + 3) rfl (by omega) dL_law_183 ?_
  refine x_fVI (rest := []) (c_X6_picture l D k q z g S (List.append (imW k r Si bb) (wM k qm T [])) (xs (4 * j + 1)) (xs (4 * j + 2)) (xs (4 * j + 3)) h.okP) mo_L_13 obC_0 F hw (Nat.le_of_ble_eq_true rfl) ⟨show _ ≤ 600000 by omega, show _ ≤ 7302250 by omega⟩ rfl rfl hl.1 (Nat.le_of_ble_eq_true rfl) dL_law_184 (fun H locs hw => ?_)
  have hw : Wd D A s.heap H locs (wM k qm T (wC k q z g ((p_picture S (xs (4 * j + 1)) (xs (4 * j + 2)) (xs (4 * j + 3))).2) (imW k r Si bb))) := hw.perm to_M
  refine lv_aload_n hx hb dL_law_187 rfl (lv_at hl 2 rfl) ?_
  refine lv_aload_n hx hb dL_law_188 rfl (lv_at hl 0 rfl) ?_
  refine lv_iload_n hx hb dL_law_189 rfl (lv_at hl 3 rfl) ?_
  refine lv_iconst (v := nI 1) hx hb dL_law_190 rfl ?_
  refine lv_iadd hx hb dL_law_191 ?_
  refine x_top (y := nI (4 * j + 1)) (nI_add _ _) ?_
  refine x_scr hX hbl hbA hL F hw (4 * j + 1) rfl (by omega) dL_law_192 ?_
  refine lv_aload_n hx hb dL_law_193 rfl (lv_at hl 0 rfl) ?_
  refine lv_iload_n hx hb dL_law_194 rfl (lv_at hl 3 rfl) ?_
  refine lv_iconst (v := nI 2) hx hb dL_law_195 rfl ?_
  refine lv_iadd hx hb dL_law_196 ?_
  refine x_top (y := nI (4 * j + 2)) (nI_add _ _) ?_
  refine x_scr hX hbl hbA hL F hw (4 * j + 2) rfl (by omega) dL_law_197 ?_
  refine lv_aload_n hx hb dL_law_198 rfl (lv_at hl 0 rfl) ?_
  refine lv_iload_n hx hb dL_law_199 rfl (lv_at hl 3 rfl) ?_
  refine lv_iconst (v := nI 3) hx hb dL_law_200 rfl ?_
  refine lv_iadd hx hb dL_law_201 ?_
  refine x_top (y := nI (4 * j + 3)) (nI_add _ _) ?_
  refine x_scr hX hbl hbA hL F hw (4 * j + 3) rfl (by omega) dL_law_202 ?_
  refine x_fVI (rest := [.int ((p_picture S (xs (4 * j + 1)) (xs (4 * j + 2)) (xs (4 * j + 3))).1)]) (c_X7_picture l D k qm T (wC k q z g ((p_picture S (xs (4 * j + 1)) (xs (4 * j + 2)) (xs (4 * j + 3))).2) (imW k r Si bb)) (xs (4 * j + 1)) (xs (4 * j + 2)) (xs (4 * j + 3)) h.okMP) mo_L_17 obM F hw (Nat.le_of_ble_eq_true rfl) ⟨show _ ≤ 600000 by omega, show _ ≤ 7302250 by omega⟩ rfl rfl hl.1 (Nat.le_of_ble_eq_true rfl) dL_law_203 (fun H locs hw => ?_)
  have hw : Wd D A s.heap H locs (wC k q z g ((p_picture S (xs (4 * j + 1)) (xs (4 * j + 2)) (xs (4 * j + 3))).2) (List.append (imW k r Si bb) (wM k qm ((m_picture T (xs (4 * j + 1)) (xs (4 * j + 2)) (xs (4 * j + 3))).2) []))) := hw.perm to_M.symm
  have he := e_picture h (xs (4 * j + 1)) (xs (4 * j + 2)) (xs (4 * j + 3))
  refine lv_icmp_eq (tgt := 1044) hx hb dL_law_206 rfl (fun _ => ?_) (fun q0 => absurd (he.1) q0)
  refine W.widen (k := cells + 20) (n := slots + 34000) (by omega) (by omega) ?_
  exact kk _ _ ⟨z, g, _, _, r, Si, bb, hw, he.2, RIm_T (k_picture T (xs (4 * j + 1)) (xs (4 * j + 2)) (xs (4 * j + 3))).1 (k_picture T (xs (4 * j + 1)) (xs (4 * j + 2)) (xs (4 * j + 3))).2 hIm⟩
set_option maxHeartbeats 4000000 in
set_option maxRecDepth 20000 in
theorem st_about (F : Fx p room_1 s m #[Value.ref b] c cL_law 4 RL D k 12 600000 7302250) (hX : va_X b L xs s s.heap) (hbl : b < s.heap.size) (hbA : ¬ A b) (hL : L ≤ 256) (hj : 4 * j + 4 ≤ L) (hc : cells + 20 ≤ 600000 ∧ slots + 34000 ≤ 7302250) (hI : LInv D A s k q qm H locs) (hl : lv_has ls 4 [(0, .ref b), (1, .ref (q 0)), (2, .ref (qm 30)), (3, .int (nI (4 * j)))]) (kk : ∀ (H : Heap) (locs : List Loc), LInv D A s k q qm H locs → W p l e room_1 s m #[Value.ref b] below meth c H locs (cells + 20) (slots + 34000) Q (F0 m 1044 ls [])) : W p l e room_1 s m #[Value.ref b] below meth c H locs cells slots Q (F0 m 211 ls []) := by
  have hx := xs_hx F
  have hb := xs_hb F
  obtain ⟨z, g, S, T, r, Si, bb, hw, h, hIm⟩ := hI
  refine lv_aload_n hx hb dL_law_211 rfl (lv_at hl 1 rfl) ?_
  refine lv_aload_n hx hb dL_law_212 rfl (lv_at hl 0 rfl) ?_
  refine lv_iload_n hx hb dL_law_213 rfl (lv_at hl 3 rfl) ?_
  refine lv_iconst (v := nI 1) hx hb dL_law_214 rfl ?_
  refine lv_iadd hx hb dL_law_215 ?_
  refine x_top (y := nI (4 * j + 1)) (nI_add _ _) ?_
  refine x_scr hX hbl hbA hL F hw (4 * j + 1) rfl (by omega) dL_law_216 ?_
  refine lv_aload_n hx hb dL_law_217 rfl (lv_at hl 0 rfl) ?_
  refine lv_iload_n hx hb dL_law_218 rfl (lv_at hl 3 rfl) ?_
  refine lv_iconst (v := nI 2) hx hb dL_law_219 rfl ?_
  refine lv_iadd hx hb dL_law_220 ?_
  refine x_top (y := nI (4 * j + 2)) (nI_add _ _) ?_
  refine x_scr hX hbl hbA hL F hw (4 * j + 2) rfl (by omega) dL_law_221 ?_
  refine x_fVI (rest := []) (c_X6_about l D k q z g S (List.append (imW k r Si bb) (wM k qm T [])) (xs (4 * j + 1)) (xs (4 * j + 2)) h.okP) mo_L_18 obC_0 F hw (Nat.le_of_ble_eq_true rfl) ⟨show _ ≤ 600000 by omega, show _ ≤ 7302250 by omega⟩ rfl rfl hl.1 (Nat.le_of_ble_eq_true rfl) dL_law_222 (fun H locs hw => ?_)
  have hw : Wd D A s.heap H locs (wM k qm T (wC k q z g ((p_about S (xs (4 * j + 1)) (xs (4 * j + 2))).2) (imW k r Si bb))) := hw.perm to_M
  refine lv_aload_n hx hb dL_law_225 rfl (lv_at hl 2 rfl) ?_
  refine lv_aload_n hx hb dL_law_226 rfl (lv_at hl 0 rfl) ?_
  refine lv_iload_n hx hb dL_law_227 rfl (lv_at hl 3 rfl) ?_
  refine lv_iconst (v := nI 1) hx hb dL_law_228 rfl ?_
  refine lv_iadd hx hb dL_law_229 ?_
  refine x_top (y := nI (4 * j + 1)) (nI_add _ _) ?_
  refine x_scr hX hbl hbA hL F hw (4 * j + 1) rfl (by omega) dL_law_230 ?_
  refine lv_aload_n hx hb dL_law_231 rfl (lv_at hl 0 rfl) ?_
  refine lv_iload_n hx hb dL_law_232 rfl (lv_at hl 3 rfl) ?_
  refine lv_iconst (v := nI 2) hx hb dL_law_233 rfl ?_
  refine lv_iadd hx hb dL_law_234 ?_
  refine x_top (y := nI (4 * j + 2)) (nI_add _ _) ?_
  refine x_scr hX hbl hbA hL F hw (4 * j + 2) rfl (by omega) dL_law_235 ?_
  refine x_fVI (rest := [.int ((p_about S (xs (4 * j + 1)) (xs (4 * j + 2))).1)]) (c_X7_about l D k qm T (wC k q z g ((p_about S (xs (4 * j + 1)) (xs (4 * j + 2))).2) (imW k r Si bb)) (xs (4 * j + 1)) (xs (4 * j + 2)) h.okMP) mo_L_22 obM F hw (Nat.le_of_ble_eq_true rfl) ⟨show _ ≤ 600000 by omega, show _ ≤ 7302250 by omega⟩ rfl rfl hl.1 (Nat.le_of_ble_eq_true rfl) dL_law_236 (fun H locs hw => ?_)
  have hw : Wd D A s.heap H locs (wC k q z g ((p_about S (xs (4 * j + 1)) (xs (4 * j + 2))).2) (List.append (imW k r Si bb) (wM k qm ((m_about T (xs (4 * j + 1)) (xs (4 * j + 2))).2) []))) := hw.perm to_M.symm
  have he := e_about h (xs (4 * j + 1)) (xs (4 * j + 2))
  refine lv_icmp_eq (tgt := 1044) hx hb dL_law_239 rfl (fun _ => ?_) (fun q0 => absurd (he.1) q0)
  refine W.widen (k := cells + 20) (n := slots + 34000) (by omega) (by omega) ?_
  exact kk _ _ ⟨z, g, _, _, r, Si, bb, hw, he.2, RIm_T (k_about T (xs (4 * j + 1)) (xs (4 * j + 2))).1 (k_about T (xs (4 * j + 1)) (xs (4 * j + 2))).2 hIm⟩
set_option maxHeartbeats 4000000 in
set_option maxRecDepth 20000 in
theorem st_set (F : Fx p room_1 s m #[Value.ref b] c cL_law 4 RL D k 12 600000 7302250) (hX : va_X b L xs s s.heap) (hbl : b < s.heap.size) (hbA : ¬ A b) (hL : L ≤ 256) (hj : 4 * j + 4 ≤ L) (hc : cells + 20 ≤ 600000 ∧ slots + 34000 ≤ 7302250) (hI : LInv D A s k q qm H locs) (hl : lv_has ls 4 [(0, .ref b), (1, .ref (q 0)), (2, .ref (qm 30)), (3, .int (nI (4 * j)))]) (kk : ∀ (H : Heap) (locs : List Loc), LInv D A s k q qm H locs → W p l e room_1 s m #[Value.ref b] below meth c H locs (cells + 20) (slots + 34000) Q (F0 m 1044 ls [])) : W p l e room_1 s m #[Value.ref b] below meth c H locs cells slots Q (F0 m 244 ls []) := by
  have hx := xs_hx F
  have hb := xs_hb F
  obtain ⟨z, g, S, T, r, Si, bb, hw, h, hIm⟩ := hI
  refine lv_aload_n hx hb dL_law_244 rfl (lv_at hl 1 rfl) ?_
  refine lv_aload_n hx hb dL_law_245 rfl (lv_at hl 0 rfl) ?_
  refine lv_iload_n hx hb dL_law_246 rfl (lv_at hl 3 rfl) ?_
  refine lv_iconst (v := nI 1) hx hb dL_law_247 rfl ?_
  refine lv_iadd hx hb dL_law_248 ?_
  refine x_top (y := nI (4 * j + 1)) (nI_add _ _) ?_
  refine x_scr hX hbl hbA hL F hw (4 * j + 1) rfl (by omega) dL_law_249 ?_
  refine lv_aload_n hx hb dL_law_250 rfl (lv_at hl 0 rfl) ?_
  refine lv_iload_n hx hb dL_law_251 rfl (lv_at hl 3 rfl) ?_
  refine lv_iconst (v := nI 2) hx hb dL_law_252 rfl ?_
  refine lv_iadd hx hb dL_law_253 ?_
  refine x_top (y := nI (4 * j + 2)) (nI_add _ _) ?_
  refine x_scr hX hbl hbA hL F hw (4 * j + 2) rfl (by omega) dL_law_254 ?_
  refine x_fVI (rest := []) (c_X6_set l D k q z g S (List.append (imW k r Si bb) (wM k qm T [])) (xs (4 * j + 1)) (xs (4 * j + 2))) mo_L_23 obC_0 F hw (Nat.le_of_ble_eq_true rfl) ⟨show _ ≤ 600000 by omega, show _ ≤ 7302250 by omega⟩ rfl rfl hl.1 (Nat.le_of_ble_eq_true rfl) dL_law_255 (fun H locs hw => ?_)
  have hw : Wd D A s.heap H locs (wM k qm T (wC k q z g ((p_set S (xs (4 * j + 1)) (xs (4 * j + 2))).2) (imW k r Si bb))) := hw.perm to_M
  refine lv_aload_n hx hb dL_law_258 rfl (lv_at hl 2 rfl) ?_
  refine lv_aload_n hx hb dL_law_259 rfl (lv_at hl 0 rfl) ?_
  refine lv_iload_n hx hb dL_law_260 rfl (lv_at hl 3 rfl) ?_
  refine lv_iconst (v := nI 1) hx hb dL_law_261 rfl ?_
  refine lv_iadd hx hb dL_law_262 ?_
  refine x_top (y := nI (4 * j + 1)) (nI_add _ _) ?_
  refine x_scr hX hbl hbA hL F hw (4 * j + 1) rfl (by omega) dL_law_263 ?_
  refine lv_aload_n hx hb dL_law_264 rfl (lv_at hl 0 rfl) ?_
  refine lv_iload_n hx hb dL_law_265 rfl (lv_at hl 3 rfl) ?_
  refine lv_iconst (v := nI 2) hx hb dL_law_266 rfl ?_
  refine lv_iadd hx hb dL_law_267 ?_
  refine x_top (y := nI (4 * j + 2)) (nI_add _ _) ?_
  refine x_scr hX hbl hbA hL F hw (4 * j + 2) rfl (by omega) dL_law_268 ?_
  refine x_fVI (rest := [.int ((p_set S (xs (4 * j + 1)) (xs (4 * j + 2))).1)]) (c_X7_set l D k qm T (wC k q z g ((p_set S (xs (4 * j + 1)) (xs (4 * j + 2))).2) (imW k r Si bb)) (xs (4 * j + 1)) (xs (4 * j + 2))) mo_L_26 obM F hw (Nat.le_of_ble_eq_true rfl) ⟨show _ ≤ 600000 by omega, show _ ≤ 7302250 by omega⟩ rfl rfl hl.1 (Nat.le_of_ble_eq_true rfl) dL_law_269 (fun H locs hw => ?_)
  have hw : Wd D A s.heap H locs (wC k q z g ((p_set S (xs (4 * j + 1)) (xs (4 * j + 2))).2) (List.append (imW k r Si bb) (wM k qm ((m_set T (xs (4 * j + 1)) (xs (4 * j + 2))).2) []))) := hw.perm to_M.symm
  have he := e_set h (xs (4 * j + 1)) (xs (4 * j + 2))
  refine lv_icmp_eq (tgt := 1044) hx hb dL_law_272 rfl (fun _ => ?_) (fun q0 => absurd (he.1) q0)
  refine W.widen (k := cells + 20) (n := slots + 34000) (by omega) (by omega) ?_
  exact kk _ _ ⟨z, g, _, _, r, Si, bb, hw, he.2, RIm_T (k_set T (xs (4 * j + 1)) (xs (4 * j + 2))).1 (k_set T (xs (4 * j + 1)) (xs (4 * j + 2))).2 hIm⟩
set_option maxHeartbeats 4000000 in
set_option maxRecDepth 20000 in
theorem st_say (F : Fx p room_1 s m #[Value.ref b] c cL_law 4 RL D k 12 600000 7302250) (hX : va_X b L xs s s.heap) (hbl : b < s.heap.size) (hbA : ¬ A b) (hL : L ≤ 256) (hj : 4 * j + 4 ≤ L) (hc : cells + 20 ≤ 600000 ∧ slots + 34000 ≤ 7302250) (hI : LInv D A s k q qm H locs) (hl : lv_has ls 4 [(0, .ref b), (1, .ref (q 0)), (2, .ref (qm 30)), (3, .int (nI (4 * j)))]) (kk : ∀ (H : Heap) (locs : List Loc), LInv D A s k q qm H locs → W p l e room_1 s m #[Value.ref b] below meth c H locs (cells + 20) (slots + 34000) Q (F0 m 1044 ls [])) : W p l e room_1 s m #[Value.ref b] below meth c H locs cells slots Q (F0 m 277 ls []) := by
  have hx := xs_hx F
  have hb := xs_hb F
  obtain ⟨z, g, S, T, r, Si, bb, hw, h, hIm⟩ := hI
  refine lv_aload_n hx hb dL_law_277 rfl (lv_at hl 1 rfl) ?_
  refine lv_aload_n hx hb dL_law_278 rfl (lv_at hl 0 rfl) ?_
  refine lv_iload_n hx hb dL_law_279 rfl (lv_at hl 3 rfl) ?_
  refine lv_iconst (v := nI 1) hx hb dL_law_280 rfl ?_
  refine lv_iadd hx hb dL_law_281 ?_
  refine x_top (y := nI (4 * j + 1)) (nI_add _ _) ?_
  refine x_scr hX hbl hbA hL F hw (4 * j + 1) rfl (by omega) dL_law_282 ?_
  refine x_fVI (rest := []) (c_X6_say l D k q z g S (List.append (imW k r Si bb) (wM k qm T [])) (xs (4 * j + 1)) h.okT) mo_L_27 obC_0 F hw (Nat.le_of_ble_eq_true rfl) ⟨show _ ≤ 600000 by omega, show _ ≤ 7302250 by omega⟩ rfl rfl hl.1 (Nat.le_of_ble_eq_true rfl) dL_law_283 (fun H locs hw => ?_)
  have hw : Wd D A s.heap H locs (wM k qm T (wC k q z g ((p_say S (xs (4 * j + 1))).2) (imW k r Si bb))) := hw.perm to_M
  refine lv_aload_n hx hb dL_law_286 rfl (lv_at hl 2 rfl) ?_
  refine lv_aload_n hx hb dL_law_287 rfl (lv_at hl 0 rfl) ?_
  refine lv_iload_n hx hb dL_law_288 rfl (lv_at hl 3 rfl) ?_
  refine lv_iconst (v := nI 1) hx hb dL_law_289 rfl ?_
  refine lv_iadd hx hb dL_law_290 ?_
  refine x_top (y := nI (4 * j + 1)) (nI_add _ _) ?_
  refine x_scr hX hbl hbA hL F hw (4 * j + 1) rfl (by omega) dL_law_291 ?_
  refine x_fVI (rest := [.int ((p_say S (xs (4 * j + 1))).1)]) (c_X7_say l D k qm T (wC k q z g ((p_say S (xs (4 * j + 1))).2) (imW k r Si bb)) (xs (4 * j + 1)) h.okMT) mo_L_31 obM F hw (Nat.le_of_ble_eq_true rfl) ⟨show _ ≤ 600000 by omega, show _ ≤ 7302250 by omega⟩ rfl rfl hl.1 (Nat.le_of_ble_eq_true rfl) dL_law_292 (fun H locs hw => ?_)
  have hw : Wd D A s.heap H locs (wC k q z g ((p_say S (xs (4 * j + 1))).2) (List.append (imW k r Si bb) (wM k qm ((m_say T (xs (4 * j + 1))).2) []))) := hw.perm to_M.symm
  have he := e_say h (xs (4 * j + 1))
  refine lv_icmp_eq (tgt := 1044) hx hb dL_law_295 rfl (fun _ => ?_) (fun q0 => absurd (he.1) q0)
  refine W.widen (k := cells + 20) (n := slots + 34000) (by omega) (by omega) ?_
  exact kk _ _ ⟨z, g, _, _, r, Si, bb, hw, he.2, RIm_T (k_say T (xs (4 * j + 1))).1 (k_say T (xs (4 * j + 1))).2 hIm⟩
set_option maxHeartbeats 4000000 in
set_option maxRecDepth 20000 in
theorem st_wipe (F : Fx p room_1 s m #[Value.ref b] c cL_law 4 RL D k 12 600000 7302250) (hX : va_X b L xs s s.heap) (hbl : b < s.heap.size) (hbA : ¬ A b) (hL : L ≤ 256) (hj : 4 * j + 4 ≤ L) (hc : cells + 20 ≤ 600000 ∧ slots + 34000 ≤ 7302250) (hI : LInv D A s k q qm H locs) (hl : lv_has ls 4 [(0, .ref b), (1, .ref (q 0)), (2, .ref (qm 30)), (3, .int (nI (4 * j)))]) (kk : ∀ (H : Heap) (locs : List Loc), LInv D A s k q qm H locs → W p l e room_1 s m #[Value.ref b] below meth c H locs (cells + 20) (slots + 34000) Q (F0 m 1044 ls [])) : W p l e room_1 s m #[Value.ref b] below meth c H locs cells slots Q (F0 m 300 ls []) := by
  have hx := xs_hx F
  have hb := xs_hb F
  obtain ⟨z, g, S, T, r, Si, bb, hw, h, hIm⟩ := hI
  refine lv_aload_n hx hb dL_law_300 rfl (lv_at hl 1 rfl) ?_
  refine x_fVI (rest := []) (c_X6_wipe l D k q z g S (List.append (imW k r Si bb) (wM k qm T [])) h.okT) mo_L_32 obC_0 F hw (Nat.le_of_ble_eq_true rfl) ⟨show _ ≤ 600000 by omega, show _ ≤ 7302250 by omega⟩ rfl rfl hl.1 (Nat.le_of_ble_eq_true rfl) dL_law_301 (fun H locs hw => ?_)
  have hw : Wd D A s.heap H locs (wM k qm T (wC k q z g ((p_wipe S).2) (imW k r Si bb))) := hw.perm to_M
  refine lv_aload_n hx hb dL_law_304 rfl (lv_at hl 2 rfl) ?_
  refine x_fVI (rest := [.int ((p_wipe S).1)]) (c_X7_wipe l D k qm T (wC k q z g ((p_wipe S).2) (imW k r Si bb)) h.okMT) mo_L_36 obM F hw (Nat.le_of_ble_eq_true rfl) ⟨show _ ≤ 600000 by omega, show _ ≤ 7302250 by omega⟩ rfl rfl hl.1 (Nat.le_of_ble_eq_true rfl) dL_law_305 (fun H locs hw => ?_)
  have hw : Wd D A s.heap H locs (wC k q z g ((p_wipe S).2) (List.append (imW k r Si bb) (wM k qm ((m_wipe T).2) []))) := hw.perm to_M.symm
  have he := e_wipe h
  refine lv_icmp_eq (tgt := 1044) hx hb dL_law_308 rfl (fun _ => ?_) (fun q0 => absurd (he.1) q0)
  refine W.widen (k := cells + 20) (n := slots + 34000) (by omega) (by omega) ?_
  exact kk _ _ ⟨z, g, _, _, r, Si, bb, hw, he.2, RIm_T (k_wipe T).1 (k_wipe T).2 hIm⟩
set_option maxHeartbeats 4000000 in
set_option maxRecDepth 20000 in
theorem st_fault (F : Fx p room_1 s m #[Value.ref b] c cL_law 4 RL D k 12 600000 7302250) (hX : va_X b L xs s s.heap) (hbl : b < s.heap.size) (hbA : ¬ A b) (hL : L ≤ 256) (hj : 4 * j + 4 ≤ L) (hc : cells + 20 ≤ 600000 ∧ slots + 34000 ≤ 7302250) (hI : LInv D A s k q qm H locs) (hl : lv_has ls 4 [(0, .ref b), (1, .ref (q 0)), (2, .ref (qm 30)), (3, .int (nI (4 * j)))]) (kk : ∀ (H : Heap) (locs : List Loc), LInv D A s k q qm H locs → W p l e room_1 s m #[Value.ref b] below meth c H locs (cells + 20) (slots + 34000) Q (F0 m 1044 ls [])) : W p l e room_1 s m #[Value.ref b] below meth c H locs cells slots Q (F0 m 313 ls []) := by
  have hx := xs_hx F
  have hb := xs_hb F
  obtain ⟨z, g, S, T, r, Si, bb, hw, h, hIm⟩ := hI
  refine lv_aload_n hx hb dL_law_313 rfl (lv_at hl 1 rfl) ?_
  refine x_fVI (rest := []) (c_X6_fault l D k q z g S (List.append (imW k r Si bb) (wM k qm T [])) h.okT) mo_L_37 obC_0 F hw (Nat.le_of_ble_eq_true rfl) ⟨show _ ≤ 600000 by omega, show _ ≤ 7302250 by omega⟩ rfl rfl hl.1 (Nat.le_of_ble_eq_true rfl) dL_law_314 (fun H locs hw => ?_)
  have hw : Wd D A s.heap H locs (wM k qm T (wC k q z g ((p_fault S).2) (imW k r Si bb))) := hw.perm to_M
  refine lv_aload_n hx hb dL_law_317 rfl (lv_at hl 2 rfl) ?_
  refine x_fVI (rest := [.int ((p_fault S).1)]) (c_X7_fault l D k qm T (wC k q z g ((p_fault S).2) (imW k r Si bb)) h.okMT) mo_L_40 obM F hw (Nat.le_of_ble_eq_true rfl) ⟨show _ ≤ 600000 by omega, show _ ≤ 7302250 by omega⟩ rfl rfl hl.1 (Nat.le_of_ble_eq_true rfl) dL_law_318 (fun H locs hw => ?_)
  have hw : Wd D A s.heap H locs (wC k q z g ((p_fault S).2) (List.append (imW k r Si bb) (wM k qm ((m_fault T).2) []))) := hw.perm to_M.symm
  have he := e_fault h
  refine lv_icmp_eq (tgt := 1044) hx hb dL_law_321 rfl (fun _ => ?_) (fun q0 => absurd (he.1) q0)
  refine W.widen (k := cells + 20) (n := slots + 34000) (by omega) (by omega) ?_
  exact kk _ _ ⟨z, g, _, _, r, Si, bb, hw, he.2, RIm_T (k_fault T).1 (k_fault T).2 hIm⟩
set_option maxHeartbeats 4000000 in
set_option maxRecDepth 20000 in
theorem st_law (F : Fx p room_1 s m #[Value.ref b] c cL_law 4 RL D k 12 600000 7302250) (hX : va_X b L xs s s.heap) (hbl : b < s.heap.size) (hbA : ¬ A b) (hL : L ≤ 256) (hj : 4 * j + 4 ≤ L) (hc : cells + 20 ≤ 600000 ∧ slots + 34000 ≤ 7302250) (hI : LInv D A s k q qm H locs) (hl : lv_has ls 4 [(0, .ref b), (1, .ref (q 0)), (2, .ref (qm 30)), (3, .int (nI (4 * j)))]) (kk : ∀ (H : Heap) (locs : List Loc), LInv D A s k q qm H locs → W p l e room_1 s m #[Value.ref b] below meth c H locs (cells + 20) (slots + 34000) Q (F0 m 1044 ls [])) : W p l e room_1 s m #[Value.ref b] below meth c H locs cells slots Q (F0 m 326 ls []) := by
  have hx := xs_hx F
  have hb := xs_hb F
  obtain ⟨z, g, S, T, r, Si, bb, hw, h, hIm⟩ := hI
  refine lv_aload_n hx hb dL_law_326 rfl (lv_at hl 1 rfl) ?_
  refine x_fVI (rest := []) (c_X6_law l D k q z g S (List.append (imW k r Si bb) (wM k qm T [])) h.okT) mo_L_41 obC_0 F hw (Nat.le_of_ble_eq_true rfl) ⟨show _ ≤ 600000 by omega, show _ ≤ 7302250 by omega⟩ rfl rfl hl.1 (Nat.le_of_ble_eq_true rfl) dL_law_327 (fun H locs hw => ?_)
  have hw : Wd D A s.heap H locs (wM k qm T (wC k q z g ((p_law S).2) (imW k r Si bb))) := hw.perm to_M
  refine lv_aload_n hx hb dL_law_330 rfl (lv_at hl 2 rfl) ?_
  refine x_fVI (rest := [.int ((p_law S).1)]) (c_X7_law l D k qm T (wC k q z g ((p_law S).2) (imW k r Si bb)) h.okMT) mo_L_44 obM F hw (Nat.le_of_ble_eq_true rfl) ⟨show _ ≤ 600000 by omega, show _ ≤ 7302250 by omega⟩ rfl rfl hl.1 (Nat.le_of_ble_eq_true rfl) dL_law_331 (fun H locs hw => ?_)
  have hw : Wd D A s.heap H locs (wC k q z g ((p_law S).2) (List.append (imW k r Si bb) (wM k qm ((m_law T).2) []))) := hw.perm to_M.symm
  have he := e_law h
  refine lv_icmp_eq (tgt := 1044) hx hb dL_law_334 rfl (fun _ => ?_) (fun q0 => absurd (he.1) q0)
  refine W.widen (k := cells + 20) (n := slots + 34000) (by omega) (by omega) ?_
  exact kk _ _ ⟨z, g, _, _, r, Si, bb, hw, he.2, RIm_T (k_law T).1 (k_law T).2 hIm⟩
set_option maxHeartbeats 4000000 in
set_option maxRecDepth 20000 in
theorem st_slip (F : Fx p room_1 s m #[Value.ref b] c cL_law 4 RL D k 12 600000 7302250) (hX : va_X b L xs s s.heap) (hbl : b < s.heap.size) (hbA : ¬ A b) (hL : L ≤ 256) (hj : 4 * j + 4 ≤ L) (hc : cells + 20 ≤ 600000 ∧ slots + 34000 ≤ 7302250) (hI : LInv D A s k q qm H locs) (hl : lv_has ls 4 [(0, .ref b), (1, .ref (q 0)), (2, .ref (qm 30)), (3, .int (nI (4 * j)))]) (kk : ∀ (H : Heap) (locs : List Loc), LInv D A s k q qm H locs → W p l e room_1 s m #[Value.ref b] below meth c H locs (cells + 20) (slots + 34000) Q (F0 m 1044 ls [])) : W p l e room_1 s m #[Value.ref b] below meth c H locs cells slots Q (F0 m 339 ls []) := by
  have hx := xs_hx F
  have hb := xs_hb F
  obtain ⟨z, g, S, T, r, Si, bb, hw, h, hIm⟩ := hI
  refine lv_aload_n hx hb dL_law_339 rfl (lv_at hl 1 rfl) ?_
  refine lv_aload_n hx hb dL_law_340 rfl (lv_at hl 0 rfl) ?_
  refine lv_iload_n hx hb dL_law_341 rfl (lv_at hl 3 rfl) ?_
  refine lv_iconst (v := nI 1) hx hb dL_law_342 rfl ?_
  refine lv_iadd hx hb dL_law_343 ?_
  refine x_top (y := nI (4 * j + 1)) (nI_add _ _) ?_
  refine x_scr hX hbl hbA hL F hw (4 * j + 1) rfl (by omega) dL_law_344 ?_
  refine lv_aload_n hx hb dL_law_345 rfl (lv_at hl 0 rfl) ?_
  refine lv_iload_n hx hb dL_law_346 rfl (lv_at hl 3 rfl) ?_
  refine lv_iconst (v := nI 2) hx hb dL_law_347 rfl ?_
  refine lv_iadd hx hb dL_law_348 ?_
  refine x_top (y := nI (4 * j + 2)) (nI_add _ _) ?_
  refine x_scr hX hbl hbA hL F hw (4 * j + 2) rfl (by omega) dL_law_349 ?_
  refine x_fVI (rest := []) (c_X6_slip l D k q z g S (List.append (imW k r Si bb) (wM k qm T [])) (xs (4 * j + 1)) (xs (4 * j + 2))) mo_L_45 obC_0 F hw (Nat.le_of_ble_eq_true rfl) ⟨show _ ≤ 600000 by omega, show _ ≤ 7302250 by omega⟩ rfl rfl hl.1 (Nat.le_of_ble_eq_true rfl) dL_law_350 (fun H locs hw => ?_)
  have hw : Wd D A s.heap H locs (wM k qm T (wC k q z g ((p_slip S (xs (4 * j + 1)) (xs (4 * j + 2))).2) (imW k r Si bb))) := hw.perm to_M
  refine lv_aload_n hx hb dL_law_353 rfl (lv_at hl 2 rfl) ?_
  refine lv_aload_n hx hb dL_law_354 rfl (lv_at hl 0 rfl) ?_
  refine lv_iload_n hx hb dL_law_355 rfl (lv_at hl 3 rfl) ?_
  refine lv_iconst (v := nI 1) hx hb dL_law_356 rfl ?_
  refine lv_iadd hx hb dL_law_357 ?_
  refine x_top (y := nI (4 * j + 1)) (nI_add _ _) ?_
  refine x_scr hX hbl hbA hL F hw (4 * j + 1) rfl (by omega) dL_law_358 ?_
  refine lv_aload_n hx hb dL_law_359 rfl (lv_at hl 0 rfl) ?_
  refine lv_iload_n hx hb dL_law_360 rfl (lv_at hl 3 rfl) ?_
  refine lv_iconst (v := nI 2) hx hb dL_law_361 rfl ?_
  refine lv_iadd hx hb dL_law_362 ?_
  refine x_top (y := nI (4 * j + 2)) (nI_add _ _) ?_
  refine x_scr hX hbl hbA hL F hw (4 * j + 2) rfl (by omega) dL_law_363 ?_
  refine x_callVI (rest := [.int ((p_slip S (xs (4 * j + 1)) (xs (4 * j + 2))).1)]) (c_X7_slip l D k qm T (wC k q z g ((p_slip S (xs (4 * j + 1)) (xs (4 * j + 2))).2) (imW k r Si bb)) (xs (4 * j + 1)) (xs (4 * j + 2)) h.okML h.okMV) mo_L_48 obM F hw (Nat.le_of_ble_eq_true rfl) ⟨show _ ≤ 600000 by omega, show _ ≤ 7302250 by omega⟩ rfl rfl hl.1 (Nat.le_of_ble_eq_true rfl) dL_law_364 (fun r2 w_ H locs hp hw => ?_)
  obtain ⟨T', hp2, hq, e2⟩ := hp
  rw [hp2] at hw
  have hw : Wd D A s.heap H locs (wC k q z g ((p_slip S (xs (4 * j + 1)) (xs (4 * j + 2))).2) (List.append (imW k r Si bb) (wM k qm T' []))) := hw.perm to_M.symm
  have he := e_slip h (xs (4 * j + 1)) (xs (4 * j + 2)) hq
  refine lv_icmp_eq (tgt := 1044) hx hb dL_law_367 rfl (fun _ => ?_) (fun q0 => absurd (he.1.trans e2.symm) q0)
  refine W.widen (k := cells + 20) (n := slots + 34000) (by omega) (by omega) ?_
  exact kk _ _ ⟨z, g, _, _, r, Si, bb, hw, he.2, RIm_T (SlR_28 hq).1 (SlR_28 hq).2 hIm⟩
set_option maxHeartbeats 4000000 in
set_option maxRecDepth 20000 in
theorem st_cost (F : Fx p room_1 s m #[Value.ref b] c cL_law 4 RL D k 12 600000 7302250) (hX : va_X b L xs s s.heap) (hbl : b < s.heap.size) (hbA : ¬ A b) (hL : L ≤ 256) (hj : 4 * j + 4 ≤ L) (hc : cells + 20 ≤ 600000 ∧ slots + 34000 ≤ 7302250) (hI : LInv D A s k q qm H locs) (hl : lv_has ls 4 [(0, .ref b), (1, .ref (q 0)), (2, .ref (qm 30)), (3, .int (nI (4 * j)))]) (kk : ∀ (H : Heap) (locs : List Loc), LInv D A s k q qm H locs → W p l e room_1 s m #[Value.ref b] below meth c H locs (cells + 20) (slots + 34000) Q (F0 m 1044 ls [])) : W p l e room_1 s m #[Value.ref b] below meth c H locs cells slots Q (F0 m 372 ls []) := by
  have hx := xs_hx F
  have hb := xs_hb F
  obtain ⟨z, g, S, T, r, Si, bb, hw, h, hIm⟩ := hI
  refine lv_aload_n hx hb dL_law_372 rfl (lv_at hl 1 rfl) ?_
  refine lv_aload_n hx hb dL_law_373 rfl (lv_at hl 0 rfl) ?_
  refine lv_iload_n hx hb dL_law_374 rfl (lv_at hl 3 rfl) ?_
  refine lv_iconst (v := nI 1) hx hb dL_law_375 rfl ?_
  refine lv_iadd hx hb dL_law_376 ?_
  refine x_top (y := nI (4 * j + 1)) (nI_add _ _) ?_
  refine x_scr hX hbl hbA hL F hw (4 * j + 1) rfl (by omega) dL_law_377 ?_
  refine lv_aload_n hx hb dL_law_378 rfl (lv_at hl 0 rfl) ?_
  refine lv_iload_n hx hb dL_law_379 rfl (lv_at hl 3 rfl) ?_
  refine lv_iconst (v := nI 2) hx hb dL_law_380 rfl ?_
  refine lv_iadd hx hb dL_law_381 ?_
  refine x_top (y := nI (4 * j + 2)) (nI_add _ _) ?_
  refine x_scr hX hbl hbA hL F hw (4 * j + 2) rfl (by omega) dL_law_382 ?_
  refine x_fVI (rest := []) (c_X6_cost l D k q z g S (List.append (imW k r Si bb) (wM k qm T [])) (xs (4 * j + 1)) (xs (4 * j + 2))) mo_L_49 obC_0 F hw (Nat.le_of_ble_eq_true rfl) ⟨show _ ≤ 600000 by omega, show _ ≤ 7302250 by omega⟩ rfl rfl hl.1 (Nat.le_of_ble_eq_true rfl) dL_law_383 (fun H locs hw => ?_)
  have hw : Wd D A s.heap H locs (wM k qm T (wC k q z g ((p_cost S (xs (4 * j + 1)) (xs (4 * j + 2))).2) (imW k r Si bb))) := hw.perm to_M
  refine lv_aload_n hx hb dL_law_386 rfl (lv_at hl 2 rfl) ?_
  refine lv_aload_n hx hb dL_law_387 rfl (lv_at hl 0 rfl) ?_
  refine lv_iload_n hx hb dL_law_388 rfl (lv_at hl 3 rfl) ?_
  refine lv_iconst (v := nI 1) hx hb dL_law_389 rfl ?_
  refine lv_iadd hx hb dL_law_390 ?_
  refine x_top (y := nI (4 * j + 1)) (nI_add _ _) ?_
  refine x_scr hX hbl hbA hL F hw (4 * j + 1) rfl (by omega) dL_law_391 ?_
  refine lv_aload_n hx hb dL_law_392 rfl (lv_at hl 0 rfl) ?_
  refine lv_iload_n hx hb dL_law_393 rfl (lv_at hl 3 rfl) ?_
  refine lv_iconst (v := nI 2) hx hb dL_law_394 rfl ?_
  refine lv_iadd hx hb dL_law_395 ?_
  refine x_top (y := nI (4 * j + 2)) (nI_add _ _) ?_
  refine x_scr hX hbl hbA hL F hw (4 * j + 2) rfl (by omega) dL_law_396 ?_
  refine x_callVI (rest := [.int ((p_cost S (xs (4 * j + 1)) (xs (4 * j + 2))).1)]) (c_X7_cost l D k qm T (wC k q z g ((p_cost S (xs (4 * j + 1)) (xs (4 * j + 2))).2) (imW k r Si bb)) (xs (4 * j + 1)) (xs (4 * j + 2)) h.okML h.okMV) mo_L_52 obM F hw (Nat.le_of_ble_eq_true rfl) ⟨show _ ≤ 600000 by omega, show _ ≤ 7302250 by omega⟩ rfl rfl hl.1 (Nat.le_of_ble_eq_true rfl) dL_law_397 (fun r2 w_ H locs hp hw => ?_)
  obtain ⟨T', hp2, hq, e2⟩ := hp
  rw [hp2] at hw
  have hw : Wd D A s.heap H locs (wC k q z g ((p_cost S (xs (4 * j + 1)) (xs (4 * j + 2))).2) (List.append (imW k r Si bb) (wM k qm T' []))) := hw.perm to_M.symm
  have he := e_cost h (xs (4 * j + 1)) (xs (4 * j + 2)) hq
  refine lv_icmp_eq (tgt := 1044) hx hb dL_law_400 rfl (fun _ => ?_) (fun q0 => absurd (he.1.trans e2.symm) q0)
  refine W.widen (k := cells + 20) (n := slots + 34000) (by omega) (by omega) ?_
  exact kk _ _ ⟨z, g, _, _, r, Si, bb, hw, he.2, RIm_T (SlR_28 hq).1 (SlR_28 hq).2 hIm⟩
set_option maxHeartbeats 4000000 in
set_option maxRecDepth 20000 in
theorem st_least (F : Fx p room_1 s m #[Value.ref b] c cL_law 4 RL D k 12 600000 7302250) (hX : va_X b L xs s s.heap) (hbl : b < s.heap.size) (hbA : ¬ A b) (hL : L ≤ 256) (hj : 4 * j + 4 ≤ L) (hc : cells + 20 ≤ 600000 ∧ slots + 34000 ≤ 7302250) (hI : LInv D A s k q qm H locs) (hl : lv_has ls 4 [(0, .ref b), (1, .ref (q 0)), (2, .ref (qm 30)), (3, .int (nI (4 * j)))]) (kk : ∀ (H : Heap) (locs : List Loc), LInv D A s k q qm H locs → W p l e room_1 s m #[Value.ref b] below meth c H locs (cells + 20) (slots + 34000) Q (F0 m 1044 ls [])) : W p l e room_1 s m #[Value.ref b] below meth c H locs cells slots Q (F0 m 405 ls []) := by
  have hx := xs_hx F
  have hb := xs_hb F
  obtain ⟨z, g, S, T, r, Si, bb, hw, h, hIm⟩ := hI
  refine lv_aload_n hx hb dL_law_405 rfl (lv_at hl 1 rfl) ?_
  refine lv_aload_n hx hb dL_law_406 rfl (lv_at hl 0 rfl) ?_
  refine lv_iload_n hx hb dL_law_407 rfl (lv_at hl 3 rfl) ?_
  refine lv_iconst (v := nI 1) hx hb dL_law_408 rfl ?_
  refine lv_iadd hx hb dL_law_409 ?_
  refine x_top (y := nI (4 * j + 1)) (nI_add _ _) ?_
  refine x_scr hX hbl hbA hL F hw (4 * j + 1) rfl (by omega) dL_law_410 ?_
  refine x_callVI (rest := []) (c_X6_least l D k q z g S (List.append (imW k r Si bb) (wM k qm T [])) (xs (4 * j + 1)) h.okP h.2.2.2.1.2.2 h.2.2.2.1.1 h.2.2.2.1.2.1 h.cap) mo_L_53 obC_0 F hw (Nat.le_of_ble_eq_true rfl) ⟨show _ ≤ 600000 by omega, show _ ≤ 7302250 by omega⟩ rfl rfl hl.1 (Nat.le_of_ble_eq_true rfl) dL_law_411 (fun r1 w_ H locs hp hw => ?_)
  obtain ⟨z', S', hp1, hlr⟩ := hp
  rw [hp1] at hw
  have hw : Wd D A s.heap H locs (wM k qm T (wC k q z' g S' (imW k r Si bb))) := hw.perm to_M
  refine lv_aload_n hx hb dL_law_414 rfl (lv_at hl 2 rfl) ?_
  refine lv_aload_n hx hb dL_law_415 rfl (lv_at hl 0 rfl) ?_
  refine lv_iload_n hx hb dL_law_416 rfl (lv_at hl 3 rfl) ?_
  refine lv_iconst (v := nI 1) hx hb dL_law_417 rfl ?_
  refine lv_iadd hx hb dL_law_418 ?_
  refine x_top (y := nI (4 * j + 1)) (nI_add _ _) ?_
  refine x_scr hX hbl hbA hL F hw (4 * j + 1) rfl (by omega) dL_law_419 ?_
  refine x_callVI (rest := [.int r1]) (c_X7_least l D k qm T (wC k q z' g S' (imW k r Si bb)) (xs (4 * j + 1)) h.okMP h.okML h.okMV h.okMB h.2.2.2.2) mo_L_56 obM F hw (Nat.le_of_ble_eq_true rfl) ⟨show _ ≤ 600000 by omega, show _ ≤ 7302250 by omega⟩ rfl rfl hl.1 (Nat.le_of_ble_eq_true rfl) dL_law_420 (fun r2 w_ H locs hp hw => ?_)
  obtain ⟨T', hp2, hq, e2⟩ := hp
  rw [hp2] at hw
  have hw : Wd D A s.heap H locs (wC k q z' g S' (List.append (imW k r Si bb) (wM k qm T' []))) := hw.perm to_M.symm
  have he := t_least h hlr hq
  refine lv_icmp_eq (tgt := 1044) hx hb dL_law_423 rfl (fun _ => ?_) (fun q0 => absurd (he.1.trans e2.symm) q0)
  refine W.widen (k := cells + 20) (n := slots + 34000) (by omega) (by omega) ?_
  exact kk _ _ ⟨z', g, _, _, r, Si, bb, hw, he.2, RIm_T (LQ_28 hq).1 (LQ_28 hq).2 hIm⟩
set_option maxHeartbeats 4000000 in
set_option maxRecDepth 20000 in
theorem st_kept (F : Fx p room_1 s m #[Value.ref b] c cL_law 4 RL D k 12 600000 7302250) (hX : va_X b L xs s s.heap) (hbl : b < s.heap.size) (hbA : ¬ A b) (hL : L ≤ 256) (hj : 4 * j + 4 ≤ L) (hc : cells + 20 ≤ 600000 ∧ slots + 34000 ≤ 7302250) (hI : LInv D A s k q qm H locs) (hl : lv_has ls 4 [(0, .ref b), (1, .ref (q 0)), (2, .ref (qm 30)), (3, .int (nI (4 * j)))]) (kk : ∀ (H : Heap) (locs : List Loc), LInv D A s k q qm H locs → W p l e room_1 s m #[Value.ref b] below meth c H locs (cells + 20) (slots + 34000) Q (F0 m 1044 ls [])) : W p l e room_1 s m #[Value.ref b] below meth c H locs cells slots Q (F0 m 428 ls []) := by
  have hx := xs_hx F
  have hb := xs_hb F
  obtain ⟨z, g, S, T, r, Si, bb, hw, h, hIm⟩ := hI
  refine lv_aload_n hx hb dL_law_428 rfl (lv_at hl 1 rfl) ?_
  refine lv_aload_n hx hb dL_law_429 rfl (lv_at hl 0 rfl) ?_
  refine lv_iload_n hx hb dL_law_430 rfl (lv_at hl 3 rfl) ?_
  refine lv_iconst (v := nI 1) hx hb dL_law_431 rfl ?_
  refine lv_iadd hx hb dL_law_432 ?_
  refine x_top (y := nI (4 * j + 1)) (nI_add _ _) ?_
  refine x_scr hX hbl hbA hL F hw (4 * j + 1) rfl (by omega) dL_law_433 ?_
  refine lv_aload_n hx hb dL_law_434 rfl (lv_at hl 0 rfl) ?_
  refine lv_iload_n hx hb dL_law_435 rfl (lv_at hl 3 rfl) ?_
  refine lv_iconst (v := nI 2) hx hb dL_law_436 rfl ?_
  refine lv_iadd hx hb dL_law_437 ?_
  refine x_top (y := nI (4 * j + 2)) (nI_add _ _) ?_
  refine x_scr hX hbl hbA hL F hw (4 * j + 2) rfl (by omega) dL_law_438 ?_
  refine lv_aload_n hx hb dL_law_439 rfl (lv_at hl 0 rfl) ?_
  refine lv_iload_n hx hb dL_law_440 rfl (lv_at hl 3 rfl) ?_
  refine lv_iconst (v := nI 3) hx hb dL_law_441 rfl ?_
  refine lv_iadd hx hb dL_law_442 ?_
  refine x_top (y := nI (4 * j + 3)) (nI_add _ _) ?_
  refine x_scr hX hbl hbA hL F hw (4 * j + 3) rfl (by omega) dL_law_443 ?_
  refine x_callVI (rest := []) (c_X6_kept l D k q z g S (List.append (imW k r Si bb) (wM k qm T [])) (xs (4 * j + 1)) (xs (4 * j + 2)) (xs (4 * j + 3)) h.okP h.2.2.2.1.2.2 h.2.2.2.1.1 h.2.2.2.1.2.1 h.cap) mo_L_57 obC_0 F hw (Nat.le_of_ble_eq_true rfl) ⟨show _ ≤ 600000 by omega, show _ ≤ 7302250 by omega⟩ rfl rfl hl.1 (Nat.le_of_ble_eq_true rfl) dL_law_444 (fun r1 w_ H locs hp hw => ?_)
  obtain ⟨z', S', hp1, hlr⟩ := hp
  rw [hp1] at hw
  have hw : Wd D A s.heap H locs (wM k qm T (wC k q z' g S' (imW k r Si bb))) := hw.perm to_M
  refine lv_aload_n hx hb dL_law_447 rfl (lv_at hl 2 rfl) ?_
  refine lv_aload_n hx hb dL_law_448 rfl (lv_at hl 0 rfl) ?_
  refine lv_iload_n hx hb dL_law_449 rfl (lv_at hl 3 rfl) ?_
  refine lv_iconst (v := nI 1) hx hb dL_law_450 rfl ?_
  refine lv_iadd hx hb dL_law_451 ?_
  refine x_top (y := nI (4 * j + 1)) (nI_add _ _) ?_
  refine x_scr hX hbl hbA hL F hw (4 * j + 1) rfl (by omega) dL_law_452 ?_
  refine lv_aload_n hx hb dL_law_453 rfl (lv_at hl 0 rfl) ?_
  refine lv_iload_n hx hb dL_law_454 rfl (lv_at hl 3 rfl) ?_
  refine lv_iconst (v := nI 2) hx hb dL_law_455 rfl ?_
  refine lv_iadd hx hb dL_law_456 ?_
  refine x_top (y := nI (4 * j + 2)) (nI_add _ _) ?_
  refine x_scr hX hbl hbA hL F hw (4 * j + 2) rfl (by omega) dL_law_457 ?_
  refine lv_aload_n hx hb dL_law_458 rfl (lv_at hl 0 rfl) ?_
  refine lv_iload_n hx hb dL_law_459 rfl (lv_at hl 3 rfl) ?_
  refine lv_iconst (v := nI 3) hx hb dL_law_460 rfl ?_
  refine lv_iadd hx hb dL_law_461 ?_
  refine x_top (y := nI (4 * j + 3)) (nI_add _ _) ?_
  refine x_scr hX hbl hbA hL F hw (4 * j + 3) rfl (by omega) dL_law_462 ?_
  refine x_callVI (rest := [.int r1]) (c_X7_kept l D k qm T (wC k q z' g S' (imW k r Si bb)) (xs (4 * j + 1)) (xs (4 * j + 2)) (xs (4 * j + 3)) h.okMP h.okML h.okMV h.okMB h.2.2.2.2) mo_L_60 obM F hw (Nat.le_of_ble_eq_true rfl) ⟨show _ ≤ 600000 by omega, show _ ≤ 7302250 by omega⟩ rfl rfl hl.1 (Nat.le_of_ble_eq_true rfl) dL_law_463 (fun r2 w_ H locs hp hw => ?_)
  obtain ⟨T', hp2, hq, e2⟩ := hp
  rw [hp2] at hw
  have hw : Wd D A s.heap H locs (wC k q z' g S' (List.append (imW k r Si bb) (wM k qm T' []))) := hw.perm to_M.symm
  have he := t_kept h hlr hq
  refine lv_icmp_eq (tgt := 1044) hx hb dL_law_466 rfl (fun _ => ?_) (fun q0 => absurd (he.1.trans e2.symm) q0)
  refine W.widen (k := cells + 20) (n := slots + 34000) (by omega) (by omega) ?_
  exact kk _ _ ⟨z', g, _, _, r, Si, bb, hw, he.2, RIm_T (LQ_28 hq).1 (LQ_28 hq).2 hIm⟩
set_option maxHeartbeats 4000000 in
set_option maxRecDepth 20000 in
theorem st_sure (F : Fx p room_1 s m #[Value.ref b] c cL_law 4 RL D k 12 600000 7302250) (hX : va_X b L xs s s.heap) (hbl : b < s.heap.size) (hbA : ¬ A b) (hL : L ≤ 256) (hj : 4 * j + 4 ≤ L) (hc : cells + 20 ≤ 600000 ∧ slots + 34000 ≤ 7302250) (hI : LInv D A s k q qm H locs) (hl : lv_has ls 4 [(0, .ref b), (1, .ref (q 0)), (2, .ref (qm 30)), (3, .int (nI (4 * j)))]) (kk : ∀ (H : Heap) (locs : List Loc), LInv D A s k q qm H locs → W p l e room_1 s m #[Value.ref b] below meth c H locs (cells + 20) (slots + 34000) Q (F0 m 1044 ls [])) : W p l e room_1 s m #[Value.ref b] below meth c H locs cells slots Q (F0 m 471 ls []) := by
  have hx := xs_hx F
  have hb := xs_hb F
  obtain ⟨z, g, S, T, r, Si, bb, hw, h, hIm⟩ := hI
  refine lv_aload_n hx hb dL_law_471 rfl (lv_at hl 1 rfl) ?_
  refine lv_aload_n hx hb dL_law_472 rfl (lv_at hl 0 rfl) ?_
  refine lv_iload_n hx hb dL_law_473 rfl (lv_at hl 3 rfl) ?_
  refine lv_iconst (v := nI 1) hx hb dL_law_474 rfl ?_
  refine lv_iadd hx hb dL_law_475 ?_
  refine x_top (y := nI (4 * j + 1)) (nI_add _ _) ?_
  refine x_scr hX hbl hbA hL F hw (4 * j + 1) rfl (by omega) dL_law_476 ?_
  refine lv_aload_n hx hb dL_law_477 rfl (lv_at hl 0 rfl) ?_
  refine lv_iload_n hx hb dL_law_478 rfl (lv_at hl 3 rfl) ?_
  refine lv_iconst (v := nI 2) hx hb dL_law_479 rfl ?_
  refine lv_iadd hx hb dL_law_480 ?_
  refine x_top (y := nI (4 * j + 2)) (nI_add _ _) ?_
  refine x_scr hX hbl hbA hL F hw (4 * j + 2) rfl (by omega) dL_law_481 ?_
  refine x_callVI (rest := []) (c_X6_sure l D k q z g S (List.append (imW k r Si bb) (wM k qm T [])) (xs (4 * j + 1)) (xs (4 * j + 2)) h.okP h.2.2.2.1.2.2 h.2.2.2.1.1 h.2.2.2.1.2.1 h.cap) mo_L_61 obC_0 F hw (Nat.le_of_ble_eq_true rfl) ⟨show _ ≤ 600000 by omega, show _ ≤ 7302250 by omega⟩ rfl rfl hl.1 (Nat.le_of_ble_eq_true rfl) dL_law_482 (fun r1 w_ H locs hp hw => ?_)
  obtain ⟨z', S', hp1, hlr⟩ := hp
  rw [hp1] at hw
  have hw : Wd D A s.heap H locs (wM k qm T (wC k q z' g S' (imW k r Si bb))) := hw.perm to_M
  refine lv_aload_n hx hb dL_law_485 rfl (lv_at hl 2 rfl) ?_
  refine lv_aload_n hx hb dL_law_486 rfl (lv_at hl 0 rfl) ?_
  refine lv_iload_n hx hb dL_law_487 rfl (lv_at hl 3 rfl) ?_
  refine lv_iconst (v := nI 1) hx hb dL_law_488 rfl ?_
  refine lv_iadd hx hb dL_law_489 ?_
  refine x_top (y := nI (4 * j + 1)) (nI_add _ _) ?_
  refine x_scr hX hbl hbA hL F hw (4 * j + 1) rfl (by omega) dL_law_490 ?_
  refine lv_aload_n hx hb dL_law_491 rfl (lv_at hl 0 rfl) ?_
  refine lv_iload_n hx hb dL_law_492 rfl (lv_at hl 3 rfl) ?_
  refine lv_iconst (v := nI 2) hx hb dL_law_493 rfl ?_
  refine lv_iadd hx hb dL_law_494 ?_
  refine x_top (y := nI (4 * j + 2)) (nI_add _ _) ?_
  refine x_scr hX hbl hbA hL F hw (4 * j + 2) rfl (by omega) dL_law_495 ?_
  refine x_callVI (rest := [.int r1]) (c_X7_sure l D k qm T (wC k q z' g S' (imW k r Si bb)) (xs (4 * j + 1)) (xs (4 * j + 2)) h.okMP h.okML h.okMV h.okMB h.2.2.2.2) mo_L_64 obM F hw (Nat.le_of_ble_eq_true rfl) ⟨show _ ≤ 600000 by omega, show _ ≤ 7302250 by omega⟩ rfl rfl hl.1 (Nat.le_of_ble_eq_true rfl) dL_law_496 (fun r2 w_ H locs hp hw => ?_)
  obtain ⟨T', hp2, hq, e2⟩ := hp
  rw [hp2] at hw
  have hw : Wd D A s.heap H locs (wC k q z' g S' (List.append (imW k r Si bb) (wM k qm T' []))) := hw.perm to_M.symm
  have he := t_sure h hlr hq
  refine lv_icmp_eq (tgt := 1044) hx hb dL_law_499 rfl (fun _ => ?_) (fun q0 => absurd (he.1.trans e2.symm) q0)
  refine W.widen (k := cells + 20) (n := slots + 34000) (by omega) (by omega) ?_
  exact kk _ _ ⟨z', g, _, _, r, Si, bb, hw, he.2, RIm_T (LQ_28 hq).1 (LQ_28 hq).2 hIm⟩
set_option maxHeartbeats 4000000 in
set_option maxRecDepth 20000 in
theorem st_lost (F : Fx p room_1 s m #[Value.ref b] c cL_law 4 RL D k 12 600000 7302250) (hX : va_X b L xs s s.heap) (hbl : b < s.heap.size) (hbA : ¬ A b) (hL : L ≤ 256) (hj : 4 * j + 4 ≤ L) (hc : cells + 20 ≤ 600000 ∧ slots + 34000 ≤ 7302250) (hI : LInv D A s k q qm H locs) (hl : lv_has ls 4 [(0, .ref b), (1, .ref (q 0)), (2, .ref (qm 30)), (3, .int (nI (4 * j)))]) (kk : ∀ (H : Heap) (locs : List Loc), LInv D A s k q qm H locs → W p l e room_1 s m #[Value.ref b] below meth c H locs (cells + 20) (slots + 34000) Q (F0 m 1044 ls [])) : W p l e room_1 s m #[Value.ref b] below meth c H locs cells slots Q (F0 m 504 ls []) := by
  have hx := xs_hx F
  have hb := xs_hb F
  obtain ⟨z, g, S, T, r, Si, bb, hw, h, hIm⟩ := hI
  refine lv_aload_n hx hb dL_law_504 rfl (lv_at hl 1 rfl) ?_
  refine lv_aload_n hx hb dL_law_505 rfl (lv_at hl 0 rfl) ?_
  refine lv_iload_n hx hb dL_law_506 rfl (lv_at hl 3 rfl) ?_
  refine lv_iconst (v := nI 1) hx hb dL_law_507 rfl ?_
  refine lv_iadd hx hb dL_law_508 ?_
  refine x_top (y := nI (4 * j + 1)) (nI_add _ _) ?_
  refine x_scr hX hbl hbA hL F hw (4 * j + 1) rfl (by omega) dL_law_509 ?_
  refine lv_aload_n hx hb dL_law_510 rfl (lv_at hl 0 rfl) ?_
  refine lv_iload_n hx hb dL_law_511 rfl (lv_at hl 3 rfl) ?_
  refine lv_iconst (v := nI 2) hx hb dL_law_512 rfl ?_
  refine lv_iadd hx hb dL_law_513 ?_
  refine x_top (y := nI (4 * j + 2)) (nI_add _ _) ?_
  refine x_scr hX hbl hbA hL F hw (4 * j + 2) rfl (by omega) dL_law_514 ?_
  refine lv_aload_n hx hb dL_law_515 rfl (lv_at hl 0 rfl) ?_
  refine lv_iload_n hx hb dL_law_516 rfl (lv_at hl 3 rfl) ?_
  refine lv_iconst (v := nI 3) hx hb dL_law_517 rfl ?_
  refine lv_iadd hx hb dL_law_518 ?_
  refine x_top (y := nI (4 * j + 3)) (nI_add _ _) ?_
  refine x_scr hX hbl hbA hL F hw (4 * j + 3) rfl (by omega) dL_law_519 ?_
  refine x_fVI (rest := []) (c_X6_lost l D k q z g S (List.append (imW k r Si bb) (wM k qm T [])) (xs (4 * j + 1)) (xs (4 * j + 2)) (xs (4 * j + 3)) h.okP) mo_L_65 obC_0 F hw (Nat.le_of_ble_eq_true rfl) ⟨show _ ≤ 600000 by omega, show _ ≤ 7302250 by omega⟩ rfl rfl hl.1 (Nat.le_of_ble_eq_true rfl) dL_law_520 (fun H locs hw => ?_)
  have hw : Wd D A s.heap H locs (wM k qm T (wC k q z g ((p_lost S (xs (4 * j + 1)) (xs (4 * j + 2)) (xs (4 * j + 3))).2) (imW k r Si bb))) := hw.perm to_M
  refine lv_aload_n hx hb dL_law_523 rfl (lv_at hl 2 rfl) ?_
  refine lv_aload_n hx hb dL_law_524 rfl (lv_at hl 0 rfl) ?_
  refine lv_iload_n hx hb dL_law_525 rfl (lv_at hl 3 rfl) ?_
  refine lv_iconst (v := nI 1) hx hb dL_law_526 rfl ?_
  refine lv_iadd hx hb dL_law_527 ?_
  refine x_top (y := nI (4 * j + 1)) (nI_add _ _) ?_
  refine x_scr hX hbl hbA hL F hw (4 * j + 1) rfl (by omega) dL_law_528 ?_
  refine lv_aload_n hx hb dL_law_529 rfl (lv_at hl 0 rfl) ?_
  refine lv_iload_n hx hb dL_law_530 rfl (lv_at hl 3 rfl) ?_
  refine lv_iconst (v := nI 2) hx hb dL_law_531 rfl ?_
  refine lv_iadd hx hb dL_law_532 ?_
  refine x_top (y := nI (4 * j + 2)) (nI_add _ _) ?_
  refine x_scr hX hbl hbA hL F hw (4 * j + 2) rfl (by omega) dL_law_533 ?_
  refine lv_aload_n hx hb dL_law_534 rfl (lv_at hl 0 rfl) ?_
  refine lv_iload_n hx hb dL_law_535 rfl (lv_at hl 3 rfl) ?_
  refine lv_iconst (v := nI 3) hx hb dL_law_536 rfl ?_
  refine lv_iadd hx hb dL_law_537 ?_
  refine x_top (y := nI (4 * j + 3)) (nI_add _ _) ?_
  refine x_scr hX hbl hbA hL F hw (4 * j + 3) rfl (by omega) dL_law_538 ?_
  refine x_callVI (rest := [.int ((p_lost S (xs (4 * j + 1)) (xs (4 * j + 2)) (xs (4 * j + 3))).1)]) (c_X7_lost l D k qm T (wC k q z g ((p_lost S (xs (4 * j + 1)) (xs (4 * j + 2)) (xs (4 * j + 3))).2) (imW k r Si bb)) (xs (4 * j + 1)) (xs (4 * j + 2)) (xs (4 * j + 3)) h.okMP h.okML h.okMV) mo_L_68 obM F hw (Nat.le_of_ble_eq_true rfl) ⟨show _ ≤ 600000 by omega, show _ ≤ 7302250 by omega⟩ rfl rfl hl.1 (Nat.le_of_ble_eq_true rfl) dL_law_539 (fun r2 w_ H locs hp hw => ?_)
  obtain ⟨T', hp2, hq, e2⟩ := hp
  rw [hp2] at hw
  have hw : Wd D A s.heap H locs (wC k q z g ((p_lost S (xs (4 * j + 1)) (xs (4 * j + 2)) (xs (4 * j + 3))).2) (List.append (imW k r Si bb) (wM k qm T' []))) := hw.perm to_M.symm
  have he := e_lost h (xs (4 * j + 1)) (xs (4 * j + 2)) (xs (4 * j + 3)) hq
  refine lv_icmp_eq (tgt := 1044) hx hb dL_law_542 rfl (fun _ => ?_) (fun q0 => absurd (he.1.trans e2.symm) q0)
  refine W.widen (k := cells + 20) (n := slots + 34000) (by omega) (by omega) ?_
  exact kk _ _ ⟨z, g, _, _, r, Si, bb, hw, he.2, RIm_T (SlR_28 hq).1 (SlR_28 hq).2 hIm⟩
set_option maxHeartbeats 4000000 in
set_option maxRecDepth 20000 in
theorem st_width (F : Fx p room_1 s m #[Value.ref b] c cL_law 4 RL D k 12 600000 7302250) (hX : va_X b L xs s s.heap) (hbl : b < s.heap.size) (hbA : ¬ A b) (hL : L ≤ 256) (hj : 4 * j + 4 ≤ L) (hc : cells + 20 ≤ 600000 ∧ slots + 34000 ≤ 7302250) (hI : LInv D A s k q qm H locs) (hl : lv_has ls 4 [(0, .ref b), (1, .ref (q 0)), (2, .ref (qm 30)), (3, .int (nI (4 * j)))]) (kk : ∀ (H : Heap) (locs : List Loc), LInv D A s k q qm H locs → W p l e room_1 s m #[Value.ref b] below meth c H locs (cells + 20) (slots + 34000) Q (F0 m 1044 ls [])) : W p l e room_1 s m #[Value.ref b] below meth c H locs cells slots Q (F0 m 547 ls []) := by
  have hx := xs_hx F
  have hb := xs_hb F
  obtain ⟨z, g, S, T, r, Si, bb, hw, h, hIm⟩ := hI
  refine lv_aload_n hx hb dL_law_547 rfl (lv_at hl 1 rfl) ?_
  refine lv_aload_n hx hb dL_law_548 rfl (lv_at hl 0 rfl) ?_
  refine lv_iload_n hx hb dL_law_549 rfl (lv_at hl 3 rfl) ?_
  refine lv_iconst (v := nI 1) hx hb dL_law_550 rfl ?_
  refine lv_iadd hx hb dL_law_551 ?_
  refine x_top (y := nI (4 * j + 1)) (nI_add _ _) ?_
  refine x_scr hX hbl hbA hL F hw (4 * j + 1) rfl (by omega) dL_law_552 ?_
  refine lv_aload_n hx hb dL_law_553 rfl (lv_at hl 0 rfl) ?_
  refine lv_iload_n hx hb dL_law_554 rfl (lv_at hl 3 rfl) ?_
  refine lv_iconst (v := nI 2) hx hb dL_law_555 rfl ?_
  refine lv_iadd hx hb dL_law_556 ?_
  refine x_top (y := nI (4 * j + 2)) (nI_add _ _) ?_
  refine x_scr hX hbl hbA hL F hw (4 * j + 2) rfl (by omega) dL_law_557 ?_
  refine x_fVI (rest := []) (c_X6_width l D k q z g S (List.append (imW k r Si bb) (wM k qm T [])) (xs (4 * j + 1)) (xs (4 * j + 2)) h.okP) mo_L_69 obC_0 F hw (Nat.le_of_ble_eq_true rfl) ⟨show _ ≤ 600000 by omega, show _ ≤ 7302250 by omega⟩ rfl rfl hl.1 (Nat.le_of_ble_eq_true rfl) dL_law_558 (fun H locs hw => ?_)
  have hw : Wd D A s.heap H locs (wM k qm T (wC k q z g ((p_width S (xs (4 * j + 1)) (xs (4 * j + 2))).2) (imW k r Si bb))) := hw.perm to_M
  refine lv_aload_n hx hb dL_law_561 rfl (lv_at hl 2 rfl) ?_
  refine lv_aload_n hx hb dL_law_562 rfl (lv_at hl 0 rfl) ?_
  refine lv_iload_n hx hb dL_law_563 rfl (lv_at hl 3 rfl) ?_
  refine lv_iconst (v := nI 1) hx hb dL_law_564 rfl ?_
  refine lv_iadd hx hb dL_law_565 ?_
  refine x_top (y := nI (4 * j + 1)) (nI_add _ _) ?_
  refine x_scr hX hbl hbA hL F hw (4 * j + 1) rfl (by omega) dL_law_566 ?_
  refine lv_aload_n hx hb dL_law_567 rfl (lv_at hl 0 rfl) ?_
  refine lv_iload_n hx hb dL_law_568 rfl (lv_at hl 3 rfl) ?_
  refine lv_iconst (v := nI 2) hx hb dL_law_569 rfl ?_
  refine lv_iadd hx hb dL_law_570 ?_
  refine x_top (y := nI (4 * j + 2)) (nI_add _ _) ?_
  refine x_scr hX hbl hbA hL F hw (4 * j + 2) rfl (by omega) dL_law_571 ?_
  refine x_fVI (rest := [.int ((p_width S (xs (4 * j + 1)) (xs (4 * j + 2))).1)]) (c_X7_width l D k qm T (wC k q z g ((p_width S (xs (4 * j + 1)) (xs (4 * j + 2))).2) (imW k r Si bb)) (xs (4 * j + 1)) (xs (4 * j + 2)) h.okMP) mo_L_72 obM F hw (Nat.le_of_ble_eq_true rfl) ⟨show _ ≤ 600000 by omega, show _ ≤ 7302250 by omega⟩ rfl rfl hl.1 (Nat.le_of_ble_eq_true rfl) dL_law_572 (fun H locs hw => ?_)
  have hw : Wd D A s.heap H locs (wC k q z g ((p_width S (xs (4 * j + 1)) (xs (4 * j + 2))).2) (List.append (imW k r Si bb) (wM k qm ((m_width T (xs (4 * j + 1)) (xs (4 * j + 2))).2) []))) := hw.perm to_M.symm
  have he := e_width h (xs (4 * j + 1)) (xs (4 * j + 2))
  refine lv_icmp_eq (tgt := 1044) hx hb dL_law_575 rfl (fun _ => ?_) (fun q0 => absurd (he.1) q0)
  refine W.widen (k := cells + 20) (n := slots + 34000) (by omega) (by omega) ?_
  exact kk _ _ ⟨z, g, _, _, r, Si, bb, hw, he.2, RIm_T (k_width T (xs (4 * j + 1)) (xs (4 * j + 2))).1 (k_width T (xs (4 * j + 1)) (xs (4 * j + 2))).2 hIm⟩
set_option maxHeartbeats 4000000 in
set_option maxRecDepth 20000 in
theorem st_spread (F : Fx p room_1 s m #[Value.ref b] c cL_law 4 RL D k 12 600000 7302250) (hX : va_X b L xs s s.heap) (hbl : b < s.heap.size) (hbA : ¬ A b) (hL : L ≤ 256) (hj : 4 * j + 4 ≤ L) (hc : cells + 20 ≤ 600000 ∧ slots + 34000 ≤ 7302250) (hI : LInv D A s k q qm H locs) (hl : lv_has ls 4 [(0, .ref b), (1, .ref (q 0)), (2, .ref (qm 30)), (3, .int (nI (4 * j)))]) (kk : ∀ (H : Heap) (locs : List Loc), LInv D A s k q qm H locs → W p l e room_1 s m #[Value.ref b] below meth c H locs (cells + 20) (slots + 34000) Q (F0 m 1044 ls [])) : W p l e room_1 s m #[Value.ref b] below meth c H locs cells slots Q (F0 m 580 ls []) := by
  have hx := xs_hx F
  have hb := xs_hb F
  obtain ⟨z, g, S, T, r, Si, bb, hw, h, hIm⟩ := hI
  refine lv_aload_n hx hb dL_law_580 rfl (lv_at hl 1 rfl) ?_
  refine lv_aload_n hx hb dL_law_581 rfl (lv_at hl 0 rfl) ?_
  refine lv_iload_n hx hb dL_law_582 rfl (lv_at hl 3 rfl) ?_
  refine lv_iconst (v := nI 1) hx hb dL_law_583 rfl ?_
  refine lv_iadd hx hb dL_law_584 ?_
  refine x_top (y := nI (4 * j + 1)) (nI_add _ _) ?_
  refine x_scr hX hbl hbA hL F hw (4 * j + 1) rfl (by omega) dL_law_585 ?_
  refine lv_aload_n hx hb dL_law_586 rfl (lv_at hl 0 rfl) ?_
  refine lv_iload_n hx hb dL_law_587 rfl (lv_at hl 3 rfl) ?_
  refine lv_iconst (v := nI 2) hx hb dL_law_588 rfl ?_
  refine lv_iadd hx hb dL_law_589 ?_
  refine x_top (y := nI (4 * j + 2)) (nI_add _ _) ?_
  refine x_scr hX hbl hbA hL F hw (4 * j + 2) rfl (by omega) dL_law_590 ?_
  refine lv_aload_n hx hb dL_law_591 rfl (lv_at hl 0 rfl) ?_
  refine lv_iload_n hx hb dL_law_592 rfl (lv_at hl 3 rfl) ?_
  refine lv_iconst (v := nI 3) hx hb dL_law_593 rfl ?_
  refine lv_iadd hx hb dL_law_594 ?_
  refine x_top (y := nI (4 * j + 3)) (nI_add _ _) ?_
  refine x_scr hX hbl hbA hL F hw (4 * j + 3) rfl (by omega) dL_law_595 ?_
  refine x_fVI (rest := []) (c_X6_spread l D k q z g S (List.append (imW k r Si bb) (wM k qm T [])) (xs (4 * j + 1)) (xs (4 * j + 2)) (xs (4 * j + 3))) mo_L_73 obC_0 F hw (Nat.le_of_ble_eq_true rfl) ⟨show _ ≤ 600000 by omega, show _ ≤ 7302250 by omega⟩ rfl rfl hl.1 (Nat.le_of_ble_eq_true rfl) dL_law_596 (fun H locs hw => ?_)
  have hw : Wd D A s.heap H locs (wM k qm T (wC k q z g ((p_spread S (xs (4 * j + 1)) (xs (4 * j + 2)) (xs (4 * j + 3))).2) (imW k r Si bb))) := hw.perm to_M
  refine lv_aload_n hx hb dL_law_599 rfl (lv_at hl 2 rfl) ?_
  refine lv_aload_n hx hb dL_law_600 rfl (lv_at hl 0 rfl) ?_
  refine lv_iload_n hx hb dL_law_601 rfl (lv_at hl 3 rfl) ?_
  refine lv_iconst (v := nI 1) hx hb dL_law_602 rfl ?_
  refine lv_iadd hx hb dL_law_603 ?_
  refine x_top (y := nI (4 * j + 1)) (nI_add _ _) ?_
  refine x_scr hX hbl hbA hL F hw (4 * j + 1) rfl (by omega) dL_law_604 ?_
  refine lv_aload_n hx hb dL_law_605 rfl (lv_at hl 0 rfl) ?_
  refine lv_iload_n hx hb dL_law_606 rfl (lv_at hl 3 rfl) ?_
  refine lv_iconst (v := nI 2) hx hb dL_law_607 rfl ?_
  refine lv_iadd hx hb dL_law_608 ?_
  refine x_top (y := nI (4 * j + 2)) (nI_add _ _) ?_
  refine x_scr hX hbl hbA hL F hw (4 * j + 2) rfl (by omega) dL_law_609 ?_
  refine lv_aload_n hx hb dL_law_610 rfl (lv_at hl 0 rfl) ?_
  refine lv_iload_n hx hb dL_law_611 rfl (lv_at hl 3 rfl) ?_
  refine lv_iconst (v := nI 3) hx hb dL_law_612 rfl ?_
  refine lv_iadd hx hb dL_law_613 ?_
  refine x_top (y := nI (4 * j + 3)) (nI_add _ _) ?_
  refine x_scr hX hbl hbA hL F hw (4 * j + 3) rfl (by omega) dL_law_614 ?_
  refine x_fVI (rest := [.int ((p_spread S (xs (4 * j + 1)) (xs (4 * j + 2)) (xs (4 * j + 3))).1)]) (c_X7_spread l D k qm T (wC k q z g ((p_spread S (xs (4 * j + 1)) (xs (4 * j + 2)) (xs (4 * j + 3))).2) (imW k r Si bb)) (xs (4 * j + 1)) (xs (4 * j + 2)) (xs (4 * j + 3))) mo_L_76 obM F hw (Nat.le_of_ble_eq_true rfl) ⟨show _ ≤ 600000 by omega, show _ ≤ 7302250 by omega⟩ rfl rfl hl.1 (Nat.le_of_ble_eq_true rfl) dL_law_615 (fun H locs hw => ?_)
  have hw : Wd D A s.heap H locs (wC k q z g ((p_spread S (xs (4 * j + 1)) (xs (4 * j + 2)) (xs (4 * j + 3))).2) (List.append (imW k r Si bb) (wM k qm ((m_spread T (xs (4 * j + 1)) (xs (4 * j + 2)) (xs (4 * j + 3))).2) []))) := hw.perm to_M.symm
  have he := e_spread h (xs (4 * j + 1)) (xs (4 * j + 2)) (xs (4 * j + 3))
  refine lv_icmp_eq (tgt := 1044) hx hb dL_law_618 rfl (fun _ => ?_) (fun q0 => absurd (he.1) q0)
  refine W.widen (k := cells + 20) (n := slots + 34000) (by omega) (by omega) ?_
  exact kk _ _ ⟨z, g, _, _, r, Si, bb, hw, he.2, RIm_T (k_spread T (xs (4 * j + 1)) (xs (4 * j + 2)) (xs (4 * j + 3))).1 (k_spread T (xs (4 * j + 1)) (xs (4 * j + 2)) (xs (4 * j + 3))).2 hIm⟩
end LC
