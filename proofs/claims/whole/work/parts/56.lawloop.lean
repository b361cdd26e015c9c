/-! THE CLAIM OUT OF ONE WALK OF THE LAW'S BODY. Your part is whole_start (and what it stands on); all else here is the same for every law, but numbers. -/
def R_law : String := "CopiedSkinsLaw"
def lw_P (b : Addr) (xs : List Int32) (args : Array Value) (s : State) : Prop := args = #[.ref b] ∧ s.IntsAt b xs ∧ xs.length ≤ 256 ∧ (Jvm.Cond.and given_1 narrow_1).before args s = true
def lw_Q (_ : Array Value) (s : State) (o : Outcome) (t : State) : Prop := o = .returned (some (.int 1)) ∧ Framed s o t [] 600000 7302250
def lw_Z (below : List Frame) (a : Array Value) (s : State) : State → Prop := fun t => ∃ o, t.status = .running ∧ Ended t below o ∧ lw_Q a s o t
/-- the law's own end, with 1 on the stack, nothing written that was there before, its room as the claim has it -/
theorem lw_ret {p : Program} {l : Launch} {e : Env} {s : State} {m : MethodId} {below : List Frame} {meth : Method} {c : Code} {b : Nat} (hx : p.tables.exec = Jvm.exec) (hb : c.code = code) (hr : meth.sig.returnType = ret) (hlocks : meth.locks = false) {pc : Nat} {H : Heap} {ls : Array Slot} (hdg : decode code pc = .ok (.ireturn, 1)) : W p l e room_1 s m #[Value.ref b] below meth c H [] 600000 7302250 (lw_Z below #[Value.ref b] s) (F0 m pc ls [.int 1]) := by
  intro T hT X
  obtain ⟨fs, hret, hrun, hended, hW, hframe⟩ := X.leave (v := some (.int 1)) (hlocks := hlocks) (fun h => by rw [hr] at h; cases h)
  have hmeth' : T.vm.method? m = some meth := X.method'
  refine ⟨T.setFrames fs, ?_, .returned (some (.int 1)), hrun, hended, rfl, ⟨_, rfl⟩, hW, hframe⟩
  jvm_step X.here [X.here.top, hx, hb, hdg, hmeth', hr, ret, narrow_b1]
  (try refine ⟨rfl, ?_⟩); (try refine ⟨rfl, ?_⟩)
  first | (intro acts; rw [hret _ acts rfl rfl rfl]) | rw [hret _ _ rfl rfl rfl]
  exact Steps.refl _
/-- what holds at the law's entry: the machine, the code, the tables' words (any of lw_tbl by 'hts w (by decide +kernel)'), the script of L ints xs at the cell b, what the Statement gives of the start (any of its parts by flat_of_before) -/
def lw_At (p : Program) (s : State) (m : MethodId) (meth : Method) (c : Code) (b L : Nat) (xs : Nat → Int32) : Prop :=
  p.tables.exec = Jvm.exec ∧ c.code = code ∧ meth.sig.returnType = ret ∧ c.maxLocals = 4 ∧ s.vm.findClass R_law = some m.cls ∧ (∀ w ∈ lw_tbl, w.before #[Value.ref b] s = true) ∧ va_X b L xs s s.heap ∧ b < s.heap.size ∧ meth.locks = false ∧ (Jvm.Cond.and given_1 narrow_1).before #[Value.ref b] s = true
theorem lp_in {L j : Nat} (hL : L ≤ 256) (hj : j ≤ 64) (h : ¬ nI L - nI 4 < nI (4 * j)) : 4 * j + 4 ≤ L := by
  refine Decidable.byContradiction (fun q => h ?_)
  rw [Int32.lt_iff_toInt_lt, pk_sub_toInt (by omega) (by omega), nI_toInt (by omega)]
  omega
section LL
variable {p : Program} {e : Env} {s : State} {m : MethodId} {below : List Frame} {meth : Method} {c : Code}
set_option maxHeartbeats 4000000 in
set_option maxRecDepth 20000 in
theorem law_loop (l : Launch) {b L : Nat} {xs : Nat → Int32} {D : va_G} {k : Nat → ClassId} {q qm : Nat → Nat} (hr : meth.sig.returnType = ret) (hlocks : meth.locks = false) (F : Fx p room_1 s m #[Value.ref b] c cL_law 4 RL D k 12 600000 7302250) (hX : va_X b L xs s s.heap) (hbl : b < s.heap.size) (hL : L ≤ 256) : ∀ (n j : Nat) (H : Heap) (locs : List Loc) (ls : Array Slot), 65 - j < n → j ≤ 64 → LInv D (fun x => s.heap.size ≤ x) s k q qm H locs → lv_has ls 4 [(0, .ref b), (1, .ref (q 0)), (2, .ref (qm 30)), (3, .int (nI (4 * j)))] → W p l e room_1 s m #[Value.ref b] below meth c H locs (57 + 20 * j) (804 + 34000 * j) (lw_Z below #[Value.ref b] s) (F0 m 18 ls []) := by
  intro n
  induction n with
  | zero =>
    intro j H locs ls hn
    exact absurd hn (Nat.not_lt_zero _)
  | succ n ih =>
    intro j H locs ls hn hj hI hl
    have hx := xs_hx F
    have hb := xs_hb F
    have hbA : ¬ (fun x => s.heap.size ≤ x) b := Nat.not_le.mpr hbl
    obtain ⟨z, g, S, T, r, Si, bb, hw, h, hIm⟩ := id hI
    refine lv_iload_n hx hb dL_law_18 rfl (lv_at hl 3 rfl) ?_
    refine lv_aload_n hx hb dL_law_19 rfl (lv_at hl 0 rfl) ?_
    refine va_slen F.1.1 F.1.2 hX hbl hbA hw.2.2.1 dL_law_20 ?_
    refine x_top (y := nI L) rfl ?_
    refine lv_iconst (v := nI 4) hx hb dL_law_21 rfl ?_
    refine lv_isub hx hb dL_law_22 ?_
    refine lv_icmp_gt (tgt := 1050) hx hb dL_law_23 rfl (fun c23 => ?_) (fun c23 => ?_)
    · refine lv_iconst (v := nI 1) hx hb dL_law_1050 rfl ?_
      refine va_forget (fun x hq => hw.2.2.1.2.2 x hq) ?_
      refine W.widen (k := 600000) (n := 7302250) (by omega) (by omega) ?_
      exact lw_ret hx hb hr hlocks dL_law_1051
    · have h4 := lp_in hL hj c23
      have hc : 57 + 20 * j + 20 ≤ 600000 ∧ 804 + 34000 * j + 34000 ≤ 7302250 := by omega
      refine lv_aload_n hx hb dL_law_26 rfl (lv_at hl 0 rfl) ?_
      refine lv_iload_n hx hb dL_law_27 rfl (lv_at hl 3 rfl) ?_
      refine x_scr hX hbl hbA hL F hw (4 * j) rfl (by omega) dL_law_28 ?_
      refine lv_bipush (v := nI 31) hx hb dL_law_29 rfl ?_
      refine lv_iand hx hb dL_law_31 ?_
      obtain ⟨t, ht, et⟩ := pk_andE (xs (4 * j)) (m := nI 31) 5 (by decide)
      refine x_top (y := nI t) et ?_
      have kk : ∀ (H : Heap) (locs : List Loc), LInv D (fun x => s.heap.size ≤ x) s k q qm H locs → W p l e room_1 s m #[Value.ref b] below meth c H locs (57 + 20 * j + 20) (804 + 34000 * j + 34000) (lw_Z below #[Value.ref b] s) (F0 m 1044 ls []) := by
        intro H locs hI
        refine lv_iinc (v := nI (4 * j + 4)) (lv' := [(3, .int (nI (4 * j + 4))), (0, .ref b), (1, .ref (q 0)), (2, .ref (qm 30))]) hx hb dL_law_1044 hl (k := 3) rfl (nI_add _ 4) (Nat.le_of_ble_eq_true rfl) rfl (fun ls hl => ?_)
        refine lv_goto (tgt := 18) hx hb dL_law_1047 rfl ?_
        have hi := ih (j + 1) H locs ls (by omega) (by omega) hI
        rw [show 57 + 20 * (j + 1) = 57 + 20 * j + 20 by omega, show 804 + 34000 * (j + 1) = 804 + 34000 * j + 34000 by omega, show 4 * (j + 1) = 4 * j + 4 by omega] at hi
        exact hi (lv_sub hl [1, 2, 3, 0] rfl)
      rcases (show t = 0 ∨ t = 1 ∨ t = 2 ∨ t = 3 ∨ t = 4 ∨ t = 5 ∨ t = 6 ∨ t = 7 ∨ t = 8 ∨ t = 9 ∨ t = 10 ∨ t = 11 ∨ t = 12 ∨ t = 13 ∨ t = 14 ∨ t = 15 ∨ t = 16 ∨ t = 17 ∨ t = 18 ∨ t = 19 ∨ t = 20 ∨ t = 21 ∨ t = 22 ∨ t = 23 ∨ t = 24 ∨ t = 25 ∨ t = 26 ∨ t = 27 ∨ t = 28 ∨ t = 29 ∨ 30 ≤ t by omega) with rfl | rfl | rfl | rfl | rfl | rfl | rfl | rfl | rfl | rfl | rfl | rfl | rfl | rfl | rfl | rfl | rfl | rfl | rfl | rfl | rfl | rfl | rfl | rfl | rfl | rfl | rfl | rfl | rfl | rfl | h30
      · refine lv_tableIn (tgt := 168) hx hb dL_law_32 (by decide) (by decide) rfl rfl ?_
        exact st_picture F hX hbl hbA hL h4 hc hI hl kk
      · refine lv_tableIn (tgt := 211) hx hb dL_law_32 (by decide) (by decide) rfl rfl ?_
        exact st_about F hX hbl hbA hL h4 hc hI hl kk
      · refine lv_tableIn (tgt := 244) hx hb dL_law_32 (by decide) (by decide) rfl rfl ?_
        exact st_set F hX hbl hbA hL h4 hc hI hl kk
      · refine lv_tableIn (tgt := 277) hx hb dL_law_32 (by decide) (by decide) rfl rfl ?_
        exact st_say F hX hbl hbA hL h4 hc hI hl kk
      · refine lv_tableIn (tgt := 300) hx hb dL_law_32 (by decide) (by decide) rfl rfl ?_
        exact st_wipe F hX hbl hbA hL h4 hc hI hl kk
      · refine lv_tableIn (tgt := 313) hx hb dL_law_32 (by decide) (by decide) rfl rfl ?_
        exact st_fault F hX hbl hbA hL h4 hc hI hl kk
      · refine lv_tableIn (tgt := 326) hx hb dL_law_32 (by decide) (by decide) rfl rfl ?_
        exact st_law F hX hbl hbA hL h4 hc hI hl kk
      · refine lv_tableIn (tgt := 339) hx hb dL_law_32 (by decide) (by decide) rfl rfl ?_
        exact st_slip F hX hbl hbA hL h4 hc hI hl kk
      · refine lv_tableIn (tgt := 372) hx hb dL_law_32 (by decide) (by decide) rfl rfl ?_
        exact st_cost F hX hbl hbA hL h4 hc hI hl kk
      · refine lv_tableIn (tgt := 405) hx hb dL_law_32 (by decide) (by decide) rfl rfl ?_
        exact st_least F hX hbl hbA hL h4 hc hI hl kk
      · refine lv_tableIn (tgt := 428) hx hb dL_law_32 (by decide) (by decide) rfl rfl ?_
        exact st_kept F hX hbl hbA hL h4 hc hI hl kk
      · refine lv_tableIn (tgt := 471) hx hb dL_law_32 (by decide) (by decide) rfl rfl ?_
        exact st_sure F hX hbl hbA hL h4 hc hI hl kk
      · refine lv_tableIn (tgt := 504) hx hb dL_law_32 (by decide) (by decide) rfl rfl ?_
        exact st_lost F hX hbl hbA hL h4 hc hI hl kk
      · refine lv_tableIn (tgt := 547) hx hb dL_law_32 (by decide) (by decide) rfl rfl ?_
        exact st_width F hX hbl hbA hL h4 hc hI hl kk
      · refine lv_tableIn (tgt := 580) hx hb dL_law_32 (by decide) (by decide) rfl rfl ?_
        exact st_spread F hX hbl hbA hL h4 hc hI hl kk
      · refine lv_tableIn (tgt := 623) hx hb dL_law_32 (by decide) (by decide) rfl rfl ?_
        exact st_aged F hX hbl hbA hL h4 hc hI hl kk
      · refine lv_tableIn (tgt := 656) hx hb dL_law_32 (by decide) (by decide) rfl rfl ?_
        exact st_take F hX hbl hbA hL h4 hc hI hl kk
      · refine lv_tableIn (tgt := 679) hx hb dL_law_32 (by decide) (by decide) rfl rfl ?_
        exact st_hide F hX hbl hbA hL h4 hc hI hl kk
      · refine lv_tableIn (tgt := 738) hx hb dL_law_32 (by decide) (by decide) rfl rfl ?_
        exact st_hides F hX hbl hbA hL h4 hc hI hl kk
      · refine lv_tableIn (tgt := 771) hx hb dL_law_32 (by decide) (by decide) rfl rfl ?_
        exact st_cover F hX hbl hbA hL h4 hc hI hl kk
      · refine lv_tableIn (tgt := 794) hx hb dL_law_32 (by decide) (by decide) rfl rfl ?_
        exact st_under F hX hbl hbA hL h4 hc hI hl kk
      · refine lv_tableIn (tgt := 817) hx hb dL_law_32 (by decide) (by decide) rfl rfl ?_
        exact st_man F hX hbl hbA hL h4 hc hI hl kk
      · refine lv_tableIn (tgt := 830) hx hb dL_law_32 (by decide) (by decide) rfl rfl ?_
        exact st_meet F hX hbl hbA hL h4 hc hI hl kk
      · refine lv_tableIn (tgt := 863) hx hb dL_law_32 (by decide) (by decide) rfl rfl ?_
        exact st_sick F hX hbl hbA hL h4 hc hI hl kk
      · refine lv_tableIn (tgt := 896) hx hb dL_law_32 (by decide) (by decide) rfl rfl ?_
        exact st_from F hX hbl hbA hL h4 hc hI hl kk
      · refine lv_tableIn (tgt := 919) hx hb dL_law_32 (by decide) (by decide) rfl rfl ?_
        exact st_firsts F hX hbl hbA hL h4 hc hI hl kk
      · refine lv_tableIn (tgt := 942) hx hb dL_law_32 (by decide) (by decide) rfl rfl ?_
        exact st_must F hX hbl hbA hL h4 hc hI hl kk
      · refine lv_tableIn (tgt := 975) hx hb dL_law_32 (by decide) (by decide) rfl rfl ?_
        exact st_image F hX hbl hbA hL h4 hc hI hl kk
      · refine lv_tableIn (tgt := 998) hx hb dL_law_32 (by decide) (by decide) rfl rfl ?_
        exact st_restore F hX hbl hbA hL h4 hc hI hl kk
      · refine lv_tableIn (tgt := 1021) hx hb dL_law_32 (by decide) (by decide) rfl rfl ?_
        exact st_told F hX hbl hbA hL h4 hc hI hl kk
      · refine lv_tableOut (tgt := 1044) hx hb dL_law_32 (Or.inr (by rw [nI_toInt (by omega)]; omega)) rfl ?_
        refine W.widen (k := 57 + 20 * j + 20) (n := 804 + 34000 * j + 34000) (by omega) (by omega) ?_
        exact kk _ _ hI
end LL
set_option maxHeartbeats 4000000 in
set_option maxRecDepth 20000 in
theorem whole_start {p : Program} {e : Env} {s : State} {m : MethodId} {below : List Frame} {meth : Method} {c : Code} (l : Launch) (hflags : l.flags = flags0) {b L : Nat} {xs : Nat → Int32} (hL : L ≤ 256) (C0 : lw_At p s m meth c b L xs) : W p l e room_1 s m #[Value.ref b] below meth c s.heap [] 0 0 (lw_Z below #[Value.ref b] s) (entryFrame m ([Value.ref b] : List Value).toArray 4) := by
  obtain ⟨hx, hb, hr, hml, hown, hts, hX, hbl, hlocks, hgv⟩ := id C0
  obtain ⟨D, k, hC⟩ := law_Cx hts
  have F : Fx p room_1 s m #[Value.ref b] c cL_law 4 RL D k 12 600000 7302250 := ⟨⟨hx, hb⟩, ⟨hml, hown, fun w hw => hts w (List.mem_filter.mp hw).1⟩, hC, Nat.le_of_ble_eq_true rfl, Nat.le_of_ble_eq_true rfl, Nat.le_refl _, Nat.le_refl _⟩
  have hw : Wd D (fun x => s.heap.size ≤ x) s.heap s.heap [] [] := ⟨fun k q h => by simp at h, ⟨fun i j p q h => by simp at h, fun k q h => by simp at h⟩, va_S.rf, fun _ h => h⟩
  have hl := lv_entry ([.ref b]) (n := 4) (Nat.le_of_ble_eq_true rfl)
  rw [lg_entry_eq]
  generalize (lg_sl ([.ref b]) ++ List.replicate (4 - (lg_sl ([.ref b])).length) Slot.unset).toArray = ls at hl ⊢
  have hl : lv_has ls 4 [(0, .ref b)] := hl
  refine x_new (ci := 6) (fs := [.null, .null, .null, .null, .null, .null, .null]) F rfl inX6 tyX6_ok cl_L_7 ins_X6 ini_X6 hw (fun j hj => match j, hj with | 0, _ => rfl | 1, _ => rfl | 2, _ => rfl | 3, _ => rfl | 4, _ => rfl | 5, _ => rfl | 6, _ => rfl | j + 7, h => absurd h (by omega)) ⟨Nat.le_of_ble_eq_true rfl, Nat.le_of_ble_eq_true rfl⟩ dL_law_0 (fun a H hw => ?_)
  refine lv_dup hx hb dL_law_3 rfl ?_
  refine x_callI (rest := [.ref a]) (c_X6_init l D k a []) mo_L_9 F hw (Nat.le_of_ble_eq_true rfl) ⟨Nat.le_of_ble_eq_true rfl, Nat.le_of_ble_eq_true rfl⟩ rfl rfl hl.1 (Nat.le_of_ble_eq_true rfl) dL_law_4 (fun w_ H locs hp hw => ?_)
  obtain ⟨q, z, M, f15, f16, f34, hq0, hp1, hz, hM, h15, h16, h34⟩ := hp
  rw [hp1] at hw
  have hw2 := hw
  subst hq0
  have hw : Wd D (fun x => s.heap.size ≤ x) s.heap H locs (wC k q z (fun _ => none) (va_up (va_up (va_up (grd SA0 8 4 M) 15 f15) 16 f16) 34 f34) []) := hw2
  refine lv_astore_n (lv' := [(1, .ref (q 0)), (0, .ref b)]) hx hb dL_law_7 rfl hl (Nat.le_of_ble_eq_true rfl) rfl (fun ls hl => ?_)
  refine x_new (ci := 7) (fs := d7) F rfl inX7 tyX7_ok cl_L_10 ins_X7 ini_X7 hw (fun j hj => match j, hj with | 0, _ => rfl | 1, _ => rfl | 2, _ => rfl | 3, _ => rfl | 4, _ => rfl | 5, _ => rfl | 6, _ => rfl | 7, _ => rfl | 8, _ => rfl | 9, _ => rfl | 10, _ => rfl | 11, _ => rfl | 12, _ => rfl | 13, _ => rfl | 14, _ => rfl | 15, _ => rfl | 16, _ => rfl | 17, _ => rfl | 18, _ => rfl | 19, _ => rfl | 20, _ => rfl | 21, _ => rfl | 22, _ => rfl | 23, _ => rfl | 24, _ => rfl | 25, _ => rfl | 26, _ => rfl | 27, _ => rfl | 28, _ => rfl | 29, _ => rfl | j + 30, h => absurd h (by omega)) ⟨Nat.le_of_ble_eq_true rfl, Nat.le_of_ble_eq_true rfl⟩ dL_law_8 (fun a2 H hw => ?_)
  refine lv_dup hx hb dL_law_11 rfl ?_
  refine x_callI (rest := [.ref a2]) (c_X7_init l D k a2 (wC k q z (fun _ => none) (va_up (va_up (va_up (grd SA0 8 4 M) 15 f15) 16 f16) 34 f34) [])) mo_L_12 F hw (Nat.le_of_ble_eq_true rfl) ⟨Nat.le_of_ble_eq_true rfl, Nat.le_of_ble_eq_true rfl⟩ rfl rfl hl.1 (Nat.le_of_ble_eq_true rfl) dL_law_12 (fun w_ H locs hp hw => ?_)
  obtain ⟨qm, f11, f12, hq30, hp2, h11, h12⟩ := hp
  rw [hp2] at hw
  have hw3 := hw
  subst hq30
  have hw : Wd D (fun x => s.heap.size ≤ x) s.heap H locs (wC k q z (fun _ => none) (va_up (va_up (va_up (grd SA0 8 4 M) 15 f15) 16 f16) 34 f34) (List.append (imW k (fun _ _ => 0) (fun _ => S0) (fun _ => false)) (wM k qm (va_up (va_up (va_up (va_up S0 5 t5M) 10 t10M) 11 f11) 12 f12) []))) := hw3.perm (to_M (I := imW k (fun _ _ => 0) (fun _ => S0) (fun _ => false))).symm
  refine lv_astore_n (lv' := [(2, .ref (qm 30)), (1, .ref (q 0)), (0, .ref b)]) hx hb dL_law_15 rfl hl (Nat.le_of_ble_eq_true rfl) rfl (fun ls hl => ?_)
  refine lv_iconst (v := nI 0) hx hb dL_law_16 rfl ?_
  refine lv_istore_n (lv' := [(3, .int (nI 0)), (2, .ref (qm 30)), (1, .ref (q 0)), (0, .ref b)]) hx hb dL_law_17 rfl hl (Nat.le_of_ble_eq_true rfl) rfl (fun ls hl => ?_)
  refine W.widen (k := 57 + 20 * 0) (n := 804 + 34000 * 0) (by omega) (by omega) ?_
  exact law_loop l hr hlocks F hX hbl hL 66 0 H locs ls (by omega) (by omega) ⟨z, _, _, _, _, _, _, hw, RR_0 hz hM h15 h16 h34 h11 h12, fun i hi => Or.inl ⟨rfl, rfl, rfl⟩⟩ (lv_sub hl [3, 2, 1, 0] rfl)
