/-! ===== worlds as sets: moves; making cells ===== -/
theorem vr_outer (c : ClassId) (N h0 : Nat) : ∀ i : Nat, Jvm.Free.Multi.outerC c N h0 i = arrV c N (fun j => va_rf (if j < i then some (h0 + 1 + j) else none))
  | 0 => by
    show ({ cls := c, slots := Array.replicate N .null, vm := .none } : Cell) = _
    rw [arrV_new]
    refine congrArg (arrV c N) (funext fun j => ?_)
    simp [va_rf]
  | i + 1 => by
    show (Jvm.Free.Multi.outerC c N h0 i).setSlot i (.ref (h0 + 1 + i)) = _
    rw [vr_outer c N h0 i, arrV_store]
    refine congrArg (arrV c N) (funext fun j => ?_)
    by_cases e : j = i
    · subst e
      simp [updV, va_rf]
    · by_cases h : j < i
      · simp [updV, e, h, Nat.lt_succ_of_lt h]
      · simp [updV, e, h, show ¬ j < i + 1 by omega]
theorem P_iff {D : va_G} {w : va_W} {H : Heap} : va_P D classes w H ↔ ∀ x ∈ w, va_at D classes x H :=
  ⟨fun h x hx => by obtain ⟨i, hi⟩ := List.getElem?_of_mem hx; exact h i x hi, fun h k q hk => h q (List.mem_of_getElem? hk)⟩
theorem D_iff {A : Nat → Prop} {w : va_W} : va_D A w ↔ (w.map Prod.fst).Nodup ∧ ∀ x ∈ w, A x.1 := by
  constructor
  · intro h
    refine ⟨?_, fun x hx => by obtain ⟨i, hi⟩ := List.getElem?_of_mem hx; exact h.2 i x hi⟩
    rw [List.nodup_iff_pairwise_ne, List.pairwise_iff_getElem]
    intro i j hi hj hij e
    rw [List.length_map] at hi hj
    rw [List.getElem_map, List.getElem_map] at e
    have := h.1 i j _ _ (List.getElem?_eq_getElem hi) (List.getElem?_eq_getElem hj) e
    omega
  · intro h
    refine ⟨fun i j p q hi hj e => ?_, fun k q hk => h.2 q (List.mem_of_getElem? hk)⟩
    obtain ⟨hi1, hi2⟩ := List.getElem?_eq_some_iff.mp hi
    obtain ⟨hj1, hj2⟩ := List.getElem?_eq_some_iff.mp hj
    have hp := List.pairwise_iff_getElem.mp (List.nodup_iff_pairwise_ne.mp h.1)
    rcases Nat.lt_trichotomy i j with q1 | q1 | q1
    · exact absurd (by rw [List.getElem_map, List.getElem_map, hi2, hj2]; exact e) (hp i j (by rw [List.length_map]; exact hi1) (by rw [List.length_map]; exact hj1) q1)
    · exact q1
    · exact absurd (by rw [List.getElem_map, List.getElem_map, hi2, hj2]; exact e.symm) (hp j i (by rw [List.length_map]; exact hj1) (by rw [List.length_map]; exact hi1) q1)
section XA
variable {p : Program} {l : Launch} {e : Env} {R : Room} {s : State} {m : MethodId} {args : Array Value} {below : List Frame} {meth : Method} {c : Code} {H : Heap} {locs : List Loc} {cells slots : Nat} {Q : State → Prop}
variable {cc : ByteArray} {pc : Nat} {ls : Array Slot} {rest : List Value} {D : va_G} {k : Nat → ClassId} {A : Nat → Prop} {nL d mc ms : Nat} {own : String} {H0 : Heap} {w w' : va_W}
theorem Wd.perm (h : Wd D A H0 H locs w) (hp : w.Perm w') : Wd D A H0 H locs w' := by
  refine ⟨P_iff.mpr (fun x hx => P_iff.mp h.1 x (hp.mem_iff.mpr hx)), D_iff.mpr ⟨((hp.map _).nodup_iff).mp (D_iff.mp h.2.1).1, fun x hx => (D_iff.mp h.2.1).2 x (hp.mem_iff.mpr hx)⟩, h.2.2⟩
theorem Wd.subl (h : Wd D A H0 H locs w) (hs : w'.Sublist w) : Wd D A H0 H locs w' := by
  refine ⟨P_iff.mpr (fun x hx => P_iff.mp h.1 x (hs.mem hx)), D_iff.mpr ⟨(D_iff.mp h.2.1).1.sublist (hs.map _), fun x hx => (D_iff.mp h.2.1).2 x (hs.mem hx)⟩, h.2.2⟩
theorem perm_pick {α : Type} {a b : List α} {X : List α} (is : List Nat) (h1 : is.Perm (List.range a.length)) (h2 : is.map (fun i => a[i]?) = b.map some) : (a ++ X).Perm (b ++ X) := by
  refine List.Perm.append_right X ?_
  have e : (List.range a.length).map (fun i => a[i]?) = a.map some := by
    apply List.ext_getElem?
    intro i
    rw [List.getElem?_map, List.getElem?_map]
    by_cases hi : i < a.length
    · rw [List.getElem?_range hi, List.getElem?_eq_getElem hi]; simp [hi]
    · rw [List.getElem?_eq_none (by rw [List.length_range]; omega), List.getElem?_eq_none (by omega)]; rfl
  have h3 : (a.map some).Perm (b.map some) := by rw [← e, ← h2]; exact (h1.map _).symm
  have h4 := h3.filterMap (fun o => o)
  rw [List.filterMap_map, List.filterMap_map] at h4
  have e5 : ∀ l : List α, List.filterMap ((fun o : Option α => o) ∘ some) l = l := fun l => show List.filterMap some l = l by simp
  rw [e5, e5] at h4
  exact h4
/-- a cell of the world for another -/
theorem Wd.repl {x : Nat × va_E} (h : Wd D A H0 H locs (x :: w)) (p0 : Nat) : Wd D A H0 H locs (w.set p0 x) := by
  by_cases hl : p0 < w.length
  · have hs : (w.take p0 ++ x :: w.drop (p0 + 1)) = w.set p0 x := (List.set_eq_take_append_cons_drop).trans (if_pos hl) |>.symm
    rw [← hs]
    have hw2 : w = w.take p0 ++ w[p0] :: w.drop (p0 + 1) := by
      conv => lhs; rw [← List.take_append_drop p0 w, List.drop_eq_getElem_cons hl]
    have h1 : (x :: (w.take p0 ++ w.drop (p0 + 1))).Sublist (x :: w) := by
      refine List.Sublist.cons₂ x ?_
      conv => rhs; rw [hw2]
      exact List.Sublist.append (List.Sublist.refl _) (List.sublist_cons_self _ _)
    exact (h.subl h1).perm List.perm_middle.symm
  · rw [List.set_eq_of_length_le (by omega)]
    exact h.subl (List.sublist_cons_self _ _)
theorem Wd.front {x : Nat × va_E} (h : va_P D classes (w ++ [x]) H ∧ va_D A (w ++ [x]) ∧ va_S A H0 H locs ∧ ∀ q, H0.size ≤ q → A q) : Wd D A H0 H locs (x :: w) := Wd.perm (w := w ++ [x]) h (List.perm_append_singleton x w)
theorem cA_eq {ty : FieldType} {j : Nat} {cA : ClassId} {tys : List (ClassId × FieldType)} {D2 : va_G} (hK : va_K D2 classes (tys ++ [(cA, ty)]) s) (hn : s.vm.findClass ("[" ++ ty.toString) = some j) (hr : ∀ U c2, va_RA U c2 ty → U.vm.findClass ("[" ++ ty.toString) = some c2) : cA = j := by
  have h := hK.2 tys.length (cA, ty) (by rw [List.getElem?_append_right (Nat.le_refl _), Nat.sub_self]; rfl)
  have := hn.symm.trans (hr _ _ h.2)
  exact (Option.some.inj this).symm
theorem x_newi {n : Int32} (N : Nat) (F : Fx p R s m args c cc nL own D k d mc ms) (hac : Cond.arrayClass .int ∈ gT) (hw : Wd D A H0 H locs w) (hn : n = nI N) (hN : N ≤ 20000) (hcs : cells + 1 ≤ R.cells ∧ slots + N ≤ R.slots) (hdg : decode cc pc = .ok (.newarray .int, 2))
    (kk : ∀ (q : Nat) (H : Heap), Wd D A H0 H locs ((q, .inl (k 0, N, .inl (fun _ => 0))) :: w) → W p l e R s m args below meth c H locs (cells + 1) (slots + N) Q (F0 m (pc + 2) ls (.ref q :: rest))) : W p l e R s m args below meth c H locs cells slots Q (F0 m pc ls (.int n :: rest)) := by
  subst hn
  refine va_newa (atype := .int) F.1.1 F.1.2 (F.2.1.2.2 _ hac) (ty := .int) rfl F.2.2.1.1 hw.1 hw.2.1 hw.2.2.1 hw.2.2.2 (N' := N) (a0 := (N, .inl (fun _ => 0))) (fun cA => rfl) (nI_pos (by omega)) (nI_clamp (by omega)) (by show N * 4 ≤ 536870912; omega) hcs.1 hcs.2 hdg (fun q cA H1 hK hP hD hS => ?_)
  have e := cA_eq (s := s) (j := k 0) hK ((F.2.2.1.1.2 0 _ rfl).2) (fun _ _ h => h)
  subst e
  exact kk q H1 (Wd.front ⟨hP, hD, hS, hw.2.2.2⟩)
theorem x_newz {n : Int32} (N : Nat) (F : Fx p R s m args c cc nL own D k d mc ms) (hac : Cond.arrayClass .boolean ∈ gT) (hw : Wd D A H0 H locs w) (hn : n = nI N) (hN : N ≤ 20000) (hcs : cells + 1 ≤ R.cells ∧ slots + N ≤ R.slots) (hdg : decode cc pc = .ok (.newarray .boolean, 2))
    (kk : ∀ (q : Nat) (H : Heap), Wd D A H0 H locs ((q, .inl (k 1, N, .inl (fun _ => 0))) :: w) → W p l e R s m args below meth c H locs (cells + 1) (slots + N) Q (F0 m (pc + 2) ls (.ref q :: rest))) : W p l e R s m args below meth c H locs cells slots Q (F0 m pc ls (.int n :: rest)) := by
  subst hn
  refine va_newa (atype := .boolean) F.1.1 F.1.2 (F.2.1.2.2 _ hac) (ty := .boolean) rfl F.2.2.1.1 hw.1 hw.2.1 hw.2.2.1 hw.2.2.2 (N' := N) (a0 := (N, .inl (fun _ => 0))) (fun cA => rfl) (nI_pos (by omega)) (nI_clamp (by omega)) (by show N * 1 ≤ 536870912; omega) hcs.1 hcs.2 hdg (fun q cA H1 hK hP hD hS => ?_)
  have e := cA_eq (s := s) (j := k 1) hK ((F.2.2.1.1.2 1 _ rfl).2) (fun _ _ h => h)
  subst e
  exact kk q H1 (Wd.front ⟨hP, hD, hS, hw.2.2.2⟩)
/-- the array of images -/
theorem x_newq {n : Int32} (N : Nat) {idx : Nat} (F : Fx p R s m args c cc nL own D k d mc ms) (hcl : Cond.classLink own idx RX1 ∈ gT) (hw : Wd D A H0 H locs w) (hn : n = nI N) (hN : N ≤ 20000) (hcs : cells + 1 ≤ R.cells ∧ slots + N ≤ R.slots) (hdg : decode cc pc = .ok (.anewarray idx, 3))
    (kk : ∀ (q : Nat) (H : Heap), Wd D A H0 H locs ((q, .inl (k 3, N, .inr (.inr (.inr (.inr (fun _ => none)))))) :: w) → W p l e R s m args below meth c H locs (cells + 1) (slots + N) Q (F0 m (pc + 3) ls (.ref q :: rest))) : W p l e R s m args below meth c H locs cells slots Q (F0 m pc ls (.int n :: rest)) := by
  subst hn
  refine va_newq F.1.1 F.1.2 F.2.1.2.1 (F.2.1.2.2 _ hcl) F.2.2.1.2.2.1 F.2.2.1.1 hw.1 hw.2.1 hw.2.2.1 hw.2.2.2 (N' := N) (nI_pos (by omega)) (nI_clamp (by omega)) (by omega) hcs.1 hcs.2 hdg (fun q cA H1 hK hP hD hS => ?_)
  have hr : ∀ U c2, va_RA U c2 (.object RX1) → U.vm.findClass ("[" ++ (FieldType.object RX1).toString) = some c2 := fun U c2 h => by obtain ⟨_, _, -, -, -, h4⟩ := h; exact h4
  have e := cA_eq (s := s) (j := k 3) hK (hr _ _ (F.2.2.1.1.2 3 _ rfl).2) hr
  subst e
  exact kk q H1 (Wd.front ⟨hP, hD, hS, hw.2.2.2⟩)
theorem x_new {C : String} {T : u_T} {N ci idx : Nat} {ty : Nat → FieldType} {fs : List Value} (F : Fx p R s m args c cc nL own D k d mc ms) (hc : classes[ci]? = some (C, T, N)) (hin : ∀ w ∈ u_ws C T N, w ∈ gT) (hty : ∀ k, k < N → parseFieldDescriptor (T k).2.2.1 = some (ty k)) (hcl : Cond.classLink own idx C ∈ gT) (hi : Cond.instantiable C N ∈ gT) (hini : Cond.initialized C ∈ gT) (hw : Wd D A H0 H locs w) (hfs : ∀ j, j < N → defaultValue (ty j) = vp_V fs j) (hcs : cells + 1 ≤ R.cells ∧ slots + N ≤ R.slots) (hdg : decode cc pc = .ok (.new idx, 3))
    (kk : ∀ (q : Nat) (H : Heap), Wd D A H0 H locs ((q, .inr (ci, fs)) :: w) → W p l e R s m args below meth c H locs (cells + 1) (slots + N) Q (F0 m (pc + 3) ls (.ref q :: rest))) : W p l e R s m args below meth c H locs cells slots Q (F0 m pc ls rest) :=
  va_new F.1.1 F.1.2 F.2.1.2.2 hin ty hty F.2.1.2.1 (F.2.1.2.2 _ hcl) (F.2.1.2.2 _ hi) (F.2.1.2.2 _ hini) F.2.2.1.1 hw.1 hw.2.1 hw.2.2.1 hw.2.2.2 hc hfs hcs.1 hcs.2 hdg (fun q H1 hP hD hS => kk q H1 (Wd.front ⟨hP, hD, hS, hw.2.2.2⟩))
theorem x_obj {a idx : Nat} (F : Fx p R s m args c cc nL own D k d mc ms) (hlk : Cond.methodLink own idx objectInit ∈ gT) (hd : 1 ≤ d) (hls : ls.size = nL) (hro : (rest.map fun v => v.category).sum ≤ 8) (hdg : decode cc pc = .ok (.invokespecial idx, 3)) (hi : Cond.instanceMethod objectInit ∈ gT) (hcd : Cond.code objectInit ⟨#[0xb1]⟩ 1 none ∈ gT)
    (kk : W p l e R s m args below meth c H locs cells slots Q (F0 m (pc + 3) ls rest)) : W p l e R s m args below meth c H locs cells slots Q (F0 m pc ls (.ref a :: rest)) := by
  have f1 := F.2.2.2.1
  have f2 := F.2.2.2.2.1
  refine W.objInit F.1.1 F.1.2 F.2.1.2.1 (F.2.1.2.2 _ hlk) (F.2.1.2.2 _ hi) (F.2.1.2.2 _ hcd) rfl (by rw [F.2.1.1]; exact hls) rfl hdg (Nat.le_trans hd f1) (by show 2 * 0 + _ + 12 ≤ _; omega) ?_
  exact W.eq rfl kk
theorem x_copy {a a0 idx : Nat} {n0 n1 : Nat} {f g : Nat → Int32} (q0 q1 n : Nat) (F : Fx p R s m args c cc nL own D k d mc ms) (hlk : Cond.methodLink own idx arraycopyName ∈ gT) (hnat : Cond.native arraycopyName ∈ gT) (hst : Cond.static arraycopyName ∈ gT) (hini : Cond.initialized "java/lang/System" ∈ gT) (hd : 1 ≤ d) (hls : ls.size = nL) (hro : (rest.map fun v => v.category).sum ≤ 8) (hw : Wd D A H0 H locs w) (ha0 : w[q0]? = some (a0, .inl (k 0, n0, .inl f))) (ha1 : w[q1]? = some (a, .inl (k 0, n1, .inl g))) (h4 : n ≤ n0) (h5 : n ≤ n1) (hn : n < 2 ^ 31) (hfr : nativeFrameWords "java/lang/System" "arraycopy" 5 ≤ 20) (hdg : decode cc pc = .ok (.invokestatic idx, 3))
    (kk : ∀ (H : Heap) (locs : List Loc), Wd D A H0 H locs (w.set q1 (a, .inl (k 0, n1, .inl (va_cpy f g 0 0 n)))) → W p l e R s m args below meth c H locs cells slots Q (F0 m (pc + 3) ls rest)) : W p l e R s m args below meth c H locs cells slots Q (F0 m pc ls (.int (nI n) :: .int (nI 0) :: .ref a :: .int (nI 0) :: .ref a0 :: rest)) := by
  have f1 := F.2.2.2.1
  have f2 := F.2.2.2.2.1
  have z0 : (nI 0).toNatClampNeg = 0 := rfl
  refine va_copyi F.1.1 F.1.2 (by rw [F.2.1.1]; exact hls.symm) F.2.1.2.1 (F.2.1.2.2 _ hlk) (F.2.1.2.2 _ hnat) (F.2.1.2.2 _ hst) (F.2.1.2.2 _ hini) F.2.2.1.1 hw.1 hw.2.1 hw.2.2.1 q0 q1 0 0 ha0 ha1 (ty := .int) rfl rfl rfl (by decide) (by decide) (nI_pos hn) (by rw [nI_clamp hn, z0]; omega) (by rw [nI_clamp hn, z0]; omega) (fun _ _ => rfl) (Nat.le_trans hd f1) (by omega) hdg (fun H1 locs1 h1 h2 h3 => kk H1 locs1 ?_)
  rw [nI_clamp hn, z0] at h1 h2
  exact ⟨h1, h2, h3, hw.2.2.2⟩
theorem x_mmin {x y : Int32} {idx : Nat} (F : Fx p R s m args c cc nL own D k d mc ms) (hd : 1 ≤ d) (hls : ls.size = nL) (hlk : Cond.methodLink own idx Lib.Math.min.name ∈ gT ∧ Cond.static Lib.Math.min.name ∈ gT ∧ Cond.initialized "java/lang/Math" ∈ gT ∧ Cond.code Lib.Math.min.name Lib.Math.min.code 2 (some .int) ∈ gT) (hcs : cells ≤ mc ∧ slots ≤ ms) (hro : (rest.map fun v => v.category).sum ≤ 8) (hdg : decode cc pc = .ok (.invokestatic idx, 3))
    (kk : W p l e R s m args below meth c H locs cells slots Q (F0 m (pc + 3) ls (.int (if y < x then y else x) :: rest))) : W p l e R s m args below meth c H locs cells slots Q (F0 m pc ls (.int y :: .int x :: rest)) := by
  obtain ⟨f1, f2, f3, f4⟩ := F.2.2.2
  exact va_mmin F.1.1 F.1.2 (by rw [F.2.1.1]; exact hls.symm) F.2.1.2.1 (F.2.1.2.2 _ hlk.1) (F.2.1.2.2 _ hlk.2.1) (F.2.1.2.2 _ hlk.2.2.1) (F.2.1.2.2 _ hlk.2.2.2) (Nat.le_trans hd f1) (by omega) (Nat.le_trans hcs.1 f3) (Nat.le_trans hcs.2 f4) hdg kk
theorem x_mmax {x y : Int32} {idx : Nat} (F : Fx p R s m args c cc nL own D k d mc ms) (hd : 1 ≤ d) (hls : ls.size = nL) (hlk : Cond.methodLink own idx Lib.Math.max.name ∈ gT ∧ Cond.static Lib.Math.max.name ∈ gT ∧ Cond.initialized "java/lang/Math" ∈ gT ∧ Cond.code Lib.Math.max.name Lib.Math.max.code 2 (some .int) ∈ gT) (hcs : cells ≤ mc ∧ slots ≤ ms) (hro : (rest.map fun v => v.category).sum ≤ 8) (hdg : decode cc pc = .ok (.invokestatic idx, 3))
    (kk : W p l e R s m args below meth c H locs cells slots Q (F0 m (pc + 3) ls (.int (if x < y then y else x) :: rest))) : W p l e R s m args below meth c H locs cells slots Q (F0 m pc ls (.int y :: .int x :: rest)) := by
  obtain ⟨f1, f2, f3, f4⟩ := F.2.2.2
  exact va_mmax F.1.1 F.1.2 (by rw [F.2.1.1]; exact hls.symm) F.2.1.2.1 (F.2.1.2.2 _ hlk.1) (F.2.1.2.2 _ hlk.2.1) (F.2.1.2.2 _ hlk.2.2.1) (F.2.1.2.2 _ hlk.2.2.2) (Nat.le_trans hd f1) (by omega) (Nat.le_trans hcs.1 f3) (Nat.le_trans hcs.2 f4) hdg kk
/-- new int[N][K] -/
theorem x_mna {N K : Nat} {idx : Nat} (F : Fx p R s m args c cc nL own D k d mc ms) (hcl : Cond.classLink own idx "[[I" ∈ gT) (hac : Cond.arrayClass .int ∈ gT) (hw : Wd D A H0 H locs w) (hN : N ≤ 1000) (hK : K ≤ 1000) (hcs : cells + (1 + N) ≤ R.cells ∧ slots + (N + N * K) ≤ R.slots) (hdg : decode cc pc = .ok (.multianewarray idx 2, 4))
    (kk : ∀ (q : Nat) (r : Nat → Nat) (H : Heap), Wd D A H0 H locs ((q, .inl (k 2, N, .inr (.inr (.inr (.inr (fun i => if i < N then some (r i) else none)))))) :: ((List.range N).map (fun i => (r i, Sum.inl (k 0, K, Sum.inl (fun _ => 0)))) ++ w)) → W p l e R s m args below meth c H locs (cells + 1 + N) (slots + N + N * K) Q (F0 m (pc + 4) ls (.ref q :: rest))) : W p l e R s m args below meth c H locs cells slots Q (F0 m pc ls (.int (nI K) :: .int (nI N) :: rest)) := by
  intro T hT Xs
  have cN : (nI N).toNatClampNeg = N := nI_clamp (by omega)
  have cK : (nI K).toNatClampNeg = K := nI_clamp (by omega)
  obtain ⟨vm₁, cA, comp, -, fA, fC, hO, -, X', step⟩ := Xs.multianewarray2F F.1.1 F.2.1.2.1 (ty := .int) (F.2.1.2.2 _ hcl) (show (Cond.arrayOver (.array .int)).before args s = true from F.2.2.1.2.2.2) (F.2.1.2.2 _ hac) (g := F0 m pc ls (.int (nI K) :: .int (nI N) :: rest)) rfl (by rw [F.1.2]; exact hdg) rfl (nI_pos (by omega)) (nI_pos (by omega)) (by rw [cN]; omega) (by rw [cK]; show K * 4 ≤ _; omega) (by rw [cK]; omega) rfl rfl (by rw [cN]; exact hcs.1) (by rw [cN, cK]; exact hcs.2)
  rw [cN, cK] at X' step
  have ec : k 0 = comp := Option.some.inj (((F.2.2.1.1.2 0 _ rfl).2 : s.vm.findClass ("[" ++ FieldType.int.toString) = some (k 0)).symm.trans fC)
  subst ec
  have ea : k 2 = cA := Option.some.inj (((F.2.2.1.1.2 2 _ rfl).2 : s.vm.findClass ("[" ++ (FieldType.array .int).toString) = some (k 2)).symm.trans fA)
  subst ea
  generalize hF : Jvm.Free.Multi.fill (T.setVm vm₁) (k 2) (k 0) N K (defaultValue .int) N = G at X' step
  have hTh : (T.setVm vm₁).heap = H := hT
  obtain ⟨f1, f2, -, -⟩ := Jvm.Free.Multi.fill_facts (T.setVm vm₁) (k 2) (k 0) N K (defaultValue .int) N
  rw [hF, hTh] at f1 f2
  have hold : ∀ x : Nat, x < H.size → G.heap[x]? = H[x]? := fun x hx => by
    have := Jvm.Free.Multi.fill_old (T.setVm vm₁) (k 2) (k 0) N K (defaultValue .int) (a := x) (by rw [hTh]; exact hx) N
    rw [hF, hTh] at this
    exact this
  have hrow : ∀ j : Nat, j < N → G.heap[H.size + 1 + j]? = some (vp_cell (k 0) (K, .inl (fun _ => 0))) := fun j hj => by
    have := Jvm.Free.Multi.fill_inner (T.setVm vm₁) (k 2) (k 0) N K (defaultValue .int) N j hj
    rw [hF, hTh] at this
    rw [this, vp_cell_i]
    congr 1
    show ({ cls := k 0, slots := Array.replicate K (defaultValue .int), vm := .none } : Cell) = _
    rw [arrV_new]
    rfl
  have hout : Jvm.Free.Multi.outerC (k 2) N H.size N = vp_cell (k 2) (N, .inr (.inr (.inr (.inr (fun i => if i < N then some (H.size + 1 + i) else none))))) := by
    rw [vp_cell_q]
    exact vr_outer (k 2) N H.size N
  rw [hout] at f2
  have hlt : ∀ x ∈ w, x.1 < H.size := fun x hx => va_at.lt (P_iff.mp hw.1 x hx)
  have hW : Wd D A H0 G.heap locs ((H.size, .inl (k 2, N, .inr (.inr (.inr (.inr (fun i => if i < N then some (H.size + 1 + i) else none)))))) :: ((List.range N).map (fun i => (H.size + 1 + i, Sum.inl (k 0, K, Sum.inl (fun _ => 0)))) ++ w)) := by
    refine ⟨P_iff.mpr (fun x hx => ?_), D_iff.mpr ⟨?_, fun x hx => ?_⟩, ⟨by rw [f1]; have := hw.2.2.1.1; omega, fun x h1 h2 => (hold x (Nat.lt_of_lt_of_le h1 hw.2.2.1.1)).trans (hw.2.2.1.2.1 x h1 h2), hw.2.2.1.2.2⟩, hw.2.2.2⟩
    · rcases List.mem_cons.mp hx with rfl | hx
      · exact f2
      · rcases List.mem_append.mp hx with hx | hx
        · obtain ⟨i, hi, rfl⟩ := List.mem_map.mp hx
          exact hrow i (List.mem_range.mp hi)
        · exact (P_iff.mp hw.1 x hx).kept (hold x.1 (hlt x hx))
    · rw [List.map_cons, List.map_append, List.map_map]
      refine List.nodup_cons.mpr ⟨fun h => ?_, List.nodup_append.mpr ⟨?_, (D_iff.mp hw.2.1).1, fun a ha b hb e => ?_⟩⟩
      · rcases List.mem_append.mp h with h | h
        · obtain ⟨i, -, e⟩ := List.mem_map.mp h
          simp only [Function.comp] at e
          omega
        · obtain ⟨x, hx, e⟩ := List.mem_map.mp h
          have := hlt x hx
          omega
      · rw [List.nodup_iff_pairwise_ne, List.pairwise_map]
        exact List.Pairwise.imp (fun h e => by simp only [Function.comp] at e; omega) (List.pairwise_lt_range (n := N))
      · obtain ⟨i, -, e1⟩ := List.mem_map.mp ha
        obtain ⟨x, hx, e2⟩ := List.mem_map.mp hb
        have := hlt x hx
        simp only [Function.comp] at e1
        omega
    · have h0 := hw.2.2.1.1
      rcases List.mem_cons.mp hx with rfl | hx
      · exact hw.2.2.2 _ h0
      · rcases List.mem_append.mp hx with hx | hx
        · obtain ⟨i, hi, rfl⟩ := List.mem_map.mp hx
          exact hw.2.2.2 _ (by show H0.size ≤ H.size + 1 + i; omega)
        · exact (D_iff.mp hw.2.1).2 x hx
  obtain ⟨t, a1, b1⟩ := kk H.size (fun i => H.size + 1 + i) G.heap hW G rfl X'
  refine ⟨t, step t ?_, b1⟩
  have e : T.heap.size = H.size := by rw [hT]
  rw [e]
  exact a1
end XA
