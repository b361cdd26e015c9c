/-! ===== rows over Fx and Wd ===== -/
def FO (own : String) (idx ci f : Nat) (ty : FieldType) (fin : Bool) : Prop := ∃ (C : String) (T : u_T) (N : Nat) (ty0 : Nat → FieldType), classes[ci]? = some (C, T, N) ∧ f < N ∧ Cond.fieldLink own idx (T f).1 (T f).2.1 (T f).2.2.1 ∈ gT ∧ (∀ w ∈ u_ws C T N, w ∈ gT) ∧ (∀ j, j < N → parseFieldDescriptor (T j).2.2.1 = some (ty0 j)) ∧ (∀ a, a < N → ∀ b, b < N → a ≠ b → (T a).2.1 ≠ (T b).2.1) ∧ parseFieldDescriptor (T f).2.2.1 = some ty ∧ (T f).2.2.2 = fin ∧ (T f).1 = C
/-- an int field of an object, by the row of the state that holds it -/
def FI (w : St → va_W) (p0 a ci f j : Nat) : Prop := ∃ fs : St → List Value, (∀ S, (w S)[p0]? = some (a, .inr (ci, fs S))) ∧ (∀ S, (fs S)[f]? = some (.int (S j 0))) ∧ (∀ S v, (w S).set p0 (a, .inr (ci, (fs S).set f (.int v))) = w (va_up S j (fun _ => v))) ∧ ∀ S, f < (fs S).length
/-- a field that holds a cell's address -/
def FR (w : va_W) (p0 a ci f b : Nat) : Prop := ∃ fs : List Value, w[p0]? = some (a, .inr (ci, fs)) ∧ fs[f]? = some (.ref b)
/-- an array of ints (or booleans), by the row of the state that it holds -/
def AI (w : St → va_W) (p0 a : Nat) (cA : ClassId) (n j : Nat) : Prop := (∀ S, (w S)[p0]? = some (a, .inl (cA, n, .inl (S j)))) ∧ (∀ S f, (w S).set p0 (a, .inl (cA, n, .inl f)) = w (va_up S j f)) ∧ n < 2 ^ 31
/-- an object is there, of a class -/
def OB (w : va_W) (p0 a ci : Nat) : Prop := ∃ fs : List Value, w[p0]? = some (a, .inr (ci, fs))
/-- static methods, methods of objects, makers: what the tables say at a pool entry -/
def MC (y : MethodName) (cy : ByteArray) (n : Nat) (ret : Option FieldType) (nA : Nat) : Prop := Cond.code y cy n ret ∈ gT ∧ Cond.initialized y.cls ∈ gT ∧ (y.cls ≠ "java/lang/invoke/MethodHandle" ∧ y.cls ≠ "java/lang/invoke/VarHandle" ∧ (parseMethodDescriptor y.desc).map (fun d => d.parameters.length) = some nA) ∧ n ≤ 20
def MS (own : String) (idx : Nat) (y : MethodName) (cy : ByteArray) (n : Nat) (ret : Option FieldType) (nA : Nat) : Prop := MC y cy n ret nA ∧ Cond.static y ∈ gT ∧ (Cond.methodLink own idx y ∈ gT ∨ (own, idx, y) ∈ nW)
def MV (own : String) (idx ci : Nat) (y : MethodName) (cy : ByteArray) (n : Nat) (ret : Option FieldType) (nA : Nat) : Prop := MC y cy n ret nA ∧ Cond.instanceMethod y ∈ gT ∧ Cond.methodLink own idx y ∈ gT ∧ ∃ (C : String) (T : u_T) (N : Nat), classes[ci]? = some (C, T, N) ∧ Cond.selects C y y ∈ gT
def MI (own : String) (idx : Nat) (y : MethodName) (cy : ByteArray) (n nA : Nat) : Prop := MC y cy n none nA ∧ Cond.instanceMethod y ∈ gT ∧ y.name = "<init>" ∧ (Cond.methodLink own idx y ∈ gT ∨ (own, idx, y) ∈ nW)
theorem wsOf_good {y : MethodName} {cy : ByteArray} {n : Nat} {ret : Option FieldType} (h : Cond.code y cy n ret ∈ gT) : GoodIn gT (wsOf y cy n ret) := by
  intro w hw
  rcases List.mem_cons.mp hw with rfl | hw
  · exact gT_good (fun _ h => h) _ h
  · exact gT_good (fun _ h => h) _ hw
section XR
variable {p : Program} {l : Launch} {e : Env} {R : Room} {s : State} {m : MethodId} {args : Array Value} {below : List Frame} {meth : Method} {c : Code} {H : Heap} {locs : List Loc} {cells slots : Nat} {Q : State → Prop}
variable {cc : ByteArray} {pc : Nat} {ls : Array Slot} {rest : List Value} {D : va_G} {k : Nat → ClassId} {A : Nat → Prop} {nL d mc ms : Nat} {own : String} {H0 : Heap}
theorem x_get {w : va_W} {a ci f : Nat} {fs : List Value} {v : Value} {idx : Nat} {ty : FieldType} {fin : Bool} (p0 : Nat) (he : w[p0]? = some (a, .inr (ci, fs))) (hv : fs[f]? = some v) (F : Fx p R s m args c cc nL own D k d mc ms) (hw : Wd D A H0 H locs w) (fo : FO own idx ci f ty fin) (hdg : decode cc pc = .ok (.getfield idx, 3))
    (kk : W p l e R s m args below meth c H locs cells slots Q (F0 m (pc + 3) ls (v :: rest))) : W p l e R s m args below meth c H locs cells slots Q (F0 m pc ls (.ref a :: rest)) := by
  obtain ⟨C, T, N, ty0, hc, hf, hl, hin, -⟩ := fo
  exact va_get F.1.1 F.1.2 F.2.1.2.2 hin F.2.1.2.1 F.2.2.1.1 hw.1 p0 he hc f hf (F.2.1.2.2 _ hl) (fun _ h => h) hv hdg kk
theorem x_getr {w : va_W} {p0 a ci f b : Nat} {idx : Nat} {ty : FieldType} {fin : Bool} (hr : FR w p0 a ci f b) (F : Fx p R s m args c cc nL own D k d mc ms) (hw : Wd D A H0 H locs w) (fo : FO own idx ci f ty fin) (hdg : decode cc pc = .ok (.getfield idx, 3))
    (kk : W p l e R s m args below meth c H locs cells slots Q (F0 m (pc + 3) ls (.ref b :: rest))) : W p l e R s m args below meth c H locs cells slots Q (F0 m pc ls (.ref a :: rest)) := by
  obtain ⟨fs, he, hv⟩ := hr
  exact x_get p0 he hv F hw fo hdg kk
theorem x_geti {w : St → va_W} {S : St} {p0 a ci f j : Nat} {idx : Nat} {ty : FieldType} {fin : Bool} (hi : FI w p0 a ci f j) (F : Fx p R s m args c cc nL own D k d mc ms) (hw : Wd D A H0 H locs (w S)) (fo : FO own idx ci f ty fin) (hdg : decode cc pc = .ok (.getfield idx, 3))
    (kk : W p l e R s m args below meth c H locs cells slots Q (F0 m (pc + 3) ls (.int (S j 0) :: rest))) : W p l e R s m args below meth c H locs cells slots Q (F0 m pc ls (.ref a :: rest)) := by
  obtain ⟨fs, he, hv, -⟩ := hi
  exact x_get p0 (he S) (hv S) F hw fo hdg kk
theorem x_put {w : va_W} {a ci f : Nat} {fs : List Value} {v : Value} {idx : Nat} {ty : FieldType} (p0 : Nat) (he : w[p0]? = some (a, .inr (ci, fs))) (hl : f < fs.length) (F : Fx p R s m args c cc nL own D k d mc ms) (hw : Wd D A H0 H locs w) (fo : FO own idx ci f ty false) (hn : narrow ty v = v) (hfit : fits ty v = true) (hdg : decode cc pc = .ok (.putfield idx, 3))
    (kk : ∀ (H : Heap) (locs : List Loc), Wd D A H0 H locs (w.set p0 (a, .inr (ci, fs.set f v))) → W p l e R s m args below meth c H locs cells slots Q (F0 m (pc + 3) ls rest)) : W p l e R s m args below meth c H locs cells slots Q (F0 m pc ls (v :: .ref a :: rest)) := by
  obtain ⟨C, T, N, ty0, hc, hf, hlk, hin, hty, hnm, hd, hfin, -⟩ := fo
  exact va_put F.1.1 F.1.2 F.2.1.2.2 hin ty0 hty hnm F.2.1.2.1 F.2.2.1.1 hw.1 hw.2.1 hw.2.2.1 p0 he hc f hf (F.2.1.2.2 _ hlk) (fun _ h => h) hfin hd hn hfit hl hdg (fun H1 locs1 h1 h2 h3 => kk H1 locs1 ⟨h1, h2, h3, hw.2.2.2⟩)
theorem x_puti {w : St → va_W} {S : St} {p0 a ci f j : Nat} {v : Int32} {idx : Nat} {ty : FieldType} (hi : FI w p0 a ci f j) (F : Fx p R s m args c cc nL own D k d mc ms) (hw : Wd D A H0 H locs (w S)) (fo : FO own idx ci f ty false) (hn : narrow ty (.int v) = .int v) (hfit : fits ty (.int v) = true) (hdg : decode cc pc = .ok (.putfield idx, 3))
    (kk : ∀ (H : Heap) (locs : List Loc), Wd D A H0 H locs (w (va_up S j (fun _ => v))) → W p l e R s m args below meth c H locs cells slots Q (F0 m (pc + 3) ls rest)) : W p l e R s m args below meth c H locs cells slots Q (F0 m pc ls (.int v :: .ref a :: rest)) := by
  obtain ⟨fs, he, -, hs, hl⟩ := hi
  refine x_put p0 (he S) (hl S) F hw fo hn hfit hdg (fun H1 locs1 h1 => kk H1 locs1 ?_)
  rw [hs] at h1
  exact h1
/-- a final field, in a maker -/
theorem x_putF {w : va_W} {a ci f : Nat} {fs : List Value} {v : Value} {idx : Nat} {ty : FieldType} (p0 : Nat) (he : w[p0]? = some (a, .inr (ci, fs))) (hl : f < fs.length) (F : Fx p R s m args c cc nL own D k d mc ms) (hw : Wd D A H0 H locs w) (fo : FO own idx ci f ty true) (hin2 : meth.name = "<init>") (hcl : classes[ci]?.map (fun q => q.1) = some own) (hn : narrow ty v = v) (hfit : fits ty v = true) (hdg : decode cc pc = .ok (.putfield idx, 3))
    (kk : ∀ (H : Heap) (locs : List Loc), Wd D A H0 H locs (w.set p0 (a, .inr (ci, fs.set f v))) → W p l e R s m args below meth c H locs cells slots Q (F0 m (pc + 3) ls rest)) : W p l e R s m args below meth c H locs cells slots Q (F0 m pc ls (v :: .ref a :: rest)) := by
  obtain ⟨C, T, N, ty0, hc, hf, hlk, hin, hty, hnm, hd, hfin, hC⟩ := fo
  rw [hc] at hcl
  have hown2 : (T f).1 = own := hC.trans (Option.some.inj hcl)
  exact va_putF F.1.1 F.1.2 F.2.1.2.2 hin ty0 hty hnm F.2.1.2.1 F.2.2.1.1 hw.1 hw.2.1 hw.2.2.1 p0 he hc f hf (F.2.1.2.2 _ hlk) (fun _ h => h) hfin hin2 hown2 hd hn hfit hl hdg (fun H1 locs1 h1 h2 h3 => kk H1 locs1 ⟨h1, h2, h3, hw.2.2.2⟩)
theorem x_iald {w : St → va_W} {S : St} {p0 a n j : Nat} {i : Int32} (ha : AI w p0 a (k 0) n j) (F : Fx p R s m args c cc nL own D k d mc ms) (hw : Wd D A H0 H locs (w S)) (i' : Nat) (hi : i = nI i') (hlt : i' < n) (hdg : decode cc pc = .ok (.iaload, 1))
    (kk : W p l e R s m args below meth c H locs cells slots Q (F0 m (pc + 1) ls (.int (S j i') :: rest))) : W p l e R s m args below meth c H locs cells slots Q (F0 m pc ls (.int i :: .ref a :: rest)) := by
  subst hi
  have hb : i' < 2 ^ 31 := Nat.lt_trans hlt ha.2.2
  refine va_iald F.1.1 F.1.2 F.2.2.1.1 hw.1 p0 0 (ha.1 S) rfl (vp_in_nI hlt ha.2.2) hdg ?_
  rw [nI_clamp hb]
  exact kk
theorem x_zald {w : St → va_W} {S : St} {p0 a n j : Nat} {i : Int32} (ha : AI w p0 a (k 1) n j) (F : Fx p R s m args c cc nL own D k d mc ms) (hw : Wd D A H0 H locs (w S)) (i' : Nat) (hi : i = nI i') (hlt : i' < n) (hdg : decode cc pc = .ok (.baload, 1))
    (kk : W p l e R s m args below meth c H locs cells slots Q (F0 m (pc + 1) ls (.int (S j i') :: rest))) : W p l e R s m args below meth c H locs cells slots Q (F0 m pc ls (.int i :: .ref a :: rest)) := by
  subst hi
  have hb : i' < 2 ^ 31 := Nat.lt_trans hlt ha.2.2
  refine va_zald F.1.1 F.1.2 F.2.2.1.1 hw.1 p0 1 (ha.1 S) rfl (vp_in_nI hlt ha.2.2) hdg ?_
  rw [nI_clamp hb]
  exact kk
theorem x_iast {w : St → va_W} {S : St} {p0 a n j : Nat} {i v : Int32} (ha : AI w p0 a (k 0) n j) (F : Fx p R s m args c cc nL own D k d mc ms) (hw : Wd D A H0 H locs (w S)) (i' : Nat) (hi : i = nI i') (hlt : i' < n) (hdg : decode cc pc = .ok (.iastore, 1))
    (kk : ∀ (H : Heap) (locs : List Loc), Wd D A H0 H locs (w (va_up S j (upd (S j) i' v))) → W p l e R s m args below meth c H locs cells slots Q (F0 m (pc + 1) ls rest)) : W p l e R s m args below meth c H locs cells slots Q (F0 m pc ls (.int v :: .int i :: .ref a :: rest)) := by
  subst hi
  have hb : i' < 2 ^ 31 := Nat.lt_trans hlt ha.2.2
  refine va_iast F.1.1 F.1.2 F.2.2.1.1 hw.1 hw.2.1 hw.2.2.1 p0 0 (ha.1 S) rfl (vp_in_nI hlt ha.2.2) hdg (fun H1 locs1 h1 h2 h3 => kk H1 locs1 ?_)
  rw [nI_clamp hb, ha.2.1] at h1 h2
  exact ⟨h1, h2, h3, hw.2.2.2⟩
theorem x_zast {w : St → va_W} {S : St} {p0 a n j : Nat} {i v : Int32} (ha : AI w p0 a (k 1) n j) (F : Fx p R s m args c cc nL own D k d mc ms) (hw : Wd D A H0 H locs (w S)) (i' : Nat) (hi : i = nI i') (hlt : i' < n) (hv : vp_nar .boolean v = v) (hdg : decode cc pc = .ok (.bastore, 1))
    (kk : ∀ (H : Heap) (locs : List Loc), Wd D A H0 H locs (w (va_up S j (upd (S j) i' v))) → W p l e R s m args below meth c H locs cells slots Q (F0 m (pc + 1) ls rest)) : W p l e R s m args below meth c H locs cells slots Q (F0 m pc ls (.int v :: .int i :: .ref a :: rest)) := by
  subst hi
  have hb : i' < 2 ^ 31 := Nat.lt_trans hlt ha.2.2
  refine va_zast F.1.1 F.1.2 F.2.2.1.1 hw.1 hw.2.1 hw.2.2.1 p0 1 (ha.1 S) rfl (vp_in_nI hlt ha.2.2) hdg (fun H1 locs1 h1 h2 h3 => kk H1 locs1 ?_)
  rw [nI_clamp hb, hv, ha.2.1] at h1 h2
  exact ⟨h1, h2, h3, hw.2.2.2⟩
theorem x_alen {w : St → va_W} {S : St} {p0 a n j : Nat} (ha : AI w p0 a (k 0) n j) (F : Fx p R s m args c cc nL own D k d mc ms) (hw : Wd D A H0 H locs (w S)) (hdg : decode cc pc = .ok (.arraylength, 1))
    (kk : W p l e R s m args below meth c H locs cells slots Q (F0 m (pc + 1) ls (.int (nI n) :: rest))) : W p l e R s m args below meth c H locs cells slots Q (F0 m pc ls (.ref a :: rest)) :=
  va_alen F.1.1 F.1.2 F.2.2.1.1 hw.1 p0 0 (ha.1 S) (ty := .int) rfl rfl hdg kk
/-- the row of a grid -/
theorem x_gald {w : va_W} {a n : Nat} {f : Nat → Option Nat} {b : Nat} {i : Int32} (p0 : Nat) (ha : w[p0]? = some (a, .inl (k 2, n, .inr (.inr (.inr (.inr f)))))) (hn : n < 2 ^ 31) (F : Fx p R s m args c cc nL own D k d mc ms) (hw : Wd D A H0 H locs w) (i' : Nat) (hi : i = nI i') (hlt : i' < n) (hf : f i' = some b) (hdg : decode cc pc = .ok (.aaload, 1))
    (kk : W p l e R s m args below meth c H locs cells slots Q (F0 m (pc + 1) ls (.ref b :: rest))) : W p l e R s m args below meth c H locs cells slots Q (F0 m pc ls (.int i :: .ref a :: rest)) := by
  subst hi
  have hb : i' < 2 ^ 31 := Nat.lt_trans hlt hn
  have hin : vp_in (nI i') n := vp_in_nI hlt hn
  have hlt2 : (nI i').toNatClampNeg < n := by rw [nI_clamp hb]; exact hlt
  refine W.aald (v := va_rf (f (nI i').toNatClampNeg)) (ty := .array .int) F.1.1 F.1.2 (hw.1 p0 _ ha) ((F.2.2.1.1.2 2 _ rfl).1 n (fun j => va_rf (f j))) rfl (fun q => by cases q) (by show ¬ (nI i' < 0 ∨ (arrV _ _ _).slots.size ≤ _); rw [arrV_size]; exact hin) (by show (arrV _ _ _).slots[_]? = _; rw [arrV_read _ _ hlt2]) rfl rfl hdg ?_
  rw [nI_clamp hb, hf]
  exact kk
/-- an array of objects, null among them -/
theorem x_aald {w : va_W} {a n : Nat} {f : Nat → Option Nat} {i : Int32} (p0 : Nat) (ha : w[p0]? = some (a, .inl (k 3, n, .inr (.inr (.inr (.inr f)))))) (hn : n < 2 ^ 31) (F : Fx p R s m args c cc nL own D k d mc ms) (hw : Wd D A H0 H locs w) (i' : Nat) (hi : i = nI i') (hlt : i' < n) (hdg : decode cc pc = .ok (.aaload, 1))
    (kk : W p l e R s m args below meth c H locs cells slots Q (F0 m (pc + 1) ls (va_rf (f i') :: rest))) : W p l e R s m args below meth c H locs cells slots Q (F0 m pc ls (.int i :: .ref a :: rest)) := by
  subst hi
  have hb : i' < 2 ^ 31 := Nat.lt_trans hlt hn
  refine va_aldq F.1.1 F.1.2 F.2.2.1.1 hw.1 p0 3 (C := RX1) ha rfl (vp_in_nI hlt hn) hdg ?_
  rw [nI_clamp hb]
  exact kk
theorem x_aast {w : va_W} {a n v qk : Nat} {f : Nat → Option Nat} {i : Int32} {vs : List Value} (p0 : Nat) (ha : w[p0]? = some (a, .inl (k 3, n, .inr (.inr (.inr (.inr f)))))) (hv : w[qk]? = some (v, .inr (1, vs))) (hn : n < 2 ^ 31) (F : Fx p R s m args c cc nL own D k d mc ms) (hw : Wd D A H0 H locs w) (i' : Nat) (hi : i = nI i') (hlt : i' < n) (hdg : decode cc pc = .ok (.aastore, 1))
    (kk : ∀ (H : Heap) (locs : List Loc), Wd D A H0 H locs (w.set p0 (a, .inl (k 3, n, .inr (.inr (.inr (.inr (va_up f i' (some v)))))))) → W p l e R s m args below meth c H locs cells slots Q (F0 m (pc + 1) ls rest)) : W p l e R s m args below meth c H locs cells slots Q (F0 m pc ls (.ref v :: .int i :: .ref a :: rest)) := by
  subst hi
  have hb : i' < 2 ^ 31 := Nat.lt_trans hlt hn
  refine va_astq F.1.1 F.1.2 F.2.2.1.1 hw.1 hw.2.1 hw.2.2.1 p0 3 qk 1 (r := (RX1, TX1, 12)) ha rfl hv rfl (vp_in_nI hlt hn) hdg (fun H1 locs1 h1 h2 h3 => kk H1 locs1 ?_)
  rw [nI_clamp hb] at h1 h2
  exact ⟨h1, h2, h3, hw.2.2.2⟩
/-- a computed number under another name -/
theorem x_top {x y : Int32} (h : x = y) (kk : W p l e R s m args below meth c H locs cells slots Q (F0 m pc ls (.int y :: rest))) : W p l e R s m args below meth c H locs cells slots Q (F0 m pc ls (.int x :: rest)) := by rw [h]; exact kk
theorem Wd.call {w w' : va_W} {H1 : Heap} {locs1 : List Loc} {t : State} (hw : Wd D A H0 H locs w) (ht : t.heap = H1) (hB : BqOf D w H.size w' t) (hS : va_S A H0 H1 locs1) : Wd D A H0 H1 locs1 w' := by
  refine ⟨by rw [← ht]; exact hB.1, hB.2.weaken (fun i q _ h => ?_), hS, hw.2.2.2⟩
  rcases h with ⟨j, e, h⟩ | h
  · exact hw.2.1.2 j (_, e) h
  · exact hw.2.2.2 _ (Nat.le_trans hw.2.2.1.1 h)
theorem Wd.free {w : va_W} (hw : Wd D A H0 H locs w) : ∀ q, va_A w H.size q → A q := by
  intro q h
  rcases h with ⟨j, e, h⟩ | h
  · exact hw.2.1.2 j (_, e) h
  · exact hw.2.2.2 _ (Nat.le_trans hw.2.2.1.1 h)
theorem Wd.pre {w : va_W} {av : List Value} (F : Fx p R s m args c cc nL own D k d mc ms) (hw : Wd D A H0 H locs w) : ∀ U : State, U.heap = H → s.WarmedH U.vm → PcOf D k av w H.size av.toArray U := fun U hU hW => ⟨rfl, by rw [hU], by rw [hU]; exact hw.1, F.2.2.1.warm hW, hw.2.1.weaken (fun _ _ _ _ => trivial)⟩
theorem x_dpt {n d' R1 : Nat} (hd : d' + 1 ≤ d) (hR : 40 * d ≤ R1) (hn : n ≤ 20) : 8 + (n + 11) + 40 * d' ≤ R1 := by omega
end XR
section XC
variable {p : Program} {l : Launch} {e : Env} {R : Room} {s : State} {m : MethodId} {args : Array Value} {below : List Frame} {meth : Method} {c : Code} {H : Heap} {locs : List Loc} {cells slots : Nat} {Q : State → Prop}
variable {cc : ByteArray} {pc : Nat} {ls : Array Slot} {D : va_G} {k : Nat → ClassId} {A : Nat → Prop} {nL d mc ms : Nat} {own : String} {H0 : Heap}
variable {y : MethodName} {cy : ByteArray} {n d' mc' ms' nA idx : Nat} {w : va_W} {st : List Value}
theorem x_runS {ret : Option FieldType} {As rest : List Value} {Qc : Array Value → State → Outcome → State → Prop} (hM : Met l y (wsOf y cy n ret) (rmOf d' mc' ms') (PcOf D k As w H.size) Qc mc' ms' (va_A w H.size)) (mo : MS own idx y cy n ret nA) (F : Fx p R s m args c cc nL own D k d mc ms) (hw : Wd D A H0 H locs w) (hd : d' + 1 ≤ d) (hcs : cells + mc' ≤ R.cells ∧ slots + ms' ≤ R.slots) (hst : st = As.reverse ++ rest) (hlen : As.length = nA) (hls : ls.size = nL) (hro : (rest.map fun v => v.category).sum ≤ 8) (hdg : decode cc pc = .ok (.invokestatic idx, 3)) :
    va_Run p l e R s m args below meth c H locs cells slots mc' ms' (F0 m pc ls st) rest (Qc As.toArray) (va_A w H.size) := by
  obtain ⟨⟨h1, h2, h3, h4⟩, h5, h6⟩ := mo
  obtain ⟨⟨f1, f2⟩, ⟨f3, f4, f5⟩, f6, f7, f8, f9, f10⟩ := id F
  have hR : (rmOf d' mc' ms').frames + 1 ≤ R.frames ∧ 8 + (n + 11) + (rmOf d' mc' ms').locals ≤ R.locals := ⟨Nat.le_trans hd f7, x_dpt hd f8 h4⟩
  rcases h6 with h6 | h6
  · exact va_runS (Ts := gT) ⟨f1, f2, f3, f4, f5⟩ hM ⟨callB_of nA f5 (wsOf_good h1) rfl rfl rfl (f5 _ h2) (f5 _ h6) h3 hR, f5 _ h5⟩ ⟨PcOf.blind, Wd.pre F hw⟩ rfl hlen hls hst (lv_room hro) hdg hcs
  · exact va_runSN (Ts := gT) (host := "CopiedSkins") ⟨f1, f2, f3, f4, f5⟩ hM ⟨va_cnB nA f5 (wsOf_good h1) rfl rfl rfl (f6.2.1 _ h6) (f5 _ h2) h3 hR, f5 _ h5, trivial⟩ ⟨PcOf.blind, Wd.pre F hw⟩ rfl hlen hls hst (lv_room hro) hdg hcs
theorem x_callSI {ret : Option FieldType} {As rest : List Value} {post : Int32 → va_W → Prop} (hc : CI l D k y cy n ret d' mc' ms' As w post) (mo : MS own idx y cy n ret nA) (F : Fx p R s m args c cc nL own D k d mc ms) (hw : Wd D A H0 H locs w) (hd : d' + 1 ≤ d) (hcs : cells + mc' ≤ R.cells ∧ slots + ms' ≤ R.slots) (hst : st = As.reverse ++ rest) (hlen : As.length = nA) (hls : ls.size = nL) (hro : (rest.map fun v => v.category).sum ≤ 8) (hdg : decode cc pc = .ok (.invokestatic idx, 3))
    (kk : ∀ (r : Int32) (w' : va_W) (H : Heap) (locs : List Loc), post r w' → Wd D A H0 H locs w' → W p l e R s m args below meth c H locs (cells + mc') (slots + ms') Q (F0 m (pc + 3) ls (.int r :: rest))) : W p l e R s m args below meth c H locs cells slots Q (F0 m pc ls st) :=
  va_calli (x_runS (hc H.size) mo F hw hd hcs hst hlen hls hro hdg) hw.2.2.1 (fun q _ h => hw.free q h) (fun q h => hw.free q h) (fun r w' t H1 locs1 ht _ hp hB _ _ hS => kk r w' H1 locs1 hp (hw.call ht hB hS))
theorem x_callSV {As rest : List Value} {post : va_W → Prop} (hc : CV l D k y cy n d' mc' ms' As w post) (mo : MS own idx y cy n none nA) (F : Fx p R s m args c cc nL own D k d mc ms) (hw : Wd D A H0 H locs w) (hd : d' + 1 ≤ d) (hcs : cells + mc' ≤ R.cells ∧ slots + ms' ≤ R.slots) (hst : st = As.reverse ++ rest) (hlen : As.length = nA) (hls : ls.size = nL) (hro : (rest.map fun v => v.category).sum ≤ 8) (hdg : decode cc pc = .ok (.invokestatic idx, 3))
    (kk : ∀ (w' : va_W) (H : Heap) (locs : List Loc), post w' → Wd D A H0 H locs w' → W p l e R s m args below meth c H locs (cells + mc') (slots + ms') Q (F0 m (pc + 3) ls rest)) : W p l e R s m args below meth c H locs cells slots Q (F0 m pc ls st) :=
  va_callv (x_runS (hc H.size) mo F hw hd hcs hst hlen hls hro hdg) hw.2.2.1 (fun q _ h => hw.free q h) (fun q h => hw.free q h) (fun w' t H1 locs1 ht _ hp hB _ _ hS => kk w' H1 locs1 hp (hw.call ht hB hS))
theorem x_runV {ret : Option FieldType} {b p0 ci : Nat} {As rest : List Value} {Qc : Array Value → State → Outcome → State → Prop} (hM : Met l y (wsOf y cy n ret) (rmOf d' mc' ms') (PcOf D k (.ref b :: As) w H.size) Qc mc' ms' (va_A w H.size)) (mo : MV own idx ci y cy n ret nA) (ob : OB w p0 b ci) (F : Fx p R s m args c cc nL own D k d mc ms) (hw : Wd D A H0 H locs w) (hd : d' + 1 ≤ d) (hcs : cells + mc' ≤ R.cells ∧ slots + ms' ≤ R.slots) (hst : st = As.reverse ++ .ref b :: rest) (hlen : As.length = nA) (hls : ls.size = nL) (hro : (rest.map fun v => v.category).sum ≤ 8) (hdg : decode cc pc = .ok (.invokevirtual idx, 3)) :
    va_Run p l e R s m args below meth c H locs cells slots mc' ms' (F0 m pc ls st) rest (Qc (Value.ref b :: As).toArray) (va_A w H.size) := by
  obtain ⟨⟨h1, h2, h3, h4⟩, h5, h6, C, T, N, h7, h8⟩ := mo
  obtain ⟨⟨f1, f2⟩, ⟨f3, f4, f5⟩, f6, f7, f8, f9, f10⟩ := id F
  obtain ⟨fs, ho⟩ := ob
  have hR : (rmOf d' mc' ms').frames + 1 ≤ R.frames ∧ 8 + (n + 11) + (rmOf d' mc' ms').locals ≤ R.locals := ⟨Nat.le_trans hd f7, x_dpt hd f8 h4⟩
  exact va_runV (Ts := gT) (C := C) ⟨f1, f2, f3, f4, f5⟩ hM ⟨callB_of nA f5 (wsOf_good h1) rfl rfl rfl (f5 _ h2) (f5 _ h6) h3 hR, f5 _ h5, f5 _ h8⟩ ⟨PcOf.blind, va_recv F.2.2.1.1 hw.1 (q := (C, T, N)) h7 ho, Wd.pre F hw⟩ rfl hlen hls hst (lv_room hro) hdg hcs
theorem x_callVI {ret : Option FieldType} {b p0 ci : Nat} {As rest : List Value} {post : Int32 → va_W → Prop} (hc : CI l D k y cy n ret d' mc' ms' (.ref b :: As) w post) (mo : MV own idx ci y cy n ret nA) (ob : OB w p0 b ci) (F : Fx p R s m args c cc nL own D k d mc ms) (hw : Wd D A H0 H locs w) (hd : d' + 1 ≤ d) (hcs : cells + mc' ≤ R.cells ∧ slots + ms' ≤ R.slots) (hst : st = As.reverse ++ .ref b :: rest) (hlen : As.length = nA) (hls : ls.size = nL) (hro : (rest.map fun v => v.category).sum ≤ 8) (hdg : decode cc pc = .ok (.invokevirtual idx, 3))
    (kk : ∀ (r : Int32) (w' : va_W) (H : Heap) (locs : List Loc), post r w' → Wd D A H0 H locs w' → W p l e R s m args below meth c H locs (cells + mc') (slots + ms') Q (F0 m (pc + 3) ls (.int r :: rest))) : W p l e R s m args below meth c H locs cells slots Q (F0 m pc ls st) :=
  va_calli (x_runV (hc H.size) mo ob F hw hd hcs hst hlen hls hro hdg) hw.2.2.1 (fun q _ h => hw.free q h) (fun q h => hw.free q h) (fun r w' t H1 locs1 ht _ hp hB _ _ hS => kk r w' H1 locs1 hp (hw.call ht hB hS))
theorem x_callVV {b p0 ci : Nat} {As rest : List Value} {post : va_W → Prop} (hc : CV l D k y cy n d' mc' ms' (.ref b :: As) w post) (mo : MV own idx ci y cy n none nA) (ob : OB w p0 b ci) (F : Fx p R s m args c cc nL own D k d mc ms) (hw : Wd D A H0 H locs w) (hd : d' + 1 ≤ d) (hcs : cells + mc' ≤ R.cells ∧ slots + ms' ≤ R.slots) (hst : st = As.reverse ++ .ref b :: rest) (hlen : As.length = nA) (hls : ls.size = nL) (hro : (rest.map fun v => v.category).sum ≤ 8) (hdg : decode cc pc = .ok (.invokevirtual idx, 3))
    (kk : ∀ (w' : va_W) (H : Heap) (locs : List Loc), post w' → Wd D A H0 H locs w' → W p l e R s m args below meth c H locs (cells + mc') (slots + ms') Q (F0 m (pc + 3) ls rest)) : W p l e R s m args below meth c H locs cells slots Q (F0 m pc ls st) :=
  va_callv (x_runV (hc H.size) mo ob F hw hd hcs hst hlen hls hro hdg) hw.2.2.1 (fun q _ h => hw.free q h) (fun q h => hw.free q h) (fun w' t H1 locs1 ht _ hp hB _ _ hS => kk w' H1 locs1 hp (hw.call ht hB hS))
theorem x_callI {b : Nat} {As rest : List Value} {post : va_W → Prop} (hc : CV l D k y cy n d' mc' ms' (.ref b :: As) w post) (mo : MI own idx y cy n nA) (F : Fx p R s m args c cc nL own D k d mc ms) (hw : Wd D A H0 H locs w) (hd : d' + 1 ≤ d) (hcs : cells + mc' ≤ R.cells ∧ slots + ms' ≤ R.slots) (hst : st = As.reverse ++ .ref b :: rest) (hlen : As.length = nA) (hls : ls.size = nL) (hro : (rest.map fun v => v.category).sum ≤ 8) (hdg : decode cc pc = .ok (.invokespecial idx, 3))
    (kk : ∀ (w' : va_W) (H : Heap) (locs : List Loc), post w' → Wd D A H0 H locs w' → W p l e R s m args below meth c H locs (cells + mc') (slots + ms') Q (F0 m (pc + 3) ls rest)) : W p l e R s m args below meth c H locs cells slots Q (F0 m pc ls st) := by
  obtain ⟨⟨h1, h2, h3, h4⟩, h5, h6, h7⟩ := mo
  obtain ⟨⟨f1, f2⟩, ⟨f3, f4, f5⟩, f6, f7, f8, f9, f10⟩ := id F
  have hR : (rmOf d' mc' ms').frames + 1 ≤ R.frames ∧ 8 + (n + 11) + (rmOf d' mc' ms').locals ≤ R.locals := ⟨Nat.le_trans hd f7, x_dpt hd f8 h4⟩
  have hr : va_Run p l e R s m args below meth c H locs cells slots mc' ms' (F0 m pc ls st) rest (va_Qv post (BqOf D w H.size) (va_A w H.size) (Value.ref b :: As).toArray) (va_A w H.size) := by
    rcases h7 with h7 | h7
    · exact va_runI (Ts := gT) ⟨f1, f2, f3, f4, f5⟩ (hc H.size) ⟨callB_of nA f5 (wsOf_good h1) rfl rfl rfl (f5 _ h2) (f5 _ h7) h3 hR, h6, f5 _ h5⟩ ⟨PcOf.blind, Wd.pre F hw⟩ rfl hlen hls hst (lv_room hro) hdg hcs
    · exact va_runIN (Ts := gT) (host := "CopiedSkins") ⟨f1, f2, f3, f4, f5⟩ (hc H.size) ⟨va_cnB nA f5 (wsOf_good h1) rfl rfl rfl (f6.2.1 _ h7) (f5 _ h2) h3 hR, h6, f5 _ h5⟩ ⟨PcOf.blind, Wd.pre F hw⟩ rfl hlen hls hst (lv_room hro) hdg hcs
  exact va_callv hr hw.2.2.1 (fun q _ h => hw.free q h) (fun q h => hw.free q h) (fun w' t H1 locs1 ht _ hp hB _ _ hS => kk w' H1 locs1 hp (hw.call ht hB hS))
/-- calls of methods whose answer and world are told -/
theorem x_fSI {ret : Option FieldType} {As rest : List Value} {w2 : va_W} {res : Int32} (hc : CI l D k y cy n ret d' mc' ms' As w (fun r w' => w' = w2 ∧ r = res)) (mo : MS own idx y cy n ret nA) (F : Fx p R s m args c cc nL own D k d mc ms) (hw : Wd D A H0 H locs w) (hd : d' + 1 ≤ d) (hcs : cells + mc' ≤ R.cells ∧ slots + ms' ≤ R.slots) (hst : st = As.reverse ++ rest) (hlen : As.length = nA) (hls : ls.size = nL) (hro : (rest.map fun v => v.category).sum ≤ 8) (hdg : decode cc pc = .ok (.invokestatic idx, 3))
    (kk : ∀ (H : Heap) (locs : List Loc), Wd D A H0 H locs w2 → W p l e R s m args below meth c H locs (cells + mc') (slots + ms') Q (F0 m (pc + 3) ls (.int res :: rest))) : W p l e R s m args below meth c H locs cells slots Q (F0 m pc ls st) :=
  x_callSI hc mo F hw hd hcs hst hlen hls hro hdg (fun r w' H1 locs1 hp h1 => by obtain ⟨rfl, rfl⟩ := hp; exact kk H1 locs1 h1)
theorem x_fSV {As rest : List Value} {w2 : va_W} (hc : CV l D k y cy n d' mc' ms' As w (fun w' => w' = w2)) (mo : MS own idx y cy n none nA) (F : Fx p R s m args c cc nL own D k d mc ms) (hw : Wd D A H0 H locs w) (hd : d' + 1 ≤ d) (hcs : cells + mc' ≤ R.cells ∧ slots + ms' ≤ R.slots) (hst : st = As.reverse ++ rest) (hlen : As.length = nA) (hls : ls.size = nL) (hro : (rest.map fun v => v.category).sum ≤ 8) (hdg : decode cc pc = .ok (.invokestatic idx, 3))
    (kk : ∀ (H : Heap) (locs : List Loc), Wd D A H0 H locs w2 → W p l e R s m args below meth c H locs (cells + mc') (slots + ms') Q (F0 m (pc + 3) ls rest)) : W p l e R s m args below meth c H locs cells slots Q (F0 m pc ls st) :=
  x_callSV hc mo F hw hd hcs hst hlen hls hro hdg (fun w' H1 locs1 hp h1 => by obtain rfl := hp; exact kk H1 locs1 h1)
theorem x_fVI {ret : Option FieldType} {b p0 ci : Nat} {As rest : List Value} {w2 : va_W} {res : Int32} (hc : CI l D k y cy n ret d' mc' ms' (.ref b :: As) w (fun r w' => w' = w2 ∧ r = res)) (mo : MV own idx ci y cy n ret nA) (ob : OB w p0 b ci) (F : Fx p R s m args c cc nL own D k d mc ms) (hw : Wd D A H0 H locs w) (hd : d' + 1 ≤ d) (hcs : cells + mc' ≤ R.cells ∧ slots + ms' ≤ R.slots) (hst : st = As.reverse ++ .ref b :: rest) (hlen : As.length = nA) (hls : ls.size = nL) (hro : (rest.map fun v => v.category).sum ≤ 8) (hdg : decode cc pc = .ok (.invokevirtual idx, 3))
    (kk : ∀ (H : Heap) (locs : List Loc), Wd D A H0 H locs w2 → W p l e R s m args below meth c H locs (cells + mc') (slots + ms') Q (F0 m (pc + 3) ls (.int res :: rest))) : W p l e R s m args below meth c H locs cells slots Q (F0 m pc ls st) :=
  x_callVI hc mo ob F hw hd hcs hst hlen hls hro hdg (fun r w' H1 locs1 hp h1 => by obtain ⟨rfl, rfl⟩ := hp; exact kk H1 locs1 h1)
theorem x_fVV {b p0 ci : Nat} {As rest : List Value} {w2 : va_W} (hc : CV l D k y cy n d' mc' ms' (.ref b :: As) w (fun w' => w' = w2)) (mo : MV own idx ci y cy n none nA) (ob : OB w p0 b ci) (F : Fx p R s m args c cc nL own D k d mc ms) (hw : Wd D A H0 H locs w) (hd : d' + 1 ≤ d) (hcs : cells + mc' ≤ R.cells ∧ slots + ms' ≤ R.slots) (hst : st = As.reverse ++ .ref b :: rest) (hlen : As.length = nA) (hls : ls.size = nL) (hro : (rest.map fun v => v.category).sum ≤ 8) (hdg : decode cc pc = .ok (.invokevirtual idx, 3))
    (kk : ∀ (H : Heap) (locs : List Loc), Wd D A H0 H locs w2 → W p l e R s m args below meth c H locs (cells + mc') (slots + ms') Q (F0 m (pc + 3) ls rest)) : W p l e R s m args below meth c H locs cells slots Q (F0 m pc ls st) :=
  x_callVV hc mo ob F hw hd hcs hst hlen hls hro hdg (fun w' H1 locs1 hp h1 => by obtain rfl := hp; exact kk H1 locs1 h1)
end XC
