/-! ===== our own kit: one list of words for all methods, one bundle of a walk's facts, one world a hypothesis ===== -/
abbrev St : Type := Nat → Nat → Int32
def gT : List Cond := lw_tbl.filter goodWord
theorem gT_of {w : Cond} (h : w ∈ lw_tbl) (hg : goodWord w = true) : w ∈ gT := List.mem_filter.mpr ⟨h, hg⟩
theorem gT_tb {w : Cond} (i : Nat) (h : lw_tbl[i]? = some w) (hg : goodWord w = true) : w ∈ gT := gT_of (List.mem_of_getElem? h) hg
theorem gT_good {big : List Cond} (h : ∀ w ∈ gT, w ∈ big) : GoodIn big gT := fun w hw => ⟨h w hw, good_of_word (List.mem_filter.mp hw).2⟩
abbrev classes : List vw_C := [(RX0, TX0, 4), (RX1, TX1, 12), (RX2, TX2, 3), (RX3, TX3, 2), (RX4, TX4, 7), (RX5, TX5, 11), (RX6, TX6, 7), (RX7, TX7, 30)]
def tyL (k : Nat → ClassId) : List (ClassId × FieldType) := [(k 0, .int), (k 1, .boolean), (k 2, .array .int), (k 3, .object RX1)]
/-- the links across the nest: own class, pool entry, method -/
def nW : List (String × Nat × MethodName) := [(RX6, 22, yX3_init), (RX3, 23, yX6_within), (RX1, 57, yX6_strokeOf), (RX1, 65, yX6_hasBit), (RX0, 41, yX6_within), (RX4, 31, yX6_within), (RX4, 50, yX6_hasBit)]
def xAOA (U : State) : Prop := (Cond.arrayOver (.array .int)).before #[] U = true
theorem xAOA.moved {u U : State} (hvm : u.vm.Alike U.vm) (h : xAOA u) : xAOA U := by
  have e : ∀ V : State, (Cond.arrayOver (.array .int)).before #[] V = ((((V.vm.findClass (FieldType.array .int).toString).bind (fun comp => V.vm.classes.findIdx? fun (x : Class) => match x.kind with | .array component _ => component == comp | _ => false)).bind (fun c => (V.vm.classes[c]?).map fun (k : Class) => match k.kind with | .array _ ty => decide (ty = FieldType.array .int) && decide (V.vm.findClass ("[" ++ (FieldType.array .int).toString) = some c) | _ => false)) == some true) := by
    intro V
    unfold Cond.before Cond.holds
    simp only [Cond.value]
    cases V.vm.findClass (FieldType.array .int).toString <;> rfl
  unfold xAOA at h ⊢
  rw [e] at h ⊢
  cases hc : u.vm.findClass (FieldType.array .int).toString with
  | none => rw [hc] at h; simp at h
  | some comp =>
    have f1 : U.vm.findClass (FieldType.array .int).toString = some comp := by rw [hvm.findClass]; exact hc
    rw [hc] at h
    rw [f1]
    simp only [Option.bind_some] at h ⊢
    have hi : (U.vm.classes.findIdx? fun (x : Class) => match x.kind with | .array component _ => component == comp | _ => false) = (u.vm.classes.findIdx? fun (x : Class) => match x.kind with | .array component _ => component == comp | _ => false) := by
      refine ((va_idx_bare U.vm comp).symm.trans ?_).trans (va_idx_bare u.vm comp)
      first | rw [hvm.bare_eq] | rw [← hvm.bare_eq]
    rw [hi]
    cases hx : (u.vm.classes.findIdx? fun (x : Class) => match x.kind with | .array component _ => component == comp | _ => false) with
    | none => rw [hx] at h; simp at h
    | some c =>
      rw [hx] at h
      simp only [Option.bind_some] at h ⊢
      cases hk : u.vm.classes[c]? with
      | none => rw [hk] at h; simp at h
      | some kA =>
        obtain ⟨k', hk', he⟩ := hvm.2.2 _ _ hk
        rw [hk] at h
        rw [hk']
        have hkk : k'.kind = kA.kind := by rw [he]
        simp only [Option.map_some] at h ⊢
        rw [hkk, hvm.findClass]
        exact h
def Cx (D : va_G) (k : Nat → ClassId) (U : State) : Prop := va_K D classes (tyL k) U ∧ (∀ q ∈ nW, va_Nw (.methodLinkNest q.1 q.2.1 q.2.2 "CopiedSkins") U) ∧ va_AO RX1 U ∧ xAOA U
theorem Cx.warm {D : va_G} {k : Nat → ClassId} {s U : State} (hW : s.WarmedH U.vm) (h : Cx D k s) : Cx D k U := ⟨va_K.moved hW.alike h.1, fun q hq => va_Nw.warmM hW (h.2.1 q hq), va_AO.moved hW.alike h.2.2.1, xAOA.moved hW.alike h.2.2.2⟩
theorem Cx.same {D : va_G} {k : Nat → ClassId} {u U : State} (hv : u.vm = U.vm) (h : Cx D k u) : Cx D k U := by
  have ha : u.vm.Alike U.vm := by rw [← hv]; exact Vm.Alike.refl _
  exact ⟨va_K.moved ha h.1, fun q hq => va_Nw.same rfl hv (h.2.1 q hq), va_AO.moved ha h.2.2.1, xAOA.moved ha h.2.2.2⟩
def wsOf (y : MethodName) (cy : ByteArray) (n : Nat) (ret : Option FieldType) : List Cond := .code y cy n ret :: gT
def PcOf (D : va_G) (k : Nat → ClassId) (av : List Value) (w : va_W) (sz : Nat) : Array Value → State → Prop := va_Pc av (fun U => U.heap.size = sz ∧ va_P D classes w U.heap ∧ Cx D k U ∧ va_D (fun _ => True) w)
theorem PcOf.blind {D : va_G} {k : Nat → ClassId} {av : List Value} {w : va_W} {sz : Nat} : FrameBlind (PcOf D k av w sz) := fun _ _ _ _ h => ⟨h.1, h.2.1, h.2.2.1, Cx.same rfl h.2.2.2.1, h.2.2.2.2⟩
def BqOf (D : va_G) (w : va_W) (sz : Nat) (w' : va_W) (t : State) : Prop := va_P D classes w' t.heap ∧ va_D (va_A w sz) w'
def rmOf (d mc ms : Nat) : Room := { frames := d, cells := mc, slots := ms, locals := 40 * d }
/-- a contract whose answer is an int (or a boolean): the world w becomes a w' with 'post answer w''; d: how deep its calls go -/
def CI (l : Launch) (D : va_G) (k : Nat → ClassId) (y : MethodName) (cy : ByteArray) (n : Nat) (ret : Option FieldType) (d mc ms : Nat) (av : List Value) (w : va_W) (post : Int32 → va_W → Prop) : Prop :=
  ∀ sz : Nat, Met l y (wsOf y cy n ret) (rmOf d mc ms) (PcOf D k av w sz) (va_Qi post (BqOf D w sz) (va_A w sz)) mc ms (va_A w sz)
def CV (l : Launch) (D : va_G) (k : Nat → ClassId) (y : MethodName) (cy : ByteArray) (n : Nat) (d mc ms : Nat) (av : List Value) (w : va_W) (post : va_W → Prop) : Prop :=
  ∀ sz : Nat, Met l y (wsOf y cy n none) (rmOf d mc ms) (PcOf D k av w sz) (va_Qv post (BqOf D w sz) (va_A w sz)) mc ms (va_A w sz)
/-- what a walk knows: the machine, the code, its class, the words, the room -/
def Fx (p : Program) (R : Room) (s : State) (m : MethodId) (args : Array Value) (c : Code) (cc : ByteArray) (nL : Nat) (own : String) (D : va_G) (k : Nat → ClassId) (d mc ms : Nat) : Prop :=
  (p.tables.exec = Jvm.exec ∧ c.code = cc) ∧ (c.maxLocals = nL ∧ s.vm.findClass own = some m.cls ∧ ∀ w ∈ gT, w.before args s = true) ∧ Cx D k s ∧ (d ≤ R.frames ∧ 40 * d ≤ R.locals ∧ mc ≤ R.cells ∧ ms ≤ R.slots)
/-- the world of a walk -/
def Wd (D : va_G) (A : Nat → Prop) (H0 H : Heap) (locs : List Loc) (w : va_W) : Prop := va_P D classes w H ∧ va_D A w ∧ va_S A H0 H locs ∧ ∀ q, H0.size ≤ q → A q
theorem xs_hx {p : Program} {R : Room} {s : State} {m : MethodId} {args : Array Value} {c : Code} {cc : ByteArray} {nL : Nat} {own : String} {D : va_G} {k : Nat → ClassId} {d mc ms : Nat} (F : Fx p R s m args c cc nL own D k d mc ms) : p.tables.exec = Jvm.exec := F.1.1
theorem xs_hb {p : Program} {R : Room} {s : State} {m : MethodId} {args : Array Value} {c : Code} {cc : ByteArray} {nL : Nat} {own : String} {D : va_G} {k : Nat → ClassId} {d mc ms : Nat} (F : Fx p R s m args c cc nL own D k d mc ms) : c.code = cc := F.1.2
section XE
variable {l : Launch} {D : va_G} {k : Nat → ClassId} {y : MethodName} {cy : ByteArray} {n : Nat} {d mc ms : Nat} {av : List Value} {w : va_W}
theorem CI.mk {ty : FieldType} {post : Int32 → va_W → Prop} (hy : plainName y.cls = true) (hen : (lg_sl av).length ≤ n)
    (body : ∀ (p : Program) (e : Env) (R : Room) (s : State) (m : MethodId) (args : Array Value) (below : List Frame) (meth : Method) (c : Code) (A : Nat → Prop) (Q : State → Prop) (ls : Array Slot), Fx p R s m args c cy n y.cls D k d mc ms →
      (∀ (H : Heap) (locs : List Loc) (pc : Nat) (ls : Array Slot) (v : Int32) (w' : va_W), decode cy pc = .ok (.ireturn, 1) → Wd D A s.heap H locs w' → narrow ty (.int v) = .int v → post v w' → W p l e R s m args below meth c H locs mc ms Q (F0 m pc ls [.int v])) →
      Wd D A s.heap s.heap [] w → lv_has ls n (lv_args 0 av) → W p l e R s m args below meth c s.heap [] 0 0 Q (F0 m 0 ls [])) : CI l D k y cy n (some ty) d mc ms av w post := by
  intro sz
  refine Met.ofW (cc := cy) (maxL := n) (ret := some ty) hy rfl ?_
  intro p e s m args below meth c s₁ B hml hv
  obtain ⟨rfl, hsz, hP, hC, hD0⟩ := hv
  subst hsz
  have hts : ∀ w ∈ wsOf y cy n (some ty), w.before av.toArray s = true := atoms_spec (ws := wsOf y cy n (some ty)) B.pre
  have hlocks := B.notSynchronized
  rw [lg_entry_eq]
  refine body p e _ s m _ below meth c (va_A w s.heap.size) _ _ ⟨⟨B.exec, B.bytes⟩, ⟨hml, findClass_of_methodNamed B.named, fun w hw => hts w (List.mem_cons_of_mem _ hw)⟩, hC, Nat.le_refl _, Nat.le_refl _, Nat.le_refl _, Nat.le_refl _⟩ (fun H locs pc ls v w' hdg hw hn hp => ?_) ⟨hP, hD0.self, va_S.rf, fun q h => Or.inr h⟩ (lv_entry av hen)
  exact W.zret (ty := ty) B.exec B.bytes B.returns hn (fun t ht hW => ⟨⟨v, w', rfl, hp, by rw [ht]; exact hw.1, hw.2.1⟩, hw.2.2.1.F ht⟩) hw.2.2.1.2.2 hdg
theorem CV.mk {post : va_W → Prop} (hy : plainName y.cls = true) (hen : (lg_sl av).length ≤ n)
    (body : ∀ (p : Program) (e : Env) (R : Room) (s : State) (m : MethodId) (args : Array Value) (below : List Frame) (meth : Method) (c : Code) (A : Nat → Prop) (Q : State → Prop) (ls : Array Slot), Fx p R s m args c cy n y.cls D k d mc ms → meth.name = y.name →
      (∀ (H : Heap) (locs : List Loc) (pc : Nat) (ls : Array Slot) (w' : va_W), decode cy pc = .ok (.return_, 1) → Wd D A s.heap H locs w' → post w' → W p l e R s m args below meth c H locs mc ms Q (F0 m pc ls [])) →
      Wd D A s.heap s.heap [] w → lv_has ls n (lv_args 0 av) → W p l e R s m args below meth c s.heap [] 0 0 Q (F0 m 0 ls [])) : CV l D k y cy n d mc ms av w post := by
  intro sz
  refine Met.ofW (cc := cy) (maxL := n) (ret := none) hy rfl ?_
  intro p e s m args below meth c s₁ B hml hv
  obtain ⟨rfl, hsz, hP, hC, hD0⟩ := hv
  subst hsz
  have hts : ∀ w ∈ wsOf y cy n none, w.before av.toArray s = true := atoms_spec (ws := wsOf y cy n none) B.pre
  have hlocks := B.notSynchronized
  rw [lg_entry_eq]
  refine body p e _ s m _ below meth c (va_A w s.heap.size) _ _ ⟨⟨B.exec, B.bytes⟩, ⟨hml, findClass_of_methodNamed B.named, fun w hw => hts w (List.mem_cons_of_mem _ hw)⟩, hC, Nat.le_refl _, Nat.le_refl _, Nat.le_refl _, Nat.le_refl _⟩ (name_of_methodNamed B.named B.method).1 (fun H locs pc ls w' hdg hw hp => ?_) ⟨hP, hD0.self, va_S.rf, fun q h => Or.inr h⟩ (lv_entry av hen)
  exact W.vret B.exec B.bytes B.returns (fun t ht hW => ⟨⟨w', rfl, hp, by rw [ht]; exact hw.1, hw.2.1⟩, hw.2.2.1.F ht⟩) hw.2.2.1.2.2 hdg
end XE
