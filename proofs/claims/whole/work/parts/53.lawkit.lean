/-! ===== the law: rows and its invariant ===== -/
def LInv (D : va_G) (A : Nat → Prop) (s : State) (k : Nat → ClassId) (q qm : Nat → Nat) (H : Heap) (locs : List Loc) : Prop := ∃ (z : Nat → Nat) (g : Nat → Option Nat) (S T : St) (r : Nat → Nat → Nat) (Si : Nat → St) (bb : Nat → Bool), Wd D A s.heap H locs (wC k q z g S (List.append (imW k r Si bb) (wM k qm T []))) ∧ RR S T z ∧ RIm g r Si T bb
section LK
variable {p : Program} {l : Launch} {e : Env} {R : Room} {s : State} {m : MethodId} {args : Array Value} {below : List Frame} {meth : Method} {c : Code} {H : Heap} {locs : List Loc} {cells slots : Nat} {Q : State → Prop}
variable {cc : ByteArray} {pc : Nat} {ls : Array Slot} {rest : List Value} {D : va_G} {k : Nat → ClassId} {A : Nat → Prop} {nL d mc ms : Nat} {own : String} {w : va_W}
theorem x_scr {b L : Nat} {xs : Nat → Int32} {i : Int32} (hX : va_X b L xs s s.heap) (hbl : b < s.heap.size) (hbA : ¬ A b) (hL : L ≤ 256) (F : Fx p R s m args c cc nL own D k d mc ms) (hw : Wd D A s.heap H locs w) (i' : Nat) (hi : i = nI i') (hlt : i' < L) (hdg : decode cc pc = .ok (.iaload, 1))
    (kk : W p l e R s m args below meth c H locs cells slots Q (F0 m (pc + 1) ls (.int (xs i') :: rest))) : W p l e R s m args below meth c H locs cells slots Q (F0 m pc ls (.int i :: .ref b :: rest)) := by
  subst hi
  refine va_sld F.1.1 F.1.2 hX hbl hbA hw.2.2.1 (vp_in_nI hlt (by omega)) hdg ?_
  rw [nI_clamp (by omega)]
  exact kk
end LK
theorem xAOA_spec {U : State} (h : xAOA U) : ∃ (c : ClassId) (kA : Class) (comp : ClassId), U.vm.findClass ("[" ++ (FieldType.array .int).toString) = some c ∧ U.vm.classes[c]? = some kA ∧ kA.kind = .array comp (.array .int) := by
  have h2 : (Cond.arrayOver (.array .int)).before #[] U = true := h
  simp only [Cond.before, Cond.holds, Cond.value, beq_iff_eq] at h2
  cases hc : U.vm.findClass (FieldType.array .int).toString with
  | none => simp [hc] at h2
  | some comp =>
    simp only [hc, Option.bind_some, Option.bind_eq_some_iff, Option.map_eq_some_iff] at h2
    obtain ⟨c, hi, k, hk, hb⟩ := h2
    cases hkind : k.kind with
    | array component ty =>
      rw [hkind] at hb
      simp at hb
      exact ⟨c, k, component, hb.2, hk, by rw [hkind, hb.1]⟩
    | _ => rw [hkind] at hb; simp at hb
theorem law_Cx {s : State} {b : Nat} (hts : ∀ w ∈ lw_tbl, w.before #[Value.ref b] s = true) : ∃ (D : va_G) (k : Nat → ClassId), Cx D k s := by
  have hg : ∀ w ∈ gT, w.before #[Value.ref b] s = true := fun w hw => hts w (List.mem_filter.mp hw).1
  obtain ⟨c0, i0, K0⟩ := u_known (C := RX0) (T := TX0) (N := 4) (n := 4) hg inX0 (hg _ ins_X0)
  obtain ⟨c1, i1, K1⟩ := u_known (C := RX1) (T := TX1) (N := 12) (n := 12) hg inX1 (hg _ ins_X1)
  obtain ⟨c2, i2, K2⟩ := u_known (C := RX2) (T := TX2) (N := 3) (n := 3) hg inX2 (hg _ ins_X2)
  obtain ⟨c3, i3, K3⟩ := u_known (C := RX3) (T := TX3) (N := 2) (n := 2) hg inX3 (hg _ ins_X3)
  obtain ⟨c4, i4, K4⟩ := u_known (C := RX4) (T := TX4) (N := 7) (n := 7) hg inX4 (hg _ ins_X4)
  obtain ⟨c5, i5, K5⟩ := u_known (C := RX5) (T := TX5) (N := 11) (n := 11) hg inX5 (hg _ ins_X5)
  obtain ⟨c6, i6, K6⟩ := u_known (C := RX6) (T := TX6) (N := 7) (n := 7) hg inX6 (hg _ ins_X6)
  obtain ⟨c7, i7, K7⟩ := u_known (C := RX7) (T := TX7) (N := 30) (n := 30) hg inX7 (hg _ ins_X7)
  obtain ⟨a0, ka0, co0, f0, g0, h0⟩ := Cond.arrayClass_spec (hg _ w_acI)
  obtain ⟨a1, ka1, co1, f1, g1, h1⟩ := Cond.arrayClass_spec (hg _ w_acZ)
  have hAO : xAOA s := hts (.arrayOver (.array .int)) (List.mem_of_getElem? (i := 49) (by decide +kernel))
  obtain ⟨a2, ka2, co2, f2, g2, h2⟩ := xAOA_spec hAO
  have hAR : va_AO RX1 s := va_AO.of (hts (.arrayOver (.object RX1)) (List.mem_of_getElem? (i := 110) (by decide +kernel)))
  obtain ⟨co3, a3, ka3, f3, -, g3, h3, e3⟩ := Cond.arrayOver_spec (va_AO.use (A := #[]) hAR)
  refine ⟨(fun n => [c0, c1, c2, c3, c4, c5, c6, c7].getD n c0, fun n => [i0, i1, i2, i3, i4, i5, i6, i7].getD n i0), fun n => [a0, a1, a2, a3].getD n a0, ⟨fun n r hr => ?_, fun n r hr => ?_⟩, fun r hr => ?_, hAR, hAO⟩
  · match n, hr with
    | 0, hr => cases hr; exact K0
    | 1, hr => cases hr; exact K1
    | 2, hr => cases hr; exact K2
    | 3, hr => cases hr; exact K3
    | 4, hr => cases hr; exact K4
    | 5, hr => cases hr; exact K5
    | 6, hr => cases hr; exact K6
    | 7, hr => cases hr; exact K7
    | n + 8, hr => simp [classes] at hr
  · match n, hr with
    | 0, hr => cases hr; exact ⟨fun N z => ⟨(fun k h => by cases h), ka0, g0, co0, h0⟩, f0⟩
    | 1, hr => cases hr; exact ⟨fun N z => ⟨(fun k h => by cases h), ka1, g1, co1, h1⟩, f1⟩
    | 2, hr => cases hr; exact ⟨fun N z => ⟨(fun k h => by cases h), ka2, g2, co2, h2⟩, f2⟩
    | 3, hr => cases hr; exact ⟨fun N z => ⟨(fun k h => by cases h), ka3, g3, co3, h3⟩, ka3, co3, g3, h3, f3, e3⟩
    | n + 4, hr => simp [tyL] at hr
  · simp only [nW, List.mem_cons, List.not_mem_nil, or_false] at hr
    rcases hr with rfl | rfl | rfl | rfl | rfl | rfl | rfl
    · exact va_Nw.of rfl (hts (.methodLinkNest RX6 22 yX3_init "CopiedSkins") (List.mem_of_getElem? (i := 113) (by decide +kernel)))
    · exact va_Nw.of rfl (hts (.methodLinkNest RX3 23 yX6_within "CopiedSkins") (List.mem_of_getElem? (i := 324) (by decide +kernel)))
    · exact va_Nw.of rfl (hts (.methodLinkNest RX1 57 yX6_strokeOf "CopiedSkins") (List.mem_of_getElem? (i := 357) (by decide +kernel)))
    · exact va_Nw.of rfl (hts (.methodLinkNest RX1 65 yX6_hasBit "CopiedSkins") (List.mem_of_getElem? (i := 430) (by decide +kernel)))
    · exact va_Nw.of rfl (hts (.methodLinkNest RX0 41 yX6_within "CopiedSkins") (List.mem_of_getElem? (i := 460) (by decide +kernel)))
    · exact va_Nw.of rfl (hts (.methodLinkNest RX4 31 yX6_within "CopiedSkins") (List.mem_of_getElem? (i := 538) (by decide +kernel)))
    · exact va_Nw.of rfl (hts (.methodLinkNest RX4 50 yX6_hasBit "CopiedSkins") (List.mem_of_getElem? (i := 557) (by decide +kernel)))
theorem SlR_28 {T T' : St} (h : SlR T T') : T' 28 = T 28 ∧ T' 29 = T 29 := by
  rcases h with e | ⟨fs, e, -⟩
  · rw [e]; exact ⟨rfl, rfl⟩
  · rw [e]; exact ⟨rfl, rfl⟩
theorem LQ_28 {T T' : St} (h : LQ T T') : T' 28 = T 28 ∧ T' 29 = T 29 := by
  rcases h with e | e
  · rw [e]; exact ⟨rfl, rfl⟩
  · exact ⟨e.1 28 (by omega), e.1 29 (by omega)⟩
theorem k_picture (T : St) (a1 a2 a3 : Int32) : (m_picture T a1 a2 a3).2 28 = T 28 ∧ (m_picture T a1 a2 a3).2 29 = T 29 := by
  unfold m_picture
  repeat' split
  all_goals exact ⟨rfl, rfl⟩
theorem k_about (T : St) (a1 a2 : Int32) : (m_about T a1 a2).2 28 = T 28 ∧ (m_about T a1 a2).2 29 = T 29 := by
  unfold m_about
  repeat' split
  all_goals exact ⟨rfl, rfl⟩
theorem k_set (T : St) (a1 a2 : Int32) : (m_set T a1 a2).2 28 = T 28 ∧ (m_set T a1 a2).2 29 = T 29 := by
  unfold m_set
  repeat' split
  all_goals exact ⟨rfl, rfl⟩
theorem k_say (T : St) (a1 : Int32) : (m_say T a1).2 28 = T 28 ∧ (m_say T a1).2 29 = T 29 := by
  unfold m_say
  repeat' split
  all_goals exact ⟨rfl, rfl⟩
theorem k_wipe (T : St)  : (m_wipe T ).2 28 = T 28 ∧ (m_wipe T ).2 29 = T 29 := by
  unfold m_wipe
  repeat' split
  all_goals exact ⟨rfl, rfl⟩
theorem k_fault (T : St)  : (m_fault T ).2 28 = T 28 ∧ (m_fault T ).2 29 = T 29 := by
  unfold m_fault
  repeat' split
  all_goals exact ⟨rfl, rfl⟩
theorem k_law (T : St)  : (m_law T ).2 28 = T 28 ∧ (m_law T ).2 29 = T 29 := by
  unfold m_law
  repeat' split
  all_goals exact ⟨rfl, rfl⟩
theorem k_width (T : St) (a1 a2 : Int32) : (m_width T a1 a2).2 28 = T 28 ∧ (m_width T a1 a2).2 29 = T 29 := by
  unfold m_width
  repeat' split
  all_goals exact ⟨rfl, rfl⟩
theorem k_spread (T : St) (a1 a2 a3 : Int32) : (m_spread T a1 a2 a3).2 28 = T 28 ∧ (m_spread T a1 a2 a3).2 29 = T 29 := by
  unfold m_spread
  repeat' split
  all_goals exact ⟨rfl, rfl⟩
theorem k_aged (T : St) (a1 a2 : Int32) : (m_aged T a1 a2).2 28 = T 28 ∧ (m_aged T a1 a2).2 29 = T 29 := by
  unfold m_aged
  repeat' split
  all_goals exact ⟨rfl, rfl⟩
theorem k_take (T : St) (a1 : Int32) : (m_take T a1).2 28 = T 28 ∧ (m_take T a1).2 29 = T 29 := by
  by_cases c : haMP T a1 = 0
  · rw [m_take_1 c]; exact ⟨rfl, rfl⟩
  · by_cases d : 0 ≤ T 4 (clN a1)
    · rw [m_take_eq c d]
      cases tkP (T 2 (clN a1)) (T 3 (clN a1)) (magS T (clN a1) 25 0) (magS T (clN a1) 26 0) (magS T (clN a1) 27 0 = 0) with
      | none => exact ⟨rfl, rfl⟩
      | some lh => exact ⟨rfl, rfl⟩
    · rw [m_take_2 c d]; exact ⟨rfl, rfl⟩
theorem k_hide (T : St) (a1 a2 a3 : Int32) : (m_hide T a1 a2 a3).2 28 = T 28 ∧ (m_hide T a1 a2 a3).2 29 = T 29 := by
  unfold m_hide
  repeat' split
  all_goals exact ⟨rfl, rfl⟩
theorem k_hides (T : St) (a1 a2 : Int32) : (m_hides T a1 a2).2 28 = T 28 ∧ (m_hides T a1 a2).2 29 = T 29 := by
  unfold m_hides
  repeat' split
  all_goals exact ⟨rfl, rfl⟩
theorem k_man (T : St)  : (m_man T ).2 28 = T 28 ∧ (m_man T ).2 29 = T 29 := by
  unfold m_man
  repeat' split
  all_goals exact ⟨rfl, rfl⟩
theorem k_meet (T : St) (a1 a2 : Int32) : (m_meet T a1 a2).2 28 = T 28 ∧ (m_meet T a1 a2).2 29 = T 29 := by
  unfold m_meet
  repeat' split
  all_goals exact ⟨rfl, rfl⟩
theorem k_sick (T : St) (a1 a2 : Int32) : (m_sick T a1 a2).2 28 = T 28 ∧ (m_sick T a1 a2).2 29 = T 29 := by
  unfold m_sick
  repeat' split
  all_goals exact ⟨rfl, rfl⟩
theorem k_from (T : St) (a1 : Int32) : (m_from T a1).2 28 = T 28 ∧ (m_from T a1).2 29 = T 29 := by
  unfold m_from
  repeat' split
  all_goals exact ⟨rfl, rfl⟩
theorem k_firsts (T : St) (a1 : Int32) : (m_firsts T a1).2 28 = T 28 ∧ (m_firsts T a1).2 29 = T 29 := by
  unfold m_firsts
  repeat' split
  all_goals exact ⟨rfl, rfl⟩
theorem k_told (T : St) (a1 : Int32) : (m_told T a1).2 28 = T 28 ∧ (m_told T a1).2 29 = T 29 := by
  unfold m_told
  repeat' split
  all_goals exact ⟨rfl, rfl⟩
