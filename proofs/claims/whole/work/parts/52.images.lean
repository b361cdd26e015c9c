/-! ===== images: the class against the reference ===== -/
def TI (T : St) (b : Nat) : St := fun r j => if r = 0 then T 28 b else if r = 8 then T 28 (b + 1) else if r = 1 then T 28 (b + 2 + j) else if r = 2 then T 28 (b + 8 + j) else if r = 3 then T 28 (b + 14 + j) else if r = 4 then T 28 (b + 20 + j) else if r = 5 then T 28 (b + 26 + j) else if r = 10 then T 28 (b + 30 + j) else if r = 11 then T 28 (b + 34 + j) else if r = 12 then T 28 (b + 42 + j) else T 28 (b + 50 + j)
def RIm (g : Nat → Option Nat) (r : Nat → Nat → Nat) (Si : Nat → St) (T : St) (b : Nat → Bool) : Prop := ∀ i, i < 2 → (b i = false ∧ g i = none ∧ T 29 i = nI 0) ∨ (b i = true ∧ g i = some (r i 2) ∧ T 29 i = nI 1 ∧ RA (Si i) (TI T (110 * i)))
def imW (k : Nat → ClassId) (r : Nat → Nat → Nat) (Si : Nat → St) (b : Nat → Bool) : va_W := List.append (if b 0 then alb k (r 0) (Si 0) [] else []) (if b 1 then alb k (r 1) (Si 1) [] else [])
theorem RIm_T {g : Nat → Option Nat} {r : Nat → Nat → Nat} {Si : Nat → St} {T T' : St} {b : Nat → Bool} (h28 : T' 28 = T 28) (h29 : T' 29 = T 29) (h : RIm g r Si T b) : RIm g r Si T' b := by
  have e : ∀ x, TI T' x = TI T x := fun x => by unfold TI; rw [h28]
  intro i hi
  rw [h29, e]
  exact h i hi
section IM
variable {S T : St} {z : Nat → Nat}
theorem CPA.ra {S2 S' : St} {U V : St} (h : RA S U) (hc : CPA S2 S S') (hT0 : V 0 0 = U 0 0) (hT8 : V 8 0 = U 8 0) (hT6 : ∀ j, j < 6 → V 1 j = U 1 j ∧ V 2 j = U 2 j ∧ V 3 j = U 3 j ∧ V 4 j = U 4 j) (hT4 : ∀ j, j < 4 → V 5 j = U 5 j ∧ V 10 j = U 10 j) (hT9 : ∀ j, j < 50 → V 9 j = U 9 j) (hTh : ∀ j, j < 8 → V 11 j = U 11 j ∧ V 12 j = U 12 j) : RA S' V := by
  obtain ⟨⟨⟨c1, c2⟩, c3, c4, -⟩, c5, c6, c7⟩ := hc
  exact RA_cg (S := S) (T := U) c1 c2 c3 c4 c5 c6 c7 hT0 hT8 hT6 hT4 hT9 hTh h
theorem img_ra {S2 S' T' : St} {sl : Int32} (h : RA S T) (hc : CPA S2 S S') (hm : mImg T T' sl) : RA S' (TI T' (110 * clN sl)) := by
  obtain ⟨f, e, ⟨i1, i2⟩, i3, i4, i5, i6, i7⟩ := hm
  have e28 : T' 28 = f := by rw [e, up_ne (by decide), up_eq]
  refine hc.ra h ?_ ?_ (fun j hj => ?_) (fun j hj => ?_) (fun j hj => ?_) (fun j hj => ?_)
  · show T' 28 (110 * clN sl) = _; rw [e28]; exact i1
  · show T' 28 (110 * clN sl + 1) = _; rw [e28]; exact i2
  · obtain ⟨a1, a2, a3, a4⟩ := i3 j hj
    show T' 28 (110 * clN sl + 2 + j) = _ ∧ T' 28 (110 * clN sl + 8 + j) = _ ∧ T' 28 (110 * clN sl + 14 + j) = _ ∧ T' 28 (110 * clN sl + 20 + j) = _
    rw [e28]; exact ⟨a1, a2, a3, a4⟩
  · obtain ⟨a1, a2⟩ := i4 j hj
    show T' 28 (110 * clN sl + 26 + j) = _ ∧ T' 28 (110 * clN sl + 30 + j) = _
    rw [e28]; exact ⟨a1, a2⟩
  · show T' 28 (110 * clN sl + 50 + j) = _
    rw [e28]; exact i6 j hj
  · obtain ⟨a1, a2⟩ := i5 j hj
    show T' 28 (110 * clN sl + 34 + j) = _ ∧ T' 28 (110 * clN sl + 42 + j) = _
    rw [e28]; exact ⟨a1, a2⟩
theorem img_oth {X T' : St} {sl : Int32} {i : Nat} (hm : mImg T T' sl) (hi : ¬ i = clN sl) (h : RA X (TI T (110 * i))) : RA X (TI T' (110 * i)) := by
  obtain ⟨f, e, ⟨i1, i2⟩, i3, i4, i5, i6, i7⟩ := hm
  have e28 : T' 28 = f := by rw [e, up_ne (by decide), up_eq]
  have k : ∀ x, x < 110 → T' 28 (110 * i + x) = T 28 (110 * i + x) := fun x hx => by rw [e28]; exact i7 _ (by omega)
  have k2 : ∀ a x, a + x < 110 → T' 28 (110 * i + a + x) = T 28 (110 * i + a + x) := fun a x hx => by rw [Nat.add_assoc]; exact k _ hx
  refine RA_cg (S := X) (T := TI T (110 * i)) rfl rfl (fun _ _ => ⟨rfl, rfl, rfl, rfl⟩) (fun _ _ _ _ => rfl) (fun _ _ => rfl) (fun _ _ => ⟨rfl, rfl⟩) (fun _ _ => ⟨rfl, rfl⟩) (k 0 (by omega)) (k 1 (by omega)) (fun j hj => ⟨k2 2 j (by omega), k2 8 j (by omega), k2 14 j (by omega), k2 20 j (by omega)⟩) (fun j hj => ⟨k2 26 j (by omega), k2 30 j (by omega)⟩) (fun j hj => k2 50 j (by omega)) (fun j hj => ⟨k2 34 j (by omega), k2 42 j (by omega)⟩) h
theorem img_rr {T' : St} {sl : Int32} (h : RR S T z) (hm : mImg T T' sl) : RR S T' z := by
  obtain ⟨f, e, -⟩ := hm
  rw [e]
  exact RR_f (S := S) (T := T) (fun _ _ => rfl) (fun r hr => by rw [up_ne (by omega), up_ne (by omega)]) h
/-- an image taken: what holds behind it -/
theorem img_im {g : Nat → Option Nat} {r : Nat → Nat → Nat} {Si : Nat → St} {b : Nat → Bool} {S2 S' T' : St} {sl : Int32} {rn : Nat → Nat} (h : RR S T z) (hI : RIm g r Si T b) (hc : CPA S2 S S') (hm : mImg T T' sl) : RIm (va_up g (clN sl) (some (rn 2))) (fun j => if j = clN sl then rn else r j) (fun j => if j = clN sl then S' else Si j) T' (fun j => if j = clN sl then true else b j) := by
  intro i hi
  have e29 : T' 29 i = upd (T 29) (clN sl) (nI 1) i := by
    obtain ⟨f, e, -⟩ := hm
    rw [e, up_eq]
  by_cases q : i = clN sl
  · right
    simp only [if_pos q]
    refine ⟨trivial, if_pos q, by rw [e29, q, pk_us], by rw [q]; exact img_ra h.1 hc hm⟩
  · simp only [if_neg q]
    rw [e29, pk_un q, show va_up g (clN sl) (some (rn 2)) i = g i from if_neg q]
    rcases hI i hi with w | ⟨w1, w2, w3, w4⟩
    · exact Or.inl w
    · exact Or.inr ⟨w1, w2, w3, img_oth hm q w4⟩
theorem res_rr {S2 S' T' : St} {b0 : Nat} (h : RR S T z) (hc : CPA S S2 S') (h2 : RA S2 (TI T b0)) (hm : mRes T T' b0) : RR (va_up S' 45 (fun _ => nI 0)) T' z ∧ T' 28 = T 28 ∧ T' 29 = T 29 := by
  obtain ⟨f1, f2, f3, f4, f5, f9, f10, f11, f12, e, k1, k2, k3, k4, k5, k10, k11, k12, k9⟩ := hm
  have hrow := hc.1.2.2.2
  have fr : ∀ r, ¬ r = 0 → ¬ r = 8 → ¬ r = 1 → ¬ r = 2 → ¬ r = 3 → ¬ r = 4 → ¬ r = 5 → ¬ r = 10 → ¬ r = 11 → ¬ r = 12 → ¬ r = 9 → ¬ r = 18 → T' r = T r := fun r a0 a8 a1 a2 a3 a4 a5 a10 a11 a12 a9 a18 => by
    rw [e, up_ne a18, up_ne a9, up_ne a12, up_ne a11, up_ne a10, up_ne a5, up_ne a4, up_ne a3, up_ne a2, up_ne a1, up_ne a8, up_ne a0]
  have r0 : T' 0 = fun _ => T 28 b0 := by rw [e, up_ne (by decide), up_ne (by decide), up_ne (by decide), up_ne (by decide), up_ne (by decide), up_ne (by decide), up_ne (by decide), up_ne (by decide), up_ne (by decide), up_ne (by decide), up_ne (by decide), up_eq]
  have r8 : T' 8 = fun _ => T 28 (b0 + 1) := by rw [e, up_ne (by decide), up_ne (by decide), up_ne (by decide), up_ne (by decide), up_ne (by decide), up_ne (by decide), up_ne (by decide), up_ne (by decide), up_ne (by decide), up_ne (by decide), up_eq]
  have r1 : T' 1 = f1 := by rw [e, up_ne (by decide), up_ne (by decide), up_ne (by decide), up_ne (by decide), up_ne (by decide), up_ne (by decide), up_ne (by decide), up_ne (by decide), up_ne (by decide), up_eq]
  have r2 : T' 2 = f2 := by rw [e, up_ne (by decide), up_ne (by decide), up_ne (by decide), up_ne (by decide), up_ne (by decide), up_ne (by decide), up_ne (by decide), up_ne (by decide), up_eq]
  have r3 : T' 3 = f3 := by rw [e, up_ne (by decide), up_ne (by decide), up_ne (by decide), up_ne (by decide), up_ne (by decide), up_ne (by decide), up_ne (by decide), up_eq]
  have r4 : T' 4 = f4 := by rw [e, up_ne (by decide), up_ne (by decide), up_ne (by decide), up_ne (by decide), up_ne (by decide), up_ne (by decide), up_eq]
  have r5 : T' 5 = f5 := by rw [e, up_ne (by decide), up_ne (by decide), up_ne (by decide), up_ne (by decide), up_ne (by decide), up_eq]
  have r10 : T' 10 = f10 := by rw [e, up_ne (by decide), up_ne (by decide), up_ne (by decide), up_ne (by decide), up_eq]
  have r11 : T' 11 = f11 := by rw [e, up_ne (by decide), up_ne (by decide), up_ne (by decide), up_eq]
  have r12 : T' 12 = f12 := by rw [e, up_ne (by decide), up_ne (by decide), up_eq]
  have r9 : T' 9 = f9 := by rw [e, up_ne (by decide), up_eq]
  have r18 : T' 18 = fun _ => nI 0 := by rw [e, up_eq]
  have hA : RA S' T' := by
    refine hc.ra (U := TI T b0) h2 ?_ ?_ (fun j hj => ?_) (fun j hj => ?_) (fun j hj => ?_) (fun j hj => ?_)
    · rw [r0]; rfl
    · rw [r8]; rfl
    · rw [r1, r2, r3, r4]; exact ⟨k1 j hj, k2 j hj, k3 j hj, k4 j hj⟩
    · rw [r5, r10]; exact ⟨k5 j hj, k10 j hj⟩
    · rw [r9]; exact k9 j hj
    · rw [r11, r12]; exact ⟨k11 j hj, k12 j hj⟩
  clear e
  refine ⟨⟨RA_f (S := S') (T := T') (fun r hr => up_ne (by omega)) (fun _ _ => rfl) hA, RT_f (S := S) (T := T) (fun r hr => ?_) (fun r hr => fr r (by omega) (by omega) (by omega) (by omega) (by omega) (by omega) (by omega) (by omega) (by omega) (by omega) (by omega) (by omega)) h.2.1, RN_f (S := S) (T := T) (fun r hr => ?_) (fun r hr => fr r (by omega) (by omega) (by omega) (by omega) (by omega) (by omega) (by omega) (by omega) (by omega) (by omega) (by omega) (by omega)) h.2.2.1, KC_0 (S := S) rfl h.2.2.2.1, Or.inl (by rw [r18])⟩, fr 28 (by omega) (by omega) (by omega) (by omega) (by omega) (by omega) (by omega) (by omega) (by omega) (by omega) (by omega) (by omega), fr 29 (by omega) (by omega) (by omega) (by omega) (by omega) (by omega) (by omega) (by omega) (by omega) (by omega) (by omega) (by omega)⟩
  · rw [up_ne (by omega)]; exact hrow r (by omega)
  · rw [up_ne (by omega)]; exact hrow r (by omega)
end IM
/-! ===== the image's cells ===== -/
theorem imW_pick {k : Nat → ClassId} {r : Nat → Nat → Nat} {Si : Nat → St} {b : Nat → Bool} {i : Nat} (hi : i < 2) (hb : b i = true) : List.Perm (imW k r Si b) (alb k (r i) (Si i) (imW k r Si (fun j => if j = i then false else b j))) := by
  rcases (show i = 0 ∨ i = 1 by omega) with rfl | rfl
  · unfold imW
    rw [hb]
    exact List.Perm.refl _
  · unfold imW
    rw [hb]
    show List.Perm (List.append (if b 0 = true then alb k (r 0) (Si 0) [] else []) (alb k (r 1) (Si 1) [])) (List.append (alb k (r 1) (Si 1) []) (List.append (if b 0 = true then alb k (r 0) (Si 0) [] else []) []))
    rw [show ∀ L : va_W, List.append L [] = L from List.append_nil]
    exact List.perm_append_comm
theorem imW_ins {k : Nat → ClassId} {r : Nat → Nat → Nat} {Si : Nat → St} {b : Nat → Bool} {i : Nat} {rn : Nat → Nat} {S' : St} (hi : i < 2) : List.Perm (alb k rn S' (imW k r Si (fun j => if j = i then false else b j))) (imW k (fun j => if j = i then rn else r j) (fun j => if j = i then S' else Si j) (fun j => if j = i then true else b j)) := by
  rcases (show i = 0 ∨ i = 1 by omega) with rfl | rfl
  · exact List.Perm.refl _
  · show List.Perm (List.append (alb k rn S' []) (List.append (if b 0 = true then alb k (r 0) (Si 0) [] else []) [])) (List.append (if b 0 = true then alb k (r 0) (Si 0) [] else []) (alb k rn S' []))
    rw [show ∀ L : va_W, List.append L [] = L from List.append_nil]
    exact List.perm_append_comm
theorem imW_no {k : Nat → ClassId} {r : Nat → Nat → Nat} {Si : Nat → St} {b : Nat → Bool} {i : Nat} (hb : b i = false) : (fun j => if j = i then false else b j) = b := by
  funext j
  by_cases e : j = i
  · rw [if_pos e, e, hb]
  · rw [if_neg e]
theorem wC_perm {k : Nat → ClassId} {q z : Nat → Nat} {g : Nat → Option Nat} {S : St} {X X' : va_W} (h : X.Perm X') : List.Perm (wC k q z g S X) (wC k q z g S X') := by
  rw [wC_eq, wC_eq]
  exact (((h.append_left (wR k q z S)).append_left (alb k q S [])).append_left (wH q g k))
theorem wM_eq {k : Nat → ClassId} {q : Nat → Nat} {S : St} {X : va_W} : wM k q S X = List.append (wM k q S []) X := rfl
theorem wC_app {k : Nat → ClassId} {q z : Nat → Nat} {g : Nat → Option Nat} {S : St} {X : va_W} : wC k q z g S X = List.append (wC k q z g S []) X := rfl
/-- the reference's cells to the front, and back -/
theorem to_M {k : Nat → ClassId} {q z qm : Nat → Nat} {g : Nat → Option Nat} {S T : St} {I : va_W} : List.Perm (wC k q z g S (List.append I (wM k qm T []))) (wM k qm T (wC k q z g S I)) := by
  rw [wM_eq, wC_app, wC_app (X := I)]
  have h1 : List.Perm (wC k q z g S [] ++ (I ++ wM k qm T [])) ((wC k q z g S [] ++ I) ++ wM k qm T []) := by rw [List.append_assoc]
  exact h1.trans List.perm_append_comm
/-! ===== the start ===== -/
theorem RR_0 {z : Nat → Nat} {M : Nat → Nat → Int32} {f15 f16 f34 f11 f12 : Nat → Int32} (hz : z 0 = 1 ∧ z 1 = 1) (hM : ∀ i j, i < 4 → j < 4 → M i j = w10 i j) (h15 : bR f15 8) (h16 : bR f16 8) (h34 : mR f34 8) (h11 : bR f11 8) (h12 : bR f12 8) : RR (va_up (va_up (va_up (grd SA0 8 4 M) 15 f15) 16 f16) 34 f34) (va_up (va_up (va_up (va_up S0 5 t5M) 10 t10M) 11 f11) 12 f12) z := by
  have a : ∀ i j, i < 4 → j < 4 → (va_up (va_up (va_up (grd SA0 8 4 M) 15 f15) 16 f16) 34 f34) (8 + i) j = w10 i j := fun i j hi hj => by
    rw [up_ne (by omega), up_ne (by omega), up_ne (by omega), grd_at hi]
    exact hM i j hi hj
  refine ⟨⟨⟨⟨rfl, Nat.zero_le _⟩, rfl⟩, fun j hj => absurd hj (Nat.not_lt_zero _), ⟨fun j hj => rfl, 20, 99, 10, 10, ⟨rfl, by omega⟩, ⟨rfl, by omega⟩, ⟨rfl, by omega, by omega⟩, ⟨rfl, by omega, by omega⟩⟩, ⟨⟨rfl, rfl, rfl, rfl⟩, 1, 1, rfl, rfl, by omega, by omega⟩, fun j hj => ⟨?_, ?_⟩, ⟨rfl, Nat.zero_le _⟩, Or.inl rfl, fun i j hi hj => ?_, rfl⟩, ⟨rfl, Nat.zero_le _, rfl, fun j hj => absurd hj (Nat.not_lt_zero _)⟩, ⟨⟨rfl, Nat.zero_le _, rfl⟩, ⟨rfl, Nat.zero_le _, rfl⟩, fun j hj => absurd hj (Nat.not_lt_zero _), fun j hj _ => h34 j hj, fun j hj => absurd hj (Nat.not_lt_zero _)⟩, ⟨by rw [hz.1, hz.2], by rw [hz.1]; omega, Or.inl rfl⟩, Or.inl rfl⟩
  · show f15 j = f11 j
    rw [h15 j hj, h11 j hj]
  · show f16 j = f12 j
    rw [h16 j hj, h12 j hj]
  · rw [a i j hi hj]
    rfl
