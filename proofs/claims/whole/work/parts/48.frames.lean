/-! ===== the relation: what it doesn't see ===== -/
theorem up_ne {S : St} {j r : Nat} {f : Nat → Int32} (h : ¬ r = j) : va_up S j f r = S r := if_neg h
theorem up_eq {S : St} {j : Nat} {f : Nat → Int32} : va_up S j f j = f := if_pos rfl
theorem RA_f {S T S' T' : St} (hS : ∀ r, ((3 ≤ r ∧ r ≤ 16) ∨ r = 40 ∨ r = 41) → S' r = S r) (hT : ∀ r, (r ≤ 5 ∨ (8 ≤ r ∧ r ≤ 12)) → T' r = T r) (h : RA S T) : RA S' T' := by
  refine RA_cg (by rw [hS 40 (by omega)]) (by rw [hS 41 (by omega)]) (fun j _ => ?_) (fun i j hi _ => by rw [hS (8 + i) (by omega)]) (fun j _ => by rw [hS 12 (by omega)]) (fun j _ => ?_) (fun j _ => ?_) (by rw [hT 0 (by omega)]) (by rw [hT 8 (by omega)]) (fun j _ => ?_) (fun j _ => ?_) (fun j _ => by rw [hT 9 (by omega)]) (fun j _ => ?_) h
  · rw [hS 3 (by omega), hS 4 (by omega), hS 5 (by omega), hS 6 (by omega)]; exact ⟨rfl, rfl, rfl, rfl⟩
  · rw [hS 13 (by omega), hS 14 (by omega)]; exact ⟨rfl, rfl⟩
  · rw [hS 15 (by omega), hS 16 (by omega)]; exact ⟨rfl, rfl⟩
  · rw [hT 1 (by omega), hT 2 (by omega), hT 3 (by omega), hT 4 (by omega)]; exact ⟨rfl, rfl, rfl, rfl⟩
  · rw [hT 5 (by omega), hT 10 (by omega)]; exact ⟨rfl, rfl⟩
  · rw [hT 11 (by omega), hT 12 (by omega)]; exact ⟨rfl, rfl⟩
theorem RT_f {S T S' T' : St} (hS : ∀ r, (r = 18 ∨ r = 42) → S' r = S r) (hT : ∀ r, (r = 6 ∨ r = 7) → T' r = T r) (h : RT S T) : RT S' T' := by
  unfold RT sgnN at *
  rw [hS 18 (by omega), hS 42 (by omega), hT 6 (by omega), hT 7 (by omega)]
  exact h
theorem RN_f {S T S' T' : St} (hS : ∀ r, ((34 ≤ r ∧ r ≤ 36) ∨ r = 53 ∨ r = 54) → S' r = S r) (hT : ∀ r, (13 ≤ r ∧ r ≤ 17) → T' r = T r) (h : RN S T) : RN S' T' := by
  unfold RN menN metN at *
  rw [hS 34 (by omega), hS 35 (by omega), hS 36 (by omega), hS 53 (by omega), hS 54 (by omega), hT 13 (by omega), hT 14 (by omega), hT 15 (by omega), hT 16 (by omega), hT 17 (by omega)]
  exact h
theorem tA_cg {S S' : St} (hS : ∀ r, ((3 ≤ r ∧ r ≤ 5) ∨ (8 ≤ r ∧ r ≤ 11) ∨ r = 40) → S' r = S r) (h12 : S' 12 0 = S 12 0) : tA S' = tA S := by
  have ep : picN S' = picN S := by unfold picN; rw [hS 40 (by omega)]
  unfold tA
  rw [ep, h12]
  refine gL_congr (fun i p _ _ => ⟨?_, ?_⟩) _ _ _ _ _ (by omega)
  · unfold mtA
    rw [hS 4 (by omega), hS 5 (by omega)]
  · unfold trA
    rw [hS 3 (by omega)]
    refine costF_congr (fun a b ha => ?_) _ _ 8
    unfold slC
    rw [hS (8 + a) (by omega)]
theorem okK_cg {S S' : St} (hS : ∀ r, ((3 ≤ r ∧ r ≤ 5) ∨ (8 ≤ r ∧ r ≤ 11) ∨ r = 20 ∨ r = 21 ∨ r = 40 ∨ (43 ≤ r ∧ r ≤ 46)) → S' r = S r) (h12 : S' 12 0 = S 12 0) (h : okK S) : okK S' := by
  have e := tA_cg (fun r hr => hS r (by omega)) h12
  unfold okK at *
  rw [e, hS 43 (by omega), hS 20 (by omega), hS 21 (by omega), hS 46 (by omega), hS 40 (by omega), hS 44 (by omega)]
  exact h
theorem KC_f {S S' : St} {z : Nat → Nat} (hS : ∀ r, ((3 ≤ r ∧ r ≤ 5) ∨ (8 ≤ r ∧ r ≤ 11) ∨ r = 20 ∨ r = 21 ∨ r = 40 ∨ (43 ≤ r ∧ r ≤ 46)) → S' r = S r) (h12 : S' 12 0 = S 12 0) (h : KC S z) : KC S' z := by
  obtain ⟨h1, h2, h3⟩ := h
  refine ⟨h1, h2, ?_⟩
  rw [hS 45 (by omega)]
  rcases h3 with q | ⟨q1, q2, q3⟩
  · exact Or.inl q
  · exact Or.inr ⟨q1, okK_cg hS h12 q2, by rw [tA_cg (fun r hr => hS r (by omega)) h12]; exact q3⟩
theorem KC_0 {S S' : St} {z : Nat → Nat} (h0 : S' 45 0 = nI 0) (h : KC S z) : KC S' z := ⟨h.1, h.2.1, Or.inl h0⟩
theorem mtr_cg2 {T T' : St} (hT : ∀ r, (r ≤ 3 ∨ r = 8 ∨ r = 9) → T' r = T r) (h5 : T' 5 0 = T 5 0) : mtr T' = mtr T := by
  funext p x
  unfold mtr mtB mpcN rulN
  rw [h5, hT 0 (by omega), hT 1 (by omega), hT 2 (by omega), hT 3 (by omega), hT 8 (by omega), hT 9 (by omega)]
theorem okLd_cg {T T' : St} (hT : ∀ r, (r ≤ 3 ∨ r = 8 ∨ r = 9 ∨ r = 20 ∨ (22 ≤ r ∧ r ≤ 24)) → T' r = T r) (h5 : T' 5 0 = T 5 0) (h19 : slOk T (T' 19)) (h : okLd T) : okLd T' := by
  have e := mtr_cg2 (fun r hr => hT r (by omega)) h5
  have ep : mpcN T' = mpcN T := by unfold mpcN; rw [hT 0 (by omega)]
  have er : rulN T' = rulN T := by unfold rulN; rw [hT 8 (by omega)]
  obtain ⟨h1, h2, h3, h4, h5'⟩ := h
  refine ⟨?_, ?_, ?_, ?_, ?_⟩
  · unfold slOk at *
    rw [er, hT 9 (by omega)]
    exact h19
  · unfold okTv at *
    rw [ep, e, hT 20 (by omega)]
    exact h2
  · rw [ep, e, hT 22 (by omega)]; exact h3
  · rw [ep, e, hT 23 (by omega)]; exact h4
  · rw [ep, e, hT 24 (by omega)]; exact h5'
theorem KM_f {T T' : St} (hT : ∀ r, (r ≤ 3 ∨ r = 8 ∨ r = 9 ∨ (18 ≤ r ∧ r ≤ 20) ∨ (22 ≤ r ∧ r ≤ 24)) → T' r = T r) (h5 : T' 5 0 = T 5 0) (h : KM T) : KM T' := by
  unfold KM
  rw [hT 18 (by omega)]
  rcases h with q | ⟨q1, q2⟩
  · exact Or.inl q
  · exact Or.inr ⟨q1, okLd_cg (fun r hr => hT r (by omega)) h5 (by rw [hT 19 (by omega)]; exact q2.1) q2⟩
theorem RR_f {S T S' T' : St} {z : Nat → Nat} (hS : ∀ r, ((3 ≤ r ∧ r ≤ 16) ∨ r = 18 ∨ r = 20 ∨ r = 21 ∨ (34 ≤ r ∧ r ≤ 36) ∨ (40 ≤ r ∧ r ≤ 46) ∨ r = 53 ∨ r = 54) → S' r = S r) (hT : ∀ r, (r ≤ 20 ∨ (22 ≤ r ∧ r ≤ 24)) → T' r = T r) (h : RR S T z) : RR S' T' z :=
  ⟨RA_f (fun r hr => hS r (by omega)) (fun r hr => hT r (by omega)) h.1, RT_f (fun r hr => hS r (by omega)) (fun r hr => hT r (by omega)) h.2.1, RN_f (fun r hr => hS r (by omega)) (fun r hr => hT r (by omega)) h.2.2.1, KC_f (fun r hr => hS r (by omega)) (by rw [hS 12 (by omega)]) h.2.2.2.1, KM_f (fun r hr => hT r (by omega)) (by rw [hT 5 (by omega)]) h.2.2.2.2⟩
theorem RR_sl {S T T' : St} {z : Nat → Nat} (hs : SlR T T') (h : RR S T z) : RR S T' z := by
  rcases hs with e | ⟨fs, e, hf⟩
  · rw [e]; exact h
  · subst e
    refine ⟨RA_f (fun _ _ => rfl) (fun r hr => up_ne (by omega)) h.1, RT_f (fun _ _ => rfl) (fun r hr => up_ne (by omega)) h.2.1, RN_f (fun _ _ => rfl) (fun r hr => up_ne (by omega)) h.2.2.1, h.2.2.2.1, ?_⟩
    rcases h.2.2.2.2 with q | ⟨q1, q2⟩
    · exact Or.inl q
    · exact Or.inr ⟨q1, okLd_cg (fun r hr => up_ne (by omega)) rfl (by rw [up_eq]; exact hf) q2⟩
section RX
variable {S T : St} {z : Nat → Nat}
theorem RR.n (h : RR S T z) : picN S = mpcN T := by unfold picN mpcN; rw [h.1.1.2]
theorem RR.okP (h : RR S T z) : okP S := h.1.1.1
theorem RR.okMP (h : RR S T z) : okMP T := ⟨by rw [← h.n, h.1.1.2]; exact h.1.1.1.1, by rw [← h.n]; exact h.1.1.1.2⟩
theorem RR.sg (h : RR S T z) : sgnN S = msgN T := by unfold sgnN msgN; rw [h.2.1.2.2.1]
theorem RR.okT (h : RR S T z) : okT S := ⟨h.2.1.1, h.2.1.2.1⟩
theorem RR.okMT (h : RR S T z) : okMT T := ⟨by rw [← h.sg, h.2.1.2.2.1]; exact h.2.1.1, by rw [← h.sg]; exact h.2.1.2.1⟩
theorem RR.okML (h : RR S T z) : okML T := h.1.2.2.2.2.2.1
theorem RR.okMV (h : RR S T z) : okMV T := h.1.2.2.2.2.2.2.1
theorem RR.sl (h : RR S T z) : ∀ a b, a < 4 → b < 4 → slC S a b = slm T a b := h.1.2.2.2.2.2.2.2.1
theorem RR.dr (h : RR S T z) : ∀ p, p < mpcN T → S 3 p = T 1 p := fun p hp => (h.1.2.1 p (by rw [h.n]; exact hp)).1.1
theorem RR.rd (h : RR S T z) : RD S T := h.1.2.2.1
theorem RR.s4 (h : RR S T z) : ∀ j, j < 4 → S 12 j = T 5 j := h.1.2.2.1.1
theorem RR.okN (h : RR S T z) : okN S := by
  obtain ⟨⟨a1, a2, a3⟩, ⟨b1, b2, b3⟩, c, d, e⟩ := h.2.2.1
  refine ⟨⟨a1, a2⟩, ⟨b1, b2⟩, fun j hj => ?_⟩
  obtain ⟨⟨m, hm, q, _⟩, _⟩ := e j hj
  exact ⟨m, by omega, q⟩
theorem RR.okMN (h : RR S T z) : okMN T := by
  have hm := h.2.2.1.men
  have ht := h.2.2.1.met
  obtain ⟨⟨a1, a2, a3⟩, ⟨b1, b2, b3⟩, c, d, e⟩ := h.2.2.1
  refine ⟨⟨by rw [hm, a3]; exact a1, by rw [hm]; exact a2⟩, ⟨by rw [ht, b3]; exact b1, by rw [ht]; exact b2⟩, fun j hj => ?_⟩
  rw [ht] at hj
  obtain ⟨⟨m, hm, _, q⟩, _⟩ := e j hj
  exact ⟨m, by omega, q⟩
theorem RR.okG (h : RR S T z) : okG S := by
  obtain ⟨-, -, ⟨-, a, b, w, p, -, ⟨d1, d2⟩, -⟩, ⟨-, ga, gb, g1, g2, g3, g4⟩, -⟩ := h.1
  exact ⟨ga, gb, b, g1, g2, d1, g3, g4, d2⟩
theorem RR.okMG (h : RR S T z) : okMG T := by
  obtain ⟨-, -, ⟨d0, a, b, w, p, -, ⟨d1, d2⟩, -⟩, ⟨⟨e1, e2, e3, e4⟩, ga, gb, g1, g2, g3, g4⟩, -⟩ := h.1
  exact ⟨ga, gb, b, by rw [← e3]; exact g1, by rw [← e4]; exact g2, by rw [← d0 1 (by omega)]; exact d1, g3, g4, d2⟩
theorem RR.okMB (h : RR S T z) : okMB T := by
  obtain ⟨d0, a, b, w, p, ⟨d1, d2⟩, -⟩ := h.1.2.2.1
  have e : T 5 0 = nI a := by rw [← d0 0 (by omega)]; exact d1
  have ec : clN (T 5 0) = a := by unfold clN; rw [e]; exact nI_clamp (by omega)
  exact ⟨by rw [ec]; exact e, by omega⟩
theorem RR.hp (h : RR S T z) {pi : Int32} : haP S pi = 0 ↔ haMP T pi = 0 := hap_eq h.okP h.n h.okMP.2
theorem RR.hm (h : RR S T z) {mn : Int32} : haM S mn = 0 ↔ haMM T mn = 0 := by
  have hm := h.2.2.1.men
  have h1 := h.2.2.1.1.1
  have h8 := h.2.2.1.1.2.1
  unfold haM haMM
  rw [b01_0, f_in_0, h1, hm, decide_eq_false_iff_not]
  refine not_congr (and_congr Iff.rfl ?_)
  cases hk : menN S with
  | zero =>
    refine ⟨fun q => ?_, fun q => ?_⟩
    · exact Int32.le_iff_toInt_le.mpr (by have := Int32.lt_iff_toInt_lt.mp q; have e1 : (nI 0).toInt = 0 := rfl; have e2 : (nI 0 - nI 1).toInt = -1 := rfl; omega)
    · exact Int32.lt_iff_toInt_lt.mpr (by have := Int32.le_iff_toInt_le.mp q; have e1 : (nI 0).toInt = 0 := rfl; have e2 : (nI 0 - nI 1).toInt = -1 := rfl; omega)
  | succ m =>
    rw [show nI (m + 1) - nI 1 = nI m from nI_pred m, Int32.lt_iff_toInt_lt, Int32.le_iff_toInt_le, nI_toInt (by omega), nI_toInt (by omega)]
    omega
theorem RR.mt (h : RR S T z) {mn : Int32} (q : ¬ haM S mn = 0) : mn = nI (clN mn) ∧ clN mn < menN S := by
  unfold haM at q
  rw [b01_1, decide_eq_true_eq] at q
  have e := nn_of q.1
  refine ⟨e, ?_⟩
  have h2 := q.2
  have h6 := h.2.2.1.1.2.1
  rw [h.2.2.1.1.1, e] at h2
  exact (nI_ltI (cl_lt mn) (by omega)).mp h2
end RX
