/-! ===== method by method, on ===== -/
section EN
variable {S T : St} {z : Nat → Nat}
theorem e_law (h : RR S T z) : (p_law S).1 = (m_law T).1 ∧ RR (p_law S).2 (m_law T).2 z := by
  have h50 := h.2.1.2.1
  have hsg := h.sg
  have hj := h.2.1.2.2.2
  unfold p_law m_law
  rw [← hsg, ← flt_cg _ hj]
  obtain ⟨f1, f2⟩ := flt_6 (f := S 18) h50
  by_cases c : fltR (S 18) (sgnN S) = (-6)
  · rw [if_pos c, if_pos (f2.mpr (f1.mp c))]
    obtain ⟨p, hp, hp4⟩ := f1.mp c
    obtain ⟨hn0, hli⟩ := li_eq hp hp4
    dsimp only
    have er : rulN (mlawS T) = sgnN S := by
      have : rulN (mlawS T) = msgN T := nI_clamp (by rw [← hsg]; omega)
      rw [this, hsg]
    have e8 : mlawS T 8 0 = nI (sgnN S) := by rw [hsg]; rfl
    have e9 : ∀ j, j < sgnN S → S 18 j = mlawS T 9 j := fun j hjj => by
      have : mlawS T 9 j = if j < msgN T then T 7 j else T 9 j := rfl
      rw [this, if_pos (by omega)]
      exact hj j hjj
    have hln : liF (S 18) (sgnN S) (sgnN S) = lnM (mlawS T) := by
      unfold lnM
      rw [er, if_neg hn0, hli, cntB_cg (P := fun j => S 18 j == nI 59) (R := fun j => mlawS T 9 j == nI 59) _ (fun j hjj => by rw [e9 j hjj])]
    refine ⟨by show nI (liF (S 18) (sgnN S) (sgnN S)) = _; rw [hln], ⟨h.1.1, h.1.2.1, h.1.2.2.1, h.1.2.2.2.1, h.1.2.2.2.2.1, ⟨by rw [er]; exact e8, by rw [er]; exact h50⟩, Or.inr ⟨p, by rw [er, ← scn_cg _ e9]; exact hp, hp4⟩, fun i j hi hjj => ?_, ?_⟩, ?_, ?_, KC_0 (S := S) rfl h.2.2.2.1, Or.inl rfl⟩
    · rw [up_ne (by omega), up_ne (by omega), up_ne (by omega), grd_at hi, er]
      unfold slM
      rw [if_neg hn0]
      exact rdM_cg e9 hi hjj
    · show nI (liF (S 18) (sgnN S) (sgnN S)) = _
      rw [hln]
    · generalize hU : va_up (va_up (va_up (grd S 8 4 (rdM (S 18) (sgnN S) fun a => S (8 + a))) 41 fun x => nI (liF (S 18) (sgnN S) (sgnN S))) 42 fun x => nI 0) 45 (fun x => nI 0) = U
      have e0 : U 42 0 = nI 0 := by rw [← hU]; rfl
      have e1 : sgnN U = 0 := by unfold sgnN; rw [e0]; rfl
      exact ⟨by rw [e1, e0], by rw [e1]; omega, by rw [e0]; rfl, fun j hjj => by rw [e1] at hjj; omega⟩
    · refine RN_f (S := S) (T := T) (fun r hr => ?_) (fun r hr => ?_) h.2.2.1
      · rw [up_ne (by omega), up_ne (by omega), up_ne (by omega)]
        unfold grd
        rw [if_neg (by omega)]
      · unfold mlawS
        rw [up_ne (by omega), up_ne (by omega), up_ne (by omega), up_ne (by omega)]
  · rw [if_neg c, if_neg (fun q => c (f1.mpr (f2.mp q)))]; exact ⟨rfl, h⟩
theorem re_eq (h : RR S T z) {pn : Nat} (e : S 6 pn = T 4 pn) : reS S (S 6 pn) = mreS T pn := by
  obtain ⟨⟨g1, g2, g3, g4⟩, -⟩ := h.1.2.2.2.1
  funext y
  unfold reS mreS
  rw [e, g1, g2, g3, g4, h.s4 1 (by omega)]
theorem wd_case {j : Nat} (h : RW S T j) : (S 6 j = 0 ∧ ¬ 0 ≤ T 4 j) ∨ (¬ S 6 j = 0 ∧ 0 ≤ T 4 j ∧ S 6 j = T 4 j) := by
  rcases h with ⟨e1, e2⟩ | ⟨v, h1, h2, e1, e2⟩
  · exact Or.inl ⟨e1, by rw [e2]; decide⟩
  · exact Or.inr ⟨by rw [e1]; exact nI_ne0 (by omega) (by omega), by rw [e2]; exact nI_pos' (by omega), by rw [e1, e2]⟩
theorem e_aged (h : RR S T z) (pi wh : Int32) : (p_aged S pi wh).1 = (m_aged T pi wh).1 ∧ RR (p_aged S pi wh).2 (m_aged T pi wh).2 z := by
  unfold p_aged m_aged
  by_cases c : haP S pi = 0
  · rw [if_pos c, if_pos (h.hp.mp c)]; exact ⟨rfl, h⟩
  · rw [if_neg c, if_neg (fun q => c (h.hp.mpr q))]
    obtain ⟨-, -, hl, -, q4⟩ := h.ph c
    by_cases d : f_in wh (nI 0) (nI 2) = 0
    · rw [if_pos d, if_pos d]; exact ⟨rfl, h⟩
    · rw [if_neg d, if_neg d]
      rcases wd_case q4 with ⟨a1, a2⟩ | ⟨a1, a2, a3⟩
      · rw [if_pos a1, if_neg a2]; exact ⟨rfl, h⟩
      · rw [if_neg a1, if_pos a2]
        have hre := re_eq h a3
        have hcl : clN (S 12 1) = clN (T 5 1) := by rw [h.s4 1 (by omega)]
        have hR : RR (meaS S (S 6 (clN pi))) (magS T (clN pi)) z := by
          refine RR_f (S := S) (T := T) (fun r hr => ?_) (fun r hr => ?_) h
          · unfold meaS; rw [up_ne (by omega), up_ne (by omega), up_ne (by omega)]
          · unfold magS; rw [up_ne (by omega), up_ne (by omega), up_ne (by omega)]
        have e50 : meaS S (S 6 (clN pi)) 50 0 = nI (cntB (mreS T (clN pi)) (clN (T 5 1) + 1)) := by rw [← hre, ← hcl]; rfl
        have e48 : meaS S (S 6 (clN pi)) 48 0 = nI (frsB (mreS T (clN pi)) (clN (T 5 1) + 1)) := by rw [← hre, ← hcl]; rfl
        have e49 : meaS S (S 6 (clN pi)) 49 0 = nI (lstB (mreS T (clN pi)) (clN (T 5 1) + 1)) := by rw [← hre, ← hcl]; rfl
        have e27 : magS T (clN pi) 27 0 = nI (cntB (mreS T (clN pi)) (clN (T 5 1) + 1)) := rfl
        have e25 : magS T (clN pi) 25 0 = agI (mreS T (clN pi)) (clN (T 5 1) + 1) := rfl
        have e26 : magS T (clN pi) 26 0 = agL (mreS T (clN pi)) (clN (T 5 1) + 1) := rfl
        rw [e50, e48, e49, e27, e25, e26]
        have hb := h.okMG.cl.2.2.2.2.2
        have hc := cntB_le (mreS T (clN pi)) (clN (T 5 1) + 1)
        by_cases k : nI (cntB (mreS T (clN pi)) (clN (T 5 1) + 1)) = 0
        · rw [if_pos k, if_pos k]; exact ⟨rfl, hR⟩
        · have k2 : ¬ cntB (mreS T (clN pi)) (clN (T 5 1) + 1) = 0 := fun q => k (by rw [q]; rfl)
          rw [if_neg k, if_neg k]
          unfold agI agL
          rw [if_neg k2, if_neg k2]
          by_cases w0 : wh = nI 0
          · rw [if_pos w0, if_pos (show wh = 0 from w0)]; exact ⟨rfl, hR⟩
          · rw [if_neg w0, if_neg (show ¬ wh = 0 from w0)]
            by_cases w1 : wh = nI 1
            · rw [if_pos w1, if_pos w1]; exact ⟨rfl, hR⟩
            · rw [if_neg w1, if_neg w1]; exact ⟨rfl, hR⟩
/-- take, as the class and as the reference have it, over what both know -/
def tkP (E L F La : Int32) (c : Prop) [Decidable c] : Option (Int32 × Int32) := if c then none else if (if E < F then F else E) ≤ (if La < L then La else L) then some ((if E < F then F else E), (if La < L then La else L)) else none
theorem p_take_eq {pi : Int32} (c : ¬ haP S pi = 0) (a1 : ¬ S 6 (clN pi) = 0) : p_take S pi = match tkP (S 4 (clN pi)) (S 5 (clN pi)) (meaS S (S 6 (clN pi)) 48 0) (meaS S (S 6 (clN pi)) 49 0) (meaS S (S 6 (clN pi)) 50 0 = 0) with
    | none => ((-5), meaS S (S 6 (clN pi)))
    | some (lo, hi) => (hi - lo + nI 1, va_up (va_up (va_up (meaS S (S 6 (clN pi))) 4 (upd (S 4) (clN pi) lo)) 5 (upd (S 5) (clN pi) hi)) 45 (fun _ => nI 0)) := by
  have e4 : meaS S (S 6 (clN pi)) 4 = S 4 := rfl
  have e5 : meaS S (S 6 (clN pi)) 5 = S 5 := rfl
  unfold p_take tkP
  rw [if_neg c, if_neg a1, e4, e5]
  by_cases k : meaS S (S 6 (clN pi)) 50 0 = 0
  · rw [if_pos k, if_pos k]
  · rw [if_neg k, if_neg k]
    generalize (if S 4 (clN pi) < meaS S (S 6 (clN pi)) 48 0 then meaS S (S 6 (clN pi)) 48 0 else S 4 (clN pi)) = lo
    generalize (if meaS S (S 6 (clN pi)) 49 0 < S 5 (clN pi) then meaS S (S 6 (clN pi)) 49 0 else S 5 (clN pi)) = hi
    by_cases w : lo ≤ hi
    · rw [if_pos w, if_pos w]
    · rw [if_neg w, if_neg w]
theorem m_take_eq {pi : Int32} (c : ¬ haMP T pi = 0) (a1 : 0 ≤ T 4 (clN pi)) : m_take T pi = match tkP (T 2 (clN pi)) (T 3 (clN pi)) (magS T (clN pi) 25 0) (magS T (clN pi) 26 0) (magS T (clN pi) 27 0 = 0) with
    | none => ((-5), magS T (clN pi))
    | some (lo, hi) => (hi - lo + nI 1, va_up (va_up (va_up (magS T (clN pi)) 2 (upd (T 2) (clN pi) lo)) 3 (upd (T 3) (clN pi) hi)) 18 (fun _ => nI 0)) := by
  have e2 : magS T (clN pi) 2 = T 2 := rfl
  have e3 : magS T (clN pi) 3 = T 3 := rfl
  by_cases k : magS T (clN pi) 27 0 = 0
  · rw [show tkP (T 2 (clN pi)) (T 3 (clN pi)) (magS T (clN pi) 25 0) (magS T (clN pi) 26 0) (magS T (clN pi) 27 0 = 0) = none from if_pos k]
    unfold m_take
    rw [if_neg c, if_pos a1]
    repeat' split
    all_goals first | rfl | contradiction
  · unfold m_take tkP
    rw [if_neg c, if_pos a1, e2, e3, if_neg k, if_neg k, if_neg k, if_neg k, if_neg k]
    generalize magS T (clN pi) 25 0 = F
    generalize magS T (clN pi) 26 0 = La
    by_cases x : F ≤ T 2 (clN pi)
    · rw [if_pos x, if_neg (Int32.not_lt.mpr x)]
      by_cases y : T 3 (clN pi) ≤ La
      · rw [if_pos y, if_neg (Int32.not_lt.mpr y)]
        by_cases w : T 2 (clN pi) ≤ T 3 (clN pi)
        · rw [if_pos w, if_pos w]
        · rw [if_neg w, if_neg w]
      · rw [if_neg y, if_pos (Int32.not_le.mp y)]
        by_cases w : T 2 (clN pi) ≤ La
        · rw [if_pos w, if_pos w]
        · rw [if_neg w, if_neg w]
    · rw [if_neg x, if_pos (Int32.not_le.mp x)]
      by_cases y : T 3 (clN pi) ≤ La
      · rw [if_pos y, if_neg (Int32.not_lt.mpr y)]
        by_cases w : F ≤ T 3 (clN pi)
        · rw [if_pos w, if_pos w]
        · rw [if_neg w, if_neg w]
      · rw [if_neg y, if_pos (Int32.not_le.mp y)]
        by_cases w : F ≤ La
        · rw [if_pos w, if_pos w]
        · rw [if_neg w, if_neg w]
theorem p_take_1 {pi : Int32} (c : haP S pi = 0) : p_take S pi = ((-1), S) := if_pos c
theorem p_take_2 {pi : Int32} (c : ¬ haP S pi = 0) (a : S 6 (clN pi) = 0) : p_take S pi = ((-3), S) := (if_neg c).trans (if_pos a)
theorem m_take_1 {pi : Int32} (c : haMP T pi = 0) : m_take T pi = ((-1), T) := if_pos c
theorem m_take_2 {pi : Int32} (c : ¬ haMP T pi = 0) (a : ¬ 0 ≤ T 4 (clN pi)) : m_take T pi = ((-3), T) := (if_neg c).trans (if_neg a)
theorem RA_45 {U V : St} (h : RA S T) (hU : ∀ r, ((3 ≤ r ∧ r ≤ 16 ∧ ¬ r = 4 ∧ ¬ r = 5) ∨ r = 40 ∨ r = 41) → U r = S r) (hV : ∀ r, ((r ≤ 5 ∧ ¬ r = 2 ∧ ¬ r = 3) ∨ (8 ≤ r ∧ r ≤ 12)) → V r = T r) (h45 : ∀ j, j < picN S → U 4 j = V 2 j ∧ U 5 j = V 3 j) : RA U V := by
  obtain ⟨⟨⟨p1, p2⟩, p3⟩, h2, hD, hG, h5, h6⟩ := h
  have ep : picN U = picN S := by unfold picN; rw [hU 40 (by omega)]
  refine ⟨⟨⟨by rw [ep, hU 40 (by omega)]; exact p1, by rw [ep]; exact p2⟩, by rw [hU 40 (by omega), hV 0 (by omega)]; exact p3⟩, fun j hj => ?_, ?_, ?_, ?_, RLw_cg (S := S) (T := T) (fun i j hi _ => by rw [hU (8 + i) (by omega)]) (by rw [hU 41 (by omega)]) (by rw [hV 8 (by omega)]) (fun _ _ => by rw [hV 9 (by omega)]) h6⟩
  · rw [ep] at hj
    obtain ⟨⟨w1, w2, w3⟩, w4⟩ := h2 j hj
    refine ⟨⟨by rw [hU 3 (by omega), hV 1 (by omega)]; exact w1, (h45 j hj).1, (h45 j hj).2⟩, ?_⟩
    unfold RW
    rw [hU 6 (by omega), hV 4 (by omega)]
    exact w4
  · unfold RD
    rw [hU 12 (by omega), hV 5 (by omega)]
    exact hD
  · unfold RG
    rw [hU 13 (by omega), hU 14 (by omega), hV 10 (by omega)]
    exact hG
  · rw [hU 15 (by omega), hU 16 (by omega), hV 11 (by omega), hV 12 (by omega)]
    exact h5
theorem e_take_3 (h : RR S T z) (lo hi : Int32) (k : Nat) (w : Int32) (kk : Nat) : (hi - lo + nI 1, va_up (va_up (va_up (meaS S w) 4 (upd (S 4) k lo)) 5 (upd (S 5) k hi)) 45 (fun _ => nI 0)).1 = (hi - lo + nI 1, va_up (va_up (va_up (magS T kk) 2 (upd (T 2) k lo)) 3 (upd (T 3) k hi)) 18 (fun _ => nI 0)).1 ∧ RR (hi - lo + nI 1, va_up (va_up (va_up (meaS S w) 4 (upd (S 4) k lo)) 5 (upd (S 5) k hi)) 45 (fun _ => nI 0)).2 (hi - lo + nI 1, va_up (va_up (va_up (magS T kk) 2 (upd (T 2) k lo)) 3 (upd (T 3) k hi)) 18 (fun _ => nI 0)).2 z := by
  dsimp only
  have fS : ∀ r, ¬ r = 4 → ¬ r = 5 → ¬ r = 45 → ¬ r = 48 → ¬ r = 49 → ¬ r = 50 → va_up (va_up (va_up (meaS S w) 4 (upd (S 4) k lo)) 5 (upd (S 5) k hi)) 45 (fun _ => nI 0) r = S r := fun r a1 a2 a3 a4 a5 a6 => by
    rw [up_ne a3, up_ne a2, up_ne a1]
    unfold meaS
    rw [up_ne a6, up_ne a5, up_ne a4]
  have fT : ∀ r, ¬ r = 2 → ¬ r = 3 → ¬ r = 18 → ¬ r = 25 → ¬ r = 26 → ¬ r = 27 → va_up (va_up (va_up (magS T kk) 2 (upd (T 2) k lo)) 3 (upd (T 3) k hi)) 18 (fun _ => nI 0) r = T r := fun r a1 a2 a3 a4 a5 a6 => by
    rw [up_ne a3, up_ne a2, up_ne a1]
    unfold magS
    rw [up_ne a6, up_ne a5, up_ne a4]
  have g4 : va_up (va_up (va_up (meaS S w) 4 (upd (S 4) k lo)) 5 (upd (S 5) k hi)) 45 (fun _ => nI 0) 4 = upd (S 4) k lo := by rw [up_ne (by decide), up_ne (by decide), up_eq]
  have g5 : va_up (va_up (va_up (meaS S w) 4 (upd (S 4) k lo)) 5 (upd (S 5) k hi)) 45 (fun _ => nI 0) 5 = upd (S 5) k hi := by rw [up_ne (by decide), up_eq]
  have g45 : va_up (va_up (va_up (meaS S w) 4 (upd (S 4) k lo)) 5 (upd (S 5) k hi)) 45 (fun _ => nI 0) 45 = fun _ => nI 0 := up_eq
  have g2 : va_up (va_up (va_up (magS T kk) 2 (upd (T 2) k lo)) 3 (upd (T 3) k hi)) 18 (fun _ => nI 0) 2 = upd (T 2) k lo := by rw [up_ne (by decide), up_ne (by decide), up_eq]
  have g3 : va_up (va_up (va_up (magS T kk) 2 (upd (T 2) k lo)) 3 (upd (T 3) k hi)) 18 (fun _ => nI 0) 3 = upd (T 3) k hi := by rw [up_ne (by decide), up_eq]
  have g18 : va_up (va_up (va_up (magS T kk) 2 (upd (T 2) k lo)) 3 (upd (T 3) k hi)) 18 (fun _ => nI 0) 18 = fun _ => nI 0 := up_eq
  generalize va_up (va_up (va_up (meaS S w) 4 (upd (S 4) k lo)) 5 (upd (S 5) k hi)) 45 (fun _ => nI 0) = U at *
  generalize va_up (va_up (va_up (magS T kk) 2 (upd (T 2) k lo)) 3 (upd (T 3) k hi)) 18 (fun _ => nI 0) = V at *
  refine ⟨rfl, RA_45 h.1 (fun r hr => fS r (by omega) (by omega) (by omega) (by omega) (by omega) (by omega)) (fun r hr => fT r (by omega) (by omega) (by omega) (by omega) (by omega) (by omega)) (fun j hj => ?_), RT_f (S := S) (T := T) (fun r hr => fS r (by omega) (by omega) (by omega) (by omega) (by omega) (by omega)) (fun r hr => fT r (by omega) (by omega) (by omega) (by omega) (by omega) (by omega)) h.2.1, RN_f (S := S) (T := T) (fun r hr => fS r (by omega) (by omega) (by omega) (by omega) (by omega) (by omega)) (fun r hr => fT r (by omega) (by omega) (by omega) (by omega) (by omega) (by omega)) h.2.2.1, KC_0 (S := S) (by rw [g45]) h.2.2.2.1, Or.inl (by rw [g18])⟩
  obtain ⟨⟨w1, w2, w3⟩, w4⟩ := h.1.2.1 j hj
  rw [g4, g5, g2, g3]
  by_cases e : j = k
  · rw [e, pk_us, pk_us, pk_us, pk_us]; exact ⟨rfl, rfl⟩
  · rw [pk_un e, pk_un e, pk_un e, pk_un e]; exact ⟨w2, w3⟩
theorem tk_eq (h : RR S T z) {k : Nat} (a3 : S 6 k = T 4 k) (q2 : S 4 k = T 2 k) (q3 : S 5 k = T 3 k) : tkP (S 4 k) (S 5 k) (meaS S (S 6 k) 48 0) (meaS S (S 6 k) 49 0) (meaS S (S 6 k) 50 0 = 0) = tkP (T 2 k) (T 3 k) (magS T k 25 0) (magS T k 26 0) (magS T k 27 0 = 0) := by
  have hre := re_eq h a3
  have hcl : clN (S 12 1) = clN (T 5 1) := by rw [h.s4 1 (by omega)]
  have e50 : meaS S (S 6 k) 50 0 = nI (cntB (mreS T k) (clN (T 5 1) + 1)) := by rw [← hre, ← hcl]; rfl
  have e48 : meaS S (S 6 k) 48 0 = nI (frsB (mreS T k) (clN (T 5 1) + 1)) := by rw [← hre, ← hcl]; rfl
  have e49 : meaS S (S 6 k) 49 0 = nI (lstB (mreS T k) (clN (T 5 1) + 1)) := by rw [← hre, ← hcl]; rfl
  have e27 : magS T k 27 0 = nI (cntB (mreS T k) (clN (T 5 1) + 1)) := rfl
  have e25 : magS T k 25 0 = agI (mreS T k) (clN (T 5 1) + 1) := rfl
  have e26 : magS T k 26 0 = agL (mreS T k) (clN (T 5 1) + 1) := rfl
  generalize meaS S (S 6 k) 50 0 = x50 at *
  generalize meaS S (S 6 k) 48 0 = x48 at *
  generalize meaS S (S 6 k) 49 0 = x49 at *
  generalize magS T k 27 0 = x27 at *
  generalize magS T k 25 0 = x25 at *
  generalize magS T k 26 0 = x26 at *
  rw [q2, q3]
  have e57 : x50 = x27 := by rw [e50, e27]
  subst e57
  unfold tkP
  by_cases c : x50 = 0
  · rw [if_pos c, if_pos c]
  · have k2 : ¬ cntB (mreS T k) (clN (T 5 1) + 1) = 0 := fun q => c (by rw [e50, q]; rfl)
    have e1 : x25 = x48 := by rw [e25, e48]; exact if_neg k2
    have e2 : x26 = x49 := by rw [e26, e49]; exact if_neg k2
    rw [if_neg c, if_neg c, e1, e2]
theorem e_take_2 (h : RR S T z) {k : Nat} (o : Option (Int32 × Int32)) : (match o with
    | none => ((-5), meaS S (S 6 k))
    | some (lo, hi) => (hi - lo + nI 1, va_up (va_up (va_up (meaS S (S 6 k)) 4 (upd (S 4) k lo)) 5 (upd (S 5) k hi)) 45 (fun _ => nI 0))).1 = (match o with
    | none => ((-5), magS T k)
    | some (lo, hi) => (hi - lo + nI 1, va_up (va_up (va_up (magS T k) 2 (upd (T 2) k lo)) 3 (upd (T 3) k hi)) 18 (fun _ => nI 0))).1 ∧ RR (match o with
    | none => ((-5), meaS S (S 6 k))
    | some (lo, hi) => (hi - lo + nI 1, va_up (va_up (va_up (meaS S (S 6 k)) 4 (upd (S 4) k lo)) 5 (upd (S 5) k hi)) 45 (fun _ => nI 0))).2 (match o with
    | none => ((-5), magS T k)
    | some (lo, hi) => (hi - lo + nI 1, va_up (va_up (va_up (magS T k) 2 (upd (T 2) k lo)) 3 (upd (T 3) k hi)) 18 (fun _ => nI 0))).2 z := by
  cases o with
  | none =>
    refine ⟨rfl, RR_f (S := S) (T := T) (fun r hr => ?_) (fun r hr => ?_) h⟩
    · dsimp only; unfold meaS; rw [up_ne (by omega), up_ne (by omega), up_ne (by omega)]
    · dsimp only; unfold magS; rw [up_ne (by omega), up_ne (by omega), up_ne (by omega)]
  | some lh =>
    obtain ⟨lo, hi⟩ := lh
    exact e_take_3 h lo hi k (S 6 k) k
theorem e_take (h : RR S T z) (pi : Int32) : (p_take S pi).1 = (m_take T pi).1 ∧ RR (p_take S pi).2 (m_take T pi).2 z := by
  by_cases c : haP S pi = 0
  · rw [p_take_1 c, m_take_1 (h.hp.mp c)]; exact ⟨rfl, h⟩
  · have c' : ¬ haMP T pi = 0 := fun q => c (h.hp.mpr q)
    obtain ⟨-, -, hl, ⟨q1, q2, q3⟩, q4⟩ := h.ph c
    rcases wd_case q4 with ⟨a1, a2⟩ | ⟨a1, a2, a3⟩
    · rw [p_take_2 c a1, m_take_2 c' a2]; exact ⟨rfl, h⟩
    · rw [p_take_eq c a1, m_take_eq c' a2, tk_eq h a3 q2 q3]
      exact e_take_2 h _
theorem hide_key (h : RR S T z) {k rS rT : Nat} {v : Int32} (hk : (rS = 15 ∧ rT = 11) ∨ (rS = 16 ∧ rT = 12)) : RR (va_up S rS (upd (S rS) k v)) (va_up T rT (upd (T rT) k v)) z := by
  have hu : ∀ j, j < 8 → va_up S rS (upd (S rS) k v) 15 j = va_up T rT (upd (T rT) k v) 11 j ∧ va_up S rS (upd (S rS) k v) 16 j = va_up T rT (upd (T rT) k v) 12 j := by
    intro j hj
    obtain ⟨h1, h2⟩ := h.1.2.2.2.2.1 j hj
    rcases hk with ⟨rfl, rfl⟩ | ⟨rfl, rfl⟩
    · refine ⟨?_, h2⟩
      show upd (S 15) k v j = upd (T 11) k v j
      by_cases e : j = k
      · rw [e, pk_us, pk_us]
      · rw [pk_un e, pk_un e]; exact h1
    · refine ⟨h1, ?_⟩
      show upd (S 16) k v j = upd (T 12) k v j
      by_cases e : j = k
      · rw [e, pk_us, pk_us]
      · rw [pk_un e, pk_un e]; exact h2
  have a : RA (va_up S rS (upd (S rS) k v)) (va_up T rT (upd (T rT) k v)) := by
    rcases hk with ⟨rfl, rfl⟩ | ⟨rfl, rfl⟩
    · exact ⟨h.1.1, h.1.2.1, h.1.2.2.1, h.1.2.2.2.1, hu, RLw_cg (S := S) (T := T) (fun i j hi _ => by rw [up_ne (by omega)]) rfl rfl (fun _ _ => rfl) h.1.2.2.2.2.2⟩
    · exact ⟨h.1.1, h.1.2.1, h.1.2.2.1, h.1.2.2.2.1, hu, RLw_cg (S := S) (T := T) (fun i j hi _ => by rw [up_ne (by omega)]) rfl rfl (fun _ _ => rfl) h.1.2.2.2.2.2⟩
  exact ⟨a, RT_f (S := S) (T := T) (fun r hr => up_ne (by omega)) (fun r hr => up_ne (by omega)) h.2.1, RN_f (S := S) (T := T) (fun r hr => up_ne (by omega)) (fun r hr => up_ne (by omega)) h.2.2.1, KC_f (S := S) (fun r hr => up_ne (by omega)) (by rw [up_ne (by omega)]) h.2.2.2.1, KM_f (T := T) (fun r hr => up_ne (by omega)) (by rw [up_ne (by omega)]) h.2.2.2.2⟩
theorem e_hide (h : RR S T z) (sk tk st_ : Int32) : (p_hide S sk tk st_).1 = (m_hide T sk tk st_).1 ∧ RR (p_hide S sk tk st_).2 (m_hide T sk tk st_).2 z := by
  unfold p_hide m_hide
  by_cases c : f_in sk (nI 0) (nI 7) = 0
  · rw [if_pos c, if_pos c]; exact ⟨rfl, h⟩
  · rw [if_neg c, if_neg c]
    obtain ⟨-, -, w2⟩ := f_in_t2 (by decide) (by decide) c
    obtain ⟨h1, h2⟩ := h.1.2.2.2.2.1 (clN sk) (by omega)
    by_cases d : f_in st_ (nI 0) (nI 255) = 0
    · rw [if_pos d, if_pos d]; exact ⟨rfl, h⟩
    · rw [if_neg d, if_neg d]
      by_cases e : tk = 0
      · rw [if_pos e, if_pos e, if_pos e]; exact ⟨h1, hide_key h (Or.inl ⟨rfl, rfl⟩)⟩
      · rw [if_neg e, if_neg e, if_neg e]; exact ⟨h2, hide_key h (Or.inr ⟨rfl, rfl⟩)⟩
theorem RR.hid (h : RR S T z) (d : Int32) : hidF (S 15) (S 16) d 8 = hidF (T 11) (T 12) d 8 := hid_cg 8 h.1.2.2.2.2.1
theorem e_hides (h : RR S T z) (dr wh : Int32) : (p_hides S dr wh).1 = (m_hides T dr wh).1 ∧ RR (p_hides S dr wh).2 (m_hides T dr wh).2 z := by
  unfold p_hides m_hides
  rw [h.hid]
  by_cases c : isDr dr = 0
  · rw [if_pos c, if_pos c]; exact ⟨rfl, h⟩
  · rw [if_neg c, if_neg c]
    by_cases d : f_in wh (nI 0) (nI 1) = 0
    · rw [if_pos d, if_pos d]; exact ⟨rfl, h⟩
    · rw [if_neg d, if_neg d]
      by_cases e : wh = 0
      · rw [if_pos e, if_pos e]; exact ⟨rfl, h⟩
      · rw [if_neg e, if_neg e]; exact ⟨rfl, h⟩
theorem e_cover (h : RR S T z) (dr : Int32) : (p_cover S dr).1 = m_cover T dr ∧ RR (p_cover S dr).2 T z := by
  unfold p_cover m_cover
  by_cases c : isDr dr = 0
  · rw [if_pos c, if_pos c]; exact ⟨rfl, h⟩
  · rw [if_neg c, if_neg c]
    refine ⟨eq_cover h.1.2.2.2.2.1, RR_f (S := S) (T := T) (fun r hr => ?_) (fun _ _ => rfl) h⟩
    dsimp only
    unfold bst
    rw [up_ne (by omega), up_ne (by omega)]
theorem e_under (h : RR S T z) (dr : Int32) : p_under S dr = m_under T dr := by
  unfold p_under m_under
  rw [h.hid, h.n]
  by_cases c : isDr dr = 0
  · rw [if_pos c, if_pos c]
  · rw [if_neg c, if_neg c]
    exact orB_cg _ (fun p hp => by rw [h.dr p hp])
theorem e_told (h : RR S T z) (wh : Int32) : (p_told S wh).1 = (m_told T wh).1 ∧ RR (p_told S wh).2 (m_told T wh).2 z := by
  have hl : S 41 0 = nI ((if rulN T = 0 then 0 else 1) + cntB (fun j => T 9 j == nI 59) (rulN T)) := h.1.2.2.2.2.2.2.2.2
  unfold p_told m_told
  by_cases w0 : wh = nI 0
  · rw [if_pos w0, if_pos (show wh = 0 from w0)]; exact ⟨h.1.1.2.symm, h⟩
  · rw [if_neg w0, if_neg (show ¬ wh = 0 from w0)]
    by_cases w1 : wh = nI 1
    · rw [if_pos w1, if_pos w1]; exact ⟨h.2.1.2.2.1.symm, h⟩
    · rw [if_neg w1, if_neg w1]
      by_cases w2 : wh = nI 2
      · rw [if_pos w2, if_pos w2]; exact ⟨hl, h⟩
      · rw [if_neg w2, if_neg w2]
        by_cases w3 : wh = nI 3
        · rw [if_pos w3, if_pos w3]; exact ⟨h.2.2.1.1.2.2.symm, h⟩
        · rw [if_neg w3, if_neg w3]
          by_cases w4 : wh = nI 4
          · rw [if_pos w4, if_pos w4]; exact ⟨h.2.2.1.2.1.2.2.symm, h⟩
          · rw [if_neg w4, if_neg w4]
            by_cases w5 : wh = nI 5
            · rw [if_pos w5, if_neg (by rw [w5]; decide)]; subst w5; exact ⟨h.s4 0 (by omega), h⟩
            · rw [if_neg w5]
              by_cases w6 : wh = nI 6
              · rw [if_pos w6, if_neg (by rw [w6]; decide)]; subst w6; exact ⟨h.s4 1 (by omega), h⟩
              · rw [if_neg w6]
                by_cases w7 : wh = nI 7
                · rw [if_pos w7, if_neg (by rw [w7]; decide)]; subst w7; exact ⟨h.s4 2 (by omega), h⟩
                · rw [if_neg w7]
                  by_cases w8 : wh = nI 8
                  · rw [if_pos w8, if_neg (by rw [w8]; decide)]; subst w8; exact ⟨h.s4 3 (by omega), h⟩
                  · rw [if_neg w8, if_pos]
                    · exact ⟨rfl, h⟩
                    · refine Decidable.byContradiction (fun q => ?_)
                      obtain ⟨e, a, b⟩ := f_in_t2 (by decide) (by decide) q
                      rcases (show clN wh = 5 ∨ clN wh = 6 ∨ clN wh = 7 ∨ clN wh = 8 by omega) with k | k | k | k
                      · rw [k] at e; exact w5 e
                      · rw [k] at e; exact w6 e
                      · rw [k] at e; exact w7 e
                      · rw [k] at e; exact w8 e
end EN
