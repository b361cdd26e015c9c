/-! ===== the law's text: the class against the reference ===== -/
theorem scn_cg {f g : Nat → Int32} : ∀ n, (∀ j, j < n → f j = g j) → scn f n = scn g n
  | 0, _ => rfl
  | n + 1, h => by
    have ih := scn_cg n (fun j hj => h j (by omega))
    cases hs : scn g n with
    | inr i => rw [scn_bad hs _ (Nat.le_succ n), scn_bad (ih.trans hs) _ (Nat.le_succ n)]
    | inl p =>
      have hf := ih.trans hs
      have e := h n (by omega)
      cases hx : nxt p (g n) with
      | none => rw [scn_none hs hx, scn_none hf (by rw [e]; exact hx)]
      | some q => rw [scn_some hs hx, scn_some hf (by rw [e]; exact hx)]
theorem flt_cg {f g : Nat → Int32} (n : Nat) (h : ∀ j, j < n → f j = g j) : fltR f n = fltR g n := by
  unfold fltR
  rw [scn_cg n h]
theorem scn_lt {f : Nat → Int32} : ∀ n i, scn f n = .inr i → i < n
  | 0, i, h => by cases h
  | n + 1, i, h => by
    cases hs : scn f n with
    | inr j =>
      have := (scn_bad hs _ (Nat.le_succ n)).symm.trans h
      cases this
      have := scn_lt n _ hs
      omega
    | inl p =>
      cases hx : nxt p (f n) with
      | none => have := (scn_none hs hx).symm.trans h; cases this; omega
      | some q => have := (scn_some hs hx).symm.trans h; cases this
theorem flt_6 {f : Nat → Int32} {n : Nat} (hn : n ≤ 50) : (fltR f n = (-6) ↔ ∃ p, scn f n = .inl p ∧ 4 ≤ p) ∧ (fltR f n < 0 ↔ ∃ p, scn f n = .inl p ∧ 4 ≤ p) := by
  have hk : ∀ k, k ≤ 50 → ¬ nI k = (-6) := fun k hk e => by
    have h1 : (0 : Int32) ≤ nI k := nI_pos' (by omega)
    rw [e] at h1
    exact absurd h1 (by decide)
  unfold fltR
  cases hs : scn f n with
  | inr i =>
    have := scn_lt n i hs
    refine ⟨⟨fun q => absurd q (hk i (by omega)), fun ⟨p, h, _⟩ => by cases h⟩, ⟨fun q => absurd q (nI_pos (by omega)), fun ⟨p, h, _⟩ => by cases h⟩⟩
  | inl p =>
    show ((if 4 ≤ p then (-6) else nI n) = (-6) ↔ _) ∧ ((if 4 ≤ p then (-6) else nI n) < 0 ↔ _)
    by_cases w : 4 ≤ p
    · rw [if_pos w]
      exact ⟨⟨fun _ => ⟨p, rfl, w⟩, fun _ => rfl⟩, ⟨fun _ => ⟨p, rfl, w⟩, fun _ => by decide⟩⟩
    · rw [if_neg w]
      refine ⟨⟨fun q => absurd q (hk n hn), fun ⟨p', h, h2⟩ => by cases h; exact absurd h2 w⟩, ⟨fun q => absurd q (nI_pos (by omega)), fun ⟨p', h, h2⟩ => by cases h; exact absurd h2 w⟩⟩
theorem pl_cg {f g : Nat → Int32} : ∀ n, (∀ j, j < n → f j = g j) → plF f n = plF g n ∧ frF f n = frF g n ∧ toF f n = toF g n ∧ coF f n = coF g n
  | 0, _ => ⟨rfl, rfl, rfl, rfl⟩
  | n + 1, h => by
    obtain ⟨h1, h2, h3, h4⟩ := pl_cg (f := f) (g := g) n (fun j hj => h j (by omega))
    have e := h n (by omega)
    refine ⟨?_, ?_, ?_, ?_⟩
    · show (nxt (plF f n) (f n)).getD 9 = (nxt (plF g n) (g n)).getD 9
      rw [h1, e]
    · show (if plF f n = 0 then f n else frF f n) = (if plF g n = 0 then g n else frF g n)
      rw [h1, h2, e]
    · show (if plF f n = 1 then f n else toF f n) = (if plF g n = 1 then g n else toF g n)
      rw [h1, h3, e]
    · show (if plF f n = 3 then f n - nI 48 else if plF f n = 4 ∧ isDg (f n) = true then coF f n * nI 10 + f n - nI 48 else coF f n) = (if plF g n = 3 then g n - nI 48 else if plF g n = 4 ∧ isDg (g n) = true then coF g n * nI 10 + g n - nI 48 else coF g n)
      rw [h1, h4, e]
theorem fill_cg {M M' : Nat → Nat → Int32} {fr to co : Int32} (h : ∀ i j, i < 4 → j < 4 → M i j = M' i j) : ∀ i j, i < 4 → j < 4 → fillU M fr to co 16 i j = fillU M' fr to co 16 i j := by
  intro i j hi hj
  unfold fillU
  rw [h i j hi hj]
theorem mF_cg {f g : Nat → Int32} {n : Nat} {M M' : Nat → Nat → Int32} (hf : ∀ j, j < n → f j = g j) (h : ∀ i j, i < 4 → j < 4 → M i j = M' i j) : ∀ x, x ≤ n → ∀ i j, i < 4 → j < 4 → mF f n M x i j = mF g n M' x i j
  | 0, _, i, j, hi, hj => h i j hi hj
  | x + 1, hx, i, j, hi, hj => by
    have ih := mF_cg hf h x (by omega)
    obtain ⟨h1, h2, h3, h4⟩ := pl_cg (f := f) (g := g) (x + 1) (fun j hj => hf j (by omega))
    have el : lnE f n x = lnE g n x := by unfold lnE; rw [hf x (by omega)]
    show (if lnE f n x then fillU (mF f n M x) (frF f (x + 1)) (toF f (x + 1)) (coF f (x + 1)) 16 else mF f n M x) i j = (if lnE g n x then fillU (mF g n M' x) (frF g (x + 1)) (toF g (x + 1)) (coF g (x + 1)) 16 else mF g n M' x) i j
    rw [el, h2, h3, h4]
    split
    · exact fill_cg ih i j hi hj
    · exact ih i j hi hj
theorem rdM_cg {f g : Nat → Int32} {n : Nat} {M M' : Nat → Nat → Int32} (hf : ∀ j, j < n → f j = g j) {i j : Nat} (hi : i < 4) (hj : j < 4) : rdM f n M i j = rdM g n M' i j := by
  unfold rdM
  refine fill_cg (mF_cg hf (fun i j hi hj => ?_) n (Nat.le_refl _)) i j hi hj
  unfold inU
  have hc : 4 * i + j < 16 ∧ j < 4 := ⟨by omega, hj⟩
  rw [if_pos hc, if_pos hc]
theorem slM_cg {f g : Nat → Int32} {n : Nat} (hf : ∀ j, j < n → f j = g j) {i j : Nat} (hi : i < 4) (hj : j < 4) : slM f n i j = slM g n i j := by
  unfold slM
  rw [rdM_cg hf hi hj]
theorem li_cnt {f : Nat → Int32} {n : Nat} : ∀ i, liF f n i = cntB (lnE f n) i
  | 0 => rfl
  | i + 1 => by
    show (if lnE f n i then liF f n i + 1 else liF f n i) = (if lnE f n i then cntB (lnE f n) i + 1 else cntB (lnE f n) i)
    rw [li_cnt i]
theorem li_eq {f : Nat → Int32} {n p : Nat} (h : scn f n = .inl p) (hp : 4 ≤ p) : ¬ n = 0 ∧ liF f n n = 1 + cntB (fun j => f j == nI 59) n := by
  cases n with
  | zero => cases h; omega
  | succ n =>
    refine ⟨by omega, ?_⟩
    obtain ⟨g1, g2, g3⟩ := pl_go h (show n < n + 1 by omega)
    have hpn := (scn_pl h).1
    have h59 : ¬ f n = nI 59 := by
      intro e
      rw [e] at g2
      rcases (show plF f n = 0 ∨ plF f n = 1 ∨ plF f n = 2 ∨ plF f n = 3 ∨ plF f n = 4 ∨ plF f n = 5 by omega) with q | q | q | q | q | q
      · rw [q] at g2; exact (nxt_0 g2).2 rfl
      · rw [q] at g2; exact (nxt_1 g2).2 rfl
      · rw [q] at g2; exact (nxt_2 g2).2 rfl
      · rw [q] at g2; have := (nxt_3 g2).2; rw [isDg_59] at this; exact absurd this (by decide)
      · rw [q] at g2
        rcases nxt_4 g2 with w | w
        · have := w.2; rw [isDg_59] at this; exact absurd this (by decide)
        · omega
      · rw [q] at g2; have := (nxt_5 g2).1; omega
    have e1 : lnE f (n + 1) n = true := by unfold lnE; rw [decide_eq_true (by omega)]; rfl
    have e2 : (fun j => f j == nI 59) n = false := beqF h59
    rw [li_cnt, cntB_s e1, cntB_f (P := fun j => f j == nI 59) e2, Nat.add_comm]
    congr 1
    refine cntB_cg _ (fun j hj => ?_)
    unfold lnE
    rw [decide_eq_false (by omega)]
    rfl
/-! ===== the relation between the class's state and the reference's ===== -/
/-- the law that holds -/
def RLw (S T : St) : Prop := okML T ∧ okMV T ∧ (∀ i j, i < 4 → j < 4 → S (8 + i) j = slM (T 9) (rulN T) i j) ∧ S 41 0 = nI (lnM T)
/-- the signs that were said -/
def RT (S T : St) : Prop := S 42 0 = nI (sgnN S) ∧ sgnN S ≤ 50 ∧ T 6 0 = S 42 0 ∧ ∀ j, j < sgnN S → S 18 j = T 7 j
def RW (S T : St) (j : Nat) : Prop := (S 6 j = 0 ∧ T 4 j = (-6)) ∨ ∃ v, 1 ≤ v ∧ v ≤ 999 ∧ S 6 j = nI v ∧ T 4 j = nI v
def RG (S T : St) : Prop := (S 13 0 = T 10 0 ∧ S 14 0 = T 10 1 ∧ S 13 1 = T 10 2 ∧ S 14 1 = T 10 3) ∧ ∃ a b : Nat, S 13 1 = nI a ∧ S 14 1 = nI b ∧ a ≤ 99 ∧ b ≤ 99
/-- what an image keeps -/
def RA (S T : St) : Prop := (okP S ∧ T 0 0 = S 40 0) ∧ (∀ j, j < picN S → (S 3 j = T 1 j ∧ S 4 j = T 2 j ∧ S 5 j = T 3 j) ∧ RW S T j) ∧ RD S T ∧ RG S T ∧ (∀ j, j < 8 → S 15 j = T 11 j ∧ S 16 j = T 12 j) ∧ RLw S T
def KC (S : St) (z : Nat → Nat) : Prop := z 1 = z 0 ∧ z 0 ≤ 16807 ∧ (S 45 0 = nI 0 ∨ (S 45 0 = nI 1 ∧ okK S ∧ (tA S).length ≤ z 0))
def KM (T : St) : Prop := T 18 0 = nI 0 ∨ (T 18 0 = nI 1 ∧ okLd T)
def RR (S T : St) (z : Nat → Nat) : Prop := RA S T ∧ RT S T ∧ RN S T ∧ KC S z ∧ KM T
theorem RLw_cg {S T S' T' : St} (h1 : ∀ i j, i < 4 → j < 4 → S' (8 + i) j = S (8 + i) j) (h2 : S' 41 0 = S 41 0) (h3 : T' 8 0 = T 8 0) (h4 : ∀ j, j < 50 → T' 9 j = T 9 j) (h : RLw S T) : RLw S' T' := by
  obtain ⟨a1, a2, a3, a4⟩ := h
  have er : rulN T' = rulN T := by unfold rulN; rw [h3]
  have e50 := a1.2
  have hj : ∀ j, j < rulN T → T' 9 j = T 9 j := fun j hj => h4 j (by omega)
  refine ⟨⟨by rw [er, h3]; exact a1.1, by rw [er]; exact a1.2⟩, ?_, fun i j hi hjj => ?_, ?_⟩
  · rcases a2 with q | ⟨p, q1, q2⟩
    · exact Or.inl (by rw [er]; exact q)
    · exact Or.inr ⟨p, by rw [er, scn_cg _ hj]; exact q1, q2⟩
  · rw [h1 i j hi hjj, a3 i j hi hjj, er, slM_cg hj hi hjj]
  · rw [h2, a4]
    unfold lnM
    rw [er, cntB_cg (P := fun j => T' 9 j == nI 59) (R := fun j => T 9 j == nI 59) _ (fun j hj2 => by rw [hj j hj2])]
theorem RA_cg {S T S' T' : St} (hS0 : S' 40 0 = S 40 0) (hS1 : S' 41 0 = S 41 0) (hS6 : ∀ j, j < 6 → S' 3 j = S 3 j ∧ S' 4 j = S 4 j ∧ S' 5 j = S 5 j ∧ S' 6 j = S 6 j) (hSl : ∀ i j, i < 4 → j < 4 → S' (8 + i) j = S (8 + i) j) (hS4 : ∀ j, j < 4 → S' 12 j = S 12 j) (hS2 : ∀ j, j < 2 → S' 13 j = S 13 j ∧ S' 14 j = S 14 j) (hS8 : ∀ j, j < 8 → S' 15 j = S 15 j ∧ S' 16 j = S 16 j)
    (hT0 : T' 0 0 = T 0 0) (hT8 : T' 8 0 = T 8 0) (hT6 : ∀ j, j < 6 → T' 1 j = T 1 j ∧ T' 2 j = T 2 j ∧ T' 3 j = T 3 j ∧ T' 4 j = T 4 j) (hT4 : ∀ j, j < 4 → T' 5 j = T 5 j ∧ T' 10 j = T 10 j) (hT9 : ∀ j, j < 50 → T' 9 j = T 9 j) (hTh : ∀ j, j < 8 → T' 11 j = T 11 j ∧ T' 12 j = T 12 j) (h : RA S T) : RA S' T' := by
  obtain ⟨⟨⟨p1, p2⟩, p3⟩, h2, ⟨d1, a, b, w, p, d2, d3, d4, d5⟩, ⟨⟨g1, g2, g3, g4⟩, ga, gb, g5, g6, g7⟩, h5, h6⟩ := h
  have ep : picN S' = picN S := by unfold picN; rw [hS0]
  refine ⟨⟨⟨by rw [ep, hS0]; exact p1, by rw [ep]; exact p2⟩, by rw [hT0, hS0]; exact p3⟩, fun j hj => ?_, ⟨fun j hj => by rw [hS4 j hj, (hT4 j hj).1]; exact d1 j hj, a, b, w, p, ?_, ?_, ?_, ?_⟩, ⟨⟨?_, ?_, ?_, ?_⟩, ga, gb, ?_, ?_, g7⟩, fun j hj => ?_, RLw_cg hSl hS1 hT8 hT9 h6⟩
  · rw [ep] at hj
    obtain ⟨⟨q1, q2, q3⟩, q4⟩ := h2 j hj
    obtain ⟨s1, s2, s3, s4⟩ := hS6 j (by omega)
    obtain ⟨t1, t2, t3, t4⟩ := hT6 j (by omega)
    refine ⟨⟨by rw [s1, t1]; exact q1, by rw [s2, t2]; exact q2, by rw [s3, t3]; exact q3⟩, ?_⟩
    unfold RW
    rw [s4, t4]
    exact q4
  · rw [hS4 0 (by omega)]; exact d2
  · rw [hS4 1 (by omega)]; exact d3
  · rw [hS4 2 (by omega)]; exact d4
  · rw [hS4 3 (by omega)]; exact d5
  · rw [(hS2 0 (by omega)).1, (hT4 0 (by omega)).2]; exact g1
  · rw [(hS2 0 (by omega)).2, (hT4 1 (by omega)).2]; exact g2
  · rw [(hS2 1 (by omega)).1, (hT4 2 (by omega)).2]; exact g3
  · rw [(hS2 1 (by omega)).2, (hT4 3 (by omega)).2]; exact g4
  · rw [(hS2 1 (by omega)).1]; exact g5
  · rw [(hS2 1 (by omega)).2]; exact g6
  · rw [(hS8 j hj).1, (hS8 j hj).2, (hTh j hj).1, (hTh j hj).2]; exact h5 j hj
