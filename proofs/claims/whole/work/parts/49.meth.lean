/-! ===== method by method: the answers are alike, and the relation is kept ===== -/
section EM
variable {S T : St} {z : Nat → Nat}
theorem RR.ph (h : RR S T z) {pi : Int32} (c : ¬ haP S pi = 0) : clN pi < 6 ∧ pi = nI (clN pi) ∧ clN pi < picN S ∧ (S 3 (clN pi) = T 1 (clN pi) ∧ S 4 (clN pi) = T 2 (clN pi) ∧ S 5 (clN pi) = T 3 (clN pi)) ∧ RW S T (clN pi) := by
  obtain ⟨e, hl⟩ := hap_t h.okP c
  have h6 := h.okP.2
  exact ⟨by omega, e, hl, h.1.2.1 _ hl⟩
theorem RW.ans {j : Nat} (h : RW S T j) : (if S 6 j = 0 then (-6) else S 6 j) = T 4 j := by
  rcases h with ⟨e1, e2⟩ | ⟨v, h1, h2, e1, e2⟩
  · rw [if_pos e1, e2]
  · rw [if_neg (by rw [e1]; exact nI_ne0 (by omega) (by omega)), e1, e2]
theorem e_about (h : RR S T z) (pi wh : Int32) : (p_about S pi wh).1 = (m_about T pi wh).1 ∧ RR (p_about S pi wh).2 (m_about T pi wh).2 z := by
  unfold p_about m_about
  by_cases c : haP S pi = 0
  · rw [if_pos c, if_pos (h.hp.mp c)]; exact ⟨rfl, h⟩
  · rw [if_neg c, if_neg (fun q => c (h.hp.mpr q))]
    obtain ⟨-, -, -, ⟨q1, q2, q3⟩, q4⟩ := h.ph c
    by_cases w0 : wh = nI 0
    · rw [if_pos w0, if_pos (show wh = 0 from w0)]; exact ⟨q1, h⟩
    · rw [if_neg w0, if_neg (show ¬ wh = 0 from w0)]
      by_cases w1 : wh = nI 1
      · rw [if_pos w1, if_pos w1]; exact ⟨q2, h⟩
      · rw [if_neg w1, if_neg w1]
        by_cases w2 : wh = nI 2
        · rw [if_pos w2, if_pos w2]; exact ⟨q3, h⟩
        · rw [if_neg w2, if_neg w2]
          by_cases w3 : wh = nI 3
          · rw [if_pos w3, if_pos w3]; exact ⟨q4.ans, h⟩
          · rw [if_neg w3, if_neg w3]; exact ⟨rfl, h⟩
theorem e_say (h : RR S T z) (sg : Int32) : (p_say S sg).1 = (m_say T sg).1 ∧ RR (p_say S sg).2 (m_say T sg).2 z := by
  unfold p_say m_say
  rw [← h.sg]
  by_cases c : f_in sg (nI 33) (nI 126) = 0
  · rw [if_pos c, if_pos c]; exact ⟨rfl, h⟩
  · rw [if_neg c, if_neg c]
    have h50 := h.2.1.2.1
    by_cases w : sgnN S < 50
    · rw [if_pos w, if_neg (show ¬ sgnN S = 50 by omega)]
      dsimp only
      refine ⟨rfl, RA_f (S := S) (T := T) (fun r hr => by rw [up_ne (by omega), up_ne (by omega)]) (fun r hr => by rw [up_ne (by omega), up_ne (by omega)]) h.1, ?_, RN_f (S := S) (T := T) (fun r hr => by rw [up_ne (by omega), up_ne (by omega)]) (fun r hr => by rw [up_ne (by omega), up_ne (by omega)]) h.2.2.1, KC_f (S := S) (fun r hr => by rw [up_ne (by omega), up_ne (by omega)]) rfl h.2.2.2.1, KM_f (T := T) (fun r hr => by rw [up_ne (by omega), up_ne (by omega)]) rfl h.2.2.2.2⟩
      have e : sgnN (va_up (va_up S 18 (upd (S 18) (sgnN S) sg)) 42 (fun _ => nI (sgnN S + 1))) = sgnN S + 1 := nI_clamp (by omega)
      refine ⟨by rw [e]; rfl, by rw [e]; omega, rfl, fun j hj => ?_⟩
      rw [e] at hj
      show upd (S 18) (sgnN S) sg j = upd (T 7) (sgnN S) sg j
      by_cases q : j = sgnN S
      · rw [q, pk_us, pk_us]
      · rw [pk_un q, pk_un q]; exact h.2.1.2.2.2 j (by omega)
    · rw [if_neg w, if_pos (show sgnN S = 50 by omega)]; exact ⟨rfl, h⟩
theorem e_wipe (h : RR S T z) : (p_wipe S).1 = (m_wipe T).1 ∧ RR (p_wipe S).2 (m_wipe T).2 z := by
  refine ⟨by show nI (sgnN S) = nI (msgN T); rw [h.sg], RA_f (S := S) (T := T) (fun r hr => up_ne (by omega)) (fun r hr => up_ne (by omega)) h.1, ?_, RN_f (S := S) (T := T) (fun r hr => up_ne (by omega)) (fun r hr => up_ne (by omega)) h.2.2.1, KC_f (S := S) (fun r hr => up_ne (by omega)) rfl h.2.2.2.1, KM_f (T := T) (fun r hr => up_ne (by omega)) rfl h.2.2.2.2⟩
  have e : sgnN (va_up S 42 (fun _ => nI 0)) = 0 := nI_clamp (by omega)
  exact ⟨by show nI 0 = nI (sgnN (va_up S 42 (fun _ => nI 0))); rw [e], by show sgnN (va_up S 42 (fun _ => nI 0)) ≤ 50; rw [e]; omega, rfl, fun j hj => by have hj : j < sgnN (va_up S 42 (fun _ => nI 0)) := hj; rw [e] at hj; omega⟩
theorem e_fault (h : RR S T z) : (p_fault S).1 = (m_fault T).1 ∧ RR (p_fault S).2 (m_fault T).2 z := by
  refine ⟨?_, h⟩
  show fltR (S 18) (sgnN S) = fltR (T 7) (msgN T)
  rw [← h.sg]
  exact flt_cg _ h.2.1.2.2.2
theorem e_slip (h : RR S T z) (fr to : Int32) {T' : St} (hs : SlR T T') : (p_slip S fr to).1 = m_slip T fr to ∧ RR (p_slip S fr to).2 T' z := by
  unfold p_slip m_slip
  by_cases c : f_in fr (nI 0) (nI 3) = 0
  · rw [if_pos c, if_pos (Or.inl c)]; exact ⟨rfl, RR_sl hs h⟩
  · by_cases d : f_in to (nI 0) (nI 3) = 0
    · rw [if_neg c, if_pos d, if_pos (Or.inr d)]; exact ⟨rfl, RR_sl hs h⟩
    · rw [if_neg c, if_neg d, if_neg (fun q => q.elim c d)]
      obtain ⟨-, -, f1⟩ := f_in_t2 (by decide) (by decide) c
      obtain ⟨-, -, f2⟩ := f_in_t2 (by decide) (by decide) d
      exact ⟨h.sl _ _ (by omega) (by omega), RR_sl hs h⟩
theorem e_cost (h : RR S T z) (d1 d2 : Int32) {T' : St} (hs : SlR T T') : (p_cost S d1 d2).1 = m_cost T d1 d2 ∧ RR (p_cost S d1 d2).2 T' z := by
  unfold p_cost m_cost
  by_cases c : isDr d1 = 0
  · rw [if_pos c, if_pos (Or.inl c)]; exact ⟨rfl, RR_sl hs h⟩
  · by_cases d : isDr d2 = 0
    · rw [if_neg c, if_pos d, if_pos (Or.inr d)]; exact ⟨rfl, RR_sl hs h⟩
    · rw [if_neg c, if_neg d, if_neg (fun q => q.elim c d)]
      exact ⟨costF_cg h.sl _ _ 8, RR_sl hs h⟩
theorem e_lost (h : RR S T z) (pi o wh : Int32) {T' : St} (hs : SlR T T') : (p_lost S pi o wh).1 = m_lost T pi o wh ∧ RR (p_lost S pi o wh).2 T' z := by
  rw [eq_lost h.okP h.n h.okMP.2 h.sl h.okMV h.dr (h.s4 0 (by omega))]
  exact ⟨rfl, RR_sl hs h⟩
theorem e_width (h : RR S T z) (pi v : Int32) : (p_width S pi v).1 = (m_width T pi v).1 ∧ RR (p_width S pi v).2 (m_width T pi v).2 z := by
  unfold p_width m_width
  by_cases c : haP S pi = 0
  · rw [if_pos c, if_pos (h.hp.mp c)]; exact ⟨rfl, h⟩
  · rw [if_neg c, if_neg (fun q => c (h.hp.mpr q))]
    obtain ⟨-, -, hl, -, q4⟩ := h.ph c
    by_cases d : f_in v (nI 0) (nI 999) = 0
    · rw [if_pos d, if_pos d]; exact ⟨rfl, h⟩
    · rw [if_neg d, if_neg d]
      obtain ⟨v1, -, v2⟩ := f_in_t2 (by decide) (by decide) d
      have key : ∀ x : Int32, ((v = 0 ∧ x = (-6)) ∨ (¬ v = 0 ∧ x = v)) → RR (va_up S 6 (upd (S 6) (clN pi) v)) (va_up T 4 (upd (T 4) (clN pi) x)) z := by
        intro x hx
        refine ⟨⟨h.1.1, fun j hj => ⟨(h.1.2.1 j hj).1, ?_⟩, h.1.2.2.1, h.1.2.2.2.1, h.1.2.2.2.2.1, RLw_cg (S := S) (T := T) (fun i j hi _ => by rw [up_ne (by omega)]) rfl rfl (fun _ _ => rfl) h.1.2.2.2.2.2⟩, RT_f (S := S) (T := T) (fun r hr => up_ne (by omega)) (fun r hr => up_ne (by omega)) h.2.1, RN_f (S := S) (T := T) (fun r hr => up_ne (by omega)) (fun r hr => up_ne (by omega)) h.2.2.1, KC_f (S := S) (fun r hr => up_ne (by omega)) rfl h.2.2.2.1, KM_f (T := T) (fun r hr => up_ne (by omega)) rfl h.2.2.2.2⟩
        show (upd (S 6) (clN pi) v j = 0 ∧ upd (T 4) (clN pi) x j = (-6)) ∨ ∃ w, 1 ≤ w ∧ w ≤ 999 ∧ upd (S 6) (clN pi) v j = nI w ∧ upd (T 4) (clN pi) x j = nI w
        by_cases e : j = clN pi
        · rw [e, pk_us, pk_us]
          rcases hx with ⟨x1, x2⟩ | ⟨x1, x2⟩
          · exact Or.inl ⟨x1, x2⟩
          · refine Or.inr ⟨clN v, ?_, v2, v1, by rw [x2]; exact v1⟩
            rcases Nat.eq_zero_or_pos (clN v) with w | w
            · rw [w] at v1; exact absurd v1 x1
            · exact w
        · rw [pk_un e, pk_un e]; exact (h.1.2.1 j hj).2
      by_cases w : v = 0
      · rw [if_pos w]; exact ⟨q4.ans, key _ (Or.inl ⟨w, rfl⟩)⟩
      · rw [if_neg w]; exact ⟨q4.ans, key _ (Or.inr ⟨w, rfl⟩)⟩
theorem sp_iff {lo hi x y : Int32} : (if x ≤ lo ∧ lo ≤ hi ∧ hi ≤ y then nI 1 else nI 0) = 0 ↔ ¬ (x ≤ lo ∧ lo ≤ hi ∧ hi ≤ y) := by
  by_cases q : x ≤ lo ∧ lo ≤ hi ∧ hi ≤ y
  · rw [if_pos q]; exact ⟨fun w => absurd w (by decide), fun w => absurd q w⟩
  · rw [if_neg q]; exact ⟨fun _ => q, fun _ => rfl⟩
theorem f_in_ne {v a b : Int32} : ¬ f_in v a b = 0 ↔ (a ≤ v ∧ v ≤ b) := by
  rw [f_in_0]
  exact Decidable.not_not
theorem e_spread (h : RR S T z) (wi lo hi : Int32) : (p_spread S wi lo hi).1 = (m_spread T wi lo hi).1 ∧ RR (p_spread S wi lo hi).2 (m_spread T wi lo hi).2 z := by
  unfold p_spread m_spread
  by_cases c : f_in wi (nI 0) (nI 1) = 0
  · rw [if_pos c, if_pos c]; exact ⟨rfl, h⟩
  · rw [if_neg c, if_neg c]
    by_cases d : nI 1 ≤ lo ∧ lo ≤ hi ∧ hi ≤ nI 99
    · rw [if_neg (fun q => sp_iff.mp q d), if_neg (f_in_ne.mpr ⟨d.1, Int32.le_trans d.2.1 d.2.2⟩), if_neg (f_in_ne.mpr ⟨d.2.1, d.2.2⟩)]
      obtain ⟨l1, l2, l3⟩ := f_in_t2 (by decide) (by decide) (f_in_ne.mpr ⟨d.1, Int32.le_trans d.2.1 d.2.2⟩)
      obtain ⟨i1, i2, i3⟩ := f_in_t2 (by decide) (by decide) (f_in_ne.mpr ⟨Int32.le_trans d.1 d.2.1, d.2.2⟩)
      obtain ⟨⟨g1, g2, g3, g4⟩, ga, gb, g5, g6, g7, g8⟩ := h.1.2.2.2.1
      obtain ⟨w1, -, w2⟩ := f_in_t2 (by decide) (by decide) c
      have fr : ∀ k, (RG (va_up (va_up S 13 (upd (S 13) k lo)) 14 (upd (S 14) k hi)) (va_up (va_up T 10 (upd (T 10) (2 * k) lo)) 10 (upd (upd (T 10) (2 * k) lo) ((2 * k) + 1) hi))) → RR (va_up (va_up S 13 (upd (S 13) k lo)) 14 (upd (S 14) k hi)) (va_up (va_up T 10 (upd (T 10) (2 * k) lo)) 10 (upd (upd (T 10) (2 * k) lo) ((2 * k) + 1) hi)) z := fun k hg =>
        ⟨⟨h.1.1, h.1.2.1, h.1.2.2.1, hg, h.1.2.2.2.2.1, RLw_cg (S := S) (T := T) (fun i j hi _ => by rw [up_ne (by omega), up_ne (by omega)]) rfl rfl (fun _ _ => rfl) h.1.2.2.2.2.2⟩, RT_f (S := S) (T := T) (fun r hr => by rw [up_ne (by omega), up_ne (by omega)]) (fun r hr => by rw [up_ne (by omega), up_ne (by omega)]) h.2.1, RN_f (S := S) (T := T) (fun r hr => by rw [up_ne (by omega), up_ne (by omega)]) (fun r hr => by rw [up_ne (by omega), up_ne (by omega)]) h.2.2.1, KC_f (S := S) (fun r hr => by rw [up_ne (by omega), up_ne (by omega)]) rfl h.2.2.2.1, KM_f (T := T) (fun r hr => by rw [up_ne (by omega), up_ne (by omega)]) rfl h.2.2.2.2⟩
      rcases (show clN wi = 0 ∨ clN wi = 1 by omega) with e | e
      · rw [e]
        refine ⟨by show nI 100 * S 13 0 + S 14 0 = nI 100 * T 10 0 + T 10 1; rw [g1, g2], fr 0 ?_⟩
        exact ⟨⟨rfl, rfl, g3, g4⟩, ga, gb, g5, g6, g7, g8⟩
      · rw [e]
        refine ⟨by show nI 100 * S 13 1 + S 14 1 = nI 100 * T 10 2 + T 10 3; rw [g3, g4], fr 1 ?_⟩
        exact ⟨⟨g1, g2, rfl, rfl⟩, clN lo, clN hi, l1, i1, l3, i3⟩
    · rw [if_pos (sp_iff.mpr d)]
      by_cases e : f_in lo (nI 1) (nI 99) = 0
      · rw [if_pos e]; exact ⟨rfl, h⟩
      · rw [if_neg e]
        have e1 := f_in_ne.mp e
        rw [if_pos (f_in_0.mpr (fun q => d ⟨e1.1, q.1, q.2⟩))]; exact ⟨rfl, h⟩
theorem e_picture (h : RR S T z) (dr lo hi : Int32) : (p_picture S dr lo hi).1 = (m_picture T dr lo hi).1 ∧ RR (p_picture S dr lo hi).2 (m_picture T dr lo hi).2 z := by
  unfold p_picture m_picture
  have ep : picN (va_up S 45 (fun _ => nI 0)) = picN S := rfl
  rw [← h.n, ep]
  have h6 := h.okP.2
  by_cases c : isDr dr = 0
  · rw [if_pos c, if_pos c]; exact ⟨rfl, h⟩
  · rw [if_neg c, if_neg c]
    by_cases d : nI 0 ≤ lo ∧ lo ≤ hi ∧ hi ≤ nI 99
    · rw [if_neg (fun q => sp_iff.mp q d), if_neg (f_in_ne.mpr ⟨d.1, Int32.le_trans d.2.1 d.2.2⟩), if_neg (f_in_ne.mpr ⟨Int32.le_trans d.1 d.2.1, d.2.2⟩), if_pos d.2.1]
      by_cases w : picN S < 6
      · rw [if_pos w, if_neg (show ¬ picN S = 6 by omega)]
        dsimp only
        refine ⟨rfl, ⟨?_, ?_, h.1.2.2.1, h.1.2.2.2.1, h.1.2.2.2.2.1, RLw_cg (S := S) (T := T) (fun i j hi _ => by rw [up_ne (by omega), up_ne (by omega), up_ne (by omega), up_ne (by omega), up_ne (by omega), up_ne (by omega)]) rfl rfl (fun _ _ => rfl) h.1.2.2.2.2.2⟩, RT_f (S := S) (T := T) (fun r hr => by rw [up_ne (by omega), up_ne (by omega), up_ne (by omega), up_ne (by omega), up_ne (by omega), up_ne (by omega)]) (fun r hr => by rw [up_ne (by omega), up_ne (by omega), up_ne (by omega), up_ne (by omega), up_ne (by omega), up_ne (by omega)]) h.2.1, RN_f (S := S) (T := T) (fun r hr => by rw [up_ne (by omega), up_ne (by omega), up_ne (by omega), up_ne (by omega), up_ne (by omega), up_ne (by omega)]) (fun r hr => by rw [up_ne (by omega), up_ne (by omega), up_ne (by omega), up_ne (by omega), up_ne (by omega), up_ne (by omega)]) h.2.2.1, KC_0 (S := S) rfl h.2.2.2.1, Or.inl rfl⟩
        · generalize hU : (va_up (va_up (va_up (va_up (va_up (va_up S 45 (fun _ => nI 0)) 3 (upd ((va_up S 45 (fun _ => nI 0)) 3) (picN S) dr)) 4 (upd ((va_up S 45 (fun _ => nI 0)) 4) (picN S) lo)) 5 (upd ((va_up S 45 (fun _ => nI 0)) 5) (picN S) hi)) 6 (upd ((va_up S 45 (fun _ => nI 0)) 6) (picN S) (nI 0))) 40 (fun _ => nI (picN S + 1))) = U
          have e0 : U 40 0 = nI (picN S + 1) := by rw [← hU]; rfl
          have e : picN U = picN S + 1 := by unfold picN at *; rw [e0]; exact nI_clamp (by omega)
          exact ⟨⟨by rw [e, e0], by rw [e]; omega⟩, by rw [e0]; rfl⟩
        · intro j hj
          have hj : j < picN S + 1 := by
            have e : picN (va_up (va_up (va_up (va_up (va_up (va_up S 45 (fun _ => nI 0)) 3 (upd ((va_up S 45 (fun _ => nI 0)) 3) (picN S) dr)) 4 (upd ((va_up S 45 (fun _ => nI 0)) 4) (picN S) lo)) 5 (upd ((va_up S 45 (fun _ => nI 0)) 5) (picN S) hi)) 6 (upd ((va_up S 45 (fun _ => nI 0)) 6) (picN S) (nI 0))) 40 (fun _ => nI (picN S + 1))) = picN S + 1 := nI_clamp (by omega)
            rw [e] at hj
            exact hj
          show (upd (S 3) (picN S) dr j = upd (T 1) (picN S) dr j ∧ upd (S 4) (picN S) lo j = upd (T 2) (picN S) lo j ∧ upd (S 5) (picN S) hi j = upd (T 3) (picN S) hi j) ∧ ((upd (S 6) (picN S) (nI 0) j = 0 ∧ upd (T 4) (picN S) (-6) j = (-6)) ∨ ∃ v, 1 ≤ v ∧ v ≤ 999 ∧ upd (S 6) (picN S) (nI 0) j = nI v ∧ upd (T 4) (picN S) (-6) j = nI v)
          by_cases e : j = picN S
          · rw [e, pk_us, pk_us, pk_us, pk_us, pk_us, pk_us, pk_us, pk_us]
            exact ⟨⟨rfl, rfl, rfl⟩, Or.inl ⟨rfl, rfl⟩⟩
          · rw [pk_un e, pk_un e, pk_un e, pk_un e, pk_un e, pk_un e, pk_un e, pk_un e]
            exact h.1.2.1 j (by omega)
      · rw [if_neg w, if_pos (show picN S = 6 by omega)]; exact ⟨rfl, h⟩
    · rw [if_pos (sp_iff.mpr d)]
      by_cases e : f_in lo (nI 0) (nI 99) = 0
      · rw [if_pos e]; exact ⟨rfl, h⟩
      · rw [if_neg e]
        by_cases e2 : f_in hi (nI 0) (nI 99) = 0
        · rw [if_pos e2]; exact ⟨rfl, h⟩
        · rw [if_neg e2, if_neg (fun q => d ⟨(f_in_ne.mp e).1, q, (f_in_ne.mp e2).2⟩)]; exact ⟨rfl, h⟩
theorem set_key (h : RR S T z) {k v : Nat} (hk : k < 4) (hv : (k < 2 ∧ v ≤ 99) ∨ (2 ≤ k ∧ 1 ≤ v ∧ v ≤ 30)) : RA (va_up S 12 (upd (S 12) k (nI v))) (va_up (va_up T 5 (upd (T 5) k (nI v))) 18 (fun _ => nI 0)) := by
  refine ⟨h.1.1, h.1.2.1, ⟨fun j hj => ?_, ?_⟩, h.1.2.2.2.1, h.1.2.2.2.2.1, RLw_cg (S := S) (T := T) (fun i j hi _ => by rw [up_ne (by omega)]) rfl rfl (fun _ _ => rfl) h.1.2.2.2.2.2⟩
  · show upd (S 12) k (nI v) j = upd (T 5) k (nI v) j
    by_cases e : j = k
    · rw [e, pk_us, pk_us]
    · rw [pk_un e, pk_un e]; exact h.s4 j hj
  · obtain ⟨-, a, b, w, p, q0, q1, q2, q3⟩ := h.1.2.2.1
    show ∃ a b w p : Nat, (upd (S 12) k (nI v) 0 = nI a ∧ a ≤ 99) ∧ (upd (S 12) k (nI v) 1 = nI b ∧ b ≤ 99) ∧ (upd (S 12) k (nI v) 2 = nI w ∧ 1 ≤ w ∧ w ≤ 30) ∧ (upd (S 12) k (nI v) 3 = nI p ∧ 1 ≤ p ∧ p ≤ 30)
    rcases (show k = 0 ∨ k = 1 ∨ k = 2 ∨ k = 3 by omega) with e | e | e | e
    · subst e; exact ⟨v, b, w, p, ⟨rfl, by omega⟩, q1, q2, q3⟩
    · subst e; exact ⟨a, v, w, p, q0, ⟨rfl, by omega⟩, q2, q3⟩
    · subst e; exact ⟨a, b, v, p, q0, q1, ⟨rfl, by omega, by omega⟩, q3⟩
    · subst e; exact ⟨a, b, w, v, q0, q1, q2, ⟨rfl, by omega, by omega⟩⟩
theorem set_key2 (h : RR S T z) {k v : Nat} (hk : k < 4) (hv : (k < 2 ∧ v ≤ 99) ∨ (2 ≤ k ∧ 1 ≤ v ∧ v ≤ 30)) (h0 : ¬ k = 0) : RR (va_up S 12 (upd (S 12) k (nI v))) (va_up (va_up T 5 (upd (T 5) k (nI v))) 18 (fun _ => nI 0)) z :=
  ⟨set_key h hk hv, RT_f (S := S) (T := T) (fun r hr => up_ne (by omega)) (fun r hr => by rw [up_ne (by omega), up_ne (by omega)]) h.2.1, RN_f (S := S) (T := T) (fun r hr => up_ne (by omega)) (fun r hr => by rw [up_ne (by omega), up_ne (by omega)]) h.2.2.1, KC_f (S := S) (fun r hr => up_ne (by omega)) (by rw [up_eq, pk_un (fun q => h0 q.symm)]) h.2.2.2.1, Or.inl rfl⟩
theorem e_set (h : RR S T z) (wi v : Int32) : (p_set S wi v).1 = (m_set T wi v).1 ∧ RR (p_set S wi v).2 (m_set T wi v).2 z := by
  unfold p_set m_set
  by_cases c : f_in wi (nI 0) (nI 3) = 0
  · rw [if_pos c, if_pos c]; exact ⟨rfl, h⟩
  · rw [if_neg c, if_neg c]
    obtain ⟨w1, -, w2⟩ := f_in_t2 (by decide) (by decide) c
    have a4 := h.s4 (clN wi) (by omega)
    generalize clN wi = k at *
    subst w1
    rcases (show k = 0 ∨ k = 1 ∨ k = 2 ∨ k = 3 by omega) with e | e | e | e
    · subst e
      rw [if_neg (show ¬ nI 0 = nI 2 by decide), if_neg (show ¬ nI 0 = nI 3 by decide), if_neg (show ¬ nI 2 ≤ nI 0 by decide), if_neg (show ¬ nI 2 ≤ nI 0 by decide)]
      by_cases d : f_in v (nI 0) (nI 99) = 0
      · rw [if_pos d, if_pos d]; exact ⟨rfl, h⟩
      · rw [if_neg d, if_neg d, if_pos (show nI 0 = 0 by decide)]
        obtain ⟨v1, -, v2⟩ := f_in_t2 (by decide) (by decide) d
        generalize clN v = y at *
        subst v1
        dsimp only
        exact ⟨a4, RA_f (fun r hr => up_ne (by omega)) (fun _ _ => rfl) (set_key h (by omega) (Or.inl ⟨by omega, v2⟩)), RT_f (S := S) (T := T) (fun r hr => by rw [up_ne (by omega), up_ne (by omega)]) (fun r hr => by rw [up_ne (by omega), up_ne (by omega)]) h.2.1, RN_f (S := S) (T := T) (fun r hr => by rw [up_ne (by omega), up_ne (by omega)]) (fun r hr => by rw [up_ne (by omega), up_ne (by omega)]) h.2.2.1, KC_0 (S := S) rfl h.2.2.2.1, Or.inl rfl⟩
    · subst e
      rw [if_neg (show ¬ nI 1 = nI 2 by decide), if_neg (show ¬ nI 1 = nI 3 by decide), if_neg (show ¬ nI 2 ≤ nI 1 by decide), if_neg (show ¬ nI 2 ≤ nI 1 by decide)]
      by_cases d : f_in v (nI 0) (nI 99) = 0
      · rw [if_pos d, if_pos d]; exact ⟨rfl, h⟩
      · rw [if_neg d, if_neg d, if_neg (show ¬ nI 1 = 0 by decide)]
        obtain ⟨v1, -, v2⟩ := f_in_t2 (by decide) (by decide) d
        generalize clN v = y at *
        subst v1
        exact ⟨a4, set_key2 h (by omega) (Or.inl ⟨by omega, v2⟩) (by omega)⟩
    · subst e
      rw [if_pos (show nI 2 = nI 2 by decide), if_pos (show nI 2 ≤ nI 2 by decide), if_pos (show nI 2 ≤ nI 2 by decide)]
      by_cases d : f_in v (nI 1) (nI 30) = 0
      · rw [if_pos d, if_pos d]; exact ⟨rfl, h⟩
      · rw [if_neg d, if_neg d, if_neg (show ¬ nI 2 = 0 by decide)]
        obtain ⟨v1, v3, v2⟩ := f_in_t2 (by decide) (by decide) d
        generalize clN v = y at *
        subst v1
        exact ⟨a4, set_key2 h (by omega) (Or.inr ⟨by omega, v3, v2⟩) (by omega)⟩
    · subst e
      rw [if_neg (show ¬ nI 3 = nI 2 by decide), if_pos (show nI 3 = nI 3 by decide), if_pos (show nI 2 ≤ nI 3 by decide), if_pos (show nI 2 ≤ nI 3 by decide)]
      by_cases d : f_in v (nI 1) (nI 30) = 0
      · rw [if_pos d, if_pos d]; exact ⟨rfl, h⟩
      · rw [if_neg d, if_neg d, if_neg (show ¬ nI 3 = 0 by decide)]
        obtain ⟨v1, v3, v2⟩ := f_in_t2 (by decide) (by decide) d
        generalize clN v = y at *
        subst v1
        exact ⟨a4, set_key2 h (by omega) (Or.inr ⟨by omega, v3, v2⟩) (by omega)⟩
end EM
