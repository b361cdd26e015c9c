/-! ===== method by method: the needle ===== -/
section EO
variable {S T : St} {z : Nat → Nat}
theorem e_man (h : RR S T z) : (p_man S).1 = (m_man T).1 ∧ RR (p_man S).2 (m_man T).2 z := by
  have hm := h.2.2.1.men
  obtain ⟨⟨a1, a2, a3⟩, ⟨b1, b2, b3⟩, c, d, e⟩ := h.2.2.1
  unfold p_man m_man
  rw [hm]
  by_cases w : menN S < 8
  · rw [if_pos w, if_neg (show ¬ menN S = 8 by omega)]
    dsimp only
    have em : menN (va_up S 53 (fun _ => nI (menN S + 1))) = menN S + 1 := nI_clamp (by omega)
    have et : metN (va_up S 53 (fun _ => nI (menN S + 1))) = metN S := rfl
    refine ⟨rfl, RA_f (S := S) (T := T) (fun r hr => up_ne (by omega)) (fun r hr => by rw [up_ne (by omega), up_ne (by omega)]) h.1, RT_f (S := S) (T := T) (fun r hr => up_ne (by omega)) (fun r hr => by rw [up_ne (by omega), up_ne (by omega)]) h.2.1, ⟨⟨?_, ?_, ?_⟩, ⟨?_, ?_, ?_⟩, fun j hj => ?_, fun j hj hj2 => ?_, fun j hj => ?_⟩, KC_f (S := S) (fun r hr => up_ne (by omega)) rfl h.2.2.2.1, KM_f (T := T) (fun r hr => by rw [up_ne (by omega), up_ne (by omega)]) rfl h.2.2.2.2⟩
    · rw [em, up_eq]
    · rw [em]; omega
    · rw [up_eq, up_eq]
    · rw [et, up_ne (by decide)]; exact b1
    · rw [et]; exact b2
    · rw [up_ne (by decide), up_ne (by decide), up_ne (by decide)]; exact b3
    · rw [em] at hj
      rw [up_ne (show ¬ 34 = 53 by decide), up_ne (show ¬ 14 = 13 by decide), up_eq]
      by_cases q : j = menN S
      · rw [q, pk_us]; exact Or.inl ⟨d _ (by omega) (Nat.le_refl _), rfl⟩
      · rw [pk_un q]; exact c j (by omega)
    · rw [em] at hj2
      rw [up_ne (show ¬ 34 = 53 by decide)]
      exact d j hj (by omega)
    · rw [et] at hj
      rw [em, up_ne (show ¬ 35 = 53 by decide), up_ne (show ¬ 36 = 53 by decide), up_ne (show ¬ 16 = 13 by decide), up_ne (show ¬ 16 = 14 by decide), up_ne (show ¬ 17 = 13 by decide), up_ne (show ¬ 17 = 14 by decide)]
      obtain ⟨⟨m, q1, q2, q3⟩, q4⟩ := e j hj
      exact ⟨⟨m, by omega, q2, q3⟩, q4⟩
  · rw [if_neg w, if_pos (show menN S = 8 by omega)]; exact ⟨rfl, h⟩
theorem meet_key (h : RR S T z) {m d : Nat} (hm : m < menN S) (hd : d ≤ 99) (hk : metN S < 16) : RR (va_up (va_up (va_up S 35 (upd (S 35) (metN S) (nI m))) 36 (upd (S 36) (metN S) (nI d))) 54 (fun _ => nI (metN S + 1))) (va_up (va_up (va_up T 16 (upd (T 16) (metN S) (nI m))) 17 (upd (T 17) (metN S) (nI d))) 15 (fun _ => nI (metN S + 1))) z := by
  obtain ⟨⟨a1, a2, a3⟩, ⟨b1, b2, b3⟩, c, d0, e⟩ := h.2.2.1
  have em : menN (va_up (va_up (va_up S 35 (upd (S 35) (metN S) (nI m))) 36 (upd (S 36) (metN S) (nI d))) 54 (fun _ => nI (metN S + 1))) = menN S := rfl
  have et : metN (va_up (va_up (va_up S 35 (upd (S 35) (metN S) (nI m))) 36 (upd (S 36) (metN S) (nI d))) 54 (fun _ => nI (metN S + 1))) = metN S + 1 := nI_clamp (by omega)
  refine ⟨RA_f (S := S) (T := T) (fun r hr => by rw [up_ne (by omega), up_ne (by omega), up_ne (by omega)]) (fun r hr => by rw [up_ne (by omega), up_ne (by omega), up_ne (by omega)]) h.1, RT_f (S := S) (T := T) (fun r hr => by rw [up_ne (by omega), up_ne (by omega), up_ne (by omega)]) (fun r hr => by rw [up_ne (by omega), up_ne (by omega), up_ne (by omega)]) h.2.1, ⟨⟨?_, ?_, ?_⟩, ⟨?_, ?_, ?_⟩, fun j hj => ?_, fun j hj hj2 => ?_, fun j hj => ?_⟩, KC_f (S := S) (fun r hr => by rw [up_ne (by omega), up_ne (by omega), up_ne (by omega)]) rfl h.2.2.2.1, KM_f (T := T) (fun r hr => by rw [up_ne (by omega), up_ne (by omega), up_ne (by omega)]) rfl h.2.2.2.2⟩
  · rw [em, up_ne (by decide), up_ne (by decide), up_ne (by decide)]; exact a1
  · rw [em]; exact a2
  · rw [up_ne (show ¬ 53 = 54 by decide), up_ne (show ¬ 53 = 36 by decide), up_ne (show ¬ 53 = 35 by decide), up_ne (show ¬ 13 = 15 by decide), up_ne (show ¬ 13 = 17 by decide), up_ne (show ¬ 13 = 16 by decide)]; exact a3
  · rw [et, up_eq]
  · rw [et]; omega
  · rw [up_eq, up_eq]
  · rw [em] at hj
    rw [up_ne (show ¬ 34 = 54 by decide), up_ne (show ¬ 34 = 36 by decide), up_ne (show ¬ 34 = 35 by decide), up_ne (show ¬ 14 = 15 by decide), up_ne (show ¬ 14 = 17 by decide), up_ne (show ¬ 14 = 16 by decide)]
    exact c j hj
  · rw [em] at hj2
    rw [up_ne (show ¬ 34 = 54 by decide), up_ne (show ¬ 34 = 36 by decide), up_ne (show ¬ 34 = 35 by decide)]
    exact d0 j hj hj2
  · rw [et] at hj
    rw [em, up_ne (show ¬ 35 = 54 by decide), up_ne (show ¬ 35 = 36 by decide), up_eq, up_ne (show ¬ 36 = 54 by decide), up_eq, up_ne (show ¬ 16 = 15 by decide), up_ne (show ¬ 16 = 17 by decide), up_eq, up_ne (show ¬ 17 = 15 by decide), up_eq]
    by_cases q : j = metN S
    · rw [q, pk_us, pk_us, pk_us, pk_us]
      exact ⟨⟨m, hm, rfl, rfl⟩, d, hd, rfl, rfl⟩
    · rw [pk_un q, pk_un q, pk_un q, pk_un q]
      exact e j (by omega)
theorem e_meet (h : RR S T z) (mn dy : Int32) : (p_meet S mn dy).1 = (m_meet T mn dy).1 ∧ RR (p_meet S mn dy).2 (m_meet T mn dy).2 z := by
  have hmt := h.2.2.1.met
  have h16 := h.2.2.1.2.1.2.1
  unfold p_meet m_meet
  rw [hmt]
  by_cases c : haM S mn = 0
  · rw [if_pos c, if_pos (h.hm.mp c)]; exact ⟨rfl, h⟩
  · rw [if_neg c, if_neg (fun q => c (h.hm.mpr q))]
    obtain ⟨m1, m2⟩ := h.mt c
    have fin : ∀ x, (∃ y, y ≤ 99 ∧ x = nI y) → ¬ f_in dy x (nI 99) = 0 → metN S < 16 → RR (va_up (va_up (va_up S 35 (upd (S 35) (metN S) mn)) 36 (upd (S 36) (metN S) dy)) 54 (fun _ => nI (metN S + 1))) (va_up (va_up (va_up T 16 (upd (T 16) (metN S) mn)) 17 (upd (T 17) (metN S) dy)) 15 (fun _ => nI (metN S + 1))) z := by
      intro x hx hf hk
      obtain ⟨y, hy, rfl⟩ := hx
      obtain ⟨d1, -, d2⟩ := f_in_t2 (by omega) (by decide) hf
      have := meet_key h m2 d2 hk
      rw [← m1, ← d1] at this
      exact this
    by_cases k : metN S = 0
    · rw [if_pos k, if_pos k]
      by_cases d : f_in dy (nI 0) (nI 99) = 0
      · rw [if_pos d, if_pos d]; exact ⟨rfl, h⟩
      · rw [if_neg d, if_neg d, if_pos (show metN S < 16 by omega), if_neg (show ¬ metN S = 16 by omega)]
        exact ⟨rfl, fin (nI 0) ⟨0, by omega, rfl⟩ d (by omega)⟩
    · rw [if_neg k, if_neg k]
      obtain ⟨-, y, hy, y1, y2⟩ := h.2.2.1.2.2.2.2 (metN S - 1) (by omega)
      rw [y1, y2]
      by_cases d : f_in dy (nI y) (nI 99) = 0
      · rw [if_pos d, if_pos d]; exact ⟨rfl, h⟩
      · rw [if_neg d, if_neg d]
        by_cases w : metN S < 16
        · rw [if_pos w, if_neg (show ¬ metN S = 16 by omega)]
          exact ⟨rfl, fin (nI y) ⟨y, hy, rfl⟩ d w⟩
        · rw [if_neg w, if_pos (show metN S = 16 by omega)]; exact ⟨rfl, h⟩
theorem sick_key (h : RR S T z) {k : Nat} {x y : Int32} (hk : k < menN S) (hxy : (x = (-1) ∧ y = (-6)) ∨ ∃ d, d ≤ 99 ∧ x = nI d ∧ y = nI d) : RR (va_up S 34 (upd (S 34) k x)) (va_up T 14 (upd (T 14) k y)) z := by
  obtain ⟨⟨a1, a2, a3⟩, ⟨b1, b2, b3⟩, c, d0, e⟩ := h.2.2.1
  have em : menN (va_up S 34 (upd (S 34) k x)) = menN S := rfl
  have et : metN (va_up S 34 (upd (S 34) k x)) = metN S := rfl
  refine ⟨RA_f (S := S) (T := T) (fun r hr => up_ne (by omega)) (fun r hr => up_ne (by omega)) h.1, RT_f (S := S) (T := T) (fun r hr => up_ne (by omega)) (fun r hr => up_ne (by omega)) h.2.1, ⟨⟨?_, ?_, ?_⟩, ⟨?_, ?_, ?_⟩, fun j hj => ?_, fun j hj hj2 => ?_, fun j hj => ?_⟩, KC_f (S := S) (fun r hr => up_ne (by omega)) rfl h.2.2.2.1, KM_f (T := T) (fun r hr => up_ne (by omega)) rfl h.2.2.2.2⟩
  · rw [em, up_ne (by decide)]; exact a1
  · rw [em]; exact a2
  · rw [up_ne (show ¬ 53 = 34 by decide), up_ne (show ¬ 13 = 14 by decide)]; exact a3
  · rw [et, up_ne (by decide)]; exact b1
  · rw [et]; exact b2
  · rw [up_ne (show ¬ 54 = 34 by decide), up_ne (show ¬ 15 = 14 by decide)]; exact b3
  · rw [em] at hj
    rw [up_eq, up_eq]
    by_cases q : j = k
    · rw [q, pk_us, pk_us]; exact hxy
    · rw [pk_un q, pk_un q]; exact c j hj
  · rw [em] at hj2
    rw [up_eq, pk_un (by omega)]
    exact d0 j hj hj2
  · rw [et] at hj
    rw [em, up_ne (show ¬ 35 = 34 by decide), up_ne (show ¬ 36 = 34 by decide), up_ne (show ¬ 16 = 14 by decide), up_ne (show ¬ 17 = 14 by decide)]
    exact e j hj
theorem e_sick (h : RR S T z) (mn dy : Int32) : (p_sick S mn dy).1 = (m_sick T mn dy).1 ∧ RR (p_sick S mn dy).2 (m_sick T mn dy).2 z := by
  unfold p_sick m_sick
  by_cases c : haM S mn = 0
  · rw [if_pos c, if_pos (h.hm.mp c)]; exact ⟨rfl, h⟩
  · rw [if_neg c, if_neg (fun q => c (h.hm.mpr q))]
    obtain ⟨m1, m2⟩ := h.mt c
    by_cases d : f_in dy (-1) (nI 99) = 0
    · rw [if_pos d, if_pos d]; exact ⟨rfl, h⟩
    · rw [if_neg d, if_neg d]
      obtain ⟨d1, d2⟩ := f_in_ne.mp d
      have hxy : ∀ y : Int32, ((0 ≤ dy ∧ y = dy) ∨ (¬ 0 ≤ dy ∧ y = (-6))) → (dy = (-1) ∧ y = (-6)) ∨ ∃ d, d ≤ 99 ∧ dy = nI d ∧ y = nI d := by
        intro y hy
        rcases hy with ⟨p1, p2⟩ | ⟨p1, p2⟩
        · obtain ⟨e1, -, e2⟩ := f_in_t2 (v := dy) (a := 0) (b := 99) (by decide) (by decide) (f_in_ne.mpr ⟨p1, d2⟩)
          exact Or.inr ⟨clN dy, e2, e1, by rw [p2]; exact e1⟩
        · left
          refine ⟨?_, p2⟩
          apply Int32.toInt_inj.mp
          have t1 := Int32.le_iff_toInt_le.mp d1
          have t2 := Int32.lt_iff_toInt_lt.mp (Int32.not_le.mp p1)
          have t3 : (-1 : Int32).toInt = -1 := rfl
          have t4 : (0 : Int32).toInt = 0 := rfl
          omega
      have ha : (if S 34 (clN mn) = (-1) then (-6) else S 34 (clN mn)) = T 14 (clN mn) := by
        rcases h.2.2.1.2.2.1 _ m2 with ⟨e1, e2⟩ | ⟨x, hx, e1, e2⟩
        · rw [if_pos e1, e2]
        · rw [if_neg (by rw [e1]; exact nI_nm1 (by omega)), e1, e2]
      have key : ∀ y : Int32, ((0 ≤ dy ∧ y = dy) ∨ (¬ 0 ≤ dy ∧ y = (-6))) → (if S 34 (clN mn) = (-1) then ((-6), (va_up S 34 (upd (S 34) (clN mn) dy))) else (S 34 (clN mn), (va_up S 34 (upd (S 34) (clN mn) dy)))).1 = T 14 (clN mn) ∧ RR (if S 34 (clN mn) = (-1) then ((-6), (va_up S 34 (upd (S 34) (clN mn) dy))) else (S 34 (clN mn), (va_up S 34 (upd (S 34) (clN mn) dy)))).2 (va_up T 14 (upd (T 14) (clN mn) y)) z := by
        intro y hy
        by_cases q : S 34 (clN mn) = (-1)
        · rw [if_pos q] at ha
          rw [if_pos q]
          exact ⟨ha, sick_key h m2 (hxy y hy)⟩
        · rw [if_neg q] at ha
          rw [if_neg q]
          exact ⟨ha, sick_key h m2 (hxy y hy)⟩
      by_cases p0 : 0 ≤ dy
      · rw [if_pos p0]; exact key dy (Or.inl ⟨p0, rfl⟩)
      · rw [if_neg p0]; exact key (-6) (Or.inr ⟨p0, rfl⟩)
theorem e_from (h : RR S T z) (mn : Int32) : (p_from S mn).1 = (m_from T mn).1 ∧ RR (p_from S mn).2 (m_from T mn).2 z := by
  unfold p_from m_from
  by_cases c : haM S mn = 0
  · rw [if_pos c, if_pos (h.hm.mp c)]; exact ⟨rfl, h⟩
  · rw [if_neg c, if_neg (fun q => c (h.hm.mpr q))]
    exact ⟨h.2.2.1.gve h.rd (h.mt c).2, h⟩
theorem RR.tra (h : RR S T z) (a b : Int32) : RR (traS S a b) T z := by
  refine RR_f (S := S) (T := T) (fun r hr => ?_) (fun _ _ => rfl) h
  unfold traS
  rw [up_ne (by omega), up_ne (by omega)]
theorem e_firsts (h : RR S T z) (wh : Int32) : (p_firsts S wh).1 = (m_firsts T wh).1 ∧ RR (p_firsts S wh).2 (m_firsts T wh).2 z := by
  unfold p_firsts m_firsts
  by_cases c : f_in wh (nI 0) (nI 1) = 0
  · rw [if_pos c, if_pos c]; exact ⟨rfl, h⟩
  · rw [if_neg c, if_neg c]
    obtain ⟨w1, -, w2⟩ := f_in_t2 (by decide) (by decide) c
    by_cases k : wh = nI 1
    · rw [if_pos k, if_neg (by rw [k]; decide)]; exact ⟨h.2.2.1.sck, h⟩
    · have k0 : wh = 0 := by
        rcases (show clN wh = 0 ∨ clN wh = 1 by omega) with e | e
        · rw [e] at w1; exact w1
        · rw [e] at w1; exact absurd w1 k
      rw [if_neg k, if_pos k0]
      exact ⟨h.2.2.1.fst h.rd, h.tra _ _⟩
theorem e_must (h : RR S T z) (mn wh : Int32) : (p_must S mn wh).1 = m_must T mn wh ∧ RR (p_must S mn wh).2 T z := by
  unfold p_must m_must
  obtain ⟨u1, u2⟩ := h.2.2.1.must h.rd (clN mn)
  by_cases c : haM S mn = 0
  · rw [if_pos c, if_pos (h.hm.mp c)]; exact ⟨rfl, h⟩
  · rw [if_neg c, if_neg (fun q => c (h.hm.mpr q))]
    by_cases d : f_in wh (nI 0) (nI 1) = 0
    · rw [if_pos d, if_pos d]; exact ⟨rfl, h⟩
    · rw [if_neg d, if_neg d]
      by_cases w : wh = 0
      · rw [if_pos w, if_pos w]; exact ⟨u1, h.tra _ _⟩
      · rw [if_neg w, if_neg w]; exact ⟨by rw [u2], h.tra _ _⟩
/-! ===== method by method: the trees ===== -/
theorem RR.tv (h : RR S T z) : TvOk (mpcN T) (mtr T) (mtA S) (trA S) (S 12 0) := by
  intro p hp
  have h6 := h.okMP.2
  obtain ⟨b1, b2⟩ := h.okMB
  obtain ⟨d0, a, b, w, q, ⟨d1, d2⟩, -⟩ := h.rd
  have e5 : T 5 0 = nI a := by rw [← d0 0 (by omega)]; exact d1
  have hpS := h.1.2.1 p (by rw [h.n]; exact hp)
  refine ⟨⟨by rw [mtr_6]; exact b2, by rw [mtr_6, ← b1, d0 0 (by omega)]⟩, fun x hx => ?_⟩
  have em : mtr T p x = if mtB T p x then cstN (slN (T 9) (rulN T)) (T 1 x) (T 1 p) 8 else 100000000 := by
    unfold mtr
    rw [if_neg (show ¬ x = 6 by omega)]
  by_cases hxn : x < mpcN T
  · have hxS := h.1.2.1 x (by rw [h.n]; exact hxn)
    have eB : mtB T p x = mtA S x p := by
      unfold mtB mtA
      rw [decide_eq_true hxn, hxS.1.2.1, hpS.1.2.2]
      by_cases e : x = p
      · simp [e]
      · simp [e]
    have hc := cst_nat (sl := slm T) (sn := slN (T 9) (rulN T)) (fun a b ha hb => slM_nat h.okMV ha hb) (T 1 x) (T 1 p) 8
    cases hm : mtA S x p with
    | true =>
      left
      rw [em, eB, hm, if_pos rfl]
      refine ⟨hxn, rfl, by have := hc.2; omega, ?_⟩
      unfold trA
      rw [hxS.1.1, hpS.1.1, costF_cg h.sl]
      exact hc.1
    | false =>
      right
      rw [em, eB, hm, if_neg (by decide)]
      exact ⟨fun q => absurd q.2 (by decide), Nat.le_refl _⟩
  · right
    have eB : mtB T p x = false := by
      unfold mtB
      rw [decide_eq_false hxn]
      rfl
    rw [em, eB, if_neg (by decide)]
    exact ⟨fun q => hxn q.1, Nat.le_refl _⟩
theorem RR.cap (h : RR S T z) : (tA S).length ≤ mst (picN S) := gL_cap h.okP.2 _ _
theorem RR.lr {S' : St} {z' : Nat → Nat} (h : RR S T z) (hl : LR S S' z') : RR S' T z' := by
  obtain ⟨l1, l2, l3, l4, l5, l6⟩ := hl
  exact ⟨RA_f (S := S) (T := T) (fun r hr => l1 r (by omega)) (fun _ _ => rfl) h.1, RT_f (S := S) (T := T) (fun r hr => l1 r (by omega)) (fun _ _ => rfl) h.2.1, RN_f (S := S) (T := T) (fun r hr => l1 r (by omega)) (fun _ _ => rfl) h.2.2.1, ⟨l4, l5, Or.inr ⟨l2, l3, l6⟩⟩, h.2.2.2.2⟩
theorem RR.lq {T' : St} (h : RR S T z) (hl : LQ T T') : RR S T' z := by
  rcases hl with e | ⟨l1, l2, l3⟩
  · rw [e]; exact h
  · exact ⟨RA_f (S := S) (T := T) (fun _ _ => rfl) (fun r hr => l1 r (by omega)) h.1, RT_f (S := S) (T := T) (fun _ _ => rfl) (fun r hr => l1 r (by omega)) h.2.1, RN_f (S := S) (T := T) (fun _ _ => rfl) (fun r hr => l1 r (by omega)) h.2.2.1, h.2.2.2.1, Or.inr ⟨l2, l3⟩⟩
theorem t_least {S' T' : St} {z' : Nat → Nat} {wh r : Int32} (h : RR S T z) (hl : lrn S S' z z' (e_least S wh) (c_least S wh) r (r_least S' wh)) (hq : LQ T T') : r = m_least T wh ∧ RR S' T' z' := by
  rcases hl with ⟨c, e1, e2, e3⟩ | ⟨c, e1, e3⟩
  · refine ⟨?_, by rw [e1, e2]; exact h.lq hq⟩
    rw [e3]
    unfold e_least m_least c_least at *
    rw [← h.n]
    by_cases d : f_in wh (nI 0) (nI 2) = 0
    · rw [if_pos d, if_pos d]
    · rw [if_neg d, if_neg d, if_pos (Decidable.byContradiction (fun q => c ⟨d, q⟩))]
  · have h' := h.lr e1
    refine ⟨?_, h'.lq hq⟩
    obtain ⟨c1, c2⟩ := c
    have em : m_least T wh = if wh = nI 0 then nI (mlc T) else if wh = nI 1 then nI (lmF (mtr T) (mpcN T) (mN T)) else nI (mtn (mtr T) (mpcN T) (mN T)) := by
      unfold m_least
      rw [if_neg c1, if_neg (by rw [← h.n]; exact c2)]
    rw [e3, eq_least (n := mpcN T) (tv := mtr T) h'.n h.okMP.2 h'.tv e1.2.2.1, em]
    rfl
theorem t_kept {S' T' : St} {z' : Nat → Nat} {mo ix pi r : Int32} (h : RR S T z) (hl : lrn S S' z z' (e_kept S mo ix pi) (c_kept S mo ix pi) r (r_kept S' mo ix pi)) (hq : LQ T T') : r = m_kept T mo ix pi ∧ RR S' T' z' := by
  rcases hl with ⟨c, e1, e2, e3⟩ | ⟨c, e1, e3⟩
  · refine ⟨?_, by rw [e1, e2]; exact h.lq hq⟩
    rw [e3]
    unfold e_kept m_kept c_kept at *
    rw [← h.n]
    by_cases d : ¬ ix = (-1) ∧ ¬ pi = nI 9 ∧ haP S pi = 0
    · rw [if_pos d, if_pos ⟨d.1, d.2.1, h.hp.mp d.2.2⟩]
    · have d' : ¬ (¬ ix = (-1) ∧ ¬ pi = nI 9 ∧ haMP T pi = 0) := fun q => d ⟨q.1, q.2.1, h.hp.mpr q.2.2⟩
      rw [if_neg d, if_neg d']
      by_cases d2 : f_in mo (nI 0) (nI 99) = 0
      · rw [if_pos d2, if_pos d2]
      · rw [if_neg d2, if_neg d2, if_pos (Decidable.byContradiction (fun q => c ⟨d, d2, q⟩))]
  · have h' := h.lr e1
    refine ⟨?_, h'.lq hq⟩
    obtain ⟨c1, c2, c3⟩ := c
    obtain ⟨m1, -, m2⟩ := f_in_t2 (by decide) (by decide) c2
    have hpi : ¬ ix = (-1) → ¬ pi = nI 9 → clN pi < mpcN T := fun a1 a2 => by
      have hh : ¬ haP S pi = 0 := fun q => c1 ⟨a1, a2, q⟩
      rw [← h.n]
      exact (hap_t h.okP hh).2
    have key := eq_kept (n := mpcN T) (mo := clN mo) (tv := mtr T) h'.n h.okMP.2 h'.tv e1.2.2.1 m2 ix pi hpi
    rw [← m1] at key
    have em : m_kept T mo ix pi = if mkI T (clN mo) ix = 0 then (if ix = (-1) then nI (cntB (kmB T (clN mo)) (mN T)) else (-6)) else mkR T (mkI T (clN mo) ix - 1) pi := by
      unfold m_kept
      rw [if_neg (fun q => c1 ⟨q.1, q.2.1, h.hp.mpr q.2.2⟩), if_neg c2, if_neg (by rw [← h.n]; exact c3)]
    rw [e3, key, em]
    rfl
theorem suF_eq {mo : Nat} {pi : Int32} : ∀ N, suF T mo pi N = suQ (mtr T) (mpcN T) mo pi N
  | 0 => rfl
  | N + 1 => by
    have ih := suF_eq (mo := mo) (pi := pi) N
    show (if kmB T mo N then inF (dgt (mpcN T) N) (soI pi) (suF T mo pi N) (mpcN T) else suF T mo pi N) = (if kpQ (mtr T) (mpcN T) mo N then inF (dgt (mpcN T) N) (soI pi) (suQ (mtr T) (mpcN T) mo pi N) (mpcN T) else suQ (mtr T) (mpcN T) mo pi N)
    rw [ih]
    rfl
theorem t_sure {S' T' : St} {z' : Nat → Nat} {mo pi r : Int32} (h : RR S T z) (hl : lrn S S' z z' (e_sure S mo pi) (c_sure S mo pi) r (r_sure S' mo pi)) (hq : LQ T T') : r = m_sure T mo pi ∧ RR S' T' z' := by
  rcases hl with ⟨c, e1, e2, e3⟩ | ⟨c, e1, e3⟩
  · refine ⟨?_, by rw [e1, e2]; exact h.lq hq⟩
    rw [e3]
    unfold e_sure m_sure c_sure at *
    rw [← h.n]
    by_cases d : ¬ pi = nI 9 ∧ haP S pi = 0
    · rw [if_pos d, if_pos ⟨d.1, h.hp.mp d.2⟩]
    · have d' : ¬ (¬ pi = nI 9 ∧ haMP T pi = 0) := fun q => d ⟨q.1, h.hp.mpr q.2⟩
      rw [if_neg d, if_neg d']
      by_cases d2 : f_in mo (nI 0) (nI 99) = 0
      · rw [if_pos d2, if_pos d2]
      · rw [if_neg d2, if_neg d2, if_pos (Decidable.byContradiction (fun q => c ⟨d, d2, q⟩))]
  · have h' := h.lr e1
    refine ⟨?_, h'.lq hq⟩
    obtain ⟨c1, c2, c3⟩ := c
    obtain ⟨m1, -, m2⟩ := f_in_t2 (by decide) (by decide) c2
    have hpi : pi = nI 9 ∨ ∃ j, j < mpcN T ∧ pi = nI j := by
      by_cases q : pi = nI 9
      · exact Or.inl q
      · have hh : ¬ haP S pi = 0 := fun w => c1 ⟨q, w⟩
        obtain ⟨p1, p2⟩ := hap_t h.okP hh
        exact Or.inr ⟨clN pi, by rw [← h.n]; exact p2, p1⟩
    have key := eq_sure (n := mpcN T) (mo := clN mo) (tv := mtr T) h'.n h.okMP.2 h'.tv e1.2.2.1 m2 pi hpi
    rw [← m1] at key
    have em : m_sure T mo pi = suF T (clN mo) pi (mN T) := by
      unfold m_sure
      rw [if_neg (fun q => c1 ⟨q.1, h.hp.mpr q.2⟩), if_neg c2, if_neg (by rw [← h.n]; exact c3)]
    rw [e3, key, em, suF_eq]
    rfl
end EO
