/-! ===== what is asked of the trees: the list against the codes ===== -/
theorem cnt_tr {V P Q : Nat → Bool} {M : Nat} (h1 : ∀ c, c < M → V c = true → P (cntB V c) = Q c) (h2 : ∀ c, c < M → V c = false → Q c = false) : ∀ N, N ≤ M → cntB P (cntB V N) = cntB Q N
  | 0, _ => rfl
  | N + 1, hN => by
    have ih := cnt_tr h1 h2 N (by omega)
    cases hv : V N with
    | true =>
      rw [cntB_s hv]
      have e := h1 N (by omega) hv
      cases hq : Q N with
      | true => rw [hq] at e; rw [cntB_s e, cntB_s hq, ih]
      | false => rw [hq] at e; rw [cntB_f e, cntB_f hq, ih]
    | false => rw [cntB_f hv, ih, cntB_f (h2 N (by omega) hv)]
theorem fst_tr {V P Q : Nat → Bool} {M : Nat} (h1 : ∀ c, c < M → V c = true → P (cntB V c) = Q c) (h2 : ∀ c, c < M → V c = false → Q c = false) : ∀ N, N ≤ M → (fstF P (cntB V N) = 0 ∧ fstF Q N = 0) ∨ ∃ c, c < N ∧ V c = true ∧ fstF Q N = c + 1 ∧ fstF P (cntB V N) = cntB V c + 1
  | 0, _ => Or.inl ⟨rfl, rfl⟩
  | N + 1, hN => by
    have ih := fst_tr h1 h2 N (by omega)
    cases hv : V N with
    | true =>
      rw [cntB_s hv]
      have e := h1 N (by omega) hv
      rcases ih with ⟨i1, i2⟩ | ⟨c, i1, i2, i3, i4⟩
      · cases hq : Q N with
        | true => rw [hq] at e; exact Or.inr ⟨N, by omega, hv, fstF_hit i2 hq, fstF_hit i1 e⟩
        | false => rw [hq] at e; exact Or.inl ⟨fstF_go i1 e, fstF_go i2 hq⟩
      · exact Or.inr ⟨c, by omega, i2, by rw [fstF_stay (h := Q) (n := N) (by omega) (N + 1) (by omega)]; exact i3, by rw [fstF_stay (h := P) (n := cntB V N) (by omega) (cntB V N + 1) (by omega)]; exact i4⟩
    | false =>
      rw [cntB_f hv]
      have hq := h2 N (by omega) hv
      rcases ih with ⟨i1, i2⟩ | ⟨c, i1, i2, i3, i4⟩
      · exact Or.inl ⟨i1, fstF_go i2 hq⟩
      · exact Or.inr ⟨c, by omega, i2, by rw [fstF_stay (h := Q) (n := N) (by omega) (N + 1) (by omega)]; exact i3, i4⟩
theorem lcF_min {tv : Nat → Nat → Nat} {n : Nat} : ∀ N c, c < N → lcF tv n N ≤ lrN tv n c
  | 0, c, h => absurd h (Nat.not_lt_zero _)
  | N + 1, c, h => by
    show (if lrN tv n N < lcF tv n N then lrN tv n N else lcF tv n N) ≤ _
    by_cases e : c = N
    · subst e
      split <;> omega
    · have := lcF_min (tv := tv) (n := n) N c (by omega)
      split <;> omega
theorem vC_f {tv : Nat → Nat → Nat} {n c : Nat} (h : vC tv n c = false) : 100000000 ≤ lrN tv n c := Nat.le_of_not_lt (of_decide_eq_false h)
theorem vC_t {tv : Nat → Nat → Nat} {n c : Nat} (h : vC tv n c = true) : lrN tv n c < 100000000 := of_decide_eq_true h
theorem lcF_f {tv : Nat → Nat → Nat} {n N : Nat} (h : vC tv n N = false) : lcF tv n (N + 1) = lcF tv n N := by
  have h1 := vC_f h
  have h2 := lcF_le tv n N
  exact if_neg (by omega)
theorem lcF_none {tv : Nat → Nat → Nat} {n : Nat} : ∀ N, cntB (vC tv n) N = 0 → lcF tv n N = 100000000
  | 0, _ => rfl
  | N + 1, h => by
    cases hv : vC tv n N with
    | true => rw [cntB_s hv] at h; omega
    | false => rw [cntB_f hv] at h; rw [lcF_f hv]; exact lcF_none N h
theorem mn_lc {tv : Nat → Nat → Nat} {n : Nat} {f : Nat → Int32} {M : Nat} (hf : ∀ c, c < M → vC tv n c = true → f (cntB (vC tv n) c) = nI (lrN tv n c)) : ∀ N, N ≤ M → 1 ≤ cntB (vC tv n) N → mnF f (cntB (vC tv n) N - 1) = nI (lcF tv n N)
  | 0, _, h => absurd (show 1 ≤ 0 from h) (by decide)
  | N + 1, hN, h => by
    cases hv : vC tv n N with
    | true =>
      have e := hf N (by omega) hv
      have hl := vC_t hv
      have hlc : lcF tv n (N + 1) = if lrN tv n N < lcF tv n N then lrN tv n N else lcF tv n N := rfl
      rw [cntB_s hv, Nat.add_sub_cancel]
      cases hr : cntB (vC tv n) N with
      | zero =>
        rw [hr] at e
        show f 0 = _
        rw [e, hlc, lcF_none N hr, if_pos hl]
      | succ r =>
        have ih := mn_lc hf N (by omega) (by omega)
        rw [hr, Nat.add_sub_cancel] at ih
        rw [hr] at e
        have h9 := lcF_le tv n N
        show (if f (r + 1) < mnF f r then f (r + 1) else mnF f r) = _
        rw [e, ih, hlc]
        by_cases q : lrN tv n N < lcF tv n N
        · rw [if_pos q, if_pos (nI_lt q (by omega))]
        · rw [if_neg q, if_neg (nI_nlt (by omega) (by omega))]
    | false =>
      rw [cntB_f hv] at h ⊢
      rw [lcF_f hv]
      exact mn_lc hf N (by omega) h
theorem lm_cnt {tv : Nat → Nat → Nat} {n : Nat} : ∀ N, lmF tv n N = cntB (fun c => vC tv n c && decide (lrN tv n c ≤ lcF tv n N)) N
  | 0 => rfl
  | N + 1 => by
    have ih := lm_cnt (tv := tv) (n := n) N
    have hlm : lmF tv n (N + 1) = if lrN tv n N < 100000000 then (if lrN tv n N < lcF tv n N then 1 else if lrN tv n N = lcF tv n N then lmF tv n N + 1 else lmF tv n N) else lmF tv n N := rfl
    cases hv : vC tv n N with
    | false =>
      have h1 := vC_f hv
      rw [hlm, if_neg (by omega), lcF_f hv, ih]
      exact (cntB_f (P := fun c => vC tv n c && decide (lrN tv n c ≤ lcF tv n N)) (by rw [hv]; rfl)).symm
    | true =>
      have hl := vC_t hv
      have hlc : lcF tv n (N + 1) = if lrN tv n N < lcF tv n N then lrN tv n N else lcF tv n N := rfl
      rw [hlm, if_pos hl]
      by_cases q : lrN tv n N < lcF tv n N
      · rw [if_pos q, hlc, if_pos q]
        have h0 : cntB (fun c => vC tv n c && decide (lrN tv n c ≤ lrN tv n N)) N = 0 := by
          have h2 := cntB_mono (P := fun c => vC tv n c && decide (lrN tv n c ≤ lrN tv n N)) (R := fun _ => false) N (fun c hc hh => by
            have h3 := lcF_min (tv := tv) (n := n) N c hc
            have h4 : lrN tv n c ≤ lrN tv n N := by
              simp only [Bool.and_eq_true, decide_eq_true_eq] at hh
              exact hh.2
            omega)
          have h5 : ∀ n, cntB (fun _ => false) n = 0 := by
            intro n
            induction n with
            | zero => rfl
            | succ n ih => exact (cntB_f (P := fun _ => false) rfl).trans ih
          rw [h5] at h2
          omega
        rw [cntB_s (P := fun c => vC tv n c && decide (lrN tv n c ≤ lrN tv n N)) (by rw [hv, decide_eq_true (Nat.le_refl _)]; rfl), h0]
      · rw [if_neg q, hlc, if_neg q]
        by_cases w : lrN tv n N = lcF tv n N
        · rw [if_pos w, ih, cntB_s (P := fun c => vC tv n c && decide (lrN tv n c ≤ lcF tv n N)) (by rw [hv, decide_eq_true (by omega)]; rfl)]
        · rw [if_neg w, ih, cntB_f (P := fun c => vC tv n c && decide (lrN tv n c ≤ lcF tv n N)) (by rw [hv, decide_eq_false (by omega)]; rfl)]
theorem lr_small {n c : Nat} {tv : Nat → Nat → Nat} {mt : Nat → Nat → Bool} {tr : Nat → Nat → Int32} {nw : Int32} (hn : n ≤ 6) (hT : TvOk n tv mt tr nw) (hv : vC tv n c = true) : lrN tv n c ≤ 59994 := by
  have h := vC_t hv
  have hs : ¬ 100000000 ≤ smF tv n c n := fun q => by
    unfold lrN at h
    rw [if_pos q] at h
    omega
  have hle : lrN tv n c ≤ smF tv n c n := by
    unfold lrN at h ⊢
    rw [if_neg hs] at h ⊢
    split
    · exact Nat.le_refl _
    · rename_i q; rw [if_neg q] at h; omega
  refine Nat.le_trans hle ?_
  rw [smF_eq]
  refine Nat.le_trans (smP_le n c (fun i hi => ?_)) (by omega)
  have h1 := smF_ge (tv := tv) (n := n) (cd := c) n (n - (i + 1)) (by omega)
  rw [show n - (n - (i + 1) + 1) = i by omega] at h1
  have h2 : tv i (dgt n c i) ≤ smF tv n c n := h1
  have h7 : dgt n c i < 7 := Nat.mod_lt _ (by decide)
  obtain ⟨⟨q6, _⟩, qx⟩ := hT i hi
  by_cases e : dgt n c i = 6
  · rw [e]; exact q6
  · rcases qx (dgt n c i) (by omega) with q | q
    · exact q.2.2.1
    · omega
/-! ===== bits of the rows ===== -/
theorem b_z (i : Nat) : bt (nI 0) i = false := b_0 i
theorem b_one {n i : Nat} (hn : n < 32) (hi : i < 32) : bt (nI 1 <<< (nI n &&& 31)) i = decide (i = n) := by
  rw [b_shl n hn _ hi, b_1 _ (by omega)]
  by_cases e : i = n
  · rw [decide_eq_true e, decide_eq_true (by omega), decide_eq_true (by omega)]; rfl
  · rw [decide_eq_false e]
    rcases Nat.lt_or_ge i n with q | q
    · rw [decide_eq_false (by omega)]; rfl
    · rw [decide_eq_false (show ¬ i - n = 0 by omega)]; simp
theorem orB_bt (q : Nat → Bool) {i : Nat} (hi : i < 32) : ∀ n, n ≤ 32 → bt (orB q n) i = (decide (i < n) && q i)
  | 0, _ => by
    rw [decide_eq_false (Nat.not_lt_zero _)]
    exact b_z i
  | n + 1, hn => by
    have ih := orB_bt q hi n (by omega)
    show bt (if q n then orB q n ||| (nI 1 <<< (nI n &&& 31)) else orB q n) i = _
    cases h : q n with
    | true =>
      rw [if_pos rfl, b_or, ih, b_one (by omega) hi]
      by_cases e : i = n
      · subst e
        rw [h]
        simp
      · rw [decide_eq_false e, Bool.or_false]
        by_cases w : i < n
        · rw [decide_eq_true w, decide_eq_true (by omega)]
        · rw [decide_eq_false w, decide_eq_false (by omega)]
    | false =>
      rw [if_neg (by decide), ih]
      by_cases e : i = n
      · subst e
        rw [h]
        simp
      · by_cases w : i < n
        · rw [decide_eq_true w, decide_eq_true (by omega)]
        · rw [decide_eq_false w, decide_eq_false (by omega)]
theorem k9_lt {d : Nat} (h : d < 7) : k9 d < 10 := by unfold k9; split <;> omega
theorem b_n9 : ∀ d, d < 10 → ∀ i, i < 32 → 4 ≤ i → bt (nI d) i = false := by decide +kernel
theorem b_15 : ∀ i, i < 32 → bt (nI 15) i = decide (i < 4) := by decide +kernel
theorem b_63 : ∀ i, i < 6 → bt (nI 63) i = true := by decide +kernel
theorem b_lo : ∀ n, n ≤ 6 → ∀ i, i < 32 → bt ((nI 1 <<< (nI n &&& 31)) - nI 1) i = decide (i < n) := by decide +kernel
theorem rowC_bt : ∀ p b, p ≤ 6 → ∀ i, i < 32 → bt (rowC p b) i = (decide (i < 4 * p) && bt (nI (k9 (dgt p b (i / 4)))) (i % 4))
  | 0, b, _, i, _ => by
    rw [decide_eq_false (by omega)]
    exact b_z i
  | p + 1, b, hp, i, hi => by
    have ih := rowC_bt p (b / 7) (by omega) i hi
    show bt (rowC p (b / 7) ||| (nI (k9 (b % 7)) <<< (nI (4 * p) &&& 31))) i = _
    rw [b_or, ih, b_shl (4 * p) (by omega) _ hi]
    by_cases w : i < 4 * p
    · rw [decide_eq_true w, decide_eq_false (show ¬ 4 * p ≤ i by omega), decide_eq_true (show i < 4 * (p + 1) by omega), dgt_s (by omega)]
      simp
    · rw [decide_eq_false w, decide_eq_true (show 4 * p ≤ i by omega)]
      by_cases v : i < 4 * (p + 1)
      · rw [decide_eq_true v, show i / 4 = p by omega, dgt_last, show i % 4 = i - 4 * p by omega]
        simp
      · rw [decide_eq_false v, b_n9 _ (k9_lt (Nat.mod_lt _ (by decide))) _ (by omega) (by omega)]
        simp
theorem srcIn_C {n c j : Nat} (hn : n ≤ 6) (hj : j < n) : srcIn (rowC n c) j = nI (k9 (dgt n c j)) := by
  refine b_ext (fun i hi => ?_)
  unfold srcIn
  rw [b_and, b_sshr (4 * j) (by omega) _ hi, b_15 i hi]
  by_cases w : i < 4
  · rw [if_pos (by omega), rowC_bt n c hn _ (by omega), decide_eq_true w, decide_eq_true (show 4 * j + i < 4 * n by omega), show (4 * j + i) / 4 = j by omega, show (4 * j + i) % 4 = i by omega]
    simp
  · rw [decide_eq_false w, b_n9 (k9 (dgt n c j)) (k9_lt (Nat.mod_lt _ (by decide))) i hi (by omega)]
    simp
theorem inF_z {dg : Nat → Nat} {so x : Int32} {i : Nat} (h : bt x i = false) : ∀ j, bt (inF dg so x j) i = false
  | 0 => h
  | j + 1 => by
    show bt (inF dg so x j &&& _) i = false
    rw [b_and, inF_z h j]
    rfl
theorem b_not1 {j i : Nat} (hj : j < 32) (hi : i < 32) : bt ((nI 1 <<< (nI j &&& 31)) ^^^ (-1)) i = !decide (i = j) := by
  rw [b_xor, b_one hj hi, b_m1 i hi]
  simp
theorem inF_bt {dg : Nat → Nat} {so x : Int32} {i : Nat} (hi : i < 6) : ∀ j, j ≤ 6 → bt (inF dg so x j) i = (bt x i && (decide (j ≤ i) || decide (nI (dg i) = so)))
  | 0, _ => by
    rw [decide_eq_true (Nat.zero_le i), Bool.true_or, Bool.and_true]
    rfl
  | j + 1, hj => by
    have ih := inF_bt (dg := dg) (so := so) (x := x) hi j (by omega)
    show bt (inF dg so x j &&& (if nI (dg j) = so then nI 63 else ((nI 1 <<< (nI j &&& 31)) ^^^ (-1)))) i = _
    rw [b_and, ih]
    by_cases q : nI (dg j) = so
    · rw [if_pos q, b_63 i hi, Bool.and_true]
      by_cases e : i = j
      · subst e
        rw [decide_eq_true q]
        simp
      · by_cases w : j ≤ i
        · rw [decide_eq_true w, decide_eq_true (show j + 1 ≤ i by omega)]
        · rw [decide_eq_false w, decide_eq_false (show ¬ j + 1 ≤ i by omega)]
    · rw [if_neg q, b_not1 (by omega) (by omega)]
      by_cases e : i = j
      · subst e
        rw [decide_eq_false q, decide_eq_false (show ¬ i + 1 ≤ i by omega)]
        simp
      · rw [decide_eq_false e]
        by_cases w : j ≤ i
        · rw [decide_eq_true w, decide_eq_true (show j + 1 ≤ i by omega)]
          simp
        · rw [decide_eq_false w, decide_eq_false (show ¬ j + 1 ≤ i by omega)]
          simp
/-! ===== the class's answers are the reference's: trees ===== -/
theorem okK_at {S : St} {n : Nat} {tv : Nat → Nat → Nat} (hp : picN S = n) (hn : n ≤ 6) (hT : TvOk n tv (mtA S) (trA S) (S 12 0)) (hK : okK S) : treN S = cntB (vC tv n) (7 ^ n) ∧ (tA S).length = cntB (vC tv n) (7 ^ n) ∧ 1 ≤ cntB (vC tv n) (7 ^ n) ∧ ∀ c, c < 7 ^ n → vC tv n c = true → S 20 (cntB (vC tv n) c) = rowC n c ∧ S 21 (cntB (vC tv n) c) = nI (lrN tv n c) := by
  subst hp
  obtain ⟨h1, h2⟩ := gL_len hn hT (fun _ => 0)
  have hcap := gL_cap hn (mt := mtA S) (tr := trA S) (nw := S 12 0) (nI 0) (nI 0)
  have hpos : 1 ≤ (tA S).length := gL_pos _ _ _ _ _
  have hm := (mst_le _ hn).2
  have hlen : (tA S).length = cntB (vC tv (picN S)) (7 ^ picN S) := h1
  have hcap2 : (tA S).length ≤ mst (picN S) := hcap
  refine ⟨?_, hlen, by omega, fun c hc hv => ?_⟩
  · unfold treN
    rw [hK.1, nI_clamp (by omega)]
    exact hlen
  · have e : (tA S)[cntB (vC tv (picN S)) c]? = some (rowC (picN S) c, nI (lrN tv (picN S) c)) := h2 c hc hv
    obtain ⟨hl, _⟩ := List.getElem?_eq_some_iff.mp e
    obtain ⟨k1, k2⟩ := hK.2.1 _ hl
    rw [k1, k2, List.getD_eq_getElem?_getD, List.getD_eq_getElem?_getD, List.getElem?_map, List.getElem?_map, e]
    exact ⟨rfl, rfl⟩
theorem okK_lc {S : St} {n : Nat} {tv : Nat → Nat → Nat} (hp : picN S = n) (hn : n ≤ 6) (hT : TvOk n tv (mtA S) (trA S) (S 12 0)) (hK : okK S) : S 44 0 = nI (lcF tv n (7 ^ n)) ∧ lcF tv n (7 ^ n) ≤ 59994 := by
  obtain ⟨h1, h2, h3, h4⟩ := okK_at hp hn hT hK
  refine ⟨?_, ?_⟩
  · rw [hK.2.2.2, h2]
    exact mn_lc (fun c hc hv => (h4 c hc hv).2) _ (Nat.le_refl _) h3
  · have hex : ∀ N, 1 ≤ cntB (vC tv n) N → ∃ c, c < N ∧ vC tv n c = true := by
      intro N
      induction N with
      | zero => intro h; exact absurd (show 1 ≤ 0 from h) (by decide)
      | succ N ih =>
        intro h
        cases hv : vC tv n N with
        | true => exact ⟨N, by omega, hv⟩
        | false => rw [cntB_f hv] at h; obtain ⟨c, hc, hh⟩ := ih h; exact ⟨c, by omega, hh⟩
    obtain ⟨c, hc, hv⟩ := hex _ h3
    exact Nat.le_trans (lcF_min _ c hc) (lr_small hn hT hv)
def kpQ (tv : Nat → Nat → Nat) (n mo c : Nat) : Bool := decide (lrN tv n c ≤ lcF tv n (7 ^ n) + mo)
theorem kp_tr {S : St} {n mo : Nat} {tv : Nat → Nat → Nat} (hp : picN S = n) (hn : n ≤ 6) (hT : TvOk n tv (mtA S) (trA S) (S 12 0)) (hK : okK S) (hmo : mo ≤ 99) : (∀ c, c < 7 ^ n → vC tv n c = true → kpB S (nI mo) (cntB (vC tv n) c) = kpQ tv n mo c) ∧ (∀ c, c < 7 ^ n → vC tv n c = false → kpQ tv n mo c = false) := by
  obtain ⟨h1, h2, h3, h4⟩ := okK_at hp hn hT hK
  obtain ⟨l1, l2⟩ := okK_lc hp hn hT hK
  refine ⟨fun c hc hv => ?_, fun c hc hv => ?_⟩
  · have hs := lr_small hn hT hv
    unfold kpB kpQ
    rw [(h4 c hc hv).2, l1, nI_add]
    exact decide_eq_decide.mpr (nI_leI (by omega) (by omega))
  · have := vC_f hv
    exact decide_eq_false (by omega)
theorem eq_least {S : St} {n : Nat} {tv : Nat → Nat → Nat} (hp : picN S = n) (hn : n ≤ 6) (hT : TvOk n tv (mtA S) (trA S) (S 12 0)) (hK : okK S) (wh : Int32) : r_least S wh = if wh = nI 0 then nI (lcF tv n (7 ^ n)) else if wh = nI 1 then nI (lmF tv n (7 ^ n)) else nI (mtn tv n (7 ^ n)) := by
  obtain ⟨h1, h2, h3, h4⟩ := okK_at hp hn hT hK
  obtain ⟨l1, l2⟩ := okK_lc hp hn hT hK
  obtain ⟨k1, k2⟩ := kp_tr (mo := 0) hp hn hT hK (by omega)
  have e : cntB (kpB S (nI 0)) (treN S) = lmF tv n (7 ^ n) := by
    rw [h1, cnt_tr k1 k2 _ (Nat.le_refl _), lm_cnt]
    refine cntB_cg _ (fun c hc => ?_)
    unfold kpQ
    rw [Nat.add_zero]
    cases hv : vC tv n c with
    | true => rfl
    | false => have := vC_f hv; exact decide_eq_false (by omega)
  unfold r_least
  rw [l1, e, hK.1, h2]
  rfl
def mkQ (tv : Nat → Nat → Nat) (n mo : Nat) (ix : Int32) : Nat := fstF (fun c => kpQ tv n mo c && nI (cntB (kpQ tv n mo) c) == ix) (7 ^ n)
theorem eq_kept {S : St} {n mo : Nat} {tv : Nat → Nat → Nat} (hp : picN S = n) (hn : n ≤ 6) (hT : TvOk n tv (mtA S) (trA S) (S 12 0)) (hK : okK S) (hmo : mo ≤ 99) (ix pi : Int32) (hpi : ¬ ix = (-1) → ¬ pi = nI 9 → clN pi < n) : r_kept S (nI mo) ix pi = if mkQ tv n mo ix = 0 then (if ix = (-1) then nI (cntB (kpQ tv n mo) (7 ^ n)) else (-6)) else (if pi = nI 9 then nI (lrN tv n (mkQ tv n mo ix - 1)) else dg9 (dgt n (mkQ tv n mo ix - 1) (clN pi))) := by
  obtain ⟨h1, h2, h3, h4⟩ := okK_at hp hn hT hK
  obtain ⟨k1, k2⟩ := kp_tr hp hn hT hK hmo
  have hc := cnt_tr k1 k2
  have hN : 7 ^ n ≤ 117649 := by
    rcases (show n = 0 ∨ n = 1 ∨ n = 2 ∨ n = 3 ∨ n = 4 ∨ n = 5 ∨ n = 6 by omega) with rfl | rfl | rfl | rfl | rfl | rfl | rfl <;> decide
  have hf := fst_tr (V := vC tv n) (P := fun t => kpB S (nI mo) t && nI (cntB (kpB S (nI mo)) t) == ix) (Q := fun c => kpQ tv n mo c && nI (cntB (kpQ tv n mo) c) == ix) (M := 7 ^ n) (fun c hc1 hv => by
    show (kpB S (nI mo) (cntB (vC tv n) c) && nI (cntB (kpB S (nI mo)) (cntB (vC tv n) c)) == ix) = _
    rw [k1 c hc1 hv, hc c (by omega)]) (fun c hc1 hv => by rw [k2 c hc1 hv]; rfl) (7 ^ n) (Nat.le_refl _)
  have eI : kpI S (nI mo) ix = fstF (fun t => kpB S (nI mo) t && nI (cntB (kpB S (nI mo)) t) == ix) (cntB (vC tv n) (7 ^ n)) := by
    unfold kpI
    rw [h1]
  rcases hf with ⟨f1, f2⟩ | ⟨c, f1, f2, f3, f4⟩
  · have e2 : mkQ tv n mo ix = 0 := f2
    rw [if_pos e2]
    unfold r_kept
    rw [eI, f1, h1, hc _ (Nat.le_refl _)]
    by_cases q : ix = (-1)
    · rw [if_pos q, if_pos q]
    · rw [if_neg q, if_neg q, if_pos rfl]
  · have e2 : mkQ tv n mo ix = c + 1 := f3
    have hix : ¬ ix = (-1) := by
      intro q
      have hh : (fun c => kpQ tv n mo c && nI (cntB (kpQ tv n mo) c) == ix) c = true := by
        have hgen : ∀ (h : Nat → Bool) (N c : Nat), fstF h N = c + 1 → h c = true := by
          intro h N
          induction N with
          | zero => intro c hc; exact absurd hc (by simp [fstF])
          | succ N ih =>
            intro c hc
            have hs : fstF h (N + 1) = if fstF h N = 0 then (if h N then N + 1 else 0) else fstF h N := rfl
            rw [hs] at hc
            by_cases q0 : fstF h N = 0
            · rw [if_pos q0] at hc
              cases hb : h N with
              | true => rw [hb, if_pos rfl] at hc; rw [show c = N by omega]; exact hb
              | false => rw [hb, if_neg (by decide)] at hc; omega
            · rw [if_neg q0] at hc; exact ih c hc
        exact hgen _ _ _ f3
      simp only [Bool.and_eq_true, beq_iff_eq] at hh
      rw [q] at hh
      exact nI_nm1' (by have := cntB_le (kpQ tv n mo) c; omega) hh.2
    rw [if_neg (by omega), e2, Nat.add_sub_cancel]
    unfold r_kept
    rw [eI, f4, if_neg hix, if_neg (by omega), Nat.add_sub_cancel, (h4 c f1 f2).1, (h4 c f1 f2).2]
    by_cases q : pi = nI 9
    · rw [if_pos q, if_pos q]
    · rw [if_neg q, if_neg q, srcIn_C hn (hpi hix q)]
      unfold dg9 k9
      split <;> rfl
def suQ (tv : Nat → Nat → Nat) (n mo : Nat) (pi : Int32) : Nat → Int32
  | 0 => (nI 1 <<< (nI n &&& 31)) - nI 1
  | c + 1 => if kpQ tv n mo c then inF (dgt n c) (soI pi) (suQ tv n mo pi c) n else suQ tv n mo pi c
theorem src_so {n c i : Nat} {pi : Int32} (hn : n ≤ 6) (hi : i < n) (hpi : pi = nI 9 ∨ ∃ j, j < n ∧ pi = nI j) : (srcIn (rowC n c) i == pi) = decide (nI (dgt n c i) = soI pi) := by
  rw [srcIn_C hn hi]
  have h7 : dgt n c i < 7 := Nat.mod_lt _ (by decide)
  have hk := k9_lt h7
  unfold soI
  rcases hpi with rfl | ⟨j, hj, rfl⟩
  · rw [if_pos rfl]
    unfold k9
    by_cases e : dgt n c i = 6
    · rw [if_pos e, e]; rfl
    · rw [if_neg e, beqF (fun q => by have := (nI_eq (by omega) (by omega)).mp q; omega), decide_eq_false (fun q => by have := (nI_eq (by omega) (by omega)).mp q; omega)]
  · rw [if_neg (fun q => by have := (nI_eq (by omega) (by omega)).mp q; omega)]
    unfold k9
    by_cases e : dgt n c i = 6
    · rw [if_pos e, beqF (fun q => by have := (nI_eq (by omega) (by omega)).mp q; omega), decide_eq_false (fun q => by have := (nI_eq (by omega) (by omega)).mp q; omega)]
    · rw [if_neg e]
      by_cases w : nI (dgt n c i) = nI j
      · rw [beqT w, decide_eq_true w]
      · rw [beqF w, decide_eq_false w]
theorem suQ_z {tv : Nat → Nat → Nat} {n mo : Nat} {pi : Int32} (hn : n ≤ 6) {i : Nat} (hi : i < 32) (h : n ≤ i) : ∀ N, bt (suQ tv n mo pi N) i = false
  | 0 => by
    show bt ((nI 1 <<< (nI n &&& 31)) - nI 1) i = false
    rw [b_lo n hn i hi, decide_eq_false (by omega)]
  | N + 1 => by
    show bt (if kpQ tv n mo N then _ else _) i = false
    split
    · exact inF_z (suQ_z hn hi h N) _
    · exact suQ_z hn hi h N
theorem eq_sure {S : St} {n mo : Nat} {tv : Nat → Nat → Nat} (hp : picN S = n) (hn : n ≤ 6) (hT : TvOk n tv (mtA S) (trA S) (S 12 0)) (hK : okK S) (hmo : mo ≤ 99) (pi : Int32) (hpi : pi = nI 9 ∨ ∃ j, j < n ∧ pi = nI j) : r_sure S (nI mo) pi = suQ tv n mo pi (7 ^ n) := by
  obtain ⟨h1, h2, h3, h4⟩ := okK_at hp hn hT hK
  obtain ⟨k1, k2⟩ := kp_tr hp hn hT hK hmo
  have htp : tpiN S = n := by
    unfold tpiN
    rw [hK.2.2.1]
    exact hp
  unfold r_sure
  rw [h1, htp]
  have key : ∀ N, N ≤ 7 ^ n → alF (kpB S (nI mo)) (fun t => trcF (S 20 t) n pi) ((nI 1 <<< (nI n &&& 31)) - nI 1) (cntB (vC tv n) N) = suQ tv n mo pi N := by
    intro N
    induction N with
    | zero => intro _; rfl
    | succ N ih =>
      intro hN
      have ih := ih (by omega)
      have hs : suQ tv n mo pi (N + 1) = if kpQ tv n mo N then inF (dgt n N) (soI pi) (suQ tv n mo pi N) n else suQ tv n mo pi N := rfl
      cases hv : vC tv n N with
      | false => rw [cntB_f hv, ih, hs, k2 N (by omega) hv]; rfl
      | true =>
        have e := k1 N (by omega) hv
        rw [cntB_s hv, hs]
        cases hq : kpQ tv n mo N with
        | false => rw [hq] at e; rw [alF_n e, ih]; rfl
        | true =>
          rw [hq] at e
          rw [alF_y e, ih, if_pos rfl, (h4 N (by omega) hv).1]
          refine b_ext (fun i hi => ?_)
          rw [b_and]
          unfold trcF
          rw [orB_bt _ hi n (by omega)]
          by_cases w : i < n
          · rw [decide_eq_true w, inF_bt (by omega) n hn, decide_eq_false (show ¬ n ≤ i by omega), src_so hn w hpi]
            simp
          · rw [suQ_z hn hi (by omega), inF_z (suQ_z hn hi (by omega) N)]
            rfl
  exact key _ (Nat.le_refl _)
