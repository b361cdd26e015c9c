/-! ===== the class's trees are the reference's codes in their order ===== -/
def rowC : Nat → Nat → Int32
  | 0, _ => nI 0
  | p + 1, b => rowC p (b / 7) ||| (nI (k9 (b % 7)) <<< (nI (4 * p) &&& 31))
def smP (tv : Nat → Nat → Nat) : Nat → Nat → Nat
  | 0, _ => 0
  | p + 1, b => smP tv p (b / 7) + tv p (b % 7)
def TvOk (n : Nat) (tv : Nat → Nat → Nat) (mt : Nat → Nat → Bool) (tr : Nat → Nat → Int32) (nw : Int32) : Prop := ∀ p, p < n → (tv p 6 ≤ 9999 ∧ nw = nI (tv p 6)) ∧ ∀ x, x < 6 → (x < n ∧ mt x p = true ∧ tv p x ≤ 9999 ∧ tr x p = nI (tv p x)) ∨ (¬ (x < n ∧ mt x p = true) ∧ 100000000 ≤ tv p x)
def vC (tv : Nat → Nat → Nat) (n c : Nat) : Bool := decide (lrN tv n c < 100000000)
def GPre (n : Nat) (tv : Nat → Nat → Nat) (p b : Nat) : Prop := ∀ i, i < p → tv i (dgt p b i) ≤ 9999 ∧ (dgt p b i < n ∨ dgt p b i = 6) ∧ ¬ wlk (dgt p b) i n (dgt p b i) = i
theorem dgt_pre {n p m c i : Nat} (h : p + m = n) (hi : i < p) : dgt n c i = dgt p (c / 7 ^ m) i := by
  unfold dgt
  rw [show n - (i + 1) = m + (p - (i + 1)) by omega, Nat.pow_add, Nat.div_div_eq_div_mul]
theorem dgt_last (p b : Nat) : dgt (p + 1) b p = b % 7 := by
  unfold dgt
  rw [Nat.sub_self, Nat.pow_zero, Nat.div_one]
theorem dgt_s {p b i : Nat} (hi : i < p) : dgt (p + 1) b i = dgt p (b / 7) i := by
  rw [dgt_pre (n := p + 1) (p := p) (m := 1) rfl hi, Nat.pow_one]
theorem smF_smP (tv : Nat → Nat → Nat) (n c : Nat) : ∀ j, j ≤ n → smF tv n c j + smP tv (n - j) (c / 7 ^ j) = smP tv n c
  | 0, _ => by
    rw [Nat.pow_zero, Nat.div_one, Nat.sub_zero]
    show 0 + _ = _
    omega
  | j + 1, hj => by
    have ih := smF_smP tv n c j (by omega)
    rw [show n - j = (n - (j + 1)) + 1 by omega] at ih
    have e : smP tv ((n - (j + 1)) + 1) (c / 7 ^ j) = smP tv (n - (j + 1)) (c / 7 ^ j / 7) + tv (n - (j + 1)) (c / 7 ^ j % 7) := rfl
    have e2 : c / 7 ^ j / 7 = c / 7 ^ (j + 1) := by rw [Nat.div_div_eq_div_mul, Nat.pow_succ]
    rw [e, e2] at ih
    show smF tv n c j + tv (n - (j + 1)) (c / 7 ^ j % 7) + _ = _
    omega
theorem smF_eq (tv : Nat → Nat → Nat) (n c : Nat) : smF tv n c n = smP tv n c := by
  have := smF_smP tv n c n (Nat.le_refl _)
  rw [Nat.sub_self] at this
  exact this
theorem smP_le {tv : Nat → Nat → Nat} : ∀ p b, (∀ i, i < p → tv i (dgt p b i) ≤ 9999) → smP tv p b ≤ p * 9999
  | 0, _, _ => Nat.zero_le _
  | p + 1, b, h => by
    have h1 := smP_le (tv := tv) p (b / 7) (fun i hi => by rw [← dgt_s hi]; exact h i (by omega))
    have h2 := h p (by omega)
    rw [dgt_last] at h2
    show smP tv p (b / 7) + tv p (b % 7) ≤ _
    omega
theorem lr_bad1 {tv : Nat → Nat → Nat} {n c p : Nat} (hp : p < n) (h : 100000000 ≤ tv p (dgt n c p)) : lrN tv n c = 100000000 := by
  have h1 := smF_ge (tv := tv) (n := n) (cd := c) n (n - (p + 1)) (by omega)
  rw [show n - (n - (p + 1) + 1) = p by omega] at h1
  unfold lrN
  rw [if_pos (Nat.le_trans h h1)]
theorem lr_bad2 {tv : Nat → Nat → Nat} {n c : Nat} (h : okW n c = false) : lrN tv n c = 100000000 := by
  unfold lrN
  rw [h]
  split
  · rfl
  · exact if_neg (by decide)
theorem lr_good {tv : Nat → Nat → Nat} {n c : Nat} (hn : n ≤ 6) (h : GPre n tv n c) : lrN tv n c = smP tv n c ∧ smP tv n c ≤ 59994 := by
  have h1 := smP_le (tv := tv) n c (fun i hi => (h i hi).1)
  have h2 : smP tv n c ≤ 59994 := by omega
  refine ⟨?_, h2⟩
  have hw := walk_ok (cd := c) hn (fun y hy => (h y hy).2.1) (fun p hp => (h p hp).2.2)
  unfold lrN
  rw [smF_eq, if_neg (by omega), if_pos hw]
theorem catF_blk (V : Nat → Bool) (G : Nat → Int32 × Int32) (s w : Nat) : ∀ k, catF (fun x => ((List.range' (s + x * w) w).filter V).map G) k = ((List.range' s (k * w)).filter V).map G
  | 0 => by rw [Nat.zero_mul]; rfl
  | k + 1 => by
    show catF _ k ++ _ = _
    rw [catF_blk V G s w k, ← List.map_append, ← List.filter_append, List.range'_append_1, Nat.succ_mul]
theorem catF_cg {f f' : Nat → List (Int32 × Int32)} : ∀ N, (∀ i, i < N → f i = f' i) → catF f N = catF f' N
  | 0, _ => rfl
  | N + 1, h => by
    show catF f N ++ f N = catF f' N ++ f' N
    rw [catF_cg N (fun i hi => h i (by omega)), h N (by omega)]
theorem catF_nil {f : Nat → List (Int32 × Int32)} {n : Nat} : ∀ N, n ≤ N → (∀ i, n ≤ i → i < N → f i = []) → catF f N = catF f n
  | 0, h, _ => by rw [Nat.le_zero.mp h]
  | N + 1, h, hf => by
    by_cases e : n = N + 1
    · rw [e]
    · show catF f N ++ f N = _
      rw [catF_nil N (by omega) (fun i h1 h2 => hf i h1 (by omega)), hf N (by omega) (by omega), List.append_nil]
/-- a block of codes, none of them a tree -/
theorem blk_nil {tv : Nat → Nat → Nat} {n b w : Nat} {G : Nat → Int32 × Int32} (h : ∀ c, c / w = b → lrN tv n c = 100000000) : ((List.range' (b * w) w).filter (vC tv n)).map G = [] := by
  have e : (List.range' (b * w) w).filter (vC tv n) = [] := by
    rw [List.filter_eq_nil_iff]
    intro c hc
    rw [List.mem_range'_1] at hc
    have hd : c / w = b := Nat.div_eq_of_lt_le hc.1 (by rw [Nat.succ_mul]; exact hc.2)
    unfold vC
    rw [h c hd]
    decide
  rw [e]
  rfl
theorem gpre_s {tv : Nat → Nat → Nat} {n p b x : Nat} (hx : x < 7) (h : GPre n tv p b) (h1 : tv p x ≤ 9999) (h2 : x < n ∨ x = 6) (h3 : ¬ wlk (dgt p b) p n x = p) : GPre n tv (p + 1) (7 * b + x) := by
  have hq : (7 * b + x) / 7 = b := by omega
  have hr : (7 * b + x) % 7 = x := by omega
  have hj : ∀ j, j < p → dgt (p + 1) (7 * b + x) j = dgt p b j := fun j hj => by rw [dgt_s hj, hq]
  intro i hi
  by_cases e : i = p
  · subst e
    rw [dgt_last, hr]
    exact ⟨h1, h2, by rw [wlk_cg hj]; exact h3⟩
  · rw [hj i (by omega)]
    obtain ⟨q1, q2, q3⟩ := h i (by omega)
    exact ⟨q1, q2, by rw [wlk_cg (fun j hj2 => hj j (by omega))]; exact q3⟩
set_option maxHeartbeats 1000000 in
theorem gL_codes {n : Nat} {tv : Nat → Nat → Nat} {mt : Nat → Nat → Bool} {tr : Nat → Nat → Int32} {nw : Int32} (hn : n ≤ 6) (hT : TvOk n tv mt tr nw) : ∀ (m p b : Nat) (row co : Int32) (src : Nat → Nat), p + m = n → GPre n tv p b → (∀ i, i < p → src i = k9 (dgt p b i)) → row = rowC p b → co = nI (smP tv p b) → gL n mt tr nw m p row co src = ((List.range' (b * 7 ^ m) (7 ^ m)).filter (vC tv n)).map (fun c => (rowC n c, nI (lrN tv n c)))
  | 0, p, b, row, co, src, hp, hg, hs, hr, hc => by
    have e : p = n := by omega
    subst e
    obtain ⟨h1, h2⟩ := lr_good hn hg
    have hv : vC tv p b = true := decide_eq_true (by omega)
    rw [Nat.pow_zero, Nat.mul_one, List.range'_one, List.filter_cons_of_pos hv]
    show [(row, co)] = [(rowC p b, nI (lrN tv p b))]
    rw [hr, hc, h1]
  | m + 1, p, b, row, co, src, hp, hg, hs, hr, hc => by
    have hpn : p < n := by omega
    obtain ⟨⟨ht6, hnw⟩, htx⟩ := hT p hpn
    have hB : ∀ x, (b * 7 ^ (m + 1)) + x * 7 ^ m = (7 * b + x) * 7 ^ m := fun x => by
      rw [Nat.add_mul, Nat.pow_succ, Nat.mul_comm (7 ^ m) 7, ← Nat.mul_assoc, Nat.mul_comm b 7]
    have hd1 : ∀ x c, x < 7 → c / 7 ^ m = 7 * b + x → dgt n c p = x := fun x c hx hc => by
      rw [dgt_pre (p := p + 1) (m := m) (by omega) (by omega), hc, dgt_last]; omega
    have hd2 : ∀ x c, x < 7 → c / 7 ^ m = 7 * b + x → ∀ j, j < p → dgt n c j = dgt p b j := fun x c hx hc j hj => by
      rw [dgt_pre (p := p + 1) (m := m) (by omega) (by omega), hc, dgt_s hj, show (7 * b + x) / 7 = b by omega]
    have hsrc : ∀ x, ∀ i, i < p + 1 → x < 7 → va_up src p (k9 x) i = k9 (dgt (p + 1) (7 * b + x) i) := fun x i hi hx => by
      by_cases e : i = p
      · subst e
        rw [dgt_last, show (7 * b + x) % 7 = x by omega]
        exact if_pos rfl
      · rw [dgt_s (by omega), show (7 * b + x) / 7 = b by omega, ← hs i (by omega)]
        exact if_neg e
    have hrow : ∀ x, x < 7 → rowC (p + 1) (7 * b + x) = row ||| (nI (k9 x) <<< (nI (4 * p) &&& 31)) := fun x hx => by
      show rowC p ((7 * b + x) / 7) ||| (nI (k9 ((7 * b + x) % 7)) <<< (nI (4 * p) &&& 31)) = _
      rw [show (7 * b + x) / 7 = b by omega, show (7 * b + x) % 7 = x by omega, hr]
    have hco : ∀ x, x < 7 → nI (smP tv (p + 1) (7 * b + x)) = co + nI (tv p x) := fun x hx => by
      have e : smP tv (p + 1) (7 * b + x) = smP tv p ((7 * b + x) / 7) + tv p ((7 * b + x) % 7) := rfl
      rw [e, show (7 * b + x) / 7 = b by omega, show (7 * b + x) % 7 = x by omega, hc, nI_add]
    -- the seven blocks
    have hR : ((List.range' (b * 7 ^ (m + 1)) (7 ^ (m + 1))).filter (vC tv n)).map (fun c => (rowC n c, nI (lrN tv n c))) = catF (fun x => ((List.range' ((7 * b + x) * 7 ^ m) (7 ^ m)).filter (vC tv n)).map (fun c => (rowC n c, nI (lrN tv n c)))) 7 := by
      rw [show 7 ^ (m + 1) = 7 * 7 ^ m by rw [Nat.pow_succ, Nat.mul_comm]]
      rw [← catF_blk]
      refine catF_cg 7 (fun x _ => ?_)
      have := hB x
      rw [show 7 ^ (m + 1) = 7 * 7 ^ m by rw [Nat.pow_succ, Nat.mul_comm]] at this
      rw [this]
    rw [hR]
    have h6 : gL n mt tr nw m (p + 1) (row ||| (nI 9 <<< (nI (4 * p) &&& 31))) (co + nw) (va_up src p 9) = ((List.range' ((7 * b + 6) * 7 ^ m) (7 ^ m)).filter (vC tv n)).map (fun c => (rowC n c, nI (lrN tv n c))) :=
      gL_codes hn hT m (p + 1) (7 * b + 6) _ _ _ (by omega) (gpre_s (by omega) hg ht6 (Or.inr rfl) (by rw [wlk_n (by omega)]; omega)) (fun i hi => hsrc 6 i hi (by omega)) (hrow 6 (by omega)).symm (by rw [hco 6 (by omega), ← hnw])
    show catF _ n ++ gL n mt tr nw m (p + 1) (row ||| (nI 9 <<< (nI (4 * p) &&& 31))) (co + nw) (va_up src p 9) = catF _ 6 ++ _
    rw [h6]
    congr 1
    rw [catF_nil (n := n) 6 hn]
    · refine catF_cg n (fun x hx => ?_)
      have hx6 : x < 6 := by omega
      have kx : k9 x = x := if_neg (by omega)
      rcases htx x hx6 with ⟨q1, q2, q3, q4⟩ | ⟨q1, q2⟩
      · by_cases hw : wlk src p n x = p
        · rw [if_neg (by rw [q2, beqTn hw]; decide)]
          symm
          refine blk_nil (fun c hc => lr_bad2 (walk_bad hn hpn ?_))
          rw [hd1 x c (by omega) hc, wlk_cg (hd2 x c (by omega) hc)]
          exact (wlk_k9 (by omega) hs n x).mp hw
        · rw [if_pos (by rw [q2, beqFn hw]; rfl)]
          refine gL_codes hn hT m (p + 1) (7 * b + x) _ _ _ (by omega) (gpre_s (by omega) hg q3 (Or.inl hx) (fun q => hw ((wlk_k9 (by omega) hs n x).mpr q))) (fun i hi => ?_) ?_ ?_
          · have := hsrc x i hi (by omega); rw [kx] at this; exact this
          · have := hrow x (by omega); rw [kx] at this; exact this.symm
          · rw [hco x (by omega), q4]
      · have hmt : mt x p = false := by
          cases h : mt x p with
          | true => exact absurd ⟨hx, h⟩ q1
          | false => rfl
        rw [if_neg (by rw [hmt]; simp)]
        symm
        exact blk_nil (fun c hc => lr_bad1 hpn (by rw [hd1 x c (by omega) hc]; exact q2))
    · intro x hx hx6
      rcases htx x hx6 with ⟨q1, _⟩ | ⟨q1, q2⟩
      · omega
      · exact blk_nil (fun c hc => lr_bad1 hpn (by rw [hd1 x c (by omega) hc]; exact q2))
theorem flt_len (V : Nat → Bool) : ∀ N, ((List.range N).filter V).length = cntB V N
  | 0 => rfl
  | N + 1 => by
    rw [List.range_succ, List.filter_append, List.length_append, flt_len V N]
    cases h : V N with
    | true => rw [List.filter_cons_of_pos h, cntB_s h]; rfl
    | false => rw [List.filter_cons_of_neg (by rw [h]; decide), cntB_f h]; rfl
theorem flt_at (V : Nat → Bool) : ∀ N c, c < N → V c = true → ((List.range N).filter V)[cntB V c]? = some c
  | 0, c, h, _ => absurd h (Nat.not_lt_zero _)
  | N + 1, c, h, hv => by
    rw [List.range_succ, List.filter_append]
    by_cases e : c = N
    · subst e
      rw [List.getElem?_append_right (by rw [flt_len]; exact Nat.le_refl _), flt_len, Nat.sub_self, List.filter_cons_of_pos hv]
      rfl
    · have ih := flt_at V N c (by omega) hv
      obtain ⟨hl, _⟩ := List.getElem?_eq_some_iff.mp ih
      rw [List.getElem?_append_left hl]
      exact ih
/-- the list and the codes: how long, and which at which place -/
theorem gL_len {n : Nat} {tv : Nat → Nat → Nat} {mt : Nat → Nat → Bool} {tr : Nat → Nat → Int32} {nw : Int32} (hn : n ≤ 6) (hT : TvOk n tv mt tr nw) (src : Nat → Nat) : (gL n mt tr nw n 0 (nI 0) (nI 0) src).length = cntB (vC tv n) (7 ^ n) ∧ ∀ c, c < 7 ^ n → vC tv n c = true → (gL n mt tr nw n 0 (nI 0) (nI 0) src)[cntB (vC tv n) c]? = some (rowC n c, nI (lrN tv n c)) := by
  have e := gL_codes hn hT n 0 0 (nI 0) (nI 0) src (by omega) (fun i hi => absurd hi (Nat.not_lt_zero _)) (fun i hi => absurd hi (Nat.not_lt_zero _)) rfl rfl
  rw [Nat.zero_mul, ← List.range_eq_range'] at e
  rw [e]
  refine ⟨by rw [List.length_map, flt_len], fun c hc hv => ?_⟩
  rw [List.getElem?_map, flt_at _ _ c hc hv]
  rfl
/-! ===== how many trees there are at most ===== -/
def smI (f : Nat → Nat) : Nat → Nat
  | 0 => 0
  | i + 1 => smI f i + f i
def wlB (src : Nat → Nat) (p : Nat) : Nat → Nat → Nat
  | 0, a => a
  | j + 1, a => cond (Nat.blt a p) (wlB src p j (src a)) a
def cnG (n : Nat) : Nat → Nat → (Nat → Nat) → Nat
  | 0, _, _ => 1
  | m + 1, p, src => smI (fun i => cond (Nat.beq (wlB src p n i) p) 0 (cnG n m (p + 1) (fun j => cond (Nat.beq j p) i (src j)))) n + cnG n m (p + 1) (fun j => cond (Nat.beq j p) 9 (src j))
theorem wlB_eq {s1 s2 : Nat → Nat} {p : Nat} (hs : ∀ j, j < p → s1 j = s2 j) : ∀ k y, wlB s2 p k y = wlk s1 p k y
  | 0, _ => rfl
  | k + 1, y => by
    show cond (Nat.blt y p) (wlB s2 p k (s2 y)) y = _
    by_cases q : y < p
    · rw [wlk_y q, hs y q, wlB_eq hs k, show Nat.blt y p = true from Nat.ble_eq_true_of_le q]; rfl
    · rw [wlk_n q]
      cases h : Nat.blt y p with
      | true => exact absurd (Nat.le_of_ble_eq_true h) q
      | false => rfl
theorem smI_le {f g : Nat → List (Int32 × Int32)} {h : Nat → Nat} : ∀ N, (∀ i, i < N → (f i).length ≤ h i) → (catF f N).length ≤ smI h N
  | 0, _ => Nat.le_refl _
  | N + 1, hh => by
    show (catF f N ++ f N).length ≤ smI h N + h N
    rw [List.length_append]
    have h1 := smI_le (f := f) (g := g) (h := h) N (fun i hi => hh i (by omega))
    have h2 := hh N (by omega)
    omega
theorem gL_cn {n : Nat} {mt : Nat → Nat → Bool} {tr : Nat → Nat → Int32} {nw : Int32} : ∀ (m p : Nat) (row co : Int32) (s1 s2 : Nat → Nat), (∀ j, j < p → s1 j = s2 j) → (gL n mt tr nw m p row co s1).length ≤ cnG n m p s2
  | 0, p, row, co, s1, s2, _ => Nat.le_refl _
  | m + 1, p, row, co, s1, s2, hs => by
    have hv : ∀ i j, j < p + 1 → va_up s1 p i j = cond (Nat.beq j p) i (s2 j) := fun i j hj => by
      by_cases e : j = p
      · rw [show Nat.beq j p = true from by rw [e]; exact Nat.beq_refl p]
        exact if_pos e
      · rw [show Nat.beq j p = false from by cases h : Nat.beq j p with
          | true => exact absurd (Nat.eq_of_beq_eq_true h) e
          | false => rfl]
        show (if j = p then i else s1 j) = s2 j
        rw [if_neg e]
        exact hs j (by omega)
    show (catF _ n ++ gL n mt tr nw m (p + 1) _ _ _).length ≤ smI _ n + cnG n m (p + 1) _
    rw [List.length_append]
    refine Nat.add_le_add (smI_le (g := fun _ => []) n (fun i hi => ?_)) (gL_cn m (p + 1) _ _ _ _ (hv 9))
    rw [wlB_eq hs]
    by_cases hw : wlk s1 p n i = p
    · rw [if_neg (by rw [beqTn hw]; simp)]
      exact Nat.zero_le _
    · rw [show Nat.beq (wlk s1 p n i) p = false from by cases h : Nat.beq (wlk s1 p n i) p with
        | true => exact absurd (Nat.eq_of_beq_eq_true h) hw
        | false => rfl]
      show _ ≤ cnG n m (p + 1) _
      split
      · exact gL_cn m (p + 1) _ _ _ _ (hv i)
      · exact Nat.zero_le _
theorem cn_le : ∀ n, n ≤ 6 → cnG n n 0 (fun _ => 0) ≤ mst n := by decide +kernel
theorem gL_cap {n : Nat} (hn : n ≤ 6) {mt : Nat → Nat → Bool} {tr : Nat → Nat → Int32} {nw : Int32} (row co : Int32) : (gL n mt tr nw n 0 row co (fun _ => 0)).length ≤ mst n :=
  Nat.le_trans (gL_cn n 0 row co _ (fun _ => 0) (fun j hj => absurd hj (Nat.not_lt_zero _))) (cn_le n hn)
