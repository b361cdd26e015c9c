/-! ===== the reference: what its slips are, in naturals ===== -/
def okMV (S : St) : Prop := rulN S = 0 ∨ ∃ p, scn (S 9) (rulN S) = .inl p ∧ 4 ≤ p
def slOk (S : St) (fs : Nat → Int32) : Prop := ∀ a b, a < 4 → b < 4 → fs (4 * a + b) = slM (S 9) (rulN S) a b
def SlR (S S' : St) : Prop := S' = S ∨ ∃ fs, S' = va_up S 19 fs ∧ slOk S fs
def m_slip (S : St) (i j : Int32) : Int32 := if f_in i (nI 0) (nI 3) = 0 ∨ f_in j (nI 0) (nI 3) = 0 then (-2) else slM (S 9) (rulN S) (clN i) (clN j)
def m_cost (S : St) (d1 d2 : Int32) : Int32 := if isDr d1 = 0 ∨ isDr d2 = 0 then (-2) else costF (slM (S 9) (rulN S)) d1 d2 8
theorem costF_cg {sl sl' : Nat → Nat → Int32} (h : ∀ a b, a < 4 → b < 4 → sl a b = sl' a b) (d1 d2 : Int32) : ∀ n, costF sl d1 d2 n = costF sl' d1 d2 n
  | 0 => rfl
  | n + 1 => by
    show costF sl d1 d2 n + _ = costF sl' d1 d2 n + _
    rw [costF_cg h d1 d2 n, h _ _ (stk_lt _ _) (stk_lt _ _)]
theorem co_nat {f : Nat → Int32} {n p : Nat} (hq : scn f n = .inl p) : ∀ i, i ≤ n → ∃ v, coF f i = nI v ∧ v ≤ 99 ∧ (plF f i = 4 → v ≤ 9)
  | 0, _ => ⟨0, rfl, by omega, fun _ => by omega⟩
  | i + 1, hi => by
    obtain ⟨v, h1, h2, h3⟩ := co_nat hq i (by omega)
    obtain ⟨hp5, g, _⟩ := pl_go hq (show i < n by omega)
    have hco : coF f (i + 1) = if plF f i = 3 then f i - nI 48 else if plF f i = 4 ∧ isDg (f i) = true then coF f i * nI 10 + f i - nI 48 else coF f i := rfl
    rcases (show plF f i = 0 ∨ plF f i = 1 ∨ plF f i = 2 ∨ plF f i = 3 ∨ plF f i = 4 ∨ plF f i = 5 by omega) with e | e | e | e | e | e
    · rw [e] at g
      exact ⟨v, by rw [hco, if_neg (by omega), if_neg (by omega), h1], h2, fun w => by have := (nxt_0 g).1; omega⟩
    · rw [e] at g
      exact ⟨v, by rw [hco, if_neg (by omega), if_neg (by omega), h1], h2, fun w => by have := (nxt_1 g).1; omega⟩
    · rw [e] at g
      exact ⟨v, by rw [hco, if_neg (by omega), if_neg (by omega), h1], h2, fun w => by have := (nxt_2 g).1; omega⟩
    · rw [e] at g
      obtain ⟨d, hd, ed⟩ := isDg_d (nxt_3 g).2
      exact ⟨d, by rw [hco, if_pos e, ed, Nat.add_comm, nI_sub48], by omega, fun _ => hd⟩
    · rw [e] at g
      rcases nxt_4 g with ⟨g1, g2⟩ | ⟨g1, g2⟩
      · obtain ⟨d, hd, ed⟩ := isDg_d g2
        have := h3 e
        exact ⟨v * 10 + d, by rw [hco, if_neg (by omega), if_pos ⟨e, g2⟩, h1, ed, pk_mul, nI_add, show v * 10 + (48 + d) = v * 10 + d + 48 by omega, nI_sub48], by omega, fun w => by omega⟩
      · exact ⟨v, by rw [hco, if_neg (by omega), if_neg (fun q => absurd q.2 (by rw [g2]; decide)), h1], h2, fun w => by omega⟩
    · rw [e] at g
      exact ⟨v, by rw [hco, if_neg (by omega), if_neg (by omega), h1], h2, fun w => by have := (nxt_5 g).1; omega⟩
theorem mF_nat {f : Nat → Int32} {n p : Nat} (hq : scn f n = .inl p) {a b : Nat} (ha : a < 4) (hb : b < 4) : ∀ i, i ≤ n → mF f n (inU Zg 16) i a b = (-1) ∨ ∃ v, v ≤ 99 ∧ mF f n (inU Zg 16) i a b = nI v
  | 0, _ => by
    have h : mF f n (inU Zg 16) 0 a b = if a = b then nI 0 else (-1) := if_pos ⟨by omega, hb⟩
    by_cases e : a = b
    · exact Or.inr ⟨0, by omega, by rw [h, if_pos e]⟩
    · exact Or.inl (by rw [h, if_neg e])
  | i + 1, hi => by
    have ih := mF_nat hq ha hb i (by omega)
    show (if lnE f n i then fillU (mF f n (inU Zg 16) i) (frF f (i + 1)) (toF f (i + 1)) (coF f (i + 1)) 16 else mF f n (inU Zg 16) i) a b = (-1) ∨ ∃ v, v ≤ 99 ∧ (if lnE f n i then fillU (mF f n (inU Zg 16) i) (frF f (i + 1)) (toF f (i + 1)) (coF f (i + 1)) 16 else mF f n (inU Zg 16) i) a b = nI v
    by_cases e : lnE f n i = true
    · rw [if_pos e]
      unfold fillU
      by_cases w : 4 * a + b < 16 ∧ b < 4 ∧ (fitK (frF f (i + 1)) a && fitK (toF f (i + 1)) b && mF f n (inU Zg 16) i a b == (-1)) = true
      · rw [if_pos w]
        obtain ⟨v, h1, h2, _⟩ := co_nat hq (i + 1) hi
        exact Or.inr ⟨v, h2, h1⟩
      · rw [if_neg w]; exact ih
    · rw [if_neg e]; exact ih
theorem slM_ex {f : Nat → Int32} {n : Nat} (hV : n = 0 ∨ ∃ p, scn f n = .inl p ∧ 4 ≤ p) {a b : Nat} (ha : a < 4) (hb : b < 4) : ∃ v, v ≤ 99 ∧ slM f n a b = nI v := by
  unfold slM
  by_cases e : n = 0
  · rw [if_pos e]
    by_cases w : a = b
    · exact ⟨0, by omega, by rw [if_pos w]⟩
    · exact ⟨10, by omega, by rw [if_neg w]⟩
  · rw [if_neg e]
    obtain ⟨p, hq, _⟩ := hV.resolve_left e
    unfold rdM fillU
    by_cases w : 4 * a + b < 16 ∧ b < 4 ∧ (fitK (nI 42) a && fitK (nI 42) b && mF f n (inU Zg 16) n a b == (-1)) = true
    · rw [if_pos w]; exact ⟨10, by omega, rfl⟩
    · rw [if_neg w]
      rcases mF_nat hq ha hb n (Nat.le_refl _) with q | q
      · have hf1 : ∀ j, fitK (nI 42) j = true := fun j => by unfold fitK; rw [beqT rfl]; rfl
        exact absurd ⟨by omega, hb, bAt (bAt (hf1 a) (hf1 b)) (beqT q)⟩ w
      · exact q
def slN (f : Nat → Int32) (n a b : Nat) : Nat := clN (slM f n a b)
theorem slM_nat {f : Nat → Int32} {n : Nat} (hV : n = 0 ∨ ∃ p, scn f n = .inl p ∧ 4 ≤ p) {a b : Nat} (ha : a < 4) (hb : b < 4) : slM f n a b = nI (slN f n a b) ∧ slN f n a b ≤ 99 := by
  obtain ⟨v, h1, h2⟩ := slM_ex hV ha hb
  have e : slN f n a b = v := by unfold slN clN; rw [h2]; exact nI_clamp (by omega)
  rw [e]
  exact ⟨h2, h1⟩
def cstN (sl : Nat → Nat → Nat) (d1 d2 : Int32) : Nat → Nat
  | 0 => 0
  | n + 1 => cstN sl d1 d2 n + sl (stk d1 n) (stk d2 n)
theorem cst_nat {sl : Nat → Nat → Int32} {sn : Nat → Nat → Nat} (h : ∀ a b, a < 4 → b < 4 → sl a b = nI (sn a b) ∧ sn a b ≤ 99) (d1 d2 : Int32) : ∀ n, costF sl d1 d2 n = nI (cstN sn d1 d2 n) ∧ cstN sn d1 d2 n ≤ n * 99
  | 0 => ⟨rfl, Nat.le_refl _⟩
  | n + 1 => by
    obtain ⟨h1, h2⟩ := cst_nat h d1 d2 n
    obtain ⟨h3, h4⟩ := h (stk d1 n) (stk d2 n) (stk_lt _ _) (stk_lt _ _)
    refine ⟨?_, ?_⟩
    · show costF sl d1 d2 n + sl (stk d1 n) (stk d2 n) = nI (cstN sn d1 d2 n + sn (stk d1 n) (stk d2 n))
      rw [h1, h3, nI_add]
    · show cstN sn d1 d2 n + sn (stk d1 n) (stk d2 n) ≤ _
      omega
/-! ===== the trees laid ===== -/
def okMB (S : St) : Prop := S 5 0 = nI (clN (S 5 0)) ∧ clN (S 5 0) ≤ 9999
def mtB (S : St) (p x : Nat) : Bool := decide (x < mpcN S) && decide (¬ x = p) && decide (S 2 x ≤ S 3 p)
def mtr (S : St) (p x : Nat) : Nat := if x = 6 then clN (S 5 0) else if mtB S p x then cstN (slN (S 9) (rulN S)) (S 1 x) (S 1 p) 8 else 100000000
def trU (f : Nat → Int32) (tv : Nat → Nat → Nat) (m : Nat) : Nat → Int32 := fun e => if e < m then nI (tv (e / 7) (e % 7)) else f e
theorem trU_0 {f : Nat → Int32} {tv : Nat → Nat → Nat} : trU f tv 0 = f := by
  funext e
  exact if_neg (by omega)
theorem trU_s {f : Nat → Int32} {tv : Nat → Nat → Nat} {p x v : Nat} (hx : x < 7) (h : v = tv p x) : upd (trU f tv (7 * p + x)) (7 * p + x) (nI v) = trU f tv (7 * p + (x + 1)) := by
  funext e
  by_cases q : e = 7 * p + x
  · subst q
    rw [pk_us, h]
    unfold trU
    rw [if_pos (by omega), show (7 * p + x) / 7 = p by omega, show (7 * p + x) % 7 = x by omega]
  · rw [pk_un q]
    unfold trU
    by_cases w : e < 7 * p + x
    · exact (if_pos w).trans (if_pos (by omega)).symm
    · exact (if_neg w).trans (if_neg (by omega)).symm
def lcF (tv : Nat → Nat → Nat) (n : Nat) : Nat → Nat
  | 0 => 100000000
  | c + 1 => if lrN tv n c < lcF tv n c then lrN tv n c else lcF tv n c
def lmF (tv : Nat → Nat → Nat) (n : Nat) : Nat → Nat
  | 0 => 0
  | c + 1 => if lrN tv n c < 100000000 then (if lrN tv n c < lcF tv n c then 1 else if lrN tv n c = lcF tv n c then lmF tv n c + 1 else lmF tv n c) else lmF tv n c
def mtn (tv : Nat → Nat → Nat) (n c : Nat) : Nat := cntB (fun c => decide (lrN tv n c < 100000000)) c
theorem lcF_le (tv : Nat → Nat → Nat) (n : Nat) : ∀ c, lcF tv n c ≤ 100000000
  | 0 => Nat.le_refl _
  | c + 1 => by
    have := lcF_le tv n c
    unfold lcF
    split <;> omega
theorem lmF_le (tv : Nat → Nat → Nat) (n : Nat) : ∀ c, lmF tv n c ≤ c
  | 0 => Nat.le_refl _
  | c + 1 => by
    have := lmF_le tv n c
    unfold lmF
    split
    · split
      · omega
      · split <;> omega
    · omega
/-- what is laid: the slips, the tracings, the least, how many, the trees -/
def okLd (S : St) : Prop := slOk S (S 19) ∧ okTv S (mtr S) ∧ S 22 0 = nI (lcF (mtr S) (mpcN S) (7 ^ mpcN S)) ∧ S 23 0 = nI (lmF (mtr S) (mpcN S) (7 ^ mpcN S)) ∧ S 24 0 = nI (mtn (mtr S) (mpcN S) (7 ^ mpcN S))
def LM (S S' : St) : Prop := (∀ r, (r < 18 ∨ 24 < r) → S' r = S r) ∧ S' 18 0 = nI 1 ∧ okLd S'
theorem mtr_cg {S S' : St} (h : ∀ r, r < 18 → S' r = S r) : mtr S' = mtr S := by
  funext p x
  unfold mtr mtB mpcN rulN
  rw [h 5 (by omega), h 0 (by omega), h 2 (by omega), h 3 (by omega), h 9 (by omega), h 8 (by omega), h 1 (by omega)]
theorem mtr_6 {S : St} {p : Nat} : mtr S p 6 = clN (S 5 0) := if_pos rfl
theorem mtr_far {S : St} {p x : Nat} (hx : ¬ x = 6) (h : mtB S p x = false) : mtr S p x = 100000000 := by
  unfold mtr
  rw [if_neg hx, if_neg (by rw [h]; decide)]
theorem mtr_near {S : St} {p x : Nat} (hx : ¬ x = 6) (h : mtB S p x = true) : mtr S p x = cstN (slN (S 9) (rulN S)) (S 1 x) (S 1 p) 8 := by
  unfold mtr
  rw [if_neg hx, if_pos h]
theorem mtr_le {S : St} (hB : okMB S) (hV : okMV S) (p x : Nat) : mtr S p x ≤ 100000000 ∧ (mtr S p x < 100000000 → x < mpcN S ∨ x = 6) := by
  by_cases e : x = 6
  · refine ⟨?_, fun _ => Or.inr e⟩
    rw [e, mtr_6]
    have := hB.2
    omega
  · cases h : mtB S p x with
    | false => rw [mtr_far e h]; exact ⟨Nat.le_refl _, fun q => absurd q (Nat.lt_irrefl _)⟩
    | true =>
      have h2 := (cst_nat (sn := slN (S 9) (rulN S)) (sl := slM (S 9) (rulN S)) (fun a b ha hb => slM_nat hV ha hb) (S 1 x) (S 1 p) 8).2
      rw [mtr_near e h]
      refine ⟨by omega, fun _ => Or.inl ?_⟩
      unfold mtB at h
      simp only [Bool.and_eq_true, decide_eq_true_eq] at h
      exact h.1.1
set_option maxHeartbeats 4000000 in
set_option maxRecDepth 20000 in
theorem c_X7_slip (l : Launch) (D : va_G) (k : Nat → ClassId) (q : Nat → Nat) (S : St) (X : va_W) (i : Int32) (j : Int32) (hL : okML S) (hV : okMV S) : CI l D k yX7_slip cX7_slip 3 (some .int) 2 0 0 [.ref (q 30), .int i, .int j] (wM k q S X) (fun r w' => ∃ S', w' = wM k q S' X ∧ SlR S S' ∧ r = m_slip S i j) := by
  refine CI.mk (by decide) (Nat.le_of_ble_eq_true rfl) ?_
  intro p e R s m args below meth c A Q ls F hret hw hl
  have hx := xs_hx F
  have hb := xs_hb F
  have hl : lv_has ls 3 [(0, .ref (q 30)), (1, .int i), (2, .int j)] := hl
  have hl50 := hL.2
  refine lv_iload_n hx hb dX7_slip_0 rfl (lv_at hl 1 rfl) ?_
  refine lv_iconst (v := nI 0) hx hb dX7_slip_1 rfl ?_
  refine lv_iconst (v := nI 3) hx hb dX7_slip_2 rfl ?_
  refine x_fSI (rest := []) (c_X7_in l D k (wM k q S X) i (nI 0) (nI 3)) mo_X7_69 F hw (Nat.le_of_ble_eq_true rfl) (x_cs F (Nat.le_of_ble_eq_true rfl) (Nat.le_of_ble_eq_true rfl)) rfl rfl hl.1 (Nat.le_of_ble_eq_true rfl) dX7_slip_3 (fun H locs hw => ?_)
  refine lv_if_eq (tgt := 18) hx hb dX7_slip_6 rfl (fun c6 => ?_) (fun c6 => ?_)
  · refine lv_bipush (v := (-2)) hx hb dX7_slip_18 rfl ?_
    exact hret _ _ _ _ _ _ dX7_slip_20 hw rfl ⟨S, rfl, Or.inl rfl, by unfold m_slip; first | exact (if_pos (Or.inl c6)).symm | exact (if_pos (Or.inr c15)).symm⟩
  · refine lv_iload_n hx hb dX7_slip_9 rfl (lv_at hl 2 rfl) ?_
    refine lv_iconst (v := nI 0) hx hb dX7_slip_10 rfl ?_
    refine lv_iconst (v := nI 3) hx hb dX7_slip_11 rfl ?_
    refine x_fSI (rest := []) (c_X7_in l D k (wM k q S X) j (nI 0) (nI 3)) mo_X7_69 F hw (Nat.le_of_ble_eq_true rfl) (x_cs F (Nat.le_of_ble_eq_true rfl) (Nat.le_of_ble_eq_true rfl)) rfl rfl hl.1 (Nat.le_of_ble_eq_true rfl) dX7_slip_12 (fun H locs hw => ?_)
    refine lv_if_ne (tgt := 21) hx hb dX7_slip_15 rfl (fun c15 => ?_) (fun c15 => ?_)
    · have hi := f_in_t (by omega) c6
      have hj := f_in_t (by omega) c15
      refine lv_aload_n hx hb dX7_slip_21 rfl (lv_at hl 0 rfl) ?_
      refine x_callVV (rest := []) (c_X7_laySlips l D k q S X hL hV) mo_X7_101 obM F hw (Nat.le_of_ble_eq_true rfl) (x_cs F (Nat.le_of_ble_eq_true rfl) (Nat.le_of_ble_eq_true rfl)) rfl rfl hl.1 (Nat.le_of_ble_eq_true rfl) dX7_slip_22 (fun w_ H locs hp hw => ?_)
      obtain ⟨fs, hp1, hsl⟩ := hp
      rw [hp1] at hw
      have hsl : slOk S fs := hsl
      refine lv_aload_n hx hb dX7_slip_25 rfl (lv_at hl 0 rfl) ?_
      refine x_getr frM_19 F hw fo_X7_49 dX7_slip_26 ?_
      refine lv_iconst (v := nI 4) hx hb dX7_slip_29 rfl ?_
      refine lv_iload_n hx hb dX7_slip_30 rfl (lv_at hl 1 rfl) ?_
      refine x_top (y := nI (clN i)) hi.1 ?_
      refine lv_imul hx hb dX7_slip_31 ?_
      refine x_top (y := nI (4 * (clN i))) (pk_mul _ _) ?_
      refine lv_iload_n hx hb dX7_slip_32 rfl (lv_at hl 2 rfl) ?_
      refine x_top (y := nI (clN j)) hj.1 ?_
      refine lv_iadd hx hb dX7_slip_33 ?_
      refine x_top (y := nI ((4 * (clN i)) + (clN j))) (nI_add _ _) ?_
      refine x_iald aiM_19 F hw ((4 * (clN i)) + (clN j)) rfl (by omega) dX7_slip_34 ?_
      refine x_top (y := fs ((4 * (clN i)) + (clN j))) rfl ?_
      exact hret _ _ _ _ _ _ dX7_slip_35 hw rfl ⟨_, rfl, Or.inr ⟨fs, rfl, hsl⟩, by unfold m_slip; rw [if_neg (fun q => q.elim c6 c15)]; exact hsl _ _ (by omega) (by omega)⟩
    · refine lv_bipush (v := (-2)) hx hb dX7_slip_18 rfl ?_
      exact hret _ _ _ _ _ _ dX7_slip_20 hw rfl ⟨S, rfl, Or.inl rfl, by unfold m_slip; first | exact (if_pos (Or.inl c6)).symm | exact (if_pos (Or.inr c15)).symm⟩
set_option maxHeartbeats 4000000 in
set_option maxRecDepth 20000 in
theorem c_X7_cost (l : Launch) (D : va_G) (k : Nat → ClassId) (q : Nat → Nat) (S : St) (X : va_W) (d1 : Int32) (d2 : Int32) (hL : okML S) (hV : okMV S) : CI l D k yX7_cost cX7_cost 3 (some .int) 2 0 0 [.ref (q 30), .int d1, .int d2] (wM k q S X) (fun r w' => ∃ S', w' = wM k q S' X ∧ SlR S S' ∧ r = m_cost S d1 d2) := by
  refine CI.mk (by decide) (Nat.le_of_ble_eq_true rfl) ?_
  intro p e R s m args below meth c A Q ls F hret hw hl
  have hx := xs_hx F
  have hb := xs_hb F
  have hl : lv_has ls 3 [(0, .ref (q 30)), (1, .int d1), (2, .int d2)] := hl
  have hl50 := hL.2
  refine lv_iload_n hx hb dX7_cost_0 rfl (lv_at hl 1 rfl) ?_
  refine x_fSI (rest := []) (c_X7_isDrawing l D k (wM k q S X) d1) mo_X7_74 F hw (Nat.le_of_ble_eq_true rfl) (x_cs F (Nat.le_of_ble_eq_true rfl) (Nat.le_of_ble_eq_true rfl)) rfl rfl hl.1 (Nat.le_of_ble_eq_true rfl) dX7_cost_1 (fun H locs hw => ?_)
  refine lv_if_eq (tgt := 14) hx hb dX7_cost_4 rfl (fun c4 => ?_) (fun c4 => ?_)
  · refine lv_bipush (v := (-2)) hx hb dX7_cost_14 rfl ?_
    exact hret _ _ _ _ _ _ dX7_cost_16 hw rfl ⟨S, rfl, Or.inl rfl, by unfold m_cost; first | exact (if_pos (Or.inl c4)).symm | exact (if_pos (Or.inr c11)).symm⟩
  · refine lv_iload_n hx hb dX7_cost_7 rfl (lv_at hl 2 rfl) ?_
    refine x_fSI (rest := []) (c_X7_isDrawing l D k (wM k q S X) d2) mo_X7_74 F hw (Nat.le_of_ble_eq_true rfl) (x_cs F (Nat.le_of_ble_eq_true rfl) (Nat.le_of_ble_eq_true rfl)) rfl rfl hl.1 (Nat.le_of_ble_eq_true rfl) dX7_cost_8 (fun H locs hw => ?_)
    refine lv_if_ne (tgt := 17) hx hb dX7_cost_11 rfl (fun c11 => ?_) (fun c11 => ?_)
    · refine lv_aload_n hx hb dX7_cost_17 rfl (lv_at hl 0 rfl) ?_
      refine x_callVV (rest := []) (c_X7_laySlips l D k q S X hL hV) mo_X7_101 obM F hw (Nat.le_of_ble_eq_true rfl) (x_cs F (Nat.le_of_ble_eq_true rfl) (Nat.le_of_ble_eq_true rfl)) rfl rfl hl.1 (Nat.le_of_ble_eq_true rfl) dX7_cost_18 (fun w_ H locs hp hw => ?_)
      obtain ⟨fs, hp1, hsl⟩ := hp
      rw [hp1] at hw
      have hsl : slOk S fs := hsl
      refine lv_aload_n hx hb dX7_cost_21 rfl (lv_at hl 0 rfl) ?_
      refine lv_iload_n hx hb dX7_cost_22 rfl (lv_at hl 1 rfl) ?_
      refine lv_iload_n hx hb dX7_cost_23 rfl (lv_at hl 2 rfl) ?_
      refine x_fVI (rest := []) (c_X7_costOf l D k q (va_up S 19 fs) X d1 d2) mo_X7_108 obM F hw (Nat.le_of_ble_eq_true rfl) (x_cs F (Nat.le_of_ble_eq_true rfl) (Nat.le_of_ble_eq_true rfl)) rfl rfl hl.1 (Nat.le_of_ble_eq_true rfl) dX7_cost_24 (fun H locs hw => ?_)
      exact hret _ _ _ _ _ _ dX7_cost_27 hw rfl ⟨_, rfl, Or.inr ⟨fs, rfl, hsl⟩, by unfold m_cost; rw [if_neg (fun q => q.elim c4 c11)]; exact costF_cg hsl _ _ 8⟩
    · refine lv_bipush (v := (-2)) hx hb dX7_cost_14 rfl ?_
      exact hret _ _ _ _ _ _ dX7_cost_16 hw rfl ⟨S, rfl, Or.inl rfl, by unfold m_cost; first | exact (if_pos (Or.inl c4)).symm | exact (if_pos (Or.inr c11)).symm⟩
