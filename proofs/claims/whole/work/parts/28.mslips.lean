/-! ===== Int32 by its bits: bt x i ===== -/
def bt (x : Int32) (i : Nat) : Bool := x.toBitVec.getLsbD i
theorem b_ext {x y : Int32} (h : ∀ i, i < 32 → bt x i = bt y i) : x = y := Int32.toBitVec_inj.mp (BitVec.eq_of_getLsbD_eq (fun i hi => h i hi))
theorem b_or (x y : Int32) (i : Nat) : bt (x ||| y) i = (bt x i || bt y i) := by unfold bt; rw [Int32.toBitVec_or, BitVec.getLsbD_or]
theorem b_and (x y : Int32) (i : Nat) : bt (x &&& y) i = (bt x i && bt y i) := by unfold bt; rw [Int32.toBitVec_and, BitVec.getLsbD_and]
theorem b_xor (x y : Int32) (i : Nat) : bt (x ^^^ y) i = (bt x i ^^ bt y i) := by unfold bt; rw [Int32.toBitVec_xor, BitVec.getLsbD_xor]
theorem b_big {x : Int32} {i : Nat} (h : 32 ≤ i) : bt x i = false := BitVec.getLsbD_of_ge _ _ h
theorem b_255 (i : Nat) : bt 255 i = decide (i < 8) := by
  rcases Nat.lt_or_ge i 32 with h | h
  · exact (by decide +kernel : ∀ i, i < 32 → bt 255 i = decide (i < 8)) i h
  · rw [b_big h, decide_eq_false (by omega)]
theorem b_65535 (i : Nat) : bt 65535 i = decide (i < 16) := by
  rcases Nat.lt_or_ge i 32 with h | h
  · exact (by decide +kernel : ∀ i, i < 32 → bt 65535 i = decide (i < 16)) i h
  · rw [b_big h, decide_eq_false (by omega)]
theorem b_m1 : ∀ i, i < 32 → bt (-1) i = true := by decide +kernel
theorem b_0 (i : Nat) : bt 0 i = false := BitVec.getLsbD_zero
theorem s_l : ∀ n, n < 32 → ((nI n &&& 31).toBitVec.smod 32).toNat = n := by decide +kernel
theorem s_u : ∀ n, n < 32 → (((nI n).toUInt32 &&& Int32.toUInt32 31).toBitVec % 32).toNat = n := by decide +kernel
theorem b_shl (n : Nat) (hn : n < 32) (x : Int32) {i : Nat} (hi : i < 32) : bt (x <<< (nI n &&& 31)) i = (decide (n ≤ i) && bt x (i - n)) := by
  unfold bt
  rw [Int32.toBitVec_shiftLeft]
  show (x.toBitVec <<< ((nI n &&& 31).toBitVec.smod 32).toNat).getLsbD i = _
  rw [s_l n hn, BitVec.getLsbD_shiftLeft]
  rcases Nat.lt_or_ge i n with h | h
  · simp [h, Nat.not_le.mpr h]
  · simp [hi, h, Nat.not_lt.mpr h]
theorem b_ushr (n : Nat) (hn : n < 32) (x : Int32) (i : Nat) : bt ((x.toUInt32 >>> ((nI n).toUInt32 &&& Int32.toUInt32 31)).toInt32) i = bt x (n + i) := by
  show (x.toUInt32 >>> ((nI n).toUInt32 &&& Int32.toUInt32 31)).toBitVec.getLsbD i = x.toUInt32.toBitVec.getLsbD (n + i)
  rw [UInt32.toBitVec_shiftRight]
  show (x.toUInt32.toBitVec >>> (((nI n).toUInt32 &&& Int32.toUInt32 31).toBitVec % 32).toNat).getLsbD i = _
  rw [s_u n hn, BitVec.getLsbD_ushiftRight]
theorem b_sshr (n : Nat) (hn : n < 32) (x : Int32) {i : Nat} (hi : i < 32) : bt (x >>> (nI n &&& 31)) i = if n + i < 32 then bt x (n + i) else bt x 31 := by
  unfold bt
  rw [Int32.toBitVec_shiftRight]
  show (x.toBitVec.sshiftRight ((nI n &&& 31).toBitVec.smod 32).toNat).getLsbD i = _
  rw [s_l n hn, BitVec.getLsbD_sshiftRight, BitVec.msb_eq_getLsbD_last]
  simp [hi]
theorem b_shl8 (x : Int32) {i : Nat} (hi : i < 32) : bt (x <<< ((8 : Int32) &&& 31)) i = (decide (8 ≤ i) && bt x (i - 8)) := b_shl 8 (by omega) x hi
theorem b_shl16 (x : Int32) {i : Nat} (hi : i < 32) : bt (x <<< ((16 : Int32) &&& 31)) i = (decide (16 ≤ i) && bt x (i - 16)) := b_shl 16 (by omega) x hi
theorem b_shl24 (x : Int32) {i : Nat} (hi : i < 32) : bt (x <<< ((24 : Int32) &&& 31)) i = (decide (24 ≤ i) && bt x (i - 24)) := b_shl 24 (by omega) x hi
theorem b_sshr8 (x : Int32) {i : Nat} (hi : i < 32) : bt (x >>> ((8 : Int32) &&& 31)) i = if 8 + i < 32 then bt x (8 + i) else bt x 31 := b_sshr 8 (by omega) x hi
/-! ===== bits by hbt ===== -/
theorem b_1 : ∀ i, i < 32 → bt (nI 1) i = decide (i = 0) := by decide +kernel
theorem hbt_bt {x : Int32} {n : Nat} (hn : n < 32) : hbt x n = bt x n := by
  have h0 : bt ((x >>> (nI n &&& 31)) &&& nI 1) 0 = bt x n := by
    rw [b_and, b_sshr n hn x (by omega), if_pos (by omega), b_1 0 (by omega)]
    simp
  rw [← h0]
  unfold hbt
  rcases and1 (x >>> (nI n &&& 31)) with e | e
  · rw [e]; rfl
  · rw [e]; rfl
theorem hbt_set {x : Int32} {n j : Nat} (hn : n < 32) (hj : j < 32) : hbt (x ||| (nI 1 <<< (nI n &&& 31))) j = (hbt x j || decide (j = n)) := by
  rw [hbt_bt hj, hbt_bt hj, b_or, b_shl n hn _ hj, b_1 _ (by omega)]
  congr 1
  by_cases e : j = n
  · rw [e, decide_eq_true (Nat.le_refl n), Nat.sub_self]; simp
  · rw [decide_eq_false e]
    rcases Nat.lt_or_ge j n with q | q
    · rw [decide_eq_false (by omega)]; rfl
    · rw [decide_eq_false (show ¬ j - n = 0 by omega)]; simp
/-! ===== the reference's slips: pure words ===== -/
def RSl (M : Nat → Nat → Int32) (fs : Nat → Int32) (sn : Int32) : Prop := ∀ i, i < 16 → (i / 4 = i % 4 ∧ fs i = nI 0 ∧ M (i / 4) (i % 4) = nI 0) ∨ (¬ i / 4 = i % 4 ∧ hbt sn i = true ∧ M (i / 4) (i % 4) = fs i ∧ ¬ fs i = (-1)) ∨ (¬ i / 4 = i % 4 ∧ hbt sn i = false ∧ M (i / 4) (i % 4) = (-1) ∧ fs i = nI 10)
theorem rsl_M {M : Nat → Nat → Int32} {fr to co : Int32} {i : Nat} : fillU M fr to co i (i / 4) (i % 4) = M (i / 4) (i % 4) := by
  have h := fillU_at (M := M) (fr := fr) (to := to) (co := co) (a := i / 4) (b := i % 4)
  rw [show 4 * (i / 4) + i % 4 = i by omega] at h
  exact h
theorem rsl_eq {M : Nat → Nat → Int32} {fr to co : Int32} {i : Nat} (h : (fitK fr (i / 4) && fitK to (i % 4) && M (i / 4) (i % 4) == (-1)) = false) : fillU M fr to co i = fillU M fr to co (i + 1) := by
  have h2 := fillU_n (M := M) (fr := fr) (to := to) (co := co) (a := i / 4) (b := i % 4) (by omega) h
  rw [show 4 * (i / 4) + (i % 4 + 1) = i + 1 by omega, show 4 * (i / 4) + i % 4 = i by omega] at h2
  exact h2
theorem rsl_d {M : Nat → Nat → Int32} {fr to co sn : Int32} {fs : Nat → Int32} {i : Nat} (hi : i < 16) (h : RSl (fillU M fr to co i) fs sn) (e : i / 4 = i % 4) : RSl (fillU M fr to co (i + 1)) fs sn := by
  rw [← rsl_eq (bA1 ?_)]
  · exact h
  · rcases h i hi with q | q | q
    · rw [← rsl_M (M := M) (i := i) (fr := fr) (to := to) (co := co), q.2.2]; rfl
    · exact absurd e q.1
    · exact absurd e q.1
theorem rsl_s {M : Nat → Nat → Int32} {fr to co sn : Int32} {fs : Nat → Int32} {i : Nat} (hi : i < 16) (h : RSl (fillU M fr to co i) fs sn) (e : hbt sn i = true) : RSl (fillU M fr to co (i + 1)) fs sn := by
  rw [← rsl_eq (bA1 ?_)]
  · exact h
  · rcases h i hi with q | q | q
    · rw [← rsl_M (M := M) (i := i) (fr := fr) (to := to) (co := co), q.2.2]; rfl
    · rw [← rsl_M (M := M) (i := i) (fr := fr) (to := to) (co := co), q.2.2.1]; exact beqF q.2.2.2
    · rw [q.2.1] at e; exact absurd e (by decide)
theorem rsl_f {M : Nat → Nat → Int32} {fr to co sn : Int32} {fs : Nat → Int32} {i : Nat} (h : RSl (fillU M fr to co i) fs sn) (e : (fitK fr (i / 4) && fitK to (i % 4)) = false) : RSl (fillU M fr to co (i + 1)) fs sn := by
  rw [← rsl_eq (bA0 e)]
  exact h
theorem nI_nm1 {v : Nat} (h : v < 1000) : ¬ nI v = (-1) := by
  intro e
  have h1 : (0 : Int32) ≤ nI v := nI_pos' (by omega)
  rw [e] at h1
  exact absurd h1 (by decide)
theorem rsl_y {M : Nat → Nat → Int32} {fr to sn : Int32} {v : Nat} {fs : Nat → Int32} {i : Nat} (hi : i < 16) (h : RSl (fillU M fr to (nI v) i) fs sn) (e : (fitK fr (i / 4) && fitK to (i % 4)) = true) (ed : ¬ i / 4 = i % 4) (es : hbt sn i = false) (hv : v < 1000) : RSl (fillU M fr to (nI v) (i + 1)) (upd fs i (nI v)) (sn ||| (nI 1 <<< (nI i &&& 31))) := by
  have hM : M (i / 4) (i % 4) = (-1) := by
    rcases h i hi with q | q | q
    · exact absurd q.1 ed
    · rw [q.2.1] at es; exact absurd es (by decide)
    · rw [← rsl_M (M := M) (i := i) (fr := fr) (to := to) (co := nI v)]; exact q.2.2.1
  intro j hj
  rw [hbt_set (by omega) (by omega)]
  by_cases q : j = i
  · subst q
    refine Or.inr (Or.inl ⟨ed, ?_, ?_, ?_⟩)
    · rw [decide_eq_true rfl]; cases hbt sn j <;> rfl
    · rw [pk_us]
      exact if_pos ⟨by omega, by omega, bAt e (beqT hM)⟩
    · rw [pk_us]; exact nI_nm1 hv
  · have hf : fillU M fr to (nI v) (i + 1) (j / 4) (j % 4) = fillU M fr to (nI v) i (j / 4) (j % 4) := by
      unfold fillU
      by_cases w : 4 * (j / 4) + j % 4 < i ∧ j % 4 < 4 ∧ (fitK fr (j / 4) && fitK to (j % 4) && M (j / 4) (j % 4) == (-1)) = true
      · rw [if_pos w, if_pos ⟨by omega, w.2⟩]
      · rw [if_neg w, if_neg (fun z => w ⟨by omega, z.2⟩)]
    rw [hf, pk_un q, decide_eq_false q, Bool.or_false]
    exact h j hj
def iS (f : Nat → Int32) (n : Nat) : Nat → Int32 := fun e => if e < n then (if e / 4 = e % 4 then nI 0 else nI 10) else f e
theorem iS_s {f : Nat → Int32} {i : Nat} {v : Int32} (h : v = if i / 4 = i % 4 then nI 0 else nI 10) : upd (iS f i) i v = iS f (i + 1) := by
  funext e
  by_cases q : e = i
  · subst q; rw [pk_us, h]; exact (if_pos (by omega)).symm
  · rw [pk_un q]
    unfold iS
    by_cases w : e < i
    · exact (if_pos w).trans (if_pos (by omega)).symm
    · rw [if_neg w, if_neg (by omega)]
theorem iS_0 {f : Nat → Int32} : iS f 0 = f := by
  funext e
  exact if_neg (by omega)
theorem hbt_z : ∀ i, i < 16 → hbt (nI 0) i = false := by decide +kernel
theorem rsl_0 {f : Nat → Int32} {Z : Nat → Nat → Int32} : RSl (inU Z 16) (iS f 16) (nI 0) := by
  intro i hi
  have h1 : iS f 16 i = if i / 4 = i % 4 then nI 0 else nI 10 := if_pos hi
  have h2 : inU Z 16 (i / 4) (i % 4) = if i / 4 = i % 4 then nI 0 else (-1) := if_pos ⟨by omega, by omega⟩
  by_cases e : i / 4 = i % 4
  · exact Or.inl ⟨e, by rw [h1, if_pos e], by rw [h2, if_pos e]⟩
  · exact Or.inr (Or.inr ⟨e, hbt_z i hi, by rw [h2, if_neg e], by rw [h1, if_neg e]⟩)
/-! a line's signs -/
theorem isDg_d {c : Int32} (h : isDg c = true) : ∃ d, d ≤ 9 ∧ c = nI (48 + d) := by
  unfold isDg at h
  have h := of_decide_eq_true h
  have h1 := (Int32.le_iff_toInt_le).mp h.1
  have h2 := (Int32.le_iff_toInt_le).mp h.2
  have e1 : (nI 48).toInt = 48 := rfl
  have e2 : (nI 57).toInt = 57 := rfl
  refine ⟨c.toInt.toNat - 48, by omega, ?_⟩
  apply Int32.toInt_inj.mp
  rw [show 48 + (c.toInt.toNat - 48) = c.toInt.toNat by omega, nI_toInt (by omega)]
  omega
theorem isDg_59 : isDg (nI 59) = false := by decide
theorem nxt_0 {c : Int32} {p : Nat} (h : nxt 0 c = some p) : p = 1 ∧ ¬ c = nI 59 := by
  unfold nxt at h
  rw [if_pos (by omega)] at h
  split at h
  · rename_i w
    cases h
    refine ⟨rfl, fun e => ?_⟩
    rw [e] at w
    exact absurd w (by decide)
  · cases h
theorem nxt_1 {c : Int32} {p : Nat} (h : nxt 1 c = some p) : p = 2 ∧ ¬ c = nI 59 := by
  unfold nxt at h
  rw [if_pos (by omega)] at h
  split at h
  · rename_i w
    cases h
    refine ⟨rfl, fun e => ?_⟩
    rw [e] at w
    exact absurd w (by decide)
  · cases h
theorem nxt_2 {c : Int32} {p : Nat} (h : nxt 2 c = some p) : p = 3 ∧ ¬ c = nI 59 := by
  unfold nxt at h
  rw [if_neg (by omega), if_pos rfl] at h
  split at h
  · rename_i w
    cases h
    exact ⟨rfl, fun e => absurd (w.symm.trans e) (by decide)⟩
  · cases h
theorem nxt_3 {c : Int32} {p : Nat} (h : nxt 3 c = some p) : p = 4 ∧ isDg c = true := by
  unfold nxt at h
  rw [if_neg (by omega), if_neg (by omega), if_pos rfl] at h
  split at h
  · rename_i w
    cases h
    exact ⟨rfl, w⟩
  · cases h
theorem nxt_4 {c : Int32} {p : Nat} (h : nxt 4 c = some p) : (p = 5 ∧ isDg c = true) ∨ (p = 0 ∧ c = nI 59) := by
  unfold nxt at h
  rw [if_neg (by omega), if_neg (by omega), if_neg (by omega), if_pos rfl] at h
  split at h
  · rename_i w
    cases h
    exact Or.inl ⟨rfl, w⟩
  · split at h
    · rename_i w
      cases h
      exact Or.inr ⟨rfl, w⟩
    · cases h
theorem nxt_5 {c : Int32} {p : Nat} (h : nxt 5 c = some p) : p = 0 ∧ c = nI 59 := by
  unfold nxt at h
  rw [if_neg (by omega), if_neg (by omega), if_neg (by omega), if_neg (by omega)] at h
  split at h
  · rename_i w
    cases h
    exact ⟨rfl, w⟩
  · cases h
theorem ln4 {f : Nat → Int32} {n p kk : Nat} (hq : scn f n = .inl p) (hp : 4 ≤ p) (hk : kk ≤ n) (h0 : plF f kk = 0) : kk + 3 < n ∧ plF f (kk + 1) = 1 ∧ plF f (kk + 2) = 2 ∧ plF f (kk + 3) = 3 ∧ ¬ f kk = nI 59 ∧ ¬ f (kk + 1) = nI 59 ∧ ¬ f (kk + 2) = nI 59 := by
  have hn := (scn_pl hq).1
  have k0 : kk < n := by
    rcases Nat.lt_or_ge kk n with w | w
    · exact w
    · rw [show n = kk by omega] at hn; omega
  have g0 := (pl_go hq k0).2.1
  rw [h0] at g0
  obtain ⟨p1, s1⟩ := nxt_0 g0
  have k1 : kk + 1 < n := by
    rcases Nat.lt_or_ge (kk + 1) n with w | w
    · exact w
    · rw [show n = kk + 1 by omega] at hn; omega
  have g1 := (pl_go hq k1).2.1
  rw [p1] at g1
  obtain ⟨p2, s2⟩ := nxt_1 g1
  have k2 : kk + 2 < n := by
    rcases Nat.lt_or_ge (kk + 2) n with w | w
    · exact w
    · rw [show n = kk + 1 + 1 by omega] at hn; omega
  have g2 := (pl_go hq k2).2.1
  rw [p2] at g2
  obtain ⟨p3, s3⟩ := nxt_2 g2
  have k3 : kk + 3 < n := by
    rcases Nat.lt_or_ge (kk + 3) n with w | w
    · exact w
    · rw [show n = kk + 2 + 1 by omega] at hn; omega
  exact ⟨k3, p1, p2, p3, s1, s2, s3⟩
/-- how far a line's number is read -/
def Ds (f : Nat → Int32) (kk x v : Nat) : Prop := (x = kk + 3 ∧ v = 0) ∨ (x = kk + 4 ∧ plF f x = 4 ∧ v ≤ 9 ∧ coF f x = nI v) ∨ (x = kk + 5 ∧ plF f x = 5 ∧ v ≤ 99 ∧ coF f x = nI v ∧ ¬ f (kk + 4) = nI 59)
theorem nI_sub48 (a : Nat) : nI (a + 48) - nI 48 = nI a := by
  rw [← nI_add, Int32.add_sub_cancel]
theorem Ds_go {f : Nat → Int32} {n p kk x v : Nat} (hq : scn f n = .inl p) (hp : 4 ≤ p) (hk : kk ≤ n) (h0 : plF f kk = 0) (h : Ds f kk x v) (hx : x < n) (hs : ¬ f x = nI 59) : ∃ d, d ≤ 9 ∧ f x = nI (48 + d) ∧ Ds f kk (x + 1) (10 * v + d) := by
  obtain ⟨k3, p1, p2, p3, s1, s2, s3⟩ := ln4 hq hp hk h0
  have g := (pl_go hq hx).2.1
  rcases h with ⟨e, ev⟩ | ⟨e, e2, ev, ec⟩ | ⟨e, e2, ev, ec, _⟩
  · subst e
    rw [p3] at g
    obtain ⟨g1, g2⟩ := nxt_3 g
    obtain ⟨d, hd, ed⟩ := isDg_d g2
    refine ⟨d, hd, ed, Or.inr (Or.inl ⟨rfl, g1, by omega, ?_⟩)⟩
    show (if plF f (kk + 3) = 3 then f (kk + 3) - nI 48 else _) = _
    rw [if_pos p3, ed, Nat.add_comm, nI_sub48, ev]
    congr 1
    omega
  · subst e
    rw [e2] at g
    rcases nxt_4 g with ⟨g1, g2⟩ | ⟨g1, g2⟩
    · obtain ⟨d, hd, ed⟩ := isDg_d g2
      refine ⟨d, hd, ed, Or.inr (Or.inr ⟨rfl, g1, by omega, ?_, hs⟩)⟩
      show (if plF f (kk + 4) = 3 then f (kk + 4) - nI 48 else if plF f (kk + 4) = 4 ∧ isDg (f (kk + 4)) = true then coF f (kk + 4) * nI 10 + f (kk + 4) - nI 48 else _) = _
      rw [if_neg (by omega), if_pos ⟨e2, g2⟩, ec, ed, pk_mul, nI_add, show v * 10 + (48 + d) = 10 * v + d + 48 by omega, nI_sub48]
    · exact absurd g2 hs
  · subst e
    rw [e2] at g
    exact absurd (nxt_5 g).2 hs
theorem lnE_n {f : Nat → Int32} {n i : Nat} (h : ¬ i = n - 1) (h2 : ¬ f i = nI 59) : ¬ lnE f n i = true := by
  unfold lnE
  rw [decide_eq_false h, beqF h2]
  decide
theorem mF_n {f : Nat → Int32} {n i : Nat} {M : Nat → Nat → Int32} (h : ¬ i = n - 1) (h2 : ¬ f i = nI 59) : mF f n M (i + 1) = mF f n M i := if_neg (lnE_n h h2)
theorem ln_fr {f : Nat → Int32} {i : Nat} (h : ¬ plF f i = 0) : frF f (i + 1) = frF f i := if_neg h
theorem ln_to {f : Nat → Int32} {i : Nat} (h : ¬ plF f i = 1) : toF f (i + 1) = toF f i := if_neg h
theorem ln_end {f : Nat → Int32} {n p kk x v : Nat} {M : Nat → Nat → Int32} (hq : scn f n = .inl p) (hp : 4 ≤ p) (hk : kk ≤ n) (h0 : plF f kk = 0) (h : Ds f kk x v) (hx : x ≤ n) (hs : x = n ∨ f x = nI 59) : v ≤ 99 ∧ mF f n M (min (x + 1) n) = fillU (mF f n M (min kk n)) (f kk) (f (kk + 1)) (nI v) 16 ∧ ((x + 1 ≤ n ∧ plF f (x + 1) = 0) ∨ x + 1 = n + 1) := by
  obtain ⟨k3, p1, p2, p3, s1, s2, s3⟩ := ln4 hq hp hk h0
  have g3 := (pl_go hq k3).2.1
  rw [p3] at g3
  obtain ⟨p4, s4⟩ := nxt_3 g3
  have p4 : plF f (kk + 4) = 4 := p4
  have s4' : ¬ f (kk + 3) = nI 59 := fun e => by rw [e] at s4; exact absurd s4 (by decide)
  have a3 : kk + 3 < x := by
    rcases h with ⟨e, ev⟩ | ⟨e, _⟩ | ⟨e, _⟩
    · rw [e] at hs
      rcases hs with w | w
      · omega
      · exact absurd w s4'
    · omega
    · omega
  have fr1 : frF f (kk + 1) = f kk := if_pos h0
  have fr4 : frF f (kk + 4) = f kk := by rw [ln_fr (by omega), ln_fr (by omega), ln_fr (by omega), fr1]
  have to2 : toF f (kk + 2) = f (kk + 1) := if_pos p1
  have to4 : toF f (kk + 4) = f (kk + 1) := by rw [ln_to (by omega), ln_to (by omega), to2]
  have M3 : mF f n M (kk + 3) = mF f n M kk := by rw [mF_n (by omega) s3, mF_n (by omega) s2, mF_n (by omega) s1]
  rw [Nat.min_eq_left hk]
  have hv : v ≤ 99 := by rcases h with ⟨e, ev⟩ | ⟨e, _, ev, _⟩ | ⟨e, _, ev, _⟩ <;> omega
  refine ⟨hv, ?_⟩
  -- the place, and what is read there
  have hxx : (x = kk + 4 ∧ plF f x = 4) ∨ (x = kk + 5 ∧ plF f x = 5 ∧ ¬ f (kk + 4) = nI 59) := by
    rcases h with ⟨e, ev⟩ | ⟨e, e2, _⟩ | ⟨e, e2, _, _, e3⟩
    · omega
    · exact Or.inl ⟨e, e2⟩
    · exact Or.inr ⟨e, e2, e3⟩
  have hco : coF f x = nI v := by
    rcases h with ⟨e, ev⟩ | ⟨e, _, _, ec⟩ | ⟨e, _, _, ec, _⟩
    · omega
    · exact ec
    · exact ec
  have hfr : frF f x = f kk := by
    rcases hxx with ⟨e, _⟩ | ⟨e, _, _⟩
    · rw [e]; exact fr4
    · rw [e, ln_fr (by omega)]; exact fr4
  have hto : toF f x = f (kk + 1) := by
    rcases hxx with ⟨e, _⟩ | ⟨e, _, _⟩
    · rw [e]; exact to4
    · rw [e, ln_to (by omega)]; exact to4
  rcases Nat.lt_or_ge x n with w | w
  · have h59 : f x = nI 59 := hs.resolve_left (by omega)
    rw [Nat.min_eq_left (by omega)]
    have g := (pl_go hq w).2.1
    have hz : plF f (x + 1) = 0 := by
      rcases hxx with ⟨_, e⟩ | ⟨_, e, _⟩
      · rw [e] at g
        rcases nxt_4 g with ⟨_, g2⟩ | ⟨g1, _⟩
        · rw [h59, isDg_59] at g2; exact absurd g2 (by decide)
        · exact g1
      · rw [e] at g; exact (nxt_5 g).1
    refine ⟨?_, Or.inl ⟨by omega, hz⟩⟩
    have hMx : mF f n M x = mF f n M kk := by
      rcases hxx with ⟨e, _⟩ | ⟨e, _, e3⟩
      · rw [e, mF_n (by omega) s4']; exact M3
      · rw [e, mF_n (by omega) e3, mF_n (by omega) s4']; exact M3
    have hE : lnE f n x = true := by unfold lnE; rw [beqT h59]; exact Bool.or_true _
    have hc2 : coF f (x + 1) = nI v := by
      show (if plF f x = 3 then _ else if plF f x = 4 ∧ isDg (f x) = true then _ else coF f x) = _
      rw [if_neg (by omega), if_neg (fun q => absurd q.2 (by rw [h59]; decide))]
      exact hco
    show (if lnE f n x then fillU (mF f n M x) (frF f (x + 1)) (toF f (x + 1)) (coF f (x + 1)) 16 else _) = _
    rw [if_pos hE, hMx, ln_fr (by omega), ln_to (by omega), hfr, hto, hc2]
  · have hxn : x = n := by omega
    rw [Nat.min_eq_right (by omega)]
    refine ⟨?_, Or.inr (by omega)⟩
    have hE : lnE f n (x - 1) = true := by unfold lnE; rw [decide_eq_true (by omega)]; rfl
    have hMx : mF f n M (x - 1) = mF f n M kk := by
      rcases hxx with ⟨e, _⟩ | ⟨e, _, e3⟩
      · rw [show x - 1 = kk + 3 by omega]; exact M3
      · rw [show x - 1 = kk + 3 + 1 by omega, mF_n (by omega) s4']; exact M3
    have hx1 : x - 1 + 1 = x := by omega
    have h2 : mF f n M (x - 1 + 1) = fillU (mF f n M (x - 1)) (frF f (x - 1 + 1)) (toF f (x - 1 + 1)) (coF f (x - 1 + 1)) 16 := if_pos hE
    rw [hx1, hMx, hfr, hto, hco] at h2
    exact (congrArg (mF f n M) hxn.symm).trans h2
def Zg : Nat → Nat → Int32 := fun _ _ => 0
def slM (f : Nat → Int32) (n a b : Nat) : Int32 := if n = 0 then (if a = b then nI 0 else nI 10) else rdM f n Zg a b
theorem RSl_end {f fs : Nat → Int32} {n : Nat} {sn : Int32} (h : RSl (mF f n (inU Zg 16) n) fs sn) {a b : Nat} (ha : a < 4) (hb : b < 4) : fs (4 * a + b) = slM f n a b := by
  have h1 := h (4 * a + b) (by omega)
  rw [show (4 * a + b) / 4 = a by omega, show (4 * a + b) % 4 = b by omega] at h1
  have hf1 : ∀ j, fitK (nI 42) j = true := fun j => by unfold fitK; rw [beqT rfl]; rfl
  have hR : rdM f n Zg a b = if mF f n (inU Zg 16) n a b = (-1) then nI 10 else mF f n (inU Zg 16) n a b := by
    unfold rdM fillU
    by_cases e : mF f n (inU Zg 16) n a b = (-1)
    · rw [if_pos e, if_pos ⟨by omega, hb, bAt (bAt (hf1 a) (hf1 b)) (beqT e)⟩]
    · rw [if_neg e, if_neg (fun q => absurd q.2.2 (by rw [bA1 (beqF e)]; decide))]
  have hA : fs (4 * a + b) = rdM f n Zg a b := by
    rw [hR]
    rcases h1 with q | q | q
    · rw [q.2.1, q.2.2, if_neg (by decide)]
    · rw [q.2.2.1, if_neg q.2.2.2]
    · rw [q.2.2.2, if_pos q.2.2.1]
  unfold slM
  by_cases e : n = 0
  · rw [if_pos e, hA, hR]
    subst e
    have hM : mF f 0 (inU Zg 16) 0 a b = if a = b then nI 0 else (-1) := if_pos ⟨by omega, hb⟩
    rw [hM]
    by_cases w : a = b
    · rw [if_pos w, if_pos w, if_neg (by decide)]
    · rw [if_neg w, if_neg w, if_pos rfl]
  · rw [if_neg e]; exact hA
set_option maxHeartbeats 4000000 in
set_option maxRecDepth 20000 in
theorem c_X7_laySlips (l : Launch) (D : va_G) (k : Nat → ClassId) (q : Nat → Nat) (S : St) (X : va_W) (hL : okML S) (hV : rulN S = 0 ∨ ∃ p, scn (S 9) (rulN S) = .inl p ∧ 4 ≤ p) : CV l D k yX7_laySlips cX7_laySlips 8 1 0 0 [.ref (q 30)] (wM k q S X) (fun w' => ∃ fs, w' = wM k q (va_up S 19 fs) X ∧ ∀ a b, a < 4 → b < 4 → fs (4 * a + b) = slM (S 9) (rulN S) a b) := by
  refine CV.mk (by decide) (Nat.le_of_ble_eq_true rfl) ?_
  intro p e R s m args below meth c A Q ls F hnm hret hw hl
  have hx := xs_hx F
  have hb := xs_hb F
  have hl : lv_has ls 8 [(0, .ref (q 30))] := hl
  have hl50 := hL.2
  refine lv_iconst (v := nI 0) hx hb dX7_laySlips_0 rfl ?_
  refine lv_istore_n (lv' := [(1, .int (nI 0)), (0, .ref (q 30))]) hx hb dX7_laySlips_1 rfl hl (Nat.le_of_ble_eq_true rfl) rfl (fun ls hl => ?_)
  have K2 : ∀ (n2_ : Nat) (i : Nat) (fs : Nat → Int32) (H : Heap) (locs : List Loc) (ls : Array Slot), 16 - i < n2_ → (i ≤ 16) → (fs = iS (S 19) i) → Wd D A s.heap H locs (wM k q (va_up S 19 fs) X) → lv_has ls 8 [(0, .ref (q 30)), (1, .int (nI i))] → W p l e R s m args below meth c H locs 0 0 Q (F0 m 2 ls []) := by
    intro n2_
    induction n2_ with
    | zero =>
      intro i fs H locs ls hn2_
      exact absurd hn2_ (Nat.not_lt_zero _)
    | succ n2_ ih2_ =>
      intro i fs H locs ls hn2_ hi h1 hw hl
      refine lv_iload_n hx hb dX7_laySlips_2 rfl (lv_at hl 1 rfl) ?_
      refine lv_bipush (v := nI 16) hx hb dX7_laySlips_3 rfl ?_
      refine x_icmp_ge i 16 F (by omega) (by omega) (tgt := 35) dX7_laySlips_5 rfl (fun c5 => ?_) (fun c5 => ?_)
      · refine lv_iconst (v := nI 0) hx hb dX7_laySlips_35 rfl ?_
        refine lv_istore_n (lv' := [(1, .int (nI 0)), (0, .ref (q 30))]) hx hb dX7_laySlips_36 rfl hl (Nat.le_of_ble_eq_true rfl) rfl (fun ls hl => ?_)
        refine lv_iconst (v := nI 0) hx hb dX7_laySlips_37 rfl ?_
        refine lv_istore_n (lv' := [(2, .int (nI 0)), (1, .int (nI 0)), (0, .ref (q 30))]) hx hb dX7_laySlips_38 rfl hl (Nat.le_of_ble_eq_true rfl) rfl (fun ls hl => ?_)
        have K39 : ∀ (n39_ : Nat) (kk : Nat) (fs : Nat → Int32) (sn : Int32) (H : Heap) (locs : List Loc) (ls : Array Slot), rulN S + 1 - kk < n39_ → (kk ≤ rulN S + 1) → ((kk ≤ rulN S ∧ plF (S 9) kk = 0) ∨ kk = rulN S + 1) → (RSl (mF (S 9) (rulN S) (inU Zg 16) (min kk (rulN S))) fs sn) → Wd D A s.heap H locs (wM k q (va_up S 19 fs) X) → lv_has ls 8 [(0, .ref (q 30)), (1, .int sn), (2, .int (nI kk))] → W p l e R s m args below meth c H locs 0 0 Q (F0 m 39 ls []) := by
          intro n39_
          induction n39_ with
          | zero =>
            intro kk fs sn H locs ls hn39_
            exact absurd hn39_ (Nat.not_lt_zero _)
          | succ n39_ ih39_ =>
            intro kk fs sn H locs ls hn39_ hkk hp hR hw hl
            refine lv_iload_n hx hb dX7_laySlips_39 rfl (lv_at hl 2 rfl) ?_
            refine lv_aload_n hx hb dX7_laySlips_40 rfl (lv_at hl 0 rfl) ?_
            refine x_geti fiM_8 F hw fo_X7_95 dX7_laySlips_41 ?_
            refine x_top (y := S 8 0) rfl ?_
            refine x_top (y := nI (rulN S)) hL.1 ?_
            refine x_icmp_ge kk (rulN S) F (by omega) (by omega) (tgt := 218) dX7_laySlips_44 rfl (fun c44 => ?_) (fun c44 => ?_)
            · exact hret _ _ _ _ _ dX7_laySlips_218 hw ⟨_, rfl, fun a b ha hb => RSl_end (by rw [Nat.min_eq_right (show rulN S ≤ kk by omega)] at hR; exact hR) ha hb⟩
            · have hkn : kk ≤ rulN S ∧ plF (S 9) kk = 0 := hp.resolve_right (by omega)
              obtain ⟨pq, hq, hp4⟩ := hV.resolve_left (by omega)
              obtain ⟨k3, _, _, _, _, _, _⟩ := ln4 hq hp4 hkn.1 hkn.2
              refine lv_aload_n hx hb dX7_laySlips_47 rfl (lv_at hl 0 rfl) ?_
              refine x_getr frM_9 F hw fo_X7_28 dX7_laySlips_48 ?_
              refine lv_iload_n hx hb dX7_laySlips_51 rfl (lv_at hl 2 rfl) ?_
              refine x_iald aiM_9 F hw kk rfl (by omega) dX7_laySlips_52 ?_
              refine x_top (y := S 9 kk) rfl ?_
              refine lv_istore_n (lv' := [(3, .int (S 9 kk)), (0, .ref (q 30)), (1, .int sn), (2, .int (nI kk))]) hx hb dX7_laySlips_53 rfl hl (Nat.le_of_ble_eq_true rfl) rfl (fun ls hl => ?_)
              refine lv_aload_n hx hb dX7_laySlips_54 rfl (lv_at hl 1 rfl) ?_
              refine x_getr frM_9 F hw fo_X7_28 dX7_laySlips_55 ?_
              refine lv_iload_n hx hb dX7_laySlips_58 rfl (lv_at hl 3 rfl) ?_
              refine lv_iconst (v := nI 1) hx hb dX7_laySlips_59 rfl ?_
              refine lv_iadd hx hb dX7_laySlips_60 ?_
              refine x_top (y := nI (kk + 1)) (nI_add _ _) ?_
              refine x_iald aiM_9 F hw (kk + 1) rfl (by omega) dX7_laySlips_61 ?_
              refine x_top (y := S 9 (kk + 1)) rfl ?_
              refine lv_istore (lv' := [(4, .int (S 9 (kk + 1))), (3, .int (S 9 kk)), (0, .ref (q 30)), (1, .int sn), (2, .int (nI kk))]) hx hb dX7_laySlips_62 hl (Nat.le_of_ble_eq_true rfl) rfl (fun ls hl => ?_)
              refine lv_iinc (v := nI (kk + 3)) (lv' := [(2, .int (nI (kk + 3))), (4, .int (S 9 (kk + 1))), (3, .int (S 9 kk)), (0, .ref (q 30)), (1, .int sn)]) hx hb dX7_laySlips_64 hl (k := 4) rfl (nI_add _ 3) (Nat.le_of_ble_eq_true rfl) rfl (fun ls hl => ?_)
              refine lv_iconst (v := nI 0) hx hb dX7_laySlips_67 rfl ?_
              refine lv_istore (lv' := [(5, .int (nI 0)), (2, .int (nI (kk + 3))), (4, .int (S 9 (kk + 1))), (3, .int (S 9 kk)), (0, .ref (q 30)), (1, .int sn)]) hx hb dX7_laySlips_68 hl (Nat.le_of_ble_eq_true rfl) rfl (fun ls hl => ?_)
              have K70 : ∀ (n70_ : Nat) (x : Nat) (v : Nat) (H : Heap) (locs : List Loc) (ls : Array Slot), rulN S - x < n70_ → (x ≤ rulN S) → (v ≤ 99) → (Ds (S 9) kk x v) → Wd D A s.heap H locs (wM k q (va_up S 19 fs) X) → lv_has ls 8 [(0, .ref (q 30)), (1, .int sn), (2, .int (nI x)), (3, .int (S 9 kk)), (4, .int (S 9 (kk + 1))), (5, .int (nI v))] → W p l e R s m args below meth c H locs 0 0 Q (F0 m 70 ls []) := by
                intro n70_
                induction n70_ with
                | zero =>
                  intro x v H locs ls hn70_
                  exact absurd hn70_ (Nat.not_lt_zero _)
                | succ n70_ ih70_ =>
                  intro x v H locs ls hn70_ hx1 hv hD hw hl
                  refine lv_iload_n hx hb dX7_laySlips_70 rfl (lv_at hl 2 rfl) ?_
                  refine lv_aload_n hx hb dX7_laySlips_71 rfl (lv_at hl 0 rfl) ?_
                  refine x_geti fiM_8 F hw fo_X7_95 dX7_laySlips_72 ?_
                  refine x_top (y := S 8 0) rfl ?_
                  refine x_top (y := nI (rulN S)) hL.1 ?_
                  have K112 : ∀ (H : Heap) (locs : List Loc) (ls : Array Slot), (x = rulN S ∨ S 9 x = nI 59) → Wd D A s.heap H locs (wM k q (va_up S 19 fs) X) → lv_has ls 8 [(0, .ref (q 30)), (1, .int sn), (2, .int (nI x)), (3, .int (S 9 kk)), (4, .int (S 9 (kk + 1))), (5, .int (nI v))] → W p l e R s m args below meth c H locs 0 0 Q (F0 m 112 ls []) := by
                    intro H locs ls hs hw hl
                    have hxk : kk < x := by rcases hD with w | w | w <;> omega
                    obtain ⟨hv9, hME, hN⟩ := ln_end (M := inU Zg 16) hq hp4 hkn.1 hkn.2 hD hx1 hs
                    refine lv_iinc (v := nI (x + 1)) (lv' := [(2, .int (nI (x + 1))), (0, .ref (q 30)), (1, .int sn), (3, .int (S 9 kk)), (4, .int (S 9 (kk + 1))), (5, .int (nI v))]) hx hb dX7_laySlips_112 hl (k := 2) rfl (nI_1 _) (Nat.le_of_ble_eq_true rfl) rfl (fun ls hl => ?_)
                    refine lv_iconst (v := nI 0) hx hb dX7_laySlips_115 rfl ?_
                    refine lv_istore (lv' := [(6, .int (nI 0)), (2, .int (nI (x + 1))), (0, .ref (q 30)), (1, .int sn), (3, .int (S 9 kk)), (4, .int (S 9 (kk + 1))), (5, .int (nI v))]) hx hb dX7_laySlips_116 hl (Nat.le_of_ble_eq_true rfl) rfl (fun ls hl => ?_)
                    have K118 : ∀ (n118_ : Nat) (i : Nat) (fs : Nat → Int32) (sn : Int32) (H : Heap) (locs : List Loc) (ls : Array Slot), 16 - i < n118_ → (i ≤ 16) → (RSl (fillU (mF (S 9) (rulN S) (inU Zg 16) (min kk (rulN S))) (S 9 kk) (S 9 (kk + 1)) (nI v) i) fs sn) → Wd D A s.heap H locs (wM k q (va_up S 19 fs) X) → lv_has ls 8 [(0, .ref (q 30)), (1, .int sn), (2, .int (nI (x + 1))), (3, .int (S 9 kk)), (4, .int (S 9 (kk + 1))), (5, .int (nI v)), (6, .int (nI i))] → W p l e R s m args below meth c H locs 0 0 Q (F0 m 118 ls []) := by
                      intro n118_
                      induction n118_ with
                      | zero =>
                        intro i fs sn H locs ls hn118_
                        exact absurd hn118_ (Nat.not_lt_zero _)
                      | succ n118_ ih118_ =>
                        intro i fs sn H locs ls hn118_ hi hR2 hw hl
                        refine lv_iload hx hb dX7_laySlips_118 (lv_at hl 6 rfl) ?_
                        refine lv_bipush (v := nI 16) hx hb dX7_laySlips_120 rfl ?_
                        refine x_icmp_ge i 16 F (by omega) (by omega) (tgt := 215) dX7_laySlips_122 rfl (fun c122 => ?_) (fun c122 => ?_)
                        · refine lv_goto (tgt := 39) hx hb dX7_laySlips_215 rfl ?_
                          exact ih39_ (x + 1) fs sn _ _ _ (by first | omega | (simp only [] at *; omega)) (by first | assumption | omega | rfl) (by exact hN) (by rw [hME]; rw [show i = 16 by omega] at hR2; exact hR2) hw (lv_sub hl [0, 1, 2] rfl)
                        · refine lv_iload_n hx hb dX7_laySlips_125 rfl (lv_at hl 3 rfl) ?_
                          refine lv_bipush (v := nI 42) hx hb dX7_laySlips_126 rfl ?_
                          have K166 : ∀ (t : Bool) (H : Heap) (locs : List Loc) (ls : Array Slot), (t = (fitK (S 9 kk) (i / 4) && fitK (S 9 (kk + 1)) (i % 4))) → Wd D A s.heap H locs (wM k q (va_up S 19 fs) X) → lv_has ls 8 [(0, .ref (q 30)), (1, .int sn), (2, .int (nI (x + 1))), (3, .int (S 9 kk)), (4, .int (S 9 (kk + 1))), (5, .int (nI v)), (6, .int (nI i))] → W p l e R s m args below meth c H locs 0 0 Q (F0 m 166 ls [.int (b01 t)]) := by
                            intro t H locs ls h166 hw hl
                            refine lv_istore (lv' := [(7, .int (b01 t)), (0, .ref (q 30)), (1, .int sn), (2, .int (nI (x + 1))), (3, .int (S 9 kk)), (4, .int (S 9 (kk + 1))), (5, .int (nI v)), (6, .int (nI i))]) hx hb dX7_laySlips_166 hl (Nat.le_of_ble_eq_true rfl) rfl (fun ls hl => ?_)
                            refine lv_iload hx hb dX7_laySlips_168 (lv_at hl 0 rfl) ?_
                            refine lv_if_eq (tgt := 209) hx hb dX7_laySlips_170 rfl (fun c170 => ?_) (fun c170 => ?_)
                            · refine lv_iinc (v := nI (i + 1)) (lv' := [(6, .int (nI (i + 1))), (7, .int (b01 t)), (0, .ref (q 30)), (1, .int sn), (2, .int (nI (x + 1))), (3, .int (S 9 kk)), (4, .int (S 9 (kk + 1))), (5, .int (nI v))]) hx hb dX7_laySlips_209 hl (k := 7) rfl (nI_1 _) (Nat.le_of_ble_eq_true rfl) rfl (fun ls hl => ?_)
                              refine lv_goto (tgt := 118) hx hb dX7_laySlips_212 rfl ?_
                              exact ih118_ (i + 1) fs sn _ _ _ (by first | omega | (simp only [] at *; omega)) (by first | assumption | omega | rfl) (by first | exact rsl_f hR2 (h166.symm.trans (b01_0.mp c170)) | exact rsl_d (by omega) hR2 c181 | exact rsl_s (by omega) hR2 (bneT c190) | exact rsl_y (by omega) hR2 (h166.symm.trans (b01_1.mp c170)) c181 (bneF c190) (by omega)) hw (lv_sub hl [2, 3, 4, 5, 6, 7, 0] rfl)
                            · refine lv_iload hx hb dX7_laySlips_173 (lv_at hl 7 rfl) ?_
                              refine lv_iconst (v := nI 4) hx hb dX7_laySlips_175 rfl ?_
                              refine lv_idiv hx hb dX7_laySlips_176 (by decide) ?_
                              refine x_top (y := nI (i / 4)) (pk_div (by omega) (by omega) (by omega)) ?_
                              refine lv_iload hx hb dX7_laySlips_177 (lv_at hl 7 rfl) ?_
                              refine lv_iconst (v := nI 4) hx hb dX7_laySlips_179 rfl ?_
                              refine lv_irem hx hb dX7_laySlips_180 (by decide) ?_
                              refine x_top (y := nI (i % 4)) (pk_rem (by omega) (by omega) (by omega)) ?_
                              refine x_icmp_eq (i / 4) (i % 4) F (by omega) (by omega) (tgt := 209) dX7_laySlips_181 rfl (fun c181 => ?_) (fun c181 => ?_)
                              · refine lv_iinc (v := nI (i + 1)) (lv' := [(6, .int (nI (i + 1))), (7, .int (b01 t)), (0, .ref (q 30)), (1, .int sn), (2, .int (nI (x + 1))), (3, .int (S 9 kk)), (4, .int (S 9 (kk + 1))), (5, .int (nI v))]) hx hb dX7_laySlips_209 hl (k := 7) rfl (nI_1 _) (Nat.le_of_ble_eq_true rfl) rfl (fun ls hl => ?_)
                                refine lv_goto (tgt := 118) hx hb dX7_laySlips_212 rfl ?_
                                exact ih118_ (i + 1) fs sn _ _ _ (by first | omega | (simp only [] at *; omega)) (by first | assumption | omega | rfl) (by first | exact rsl_f hR2 (h166.symm.trans (b01_0.mp c170)) | exact rsl_d (by omega) hR2 c181 | exact rsl_s (by omega) hR2 (bneT c190) | exact rsl_y (by omega) hR2 (h166.symm.trans (b01_1.mp c170)) c181 (bneF c190) (by omega)) hw (lv_sub hl [2, 3, 4, 5, 6, 7, 0] rfl)
                              · refine lv_iload_n hx hb dX7_laySlips_184 rfl (lv_at hl 2 rfl) ?_
                                refine lv_iload hx hb dX7_laySlips_185 (lv_at hl 7 rfl) ?_
                                refine lv_ishr hx hb dX7_laySlips_187 ?_
                                refine lv_iconst (v := nI 1) hx hb dX7_laySlips_188 rfl ?_
                                refine lv_iand hx hb dX7_laySlips_189 ?_
                                refine lv_if_ne (tgt := 209) hx hb dX7_laySlips_190 rfl (fun c190 => ?_) (fun c190 => ?_)
                                · refine lv_iinc (v := nI (i + 1)) (lv' := [(6, .int (nI (i + 1))), (7, .int (b01 t)), (0, .ref (q 30)), (1, .int sn), (2, .int (nI (x + 1))), (3, .int (S 9 kk)), (4, .int (S 9 (kk + 1))), (5, .int (nI v))]) hx hb dX7_laySlips_209 hl (k := 7) rfl (nI_1 _) (Nat.le_of_ble_eq_true rfl) rfl (fun ls hl => ?_)
                                  refine lv_goto (tgt := 118) hx hb dX7_laySlips_212 rfl ?_
                                  exact ih118_ (i + 1) fs sn _ _ _ (by first | omega | (simp only [] at *; omega)) (by first | assumption | omega | rfl) (by first | exact rsl_f hR2 (h166.symm.trans (b01_0.mp c170)) | exact rsl_d (by omega) hR2 c181 | exact rsl_s (by omega) hR2 (bneT c190) | exact rsl_y (by omega) hR2 (h166.symm.trans (b01_1.mp c170)) c181 (bneF c190) (by omega)) hw (lv_sub hl [2, 3, 4, 5, 6, 7, 0] rfl)
                                · refine lv_aload_n hx hb dX7_laySlips_193 rfl (lv_at hl 1 rfl) ?_
                                  refine x_getr frM_19 F hw fo_X7_49 dX7_laySlips_194 ?_
                                  refine lv_iload hx hb dX7_laySlips_197 (lv_at hl 7 rfl) ?_
                                  refine lv_iload hx hb dX7_laySlips_199 (lv_at hl 6 rfl) ?_
                                  refine x_iast aiM_19 F hw i rfl (by omega) dX7_laySlips_201 (fun H locs hw => ?_)
                                  refine lv_iload_n hx hb dX7_laySlips_202 rfl (lv_at hl 2 rfl) ?_
                                  refine lv_iconst (v := nI 1) hx hb dX7_laySlips_203 rfl ?_
                                  refine lv_iload hx hb dX7_laySlips_204 (lv_at hl 7 rfl) ?_
                                  refine lv_ishl hx hb dX7_laySlips_206 ?_
                                  refine lv_ior hx hb dX7_laySlips_207 ?_
                                  refine lv_istore_n (lv' := [(1, .int (sn ||| ((nI 1) <<< ((nI i) &&& 31)))), (7, .int (b01 t)), (0, .ref (q 30)), (2, .int (nI (x + 1))), (3, .int (S 9 kk)), (4, .int (S 9 (kk + 1))), (5, .int (nI v)), (6, .int (nI i))]) hx hb dX7_laySlips_208 rfl hl (Nat.le_of_ble_eq_true rfl) rfl (fun ls hl => ?_)
                                  refine lv_iinc (v := nI (i + 1)) (lv' := [(6, .int (nI (i + 1))), (1, .int (sn ||| ((nI 1) <<< ((nI i) &&& 31)))), (7, .int (b01 t)), (0, .ref (q 30)), (2, .int (nI (x + 1))), (3, .int (S 9 kk)), (4, .int (S 9 (kk + 1))), (5, .int (nI v))]) hx hb dX7_laySlips_209 hl (k := 7) rfl (nI_1 _) (Nat.le_of_ble_eq_true rfl) rfl (fun ls hl => ?_)
                                  refine lv_goto (tgt := 118) hx hb dX7_laySlips_212 rfl ?_
                                  exact ih118_ (i + 1) (upd fs i (nI v)) (sn ||| ((nI 1) <<< ((nI i) &&& 31))) _ _ _ (by first | omega | (simp only [] at *; omega)) (by first | assumption | omega | rfl) (by first | exact rsl_f hR2 (h166.symm.trans (b01_0.mp c170)) | exact rsl_d (by omega) hR2 c181 | exact rsl_s (by omega) hR2 (bneT c190) | exact rsl_y (by omega) hR2 (h166.symm.trans (b01_1.mp c170)) c181 (bneF c190) (by omega)) hw (lv_sub hl [3, 1, 4, 5, 6, 7, 0] rfl)
                          refine lv_icmp_eq (tgt := 142) hx hb dX7_laySlips_128 rfl (fun c128 => ?_) (fun c128 => ?_)
                          · refine lv_iload hx hb dX7_laySlips_142 (lv_at hl 4 rfl) ?_
                            refine lv_bipush (v := nI 42) hx hb dX7_laySlips_144 rfl ?_
                            refine lv_icmp_eq (tgt := 161) hx hb dX7_laySlips_146 rfl (fun c146 => ?_) (fun c146 => ?_)
                            · refine lv_iconst (v := nI 1) hx hb dX7_laySlips_161 rfl ?_
                              refine lv_goto (tgt := 166) hx hb dX7_laySlips_162 rfl ?_
                              exact K166 true _ _ _ (by unfold fitK; first | exact (bAt (bO0 (beqT c128)) (bO0 (beqT c146))).symm | exact (bAt (bO0 (beqT c128)) (bO1 (beqT c158))).symm | exact (bAt (bO1 (beqT c139)) (bO0 (beqT c146))).symm | exact (bAt (bO1 (beqT c139)) (bO1 (beqT c158))).symm | exact (bA0 (bOf (beqF c128) (beqF c139))).symm | exact (bA1 (bOf (beqF c146) (beqF c158))).symm) hw (lv_sub hl [0, 1, 2, 3, 4, 5, 6] rfl)
                            · refine lv_iload hx hb dX7_laySlips_149 (lv_at hl 4 rfl) ?_
                              refine lv_bipush (v := nI 48) hx hb dX7_laySlips_151 rfl ?_
                              refine lv_isub hx hb dX7_laySlips_153 ?_
                              refine lv_iload hx hb dX7_laySlips_154 (lv_at hl 6 rfl) ?_
                              refine lv_iconst (v := nI 4) hx hb dX7_laySlips_156 rfl ?_
                              refine lv_irem hx hb dX7_laySlips_157 (by decide) ?_
                              refine x_top (y := nI (i % 4)) (pk_rem (by omega) (by omega) (by omega)) ?_
                              refine lv_icmp_ne (tgt := 165) hx hb dX7_laySlips_158 rfl (fun c158 => ?_) (fun c158 => ?_)
                              · refine lv_iconst (v := nI 0) hx hb dX7_laySlips_165 rfl ?_
                                exact K166 false _ _ _ (by unfold fitK; first | exact (bAt (bO0 (beqT c128)) (bO0 (beqT c146))).symm | exact (bAt (bO0 (beqT c128)) (bO1 (beqT c158))).symm | exact (bAt (bO1 (beqT c139)) (bO0 (beqT c146))).symm | exact (bAt (bO1 (beqT c139)) (bO1 (beqT c158))).symm | exact (bA0 (bOf (beqF c128) (beqF c139))).symm | exact (bA1 (bOf (beqF c146) (beqF c158))).symm) hw (lv_sub hl [0, 1, 2, 3, 4, 5, 6] rfl)
                              · refine lv_iconst (v := nI 1) hx hb dX7_laySlips_161 rfl ?_
                                refine lv_goto (tgt := 166) hx hb dX7_laySlips_162 rfl ?_
                                exact K166 true _ _ _ (by unfold fitK; first | exact (bAt (bO0 (beqT c128)) (bO0 (beqT c146))).symm | exact (bAt (bO0 (beqT c128)) (bO1 (beqT c158))).symm | exact (bAt (bO1 (beqT c139)) (bO0 (beqT c146))).symm | exact (bAt (bO1 (beqT c139)) (bO1 (beqT c158))).symm | exact (bA0 (bOf (beqF c128) (beqF c139))).symm | exact (bA1 (bOf (beqF c146) (beqF c158))).symm) hw (lv_sub hl [0, 1, 2, 3, 4, 5, 6] rfl)
                          · refine lv_iload_n hx hb dX7_laySlips_131 rfl (lv_at hl 3 rfl) ?_
                            refine lv_bipush (v := nI 48) hx hb dX7_laySlips_132 rfl ?_
                            refine lv_isub hx hb dX7_laySlips_134 ?_
                            refine lv_iload hx hb dX7_laySlips_135 (lv_at hl 6 rfl) ?_
                            refine lv_iconst (v := nI 4) hx hb dX7_laySlips_137 rfl ?_
                            refine lv_idiv hx hb dX7_laySlips_138 (by decide) ?_
                            refine x_top (y := nI (i / 4)) (pk_div (by omega) (by omega) (by omega)) ?_
                            refine lv_icmp_ne (tgt := 165) hx hb dX7_laySlips_139 rfl (fun c139 => ?_) (fun c139 => ?_)
                            · refine lv_iconst (v := nI 0) hx hb dX7_laySlips_165 rfl ?_
                              exact K166 false _ _ _ (by unfold fitK; first | exact (bAt (bO0 (beqT c128)) (bO0 (beqT c146))).symm | exact (bAt (bO0 (beqT c128)) (bO1 (beqT c158))).symm | exact (bAt (bO1 (beqT c139)) (bO0 (beqT c146))).symm | exact (bAt (bO1 (beqT c139)) (bO1 (beqT c158))).symm | exact (bA0 (bOf (beqF c128) (beqF c139))).symm | exact (bA1 (bOf (beqF c146) (beqF c158))).symm) hw (lv_sub hl [0, 1, 2, 3, 4, 5, 6] rfl)
                            · refine lv_iload hx hb dX7_laySlips_142 (lv_at hl 4 rfl) ?_
                              refine lv_bipush (v := nI 42) hx hb dX7_laySlips_144 rfl ?_
                              refine lv_icmp_eq (tgt := 161) hx hb dX7_laySlips_146 rfl (fun c146 => ?_) (fun c146 => ?_)
                              · refine lv_iconst (v := nI 1) hx hb dX7_laySlips_161 rfl ?_
                                refine lv_goto (tgt := 166) hx hb dX7_laySlips_162 rfl ?_
                                exact K166 true _ _ _ (by unfold fitK; first | exact (bAt (bO0 (beqT c128)) (bO0 (beqT c146))).symm | exact (bAt (bO0 (beqT c128)) (bO1 (beqT c158))).symm | exact (bAt (bO1 (beqT c139)) (bO0 (beqT c146))).symm | exact (bAt (bO1 (beqT c139)) (bO1 (beqT c158))).symm | exact (bA0 (bOf (beqF c128) (beqF c139))).symm | exact (bA1 (bOf (beqF c146) (beqF c158))).symm) hw (lv_sub hl [0, 1, 2, 3, 4, 5, 6] rfl)
                              · refine lv_iload hx hb dX7_laySlips_149 (lv_at hl 4 rfl) ?_
                                refine lv_bipush (v := nI 48) hx hb dX7_laySlips_151 rfl ?_
                                refine lv_isub hx hb dX7_laySlips_153 ?_
                                refine lv_iload hx hb dX7_laySlips_154 (lv_at hl 6 rfl) ?_
                                refine lv_iconst (v := nI 4) hx hb dX7_laySlips_156 rfl ?_
                                refine lv_irem hx hb dX7_laySlips_157 (by decide) ?_
                                refine x_top (y := nI (i % 4)) (pk_rem (by omega) (by omega) (by omega)) ?_
                                refine lv_icmp_ne (tgt := 165) hx hb dX7_laySlips_158 rfl (fun c158 => ?_) (fun c158 => ?_)
                                · refine lv_iconst (v := nI 0) hx hb dX7_laySlips_165 rfl ?_
                                  exact K166 false _ _ _ (by unfold fitK; first | exact (bAt (bO0 (beqT c128)) (bO0 (beqT c146))).symm | exact (bAt (bO0 (beqT c128)) (bO1 (beqT c158))).symm | exact (bAt (bO1 (beqT c139)) (bO0 (beqT c146))).symm | exact (bAt (bO1 (beqT c139)) (bO1 (beqT c158))).symm | exact (bA0 (bOf (beqF c128) (beqF c139))).symm | exact (bA1 (bOf (beqF c146) (beqF c158))).symm) hw (lv_sub hl [0, 1, 2, 3, 4, 5, 6] rfl)
                                · refine lv_iconst (v := nI 1) hx hb dX7_laySlips_161 rfl ?_
                                  refine lv_goto (tgt := 166) hx hb dX7_laySlips_162 rfl ?_
                                  exact K166 true _ _ _ (by unfold fitK; first | exact (bAt (bO0 (beqT c128)) (bO0 (beqT c146))).symm | exact (bAt (bO0 (beqT c128)) (bO1 (beqT c158))).symm | exact (bAt (bO1 (beqT c139)) (bO0 (beqT c146))).symm | exact (bAt (bO1 (beqT c139)) (bO1 (beqT c158))).symm | exact (bA0 (bOf (beqF c128) (beqF c139))).symm | exact (bA1 (bOf (beqF c146) (beqF c158))).symm) hw (lv_sub hl [0, 1, 2, 3, 4, 5, 6] rfl)
                    exact K118 _ 0 fs sn _ _ _ (Nat.lt_succ_self _) (by first | assumption | omega | rfl) (by rw [fillU_0]; exact hR) hw (lv_sub hl [2, 3, 1, 4, 5, 6, 0] rfl)
                  refine x_icmp_ge x (rulN S) F (by omega) (by omega) (tgt := 112) dX7_laySlips_75 rfl (fun c75 => ?_) (fun c75 => ?_)
                  · exact K112 _ _ _ (by first | exact Or.inl (by omega) | exact Or.inr c86) hw (lv_sub hl [0, 1, 2, 3, 4, 5] rfl)
                  · refine lv_aload_n hx hb dX7_laySlips_78 rfl (lv_at hl 0 rfl) ?_
                    refine x_getr frM_9 F hw fo_X7_28 dX7_laySlips_79 ?_
                    refine lv_iload_n hx hb dX7_laySlips_82 rfl (lv_at hl 2 rfl) ?_
                    refine x_iald aiM_9 F hw x rfl (by omega) dX7_laySlips_83 ?_
                    refine x_top (y := S 9 x) rfl ?_
                    refine lv_bipush (v := nI 59) hx hb dX7_laySlips_84 rfl ?_
                    refine lv_icmp_eq (tgt := 112) hx hb dX7_laySlips_86 rfl (fun c86 => ?_) (fun c86 => ?_)
                    · exact K112 _ _ _ (by first | exact Or.inl (by omega) | exact Or.inr c86) hw (lv_sub hl [0, 1, 2, 3, 4, 5] rfl)
                    · obtain ⟨dg, hdg, edg, hDn⟩ := Ds_go hq hp4 hkn.1 hkn.2 hD (by omega) c86
                      refine lv_bipush (v := nI 10) hx hb dX7_laySlips_89 rfl ?_
                      refine lv_iload hx hb dX7_laySlips_91 (lv_at hl 5 rfl) ?_
                      refine lv_imul hx hb dX7_laySlips_93 ?_
                      refine x_top (y := nI (10 * v)) (pk_mul _ _) ?_
                      refine lv_aload_n hx hb dX7_laySlips_94 rfl (lv_at hl 0 rfl) ?_
                      refine x_getr frM_9 F hw fo_X7_28 dX7_laySlips_95 ?_
                      refine lv_iload_n hx hb dX7_laySlips_98 rfl (lv_at hl 2 rfl) ?_
                      refine x_iald aiM_9 F hw x rfl (by omega) dX7_laySlips_99 ?_
                      refine x_top (y := S 9 x) rfl ?_
                      refine x_top (y := nI (48 + dg)) edg ?_
                      refine lv_iadd hx hb dX7_laySlips_100 ?_
                      refine x_top (y := nI ((10 * v) + (48 + dg))) (nI_add _ _) ?_
                      refine lv_bipush (v := nI 48) hx hb dX7_laySlips_101 rfl ?_
                      refine lv_isub hx hb dX7_laySlips_103 ?_
                      refine x_top (y := nI (10 * v + (48 + dg) - 48)) (pk_sub (by omega)) ?_
                      refine lv_istore (lv' := [(5, .int (nI (10 * v + (48 + dg) - 48))), (0, .ref (q 30)), (1, .int sn), (2, .int (nI x)), (3, .int (S 9 kk)), (4, .int (S 9 (kk + 1)))]) hx hb dX7_laySlips_104 hl (Nat.le_of_ble_eq_true rfl) rfl (fun ls hl => ?_)
                      refine lv_iinc (v := nI (x + 1)) (lv' := [(2, .int (nI (x + 1))), (5, .int (nI (10 * v + (48 + dg) - 48))), (0, .ref (q 30)), (1, .int sn), (3, .int (S 9 kk)), (4, .int (S 9 (kk + 1)))]) hx hb dX7_laySlips_106 hl (k := 3) rfl (nI_1 _) (Nat.le_of_ble_eq_true rfl) rfl (fun ls hl => ?_)
                      refine lv_goto (tgt := 70) hx hb dX7_laySlips_109 rfl ?_
                      exact ih70_ (x + 1) (10 * v + (48 + dg) - 48) _ _ _ (by first | omega | (simp only [] at *; omega)) (by first | assumption | omega | rfl) (by rcases hDn with w | w | w <;> omega) (by rw [show 10 * v + (48 + dg) - 48 = 10 * v + dg by omega]; exact hDn) hw (lv_sub hl [2, 3, 0, 4, 5, 1] rfl)
              exact K70 _ (kk + 3) 0 _ _ _ (Nat.lt_succ_self _) (by first | assumption | omega | rfl) (by omega) (by exact Or.inl ⟨rfl, rfl⟩) hw (lv_sub hl [4, 5, 1, 3, 2, 0] rfl)
        exact K39 _ 0 fs (nI 0) _ _ _ (Nat.lt_succ_self _) (by first | assumption | omega | rfl) (by exact Or.inl ⟨by omega, rfl⟩) (by rw [Nat.zero_min, h1, show i = 16 by omega]; exact rsl_0) hw (lv_sub hl [2, 1, 0] rfl)
      · refine lv_aload_n hx hb dX7_laySlips_8 rfl (lv_at hl 0 rfl) ?_
        refine x_getr frM_19 F hw fo_X7_49 dX7_laySlips_9 ?_
        refine lv_iload_n hx hb dX7_laySlips_12 rfl (lv_at hl 1 rfl) ?_
        refine lv_iload_n hx hb dX7_laySlips_13 rfl (lv_at hl 1 rfl) ?_
        refine lv_iconst (v := nI 4) hx hb dX7_laySlips_14 rfl ?_
        refine lv_idiv hx hb dX7_laySlips_15 (by decide) ?_
        refine x_top (y := nI (i / 4)) (pk_div (by omega) (by omega) (by omega)) ?_
        refine lv_iload_n hx hb dX7_laySlips_16 rfl (lv_at hl 1 rfl) ?_
        refine lv_iconst (v := nI 4) hx hb dX7_laySlips_17 rfl ?_
        refine lv_irem hx hb dX7_laySlips_18 (by decide) ?_
        refine x_top (y := nI (i % 4)) (pk_rem (by omega) (by omega) (by omega)) ?_
        have K28 : ∀ (x : Int32) (H : Heap) (locs : List Loc) (ls : Array Slot), (x = if i / 4 = i % 4 then nI 0 else nI 10) → Wd D A s.heap H locs (wM k q (va_up S 19 fs) X) → lv_has ls 8 [(0, .ref (q 30)), (1, .int (nI i))] → W p l e R s m args below meth c H locs 0 0 Q (F0 m 28 ls [.int x, .int (nI i), .ref (q 19)]) := by
          intro x H locs ls h28 hw hl
          refine x_iast aiM_19 F hw i rfl (by omega) dX7_laySlips_28 (fun H locs hw => ?_)
          refine lv_iinc (v := nI (i + 1)) (lv' := [(1, .int (nI (i + 1))), (0, .ref (q 30))]) hx hb dX7_laySlips_29 hl (k := 1) rfl (nI_1 _) (Nat.le_of_ble_eq_true rfl) rfl (fun ls hl => ?_)
          refine lv_goto (tgt := 2) hx hb dX7_laySlips_32 rfl ?_
          exact ih2_ (i + 1) (upd fs i x) _ _ _ (by first | omega | (simp only [] at *; omega)) (by first | assumption | omega | rfl) (by rw [h1]; exact iS_s h28) hw (lv_sub hl [1, 0] rfl)
        refine x_icmp_ne (i / 4) (i % 4) F (by omega) (by omega) (tgt := 26) dX7_laySlips_19 rfl (fun c19 => ?_) (fun c19 => ?_)
        · refine lv_bipush (v := nI 10) hx hb dX7_laySlips_26 rfl ?_
          exact K28 (nI 10) _ _ _ (by first | exact (if_pos (by omega)).symm | exact (if_neg (by omega)).symm) hw (lv_sub hl [0, 1] rfl)
        · refine lv_iconst (v := nI 0) hx hb dX7_laySlips_22 rfl ?_
          refine lv_goto (tgt := 28) hx hb dX7_laySlips_23 rfl ?_
          exact K28 (nI 0) _ _ _ (by first | exact (if_pos (by omega)).symm | exact (if_neg (by omega)).symm) hw (lv_sub hl [0, 1] rfl)
  exact K2 _ 0 (S 19) _ _ _ (Nat.lt_succ_self _) (by first | assumption | omega | rfl) (by exact iS_0.symm) hw (lv_sub hl [1, 0] rfl)
