/-! ===== lost pictures: the class against the reference ===== -/
theorem lw_amin {f : Nat → Int32} (h0 : f 0 < nI 100000000) : ∀ b, lwK f (b + 1) = amin f b ∧ lwL f (b + 1) = f (amin f b)
  | 0 => by
    refine ⟨?_, ?_⟩
    · show (if f 0 < nI 100000000 then 0 else 0) = 0
      split <;> rfl
    · show (if f 0 < nI 100000000 then f 0 else nI 100000000) = f 0
      rw [if_pos h0]
  | b + 1 => by
    obtain ⟨i1, i2⟩ := lw_amin h0 b
    have e1 : lwK f (b + 1 + 1) = if f (b + 1) < lwL f (b + 1) then b + 1 else lwK f (b + 1) := rfl
    have e2 : lwL f (b + 1 + 1) = if f (b + 1) < lwL f (b + 1) then f (b + 1) else lwL f (b + 1) := rfl
    have e3 : amin f (b + 1) = if f (b + 1) < f (amin f b) then b + 1 else amin f b := rfl
    rw [e1, e2, e3, i1, i2]
    by_cases q : f (b + 1) < f (amin f b)
    · rw [if_pos q, if_pos q]; exact ⟨rfl, rfl⟩
    · rw [if_neg q, if_neg q]; exact ⟨rfl, rfl⟩
theorem sumIf_cg {o : Int32} {f g : Nat → Int32} {x y : Int32} (hx : x = y) : ∀ n, (∀ p, p < n → f p = g p) → sumIf o f x n = sumIf o g y n
  | 0, _ => hx
  | n + 1, h => by
    show (if hbt o n then sumIf o f x n + f n else sumIf o f x n) = (if hbt o n then sumIf o g y n + g n else sumIf o g y n)
    rw [sumIf_cg hx n (fun p hp => h p (by omega)), h n (by omega)]
theorem i_sw (a b c d : Int32) : a + b + (c + d) = a + c + (b + d) := by
  rw [Int32.add_assoc, Int32.add_assoc, ← Int32.add_assoc b c d, ← Int32.add_assoc c b d, Int32.add_comm b c]
theorem sumIf_add {o : Int32} {f g : Nat → Int32} {x y : Int32} : ∀ n, sumIf o (fun p => f p + g p) (x + y) n = sumIf o f x n + sumIf o g y n
  | 0 => rfl
  | n + 1 => by
    have ih := sumIf_add (o := o) (f := f) (g := g) (x := x) (y := y) n
    cases h : hbt o n with
    | true => rw [sumIf_y h, sumIf_y h, sumIf_y h, ih]; exact i_sw _ _ _ _
    | false => rw [sumIf_n h, sumIf_n h, sumIf_n h, ih]
theorem sumIf_00 {o x : Int32} : ∀ n, sumIf o (fun _ => nI 0) x n = x
  | 0 => rfl
  | n + 1 => by
    have ih := sumIf_00 (o := o) (x := x) n
    cases h : hbt o n with
    | true => rw [sumIf_y h, ih]; exact add_0 x
    | false => rw [sumIf_n h, ih]
theorem sumIf_nat {o x : Int32} {f : Nat → Int32} (hx : ∃ v, v ≤ 99 ∧ x = nI v) : ∀ n, (∀ p, p < n → ∃ v, v ≤ 99 ∧ f p = nI v) → ∃ v, v ≤ 99 * (n + 1) ∧ sumIf o f x n = nI v
  | 0, _ => by obtain ⟨v, h1, h2⟩ := hx; exact ⟨v, by omega, h2⟩
  | n + 1, h => by
    obtain ⟨v, h1, h2⟩ := sumIf_nat (o := o) hx n (fun p hp => h p (by omega))
    obtain ⟨w, h3, h4⟩ := h n (by omega)
    cases hb : hbt o n with
    | true => exact ⟨v + w, by omega, by rw [sumIf_y hb, h2, h4, nI_add]⟩
    | false => exact ⟨v, by omega, by rw [sumIf_n hb, h2]⟩
section LO
variable {S T : St} {pi o : Int32}
theorem lsc_eq (hn : picN S = mpcN T) (hsl : ∀ a b, a < 4 → b < 4 → slC S a b = slm T a b) (hdr : ∀ p, p < mpcN T → S 3 p = T 1 p) (hpi : 0 ≤ pi → clN pi < mpcN T) {s k : Nat} (hk : k < 4) : lscF (slC S) (S 3) (picN S) pi o s k = mls T pi o s k := by
  unfold mls lscF
  rw [hn]
  refine sumIf_cg ?_ _ (fun p hp => ?_)
  · by_cases q : 0 ≤ pi
    · rw [if_pos q, if_pos q]
      have := hdr _ (hpi q)
      rw [show pi.toNatClampNeg = clN pi from rfl, this, hsl _ _ (stk_lt _ _) hk]
    · rw [if_neg q, if_neg q]
  · rw [hdr p hp, hsl _ _ hk (stk_lt _ _)]
theorem mls_0 (h6 : mpcN T ≤ 6) (hV : okMV T) (s : Nat) : mls T pi o s 0 < nI 100000000 := by
  obtain ⟨v, h1, h2⟩ := sumIf_nat (o := o) (x := if 0 ≤ pi then slm T (stk (T 1 pi.toNatClampNeg) s) 0 else nI 0) (f := fun p => slm T 0 (stk (T 1 p) s)) (by
    by_cases q : 0 ≤ pi
    · rw [if_pos q]; exact slM_ex hV (stk_lt _ _) (by decide)
    · rw [if_neg q]; exact ⟨0, by omega, rfl⟩) (mpcN T) (fun p hp => slM_ex hV (by decide) (stk_lt _ _))
  have e : mls T pi o s 0 = nI v := h2
  rw [e]
  exact nI_lt (by omega) (by omega)
theorem amin_cg {f g : Nat → Int32} : ∀ m, (∀ k, k ≤ m → f k = g k) → amin f m = amin g m
  | 0, _ => rfl
  | m + 1, h => by
    have ih := amin_cg (f := f) (g := g) m (fun k hk => h k (by omega))
    have := amin_le g m
    show (if f (m + 1) < f (amin f m) then m + 1 else amin f m) = (if g (m + 1) < g (amin g m) then m + 1 else amin g m)
    rw [ih, h (m + 1) (by omega), h (amin g m) (by omega)]
theorem ld_eq (hn : picN S = mpcN T) (h6 : mpcN T ≤ 6) (hsl : ∀ a b, a < 4 → b < 4 → slC S a b = slm T a b) (hV : okMV T) (hdr : ∀ p, p < mpcN T → S 3 p = T 1 p) (hpi : 0 ≤ pi → clN pi < mpcN T) : ∀ s, ldN (slC S) (S 3) (picN S) pi o s = mdN T pi o s
  | 0 => rfl
  | s + 1 => by
    have ih := ld_eq hn h6 hsl hV hdr hpi s
    show ldN (slC S) (S 3) (picN S) pi o s * 4 + amin (lscF (slC S) (S 3) (picN S) pi o s) 3 = 4 * mdN T pi o s + lwK (mls T pi o s) 4
    rw [ih, (lw_amin (mls_0 h6 hV s) 3).1, amin_cg (g := mls T pi o s) 3 (fun k hk => lsc_eq hn hsl hdr hpi (show k < 4 by omega))]
    omega
/-- a drawing of base 4, stroke by stroke -/
theorem ld_dg {sl : Nat → Nat → Int32} {dr : Nat → Int32} {n : Nat} : ∀ p, ldN sl dr n pi o p < 4 ^ p ∧ ∀ s, s < p → ldN sl dr n pi o p / 4 ^ (p - (s + 1)) % 4 = amin (lscF sl dr n pi o s) 3
  | 0 => ⟨Nat.zero_lt_one, fun s hs => absurd hs (Nat.not_lt_zero _)⟩
  | p + 1 => by
    obtain ⟨i1, i2⟩ := ld_dg (sl := sl) (dr := dr) (n := n) p
    have h3 := amin_le (lscF sl dr n pi o p) 3
    have e : ldN sl dr n pi o (p + 1) = ldN sl dr n pi o p * 4 + amin (lscF sl dr n pi o p) 3 := rfl
    rw [e]
    refine ⟨by rw [Nat.pow_succ]; omega, fun s hs => ?_⟩
    by_cases q : s = p
    · subst q
      rw [Nat.sub_self, Nat.pow_zero, Nat.div_one]
      omega
    · rw [show p + 1 - (s + 1) = (p - (s + 1)) + 1 by omega, show 4 ^ ((p - (s + 1)) + 1) = 4 * 4 ^ (p - (s + 1)) by rw [Nat.pow_succ, Nat.mul_comm], ← Nat.div_div_eq_div_mul, show (ldN sl dr n pi o p * 4 + amin (lscF sl dr n pi o p) 3) / 4 = ldN sl dr n pi o p by omega]
      exact i2 s (by omega)
theorem ld_stk {sl : Nat → Nat → Int32} {dr : Nat → Int32} {n s : Nat} (hs : s < 8) : stk (nI (ldN sl dr n pi o 8)) s = amin (lscF sl dr n pi o s) 3 := by
  obtain ⟨i1, i2⟩ := ld_dg (pi := pi) (o := o) (sl := sl) (dr := dr) (n := n) 8
  have h : ldN sl dr n pi o 8 < 65536 := i1
  rw [stk_nI (by omega) hs, show 7 - s = 8 - (s + 1) by omega]
  exact i2 s hs
theorem thr_eq (hn : picN S = mpcN T) (h6 : mpcN T ≤ 6) (hsl : ∀ a b, a < 4 → b < 4 → slC S a b = slm T a b) (hV : okMV T) (hdr : ∀ p, p < mpcN T → S 3 p = T 1 p) (hnw : S 12 0 = T 5 0) (hpi : 0 ≤ pi → clN pi < mpcN T) : thrF (slC S) (S 3) (picN S) (S 12 0) pi (nI (ldN (slC S) (S 3) (picN S) pi o 8)) o = mcw T pi o 8 := by
  have key : ∀ m, m ≤ 8 → sumIf o (fun p => costF (slC S) (nI (ldN (slC S) (S 3) (picN S) pi o 8)) (S 3 p) m) (if 0 ≤ pi then costF (slC S) (S 3 pi.toNatClampNeg) (nI (ldN (slC S) (S 3) (picN S) pi o 8)) m else S 12 0) (picN S) = mcw T pi o m := by
    intro m
    induction m with
    | zero =>
      intro _
      show sumIf o (fun _ => nI 0) (if 0 ≤ pi then nI 0 else S 12 0) (picN S) = if 0 ≤ pi then nI 0 else T 5 0
      rw [sumIf_00, hnw]
    | succ m ih =>
      intro hm
      have ih := ih (by omega)
      have hk := amin_le (lscF (slC S) (S 3) (picN S) pi o m) 3
      have e1 : mcw T pi o (m + 1) = mcw T pi o m + lwL (mls T pi o m) 4 := rfl
      have e2 : lwL (mls T pi o m) 4 = lscF (slC S) (S 3) (picN S) pi o m (amin (lscF (slC S) (S 3) (picN S) pi o m) 3) := by
        rw [(lw_amin (mls_0 h6 hV m) 3).2, lsc_eq hn hsl hdr hpi (by omega), amin_cg 3 (fun k hk => lsc_eq hn hsl hdr hpi (show k < 4 by omega))]
      rw [e1, ← ih, e2]
      unfold lscF
      rw [← sumIf_add]
      refine sumIf_cg ?_ _ (fun p hp => ?_)
      · by_cases q : 0 ≤ pi
        · rw [if_pos q, if_pos q, if_pos q]
          show costF (slC S) (S 3 pi.toNatClampNeg) _ m + slC S (stk (S 3 pi.toNatClampNeg) m) (stk (nI (ldN (slC S) (S 3) (picN S) pi o 8)) m) = _
          rw [ld_stk (by omega)]
          rfl
        · rw [if_neg q, if_neg q, if_neg q]
          exact (add_0 _).symm
      · show costF (slC S) _ (S 3 p) m + slC S (stk (nI (ldN (slC S) (S 3) (picN S) pi o 8)) m) (stk (S 3 p) m) = _
        rw [ld_stk (by omega)]
        rfl
  exact key 8 (Nat.le_refl _)
theorem str_eq (hn : picN S = mpcN T) (hsl : ∀ a b, a < 4 → b < 4 → slC S a b = slm T a b) (hdr : ∀ p, p < mpcN T → S 3 p = T 1 p) (hnw : S 12 0 = T 5 0) (hpi : 0 ≤ pi → clN pi < mpcN T) : strF (slC S) (S 3) (picN S) (S 12 0) pi o = strF (slm T) (T 1) (mpcN T) (T 5 0) pi o := by
  unfold strF
  rw [hn]
  refine sumIf_cg rfl _ (fun p hp => ?_)
  by_cases q : 0 ≤ pi
  · rw [if_pos q, if_pos q, show pi.toNatClampNeg = clN pi from rfl, hdr _ (hpi q), hdr p hp, costF_cg hsl]
  · rw [if_neg q, if_neg q, hnw]
theorem hap_eq (hP : okP S) (hn : picN S = mpcN T) (h6 : mpcN T ≤ 6) : haP S pi = 0 ↔ haMP T pi = 0 := by
  unfold haP haMP
  rw [b01_0, f_in_0, hP.1, hn]
  rw [decide_eq_false_iff_not]
  refine not_congr (and_congr Iff.rfl ?_)
  cases h : mpcN T with
  | zero =>
    refine ⟨fun q => ?_, fun q => ?_⟩
    · exact Int32.le_iff_toInt_le.mpr (by have := Int32.lt_iff_toInt_lt.mp q; have e1 : (nI 0).toInt = 0 := rfl; have e2 : (nI 0 - nI 1).toInt = -1 := rfl; omega)
    · exact Int32.lt_iff_toInt_lt.mpr (by have := Int32.le_iff_toInt_le.mp q; have e1 : (nI 0).toInt = 0 := rfl; have e2 : (nI 0 - nI 1).toInt = -1 := rfl; omega)
  | succ m =>
    rw [show nI (m + 1) - nI 1 = nI m from nI_pred m, Int32.lt_iff_toInt_lt, Int32.le_iff_toInt_le, nI_toInt (by omega), nI_toInt (by omega)]
    omega
theorem hap_t (hP : okP S) (h : ¬ haP S pi = 0) : pi = nI (clN pi) ∧ clN pi < picN S := by
  unfold haP at h
  rw [b01_1, decide_eq_true_eq] at h
  have e := nn_of h.1
  refine ⟨e, ?_⟩
  have h2 := h.2
  have h6 := hP.2
  rw [hP.1, e] at h2
  exact (nI_ltI (cl_lt pi) (by omega)).mp h2
theorem ush_0 {n : Nat} (hn : n ≤ 6) : ((o.toUInt32 >>> ((nI n).toUInt32 &&& Int32.toUInt32 31)).toInt32) = 0 ↔ ¬ (o < 0 ∨ ¬ o < (nI 1 <<< (nI n &&& 31))) := by
  have h1 := pk_ushr o (nI n) n (s_u n (by omega))
  have h2 : nI 1 <<< (nI n &&& 31) = nI (2 ^ n) := by
    have := pk_shlN (n := 1) (nI n &&& 31) n (s_l n (by omega)) (by rw [Nat.one_mul]; exact Nat.pow_lt_pow_right (by decide) (by omega))
    rw [Nat.one_mul] at this
    exact this
  have h64 : 2 ^ n ≤ 64 := by
    rcases (show n = 0 ∨ n = 1 ∨ n = 2 ∨ n = 3 ∨ n = 4 ∨ n = 5 ∨ n = 6 by omega) with rfl | rfl | rfl | rfl | rfl | rfl | rfl <;> decide
  have hp : 0 < 2 ^ n := Nat.pow_pos (by decide)
  rw [h2]
  constructor
  · intro q
    rw [q] at h1
    have h3 : o.toBitVec.toNat / 2 ^ n = 0 := h1.symm
    have h4 : o.toBitVec.toNat < 2 ^ n := by
      rcases Nat.div_eq_zero_iff.mp h3 with w | w
      · omega
      · exact w
    have e : o = nI o.toBitVec.toNat := by
      apply Int32.toBitVec_inj.mp
      apply BitVec.eq_of_toNat_eq
      rw [pk_tn (by omega)]
    generalize o.toBitVec.toNat = j at h4 e
    subst e
    rintro (w | w)
    · exact nI_pos (by omega) w
    · exact w (nI_lt h4 (by omega))
  · intro q
    have q1 : ¬ o < 0 := fun w => q (Or.inl w)
    have q2 : o < nI (2 ^ n) := Decidable.not_not.mp (fun w => q (Or.inr w))
    obtain ⟨j, hj, e⟩ := nI_of q1
    subst e
    have hj2 := (nI_ltI hj (by omega)).mp q2
    rw [pk_tn (by omega), Nat.div_eq_of_lt hj2] at h1
    apply Int32.toBitVec_inj.mp
    apply BitVec.eq_of_toNat_eq
    exact h1
theorem sub_sw (a b c : Int32) : a + b - c = b - c + a := by
  rw [Int32.sub_eq_add_neg, Int32.sub_eq_add_neg, Int32.add_comm a b, Int32.add_assoc, Int32.add_comm a (-c), ← Int32.add_assoc]
theorem eq_lost {wh : Int32} (hP : okP S) (hn : picN S = mpcN T) (h6 : mpcN T ≤ 6) (hsl : ∀ a b, a < 4 → b < 4 → slC S a b = slm T a b) (hV : okMV T) (hdr : ∀ p, p < mpcN T → S 3 p = T 1 p) (hnw : S 12 0 = T 5 0) : p_lost S pi o wh = (m_lost T pi o wh, S) := by
  have hu := ush_0 (o := o) (n := picN S) (by omega)
  rw [hn] at hu
  by_cases c0 : ¬ pi = (-1) ∧ haP S pi = 0
  · have e : m_lost T pi o wh = (-1) := by unfold m_lost; rw [if_pos (Or.inl ⟨c0.1, (hap_eq hP hn h6).mp c0.2⟩)]
    unfold p_lost
    rw [e, if_neg c0.1, if_pos c0.2]
  · have hpi : 0 ≤ pi → clN pi < mpcN T := fun w => by
      have h1 : ¬ pi = (-1) := fun e => by rw [e] at w; exact absurd w (by decide)
      have h2 : ¬ haP S pi = 0 := fun e => c0 ⟨h1, e⟩
      rw [← hn]
      exact (hap_t hP h2).2
    have c0' : ¬ (¬ pi = (-1) ∧ haMP T pi = 0) := fun q => c0 ⟨q.1, (hap_eq hP hn h6).mpr q.2⟩
    by_cases c2 : (o.toUInt32 >>> ((nI (picN S)).toUInt32 &&& Int32.toUInt32 31)).toInt32 = 0
    · have m1 : ¬ ((¬ pi = (-1) ∧ haMP T pi = 0) ∨ o < 0 ∨ ¬ o < (nI 1 <<< (nI (mpcN T) &&& 31))) := by
        rintro (q | q)
        · exact c0' q
        · exact hu.mp (by rw [← hn]; exact c2) q
      have eld : ldN (slC S) (S 3) (picN S) pi o 8 = mdN T pi o 8 := ld_eq hn h6 hsl hV hdr hpi 8
      have eth := thr_eq (o := o) hn h6 hsl hV hdr hnw hpi
      have est := str_eq (o := o) hn hsl hdr hnw hpi
      by_cases c3 : o = 0
      · have e : m_lost T pi o wh = (-2) := by unfold m_lost; rw [if_neg m1, if_pos (Or.inl c3)]
        rw [e]
        unfold p_lost
        by_cases c1 : pi = (-1)
        · rw [if_pos c1, if_pos c2, if_pos (by rw [c1]; decide), if_pos c3]
        · rw [if_neg c1, if_neg (fun q => c0 ⟨c1, q⟩), if_pos c2]
          repeat' split
          all_goals rfl
      · by_cases c4 : 0 ≤ pi ∧ hbt o (clN pi) = true
        · have e : m_lost T pi o wh = (-2) := by unfold m_lost; rw [if_neg m1, if_pos (Or.inr (Or.inl c4))]
          rw [e]
          unfold p_lost
          have c1 : ¬ pi = (-1) := fun q => by rw [q] at c4; exact absurd c4.1 (by decide)
          rw [if_neg c1, if_neg (fun q => c0 ⟨c1, q⟩), if_pos c2, if_neg (Int32.not_lt.mpr c4.1), if_neg (b01_1.mpr c4.2), if_neg c3]
        · by_cases c5 : f_in wh (nI 0) (nI 2) = 0
          · have e : m_lost T pi o wh = (-2) := by unfold m_lost; rw [if_neg m1, if_pos (Or.inr (Or.inr c5))]
            rw [e]
            unfold p_lost
            by_cases c1 : pi = (-1)
            · rw [if_pos c1, if_pos c2, if_pos (by rw [c1]; decide), if_neg c3, if_pos c5]
            · rw [if_neg c1, if_neg (fun q => c0 ⟨c1, q⟩), if_pos c2]
              repeat' split
              all_goals rfl
          · have m2 : ¬ (o = 0 ∨ (0 ≤ pi ∧ hbt o (clN pi) = true) ∨ f_in wh (nI 0) (nI 2) = 0) := by
              rintro (q | q | q)
              · exact c3 q
              · exact c4 q
              · exact c5 q
            have hm : m_lost T pi o wh = if wh = 0 then nI (mdN T pi o 8) else if wh = nI 1 then mcw T pi o 8 else strF (slm T) (T 1) (mpcN T) (T 5 0) pi o - mcw T pi o 8 + nI 10000 := by
              unfold m_lost
              rw [if_neg m1, if_neg m2]
            have fin : (if wh = 0 then (nI ((ldN (slC S) (S 3) (picN S) pi o 8)), S) else if wh = (nI 1) then (thrF (slC S) (S 3) (picN S) (S 12 0) pi (nI ((ldN (slC S) (S 3) (picN S) pi o 8))) o, S) else (((nI 10000) + (strF (slC S) (S 3) (picN S) (S 12 0) pi o)) - (thrF (slC S) (S 3) (picN S) (S 12 0) pi (nI ((ldN (slC S) (S 3) (picN S) pi o 8))) o), S)) = (m_lost T pi o wh, S) := by
              rw [hm, eth, est, eld]
              by_cases w0 : wh = 0
              · rw [if_pos w0, if_pos w0]
              · rw [if_neg w0, if_neg w0]
                by_cases w1 : wh = nI 1
                · rw [if_pos w1, if_pos w1]
                · rw [if_neg w1, if_neg w1, sub_sw]
            rw [← fin]
            unfold p_lost
            by_cases c1 : pi = (-1)
            · rw [if_pos c1, if_pos c2, if_pos (by rw [c1]; decide), if_neg c3, if_neg c5]
            · rw [if_neg c1, if_neg (fun q => c0 ⟨c1, q⟩), if_pos c2]
              by_cases c6 : pi < 0
              · rw [if_pos c6, if_neg c3, if_neg c5]
              · have h7 : hbt o (clN pi) = false := by
                  cases h : hbt o (clN pi) with
                  | true => exact absurd ⟨Int32.not_lt.mp c6, h⟩ c4
                  | false => rfl
                rw [if_neg c6, if_pos (b01_0.mpr h7), if_neg c3, if_neg c5]
    · have e : m_lost T pi o wh = (-1) := by
        unfold m_lost
        rw [if_pos]
        right
        exact Decidable.not_not.mp (fun q => c2 (by rw [hn]; exact hu.mpr q))
      rw [e]
      unfold p_lost
      by_cases c1 : pi = (-1)
      · rw [if_pos c1, if_neg c2]
      · rw [if_neg c1, if_neg (fun q => c0 ⟨c1, q⟩), if_neg c2]
end LO
