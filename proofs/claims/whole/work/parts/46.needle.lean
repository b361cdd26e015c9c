/-! ===== the needle: the class against the reference ===== -/
def RN (S T : St) : Prop := (S 53 0 = nI (menN S) ∧ menN S ≤ 8 ∧ T 13 0 = S 53 0) ∧ (S 54 0 = nI (metN S) ∧ metN S ≤ 16 ∧ T 15 0 = S 54 0) ∧ (∀ j, j < menN S → (S 34 j = (-1) ∧ T 14 j = (-6)) ∨ ∃ d, d ≤ 99 ∧ S 34 j = nI d ∧ T 14 j = nI d) ∧ (∀ j, j < 8 → menN S ≤ j → S 34 j = (-1)) ∧ ∀ j, j < metN S → (∃ m, m < menN S ∧ S 35 j = nI m ∧ T 16 j = nI m) ∧ ∃ d, d ≤ 99 ∧ S 36 j = nI d ∧ T 17 j = nI d
def RD (S T : St) : Prop := (∀ j, j < 4 → S 12 j = T 5 j) ∧ ∃ a b w p : Nat, (S 12 0 = nI a ∧ a ≤ 99) ∧ (S 12 1 = nI b ∧ b ≤ 99) ∧ (S 12 2 = nI w ∧ 1 ≤ w ∧ w ≤ 30) ∧ (S 12 3 = nI p ∧ 1 ≤ p ∧ p ≤ 30)
theorem ti_sub {x y : Int32} {a b : Int} (hx : x.toInt = a) (hy : y.toInt = b) (h1 : -1000 ≤ a) (h2 : a ≤ 1000) (h3 : -1000 ≤ b) (h4 : b ≤ 1000) : (x - y).toInt = a - b := by
  rw [Int32.toInt_sub, hx, hy]
  exact Int.bmod_eq_of_le (by omega) (by omega)
theorem ti_add {x y : Int32} {a b : Int} (hx : x.toInt = a) (hy : y.toInt = b) (h1 : -1000 ≤ a) (h2 : a ≤ 1000) (h3 : -1000 ≤ b) (h4 : b ≤ 1000) : (x + y).toInt = a + b := by
  rw [Int32.toInt_add, hx, hy]
  exact Int.bmod_eq_of_le (by omega) (by omega)
theorem ti_n {n : Nat} (h : n < 1000) : (nI n).toInt = (n : Int) := nI_toInt (by omega)
theorem fin_b {v a b : Int32} : (f_in v a b != 0) = decide (a.toInt ≤ v.toInt ∧ v.toInt ≤ b.toInt) := by
  unfold f_in
  by_cases q : a ≤ v ∧ v ≤ b
  · rw [if_pos q, decide_eq_true ⟨Int32.le_iff_toInt_le.mp q.1, Int32.le_iff_toInt_le.mp q.2⟩]; rfl
  · rw [if_neg q, decide_eq_false (fun z => q ⟨Int32.le_iff_toInt_le.mpr z.1, Int32.le_iff_toInt_le.mpr z.2⟩)]; rfl
theorem gv_1 {d y w : Nat} (hd : d ≤ 99) (hy : y ≤ 99) (hw : w ≤ 30) : (f_in (nI d - nI y) (nI 1) (nI w) != 0) = (f_in (nI y) (nI d - nI w) (nI d - nI 1) != 0) := by
  rw [fin_b, fin_b, ti_sub (ti_n (show d < 1000 by omega)) (ti_n (show y < 1000 by omega)) (by omega) (by omega) (by omega) (by omega), ti_sub (ti_n (show d < 1000 by omega)) (ti_n (show w < 1000 by omega)) (by omega) (by omega) (by omega) (by omega), ti_sub (ti_n (show d < 1000 by omega)) (ti_n (show 1 < 1000 by omega)) (by omega) (by omega) (by omega) (by omega), ti_n (by omega), ti_n (by omega), ti_n (by omega)]
  refine decide_eq_decide.mpr ?_
  omega
theorem gv_2 {g y w p : Nat} (hg : g ≤ 99) (hy : y ≤ 99) (hw : w ≤ 30) (hp : p ≤ 30) : cgv (nI g) (nI y) (nI w) (nI p) = (f_in (nI y) (nI g - nI w) (nI g + nI p - nI 2) != 0) := by
  unfold cgv
  have hp1 := ti_sub (ti_n (show p < 1000 by omega)) (ti_n (show 1 < 1000 by omega)) (by omega) (by omega) (by omega) (by omega)
  have hgp := ti_add (ti_n (show g < 1000 by omega)) (ti_n (show p < 1000 by omega)) (by omega) (by omega) (by omega) (by omega)
  rw [fin_b]
  refine decide_eq_decide.mpr ?_
  rw [Int32.le_iff_toInt_le, Int32.le_iff_toInt_le, ti_sub (ti_n (show g < 1000 by omega)) (ti_n (show w < 1000 by omega)) (by omega) (by omega) (by omega) (by omega), ti_sub (ti_n (show y < 1000 by omega)) hp1 (by omega) (by omega) (by omega) (by omega), ti_sub (ti_n (show g < 1000 by omega)) (ti_n (show 1 < 1000 by omega)) (by omega) (by omega) (by omega) (by omega), ti_sub hgp (ti_n (show 2 < 1000 by omega)) (by omega) (by omega) (by omega) (by omega), ti_n (by omega)]
  have hne : ¬ nI g = (-1) := nI_nm1 (by omega)
  constructor
  · rintro ⟨_, h1, h2⟩; omega
  · rintro ⟨h1, h2⟩; exact ⟨hne, by omega, by omega⟩
theorem orB_cg {p q : Nat → Bool} : ∀ n, (∀ j, j < n → p j = q j) → orB p n = orB q n
  | 0, _ => rfl
  | n + 1, h => by
    show (if p n then orB p n ||| (nI 1 <<< (nI n &&& 31)) else orB p n) = (if q n then orB q n ||| (nI 1 <<< (nI n &&& 31)) else orB q n)
    rw [orB_cg n (fun j hj => h j (by omega)), h n (by omega)]
section NE
variable {S T : St}
theorem RN.men (h : RN S T) : mmnN T = menN S := by unfold mmnN menN; rw [h.1.2.2]
theorem RN.met (h : RN S T) : mmtN T = metN S := by unfold mmtN metN; rw [h.2.1.2.2]
theorem RN.sck (h : RN S T) : sckF S = msck T := by
  unfold sckF msck
  rw [h.men]
  refine orB_cg _ (fun j hj => ?_)
  rcases h.2.2.1 j hj with ⟨e1, e2⟩ | ⟨d, hd, e1, e2⟩
  · rw [e1, e2]; decide
  · rw [e1, e2, bneT (nI_nm1 (by omega)), decide_eq_true (nI_pos' (by omega))]
theorem RN.gve (h : RN S T) (hD : RD S T) {mn : Nat} (hm : mn < menN S) : gvs S mn (S 12 2) (S 12 3) = mgvs T mn := by
  obtain ⟨hj, a, b, w, p, -, -, ⟨hw1, hw2, hw3⟩, hp1, hp2, hp3⟩ := hD
  have h5w : T 5 2 = nI w := by rw [← hj 2 (by omega)]; exact hw1
  have h5p : T 5 3 = nI p := by rw [← hj 3 (by omega)]; exact hp1
  unfold gvs mgvs
  rcases h.2.2.1 mn hm with ⟨e1, e2⟩ | ⟨d, hd, e1, e2⟩
  · rw [if_pos e1, e2, if_pos (by decide)]
  · rw [if_neg (by rw [e1]; exact nI_nm1 (by omega)), if_neg (by rw [e2]; exact nI_pos (by omega)), h.met]
    have key : ∀ j, j ≤ metN S - 1 → gvF (S 34) (S 35) (S 36) mn (S 12 2) (S 12 3) j = mgvF T mn j := by
      intro j
      induction j with
      | zero => intro _; rfl
      | succ j ih =>
        intro hjj
        have ih := ih (by omega)
        obtain ⟨⟨m0, hm0, q1, q2⟩, -⟩ := h.2.2.2.2 j (by omega)
        obtain ⟨⟨m1, hm1, q3, q4⟩, y, hy, q5, q6⟩ := h.2.2.2.2 (j + 1) (by omega)
        have h8 := h.1.2.1
        have ec : (S 35 j).toNatClampNeg = m0 := by rw [q1]; exact nI_clamp (by omega)
        have ec2 : (T 16 j).toNatClampNeg = m0 := by rw [q2]; exact nI_clamp (by omega)
        have hb : gvB (S 34) (S 35) (S 36) mn (S 12 2) (S 12 3) j = (mgv1 T mn j && mgv2 T mn j) := by
          unfold gvB mgv1 mgv2
          rw [ec, ec2, q1, q2, q3, q4, q5, q6, e1, e2, hw1, hp1, h5w, h5p, gv_1 hd hy hw3]
          have hx : cgv (S 34 m0) (nI y) (nI w) (nI p) = (decide (0 ≤ T 14 m0) && (f_in (nI y) (T 14 m0 - nI w) (T 14 m0 + nI p - nI 2) != 0)) := by
            rcases h.2.2.1 m0 hm0 with ⟨g1, g2⟩ | ⟨g, hg, g1, g2⟩
            · rw [g1, g2, decide_eq_false (show ¬ (0 : Int32) ≤ -6 by decide)]
              unfold cgv
              rw [decide_eq_false (fun q => q.1 rfl)]
              rfl
            · rw [g1, g2, decide_eq_true (nI_pos' (by omega)), gv_2 hg hy hw3 hp3]
              rfl
          rw [hx]
          by_cases z1 : nI m1 = nI mn
          · by_cases z2 : nI m0 = nI mn
            · rw [decide_eq_false (fun q => q.2 z2), decide_eq_false (show ¬ ¬ nI m0 = nI mn from fun q => q z2)]
              simp
            · rw [decide_eq_true ⟨z1, z2⟩, decide_eq_true z1, decide_eq_true z2]
              simp [Bool.and_assoc]
          · rw [decide_eq_false (fun q => z1 q.1), decide_eq_false z1]
            simp
        cases hv : (mgv1 T mn j && mgv2 T mn j) with
        | true => rw [hv] at hb; rw [gvF_y hb, mgvF_y hv, ih, q1, q2]
        | false => rw [hv] at hb; rw [gvF_n hb, mgvF_n hv, ih]
    exact key _ (Nat.le_refl _)
theorem msck_bt (hn : mmnN T ≤ 8) {i : Nat} (hi : i < 32) : bt (msck T) i = (decide (i < mmnN T) && decide (0 ≤ T 14 i)) := orB_bt _ hi _ (by omega)
theorem b_255n : ∀ i, i < 8 → bt (nI 255) i = true := by decide +kernel
theorem fs_z {i : Nat} (h : bt (msck T) i = false) : ∀ j, bt (fsF T j) i = false
  | 0 => h
  | j + 1 => by
    show bt (fsF T j &&& _) i = false
    rw [b_and, fs_z h j]
    rfl
theorem fs_bt {i : Nat} (hi : i < 8) : ∀ j, j ≤ 8 → bt (fsF T j) i = (bt (msck T) i && (decide (j ≤ i) || decide (mgvs T i = 0)))
  | 0, _ => by
    rw [decide_eq_true (Nat.zero_le i), Bool.true_or, Bool.and_true]
    rfl
  | j + 1, hj => by
    have ih := fs_bt hi j (by omega)
    show bt (fsF T j &&& (if mgvs T j = 0 then nI 255 else ((nI 1 <<< (nI j &&& 31)) ^^^ (-1)))) i = _
    rw [b_and, ih]
    by_cases q : mgvs T j = 0
    · rw [if_pos q, b_255n i hi, Bool.and_true]
      by_cases e : i = j
      · subst e
        rw [decide_eq_true q]
        simp
      · by_cases w : j ≤ i
        · rw [decide_eq_true w, decide_eq_true (show j + 1 ≤ i by omega)]
        · rw [decide_eq_false w, decide_eq_false (show ¬ j + 1 ≤ i by omega)]
    · rw [if_neg q, b_not1 (by omega) (by omega)]
      by_cases e : i = j
      · subst e
        rw [decide_eq_false q, decide_eq_false (show ¬ i + 1 ≤ i by omega)]
        simp
      · rw [decide_eq_false e]
        by_cases w : j ≤ i
        · rw [decide_eq_true w, decide_eq_true (show j + 1 ≤ i by omega)]
          simp
        · rw [decide_eq_false w, decide_eq_false (show ¬ j + 1 ≤ i by omega)]
          simp
theorem RN.fst (h : RN S T) (hD : RD S T) : fstM S (S 12 2) (S 12 3) = fsF T (mmnN T) := by
  have h8 := h.1.2.1
  have hm := h.men
  refine b_ext (fun i hi => ?_)
  unfold fstM
  rw [orB_bt _ hi _ (by omega), h.sck]
  by_cases w : i < menN S
  · rw [decide_eq_true w, fs_bt (by omega) _ (by omega), decide_eq_false (show ¬ mmnN T ≤ i by omega), hbt_bt hi, h.gve hD w]
    by_cases q : mgvs T i = 0
    · rw [beqT q, decide_eq_true q]; simp
    · rw [beqF q, decide_eq_false q]; simp
  · rw [decide_eq_false w, fs_z (by rw [msck_bt (by omega) hi, decide_eq_false (by omega)]; rfl)]
    rfl
theorem th_bt {x : Int32} {i : Nat} (hi : i < 32) : ∀ j, j ≤ 8 → bt (thF T x j) i = (bt x i || (decide (i < j) && (mgvs T i &&& x != 0)))
  | 0, _ => by
    rw [decide_eq_false (Nat.not_lt_zero _), Bool.false_and, Bool.or_false]
    rfl
  | j + 1, hj => by
    have ih := th_bt (x := x) hi j (by omega)
    show bt (thF T x j ||| (if mgvs T j &&& x = 0 then nI 0 else (nI 1 <<< (nI j &&& 31)))) i = _
    rw [b_or, ih]
    by_cases q : mgvs T j &&& x = 0
    · rw [if_pos q, b_z, Bool.or_false]
      by_cases e : i = j
      · subst e
        rw [bneF q]
        simp
      · by_cases w : i < j
        · rw [decide_eq_true w, decide_eq_true (show i < j + 1 by omega)]
        · rw [decide_eq_false w, decide_eq_false (show ¬ i < j + 1 by omega)]
    · rw [if_neg q, b_one (by omega) hi]
      by_cases e : i = j
      · subst e
        rw [bneT q]
        simp
      · rw [decide_eq_false e, Bool.or_false]
        by_cases w : i < j
        · rw [decide_eq_true w, decide_eq_true (show i < j + 1 by omega)]
        · rw [decide_eq_false w, decide_eq_false (show ¬ i < j + 1 by omega)]
theorem mgvs_sick {i : Nat} (h : ¬ mgvs T i = 0) : 0 ≤ T 14 i := by
  refine Int32.not_lt.mp (fun q => h ?_)
  unfold mgvs
  rw [if_pos q]
  rfl
theorem RN.rch (h : RN S T) (hD : RD S T) (wo : Int32) : ∀ i, rchF (gvRow S (S 12 2) (S 12 3)) (menN S) (fstM S (S 12 2) (S 12 3)) (sckF S &&& (wo ^^^ (-1))) i = mrch T wo i
  | 0 => by
    show fstM S (S 12 2) (S 12 3) &&& (sckF S &&& (wo ^^^ (-1))) = fsF T (mmnN T) &&& (wo ^^^ (-1))
    rw [h.fst hD, h.sck]
    have h8 := h.1.2.1
    have hm := h.men
    refine b_ext (fun i hi => ?_)
    rw [b_and, b_and, b_and]
    cases hs : bt (msck T) i with
    | true => rw [Bool.true_and]
    | false => rw [fs_z hs]; rfl
  | i + 1 => by
    have ih := RN.rch h hD wo i
    show rchF _ _ _ _ i ||| (nxtB _ _ (rchF _ _ _ _ i) &&& (sckF S &&& (wo ^^^ (-1)))) = thF T (mrch T wo i) (mmnN T) &&& (wo ^^^ (-1))
    rw [ih, h.sck]
    have h8 := h.1.2.1
    have hm := h.men
    have hsub : ∀ x, x < 32 → bt (mrch T wo i) x = true → bt (wo ^^^ (-1)) x = true := by
      intro x hx
      cases i with
      | zero =>
        intro q
        have e : mrch T wo 0 = fsF T (mmnN T) &&& (wo ^^^ (-1)) := rfl
        rw [e, b_and, Bool.and_eq_true] at q
        exact q.2
      | succ i =>
        intro q
        have e : mrch T wo (i + 1) = thF T (mrch T wo i) (mmnN T) &&& (wo ^^^ (-1)) := rfl
        rw [e, b_and, Bool.and_eq_true] at q
        exact q.2
    refine b_ext (fun x hx => ?_)
    have hs := hsub x hx
    unfold nxtB
    rw [b_or, b_and, b_and, b_and, orB_bt _ hx _ (by omega), th_bt hx _ (by omega), hm]
    by_cases w : x < menN S
    · have eg : gvRow S (S 12 2) (S 12 3) x = mgvs T x := by
        unfold gvRow
        rw [if_pos w]
        exact h.gve hD w
      rw [eg, decide_eq_true w]
      by_cases q : mgvs T x &&& mrch T wo i = 0
      · rw [bneF q]
        cases hb : bt (mrch T wo i) x with
        | true => rw [hs hb]; simp
        | false => simp
      · have hne : ¬ mgvs T x = 0 := fun e => q (by rw [e]; exact and_0 _)
        rw [bneT q, msck_bt (by omega) hx, decide_eq_true (mgvs_sick hne), decide_eq_true (show x < mmnN T by omega)]
        cases hb : bt (mrch T wo i) x with
        | true => rw [hs hb]; simp
        | false => simp
    · rw [decide_eq_false w]
      cases hb : bt (mrch T wo i) x with
      | true => rw [hs hb]; simp
      | false => simp
theorem RN.sp (h : RN S T) (hD : RD S T) (wo : Int32) (mn : Nat) : spF (gvRow S (S 12 2) (S 12 3)) (menN S) (fstM S (S 12 2) (S 12 3)) mn (sckF S &&& (wo ^^^ (-1))) = mspF T mn wo := by
  unfold spF mspF
  rw [h.men]
  congr 1
  funext i
  rw [h.rch hD wo i]
theorem wo_0 (x : Int32) : x &&& (nI 0 ^^^ (-1)) = x := by
  refine b_ext (fun i hi => ?_)
  rw [b_and, b_xor, b_z, b_m1 i hi]
  simp
theorem RN.must (h : RN S T) (hD : RD S T) (mn : Nat) : oapF (traS S (S 12 2) (S 12 3)) mn = (if mspF T mn (nI 0) = 0 then nI 0 else orB (fun j => mspF T mn (nI 1 <<< (nI j &&& 31)) == 0) (mmnN T)) ∧ spF ((traS S (S 12 2) (S 12 3)) 37) (menN (traS S (S 12 2) (S 12 3))) ((traS S (S 12 2) (S 12 3)) 55 0) mn (sckF (traS S (S 12 2) (S 12 3))) = mspF T mn (nI 0) := by
  have e37 : (traS S (S 12 2) (S 12 3)) 37 = gvRow S (S 12 2) (S 12 3) := rfl
  have e55 : (traS S (S 12 2) (S 12 3)) 55 0 = fstM S (S 12 2) (S 12 3) := rfl
  have em : menN (traS S (S 12 2) (S 12 3)) = menN S := rfl
  have es : sckF (traS S (S 12 2) (S 12 3)) = sckF S := rfl
  have h0 : spF (gvRow S (S 12 2) (S 12 3)) (menN S) (fstM S (S 12 2) (S 12 3)) mn (sckF S) = mspF T mn (nI 0) := by
    have := h.sp hD (nI 0) mn
    rw [wo_0] at this
    exact this
  refine ⟨?_, by rw [e37, e55, em, es]; exact h0⟩
  unfold oapF
  rw [e37, e55, em, es, h0, h.men]
  congr 1
  refine orB_cg _ (fun j hj => ?_)
  rw [h.sp hD (nI 1 <<< (nI j &&& 31)) mn]
end NE
