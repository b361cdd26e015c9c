/-! ===== drawings as numbers of base 4 ===== -/
theorem sh_7 : ∀ s, s < 8 → nI 2 * (nI 7 - nI s) = nI (2 * (7 - s)) := by decide
theorem p4 (k : Nat) : 2 ^ (2 * k) = 4 ^ k := by rw [Nat.pow_mul]
theorem stk_nI {d s : Nat} (hd : d < 2 ^ 31) (hs : s < 8) : stk (nI d) s = d / 4 ^ (7 - s) % 4 := by
  unfold stk stkI
  rw [sh_7 s hs, pk_shrN hd (nI (2 * (7 - s)) &&& 31) (2 * (7 - s)) (s_l _ (by omega)), p4]
  have h1 : d / 4 ^ (7 - s) ≤ d := Nat.div_le_self _ _
  rw [pk_andN (n := d / 4 ^ (7 - s)) (by omega) 2 (by decide), nI_clamp (by omega)]
theorem or_add {x t k : Nat} (hx : x < 2 ^ t) : x ||| (k * 2 ^ t) = x + k * 2 ^ t := by
  have := Nat.shiftLeft_add_eq_or_of_lt hx k
  rw [Nat.shiftLeft_eq] at this
  rw [Nat.or_comm, ← this, Nat.add_comm]
theorem nI_or {x y : Nat} (hx : x < 2 ^ 32) (hy : y < 2 ^ 32) (hz : x ||| y < 2 ^ 32) : nI x ||| nI y = nI (x ||| y) := by
  apply Int32.toBitVec_inj.mp
  apply BitVec.eq_of_toNat_eq
  rw [Int32.toBitVec_or, BitVec.toNat_or, pk_tn hx, pk_tn hy, pk_tn hz]
/-! ===== covers: the search against the numbers ===== -/
def dr4 : Nat → Nat → Nat
  | 0, _ => 0
  | p + 1, b => dr4 p (b / 3) * 4 + k3 (b % 3)
def ikP : Nat → Nat → Nat
  | 0, _ => 0
  | p + 1, b => ikP p (b / 3) + b % 3
def hdP (pl th : Nat → Int32) : Nat → Nat → Int32
  | 0, _ => nI 0
  | p + 1, b => if b % 3 = 2 then hdP pl th p (b / 3) ||| th p else if b % 3 = 0 then hdP pl th p (b / 3) else hdP pl th p (b / 3) ||| pl p
theorem k3_lt {d : Nat} (h : d < 3) : k3 d < 4 := by unfold k3; split <;> omega
theorem dr4_lt : ∀ p b, dr4 p b < 4 ^ p
  | 0, _ => Nat.zero_lt_one
  | p + 1, b => by
    have h1 := dr4_lt p (b / 3)
    have h2 := k3_lt (Nat.mod_lt b (show 0 < 3 by decide))
    show dr4 p (b / 3) * 4 + k3 (b % 3) < 4 ^ (p + 1)
    rw [Nat.pow_succ]
    omega
theorem dr4_dg : ∀ j p c, j < p → dr4 p c / 4 ^ j % 4 = k3 (c / 3 ^ j % 3)
  | 0, 0, c, h => absurd h (Nat.not_lt_zero _)
  | j + 1, 0, c, h => absurd h (Nat.not_lt_zero _)
  | 0, p + 1, c, _ => by
    have h2 := k3_lt (Nat.mod_lt c (show 0 < 3 by decide))
    rw [show (4 : Nat) ^ 0 = 1 from rfl, Nat.div_one, Nat.div_one]
    show (dr4 p (c / 3) * 4 + k3 (c % 3)) % 4 = _
    omega
  | j + 1, p + 1, c, h => by
    have h2 := k3_lt (Nat.mod_lt c (show 0 < 3 by decide))
    have e : dr4 (p + 1) c / 4 = dr4 p (c / 3) := by
      show (dr4 p (c / 3) * 4 + k3 (c % 3)) / 4 = _
      omega
    rw [show 4 ^ (j + 1) = 4 * 4 ^ j by rw [Nat.pow_succ, Nat.mul_comm], ← Nat.div_div_eq_div_mul, e, dr4_dg j p (c / 3) (by omega), Nat.div_div_eq_div_mul, show 3 * 3 ^ j = 3 ^ (j + 1) by rw [Nat.pow_succ, Nat.mul_comm]]
theorem own_dr {c : Nat} : ∀ j, j ≤ 8 → ownF c j = nI (dr4 8 c % 4 ^ j)
  | 0, _ => by rw [Nat.pow_zero, Nat.mod_one]; rfl
  | j + 1, hj => by
    have ih := own_dr (c := c) j (by omega)
    have hk := dr4_dg j 8 c (by omega)
    have h3 := k3_lt (Nat.mod_lt (c / 3 ^ j) (show 0 < 3 by decide))
    have hm : dr4 8 c % 4 ^ j < 4 ^ j := Nat.mod_lt _ (Nat.pow_pos (by decide))
    have h8 : 4 ^ j ≤ 16384 := by
      rcases (show j = 0 ∨ j = 1 ∨ j = 2 ∨ j = 3 ∨ j = 4 ∨ j = 5 ∨ j = 6 ∨ j = 7 by omega) with rfl | rfl | rfl | rfl | rfl | rfl | rfl | rfl <;> decide
    have hb : k3 (c / 3 ^ j % 3) * 4 ^ j ≤ 3 * 4 ^ j := Nat.mul_le_mul_right _ (by omega)
    show ownF c j ||| (nI (k3 (c / 3 ^ j % 3)) <<< (nI (2 * j) &&& 31)) = _
    rw [ih, pk_shlN (nI (2 * j) &&& 31) (2 * j) (s_l _ (by omega)) (by rw [p4]; omega), p4, Nat.mod_pow_succ, hk]
    have ho : (dr4 8 c % 4 ^ j) ||| (k3 (c / 3 ^ j % 3) * 4 ^ j) = dr4 8 c % 4 ^ j + k3 (c / 3 ^ j % 3) * 4 ^ j := by
      have := or_add (x := dr4 8 c % 4 ^ j) (t := 2 * j) (k := k3 (c / 3 ^ j % 3)) (by rw [p4]; exact hm)
      rw [p4] at this
      exact this
    rw [nI_or (by omega) (by omega) (by rw [ho]; omega), ho, Nat.mul_comm (4 ^ j)]
theorem own_8 (c : Nat) : ownF c 8 = nI (dr4 8 c) := by
  rw [own_dr 8 (Nat.le_refl _), Nat.mod_eq_of_lt (dr4_lt 8 c)]
theorem dr4_8 (c : Nat) : dr4 8 c < 65536 := dr4_lt 8 c
theorem stk_own {c s : Nat} (hs : s < 8) : stk (nI (dr4 8 c)) s = k3 (c / 3 ^ (7 - s) % 3) := by
  have := dr4_8 c
  rw [stk_nI (by omega) hs, dr4_dg (7 - s) 8 c (by omega)]
theorem d3_s {c s : Nat} (hs : s < 8) : c / 3 ^ (7 - s) / 3 = c / 3 ^ (8 - s) := by
  rw [Nat.div_div_eq_div_mul, show 8 - s = (7 - s) + 1 by omega, Nat.pow_succ]
theorem ink_P {c : Nat} : ∀ s, s ≤ 8 → inkN (nI (dr4 8 c)) s = ikP s (c / 3 ^ (8 - s))
  | 0, _ => rfl
  | s + 1, hs => by
    have ih := ink_P (c := c) s (by omega)
    show inkN (nI (dr4 8 c)) s + (if stk (nI (dr4 8 c)) s = 0 then 0 else if stk (nI (dr4 8 c)) s = 3 then 2 else 1) = ikP s (c / 3 ^ (8 - (s + 1)) / 3) + c / 3 ^ (8 - (s + 1)) % 3
    rw [show 8 - (s + 1) = 7 - s by omega, d3_s (by omega), ih, stk_own (by omega)]
    have h3 := Nat.mod_lt (c / 3 ^ (7 - s)) (show 0 < 3 by decide)
    generalize c / 3 ^ (7 - s) % 3 = x at *
    rcases (show x = 0 ∨ x = 1 ∨ x = 2 by omega) with rfl | rfl | rfl <;> rfl
theorem hid_P {pl th : Nat → Int32} {c : Nat} : ∀ s, s ≤ 8 → hidF pl th (nI (dr4 8 c)) s = hdP pl th s (c / 3 ^ (8 - s))
  | 0, _ => rfl
  | s + 1, hs => by
    have ih := hid_P (pl := pl) (th := th) (c := c) s (by omega)
    show (if stk (nI (dr4 8 c)) s = 3 then hidF pl th (nI (dr4 8 c)) s ||| th s else if stk (nI (dr4 8 c)) s = 0 then hidF pl th (nI (dr4 8 c)) s else hidF pl th (nI (dr4 8 c)) s ||| pl s) = (if c / 3 ^ (8 - (s + 1)) % 3 = 2 then hdP pl th s (c / 3 ^ (8 - (s + 1)) / 3) ||| th s else if c / 3 ^ (8 - (s + 1)) % 3 = 0 then hdP pl th s (c / 3 ^ (8 - (s + 1)) / 3) else hdP pl th s (c / 3 ^ (8 - (s + 1)) / 3) ||| pl s)
    rw [show 8 - (s + 1) = 7 - s by omega, d3_s (by omega), ih, stk_own (by omega)]
    have h3 := Nat.mod_lt (c / 3 ^ (7 - s)) (show 0 < 3 by decide)
    generalize c / 3 ^ (7 - s) % 3 = x at *
    rcases (show x = 0 ∨ x = 1 ∨ x = 2 by omega) with rfl | rfl | rfl <;> rfl
theorem ikP_mono : ∀ m p c, ikP p (c / 3 ^ m) ≤ ikP (p + m) c
  | 0, p, c => by rw [Nat.pow_zero, Nat.div_one]; exact Nat.le_refl _
  | m + 1, p, c => by
    have ih := ikP_mono m p (c / 3)
    rw [Nat.div_div_eq_div_mul, show 3 * 3 ^ m = 3 ^ (m + 1) by rw [Nat.pow_succ, Nat.mul_comm]] at ih
    show _ ≤ ikP (p + m) (c / 3) + c % 3
    omega
theorem z3 {b m : Nat} : b * 3 ^ (m + 1) / 3 = b * 3 ^ m ∧ b * 3 ^ (m + 1) % 3 = 0 := by
  rw [Nat.pow_succ, ← Nat.mul_assoc]
  omega
theorem ikP_z (p b : Nat) : ∀ m, ikP (p + m) (b * 3 ^ m) = ikP p b
  | 0 => by rw [Nat.pow_zero, Nat.mul_one]; rfl
  | m + 1 => by
    show ikP (p + m) (b * 3 ^ (m + 1) / 3) + b * 3 ^ (m + 1) % 3 = _
    rw [z3.1, z3.2, ikP_z p b m, Nat.add_zero]
theorem hdP_z (pl th : Nat → Int32) (p b : Nat) : ∀ m, hdP pl th (p + m) (b * 3 ^ m) = hdP pl th p b
  | 0 => by rw [Nat.pow_zero, Nat.mul_one]; rfl
  | m + 1 => by
    show (if b * 3 ^ (m + 1) % 3 = 2 then hdP pl th (p + m) (b * 3 ^ (m + 1) / 3) ||| th (p + m) else if b * 3 ^ (m + 1) % 3 = 0 then hdP pl th (p + m) (b * 3 ^ (m + 1) / 3) else hdP pl th (p + m) (b * 3 ^ (m + 1) / 3) ||| pl (p + m)) = _
    rw [z3.1, z3.2, if_neg (by decide), if_pos rfl, hdP_z pl th p b m]
theorem dr4_z (p b : Nat) : ∀ m, dr4 (p + m) (b * 3 ^ m) = dr4 p b * 4 ^ m
  | 0 => by rw [show (4 : Nat) ^ 0 = 1 from rfl, Nat.mul_one, Nat.mul_one]; rfl
  | m + 1 => by
    show dr4 (p + m) (b * 3 ^ (m + 1) / 3) * 4 + k3 (b * 3 ^ (m + 1) % 3) = _
    rw [z3.1, z3.2, dr4_z p b m, Nat.pow_succ, ← Nat.mul_assoc]
    rfl
def stpC (pl th : Nat → Int32) (nd : Int32) (t : Nat × Int32) (c : Nat) : Nat × Int32 := if ((nd &&& (hdP pl th 8 c ^^^ (-1)) == 0) && decide (ikP 8 c < t.1)) = true then (ikP 8 c, nI (dr4 8 c)) else t
theorem stp_no {pl th : Nat → Int32} {nd : Int32} {t : Nat × Int32} {c : Nat} (h : t.1 ≤ ikP 8 c) : stpC pl th nd t c = t := by
  unfold stpC
  rw [decide_eq_false (by omega), Bool.and_false]
  rfl
theorem foldl_id {pl th : Nat → Int32} {nd : Int32} {t : Nat × Int32} : ∀ (L : List Nat), (∀ c, c ∈ L → t.1 ≤ ikP 8 c) → L.foldl (stpC pl th nd) t = t
  | [], _ => rfl
  | c :: L, h => by
    show L.foldl (stpC pl th nd) (stpC pl th nd t c) = t
    rw [stp_no (h c (List.mem_cons_self ..))]
    exact foldl_id L (fun d hd => h d (List.mem_cons_of_mem _ hd))
theorem op_or {nd x y : Int32} : nd &&& (x ^^^ (-1)) &&& (y ^^^ (-1)) = nd &&& ((x ||| y) ^^^ (-1)) := by
  refine b_ext (fun i hi => ?_)
  rw [b_and, b_and, b_and, b_xor, b_xor, b_xor, b_or, b_m1 i hi]
  cases bt nd i <;> cases bt x i <;> cases bt y i <;> rfl
theorem unit_n : ∀ s, s < 8 → unitI s = nI (4 ^ (7 - s)) := by decide
theorem blk_div {b w c : Nat} (h : c ∈ List.range' (b * w) w) : c / w = b := by
  rw [List.mem_range'_1] at h
  exact Nat.div_eq_of_lt_le h.1 (by rw [Nat.succ_mul]; exact h.2)
theorem srF_codes {pl th : Nat → Int32} {nd : Int32} : ∀ (m p b : Nat) (op : Int32) (ik : Nat) (dr : Int32) (t : Nat × Int32), p + m = 8 → op = nd &&& (hdP pl th p b ^^^ (-1)) → ik = ikP p b → dr = nI (dr4 p b * 4 ^ m) → srF pl th (m + 1) p op ik dr t = (List.range' (b * 3 ^ m) (3 ^ m)).foldl (stpC pl th nd) t := by
  intro m
  induction m with
  | zero =>
    intro p b op ik dr t hp ho hi hd
    have e : p = 8 := by omega
    subst e
    rw [Nat.pow_zero, Nat.mul_one] at hd
    rw [Nat.pow_zero, Nat.mul_one, List.range'_one]
    show _ = stpC pl th nd t b
    by_cases h1 : t.1 ≤ ik
    · rw [srF_a h1, stp_no (by rw [← hi]; exact h1)]
    · by_cases h2 : op = 0
      · rw [srF_b h1 h2]
        unfold stpC
        rw [← ho, h2, ← hi, decide_eq_true (by omega), ← hd]
        rfl
      · rw [srF_c h1 h2 (Nat.le_refl _)]
        unfold stpC
        rw [← ho, beqF h2]
        rfl
  | succ m ih =>
    intro p b op ik dr t hp ho hi hd
    have hink : ∀ c, c ∈ List.range' (b * 3 ^ (m + 1)) (3 ^ (m + 1)) → ik ≤ ikP 8 c := fun c hc => by
      have h1 := ikP_mono (m + 1) p c
      rw [blk_div hc, hp, ← hi] at h1
      exact h1
    by_cases h1 : t.1 ≤ ik
    · rw [srF_a h1, foldl_id _ (fun c hc => Nat.le_trans h1 (hink c hc))]
    · by_cases h2 : op = 0
      · rw [srF_b h1 h2]
        obtain ⟨w, hw⟩ : ∃ w, 3 ^ (m + 1) = w + 1 := ⟨3 ^ (m + 1) - 1, by have : 0 < 3 ^ (m + 1) := Nat.pow_pos (by decide); omega⟩
        have hz1 := ikP_z p b (m + 1)
        have hz2 := hdP_z pl th p b (m + 1)
        have hz3 := dr4_z p b (m + 1)
        rw [hp] at hz1 hz2 hz3
        have hs : List.range' (b * 3 ^ (m + 1)) (3 ^ (m + 1)) = b * 3 ^ (m + 1) :: List.range' (b * 3 ^ (m + 1) + 1) w := by
          conv => lhs; arg 2; rw [hw]
          rfl
        have hst : stpC pl th nd t (b * 3 ^ (m + 1)) = (ik, dr) := by
          unfold stpC
          rw [hz1, hz2, hz3, ← ho, h2, ← hi, decide_eq_true (by omega), ← hd]
          rfl
        rw [hs]
        show _ = (List.range' (b * 3 ^ (m + 1) + 1) w).foldl (stpC pl th nd) (stpC pl th nd t (b * 3 ^ (m + 1)))
        rw [hst]
        symm
        refine foldl_id _ (fun c hc => hink c ?_)
        rw [hs]
        exact List.mem_cons_of_mem _ hc
      · have h8 : p < 8 := by omega
        rw [srF_d h1 h2 (by omega)]
        have hr : List.range' (b * 3 ^ (m + 1)) (3 ^ (m + 1)) = List.range' ((3 * b) * 3 ^ m) (3 ^ m) ++ (List.range' ((3 * b + 1) * 3 ^ m) (3 ^ m) ++ List.range' ((3 * b + 2) * 3 ^ m) (3 ^ m)) := by
          have e1 : (3 * b + 1) * 3 ^ m = (3 * b) * 3 ^ m + 3 ^ m := by rw [Nat.add_mul, Nat.one_mul]
          have e2 : (3 * b + 2) * 3 ^ m = (3 * b + 1) * 3 ^ m + 3 ^ m := by
            show (3 * b + 1 + 1) * 3 ^ m = _
            rw [Nat.add_mul (3 * b + 1) 1, Nat.one_mul]
          have e3 : b * 3 ^ (m + 1) = 3 * b * 3 ^ m := by rw [Nat.pow_succ, Nat.mul_comm (3 ^ m) 3, ← Nat.mul_assoc, Nat.mul_comm b 3]
          have e4 : 3 ^ (m + 1) = 3 ^ m + (3 ^ m + 3 ^ m) := by rw [Nat.pow_succ]; omega
          rw [e2, List.range'_append_1, e1, List.range'_append_1, e3, e4]
        have hu : unitI p = nI (4 ^ m) := by rw [unit_n p h8, show 7 - p = m by omega]
        have h4 : 4 ^ (m + 1) = 4 * 4 ^ m := by rw [Nat.pow_succ, Nat.mul_comm]
        have d0 : (3 * b) / 3 = b ∧ (3 * b) % 3 = 0 := by omega
        have d1 : (3 * b + 1) / 3 = b ∧ (3 * b + 1) % 3 = 1 := by omega
        have d2 : (3 * b + 2) / 3 = b ∧ (3 * b + 2) % 3 = 2 := by omega
        have H0 : hdP pl th (p + 1) (3 * b) = hdP pl th p b := by
          show (if (3 * b) % 3 = 2 then hdP pl th p ((3 * b) / 3) ||| th p else if (3 * b) % 3 = 0 then hdP pl th p ((3 * b) / 3) else hdP pl th p ((3 * b) / 3) ||| pl p) = _
          rw [d0.1, d0.2, if_neg (by decide), if_pos rfl]
        have H1 : hdP pl th (p + 1) (3 * b + 1) = hdP pl th p b ||| pl p := by
          show (if (3 * b + 1) % 3 = 2 then hdP pl th p ((3 * b + 1) / 3) ||| th p else if (3 * b + 1) % 3 = 0 then hdP pl th p ((3 * b + 1) / 3) else hdP pl th p ((3 * b + 1) / 3) ||| pl p) = _
          rw [d1.1, d1.2, if_neg (by decide), if_neg (by decide)]
        have H2 : hdP pl th (p + 1) (3 * b + 2) = hdP pl th p b ||| th p := by
          show (if (3 * b + 2) % 3 = 2 then hdP pl th p ((3 * b + 2) / 3) ||| th p else if (3 * b + 2) % 3 = 0 then hdP pl th p ((3 * b + 2) / 3) else hdP pl th p ((3 * b + 2) / 3) ||| pl p) = _
          rw [d2.1, d2.2, if_pos rfl]
        have I : ∀ x, ikP (p + 1) (3 * b + x) = ikP p ((3 * b + x) / 3) + (3 * b + x) % 3 := fun _ => rfl
        have R : ∀ x, dr4 (p + 1) (3 * b + x) = dr4 p ((3 * b + x) / 3) * 4 + k3 ((3 * b + x) % 3) := fun _ => rfl
        have R0 : dr4 (p + 1) (3 * b) * 4 ^ m = dr4 p b * 4 ^ (m + 1) := by
          have := (show dr4 (p + 1) (3 * b) = dr4 p ((3 * b) / 3) * 4 + k3 ((3 * b) % 3) from rfl)
          rw [d0.1, d0.2] at this
          rw [this, h4, ← Nat.mul_assoc]
          rfl
        have R1 : dr4 (p + 1) (3 * b + 1) * 4 ^ m = dr4 p b * 4 ^ (m + 1) + 1 * 4 ^ m := by
          have := R 1
          rw [d1.1, d1.2] at this
          rw [this, h4, ← Nat.mul_assoc, ← Nat.add_mul]
          rfl
        have R2 : dr4 (p + 1) (3 * b + 2) * 4 ^ m = dr4 p b * 4 ^ (m + 1) + 3 * 4 ^ m := by
          have := R 2
          rw [d2.1, d2.2] at this
          rw [this, h4, ← Nat.mul_assoc, ← Nat.add_mul]
          rfl
        rw [hr, List.foldl_append, List.foldl_append]
        have I0 : ikP (p + 1) (3 * b) = ikP p b := by
          have := (show ikP (p + 1) (3 * b) = ikP p ((3 * b) / 3) + (3 * b) % 3 from rfl)
          rw [d0.1, d0.2] at this
          exact this
        have A0 := ih (p + 1) (3 * b) op ik dr t (by omega) (by rw [H0]; exact ho) (by rw [I0]; exact hi) (by rw [R0]; exact hd)
        have A1 := ih (p + 1) (3 * b + 1) (op &&& (pl p ^^^ (-1))) (ik + 1) (dr + nI 1 * unitI p) (srF pl th (m + 1) (p + 1) op ik dr t) (by omega) (by rw [H1, ho, op_or]) (by rw [I 1, d1.1, d1.2, hi]) (by rw [R1, hd, hu, pk_mul, nI_add])
        have A2 := ih (p + 1) (3 * b + 2) (op &&& (th p ^^^ (-1))) (ik + 2) (dr + nI 3 * unitI p) (srF pl th (m + 1) (p + 1) (op &&& (pl p ^^^ (-1))) (ik + 1) (dr + nI 1 * unitI p) (srF pl th (m + 1) (p + 1) op ik dr t)) (by omega) (by rw [H2, ho, op_or]) (by rw [I 2, d2.1, d2.2, hi]) (by rw [R2, hd, hu, pk_mul, nI_add])
        rw [A2, A1, A0]
theorem hid_cg {pl th pl' th' : Nat → Int32} {d : Int32} : ∀ n, (∀ j, j < n → pl j = pl' j ∧ th j = th' j) → hidF pl th d n = hidF pl' th' d n
  | 0, _ => rfl
  | n + 1, h => by
    show (if stk d n = 3 then hidF pl th d n ||| th n else if stk d n = 0 then hidF pl th d n else hidF pl th d n ||| pl n) = (if stk d n = 3 then hidF pl' th' d n ||| th' n else if stk d n = 0 then hidF pl' th' d n else hidF pl' th' d n ||| pl' n)
    rw [hid_cg n (fun j hj => h j (by omega)), (h n (by omega)).1, (h n (by omega)).2]
theorem cv_fold {T : St} {nd : Int32} : ∀ N, cvF T nd N = ((List.range N).foldl (stpC (T 11) (T 12) nd) (17, (-6))).2 ∧ (((List.range N).foldl (stpC (T 11) (T 12) nd) (17, (-6))) = (17, (-6)) ∨ (0 ≤ ((List.range N).foldl (stpC (T 11) (T 12) nd) (17, (-6))).2 ∧ ((List.range N).foldl (stpC (T 11) (T 12) nd) (17, (-6))).1 = inkN ((List.range N).foldl (stpC (T 11) (T 12) nd) (17, (-6))).2 8))
  | 0 => ⟨rfl, Or.inl rfl⟩
  | N + 1 => by
    obtain ⟨i1, i2⟩ := cv_fold (T := T) (nd := nd) N
    rw [List.range_succ, List.foldl_append]
    generalize (List.range N).foldl (stpC (T 11) (T 12) nd) (17, (-6)) = t at i1 i2 ⊢
    have hs : cvF T nd (N + 1) = if cvB T nd (cvF T nd N) N then ownF N 8 else cvF T nd N := rfl
    have hik : ikP 8 N = inkN (nI (dr4 8 N)) 8 := by have := ink_P (c := N) 8 (Nat.le_refl _); rw [this]; simp
    have hhd : hdP (T 11) (T 12) 8 N = hidF (T 11) (T 12) (nI (dr4 8 N)) 8 := by have := hid_P (pl := T 11) (th := T 12) (c := N) 8 (Nat.le_refl _); rw [this]; simp
    have h16 := inkN_le (nI (dr4 8 N)) 8
    have hB : cvB T nd (cvF T nd N) N = ((nd &&& (hdP (T 11) (T 12) 8 N ^^^ (-1)) == 0) && decide (ikP 8 N < t.1)) := by
      unfold cvB
      rw [own_8, i1, hhd, hik]
      congr 1
      rcases i2 with e | ⟨e1, e2⟩
      · rw [e]
        show (decide ((-6 : Int32) < 0) || _) = decide (_ < 17)
        rw [decide_eq_true (show inkN (nI (dr4 8 N)) 8 < 17 by omega), decide_eq_true (show (-6 : Int32) < 0 by decide)]
        rfl
      · rw [e2, decide_eq_false (fun q => absurd e1 (Int32.not_le.mpr q)), Bool.false_or]
    have hf : (List.foldl (stpC (T 11) (T 12) nd) t [N]) = if ((nd &&& (hdP (T 11) (T 12) 8 N ^^^ (-1)) == 0) && decide (ikP 8 N < t.1)) = true then (ikP 8 N, nI (dr4 8 N)) else t := rfl
    rw [hf, hs, hB]
    have hd8 := dr4_8 N
    by_cases q : ((nd &&& (hdP (T 11) (T 12) 8 N ^^^ (-1)) == 0) && decide (ikP 8 N < t.1)) = true
    · rw [if_pos q, if_pos q]
      exact ⟨own_8 N, Or.inr ⟨nI_pos' (by omega), hik⟩⟩
    · rw [if_neg q, if_neg q]
      exact ⟨i1, i2⟩
/-- the class's cover is the reference's -/
theorem eq_cover {T : St} {pl th : Nat → Int32} {nd : Int32} (h : ∀ j, j < 8 → pl j = T 11 j ∧ th j = T 12 j) : (srF pl th 9 0 nd 0 (nI 0) (17, (-6))).2 = cvF T nd 6561 := by
  have hd : ∀ p, p ≤ 8 → ∀ b, hdP pl th p b = hdP (T 11) (T 12) p b := by
    intro p
    induction p with
    | zero => intro _ b; rfl
    | succ p ih =>
      intro hp b
      show (if b % 3 = 2 then hdP pl th p (b / 3) ||| th p else if b % 3 = 0 then hdP pl th p (b / 3) else hdP pl th p (b / 3) ||| pl p) = (if b % 3 = 2 then hdP (T 11) (T 12) p (b / 3) ||| T 12 p else if b % 3 = 0 then hdP (T 11) (T 12) p (b / 3) else hdP (T 11) (T 12) p (b / 3) ||| T 11 p)
      rw [ih (by omega), (h p (by omega)).1, (h p (by omega)).2]
  have hst : stpC pl th nd = stpC (T 11) (T 12) nd := by
    funext t c
    unfold stpC
    rw [hd 8 (Nat.le_refl _)]
  have e0 : nd = nd &&& (hdP pl th 0 0 ^^^ (-1)) := by
    refine b_ext (fun i hi => ?_)
    rw [b_and, b_xor, b_m1 i hi]
    show _ = (bt nd i && (bt (nI 0) i ^^ true))
    rw [b_z]
    simp
  have e := srF_codes (pl := pl) (th := th) (nd := nd) 8 0 0 nd 0 (nI 0) (17, (-6)) rfl e0 rfl rfl
  rw [e, hst, (cv_fold 6561).1, List.range_eq_range', Nat.zero_mul]
