/-! ===== walks along sources: no cycle, told by tests on the way ===== -/
theorem cntB_dis {P Q R : Nat → Bool} : ∀ n, (∀ y, y < n → (P y = true → R y = true) ∧ (Q y = true → R y = true) ∧ ¬ (P y = true ∧ Q y = true)) → cntB P n + cntB Q n ≤ cntB R n
  | 0, _ => Nat.le_refl _
  | n + 1, h => by
    have ih := cntB_dis n (fun y hy => h y (by omega))
    obtain ⟨h1, h2, h3⟩ := h n (by omega)
    have e : ∀ X : Nat → Bool, cntB X (n + 1) = if X n then cntB X n + 1 else cntB X n := fun _ => rfl
    rw [e, e, e]
    cases hp : P n with
    | true =>
      have hr := h1 hp
      have hq : Q n = false := by cases hq : Q n with
        | true => exact absurd ⟨hp, hq⟩ h3
        | false => rfl
      rw [hr, hq]
      simp only [if_true, Bool.false_eq_true, if_false]
      omega
    | false =>
      cases hq : Q n with
      | true =>
        rw [h2 hq]
        simp only [if_true, Bool.false_eq_true, if_false]
        omega
      | false =>
        simp only [Bool.false_eq_true, if_false]
        split <;> omega
theorem cntB_mono {P R : Nat → Bool} (n : Nat) (h : ∀ y, y < n → P y = true → R y = true) : cntB P n ≤ cntB R n := by
  have h0 : ∀ n, cntB (fun _ => false) n = 0 := by
    intro n
    induction n with
    | zero => rfl
    | succ n ih => show (if false then _ else cntB _ n) = 0; rw [ih]; rfl
  have := cntB_dis (P := P) (Q := fun _ => false) (R := R) n (fun y hy => ⟨h y hy, fun q => absurd q (by decide), fun q => absurd q.2 (by decide)⟩)
  rw [h0] at this
  omega
theorem cntB_cg {P R : Nat → Bool} : ∀ n, (∀ y, y < n → P y = R y) → cntB P n = cntB R n
  | 0, _ => rfl
  | n + 1, h => by
    show (if P n then cntB P n + 1 else cntB P n) = (if R n then cntB R n + 1 else cntB R n)
    rw [cntB_cg n (fun y hy => h y (by omega)), h n (by omega)]
theorem cntB_s {P : Nat → Bool} {n : Nat} (h : P n = true) : cntB P (n + 1) = cntB P n + 1 := if_pos h
theorem cntB_f {P : Nat → Bool} {n : Nat} (h : P n = false) : cntB P (n + 1) = cntB P n := if_neg (by rw [h]; decide)
theorem wlk_add {dg : Nat → Nat} {p : Nat} (b : Nat) : ∀ (a y : Nat), wlk dg p (a + b) y = wlk dg p b (wlk dg p a y)
  | 0, y => by rw [Nat.zero_add]; rfl
  | a + 1, y => by
    rw [show a + 1 + b = (a + b) + 1 by omega]
    by_cases h : y < p
    · rw [wlk_y h, wlk_y h]; exact wlk_add b a (dg y)
    · rw [wlk_n h, wlk_n h, wlk_n h]
/-- out of p at last: it stays where it is -/
theorem wlk_stay {dg : Nat → Nat} {p a b y : Nat} (h : p ≤ wlk dg p a y) (hab : a ≤ b) : wlk dg p b y = wlk dg p a y := by
  have := wlk_add (dg := dg) (p := p) (b - a) a y
  rw [show a + (b - a) = b by omega] at this
  rw [this, wlk_n (by omega)]
theorem wlk_up {dg : Nat → Nat} {p e : Nat} (he : p + 1 ≤ e) : ∀ (k y : Nat), wlk dg p k y = e → wlk dg (p + 1) k y = e
  | 0, y, h => h
  | k + 1, y, h => by
    by_cases hy : y < p
    · rw [wlk_y hy] at h
      rw [wlk_y (by omega)]
      exact wlk_up he k _ h
    · rw [wlk_n hy] at h
      subst h
      rw [wlk_n (by omega)]
theorem wlk_thr {dg : Nat → Nat} {p ks : Nat} (hs : p + 1 ≤ wlk dg (p + 1) ks (dg p)) : ∀ (k y : Nat), wlk dg p k y = p → wlk dg (p + 1) (k + 1 + ks) y = wlk dg (p + 1) ks (dg p)
  | 0, y, h => by
    have h : y = p := h
    subst h
    rw [show 0 + 1 + ks = ks + 1 by omega, wlk_y (by omega)]
  | k + 1, y, h => by
    rw [show k + 1 + 1 + ks = (k + 1 + ks) + 1 by omega]
    by_cases hy : y < p
    · rw [wlk_y hy] at h
      rw [wlk_y (by omega)]
      exact wlk_thr hs k _ h
    · rw [wlk_n hy] at h
      subst h
      rw [wlk_y (by omega)]
      exact wlk_stay hs (by omega)
theorem wlk_val {dg : Nat → Nat} {n p : Nat} (hp : p ≤ n) (hd : ∀ y, y < n → dg y < n ∨ dg y = 6) : ∀ (k y : Nat), (y < n ∨ y = 6) → (wlk dg p k y < n ∨ wlk dg p k y = 6)
  | 0, y, h => h
  | k + 1, y, h => by
    by_cases hy : y < p
    · rw [wlk_y hy]; exact wlk_val hp hd k _ (hd y (by omega))
    · rw [wlk_n hy]; exact h
def wEnd (dg : Nat → Nat) (p y : Nat) : Nat := wlk dg p p y
def wNum (dg : Nat → Nat) (p v : Nat) : Nat := cntB (fun y => wEnd dg p y == v) p
theorem wNum_le (dg : Nat → Nat) (p v : Nat) : wNum dg p v ≤ p := cntB_le _ _
/-- the tests keep the ways short -/
theorem walk_inv {dg : Nat → Nat} {n : Nat} (hn : n ≤ 6) (hd : ∀ y, y < n → dg y < n ∨ dg y = 6) (ht : ∀ p, p < n → ¬ wlk dg p n (dg p) = p) : ∀ p, p ≤ n → ∀ y, (y < n ∨ y = 6) → ∃ k, k ≤ wNum dg p (wEnd dg p y) ∧ p ≤ wlk dg p k y
  | 0, _, y, _ => ⟨0, Nat.zero_le _, Nat.zero_le _⟩
  | p + 1, hp, y, hy => by
    have ih := walk_inv hn hd ht p (by omega)
    -- the source of p
    obtain ⟨ks, hks, hes⟩ := ih (dg p) (hd p (by omega))
    have hks2 : ks ≤ p := Nat.le_trans hks (wNum_le _ _ _)
    have eE : wEnd dg p (dg p) = wlk dg p ks (dg p) := wlk_stay hes hks2
    have hne : ¬ wlk dg p ks (dg p) = p := by
      intro q
      exact ht p (by omega) (by rw [wlk_stay hes (show ks ≤ n by omega)]; exact q)
    have hes1 : p + 1 ≤ wlk dg p ks (dg p) := by omega
    have hup : wlk dg (p + 1) ks (dg p) = wlk dg p ks (dg p) := wlk_up hes1 ks _ rfl
    -- those that came to p come to where its source comes
    have hdis : wNum dg p p + wNum dg p (wEnd dg p (dg p)) ≤ p := by
      refine Nat.le_trans (cntB_dis (R := fun _ => true) p (fun y _ => ⟨fun _ => rfl, fun _ => rfl, fun q => ?_⟩)) (cntB_le _ _)
      have q1 : wEnd dg p y = p := by simpa using q.1
      have q2 : wEnd dg p y = wEnd dg p (dg p) := by simpa using q.2
      rw [q1, eE] at q2
      exact hne q2.symm
    have key : ∀ y, (y < n ∨ y = 6) → wEnd dg p y = p → ∃ k, k ≤ wNum dg p p ∧ wlk dg (p + 1) (k + 1 + ks) y = wlk dg p ks (dg p) ∧ wEnd dg (p + 1) y = wlk dg p ks (dg p) := by
      intro y hy he
      obtain ⟨k, hk, hk2⟩ := ih y hy
      rw [he] at hk
      have hk3 : k ≤ p := Nat.le_trans hk (wNum_le _ _ _)
      have e1 : wlk dg p k y = p := by rw [← wlk_stay hk2 hk3]; exact he
      have e2 := wlk_thr (by rw [hup]; exact hes1) k y e1
      rw [hup] at e2
      refine ⟨k, hk, e2, ?_⟩
      unfold wEnd
      rw [wlk_stay (by rw [e2]; exact hes1) (show k + 1 + ks ≤ p + 1 by omega)]
      exact e2
    have key2 : ∀ y, (y < n ∨ y = 6) → ¬ wEnd dg p y = p → ∃ k, k ≤ wNum dg p (wEnd dg p y) ∧ wlk dg (p + 1) k y = wEnd dg p y ∧ p + 1 ≤ wEnd dg p y ∧ wEnd dg (p + 1) y = wEnd dg p y := by
      intro y hy he
      obtain ⟨k, hk, hk2⟩ := ih y hy
      have hk3 : k ≤ p := Nat.le_trans hk (wNum_le _ _ _)
      have e1 : wlk dg p k y = wEnd dg p y := (wlk_stay hk2 hk3).symm
      have e0 : p + 1 ≤ wEnd dg p y := by omega
      have e2 := wlk_up e0 k y e1
      refine ⟨k, hk, e2, e0, ?_⟩
      show wlk dg (p + 1) (p + 1) y = _
      rw [wlk_stay (by rw [e2]; exact e0) (show k ≤ p + 1 by omega)]
      exact e2
    have pin : ∀ y, y < p → (y < n ∨ y = 6) := fun y h => Or.inl (by omega)
    by_cases he : wEnd dg p y = p
    · obtain ⟨k, hk, e2, e3⟩ := key y hy he
      refine ⟨k + 1 + ks, ?_, by rw [e2]; exact hes1⟩
      rw [e3]
      have hpp : wEnd dg p p = p := wlk_n (Nat.lt_irrefl p) p
      obtain ⟨_, _, _, e4⟩ := key p (Or.inl (by omega)) hpp
      have hl : wNum dg (p + 1) (wlk dg p ks (dg p)) = cntB (fun y => wEnd dg (p + 1) y == wlk dg p ks (dg p)) p + 1 := cntB_s (by simp [e4])
      rw [hl]
      have hc : wNum dg p p + wNum dg p (wEnd dg p (dg p)) ≤ cntB (fun y => wEnd dg (p + 1) y == wlk dg p ks (dg p)) p := by
        refine cntB_dis p (fun y hy => ⟨fun q => ?_, fun q => ?_, fun q => ?_⟩)
        · have q1 : wEnd dg p y = p := by simpa using q
          obtain ⟨_, _, _, e5⟩ := key y (pin y hy) q1
          simp [e5]
        · have q1 : wEnd dg p y = wEnd dg p (dg p) := by simpa using q
          rw [eE] at q1
          obtain ⟨_, _, _, _, e5⟩ := key2 y (pin y hy) (by rw [q1]; exact hne)
          rw [q1] at e5
          simp [e5]
        · have q1 : wEnd dg p y = p := by simpa using q.1
          have q2 : wEnd dg p y = wEnd dg p (dg p) := by simpa using q.2
          rw [q1, eE] at q2
          exact hne q2.symm
      omega
    · obtain ⟨k, hk, e2, e0, e3⟩ := key2 y hy he
      refine ⟨k, ?_, by rw [e2]; exact e0⟩
      rw [e3]
      refine Nat.le_trans hk ?_
      have h1 : wNum dg p (wEnd dg p y) ≤ cntB (fun y' => wEnd dg (p + 1) y' == wEnd dg p y) p := by
        refine cntB_mono p (fun y' hy' q => ?_)
        have q1 : wEnd dg p y' = wEnd dg p y := by simpa using q
        obtain ⟨_, _, _, _, e5⟩ := key2 y' (pin y' hy') (by rw [q1]; exact he)
        rw [q1] at e5
        simp [e5]
      refine Nat.le_trans h1 ?_
      show _ ≤ cntB (fun y' => wEnd dg (p + 1) y' == wEnd dg p y) (p + 1)
      cases hb : (wEnd dg (p + 1) p == wEnd dg p y) with
      | true => rw [cntB_s (P := fun y' => wEnd dg (p + 1) y' == wEnd dg p y) hb]; omega
      | false => rw [cntB_f (P := fun y' => wEnd dg (p + 1) y' == wEnd dg p y) hb]; exact Nat.le_refl _
theorem wkR_wlk {dg : Nat → Nat} {n : Nat} (hn : n ≤ 6) (hd : ∀ y, y < n → dg y < n ∨ dg y = 6) : ∀ (k y : Nat), (y < n ∨ y = 6) → wkR dg k y = wlk dg n k y
  | 0, _, _ => rfl
  | k + 1, y, hy => by
    by_cases h : y < n
    · rw [wlk_y h, wkR_y (by omega)]; exact wkR_wlk hn hd k _ (hd y h)
    · rw [wlk_n h, wkR_n (by omega)]
theorem allB_all {p : Nat → Bool} : ∀ n, allB p n = true ↔ ∀ i, i < n → p i = true
  | 0 => ⟨fun _ i h => absurd h (Nat.not_lt_zero _), fun _ => rfl⟩
  | n + 1 => by
    show (allB p n && p n) = true ↔ _
    rw [Bool.and_eq_true, allB_all n]
    refine ⟨fun h i hi => ?_, fun h => ⟨fun i hi => h i (by omega), h n (by omega)⟩⟩
    by_cases e : i = n
    · rw [e]; exact h.2
    · exact h.1 i (by omega)
/-- all tests: no cycle -/
theorem walk_ok {n cd : Nat} (hn : n ≤ 6) (hd : ∀ y, y < n → dgt n cd y < n ∨ dgt n cd y = 6) (ht : ∀ p, p < n → ¬ wlk (dgt n cd) p n (dgt n cd p) = p) : okW n cd = true := by
  unfold okW
  rw [allB_all]
  intro x hx
  obtain ⟨k, hk, h2⟩ := walk_inv hn hd ht n (Nat.le_refl _) x (Or.inl hx)
  have hk2 : k ≤ n := Nat.le_trans hk (wNum_le _ _ _)
  have hv := wlk_val (Nat.le_refl n) hd k x (Or.inl hx)
  have h6 : wlk (dgt n cd) n n x = 6 := by rw [wlk_stay h2 hk2]; omega
  rw [decide_eq_true]
  rw [wkR_wlk hn hd n x (Or.inl hx), h6]
  exact Nat.le_refl _
/-- a test that fails: a cycle -/
theorem walk_cyc {dg : Nat → Nat} {p n : Nat} (hp : p < 6) (h : wlk dg p n (dg p) = p) : ∀ (j y : Nat), (∃ k, wlk dg p k y = p) → wkR dg j y < 6
  | 0, y, hy => by
    obtain ⟨k, hk⟩ := hy
    show y < 6
    by_cases q : y < p
    · omega
    · rw [wlk_n q] at hk; omega
  | j + 1, y, hy => by
    obtain ⟨k, hk⟩ := hy
    by_cases q : y < p
    · rw [wkR_y (by omega)]
      refine walk_cyc hp h j (dg y) ?_
      cases k with
      | zero => have : y = p := hk; omega
      | succ k => rw [wlk_y q] at hk; exact ⟨k, hk⟩
    · have e : y = p := by rw [wlk_n q] at hk; exact hk
      subst e
      rw [wkR_y hp]
      exact walk_cyc hp h j (dg y) ⟨n, h⟩
theorem walk_bad {n cd p : Nat} (hn : n ≤ 6) (hp : p < n) (h : wlk (dgt n cd) p n (dgt n cd p) = p) : okW n cd = false := by
  refine allB_no (n := p) hp ?_
  have := walk_cyc (by omega) h n p ⟨0, rfl⟩
  exact decide_eq_false (by omega)
/-- sources by the class: 9 where the reference has 6 -/
def k9 (d : Nat) : Nat := if d = 6 then 9 else d
theorem wlk_k9 {src dg : Nat → Nat} {p : Nat} (hp : p < 6) (hs : ∀ j, j < p → src j = k9 (dg j)) : ∀ (k y : Nat), wlk src p k y = p ↔ wlk dg p k y = p
  | 0, y => Iff.rfl
  | k + 1, y => by
    by_cases q : y < p
    · rw [wlk_y q, wlk_y q, hs y q]
      unfold k9
      by_cases e : dg y = 6
      · rw [if_pos e, e, wlk_n (by omega), wlk_n (by omega)]
        omega
      · rw [if_neg e]; exact wlk_k9 hp hs k (dg y)
    · rw [wlk_n q, wlk_n q]
theorem wlk_cg {s1 s2 : Nat → Nat} {p : Nat} (hs : ∀ j, j < p → s1 j = s2 j) : ∀ (k y : Nat), wlk s1 p k y = wlk s2 p k y
  | 0, _ => rfl
  | k + 1, y => by
    by_cases q : y < p
    · rw [wlk_y q, wlk_y q, hs y q]; exact wlk_cg hs k _
    · rw [wlk_n q, wlk_n q]
