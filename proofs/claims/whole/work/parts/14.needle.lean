/-! ===== the needle: pure words ===== -/
def menN (S : St) : Nat := (S 53 0).toNatClampNeg
def metN (S : St) : Nat := (S 54 0).toNatClampNeg
def okN (S : St) : Prop := (S 53 0 = nI (menN S) ∧ menN S ≤ 8) ∧ (S 54 0 = nI (metN S) ∧ metN S ≤ 16) ∧ ∀ j, j < metN S → ∃ m, m < 8 ∧ S 35 j = nI m
def haM (S : St) (mn : Int32) : Int32 := b01 (decide (0 ≤ mn ∧ mn < S 53 0))
def cgv (sk day wt op : Int32) : Bool := decide (¬ sk = (-1) ∧ sk - wt ≤ day ∧ day - (op - nI 1) ≤ sk - nI 1)
def gvB (sk mm md : Nat → Int32) (mn : Nat) (wt op : Int32) (j : Nat) : Bool := decide (mm (j + 1) = nI mn ∧ ¬ mm j = nI mn) && (f_in (sk mn - md (j + 1)) (nI 1) wt != 0) && cgv (sk (mm j).toNatClampNeg) (md (j + 1)) wt op
def gvF (sk mm md : Nat → Int32) (mn : Nat) (wt op : Int32) : Nat → Int32
  | 0 => nI 0
  | j + 1 => if gvB sk mm md mn wt op j then gvF sk mm md mn wt op j ||| (nI 1 <<< (mm j &&& 31)) else gvF sk mm md mn wt op j
theorem gvF_y {sk mm md : Nat → Int32} {mn : Nat} {wt op : Int32} {j : Nat} (h : gvB sk mm md mn wt op j = true) : gvF sk mm md mn wt op (j + 1) = gvF sk mm md mn wt op j ||| (nI 1 <<< (mm j &&& 31)) := if_pos h
theorem gvF_n {sk mm md : Nat → Int32} {mn : Nat} {wt op : Int32} {j : Nat} (h : gvB sk mm md mn wt op j = false) : gvF sk mm md mn wt op (j + 1) = gvF sk mm md mn wt op j := if_neg (by rw [h]; decide)
def gvs (S : St) (mn : Nat) (wt op : Int32) : Int32 := if S 34 mn = (-1) then nI 0 else gvF (S 34) (S 35) (S 36) mn wt op (metN S - 1)
def sckF (S : St) : Int32 := orB (fun j => S 34 j != (-1)) (menN S)
def gvRow (S : St) (wt op : Int32) : Nat → Int32 := fun j => if j < menN S then gvs S j wt op else S 37 j
def fstM (S : St) (wt op : Int32) : Int32 := orB (fun j => hbt (sckF S) j && gvs S j wt op == 0) (menN S)
def traS (S : St) (wt op : Int32) : St := va_up (va_up S 55 (fun _ => fstM S wt op)) 37 (gvRow S wt op)
/-- the first j below n that fits, and one more; 0: none -/
def fstF (h : Nat → Bool) : Nat → Nat
  | 0 => 0
  | n + 1 => if fstF h n = 0 then (if h n then n + 1 else 0) else fstF h n
theorem fstF_stay {h : Nat → Bool} {n : Nat} (hn : ¬ fstF h n = 0) : ∀ m, n ≤ m → fstF h m = fstF h n
  | 0, hm => by rw [Nat.le_zero.mp hm]
  | m + 1, hm => by
    rcases Nat.lt_or_ge m n with h1 | h1
    · rw [show m + 1 = n by omega]
    · have e := fstF_stay hn m h1
      show (if fstF h m = 0 then _ else fstF h m) = _
      rw [if_neg (by rw [e]; exact hn), e]
theorem fstF_hit {h : Nat → Bool} {n : Nat} (h0 : fstF h n = 0) (hh : h n = true) : fstF h (n + 1) = n + 1 := by
  show (if fstF h n = 0 then _ else _) = _
  rw [if_pos h0, if_pos hh]
theorem fstF_go {h : Nat → Bool} {n : Nat} (h0 : fstF h n = 0) (hh : h n = false) : fstF h (n + 1) = 0 := by
  show (if fstF h n = 0 then _ else _) = _
  rw [if_pos h0, if_neg (by rw [hh]; decide)]
def nxtB (gv : Nat → Int32) (n : Nat) (x : Int32) : Int32 := orB (fun j => gv j &&& x != 0) n
def rchF (gv : Nat → Int32) (n : Nat) (fm al : Int32) : Nat → Int32
  | 0 => fm &&& al
  | i + 1 => rchF gv n fm al i ||| (nxtB gv n (rchF gv n fm al i) &&& al)
def spF (gv : Nat → Int32) (n : Nat) (fm : Int32) (mn : Nat) (al : Int32) : Nat := fstF (fun i => hbt (rchF gv n fm al i) mn) n
def oapF (S : St) (mn : Nat) : Int32 := if spF (S 37) (menN S) (S 55 0) mn (sckF S) = 0 then nI 0 else orB (fun j => spF (S 37) (menN S) (S 55 0) mn (sckF S &&& ((nI 1 <<< (nI j &&& 31)) ^^^ (-1))) == 0) (menN S)
theorem fstF_le (h : Nat → Bool) : ∀ n, fstF h n ≤ n
  | 0 => Nat.le_refl _
  | n + 1 => by
    have := fstF_le h n
    show (if fstF h n = 0 then _ else fstF h n) ≤ n + 1
    split
    · split <;> omega
    · omega
/-! ===== ages: pure words ===== -/
def anyB (p : Nat → Bool) : Nat → Bool
  | 0 => false
  | n + 1 => anyB p n || p n
theorem anyB_yes {p : Nat → Bool} {n : Nat} (hp : p n = true) : ∀ {m : Nat}, n < m → anyB p m = true
  | 0, h => absurd h (Nat.not_lt_zero _)
  | m + 1, h => by
    simp only [anyB, Bool.or_eq_true]
    rcases Nat.lt_or_ge n m with h1 | h1
    · exact Or.inl (anyB_yes hp h1)
    · exact Or.inr (by rw [show m = n by omega]; exact hp)
theorem anyB_le {p : Nat → Bool} {n : Nat} : ∀ {m : Nat}, n ≤ m → anyB p m = false → anyB p n = false
  | 0, h, q => by rw [Nat.le_zero.mp h]; exact q
  | m + 1, h, q => by
    rcases Nat.lt_or_ge m n with h1 | h1
    · rw [show n = m + 1 by omega]; exact q
    · simp only [anyB, Bool.or_eq_false_iff] at q
      exact anyB_le h1 q.1
theorem bA0 {a b : Bool} (h : a = false) : (a && b) = false := by rw [h]; rfl
theorem bA1 {a b : Bool} (h : b = false) : (a && b) = false := by rw [h]; cases a <;> rfl
theorem bAt {a b : Bool} (h : a = true) (h2 : b = true) : (a && b) = true := by rw [h, h2]; rfl
theorem beqF {a b : Int32} (h : ¬ a = b) : (a == b) = false := by simp [h]
theorem beqT {a b : Int32} (h : a = b) : (a == b) = true := by simp [h]
theorem bneF {a b : Int32} (h : a = b) : (a != b) = false := by simp [h]
theorem bneT {a b : Int32} (h : ¬ a = b) : (a != b) = true := by simp [h]
theorem beqFn {a b : Nat} (h : ¬ a = b) : (a == b) = false := by simp [h]
theorem beqTn {a b : Nat} (h : a = b) : (a == b) = true := by simp [h]
def cntB (p : Nat → Bool) : Nat → Nat
  | 0 => 0
  | n + 1 => if p n then cntB p n + 1 else cntB p n
def lstB (p : Nat → Bool) : Nat → Nat
  | 0 => 0
  | n + 1 => if p n then n else lstB p n
def frsB (p : Nat → Bool) : Nat → Nat
  | 0 => 0
  | n + 1 => if p n && cntB p n == 0 then n else frsB p n
theorem cntB_le (p : Nat → Bool) : ∀ n, cntB p n ≤ n
  | 0 => Nat.le_refl _
  | n + 1 => by
    have := cntB_le p n
    unfold cntB
    split <;> omega
/-- FIRST and SPREAD as spans, NOW: small numbers -/
def okG (S : St) : Prop := ∃ a b w : Nat, S 13 1 = nI a ∧ S 14 1 = nI b ∧ S 12 1 = nI w ∧ a ≤ 99 ∧ b ≤ 99 ∧ w ≤ 99
def clN (x : Int32) : Nat := x.toNatClampNeg
def reB (f0 f1 wd yr : Int32) (a b : Nat) : Bool := anyB (fun i => f_in (wd - nI (a + i) * yr) f0 f1 != 0) (b + 1 - a)
def reS (S : St) (wd : Int32) (y : Nat) : Bool := reB (S 13 0) (S 14 0) wd (nI (clN (S 12 1)) - nI y) (clN (S 13 1)) (clN (S 14 1))
def meaS (S : St) (wd : Int32) : St := va_up (va_up (va_up S 48 (fun _ => nI (frsB (reS S wd) (clN (S 12 1) + 1)))) 49 (fun _ => nI (lstB (reS S wd) (clN (S 12 1) + 1)))) 50 (fun _ => nI (cntB (reS S wd) (clN (S 12 1) + 1)))
theorem okG.cl {S : St} (h : okG S) : S 13 1 = nI (clN (S 13 1)) ∧ S 14 1 = nI (clN (S 14 1)) ∧ S 12 1 = nI (clN (S 12 1)) ∧ clN (S 13 1) ≤ 99 ∧ clN (S 14 1) ≤ 99 ∧ clN (S 12 1) ≤ 99 := by
  obtain ⟨a, b, w, h1, h2, h3, h4, h5, h6⟩ := h
  have e1 : clN (S 13 1) = a := by unfold clN; rw [h1]; exact nI_clamp (by omega)
  have e2 : clN (S 14 1) = b := by unfold clN; rw [h2]; exact nI_clamp (by omega)
  have e3 : clN (S 12 1) = w := by unfold clN; rw [h3]; exact nI_clamp (by omega)
  rw [e1, e2, e3]
  exact ⟨h1, h2, h3, h4, h5, h6⟩
set_option maxHeartbeats 4000000 in
set_option maxRecDepth 20000 in
theorem c_X4_hasMan (l : Launch) (D : va_G) (k : Nat → ClassId) (q z : Nat → Nat) (g : Nat → Option Nat) (S : St) (X : va_W) (mn : Int32) : CI l D k yX4_hasMan cX4_hasMan 2 (some .boolean) 0 0 0 [.ref (q 33), .int mn] (wC k q z g S X) (fun r w' => w' = wC k q z g S X ∧ r = haM S mn) := by
  refine CI.mk (by decide) (Nat.le_of_ble_eq_true rfl) ?_
  intro p e R s m args below meth c A Q ls F hret hw hl
  have hx := xs_hx F
  have hb := xs_hb F
  have hl : lv_has ls 2 [(0, .ref (q 33)), (1, .int mn)] := hl
  refine lv_iload_n hx hb dX4_hasMan_0 rfl (lv_at hl 1 rfl) ?_
  refine lv_if_lt (tgt := 16) hx hb dX4_hasMan_1 rfl (fun c1 => ?_) (fun c1 => ?_)
  · refine lv_iconst (v := nI 0) hx hb dX4_hasMan_16 rfl ?_
    exact hret _ _ _ _ _ _ dX4_hasMan_17 hw rfl ⟨rfl, by unfold haM; first | (rw [show decide (0 ≤ mn ∧ mn < S 53 0) = false from decide_eq_false (fun q => absurd q.2 (Int32.not_lt.mpr c9))]; rfl) | (rw [show decide (0 ≤ mn ∧ mn < S 53 0) = false from decide_eq_false (fun q => absurd q.1 (Int32.not_le.mpr c1))]; rfl) | (rw [show decide (0 ≤ mn ∧ mn < S 53 0) = true from decide_eq_true ⟨Int32.not_lt.mp c1, Int32.not_le.mp c9⟩]; rfl)⟩
  · refine lv_iload_n hx hb dX4_hasMan_4 rfl (lv_at hl 1 rfl) ?_
    refine lv_aload_n hx hb dX4_hasMan_5 rfl (lv_at hl 0 rfl) ?_
    refine x_geti fiC_53 F hw fo_X4_24 dX4_hasMan_6 ?_
    refine lv_icmp_ge (tgt := 16) hx hb dX4_hasMan_9 rfl (fun c9 => ?_) (fun c9 => ?_)
    · refine lv_iconst (v := nI 0) hx hb dX4_hasMan_16 rfl ?_
      exact hret _ _ _ _ _ _ dX4_hasMan_17 hw rfl ⟨rfl, by unfold haM; first | (rw [show decide (0 ≤ mn ∧ mn < S 53 0) = false from decide_eq_false (fun q => absurd q.2 (Int32.not_lt.mpr c9))]; rfl) | (rw [show decide (0 ≤ mn ∧ mn < S 53 0) = false from decide_eq_false (fun q => absurd q.1 (Int32.not_le.mpr c1))]; rfl) | (rw [show decide (0 ≤ mn ∧ mn < S 53 0) = true from decide_eq_true ⟨Int32.not_lt.mp c1, Int32.not_le.mp c9⟩]; rfl)⟩
    · refine lv_iconst (v := nI 1) hx hb dX4_hasMan_12 rfl ?_
      refine lv_goto (tgt := 17) hx hb dX4_hasMan_13 rfl ?_
      exact hret _ _ _ _ _ _ dX4_hasMan_17 hw rfl ⟨rfl, by unfold haM; first | (rw [show decide (0 ≤ mn ∧ mn < S 53 0) = false from decide_eq_false (fun q => absurd q.2 (Int32.not_lt.mpr c9))]; rfl) | (rw [show decide (0 ≤ mn ∧ mn < S 53 0) = false from decide_eq_false (fun q => absurd q.1 (Int32.not_le.mpr c1))]; rfl) | (rw [show decide (0 ≤ mn ∧ mn < S 53 0) = true from decide_eq_true ⟨Int32.not_lt.mp c1, Int32.not_le.mp c9⟩]; rfl)⟩
set_option maxHeartbeats 4000000 in
set_option maxRecDepth 20000 in
theorem c_X4_lastDay (l : Launch) (D : va_G) (k : Nat → ClassId) (q z : Nat → Nat) (g : Nat → Option Nat) (S : St) (X : va_W) (hN : okN S) : CI l D k yX4_lastDay cX4_lastDay 1 (some .int) 0 0 0 [.ref (q 33)] (wC k q z g S X) (fun r w' => w' = wC k q z g S X ∧ r = (if metN S = 0 then nI 0 else S 36 (metN S - 1))) := by
  refine CI.mk (by decide) (Nat.le_of_ble_eq_true rfl) ?_
  intro p e R s m args below meth c A Q ls F hret hw hl
  have hx := xs_hx F
  have hb := xs_hb F
  have hl : lv_has ls 1 [(0, .ref (q 33))] := hl
  have h8 := hN.1.2
  have h16 := hN.2.1.2
  refine lv_aload_n hx hb dX4_lastDay_0 rfl (lv_at hl 0 rfl) ?_
  refine x_geti fiC_54 F hw fo_X4_28 dX4_lastDay_1 ?_
  refine x_top (y := nI (metN S)) hN.2.1.1 ?_
  refine x_if_ne (metN S) F (by omega) (tgt := 11) dX4_lastDay_4 rfl (fun c4 => ?_) (fun c4 => ?_)
  · refine lv_aload_n hx hb dX4_lastDay_11 rfl (lv_at hl 0 rfl) ?_
    refine x_getr frC_33_5 F hw fo_X4_18 dX4_lastDay_12 ?_
    refine lv_aload_n hx hb dX4_lastDay_15 rfl (lv_at hl 0 rfl) ?_
    refine x_geti fiC_54 F hw fo_X4_28 dX4_lastDay_16 ?_
    refine x_top (y := nI (metN S)) hN.2.1.1 ?_
    refine lv_iconst (v := nI 1) hx hb dX4_lastDay_19 rfl ?_
    refine lv_isub hx hb dX4_lastDay_20 ?_
    refine x_top (y := nI (metN S - 1)) (pk_sub (by omega)) ?_
    refine x_iald aiC_36 F hw (metN S - 1) rfl (by omega) dX4_lastDay_21 ?_
    exact hret _ _ _ _ _ _ dX4_lastDay_22 hw rfl ⟨rfl, by simp [c4]⟩
  · refine lv_iconst (v := nI 0) hx hb dX4_lastDay_7 rfl ?_
    refine lv_goto (tgt := 22) hx hb dX4_lastDay_8 rfl ?_
    exact hret _ _ _ _ _ _ dX4_lastDay_22 hw rfl ⟨rfl, by simp [c4]⟩
set_option maxHeartbeats 4000000 in
set_option maxRecDepth 20000 in
theorem c_X4_addMeeting (l : Launch) (D : va_G) (k : Nat → ClassId) (q z : Nat → Nat) (g : Nat → Option Nat) (S : St) (X : va_W) (mn : Int32) (dy : Int32) (hN : S 54 0 = nI (metN S)) (h15 : metN S < 16) : CI l D k yX4_addMeeting cX4_addMeeting 4 (some .int) 0 0 0 [.ref (q 33), .int mn, .int dy] (wC k q z g S X) (fun r w' => w' = wC k q z g (va_up (va_up (va_up S 35 (upd (S 35) (metN S) mn)) 36 (upd (S 36) (metN S) dy)) 54 (fun _ => nI (metN S + 1))) X ∧ r = nI (metN S)) := by
  refine CI.mk (by decide) (Nat.le_of_ble_eq_true rfl) ?_
  intro p e R s m args below meth c A Q ls F hret hw hl
  have hx := xs_hx F
  have hb := xs_hb F
  have hl : lv_has ls 4 [(0, .ref (q 33)), (1, .int mn), (2, .int dy)] := hl
  refine lv_aload_n hx hb dX4_addMeeting_0 rfl (lv_at hl 0 rfl) ?_
  refine x_geti fiC_54 F hw fo_X4_28 dX4_addMeeting_1 ?_
  refine x_top (y := nI (metN S)) hN ?_
  refine lv_istore_n (lv' := [(3, .int (nI (metN S))), (0, .ref (q 33)), (1, .int mn), (2, .int dy)]) hx hb dX4_addMeeting_4 rfl hl (Nat.le_of_ble_eq_true rfl) rfl (fun ls hl => ?_)
  refine lv_aload_n hx hb dX4_addMeeting_5 rfl (lv_at hl 1 rfl) ?_
  refine x_getr frC_33_4 F hw fo_X4_15 dX4_addMeeting_6 ?_
  refine lv_iload_n hx hb dX4_addMeeting_9 rfl (lv_at hl 0 rfl) ?_
  refine lv_iload_n hx hb dX4_addMeeting_10 rfl (lv_at hl 2 rfl) ?_
  refine x_iast aiC_35 F hw (metN S) rfl (by omega) dX4_addMeeting_11 (fun H locs hw => ?_)
  refine lv_aload_n hx hb dX4_addMeeting_12 rfl (lv_at hl 1 rfl) ?_
  refine x_getr frC_33_5 F hw fo_X4_18 dX4_addMeeting_13 ?_
  refine lv_iload_n hx hb dX4_addMeeting_16 rfl (lv_at hl 0 rfl) ?_
  refine lv_iload_n hx hb dX4_addMeeting_17 rfl (lv_at hl 3 rfl) ?_
  refine x_iast aiC_36 F hw (metN S) rfl (by omega) dX4_addMeeting_18 (fun H locs hw => ?_)
  refine lv_aload_n hx hb dX4_addMeeting_19 rfl (lv_at hl 1 rfl) ?_
  refine lv_dup hx hb dX4_addMeeting_20 rfl ?_
  refine x_geti fiC_54 F hw fo_X4_28 dX4_addMeeting_21 ?_
  refine x_top (y := S 54 0) rfl ?_
  refine x_top (y := nI (metN S)) hN ?_
  refine lv_iconst (v := nI 1) hx hb dX4_addMeeting_24 rfl ?_
  refine lv_iadd hx hb dX4_addMeeting_25 ?_
  refine x_top (y := nI ((metN S) + 1)) (nI_add _ _) ?_
  refine x_puti fiC_54 F hw fo_X4_28 rfl rfl dX4_addMeeting_26 (fun H locs hw => ?_)
  refine lv_iload_n hx hb dX4_addMeeting_29 rfl (lv_at hl 0 rfl) ?_
  exact hret _ _ _ _ _ _ dX4_addMeeting_30 hw rfl ⟨rfl, rfl⟩
set_option maxHeartbeats 4000000 in
set_option maxRecDepth 20000 in
theorem c_X4_sickMen (l : Launch) (D : va_G) (k : Nat → ClassId) (q z : Nat → Nat) (g : Nat → Option Nat) (S : St) (X : va_W) (hN : okN S) : CI l D k yX4_sickMen cX4_sickMen 3 (some .int) 0 0 0 [.ref (q 33)] (wC k q z g S X) (fun r w' => w' = wC k q z g S X ∧ r = sckF S) := by
  refine CI.mk (by decide) (Nat.le_of_ble_eq_true rfl) ?_
  intro p e R s m args below meth c A Q ls F hret hw hl
  have hx := xs_hx F
  have hb := xs_hb F
  have hl : lv_has ls 3 [(0, .ref (q 33))] := hl
  have h8 := hN.1.2
  have h16 := hN.2.1.2
  refine lv_iconst (v := nI 0) hx hb dX4_sickMen_0 rfl ?_
  refine lv_istore_n (lv' := [(1, .int (nI 0)), (0, .ref (q 33))]) hx hb dX4_sickMen_1 rfl hl (Nat.le_of_ble_eq_true rfl) rfl (fun ls hl => ?_)
  refine lv_iconst (v := nI 0) hx hb dX4_sickMen_2 rfl ?_
  refine lv_istore_n (lv' := [(2, .int (nI 0)), (1, .int (nI 0)), (0, .ref (q 33))]) hx hb dX4_sickMen_3 rfl hl (Nat.le_of_ble_eq_true rfl) rfl (fun ls hl => ?_)
  have K4 : ∀ (n4_ : Nat) (i : Nat) (x : Int32) (H : Heap) (locs : List Loc) (ls : Array Slot), menN S - i < n4_ → (i ≤ menN S) → (x = orB (fun j => S 34 j != (-1)) i) → Wd D A s.heap H locs (wC k q z g S X) → lv_has ls 3 [(0, .ref (q 33)), (1, .int x), (2, .int (nI i))] → W p l e R s m args below meth c H locs 0 0 Q (F0 m 4 ls []) := by
    intro n4_
    induction n4_ with
    | zero =>
      intro i x H locs ls hn4_
      exact absurd hn4_ (Nat.not_lt_zero _)
    | succ n4_ ih4_ =>
      intro i x H locs ls hn4_ hi h1 hw hl
      refine lv_iload_n hx hb dX4_sickMen_4 rfl (lv_at hl 2 rfl) ?_
      refine lv_aload_n hx hb dX4_sickMen_5 rfl (lv_at hl 0 rfl) ?_
      refine x_geti fiC_53 F hw fo_X4_24 dX4_sickMen_6 ?_
      refine x_top (y := nI (menN S)) hN.1.1 ?_
      refine x_icmp_ge i (menN S) F (by omega) (by omega) (tgt := 34) dX4_sickMen_9 rfl (fun c9 => ?_) (fun c9 => ?_)
      · refine lv_iload_n hx hb dX4_sickMen_34 rfl (lv_at hl 1 rfl) ?_
        exact hret _ _ _ _ _ _ dX4_sickMen_35 hw rfl ⟨rfl, by rw [h1, show i = menN S by omega]; rfl⟩
      · refine lv_aload_n hx hb dX4_sickMen_12 rfl (lv_at hl 0 rfl) ?_
        refine x_getr frC_33_3 F hw fo_X4_9 dX4_sickMen_13 ?_
        refine lv_iload_n hx hb dX4_sickMen_16 rfl (lv_at hl 2 rfl) ?_
        refine x_iald aiC_34 F hw i rfl (by omega) dX4_sickMen_17 ?_
        refine lv_iconst (v := (-1)) hx hb dX4_sickMen_18 rfl ?_
        refine lv_icmp_eq (tgt := 28) hx hb dX4_sickMen_19 rfl (fun c19 => ?_) (fun c19 => ?_)
        · refine lv_iinc (v := nI (i + 1)) (lv' := [(2, .int (nI (i + 1))), (0, .ref (q 33)), (1, .int x)]) hx hb dX4_sickMen_28 hl (k := 2) rfl (nI_1 _) (Nat.le_of_ble_eq_true rfl) rfl (fun ls hl => ?_)
          refine lv_goto (tgt := 4) hx hb dX4_sickMen_31 rfl ?_
          exact ih4_ (i + 1) x _ _ _ (by first | omega | (simp only [] at *; omega)) (by first | assumption | omega | rfl) (by simp [orB, h1, c19]) hw (lv_sub hl [1, 2, 0] rfl)
        · refine lv_iload_n hx hb dX4_sickMen_22 rfl (lv_at hl 1 rfl) ?_
          refine lv_iconst (v := nI 1) hx hb dX4_sickMen_23 rfl ?_
          refine lv_iload_n hx hb dX4_sickMen_24 rfl (lv_at hl 2 rfl) ?_
          refine lv_ishl hx hb dX4_sickMen_25 ?_
          refine lv_ior hx hb dX4_sickMen_26 ?_
          refine lv_istore_n (lv' := [(1, .int (x ||| ((nI 1) <<< ((nI i) &&& 31)))), (0, .ref (q 33)), (2, .int (nI i))]) hx hb dX4_sickMen_27 rfl hl (Nat.le_of_ble_eq_true rfl) rfl (fun ls hl => ?_)
          refine lv_iinc (v := nI (i + 1)) (lv' := [(2, .int (nI (i + 1))), (1, .int (x ||| ((nI 1) <<< ((nI i) &&& 31)))), (0, .ref (q 33))]) hx hb dX4_sickMen_28 hl (k := 2) rfl (nI_1 _) (Nat.le_of_ble_eq_true rfl) rfl (fun ls hl => ?_)
          refine lv_goto (tgt := 4) hx hb dX4_sickMen_31 rfl ?_
          exact ih4_ (i + 1) (x ||| ((nI 1) <<< ((nI i) &&& 31))) _ _ _ (by first | omega | (simp only [] at *; omega)) (by first | assumption | omega | rfl) (by simp [orB, h1, c19]) hw (lv_sub hl [2, 1, 0] rfl)
  exact K4 _ 0 (nI 0) _ _ _ (Nat.lt_succ_self _) (by first | assumption | omega | rfl) (by rfl) hw (lv_sub hl [2, 1, 0] rfl)
set_option maxHeartbeats 4000000 in
set_option maxRecDepth 20000 in
theorem c_X4_couldGive (l : Launch) (D : va_G) (k : Nat → ClassId) (q z : Nat → Nat) (g : Nat → Option Nat) (S : St) (X : va_W) (gr : Nat) (dy : Int32) (wt : Int32) (op : Int32) (hg : gr < 8) : CI l D k yX4_couldGive cX4_couldGive 6 (some .boolean) 0 0 0 [.ref (q 33), .int (nI gr), .int dy, .int wt, .int op] (wC k q z g S X) (fun r w' => w' = wC k q z g S X ∧ r = b01 (cgv (S 34 gr) dy wt op)) := by
  refine CI.mk (by decide) (Nat.le_of_ble_eq_true rfl) ?_
  intro p e R s m args below meth c A Q ls F hret hw hl
  have hx := xs_hx F
  have hb := xs_hb F
  have hl : lv_has ls 6 [(0, .ref (q 33)), (1, .int (nI gr)), (2, .int dy), (3, .int wt), (4, .int op)] := hl
  refine lv_aload_n hx hb dX4_couldGive_0 rfl (lv_at hl 0 rfl) ?_
  refine x_getr frC_33_3 F hw fo_X4_9 dX4_couldGive_1 ?_
  refine lv_iload_n hx hb dX4_couldGive_4 rfl (lv_at hl 1 rfl) ?_
  refine x_iald aiC_34 F hw gr rfl (by omega) dX4_couldGive_5 ?_
  refine lv_istore (lv' := [(5, .int (S 34 gr)), (0, .ref (q 33)), (1, .int (nI gr)), (2, .int dy), (3, .int wt), (4, .int op)]) hx hb dX4_couldGive_6 hl (Nat.le_of_ble_eq_true rfl) rfl (fun ls hl => ?_)
  refine lv_iload hx hb dX4_couldGive_8 (lv_at hl 0 rfl) ?_
  refine lv_iconst (v := (-1)) hx hb dX4_couldGive_10 rfl ?_
  refine lv_icmp_eq (tgt := 39) hx hb dX4_couldGive_11 rfl (fun c11 => ?_) (fun c11 => ?_)
  · refine lv_iconst (v := nI 0) hx hb dX4_couldGive_39 rfl ?_
    exact hret _ _ _ _ _ _ dX4_couldGive_40 hw rfl ⟨rfl, by unfold cgv; first | (rw [decide_eq_true ⟨c11, Int32.not_lt.mp c19, Int32.not_lt.mp c32⟩]; rfl) | (rw [decide_eq_false (fun q => absurd c32 (Int32.not_lt.mpr q.2.2))]; rfl) | (rw [decide_eq_false (fun q => absurd c19 (Int32.not_lt.mpr q.2.1))]; rfl) | (rw [decide_eq_false (fun q => q.1 c11)]; rfl)⟩
  · refine lv_iload hx hb dX4_couldGive_14 (lv_at hl 0 rfl) ?_
    refine lv_iload_n hx hb dX4_couldGive_16 rfl (lv_at hl 4 rfl) ?_
    refine lv_isub hx hb dX4_couldGive_17 ?_
    refine lv_iload_n hx hb dX4_couldGive_18 rfl (lv_at hl 3 rfl) ?_
    refine lv_icmp_gt (tgt := 39) hx hb dX4_couldGive_19 rfl (fun c19 => ?_) (fun c19 => ?_)
    · refine lv_iconst (v := nI 0) hx hb dX4_couldGive_39 rfl ?_
      exact hret _ _ _ _ _ _ dX4_couldGive_40 hw rfl ⟨rfl, by unfold cgv; first | (rw [decide_eq_true ⟨c11, Int32.not_lt.mp c19, Int32.not_lt.mp c32⟩]; rfl) | (rw [decide_eq_false (fun q => absurd c32 (Int32.not_lt.mpr q.2.2))]; rfl) | (rw [decide_eq_false (fun q => absurd c19 (Int32.not_lt.mpr q.2.1))]; rfl) | (rw [decide_eq_false (fun q => q.1 c11)]; rfl)⟩
    · refine lv_iload_n hx hb dX4_couldGive_22 rfl (lv_at hl 3 rfl) ?_
      refine lv_iload hx hb dX4_couldGive_23 (lv_at hl 5 rfl) ?_
      refine lv_iconst (v := nI 1) hx hb dX4_couldGive_25 rfl ?_
      refine lv_isub hx hb dX4_couldGive_26 ?_
      refine lv_isub hx hb dX4_couldGive_27 ?_
      refine lv_iload hx hb dX4_couldGive_28 (lv_at hl 0 rfl) ?_
      refine lv_iconst (v := nI 1) hx hb dX4_couldGive_30 rfl ?_
      refine lv_isub hx hb dX4_couldGive_31 ?_
      refine lv_icmp_gt (tgt := 39) hx hb dX4_couldGive_32 rfl (fun c32 => ?_) (fun c32 => ?_)
      · refine lv_iconst (v := nI 0) hx hb dX4_couldGive_39 rfl ?_
        exact hret _ _ _ _ _ _ dX4_couldGive_40 hw rfl ⟨rfl, by unfold cgv; first | (rw [decide_eq_true ⟨c11, Int32.not_lt.mp c19, Int32.not_lt.mp c32⟩]; rfl) | (rw [decide_eq_false (fun q => absurd c32 (Int32.not_lt.mpr q.2.2))]; rfl) | (rw [decide_eq_false (fun q => absurd c19 (Int32.not_lt.mpr q.2.1))]; rfl) | (rw [decide_eq_false (fun q => q.1 c11)]; rfl)⟩
      · refine lv_iconst (v := nI 1) hx hb dX4_couldGive_35 rfl ?_
        refine lv_goto (tgt := 40) hx hb dX4_couldGive_36 rfl ?_
        exact hret _ _ _ _ _ _ dX4_couldGive_40 hw rfl ⟨rfl, by unfold cgv; first | (rw [decide_eq_true ⟨c11, Int32.not_lt.mp c19, Int32.not_lt.mp c32⟩]; rfl) | (rw [decide_eq_false (fun q => absurd c32 (Int32.not_lt.mpr q.2.2))]; rfl) | (rw [decide_eq_false (fun q => absurd c19 (Int32.not_lt.mpr q.2.1))]; rfl) | (rw [decide_eq_false (fun q => q.1 c11)]; rfl)⟩
set_option maxHeartbeats 4000000 in
set_option maxRecDepth 20000 in
theorem c_X4_giversOf (l : Launch) (D : va_G) (k : Nat → ClassId) (q z : Nat → Nat) (g : Nat → Option Nat) (S : St) (X : va_W) (mn : Nat) (wt : Int32) (op : Int32) (hN : okN S) (hm : mn < 8) : CI l D k yX4_giversOf cX4_giversOf 9 (some .int) 1 0 0 [.ref (q 33), .int (nI mn), .int wt, .int op] (wC k q z g S X) (fun r w' => w' = wC k q z g S X ∧ r = gvs S mn wt op) := by
  refine CI.mk (by decide) (Nat.le_of_ble_eq_true rfl) ?_
  intro p e R s m args below meth c A Q ls F hret hw hl
  have hx := xs_hx F
  have hb := xs_hb F
  have hl : lv_has ls 9 [(0, .ref (q 33)), (1, .int (nI mn)), (2, .int wt), (3, .int op)] := hl
  have h8 := hN.1.2
  have h16 := hN.2.1.2
  refine lv_iconst (v := nI 0) hx hb dX4_giversOf_0 rfl ?_
  refine lv_istore (lv' := [(4, .int (nI 0)), (0, .ref (q 33)), (1, .int (nI mn)), (2, .int wt), (3, .int op)]) hx hb dX4_giversOf_1 hl (Nat.le_of_ble_eq_true rfl) rfl (fun ls hl => ?_)
  refine lv_aload_n hx hb dX4_giversOf_3 rfl (lv_at hl 1 rfl) ?_
  refine x_getr frC_33_3 F hw fo_X4_9 dX4_giversOf_4 ?_
  refine lv_iload_n hx hb dX4_giversOf_7 rfl (lv_at hl 2 rfl) ?_
  refine x_iald aiC_34 F hw mn rfl (by omega) dX4_giversOf_8 ?_
  refine lv_iconst (v := (-1)) hx hb dX4_giversOf_9 rfl ?_
  refine lv_icmp_ne (tgt := 16) hx hb dX4_giversOf_10 rfl (fun c10 => ?_) (fun c10 => ?_)
  · refine lv_iconst (v := nI 1) hx hb dX4_giversOf_16 rfl ?_
    refine lv_istore (lv' := [(5, .int (nI 1)), (4, .int (nI 0)), (0, .ref (q 33)), (1, .int (nI mn)), (2, .int wt), (3, .int op)]) hx hb dX4_giversOf_17 hl (Nat.le_of_ble_eq_true rfl) rfl (fun ls hl => ?_)
    have K19 : ∀ (n19_ : Nat) (i : Nat) (x : Int32) (H : Heap) (locs : List Loc) (ls : Array Slot), metN S - i < n19_ → (i ≤ metN S - 1) → (x = gvF (S 34) (S 35) (S 36) mn wt op i) → Wd D A s.heap H locs (wC k q z g S X) → lv_has ls 9 [(0, .ref (q 33)), (1, .int (nI mn)), (2, .int wt), (3, .int op), (4, .int x), (5, .int (nI (i + 1)))] → W p l e R s m args below meth c H locs 0 0 Q (F0 m 19 ls []) := by
      intro n19_
      induction n19_ with
      | zero =>
        intro i x H locs ls hn19_
        exact absurd hn19_ (Nat.not_lt_zero _)
      | succ n19_ ih19_ =>
        intro i x H locs ls hn19_ hi h1 hw hl
        refine lv_iload hx hb dX4_giversOf_19 (lv_at hl 5 rfl) ?_
        refine lv_aload_n hx hb dX4_giversOf_21 rfl (lv_at hl 0 rfl) ?_
        refine x_geti fiC_54 F hw fo_X4_28 dX4_giversOf_22 ?_
        refine x_top (y := nI (metN S)) hN.2.1.1 ?_
        refine x_icmp_ge (i + 1) (metN S) F (by omega) (by omega) (tgt := 122) dX4_giversOf_25 rfl (fun c25 => ?_) (fun c25 => ?_)
        · refine lv_iload hx hb dX4_giversOf_122 (lv_at hl 4 rfl) ?_
          exact hret _ _ _ _ _ _ dX4_giversOf_124 hw rfl ⟨rfl, by unfold gvs; rw [if_neg c10, h1, show i = metN S - 1 by omega]⟩
        · obtain ⟨gm, hgm, egm⟩ := hN.2.2 i (by omega)
          refine lv_aload_n hx hb dX4_giversOf_28 rfl (lv_at hl 0 rfl) ?_
          refine x_getr frC_33_4 F hw fo_X4_15 dX4_giversOf_29 ?_
          refine lv_iload hx hb dX4_giversOf_32 (lv_at hl 5 rfl) ?_
          refine lv_iconst (v := nI 1) hx hb dX4_giversOf_34 rfl ?_
          refine lv_isub hx hb dX4_giversOf_35 ?_
          refine x_top (y := nI i) (nI_pred _) ?_
          refine x_iald aiC_35 F hw i rfl (by omega) dX4_giversOf_36 ?_
          refine x_top (y := nI gm) egm ?_
          refine lv_istore (lv' := [(6, .int (nI gm)), (0, .ref (q 33)), (1, .int (nI mn)), (2, .int wt), (3, .int op), (4, .int x), (5, .int (nI (i + 1)))]) hx hb dX4_giversOf_37 hl (Nat.le_of_ble_eq_true rfl) rfl (fun ls hl => ?_)
          refine lv_aload_n hx hb dX4_giversOf_39 rfl (lv_at hl 1 rfl) ?_
          refine x_getr frC_33_5 F hw fo_X4_18 dX4_giversOf_40 ?_
          refine lv_iload hx hb dX4_giversOf_43 (lv_at hl 6 rfl) ?_
          refine x_iald aiC_36 F hw (i + 1) rfl (by omega) dX4_giversOf_45 ?_
          refine lv_istore (lv' := [(7, .int (S 36 (i + 1))), (6, .int (nI gm)), (0, .ref (q 33)), (1, .int (nI mn)), (2, .int wt), (3, .int op), (4, .int x), (5, .int (nI (i + 1)))]) hx hb dX4_giversOf_46 hl (Nat.le_of_ble_eq_true rfl) rfl (fun ls hl => ?_)
          refine lv_aload_n hx hb dX4_giversOf_48 rfl (lv_at hl 2 rfl) ?_
          refine x_getr frC_33_4 F hw fo_X4_15 dX4_giversOf_49 ?_
          refine lv_iload hx hb dX4_giversOf_52 (lv_at hl 7 rfl) ?_
          refine x_iald aiC_35 F hw (i + 1) rfl (by omega) dX4_giversOf_54 ?_
          refine lv_iload_n hx hb dX4_giversOf_55 rfl (lv_at hl 3 rfl) ?_
          have K70 : ∀ (t : Bool) (H : Heap) (locs : List Loc) (ls : Array Slot), (t = decide (S 35 (i + 1) = nI mn ∧ ¬ S 35 i = nI mn)) → Wd D A s.heap H locs (wC k q z g S X) → lv_has ls 9 [(0, .ref (q 33)), (1, .int (nI mn)), (2, .int wt), (3, .int op), (4, .int x), (5, .int (nI (i + 1))), (6, .int (nI gm)), (7, .int (S 36 (i + 1)))] → W p l e R s m args below meth c H locs 0 0 Q (F0 m 70 ls [.int (b01 t)]) := by
            intro t H locs ls h70 hw hl
            refine lv_istore (lv' := [(8, .int (b01 t)), (0, .ref (q 33)), (1, .int (nI mn)), (2, .int wt), (3, .int op), (4, .int x), (5, .int (nI (i + 1))), (6, .int (nI gm)), (7, .int (S 36 (i + 1)))]) hx hb dX4_giversOf_70 hl (Nat.le_of_ble_eq_true rfl) rfl (fun ls hl => ?_)
            refine lv_iload hx hb dX4_giversOf_72 (lv_at hl 0 rfl) ?_
            refine lv_if_eq (tgt := 116) hx hb dX4_giversOf_74 rfl (fun c74 => ?_) (fun c74 => ?_)
            · refine lv_iinc (v := nI (i + 1 + 1)) (lv' := [(5, .int (nI (i + 1 + 1))), (8, .int (b01 t)), (0, .ref (q 33)), (1, .int (nI mn)), (2, .int wt), (3, .int op), (4, .int x), (6, .int (nI gm)), (7, .int (S 36 (i + 1)))]) hx hb dX4_giversOf_116 hl (k := 6) rfl (nI_1 _) (Nat.le_of_ble_eq_true rfl) rfl (fun ls hl => ?_)
              refine lv_goto (tgt := 19) hx hb dX4_giversOf_119 rfl ?_
              exact ih19_ (i + 1) x _ _ _ (by first | omega | (simp only [] at *; omega)) (by first | assumption | omega | rfl) (by rw [h1]; first | exact (gvF_n (by unfold gvB; rw [h70.symm.trans (b01_0.mp c74)]; rfl)).symm | exact (gvF_n (by unfold gvB; rw [c91]; simp)).symm | exact (gvF_n (by unfold gvB; rw [egm, nI_clamp (by omega), b01_0.mp c104]; simp)).symm | (rw [gvF_y (by unfold gvB; rw [h70.symm.trans (b01_1.mp c74), bne_iff_ne.mpr c91, egm, nI_clamp (by omega), b01_1.mp c104]; rfl), egm])) hw (lv_sub hl [2, 3, 4, 5, 6, 0] rfl)
            · refine lv_aload_n hx hb dX4_giversOf_77 rfl (lv_at hl 1 rfl) ?_
              refine x_getr frC_33_3 F hw fo_X4_9 dX4_giversOf_78 ?_
              refine lv_iload_n hx hb dX4_giversOf_81 rfl (lv_at hl 2 rfl) ?_
              refine x_iald aiC_34 F hw mn rfl (by omega) dX4_giversOf_82 ?_
              refine lv_iload hx hb dX4_giversOf_83 (lv_at hl 8 rfl) ?_
              refine lv_isub hx hb dX4_giversOf_85 ?_
              refine lv_iconst (v := nI 1) hx hb dX4_giversOf_86 rfl ?_
              refine lv_iload_n hx hb dX4_giversOf_87 rfl (lv_at hl 3 rfl) ?_
              refine x_fSI (rest := []) (c_X6_within l D k (wC k q z g S X) ((S 34 mn) - (S 36 (i + 1))) (nI 1) wt) mo_X4_31 F hw (Nat.le_of_ble_eq_true rfl) (x_cs F (Nat.le_of_ble_eq_true rfl) (Nat.le_of_ble_eq_true rfl)) rfl rfl hl.1 (Nat.le_of_ble_eq_true rfl) dX4_giversOf_88 (fun H locs hw => ?_)
              refine lv_if_eq (tgt := 116) hx hb dX4_giversOf_91 rfl (fun c91 => ?_) (fun c91 => ?_)
              · refine lv_iinc (v := nI (i + 1 + 1)) (lv' := [(5, .int (nI (i + 1 + 1))), (8, .int (b01 t)), (0, .ref (q 33)), (1, .int (nI mn)), (2, .int wt), (3, .int op), (4, .int x), (6, .int (nI gm)), (7, .int (S 36 (i + 1)))]) hx hb dX4_giversOf_116 hl (k := 6) rfl (nI_1 _) (Nat.le_of_ble_eq_true rfl) rfl (fun ls hl => ?_)
                refine lv_goto (tgt := 19) hx hb dX4_giversOf_119 rfl ?_
                exact ih19_ (i + 1) x _ _ _ (by first | omega | (simp only [] at *; omega)) (by first | assumption | omega | rfl) (by rw [h1]; first | exact (gvF_n (by unfold gvB; rw [h70.symm.trans (b01_0.mp c74)]; rfl)).symm | exact (gvF_n (by unfold gvB; rw [c91]; simp)).symm | exact (gvF_n (by unfold gvB; rw [egm, nI_clamp (by omega), b01_0.mp c104]; simp)).symm | (rw [gvF_y (by unfold gvB; rw [h70.symm.trans (b01_1.mp c74), bne_iff_ne.mpr c91, egm, nI_clamp (by omega), b01_1.mp c104]; rfl), egm])) hw (lv_sub hl [2, 3, 4, 5, 6, 0] rfl)
              · refine lv_aload_n hx hb dX4_giversOf_94 rfl (lv_at hl 1 rfl) ?_
                refine lv_iload hx hb dX4_giversOf_95 (lv_at hl 7 rfl) ?_
                refine lv_iload hx hb dX4_giversOf_97 (lv_at hl 8 rfl) ?_
                refine lv_iload_n hx hb dX4_giversOf_99 rfl (lv_at hl 3 rfl) ?_
                refine lv_iload_n hx hb dX4_giversOf_100 rfl (lv_at hl 4 rfl) ?_
                refine x_fVI (rest := []) (c_X4_couldGive l D k q z g S X gm (S 36 (i + 1)) wt op (by first | assumption | omega)) mo_X4_35 obC_33 F hw (Nat.le_of_ble_eq_true rfl) (x_cs F (Nat.le_of_ble_eq_true rfl) (Nat.le_of_ble_eq_true rfl)) rfl rfl hl.1 (Nat.le_of_ble_eq_true rfl) dX4_giversOf_101 (fun H locs hw => ?_)
                refine lv_if_eq (tgt := 116) hx hb dX4_giversOf_104 rfl (fun c104 => ?_) (fun c104 => ?_)
                · refine lv_iinc (v := nI (i + 1 + 1)) (lv' := [(5, .int (nI (i + 1 + 1))), (8, .int (b01 t)), (0, .ref (q 33)), (1, .int (nI mn)), (2, .int wt), (3, .int op), (4, .int x), (6, .int (nI gm)), (7, .int (S 36 (i + 1)))]) hx hb dX4_giversOf_116 hl (k := 6) rfl (nI_1 _) (Nat.le_of_ble_eq_true rfl) rfl (fun ls hl => ?_)
                  refine lv_goto (tgt := 19) hx hb dX4_giversOf_119 rfl ?_
                  exact ih19_ (i + 1) x _ _ _ (by first | omega | (simp only [] at *; omega)) (by first | assumption | omega | rfl) (by rw [h1]; first | exact (gvF_n (by unfold gvB; rw [h70.symm.trans (b01_0.mp c74)]; rfl)).symm | exact (gvF_n (by unfold gvB; rw [c91]; simp)).symm | exact (gvF_n (by unfold gvB; rw [egm, nI_clamp (by omega), b01_0.mp c104]; simp)).symm | (rw [gvF_y (by unfold gvB; rw [h70.symm.trans (b01_1.mp c74), bne_iff_ne.mpr c91, egm, nI_clamp (by omega), b01_1.mp c104]; rfl), egm])) hw (lv_sub hl [2, 3, 4, 5, 6, 0] rfl)
                · refine lv_iload hx hb dX4_giversOf_107 (lv_at hl 5 rfl) ?_
                  refine lv_iconst (v := nI 1) hx hb dX4_giversOf_109 rfl ?_
                  refine lv_iload hx hb dX4_giversOf_110 (lv_at hl 7 rfl) ?_
                  refine lv_ishl hx hb dX4_giversOf_112 ?_
                  refine lv_ior hx hb dX4_giversOf_113 ?_
                  refine lv_istore (lv' := [(4, .int (x ||| ((nI 1) <<< ((nI gm) &&& 31)))), (8, .int (b01 t)), (0, .ref (q 33)), (1, .int (nI mn)), (2, .int wt), (3, .int op), (5, .int (nI (i + 1))), (6, .int (nI gm)), (7, .int (S 36 (i + 1)))]) hx hb dX4_giversOf_114 hl (Nat.le_of_ble_eq_true rfl) rfl (fun ls hl => ?_)
                  refine lv_iinc (v := nI (i + 1 + 1)) (lv' := [(5, .int (nI (i + 1 + 1))), (4, .int (x ||| ((nI 1) <<< ((nI gm) &&& 31)))), (8, .int (b01 t)), (0, .ref (q 33)), (1, .int (nI mn)), (2, .int wt), (3, .int op), (6, .int (nI gm)), (7, .int (S 36 (i + 1)))]) hx hb dX4_giversOf_116 hl (k := 6) rfl (nI_1 _) (Nat.le_of_ble_eq_true rfl) rfl (fun ls hl => ?_)
                  refine lv_goto (tgt := 19) hx hb dX4_giversOf_119 rfl ?_
                  exact ih19_ (i + 1) (x ||| ((nI 1) <<< ((nI gm) &&& 31))) _ _ _ (by first | omega | (simp only [] at *; omega)) (by first | assumption | omega | rfl) (by rw [h1]; first | exact (gvF_n (by unfold gvB; rw [h70.symm.trans (b01_0.mp c74)]; rfl)).symm | exact (gvF_n (by unfold gvB; rw [c91]; simp)).symm | exact (gvF_n (by unfold gvB; rw [egm, nI_clamp (by omega), b01_0.mp c104]; simp)).symm | (rw [gvF_y (by unfold gvB; rw [h70.symm.trans (b01_1.mp c74), bne_iff_ne.mpr c91, egm, nI_clamp (by omega), b01_1.mp c104]; rfl), egm])) hw (lv_sub hl [3, 4, 5, 6, 1, 0] rfl)
          refine lv_icmp_ne (tgt := 69) hx hb dX4_giversOf_56 rfl (fun c56 => ?_) (fun c56 => ?_)
          · refine lv_iconst (v := nI 0) hx hb dX4_giversOf_69 rfl ?_
            exact K70 false _ _ _ (by first | exact (decide_eq_false (fun q => c56 q.1)).symm | exact (decide_eq_false (fun q => q.2 (by rw [egm, c62]))).symm | exact (decide_eq_true ⟨c56, fun q => c62 ((nI_eq (by omega) (by omega)).mp (egm.symm.trans q))⟩).symm) hw (lv_sub hl [2, 3, 4, 5, 6, 7, 1, 0] rfl)
          · refine lv_iload hx hb dX4_giversOf_59 (lv_at hl 1 rfl) ?_
            refine lv_iload_n hx hb dX4_giversOf_61 rfl (lv_at hl 3 rfl) ?_
            refine x_icmp_eq gm mn F (by omega) (by omega) (tgt := 69) dX4_giversOf_62 rfl (fun c62 => ?_) (fun c62 => ?_)
            · refine lv_iconst (v := nI 0) hx hb dX4_giversOf_69 rfl ?_
              exact K70 false _ _ _ (by first | exact (decide_eq_false (fun q => c56 q.1)).symm | exact (decide_eq_false (fun q => q.2 (by rw [egm, c62]))).symm | exact (decide_eq_true ⟨c56, fun q => c62 ((nI_eq (by omega) (by omega)).mp (egm.symm.trans q))⟩).symm) hw (lv_sub hl [2, 3, 4, 5, 6, 7, 1, 0] rfl)
            · refine lv_iconst (v := nI 1) hx hb dX4_giversOf_65 rfl ?_
              refine lv_goto (tgt := 70) hx hb dX4_giversOf_66 rfl ?_
              exact K70 true _ _ _ (by first | exact (decide_eq_false (fun q => c56 q.1)).symm | exact (decide_eq_false (fun q => q.2 (by rw [egm, c62]))).symm | exact (decide_eq_true ⟨c56, fun q => c62 ((nI_eq (by omega) (by omega)).mp (egm.symm.trans q))⟩).symm) hw (lv_sub hl [2, 3, 4, 5, 6, 7, 1, 0] rfl)
    exact K19 _ 0 (nI 0) _ _ _ (Nat.lt_succ_self _) (by first | assumption | omega | rfl) (by rfl) hw (lv_sub hl [2, 3, 4, 5, 1, 0] rfl)
  · refine lv_iload hx hb dX4_giversOf_13 (lv_at hl 0 rfl) ?_
    exact hret _ _ _ _ _ _ dX4_giversOf_15 hw rfl ⟨rfl, by unfold gvs; rw [if_pos c10]⟩
theorem gvs_up {S : St} {x : Int32} {f : Nat → Int32} {mn : Nat} {wt op : Int32} : gvs (va_up (va_up S 55 (fun _ => x)) 37 f) mn wt op = gvs S mn wt op := rfl
theorem okN_up {S : St} {x : Int32} {f : Nat → Int32} (h : okN S) : okN (va_up (va_up S 55 (fun _ => x)) 37 f) := h
theorem upd_lt {f g : Nat → Int32} {i : Nat} {v : Int32} (hv : v = g i) : upd (fun j => if j < i then g j else f j) i v = fun j => if j < i + 1 then g j else f j := by
  funext j
  by_cases hj : j = i
  · rw [hj, pk_us, if_pos (Nat.lt_succ_self i), hv]
  · rw [pk_un hj]
    by_cases hl : j < i
    · rw [if_pos hl, if_pos (by omega)]
    · rw [if_neg hl, if_neg (by omega)]
theorem orB_y {p : Nat → Bool} {n : Nat} (h : p n = true) : orB p (n + 1) = orB p n ||| (nI 1 <<< (nI n &&& 31)) := if_pos h
theorem orB_n {p : Nat → Bool} {n : Nat} (h : p n = false) : orB p (n + 1) = orB p n := if_neg (by rw [h]; decide)
set_option maxHeartbeats 4000000 in
set_option maxRecDepth 20000 in
theorem c_X4_trace (l : Launch) (D : va_G) (k : Nat → ClassId) (q z : Nat → Nat) (g : Nat → Option Nat) (S : St) (X : va_W) (wt : Int32) (op : Int32) (hN : okN S) : CV l D k yX4_trace cX4_trace 5 2 0 0 [.ref (q 33), .int wt, .int op] (wC k q z g S X) (fun w' => w' = wC k q z g (traS S wt op) X) := by
  refine CV.mk (by decide) (Nat.le_of_ble_eq_true rfl) ?_
  intro p e R s m args below meth c A Q ls F hnm hret hw hl
  have hx := xs_hx F
  have hb := xs_hb F
  have hl : lv_has ls 5 [(0, .ref (q 33)), (1, .int wt), (2, .int op)] := hl
  have h8 := hN.1.2
  have h16 := hN.2.1.2
  refine lv_aload_n hx hb dX4_trace_0 rfl (lv_at hl 0 rfl) ?_
  refine lv_iconst (v := nI 0) hx hb dX4_trace_1 rfl ?_
  refine x_puti fiC_55 F hw fo_X4_39 rfl rfl dX4_trace_2 (fun H locs hw => ?_)
  refine lv_aload_n hx hb dX4_trace_5 rfl (lv_at hl 0 rfl) ?_
  refine x_fVI (rest := []) (c_X4_sickMen l D k q z g (va_up S 55 (fun _ => nI 0)) X (by exact hN)) mo_X4_42 obC_33 F hw (Nat.le_of_ble_eq_true rfl) (x_cs F (Nat.le_of_ble_eq_true rfl) (Nat.le_of_ble_eq_true rfl)) rfl rfl hl.1 (Nat.le_of_ble_eq_true rfl) dX4_trace_6 (fun H locs hw => ?_)
  refine x_top (y := sckF S) rfl ?_
  refine lv_istore_n (lv' := [(3, .int (sckF S)), (0, .ref (q 33)), (1, .int wt), (2, .int op)]) hx hb dX4_trace_9 rfl hl (Nat.le_of_ble_eq_true rfl) rfl (fun ls hl => ?_)
  refine lv_iconst (v := nI 0) hx hb dX4_trace_10 rfl ?_
  refine lv_istore (lv' := [(4, .int (nI 0)), (3, .int (sckF S)), (0, .ref (q 33)), (1, .int wt), (2, .int op)]) hx hb dX4_trace_11 hl (Nat.le_of_ble_eq_true rfl) rfl (fun ls hl => ?_)
  have K13 : ∀ (n13_ : Nat) (i : Nat) (x : Int32) (f : Nat → Int32) (H : Heap) (locs : List Loc) (ls : Array Slot), menN S - i < n13_ → (i ≤ menN S) → (x = orB (fun j => hbt (sckF S) j && gvs S j wt op == 0) i) → (f = fun j => if j < i then gvs S j wt op else S 37 j) → Wd D A s.heap H locs (wC k q z g (va_up (va_up S 55 (fun _ => x)) 37 f) X) → lv_has ls 5 [(0, .ref (q 33)), (1, .int wt), (2, .int op), (3, .int (sckF S)), (4, .int (nI i))] → W p l e R s m args below meth c H locs 0 0 Q (F0 m 13 ls []) := by
    intro n13_
    induction n13_ with
    | zero =>
      intro i x f H locs ls hn13_
      exact absurd hn13_ (Nat.not_lt_zero _)
    | succ n13_ ih13_ =>
      intro i x f H locs ls hn13_ hi h1 h2 hw hl
      refine lv_iload hx hb dX4_trace_13 (lv_at hl 4 rfl) ?_
      refine lv_aload_n hx hb dX4_trace_15 rfl (lv_at hl 0 rfl) ?_
      refine x_geti fiC_53 F hw fo_X4_24 dX4_trace_16 ?_
      refine x_top (y := S 53 0) rfl ?_
      refine x_top (y := nI (menN S)) hN.1.1 ?_
      refine x_icmp_ge i (menN S) F (by omega) (by omega) (tgt := 75) dX4_trace_19 rfl (fun c19 => ?_) (fun c19 => ?_)
      · exact hret _ _ _ _ _ dX4_trace_75 hw (by rw [h1, h2, show i = menN S by omega]; rfl)
      · refine lv_aload_n hx hb dX4_trace_22 rfl (lv_at hl 0 rfl) ?_
        refine x_getr frC_33_6 F hw fo_X4_21 dX4_trace_23 ?_
        refine lv_iload hx hb dX4_trace_26 (lv_at hl 4 rfl) ?_
        refine lv_aload_n hx hb dX4_trace_28 rfl (lv_at hl 0 rfl) ?_
        refine lv_iload hx hb dX4_trace_29 (lv_at hl 4 rfl) ?_
        refine lv_iload_n hx hb dX4_trace_31 rfl (lv_at hl 1 rfl) ?_
        refine lv_iload_n hx hb dX4_trace_32 rfl (lv_at hl 2 rfl) ?_
        refine x_fVI (rest := [.int (nI i), .ref (q 37)]) (c_X4_giversOf l D k q z g (va_up (va_up S 55 (fun _ => x)) 37 f) X i wt op (by exact hN) (by first | assumption | omega)) mo_X4_46 obC_33 F hw (Nat.le_of_ble_eq_true rfl) (x_cs F (Nat.le_of_ble_eq_true rfl) (Nat.le_of_ble_eq_true rfl)) rfl rfl hl.1 (Nat.le_of_ble_eq_true rfl) dX4_trace_33 (fun H locs hw => ?_)
        refine x_top (y := gvs S i wt op) rfl ?_
        refine x_iast aiC_37 F hw i rfl (by omega) dX4_trace_36 (fun H locs hw => ?_)
        refine lv_iload_n hx hb dX4_trace_37 rfl (lv_at hl 3 rfl) ?_
        refine lv_iload hx hb dX4_trace_38 (lv_at hl 4 rfl) ?_
        refine x_fSI (rest := []) (c_X6_hasBit l D k (wC k q z g (va_up (va_up (va_up S 55 (fun _ => x)) 37 f) 37 (upd f i (gvs S i wt op))) X) (sckF S) i) mo_X4_50 F hw (Nat.le_of_ble_eq_true rfl) (x_cs F (Nat.le_of_ble_eq_true rfl) (Nat.le_of_ble_eq_true rfl)) rfl rfl hl.1 (Nat.le_of_ble_eq_true rfl) dX4_trace_40 (fun H locs hw => ?_)
        refine lv_if_eq (tgt := 69) hx hb dX4_trace_43 rfl (fun c43 => ?_) (fun c43 => ?_)
        · refine lv_iinc (v := nI (i + 1)) (lv' := [(4, .int (nI (i + 1))), (0, .ref (q 33)), (1, .int wt), (2, .int op), (3, .int (sckF S))]) hx hb dX4_trace_69 hl (k := 4) rfl (nI_1 _) (Nat.le_of_ble_eq_true rfl) rfl (fun ls hl => ?_)
          refine lv_goto (tgt := 13) hx hb dX4_trace_72 rfl ?_
          exact ih13_ (i + 1) x (upd f i (gvs S i wt op)) _ _ _ (by first | omega | (simp only [] at *; omega)) (by first | assumption | omega | rfl) (by rw [h1]; first | exact (orB_n (bA0 (b01_0.mp c43))).symm | exact (orB_n (bA1 (beqF c53))).symm | exact (orB_y (bAt (b01_1.mp c43) (beqT c53))).symm) (by rw [h2]; exact upd_lt rfl) hw (lv_sub hl [1, 2, 3, 4, 0] rfl)
        · refine lv_aload_n hx hb dX4_trace_46 rfl (lv_at hl 0 rfl) ?_
          refine x_getr frC_33_6 F hw fo_X4_21 dX4_trace_47 ?_
          refine lv_iload hx hb dX4_trace_50 (lv_at hl 4 rfl) ?_
          refine x_iald aiC_37 F hw i rfl (by omega) dX4_trace_52 ?_
          refine x_top (y := (upd f i (gvs S i wt op)) i) rfl ?_
          refine x_top (y := gvs S i wt op) pk_us ?_
          refine lv_if_ne (tgt := 69) hx hb dX4_trace_53 rfl (fun c53 => ?_) (fun c53 => ?_)
          · refine lv_iinc (v := nI (i + 1)) (lv' := [(4, .int (nI (i + 1))), (0, .ref (q 33)), (1, .int wt), (2, .int op), (3, .int (sckF S))]) hx hb dX4_trace_69 hl (k := 4) rfl (nI_1 _) (Nat.le_of_ble_eq_true rfl) rfl (fun ls hl => ?_)
            refine lv_goto (tgt := 13) hx hb dX4_trace_72 rfl ?_
            exact ih13_ (i + 1) x (upd f i (gvs S i wt op)) _ _ _ (by first | omega | (simp only [] at *; omega)) (by first | assumption | omega | rfl) (by rw [h1]; first | exact (orB_n (bA0 (b01_0.mp c43))).symm | exact (orB_n (bA1 (beqF c53))).symm | exact (orB_y (bAt (b01_1.mp c43) (beqT c53))).symm) (by rw [h2]; exact upd_lt rfl) hw (lv_sub hl [1, 2, 3, 4, 0] rfl)
          · refine lv_aload_n hx hb dX4_trace_56 rfl (lv_at hl 0 rfl) ?_
            refine lv_dup hx hb dX4_trace_57 rfl ?_
            refine x_geti fiC_55 F hw fo_X4_39 dX4_trace_58 ?_
            refine x_top (y := x) rfl ?_
            refine lv_iconst (v := nI 1) hx hb dX4_trace_61 rfl ?_
            refine lv_iload hx hb dX4_trace_62 (lv_at hl 4 rfl) ?_
            refine lv_ishl hx hb dX4_trace_64 ?_
            refine lv_ior hx hb dX4_trace_65 ?_
            refine x_puti fiC_55 F hw fo_X4_39 rfl rfl dX4_trace_66 (fun H locs hw => ?_)
            refine lv_iinc (v := nI (i + 1)) (lv' := [(4, .int (nI (i + 1))), (0, .ref (q 33)), (1, .int wt), (2, .int op), (3, .int (sckF S))]) hx hb dX4_trace_69 hl (k := 4) rfl (nI_1 _) (Nat.le_of_ble_eq_true rfl) rfl (fun ls hl => ?_)
            refine lv_goto (tgt := 13) hx hb dX4_trace_72 rfl ?_
            exact ih13_ (i + 1) (x ||| ((nI 1) <<< ((nI i) &&& 31))) (upd f i (gvs S i wt op)) _ _ _ (by first | omega | (simp only [] at *; omega)) (by first | assumption | omega | rfl) (by rw [h1]; first | exact (orB_n (bA0 (b01_0.mp c43))).symm | exact (orB_n (bA1 (beqF c53))).symm | exact (orB_y (bAt (b01_1.mp c43) (beqT c53))).symm) (by rw [h2]; exact upd_lt rfl) hw (lv_sub hl [1, 2, 3, 4, 0] rfl)
  exact K13 _ 0 (nI 0) (S 37) _ _ _ (Nat.lt_succ_self _) (by first | assumption | omega | rfl) (by rfl) (by funext j; simp) hw (lv_sub hl [2, 3, 4, 1, 0] rfl)
set_option maxHeartbeats 4000000 in
set_option maxRecDepth 20000 in
theorem c_X4_nextTo (l : Launch) (D : va_G) (k : Nat → ClassId) (q z : Nat → Nat) (g : Nat → Option Nat) (S : St) (X : va_W) (rd : Int32) (hN : okN S) : CI l D k yX4_nextTo cX4_nextTo 4 (some .int) 0 0 0 [.ref (q 33), .int rd] (wC k q z g S X) (fun r w' => w' = wC k q z g S X ∧ r = nxtB (S 37) (menN S) rd) := by
  refine CI.mk (by decide) (Nat.le_of_ble_eq_true rfl) ?_
  intro p e R s m args below meth c A Q ls F hret hw hl
  have hx := xs_hx F
  have hb := xs_hb F
  have hl : lv_has ls 4 [(0, .ref (q 33)), (1, .int rd)] := hl
  have h8 := hN.1.2
  have h16 := hN.2.1.2
  refine lv_iconst (v := nI 0) hx hb dX4_nextTo_0 rfl ?_
  refine lv_istore_n (lv' := [(2, .int (nI 0)), (0, .ref (q 33)), (1, .int rd)]) hx hb dX4_nextTo_1 rfl hl (Nat.le_of_ble_eq_true rfl) rfl (fun ls hl => ?_)
  refine lv_iconst (v := nI 0) hx hb dX4_nextTo_2 rfl ?_
  refine lv_istore_n (lv' := [(3, .int (nI 0)), (2, .int (nI 0)), (0, .ref (q 33)), (1, .int rd)]) hx hb dX4_nextTo_3 rfl hl (Nat.le_of_ble_eq_true rfl) rfl (fun ls hl => ?_)
  have K4 : ∀ (n4_ : Nat) (i : Nat) (x : Int32) (H : Heap) (locs : List Loc) (ls : Array Slot), menN S - i < n4_ → (i ≤ menN S) → (x = orB (fun j => S 37 j &&& rd != 0) i) → Wd D A s.heap H locs (wC k q z g S X) → lv_has ls 4 [(0, .ref (q 33)), (1, .int rd), (2, .int x), (3, .int (nI i))] → W p l e R s m args below meth c H locs 0 0 Q (F0 m 4 ls []) := by
    intro n4_
    induction n4_ with
    | zero =>
      intro i x H locs ls hn4_
      exact absurd hn4_ (Nat.not_lt_zero _)
    | succ n4_ ih4_ =>
      intro i x H locs ls hn4_ hi h1 hw hl
      refine lv_iload_n hx hb dX4_nextTo_4 rfl (lv_at hl 3 rfl) ?_
      refine lv_aload_n hx hb dX4_nextTo_5 rfl (lv_at hl 0 rfl) ?_
      refine x_geti fiC_53 F hw fo_X4_24 dX4_nextTo_6 ?_
      refine x_top (y := nI (menN S)) hN.1.1 ?_
      refine x_icmp_ge i (menN S) F (by omega) (by omega) (tgt := 35) dX4_nextTo_9 rfl (fun c9 => ?_) (fun c9 => ?_)
      · refine lv_iload_n hx hb dX4_nextTo_35 rfl (lv_at hl 2 rfl) ?_
        exact hret _ _ _ _ _ _ dX4_nextTo_36 hw rfl ⟨rfl, by rw [h1, show i = menN S by omega]; rfl⟩
      · refine lv_aload_n hx hb dX4_nextTo_12 rfl (lv_at hl 0 rfl) ?_
        refine x_getr frC_33_6 F hw fo_X4_21 dX4_nextTo_13 ?_
        refine lv_iload_n hx hb dX4_nextTo_16 rfl (lv_at hl 3 rfl) ?_
        refine x_iald aiC_37 F hw i rfl (by omega) dX4_nextTo_17 ?_
        refine lv_iload_n hx hb dX4_nextTo_18 rfl (lv_at hl 1 rfl) ?_
        refine lv_iand hx hb dX4_nextTo_19 ?_
        refine lv_if_eq (tgt := 29) hx hb dX4_nextTo_20 rfl (fun c20 => ?_) (fun c20 => ?_)
        · refine lv_iinc (v := nI (i + 1)) (lv' := [(3, .int (nI (i + 1))), (0, .ref (q 33)), (1, .int rd), (2, .int x)]) hx hb dX4_nextTo_29 hl (k := 3) rfl (nI_1 _) (Nat.le_of_ble_eq_true rfl) rfl (fun ls hl => ?_)
          refine lv_goto (tgt := 4) hx hb dX4_nextTo_32 rfl ?_
          exact ih4_ (i + 1) x _ _ _ (by first | omega | (simp only [] at *; omega)) (by first | assumption | omega | rfl) (by rw [h1]; first | exact (orB_n (bneF c20)).symm | exact (orB_y (bneT c20)).symm) hw (lv_sub hl [1, 2, 3, 0] rfl)
        · refine lv_iload_n hx hb dX4_nextTo_23 rfl (lv_at hl 2 rfl) ?_
          refine lv_iconst (v := nI 1) hx hb dX4_nextTo_24 rfl ?_
          refine lv_iload_n hx hb dX4_nextTo_25 rfl (lv_at hl 3 rfl) ?_
          refine lv_ishl hx hb dX4_nextTo_26 ?_
          refine lv_ior hx hb dX4_nextTo_27 ?_
          refine lv_istore_n (lv' := [(2, .int (x ||| ((nI 1) <<< ((nI i) &&& 31)))), (0, .ref (q 33)), (1, .int rd), (3, .int (nI i))]) hx hb dX4_nextTo_28 rfl hl (Nat.le_of_ble_eq_true rfl) rfl (fun ls hl => ?_)
          refine lv_iinc (v := nI (i + 1)) (lv' := [(3, .int (nI (i + 1))), (2, .int (x ||| ((nI 1) <<< ((nI i) &&& 31)))), (0, .ref (q 33)), (1, .int rd)]) hx hb dX4_nextTo_29 hl (k := 3) rfl (nI_1 _) (Nat.le_of_ble_eq_true rfl) rfl (fun ls hl => ?_)
          refine lv_goto (tgt := 4) hx hb dX4_nextTo_32 rfl ?_
          exact ih4_ (i + 1) (x ||| ((nI 1) <<< ((nI i) &&& 31))) _ _ _ (by first | omega | (simp only [] at *; omega)) (by first | assumption | omega | rfl) (by rw [h1]; first | exact (orB_n (bneF c20)).symm | exact (orB_y (bneT c20)).symm) hw (lv_sub hl [2, 3, 1, 0] rfl)
  exact K4 _ 0 (nI 0) _ _ _ (Nat.lt_succ_self _) (by first | assumption | omega | rfl) (by rfl) hw (lv_sub hl [2, 3, 1, 0] rfl)
set_option maxHeartbeats 4000000 in
set_option maxRecDepth 20000 in
theorem c_X4_shortestPathTo (l : Launch) (D : va_G) (k : Nat → ClassId) (q z : Nat → Nat) (g : Nat → Option Nat) (S : St) (X : va_W) (mn : Nat) (al : Int32) (hN : okN S) : CI l D k yX4_shortestPathTo cX4_shortestPathTo 5 (some .int) 1 0 0 [.ref (q 33), .int (nI mn), .int al] (wC k q z g S X) (fun r w' => w' = wC k q z g S X ∧ r = nI (spF (S 37) (menN S) (S 55 0) mn al)) := by
  refine CI.mk (by decide) (Nat.le_of_ble_eq_true rfl) ?_
  intro p e R s m args below meth c A Q ls F hret hw hl
  have hx := xs_hx F
  have hb := xs_hb F
  have hl : lv_has ls 5 [(0, .ref (q 33)), (1, .int (nI mn)), (2, .int al)] := hl
  have h8 := hN.1.2
  have h16 := hN.2.1.2
  refine lv_aload_n hx hb dX4_shortestPathTo_0 rfl (lv_at hl 0 rfl) ?_
  refine x_geti fiC_55 F hw fo_X4_39 dX4_shortestPathTo_1 ?_
  refine lv_iload_n hx hb dX4_shortestPathTo_4 rfl (lv_at hl 2 rfl) ?_
  refine lv_iand hx hb dX4_shortestPathTo_5 ?_
  refine lv_istore_n (lv' := [(3, .int ((S 55 0) &&& al)), (0, .ref (q 33)), (1, .int (nI mn)), (2, .int al)]) hx hb dX4_shortestPathTo_6 rfl hl (Nat.le_of_ble_eq_true rfl) rfl (fun ls hl => ?_)
  refine lv_iconst (v := nI 1) hx hb dX4_shortestPathTo_7 rfl ?_
  refine lv_istore (lv' := [(4, .int (nI 1)), (3, .int ((S 55 0) &&& al)), (0, .ref (q 33)), (1, .int (nI mn)), (2, .int al)]) hx hb dX4_shortestPathTo_8 hl (Nat.le_of_ble_eq_true rfl) rfl (fun ls hl => ?_)
  have K10 : ∀ (n10_ : Nat) (i : Nat) (x : Int32) (H : Heap) (locs : List Loc) (ls : Array Slot), menN S - i < n10_ → (i ≤ menN S) → (x = rchF (S 37) (menN S) (S 55 0) al i) → (fstF (fun i => hbt (rchF (S 37) (menN S) (S 55 0) al i) mn) i = 0) → Wd D A s.heap H locs (wC k q z g S X) → lv_has ls 5 [(0, .ref (q 33)), (1, .int (nI mn)), (2, .int al), (3, .int x), (4, .int (nI (i + 1)))] → W p l e R s m args below meth c H locs 0 0 Q (F0 m 10 ls []) := by
    intro n10_
    induction n10_ with
    | zero =>
      intro i x H locs ls hn10_
      exact absurd hn10_ (Nat.not_lt_zero _)
    | succ n10_ ih10_ =>
      intro i x H locs ls hn10_ hi h1 h2 hw hl
      refine lv_iload hx hb dX4_shortestPathTo_10 (lv_at hl 4 rfl) ?_
      refine lv_aload_n hx hb dX4_shortestPathTo_12 rfl (lv_at hl 0 rfl) ?_
      refine x_geti fiC_53 F hw fo_X4_24 dX4_shortestPathTo_13 ?_
      refine x_top (y := nI (menN S)) hN.1.1 ?_
      refine x_icmp_gt (i + 1) (menN S) F (by omega) (by omega) (tgt := 46) dX4_shortestPathTo_16 rfl (fun c16 => ?_) (fun c16 => ?_)
      · refine lv_iconst (v := nI 0) hx hb dX4_shortestPathTo_46 rfl ?_
        exact hret _ _ _ _ _ _ dX4_shortestPathTo_47 hw rfl ⟨rfl, (congrArg nI ((congrArg (fstF _) (show menN S = i by omega)).trans h2)).symm⟩
      · refine lv_iload_n hx hb dX4_shortestPathTo_19 rfl (lv_at hl 3 rfl) ?_
        refine lv_iload_n hx hb dX4_shortestPathTo_20 rfl (lv_at hl 1 rfl) ?_
        refine x_fSI (rest := []) (c_X6_hasBit l D k (wC k q z g S X) x mn) mo_X4_50 F hw (Nat.le_of_ble_eq_true rfl) (x_cs F (Nat.le_of_ble_eq_true rfl) (Nat.le_of_ble_eq_true rfl)) rfl rfl hl.1 (Nat.le_of_ble_eq_true rfl) dX4_shortestPathTo_21 (fun H locs hw => ?_)
        refine lv_if_eq (tgt := 30) hx hb dX4_shortestPathTo_24 rfl (fun c24 => ?_) (fun c24 => ?_)
        · refine lv_iload_n hx hb dX4_shortestPathTo_30 rfl (lv_at hl 3 rfl) ?_
          refine lv_aload_n hx hb dX4_shortestPathTo_31 rfl (lv_at hl 0 rfl) ?_
          refine lv_iload_n hx hb dX4_shortestPathTo_32 rfl (lv_at hl 3 rfl) ?_
          refine x_fVI (rest := [.int x]) (c_X4_nextTo l D k q z g S X x (by first | assumption | omega)) mo_X4_54 obC_33 F hw (Nat.le_of_ble_eq_true rfl) (x_cs F (Nat.le_of_ble_eq_true rfl) (Nat.le_of_ble_eq_true rfl)) rfl rfl hl.1 (Nat.le_of_ble_eq_true rfl) dX4_shortestPathTo_33 (fun H locs hw => ?_)
          refine lv_iload_n hx hb dX4_shortestPathTo_36 rfl (lv_at hl 2 rfl) ?_
          refine lv_iand hx hb dX4_shortestPathTo_37 ?_
          refine lv_ior hx hb dX4_shortestPathTo_38 ?_
          refine lv_istore_n (lv' := [(3, .int (x ||| ((nxtB (S 37) (menN S) x) &&& al))), (0, .ref (q 33)), (1, .int (nI mn)), (2, .int al), (4, .int (nI (i + 1)))]) hx hb dX4_shortestPathTo_39 rfl hl (Nat.le_of_ble_eq_true rfl) rfl (fun ls hl => ?_)
          refine lv_iinc (v := nI (i + 1 + 1)) (lv' := [(4, .int (nI (i + 1 + 1))), (3, .int (x ||| ((nxtB (S 37) (menN S) x) &&& al))), (0, .ref (q 33)), (1, .int (nI mn)), (2, .int al)]) hx hb dX4_shortestPathTo_40 hl (k := 4) rfl (nI_1 _) (Nat.le_of_ble_eq_true rfl) rfl (fun ls hl => ?_)
          refine lv_goto (tgt := 10) hx hb dX4_shortestPathTo_43 rfl ?_
          exact ih10_ (i + 1) (x ||| ((nxtB (S 37) (menN S) x) &&& al)) _ _ _ (by first | omega | (simp only [] at *; omega)) (by first | assumption | omega | rfl) (by rw [h1]; rfl) (by exact fstF_go h2 (by show hbt _ mn = false; rw [← h1]; exact b01_0.mp c24)) hw (lv_sub hl [2, 3, 4, 1, 0] rfl)
        · refine lv_iload hx hb dX4_shortestPathTo_27 (lv_at hl 4 rfl) ?_
          exact hret _ _ _ _ _ _ dX4_shortestPathTo_29 hw rfl ⟨rfl, by unfold spF; rw [fstF_stay (n := i + 1) (by rw [fstF_hit h2 (by show hbt _ mn = true; rw [← h1]; exact b01_1.mp c24)]; omega) _ (by omega), fstF_hit h2 (by show hbt _ mn = true; rw [← h1]; exact b01_1.mp c24)]⟩
  exact K10 _ 0 ((S 55 0) &&& al) _ _ _ (Nat.lt_succ_self _) (by first | assumption | omega | rfl) (by rfl) (by rfl) hw (lv_sub hl [2, 3, 4, 1, 0] rfl)
set_option maxHeartbeats 4000000 in
set_option maxRecDepth 20000 in
theorem c_X4_onAllPathsTo (l : Launch) (D : va_G) (k : Nat → ClassId) (q z : Nat → Nat) (g : Nat → Option Nat) (S : St) (X : va_W) (mn : Nat) (hN : okN S) : CI l D k yX4_onAllPathsTo cX4_onAllPathsTo 5 (some .int) 2 0 0 [.ref (q 33), .int (nI mn)] (wC k q z g S X) (fun r w' => w' = wC k q z g S X ∧ r = oapF S mn) := by
  refine CI.mk (by decide) (Nat.le_of_ble_eq_true rfl) ?_
  intro p e R s m args below meth c A Q ls F hret hw hl
  have hx := xs_hx F
  have hb := xs_hb F
  have hl : lv_has ls 5 [(0, .ref (q 33)), (1, .int (nI mn))] := hl
  have h8 := hN.1.2
  have h16 := hN.2.1.2
  have hsp := fun al => fstF_le (fun i => hbt (rchF (S 37) (menN S) (S 55 0) al i) mn) (menN S)
  refine lv_iconst (v := nI 0) hx hb dX4_onAllPathsTo_0 rfl ?_
  refine lv_istore_n (lv' := [(2, .int (nI 0)), (0, .ref (q 33)), (1, .int (nI mn))]) hx hb dX4_onAllPathsTo_1 rfl hl (Nat.le_of_ble_eq_true rfl) rfl (fun ls hl => ?_)
  refine lv_aload_n hx hb dX4_onAllPathsTo_2 rfl (lv_at hl 1 rfl) ?_
  refine x_fVI (rest := []) (c_X4_sickMen l D k q z g S X (by first | assumption | omega)) mo_X4_42 obC_33 F hw (Nat.le_of_ble_eq_true rfl) (x_cs F (Nat.le_of_ble_eq_true rfl) (Nat.le_of_ble_eq_true rfl)) rfl rfl hl.1 (Nat.le_of_ble_eq_true rfl) dX4_onAllPathsTo_3 (fun H locs hw => ?_)
  refine lv_istore_n (lv' := [(3, .int (sckF S)), (2, .int (nI 0)), (0, .ref (q 33)), (1, .int (nI mn))]) hx hb dX4_onAllPathsTo_6 rfl hl (Nat.le_of_ble_eq_true rfl) rfl (fun ls hl => ?_)
  refine lv_aload_n hx hb dX4_onAllPathsTo_7 rfl (lv_at hl 2 rfl) ?_
  refine lv_iload_n hx hb dX4_onAllPathsTo_8 rfl (lv_at hl 3 rfl) ?_
  refine lv_iload_n hx hb dX4_onAllPathsTo_9 rfl (lv_at hl 0 rfl) ?_
  refine x_fVI (rest := []) (c_X4_shortestPathTo l D k q z g S X mn (sckF S) (by first | assumption | omega)) mo_X4_58 obC_33 F hw (Nat.le_of_ble_eq_true rfl) (x_cs F (Nat.le_of_ble_eq_true rfl) (Nat.le_of_ble_eq_true rfl)) rfl rfl hl.1 (Nat.le_of_ble_eq_true rfl) dX4_onAllPathsTo_10 (fun H locs hw => ?_)
  have hs0 : spF (S 37) (menN S) (S 55 0) mn (sckF S) ≤ menN S := hsp _
  refine x_if_ne (spF (S 37) (menN S) (S 55 0) mn (sckF S)) F (by omega) (tgt := 18) dX4_onAllPathsTo_13 rfl (fun c13 => ?_) (fun c13 => ?_)
  · refine lv_iconst (v := nI 0) hx hb dX4_onAllPathsTo_18 rfl ?_
    refine lv_istore (lv' := [(4, .int (nI 0)), (3, .int (sckF S)), (2, .int (nI 0)), (0, .ref (q 33)), (1, .int (nI mn))]) hx hb dX4_onAllPathsTo_19 hl (Nat.le_of_ble_eq_true rfl) rfl (fun ls hl => ?_)
    have K21 : ∀ (n21_ : Nat) (i : Nat) (x : Int32) (H : Heap) (locs : List Loc) (ls : Array Slot), menN S - i < n21_ → (i ≤ menN S) → (x = orB (fun j => spF (S 37) (menN S) (S 55 0) mn (sckF S &&& ((nI 1 <<< (nI j &&& 31)) ^^^ (-1))) == 0) i) → Wd D A s.heap H locs (wC k q z g S X) → lv_has ls 5 [(0, .ref (q 33)), (1, .int (nI mn)), (2, .int x), (3, .int (sckF S)), (4, .int (nI i))] → W p l e R s m args below meth c H locs 0 0 Q (F0 m 21 ls []) := by
      intro n21_
      induction n21_ with
      | zero =>
        intro i x H locs ls hn21_
        exact absurd hn21_ (Nat.not_lt_zero _)
      | succ n21_ ih21_ =>
        intro i x H locs ls hn21_ hi h1 hw hl
        refine lv_iload hx hb dX4_onAllPathsTo_21 (lv_at hl 4 rfl) ?_
        refine lv_aload_n hx hb dX4_onAllPathsTo_23 rfl (lv_at hl 0 rfl) ?_
        refine x_geti fiC_53 F hw fo_X4_24 dX4_onAllPathsTo_24 ?_
        refine x_top (y := nI (menN S)) hN.1.1 ?_
        refine x_icmp_ge i (menN S) F (by omega) (by omega) (tgt := 59) dX4_onAllPathsTo_27 rfl (fun c27 => ?_) (fun c27 => ?_)
        · refine lv_iload_n hx hb dX4_onAllPathsTo_59 rfl (lv_at hl 2 rfl) ?_
          exact hret _ _ _ _ _ _ dX4_onAllPathsTo_60 hw rfl ⟨rfl, by unfold oapF; rw [if_neg c13, h1, show i = menN S by omega]⟩
        · refine lv_aload_n hx hb dX4_onAllPathsTo_30 rfl (lv_at hl 0 rfl) ?_
          refine lv_iload_n hx hb dX4_onAllPathsTo_31 rfl (lv_at hl 1 rfl) ?_
          refine lv_iload_n hx hb dX4_onAllPathsTo_32 rfl (lv_at hl 3 rfl) ?_
          refine lv_iconst (v := nI 1) hx hb dX4_onAllPathsTo_33 rfl ?_
          refine lv_iload hx hb dX4_onAllPathsTo_34 (lv_at hl 4 rfl) ?_
          refine lv_ishl hx hb dX4_onAllPathsTo_36 ?_
          refine lv_iconst (v := (-1)) hx hb dX4_onAllPathsTo_37 rfl ?_
          refine lv_ixor hx hb dX4_onAllPathsTo_38 ?_
          refine lv_iand hx hb dX4_onAllPathsTo_39 ?_
          refine x_fVI (rest := []) (c_X4_shortestPathTo l D k q z g S X mn ((sckF S) &&& (((nI 1) <<< ((nI i) &&& 31)) ^^^ (-1))) (by first | assumption | omega)) mo_X4_58 obC_33 F hw (Nat.le_of_ble_eq_true rfl) (x_cs F (Nat.le_of_ble_eq_true rfl) (Nat.le_of_ble_eq_true rfl)) rfl rfl hl.1 (Nat.le_of_ble_eq_true rfl) dX4_onAllPathsTo_40 (fun H locs hw => ?_)
          have hs1 : spF (S 37) (menN S) (S 55 0) mn (sckF S &&& ((nI 1 <<< (nI i &&& 31)) ^^^ (-1))) ≤ menN S := hsp _
          refine x_if_ne (spF (S 37) (menN S) (S 55 0) mn ((sckF S) &&& (((nI 1) <<< ((nI i) &&& 31)) ^^^ (-1)))) F (by omega) (tgt := 53) dX4_onAllPathsTo_43 rfl (fun c43 => ?_) (fun c43 => ?_)
          · refine lv_iinc (v := nI (i + 1)) (lv' := [(4, .int (nI (i + 1))), (0, .ref (q 33)), (1, .int (nI mn)), (2, .int x), (3, .int (sckF S))]) hx hb dX4_onAllPathsTo_53 hl (k := 4) rfl (nI_1 _) (Nat.le_of_ble_eq_true rfl) rfl (fun ls hl => ?_)
            refine lv_goto (tgt := 21) hx hb dX4_onAllPathsTo_56 rfl ?_
            exact ih21_ (i + 1) x _ _ _ (by first | omega | (simp only [] at *; omega)) (by first | assumption | omega | rfl) (by rw [h1]; first | (refine (orB_y ?_).symm; exact beqTn c43) | (refine (orB_n ?_).symm; exact beqFn c43)) hw (lv_sub hl [1, 2, 3, 4, 0] rfl)
          · refine lv_iload_n hx hb dX4_onAllPathsTo_46 rfl (lv_at hl 2 rfl) ?_
            refine lv_iconst (v := nI 1) hx hb dX4_onAllPathsTo_47 rfl ?_
            refine lv_iload hx hb dX4_onAllPathsTo_48 (lv_at hl 4 rfl) ?_
            refine lv_ishl hx hb dX4_onAllPathsTo_50 ?_
            refine lv_ior hx hb dX4_onAllPathsTo_51 ?_
            refine lv_istore_n (lv' := [(2, .int (x ||| ((nI 1) <<< ((nI i) &&& 31)))), (0, .ref (q 33)), (1, .int (nI mn)), (3, .int (sckF S)), (4, .int (nI i))]) hx hb dX4_onAllPathsTo_52 rfl hl (Nat.le_of_ble_eq_true rfl) rfl (fun ls hl => ?_)
            refine lv_iinc (v := nI (i + 1)) (lv' := [(4, .int (nI (i + 1))), (2, .int (x ||| ((nI 1) <<< ((nI i) &&& 31)))), (0, .ref (q 33)), (1, .int (nI mn)), (3, .int (sckF S))]) hx hb dX4_onAllPathsTo_53 hl (k := 4) rfl (nI_1 _) (Nat.le_of_ble_eq_true rfl) rfl (fun ls hl => ?_)
            refine lv_goto (tgt := 21) hx hb dX4_onAllPathsTo_56 rfl ?_
            exact ih21_ (i + 1) (x ||| ((nI 1) <<< ((nI i) &&& 31))) _ _ _ (by first | omega | (simp only [] at *; omega)) (by first | assumption | omega | rfl) (by rw [h1]; first | (refine (orB_y ?_).symm; exact beqTn c43) | (refine (orB_n ?_).symm; exact beqFn c43)) hw (lv_sub hl [2, 3, 1, 4, 0] rfl)
    exact K21 _ 0 (nI 0) _ _ _ (Nat.lt_succ_self _) (by first | assumption | omega | rfl) (by rfl) hw (lv_sub hl [3, 4, 2, 1, 0] rfl)
  · refine lv_iload_n hx hb dX4_onAllPathsTo_16 rfl (lv_at hl 1 rfl) ?_
    exact hret _ _ _ _ _ _ dX4_onAllPathsTo_17 hw rfl ⟨rfl, by unfold oapF; rw [if_pos c13]⟩
set_option maxHeartbeats 4000000 in
set_option maxRecDepth 20000 in
theorem c_X0_canReach (l : Launch) (D : va_G) (k : Nat → ClassId) (q z : Nat → Nat) (g : Nat → Option Nat) (S : St) (X : va_W) (wd : Int32) (yr : Int32) (hG : okG S) : CI l D k yX0_canReach cX0_canReach 5 (some .boolean) 1 0 0 [.ref (q 31), .int wd, .int yr] (wC k q z g S X) (fun r w' => w' = wC k q z g S X ∧ r = b01 (reB (S 13 0) (S 14 0) wd yr (clN (S 13 1)) (clN (S 14 1)))) := by
  refine CI.mk (by decide) (Nat.le_of_ble_eq_true rfl) ?_
  intro p e R s m args below meth c A Q ls F hret hw hl
  have hx := xs_hx F
  have hb := xs_hb F
  have hl : lv_has ls 5 [(0, .ref (q 31)), (1, .int wd), (2, .int yr)] := hl
  obtain ⟨eA, eB, eW, lA, lB, lW⟩ := hG.cl
  refine lv_aload_n hx hb dX0_canReach_0 rfl (lv_at hl 0 rfl) ?_
  refine x_getr frC_31_3 F hw fo_X0_9 dX0_canReach_1 ?_
  refine x_getr frC_2_8 F hw fo_X0_35 dX0_canReach_4 ?_
  refine lv_iconst (v := nI 1) hx hb dX0_canReach_7 rfl ?_
  refine x_iald aiC_13 F hw 1 rfl (by omega) dX0_canReach_8 ?_
  refine x_top (y := nI (clN (S 13 1))) eA ?_
  refine lv_istore_n (lv' := [(3, .int (nI (clN (S 13 1)))), (0, .ref (q 31)), (1, .int wd), (2, .int yr)]) hx hb dX0_canReach_9 rfl hl (Nat.le_of_ble_eq_true rfl) rfl (fun ls hl => ?_)
  have K10 : ∀ (n10_ : Nat) (i : Nat) (H : Heap) (locs : List Loc) (ls : Array Slot), clN (S 14 1) + 1 - i < n10_ → (i ≤ clN (S 14 1) + 1) → (anyB (fun i => f_in (wd - nI (clN (S 13 1) + i) * yr) (S 13 0) (S 14 0) != 0) i = false) → Wd D A s.heap H locs (wC k q z g S X) → lv_has ls 5 [(0, .ref (q 31)), (1, .int wd), (2, .int yr), (3, .int (nI (clN (S 13 1) + i)))] → W p l e R s m args below meth c H locs 0 0 Q (F0 m 10 ls []) := by
    intro n10_
    induction n10_ with
    | zero =>
      intro i H locs ls hn10_
      exact absurd hn10_ (Nat.not_lt_zero _)
    | succ n10_ ih10_ =>
      intro i H locs ls hn10_ hi h1 hw hl
      refine lv_iload_n hx hb dX0_canReach_10 rfl (lv_at hl 3 rfl) ?_
      refine lv_aload_n hx hb dX0_canReach_11 rfl (lv_at hl 0 rfl) ?_
      refine x_getr frC_31_3 F hw fo_X0_9 dX0_canReach_12 ?_
      refine x_getr frC_2_9 F hw fo_X0_38 dX0_canReach_15 ?_
      refine lv_iconst (v := nI 1) hx hb dX0_canReach_18 rfl ?_
      refine x_iald aiC_14 F hw 1 rfl (by omega) dX0_canReach_19 ?_
      refine x_top (y := nI (clN (S 14 1))) eB ?_
      refine x_icmp_gt (clN (S 13 1) + i) (clN (S 14 1)) F (by omega) (by omega) (tgt := 64) dX0_canReach_20 rfl (fun c20 => ?_) (fun c20 => ?_)
      · refine lv_iconst (v := nI 0) hx hb dX0_canReach_64 rfl ?_
        exact hret _ _ _ _ _ _ dX0_canReach_65 hw rfl ⟨rfl, by unfold reB; rw [anyB_le (m := i) (by omega) h1]; rfl⟩
      · refine lv_iload_n hx hb dX0_canReach_23 rfl (lv_at hl 1 rfl) ?_
        refine lv_iload_n hx hb dX0_canReach_24 rfl (lv_at hl 3 rfl) ?_
        refine lv_iload_n hx hb dX0_canReach_25 rfl (lv_at hl 2 rfl) ?_
        refine lv_imul hx hb dX0_canReach_26 ?_
        refine lv_isub hx hb dX0_canReach_27 ?_
        refine lv_istore (lv' := [(4, .int (wd - ((nI (clN (S 13 1) + i)) * yr))), (0, .ref (q 31)), (1, .int wd), (2, .int yr), (3, .int (nI (clN (S 13 1) + i)))]) hx hb dX0_canReach_28 hl (Nat.le_of_ble_eq_true rfl) rfl (fun ls hl => ?_)
        refine lv_iload hx hb dX0_canReach_30 (lv_at hl 0 rfl) ?_
        refine lv_aload_n hx hb dX0_canReach_32 rfl (lv_at hl 1 rfl) ?_
        refine x_getr frC_31_3 F hw fo_X0_9 dX0_canReach_33 ?_
        refine x_getr frC_2_8 F hw fo_X0_35 dX0_canReach_36 ?_
        refine lv_iconst (v := nI 0) hx hb dX0_canReach_39 rfl ?_
        refine x_iald aiC_13 F hw 0 rfl (by omega) dX0_canReach_40 ?_
        refine lv_aload_n hx hb dX0_canReach_41 rfl (lv_at hl 1 rfl) ?_
        refine x_getr frC_31_3 F hw fo_X0_9 dX0_canReach_42 ?_
        refine x_getr frC_2_9 F hw fo_X0_38 dX0_canReach_45 ?_
        refine lv_iconst (v := nI 0) hx hb dX0_canReach_48 rfl ?_
        refine x_iald aiC_14 F hw 0 rfl (by omega) dX0_canReach_49 ?_
        refine x_fSI (rest := []) (c_X6_within l D k (wC k q z g S X) (wd - ((nI (clN (S 13 1) + i)) * yr)) (S 13 0) (S 14 0)) mo_X0_41 F hw (Nat.le_of_ble_eq_true rfl) (x_cs F (Nat.le_of_ble_eq_true rfl) (Nat.le_of_ble_eq_true rfl)) rfl rfl hl.1 (Nat.le_of_ble_eq_true rfl) dX0_canReach_50 (fun H locs hw => ?_)
        refine lv_if_eq (tgt := 58) hx hb dX0_canReach_53 rfl (fun c53 => ?_) (fun c53 => ?_)
        · refine lv_iinc (v := nI (clN (S 13 1) + (i + 1))) (lv' := [(3, .int (nI (clN (S 13 1) + (i + 1)))), (4, .int (wd - ((nI (clN (S 13 1) + i)) * yr))), (0, .ref (q 31)), (1, .int wd), (2, .int yr)]) hx hb dX0_canReach_58 hl (k := 4) rfl (nI_1 _) (Nat.le_of_ble_eq_true rfl) rfl (fun ls hl => ?_)
          refine lv_goto (tgt := 10) hx hb dX0_canReach_61 rfl ?_
          exact ih10_ (i + 1) _ _ _ (by first | omega | (simp only [] at *; omega)) (by first | assumption | omega | rfl) (by simp only [anyB, h1]; simp [c53]) hw (lv_sub hl [2, 3, 4, 0] rfl)
        · refine lv_iconst (v := nI 1) hx hb dX0_canReach_56 rfl ?_
          exact hret _ _ _ _ _ _ dX0_canReach_57 hw rfl ⟨rfl, by unfold reB; rw [anyB_yes (n := i) (by simpa using c53) (by omega)]; rfl⟩
  exact K10 _ 0 _ _ _ (Nat.lt_succ_self _) (by first | assumption | omega | rfl) (by rfl) hw (lv_sub hl [1, 2, 3, 0] rfl)
theorem frs_y {p : Nat → Bool} {n : Nat} (h : p n = true) (h2 : cntB p n = 0) : frsB p (n + 1) = n := if_pos (by rw [h, h2]; rfl)
theorem frs_n {p : Nat → Bool} {n : Nat} (h : ¬ cntB p n = 0) : frsB p (n + 1) = frsB p n := if_neg (by rw [beqFn h]; cases p n <;> decide)
theorem frs_f {p : Nat → Bool} {n : Nat} (h : p n = false) : frsB p (n + 1) = frsB p n := if_neg (by rw [h]; simp)
theorem lst_y {p : Nat → Bool} {n : Nat} (h : p n = true) : lstB p (n + 1) = n := if_pos h
theorem lst_f {p : Nat → Bool} {n : Nat} (h : p n = false) : lstB p (n + 1) = lstB p n := if_neg (by rw [h]; decide)
theorem cnt_y {p : Nat → Bool} {n : Nat} (h : p n = true) : cntB p (n + 1) = cntB p n + 1 := if_pos h
theorem cnt_f {p : Nat → Bool} {n : Nat} (h : p n = false) : cntB p (n + 1) = cntB p n := if_neg (by rw [h]; decide)
set_option maxHeartbeats 4000000 in
set_option maxRecDepth 20000 in
theorem c_X0_measure (l : Launch) (D : va_G) (k : Nat → ClassId) (q z : Nat → Nat) (g : Nat → Option Nat) (S : St) (X : va_W) (wd : Int32) (hG : okG S) : CV l D k yX0_measure cX0_measure 4 2 0 0 [.ref (q 31), .int wd] (wC k q z g S X) (fun w' => w' = wC k q z g (meaS S wd) X) := by
  refine CV.mk (by decide) (Nat.le_of_ble_eq_true rfl) ?_
  intro p e R s m args below meth c A Q ls F hnm hret hw hl
  have hx := xs_hx F
  have hb := xs_hb F
  have hl : lv_has ls 4 [(0, .ref (q 31)), (1, .int wd)] := hl
  obtain ⟨eA, eB, eW, lA, lB, lW⟩ := hG.cl
  refine lv_aload_n hx hb dX0_measure_0 rfl (lv_at hl 0 rfl) ?_
  refine lv_iconst (v := nI 0) hx hb dX0_measure_1 rfl ?_
  refine x_puti fiC_48 F hw fo_X0_15 rfl rfl dX0_measure_2 (fun H locs hw => ?_)
  refine lv_aload_n hx hb dX0_measure_5 rfl (lv_at hl 0 rfl) ?_
  refine lv_iconst (v := nI 0) hx hb dX0_measure_6 rfl ?_
  refine x_puti fiC_49 F hw fo_X0_19 rfl rfl dX0_measure_7 (fun H locs hw => ?_)
  refine lv_aload_n hx hb dX0_measure_10 rfl (lv_at hl 0 rfl) ?_
  refine lv_iconst (v := nI 0) hx hb dX0_measure_11 rfl ?_
  refine x_puti fiC_50 F hw fo_X0_22 rfl rfl dX0_measure_12 (fun H locs hw => ?_)
  refine lv_aload_n hx hb dX0_measure_15 rfl (lv_at hl 0 rfl) ?_
  refine x_getr frC_31_3 F hw fo_X0_9 dX0_measure_16 ?_
  refine x_getr frC_2_7 F hw fo_X0_25 dX0_measure_19 ?_
  refine lv_iconst (v := nI 1) hx hb dX0_measure_22 rfl ?_
  refine x_iald aiC_12 F hw 1 rfl (by omega) dX0_measure_23 ?_
  refine x_top (y := S 12 1) rfl ?_
  refine x_top (y := nI (clN (S 12 1))) eW ?_
  refine lv_istore_n (lv' := [(2, .int (nI (clN (S 12 1)))), (0, .ref (q 31)), (1, .int wd)]) hx hb dX0_measure_24 rfl hl (Nat.le_of_ble_eq_true rfl) rfl (fun ls hl => ?_)
  refine lv_iconst (v := nI 0) hx hb dX0_measure_25 rfl ?_
  refine lv_istore_n (lv' := [(3, .int (nI 0)), (2, .int (nI (clN (S 12 1)))), (0, .ref (q 31)), (1, .int wd)]) hx hb dX0_measure_26 rfl hl (Nat.le_of_ble_eq_true rfl) rfl (fun ls hl => ?_)
  have K27 : ∀ (n27_ : Nat) (i : Nat) (ff : Nat) (ll : Nat) (cc : Nat) (H : Heap) (locs : List Loc) (ls : Array Slot), clN (S 12 1) + 1 - i < n27_ → (i ≤ clN (S 12 1) + 1) → (ff = frsB (reS S wd) i) → (ll = lstB (reS S wd) i) → (cc = cntB (reS S wd) i) → Wd D A s.heap H locs (wC k q z g (va_up (va_up (va_up S 48 (fun _ => nI ff)) 49 (fun _ => nI ll)) 50 (fun _ => nI cc)) X) → lv_has ls 4 [(0, .ref (q 31)), (1, .int wd), (2, .int (nI (clN (S 12 1)))), (3, .int (nI i))] → W p l e R s m args below meth c H locs 0 0 Q (F0 m 27 ls []) := by
    intro n27_
    induction n27_ with
    | zero =>
      intro i ff ll cc H locs ls hn27_
      exact absurd hn27_ (Nat.not_lt_zero _)
    | succ n27_ ih27_ =>
      intro i ff ll cc H locs ls hn27_ hi h1 h2 h3 hw hl
      refine lv_iload_n hx hb dX0_measure_27 rfl (lv_at hl 3 rfl) ?_
      refine lv_iload_n hx hb dX0_measure_28 rfl (lv_at hl 2 rfl) ?_
      refine x_icmp_gt i (clN (S 12 1)) F (by omega) (by omega) (tgt := 76) dX0_measure_29 rfl (fun c29 => ?_) (fun c29 => ?_)
      · exact hret _ _ _ _ _ dX0_measure_76 hw (by rw [h1, h2, h3, show i = clN (S 12 1) + 1 by omega]; rfl)
      · refine lv_aload_n hx hb dX0_measure_32 rfl (lv_at hl 0 rfl) ?_
        refine lv_iload_n hx hb dX0_measure_33 rfl (lv_at hl 1 rfl) ?_
        refine lv_iload_n hx hb dX0_measure_34 rfl (lv_at hl 2 rfl) ?_
        refine lv_iload_n hx hb dX0_measure_35 rfl (lv_at hl 3 rfl) ?_
        refine lv_isub hx hb dX0_measure_36 ?_
        refine x_fVI (rest := []) (c_X0_canReach l D k q z g (va_up (va_up (va_up S 48 (fun _ => nI ff)) 49 (fun _ => nI ll)) 50 (fun _ => nI cc)) X wd ((nI (clN (S 12 1))) - (nI i)) (by exact hG)) mo_X0_31 obC_31 F hw (Nat.le_of_ble_eq_true rfl) (x_cs F (Nat.le_of_ble_eq_true rfl) (Nat.le_of_ble_eq_true rfl)) rfl rfl hl.1 (Nat.le_of_ble_eq_true rfl) dX0_measure_37 (fun H locs hw => ?_)
        refine x_top (y := b01 (reS S wd i)) rfl ?_
        refine lv_if_eq (tgt := 70) hx hb dX0_measure_40 rfl (fun c40 => ?_) (fun c40 => ?_)
        · refine lv_iinc (v := nI (i + 1)) (lv' := [(3, .int (nI (i + 1))), (0, .ref (q 31)), (1, .int wd), (2, .int (nI (clN (S 12 1))))]) hx hb dX0_measure_70 hl (k := 3) rfl (nI_1 _) (Nat.le_of_ble_eq_true rfl) rfl (fun ls hl => ?_)
          refine lv_goto (tgt := 27) hx hb dX0_measure_73 rfl ?_
          exact ih27_ (i + 1) ff ll cc _ _ _ (by first | omega | (simp only [] at *; omega)) (by first | assumption | omega | rfl) (by first | exact (frs_y (n := i) (b01_1.mp c40) (h3.symm.trans c47)).symm | exact h1.trans (frs_n (n := i) (fun q => c47 (h3.trans q))).symm | exact h1.trans (frs_f (n := i) (b01_0.mp c40)).symm) (by first | exact (lst_y (n := i) (b01_1.mp c40)).symm | exact h2.trans (lst_f (n := i) (b01_0.mp c40)).symm) (by first | (rw [h3]; exact (cnt_y (n := i) (b01_1.mp c40)).symm) | exact h3.trans (cnt_f (n := i) (b01_0.mp c40)).symm) hw (lv_sub hl [1, 2, 3, 0] rfl)
        · refine lv_aload_n hx hb dX0_measure_43 rfl (lv_at hl 0 rfl) ?_
          have hc9 := cntB_le (reS S wd) i
          refine x_geti fiC_50 F hw fo_X0_22 dX0_measure_44 ?_
          refine x_top (y := nI cc) rfl ?_
          refine x_top (y := nI cc) rfl ?_
          refine x_if_ne cc F (by omega) (tgt := 55) dX0_measure_47 rfl (fun c47 => ?_) (fun c47 => ?_)
          · refine lv_aload_n hx hb dX0_measure_55 rfl (lv_at hl 0 rfl) ?_
            refine lv_iload_n hx hb dX0_measure_56 rfl (lv_at hl 3 rfl) ?_
            refine x_puti fiC_49 F hw fo_X0_19 rfl rfl dX0_measure_57 (fun H locs hw => ?_)
            refine lv_aload_n hx hb dX0_measure_60 rfl (lv_at hl 0 rfl) ?_
            refine lv_dup hx hb dX0_measure_61 rfl ?_
            refine x_geti fiC_50 F hw fo_X0_22 dX0_measure_62 ?_
            refine x_top (y := nI cc) rfl ?_
            refine x_top (y := nI cc) rfl ?_
            refine lv_iconst (v := nI 1) hx hb dX0_measure_65 rfl ?_
            refine lv_iadd hx hb dX0_measure_66 ?_
            refine x_top (y := nI (cc + 1)) (nI_add _ _) ?_
            refine x_puti fiC_50 F hw fo_X0_22 rfl rfl dX0_measure_67 (fun H locs hw => ?_)
            refine lv_iinc (v := nI (i + 1)) (lv' := [(3, .int (nI (i + 1))), (0, .ref (q 31)), (1, .int wd), (2, .int (nI (clN (S 12 1))))]) hx hb dX0_measure_70 hl (k := 3) rfl (nI_1 _) (Nat.le_of_ble_eq_true rfl) rfl (fun ls hl => ?_)
            refine lv_goto (tgt := 27) hx hb dX0_measure_73 rfl ?_
            exact ih27_ (i + 1) ff i (cc + 1) _ _ _ (by first | omega | (simp only [] at *; omega)) (by first | assumption | omega | rfl) (by first | exact (frs_y (n := i) (b01_1.mp c40) (h3.symm.trans c47)).symm | exact h1.trans (frs_n (n := i) (fun q => c47 (h3.trans q))).symm | exact h1.trans (frs_f (n := i) (b01_0.mp c40)).symm) (by first | exact (lst_y (n := i) (b01_1.mp c40)).symm | exact h2.trans (lst_f (n := i) (b01_0.mp c40)).symm) (by first | (rw [h3]; exact (cnt_y (n := i) (b01_1.mp c40)).symm) | exact h3.trans (cnt_f (n := i) (b01_0.mp c40)).symm) hw (lv_sub hl [1, 2, 3, 0] rfl)
          · refine lv_aload_n hx hb dX0_measure_50 rfl (lv_at hl 0 rfl) ?_
            refine lv_iload_n hx hb dX0_measure_51 rfl (lv_at hl 3 rfl) ?_
            refine x_puti fiC_48 F hw fo_X0_15 rfl rfl dX0_measure_52 (fun H locs hw => ?_)
            refine lv_aload_n hx hb dX0_measure_55 rfl (lv_at hl 0 rfl) ?_
            refine lv_iload_n hx hb dX0_measure_56 rfl (lv_at hl 3 rfl) ?_
            refine x_puti fiC_49 F hw fo_X0_19 rfl rfl dX0_measure_57 (fun H locs hw => ?_)
            refine lv_aload_n hx hb dX0_measure_60 rfl (lv_at hl 0 rfl) ?_
            refine lv_dup hx hb dX0_measure_61 rfl ?_
            refine x_geti fiC_50 F hw fo_X0_22 dX0_measure_62 ?_
            refine x_top (y := nI cc) rfl ?_
            refine x_top (y := nI cc) rfl ?_
            refine lv_iconst (v := nI 1) hx hb dX0_measure_65 rfl ?_
            refine lv_iadd hx hb dX0_measure_66 ?_
            refine x_top (y := nI (cc + 1)) (nI_add _ _) ?_
            refine x_puti fiC_50 F hw fo_X0_22 rfl rfl dX0_measure_67 (fun H locs hw => ?_)
            refine lv_iinc (v := nI (i + 1)) (lv' := [(3, .int (nI (i + 1))), (0, .ref (q 31)), (1, .int wd), (2, .int (nI (clN (S 12 1))))]) hx hb dX0_measure_70 hl (k := 3) rfl (nI_1 _) (Nat.le_of_ble_eq_true rfl) rfl (fun ls hl => ?_)
            refine lv_goto (tgt := 27) hx hb dX0_measure_73 rfl ?_
            exact ih27_ (i + 1) i i (cc + 1) _ _ _ (by first | omega | (simp only [] at *; omega)) (by first | assumption | omega | rfl) (by first | exact (frs_y (n := i) (b01_1.mp c40) (h3.symm.trans c47)).symm | exact h1.trans (frs_n (n := i) (fun q => c47 (h3.trans q))).symm | exact h1.trans (frs_f (n := i) (b01_0.mp c40)).symm) (by first | exact (lst_y (n := i) (b01_1.mp c40)).symm | exact h2.trans (lst_f (n := i) (b01_0.mp c40)).symm) (by first | (rw [h3]; exact (cnt_y (n := i) (b01_1.mp c40)).symm) | exact h3.trans (cnt_f (n := i) (b01_0.mp c40)).symm) hw (lv_sub hl [1, 2, 3, 0] rfl)
  exact K27 _ 0 0 0 0 _ _ _ (Nat.lt_succ_self _) (by first | assumption | omega | rfl) (by rfl) (by rfl) (by rfl) hw (lv_sub hl [2, 3, 1, 0] rfl)
