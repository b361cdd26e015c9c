/-! ===== the class: copying an album ===== -/
section XB
variable {p : Program} {l : Launch} {e : Env} {R : Room} {s : State} {m : MethodId} {args : Array Value} {below : List Frame} {meth : Method} {c : Code} {H : Heap} {locs : List Loc} {cells slots : Nat} {Q : State → Prop}
variable {cc : ByteArray} {pc : Nat} {ls : Array Slot} {rest : List Value} {D : va_G} {k : Nat → ClassId} {A : Nat → Prop} {nL d mc ms : Nat} {own : String} {H0 : Heap}
theorem x_cpy {w : St → va_W} {S : St} {a a0 idx : Nat} {n0 n1 j : Nat} {f : Nat → Int32} (q0 q1 n : Nat) (F : Fx p R s m args c cc nL own D k d mc ms) (hlk : Cond.methodLink own idx arraycopyName ∈ gT) (hd : 1 ≤ d) (hls : ls.size = nL) (hro : (rest.map fun v => v.category).sum ≤ 8) (hw : Wd D A H0 H locs (w S)) (ha0 : (w S)[q0]? = some (a0, .inl (k 0, n0, .inl f))) (ha1 : AI w q1 a (k 0) n1 j) (h4 : n ≤ n0) (h5 : n ≤ n1) (hn : n < 2 ^ 31) (hdg : decode cc pc = .ok (.invokestatic idx, 3))
    (kk : ∀ (H : Heap) (locs : List Loc), Wd D A H0 H locs (w (va_up S j (va_cpy f (S j) 0 0 n))) → W p l e R s m args below meth c H locs cells slots Q (F0 m (pc + 3) ls rest)) : W p l e R s m args below meth c H locs cells slots Q (F0 m pc ls (.int (nI n) :: .int (nI 0) :: .ref a :: .int (nI 0) :: .ref a0 :: rest)) :=
  x_copy q0 q1 n F hlk w_ayn w_ays w_ayi hd hls hro hw ha0 (ha1.1 S) h4 h5 hn (by decide +kernel) hdg (fun H1 locs1 h1 => kk H1 locs1 (by rw [ha1.2.1] at h1; exact h1))
end XB
theorem cpy_at {f g : Nat → Int32} {n j : Nat} (h : j < n) : va_cpy f g 0 0 n j = f j := by
  unfold va_cpy
  rw [if_pos ⟨Nat.zero_le _, by omega⟩]
  congr 1
  omega
def CP (S Ss U : St) (i : Nat) : Prop := (U 40 0 = Ss 40 0 ∧ U 41 0 = Ss 41 0) ∧ (∀ j, j < 6 → U 3 j = Ss 3 j ∧ U 4 j = Ss 4 j ∧ U 5 j = Ss 5 j ∧ U 6 j = Ss 6 j) ∧ (∀ a b, a < i → b < 4 → U (8 + a) b = Ss (8 + a) b) ∧ ∀ r, (16 < r ∧ r < 40) ∨ 41 < r → U r = S r
def CPA (S Ss U : St) : Prop := CP S Ss U 4 ∧ (∀ j, j < 4 → U 12 j = Ss 12 j) ∧ (∀ j, j < 2 → U 13 j = Ss 13 j ∧ U 14 j = Ss 14 j) ∧ ∀ j, j < 8 → U 15 j = Ss 15 j ∧ U 16 j = Ss 16 j
theorem CP.i0 {S Ss : St} : CP S Ss (va_up (va_up (va_up (va_up (va_up (va_up S 40 (fun _ => Ss 40 0)) 41 (fun _ => Ss 41 0)) 3 (va_cpy (Ss 3) (S 3) 0 0 6)) 4 (va_cpy (Ss 4) (S 4) 0 0 6)) 5 (va_cpy (Ss 5) (S 5) 0 0 6)) 6 (va_cpy (Ss 6) (S 6) 0 0 6)) 0 := by
  refine ⟨⟨rfl, rfl⟩, fun j hj => ⟨cpy_at hj, cpy_at hj, cpy_at hj, cpy_at hj⟩, fun a b ha => absurd ha (Nat.not_lt_zero _), fun r hr => ?_⟩
  simp only [va_up]
  rw [if_neg (by omega), if_neg (by omega), if_neg (by omega), if_neg (by omega), if_neg (by omega), if_neg (by omega)]
theorem CP.s {S Ss U : St} {i : Nat} (hi : i < 4) (h : CP S Ss U i) : CP S Ss (va_up U (8 + i) (va_cpy (Ss (8 + i)) (U (8 + i)) 0 0 4)) (i + 1) := by
  obtain ⟨⟨h1, h2⟩, h3, h4, h5⟩ := h
  have key : ∀ r, ¬ r = 8 + i → va_up U (8 + i) (va_cpy (Ss (8 + i)) (U (8 + i)) 0 0 4) r = U r := fun r hr => if_neg hr
  refine ⟨⟨by rw [key _ (by omega)]; exact h1, by rw [key _ (by omega)]; exact h2⟩, fun j hj => ?_, fun a b ha hb => ?_, fun r hr => by rw [key _ (by omega)]; exact h5 r hr⟩
  · rw [key _ (by omega), key _ (by omega), key _ (by omega), key _ (by omega)]; exact h3 j hj
  · by_cases e : a = i
    · subst e
      simp only [va_up, if_true]
      exact cpy_at hb
    · rw [key _ (by omega)]; exact h4 a b (by omega) hb
theorem CP.fin {S Ss U : St} (h : CP S Ss U 4) : CPA S Ss (va_up (va_up (va_up (va_up (va_up U 12 (va_cpy (Ss 12) (U 12) 0 0 4)) 13 (va_cpy (Ss 13) (U 13) 0 0 2)) 14 (va_cpy (Ss 14) (U 14) 0 0 2)) 15 (va_cpy (Ss 15) (U 15) 0 0 8)) 16 (va_cpy (Ss 16) (U 16) 0 0 8)) := by
  obtain ⟨⟨h1, h2⟩, h3, h4, h5⟩ := h
  refine ⟨⟨⟨h1, h2⟩, h3, fun a b ha hb => ?_, fun r hr => ?_⟩, fun j hj => cpy_at hj, fun j hj => ⟨cpy_at hj, cpy_at hj⟩, fun j hj => ⟨cpy_at hj, cpy_at hj⟩⟩
  · simp only [va_up]
    rw [if_neg (by omega), if_neg (by omega), if_neg (by omega), if_neg (by omega), if_neg (by omega)]
    exact h4 a b ha hb
  · simp only [va_up]
    rw [if_neg (by omega), if_neg (by omega), if_neg (by omega), if_neg (by omega), if_neg (by omega)]
    exact h5 r hr
theorem alb_s {k : Nat → ClassId} {qd qs : Nat → Nat} {S Ss : St} {X : va_W} : ∀ {i : Nat}, i < 4 → (alb k qd S (alb k qs Ss X))[21 + i]? = some (qs (8 + i), .inl (k 0, 4, .inl (Ss (8 + i))))
  | 0, _ => rfl
  | 1, _ => rfl
  | 2, _ => rfl
  | 3, _ => rfl
  | i + 4, h => absurd h (by omega)
set_option maxHeartbeats 4000000 in
set_option maxRecDepth 20000 in
theorem c_X1_copyOf (l : Launch) (D : va_G) (k : Nat → ClassId) (qd qs : Nat → Nat) (S Ss : St) (X : va_W) : CV l D k yX1_copyOf cX1_copyOf 3 1 0 0 [.ref (qd 2), .ref (qs 2)] (alb k qd S (alb k qs Ss X)) (fun w' => ∃ S', w' = alb k qd S' (alb k qs Ss X) ∧ CPA S Ss S') := by
  refine CV.mk (by decide) (Nat.le_of_ble_eq_true rfl) ?_
  intro p e R s m args below meth c A Q ls F hnm hret hw hl
  have hx := xs_hx F
  have hb := xs_hb F
  have hl : lv_has ls 3 [(0, .ref (qd 2)), (1, .ref (qs 2))] := hl
  refine lv_aload_n hx hb dX1_copyOf_0 rfl (lv_at hl 0 rfl) ?_
  refine lv_aload_n hx hb dX1_copyOf_1 rfl (lv_at hl 1 rfl) ?_
  refine x_geti (w := fun S_ => alb k qd (S) (alb k qs S_ X)) (S := Ss) (p0 := 15) (j := 40) ⟨_, fun _ => rfl, fun _ => rfl, fun _ _ => rfl, fun _ => Nat.le_of_ble_eq_true rfl⟩ F hw fo_X1_44 dX1_copyOf_2 ?_
  refine x_puti (w := fun S_ => alb k qd S_ (alb k qs Ss X)) (S := S) (p0 := 0) (j := 40) ⟨_, fun _ => rfl, fun _ => rfl, fun _ _ => rfl, fun _ => Nat.le_of_ble_eq_true rfl⟩ F hw fo_X1_44 rfl rfl dX1_copyOf_5 (fun H locs hw => ?_)
  refine lv_aload_n hx hb dX1_copyOf_8 rfl (lv_at hl 0 rfl) ?_
  refine lv_aload_n hx hb dX1_copyOf_9 rfl (lv_at hl 1 rfl) ?_
  refine x_geti (w := fun S_ => alb k qd (va_up (S) 40 (fun _ => Ss 40 0)) (alb k qs S_ X)) (S := Ss) (p0 := 15) (j := 41) ⟨_, fun _ => rfl, fun _ => rfl, fun _ _ => rfl, fun _ => Nat.le_of_ble_eq_true rfl⟩ F hw fo_X1_48 dX1_copyOf_10 ?_
  refine x_puti (w := fun S_ => alb k qd S_ (alb k qs Ss X)) (S := va_up (S) 40 (fun _ => Ss 40 0)) (p0 := 0) (j := 41) ⟨_, fun _ => rfl, fun _ => rfl, fun _ _ => rfl, fun _ => Nat.le_of_ble_eq_true rfl⟩ F hw fo_X1_48 rfl rfl dX1_copyOf_13 (fun H locs hw => ?_)
  refine lv_aload_n hx hb dX1_copyOf_16 rfl (lv_at hl 1 rfl) ?_
  refine x_getr (p0 := 15) (b := qs 3) ⟨_, rfl, rfl⟩ F hw fo_X1_9 dX1_copyOf_17 ?_
  refine lv_iconst (v := nI 0) hx hb dX1_copyOf_20 rfl ?_
  refine lv_aload_n hx hb dX1_copyOf_21 rfl (lv_at hl 0 rfl) ?_
  refine x_getr (p0 := 0) (b := qd 3) ⟨_, rfl, rfl⟩ F hw fo_X1_9 dX1_copyOf_22 ?_
  refine lv_iconst (v := nI 0) hx hb dX1_copyOf_25 rfl ?_
  refine lv_bipush (v := nI 6) hx hb dX1_copyOf_26 rfl ?_
  refine x_cpy (w := fun S_ => alb k qd S_ (alb k qs Ss X)) (S := va_up (va_up (S) 40 (fun _ => Ss 40 0)) 41 (fun _ => Ss 41 0)) (j := 3) 16 1 6 F ay_X1_51 (Nat.le_of_ble_eq_true rfl) hl.1 (Nat.le_of_ble_eq_true rfl) hw rfl ⟨fun _ => rfl, fun _ _ => rfl, Nat.le_of_ble_eq_true rfl⟩ (Nat.le_of_ble_eq_true rfl) (Nat.le_of_ble_eq_true rfl) (Nat.le_of_ble_eq_true rfl) dX1_copyOf_28 (fun H locs hw => ?_)
  refine lv_aload_n hx hb dX1_copyOf_31 rfl (lv_at hl 1 rfl) ?_
  refine x_getr (p0 := 15) (b := qs 4) ⟨_, rfl, rfl⟩ F hw fo_X1_15 dX1_copyOf_32 ?_
  refine lv_iconst (v := nI 0) hx hb dX1_copyOf_35 rfl ?_
  refine lv_aload_n hx hb dX1_copyOf_36 rfl (lv_at hl 0 rfl) ?_
  refine x_getr (p0 := 0) (b := qd 4) ⟨_, rfl, rfl⟩ F hw fo_X1_15 dX1_copyOf_37 ?_
  refine lv_iconst (v := nI 0) hx hb dX1_copyOf_40 rfl ?_
  refine lv_bipush (v := nI 6) hx hb dX1_copyOf_41 rfl ?_
  refine x_cpy (w := fun S_ => alb k qd S_ (alb k qs Ss X)) (S := va_up (va_up (va_up (S) 40 (fun _ => Ss 40 0)) 41 (fun _ => Ss 41 0)) 3 (va_cpy (Ss 3) (S 3) 0 0 6)) (j := 4) 17 2 6 F ay_X1_51 (Nat.le_of_ble_eq_true rfl) hl.1 (Nat.le_of_ble_eq_true rfl) hw rfl ⟨fun _ => rfl, fun _ _ => rfl, Nat.le_of_ble_eq_true rfl⟩ (Nat.le_of_ble_eq_true rfl) (Nat.le_of_ble_eq_true rfl) (Nat.le_of_ble_eq_true rfl) dX1_copyOf_43 (fun H locs hw => ?_)
  refine lv_aload_n hx hb dX1_copyOf_46 rfl (lv_at hl 1 rfl) ?_
  refine x_getr (p0 := 15) (b := qs 5) ⟨_, rfl, rfl⟩ F hw fo_X1_18 dX1_copyOf_47 ?_
  refine lv_iconst (v := nI 0) hx hb dX1_copyOf_50 rfl ?_
  refine lv_aload_n hx hb dX1_copyOf_51 rfl (lv_at hl 0 rfl) ?_
  refine x_getr (p0 := 0) (b := qd 5) ⟨_, rfl, rfl⟩ F hw fo_X1_18 dX1_copyOf_52 ?_
  refine lv_iconst (v := nI 0) hx hb dX1_copyOf_55 rfl ?_
  refine lv_bipush (v := nI 6) hx hb dX1_copyOf_56 rfl ?_
  refine x_cpy (w := fun S_ => alb k qd S_ (alb k qs Ss X)) (S := va_up (va_up (va_up (va_up (S) 40 (fun _ => Ss 40 0)) 41 (fun _ => Ss 41 0)) 3 (va_cpy (Ss 3) (S 3) 0 0 6)) 4 (va_cpy (Ss 4) (S 4) 0 0 6)) (j := 5) 18 3 6 F ay_X1_51 (Nat.le_of_ble_eq_true rfl) hl.1 (Nat.le_of_ble_eq_true rfl) hw rfl ⟨fun _ => rfl, fun _ _ => rfl, Nat.le_of_ble_eq_true rfl⟩ (Nat.le_of_ble_eq_true rfl) (Nat.le_of_ble_eq_true rfl) (Nat.le_of_ble_eq_true rfl) dX1_copyOf_58 (fun H locs hw => ?_)
  refine lv_aload_n hx hb dX1_copyOf_61 rfl (lv_at hl 1 rfl) ?_
  refine x_getr (p0 := 15) (b := qs 6) ⟨_, rfl, rfl⟩ F hw fo_X1_21 dX1_copyOf_62 ?_
  refine lv_iconst (v := nI 0) hx hb dX1_copyOf_65 rfl ?_
  refine lv_aload_n hx hb dX1_copyOf_66 rfl (lv_at hl 0 rfl) ?_
  refine x_getr (p0 := 0) (b := qd 6) ⟨_, rfl, rfl⟩ F hw fo_X1_21 dX1_copyOf_67 ?_
  refine lv_iconst (v := nI 0) hx hb dX1_copyOf_70 rfl ?_
  refine lv_bipush (v := nI 6) hx hb dX1_copyOf_71 rfl ?_
  refine x_cpy (w := fun S_ => alb k qd S_ (alb k qs Ss X)) (S := va_up (va_up (va_up (va_up (va_up (S) 40 (fun _ => Ss 40 0)) 41 (fun _ => Ss 41 0)) 3 (va_cpy (Ss 3) (S 3) 0 0 6)) 4 (va_cpy (Ss 4) (S 4) 0 0 6)) 5 (va_cpy (Ss 5) (S 5) 0 0 6)) (j := 6) 19 4 6 F ay_X1_51 (Nat.le_of_ble_eq_true rfl) hl.1 (Nat.le_of_ble_eq_true rfl) hw rfl ⟨fun _ => rfl, fun _ _ => rfl, Nat.le_of_ble_eq_true rfl⟩ (Nat.le_of_ble_eq_true rfl) (Nat.le_of_ble_eq_true rfl) (Nat.le_of_ble_eq_true rfl) dX1_copyOf_73 (fun H locs hw => ?_)
  refine lv_iconst (v := nI 0) hx hb dX1_copyOf_76 rfl ?_
  refine lv_istore_n (lv' := [(2, .int (nI 0)), (0, .ref (qd 2)), (1, .ref (qs 2))]) hx hb dX1_copyOf_77 rfl hl (Nat.le_of_ble_eq_true rfl) rfl (fun ls hl => ?_)
  have K78 : ∀ (n78_ : Nat) (i : Nat) (U : St) (H : Heap) (locs : List Loc) (ls : Array Slot), 4 - i < n78_ → (i ≤ 4) → (CP S Ss U i) → Wd D A s.heap H locs (alb k qd (U) (alb k qs Ss X)) → lv_has ls 3 [(0, .ref (qd 2)), (1, .ref (qs 2)), (2, .int (nI i))] → W p l e R s m args below meth c H locs 0 0 Q (F0 m 78 ls []) := by
    intro n78_
    induction n78_ with
    | zero =>
      intro i U H locs ls hn78_
      exact absurd hn78_ (Nat.not_lt_zero _)
    | succ n78_ ih78_ =>
      intro i U H locs ls hn78_ hi h1 hw hl
      refine lv_iload_n hx hb dX1_copyOf_78 rfl (lv_at hl 2 rfl) ?_
      refine lv_iconst (v := nI 4) hx hb dX1_copyOf_79 rfl ?_
      refine x_icmp_ge i 4 F (by omega) (by omega) (tgt := 107) dX1_copyOf_80 rfl (fun c80 => ?_) (fun c80 => ?_)
      · refine lv_aload_n hx hb dX1_copyOf_107 rfl (lv_at hl 1 rfl) ?_
        refine x_getr (p0 := 15) (b := qs 12) ⟨_, rfl, rfl⟩ F hw fo_X1_29 dX1_copyOf_108 ?_
        refine lv_iconst (v := nI 0) hx hb dX1_copyOf_111 rfl ?_
        refine lv_aload_n hx hb dX1_copyOf_112 rfl (lv_at hl 0 rfl) ?_
        refine x_getr (p0 := 0) (b := qd 12) ⟨_, rfl, rfl⟩ F hw fo_X1_29 dX1_copyOf_113 ?_
        refine lv_iconst (v := nI 0) hx hb dX1_copyOf_116 rfl ?_
        refine lv_iconst (v := nI 4) hx hb dX1_copyOf_117 rfl ?_
        refine x_cpy (w := fun S_ => alb k qd S_ (alb k qs Ss X)) (S := U) (j := 12) 25 10 4 F ay_X1_51 (Nat.le_of_ble_eq_true rfl) hl.1 (Nat.le_of_ble_eq_true rfl) hw rfl ⟨fun _ => rfl, fun _ _ => rfl, Nat.le_of_ble_eq_true rfl⟩ (Nat.le_of_ble_eq_true rfl) (Nat.le_of_ble_eq_true rfl) (Nat.le_of_ble_eq_true rfl) dX1_copyOf_118 (fun H locs hw => ?_)
        refine lv_aload_n hx hb dX1_copyOf_121 rfl (lv_at hl 1 rfl) ?_
        refine x_getr (p0 := 15) (b := qs 13) ⟨_, rfl, rfl⟩ F hw fo_X1_32 dX1_copyOf_122 ?_
        refine lv_iconst (v := nI 0) hx hb dX1_copyOf_125 rfl ?_
        refine lv_aload_n hx hb dX1_copyOf_126 rfl (lv_at hl 0 rfl) ?_
        refine x_getr (p0 := 0) (b := qd 13) ⟨_, rfl, rfl⟩ F hw fo_X1_32 dX1_copyOf_127 ?_
        refine lv_iconst (v := nI 0) hx hb dX1_copyOf_130 rfl ?_
        refine lv_iconst (v := nI 2) hx hb dX1_copyOf_131 rfl ?_
        refine x_cpy (w := fun S_ => alb k qd S_ (alb k qs Ss X)) (S := va_up (U) 12 (va_cpy (Ss 12) (U 12) 0 0 4)) (j := 13) 26 11 2 F ay_X1_51 (Nat.le_of_ble_eq_true rfl) hl.1 (Nat.le_of_ble_eq_true rfl) hw rfl ⟨fun _ => rfl, fun _ _ => rfl, Nat.le_of_ble_eq_true rfl⟩ (Nat.le_of_ble_eq_true rfl) (Nat.le_of_ble_eq_true rfl) (Nat.le_of_ble_eq_true rfl) dX1_copyOf_132 (fun H locs hw => ?_)
        refine lv_aload_n hx hb dX1_copyOf_135 rfl (lv_at hl 1 rfl) ?_
        refine x_getr (p0 := 15) (b := qs 14) ⟨_, rfl, rfl⟩ F hw fo_X1_35 dX1_copyOf_136 ?_
        refine lv_iconst (v := nI 0) hx hb dX1_copyOf_139 rfl ?_
        refine lv_aload_n hx hb dX1_copyOf_140 rfl (lv_at hl 0 rfl) ?_
        refine x_getr (p0 := 0) (b := qd 14) ⟨_, rfl, rfl⟩ F hw fo_X1_35 dX1_copyOf_141 ?_
        refine lv_iconst (v := nI 0) hx hb dX1_copyOf_144 rfl ?_
        refine lv_iconst (v := nI 2) hx hb dX1_copyOf_145 rfl ?_
        refine x_cpy (w := fun S_ => alb k qd S_ (alb k qs Ss X)) (S := va_up (va_up (U) 12 (va_cpy (Ss 12) (U 12) 0 0 4)) 13 (va_cpy (Ss 13) (U 13) 0 0 2)) (j := 14) 27 12 2 F ay_X1_51 (Nat.le_of_ble_eq_true rfl) hl.1 (Nat.le_of_ble_eq_true rfl) hw rfl ⟨fun _ => rfl, fun _ _ => rfl, Nat.le_of_ble_eq_true rfl⟩ (Nat.le_of_ble_eq_true rfl) (Nat.le_of_ble_eq_true rfl) (Nat.le_of_ble_eq_true rfl) dX1_copyOf_146 (fun H locs hw => ?_)
        refine lv_aload_n hx hb dX1_copyOf_149 rfl (lv_at hl 1 rfl) ?_
        refine x_getr (p0 := 15) (b := qs 15) ⟨_, rfl, rfl⟩ F hw fo_X1_38 dX1_copyOf_150 ?_
        refine lv_iconst (v := nI 0) hx hb dX1_copyOf_153 rfl ?_
        refine lv_aload_n hx hb dX1_copyOf_154 rfl (lv_at hl 0 rfl) ?_
        refine x_getr (p0 := 0) (b := qd 15) ⟨_, rfl, rfl⟩ F hw fo_X1_38 dX1_copyOf_155 ?_
        refine lv_iconst (v := nI 0) hx hb dX1_copyOf_158 rfl ?_
        refine lv_bipush (v := nI 8) hx hb dX1_copyOf_159 rfl ?_
        refine x_cpy (w := fun S_ => alb k qd S_ (alb k qs Ss X)) (S := va_up (va_up (va_up (U) 12 (va_cpy (Ss 12) (U 12) 0 0 4)) 13 (va_cpy (Ss 13) (U 13) 0 0 2)) 14 (va_cpy (Ss 14) (U 14) 0 0 2)) (j := 15) 28 13 8 F ay_X1_51 (Nat.le_of_ble_eq_true rfl) hl.1 (Nat.le_of_ble_eq_true rfl) hw rfl ⟨fun _ => rfl, fun _ _ => rfl, Nat.le_of_ble_eq_true rfl⟩ (Nat.le_of_ble_eq_true rfl) (Nat.le_of_ble_eq_true rfl) (Nat.le_of_ble_eq_true rfl) dX1_copyOf_161 (fun H locs hw => ?_)
        refine lv_aload_n hx hb dX1_copyOf_164 rfl (lv_at hl 1 rfl) ?_
        refine x_getr (p0 := 15) (b := qs 16) ⟨_, rfl, rfl⟩ F hw fo_X1_41 dX1_copyOf_165 ?_
        refine lv_iconst (v := nI 0) hx hb dX1_copyOf_168 rfl ?_
        refine lv_aload_n hx hb dX1_copyOf_169 rfl (lv_at hl 0 rfl) ?_
        refine x_getr (p0 := 0) (b := qd 16) ⟨_, rfl, rfl⟩ F hw fo_X1_41 dX1_copyOf_170 ?_
        refine lv_iconst (v := nI 0) hx hb dX1_copyOf_173 rfl ?_
        refine lv_bipush (v := nI 8) hx hb dX1_copyOf_174 rfl ?_
        refine x_cpy (w := fun S_ => alb k qd S_ (alb k qs Ss X)) (S := va_up (va_up (va_up (va_up (U) 12 (va_cpy (Ss 12) (U 12) 0 0 4)) 13 (va_cpy (Ss 13) (U 13) 0 0 2)) 14 (va_cpy (Ss 14) (U 14) 0 0 2)) 15 (va_cpy (Ss 15) (U 15) 0 0 8)) (j := 16) 29 14 8 F ay_X1_51 (Nat.le_of_ble_eq_true rfl) hl.1 (Nat.le_of_ble_eq_true rfl) hw rfl ⟨fun _ => rfl, fun _ _ => rfl, Nat.le_of_ble_eq_true rfl⟩ (Nat.le_of_ble_eq_true rfl) (Nat.le_of_ble_eq_true rfl) (Nat.le_of_ble_eq_true rfl) dX1_copyOf_176 (fun H locs hw => ?_)
        exact hret _ _ _ _ _ dX1_copyOf_179 hw ⟨_, rfl, CP.fin (by rw [show i = 4 by omega] at h1; exact h1)⟩
      · refine lv_aload_n hx hb dX1_copyOf_83 rfl (lv_at hl 1 rfl) ?_
        refine x_getr (p0 := 15) (b := qs 7) ⟨_, rfl, rfl⟩ F hw fo_X1_26 dX1_copyOf_84 ?_
        refine lv_iload_n hx hb dX1_copyOf_87 rfl (lv_at hl 2 rfl) ?_
        refine x_grow (p0 := 20) (b := fun i => qs (8 + i)) ⟨rfl, Nat.le_of_ble_eq_true rfl⟩ F hw i rfl (by omega) dX1_copyOf_88 ?_
        refine lv_iconst (v := nI 0) hx hb dX1_copyOf_89 rfl ?_
        refine lv_aload_n hx hb dX1_copyOf_90 rfl (lv_at hl 0 rfl) ?_
        refine x_getr (p0 := 0) (b := qd 7) ⟨_, rfl, rfl⟩ F hw fo_X1_26 dX1_copyOf_91 ?_
        refine lv_iload_n hx hb dX1_copyOf_94 rfl (lv_at hl 2 rfl) ?_
        refine x_grow (p0 := 5) (b := fun i => qd (8 + i)) ⟨rfl, Nat.le_of_ble_eq_true rfl⟩ F hw i rfl (by omega) dX1_copyOf_95 ?_
        refine lv_iconst (v := nI 0) hx hb dX1_copyOf_96 rfl ?_
        refine lv_iconst (v := nI 4) hx hb dX1_copyOf_97 rfl ?_
        refine x_cpy (w := fun S_ => alb k qd S_ (alb k qs Ss X)) (S := U) (j := 8 + i) (21 + i) (6 + i) 4 F ay_X1_51 (Nat.le_of_ble_eq_true rfl) hl.1 (Nat.le_of_ble_eq_true rfl) hw (alb_s (by omega)) (aiA_slip (by omega)) (Nat.le_of_ble_eq_true rfl) (Nat.le_of_ble_eq_true rfl) (Nat.le_of_ble_eq_true rfl) dX1_copyOf_98 (fun H locs hw => ?_)
        refine lv_iinc (v := nI (i + 1)) (lv' := [(2, .int (nI (i + 1))), (0, .ref (qd 2)), (1, .ref (qs 2))]) hx hb dX1_copyOf_101 hl (k := 2) rfl (nI_1 _) (Nat.le_of_ble_eq_true rfl) rfl (fun ls hl => ?_)
        refine lv_goto (tgt := 78) hx hb dX1_copyOf_104 rfl ?_
        exact ih78_ (i + 1) (va_up U (8 + i) (va_cpy (Ss (8 + i)) (U (8 + i)) 0 0 4)) _ _ _ (by first | omega | (simp only [] at *; omega)) (by first | assumption | omega | rfl) (by exact CP.s (by omega) h1) hw (lv_sub hl [1, 2, 0] rfl)
  exact K78 _ 0 (va_up (va_up (va_up (va_up (va_up (va_up S 40 (fun _ => Ss 40 0)) 41 (fun _ => Ss 41 0)) 3 (va_cpy (Ss 3) (S 3) 0 0 6)) 4 (va_cpy (Ss 4) (S 4) 0 0 6)) 5 (va_cpy (Ss 5) (S 5) 0 0 6)) 6 (va_cpy (Ss 6) (S 6) 0 0 6)) _ _ _ (Nat.lt_succ_self _) (by first | assumption | omega | rfl) (by exact CP.i0) hw (lv_sub hl [1, 2, 0] rfl)
