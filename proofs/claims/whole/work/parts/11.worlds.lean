/-! ===== the class's cells: 38 of them, by their places; S holds the arrays by their places and the numbers from 40 on ===== -/
def alb (k : Nat → ClassId) (a : Nat → Nat) (S : St) (X : va_W) : va_W :=
  (a 2, .inr (1, [.int (S 40 0), .int (S 41 0), .ref (a 3), .ref (a 4), .ref (a 5), .ref (a 6), .ref (a 7), .ref (a 12), .ref (a 13), .ref (a 14), .ref (a 15), .ref (a 16)])) ::
  (a 3, .inl (k 0, 6, .inl (S 3))) :: (a 4, .inl (k 0, 6, .inl (S 4))) :: (a 5, .inl (k 0, 6, .inl (S 5))) :: (a 6, .inl (k 0, 6, .inl (S 6))) ::
  (a 7, .inl (k 2, 4, .inr (.inr (.inr (.inr (fun i => if i < 4 then some (a (8 + i)) else none)))))) ::
  (a 8, .inl (k 0, 4, .inl (S 8))) :: (a 9, .inl (k 0, 4, .inl (S 9))) :: (a 10, .inl (k 0, 4, .inl (S 10))) :: (a 11, .inl (k 0, 4, .inl (S 11))) ::
  (a 12, .inl (k 0, 4, .inl (S 12))) :: (a 13, .inl (k 0, 2, .inl (S 13))) :: (a 14, .inl (k 0, 2, .inl (S 14))) :: (a 15, .inl (k 0, 8, .inl (S 15))) :: (a 16, .inl (k 0, 8, .inl (S 16))) :: X
def wC (k : Nat → ClassId) (q z : Nat → Nat) (g : Nat → Option Nat) (S : St) (X : va_W) : va_W :=
  (q 0, .inr (6, [.ref (q 2), .ref (q 1), .ref (q 17), .ref (q 19), .ref (q 31), .ref (q 32), .ref (q 33)])) ::
  (q 1, .inl (k 3, 2, .inr (.inr (.inr (.inr g))))) ::
  alb k q S (
  (q 17, .inr (3, [.int (S 42 0), .ref (q 18)])) :: (q 18, .inl (k 0, 50, .inl (S 18))) ::
  (q 19, .inr (5, [.int (S 43 0), .int (S 44 0), .ref (z 2), .ref (z 3), .ref (q 2), .int (S 45 0), .int (S 46 0), .int (S 47 0), .ref (q 22), .ref (q 23), .ref (q 30)])) ::
  (z 2, .inl (k 0, z 0, .inl (S 20))) :: (z 3, .inl (k 0, z 1, .inl (S 21))) :: (q 22, .inl (k 0, 6, .inl (S 22))) ::
  (q 23, .inl (k 2, 6, .inr (.inr (.inr (.inr (fun i => if i < 6 then some (q (24 + i)) else none)))))) ::
  (q 24, .inl (k 0, 6, .inl (S 24))) :: (q 25, .inl (k 0, 6, .inl (S 25))) :: (q 26, .inl (k 0, 6, .inl (S 26))) :: (q 27, .inl (k 0, 6, .inl (S 27))) :: (q 28, .inl (k 0, 6, .inl (S 28))) :: (q 29, .inl (k 0, 6, .inl (S 29))) ::
  (q 30, .inl (k 1, 36, .inl (S 30))) ::
  (q 31, .inr (0, [.int (S 48 0), .int (S 49 0), .int (S 50 0), .ref (q 2)])) ::
  (q 32, .inr (2, [.ref (q 2), .int (S 51 0), .int (S 52 0)])) ::
  (q 33, .inr (4, [.int (S 53 0), .int (S 54 0), .int (S 55 0), .ref (q 34), .ref (q 35), .ref (q 36), .ref (q 37)])) ::
  (q 34, .inl (k 0, 8, .inl (S 34))) :: (q 35, .inl (k 0, 16, .inl (S 35))) :: (q 36, .inl (k 0, 16, .inl (S 36))) :: (q 37, .inl (k 0, 8, .inl (S 37))) :: X)
theorem obC_0 {k : Nat → ClassId} {q z : Nat → Nat} {g : Nat → Option Nat} {S : St} {X : va_W} : OB (wC k q z g S X) 0 (q 0) 6 := ⟨_, rfl⟩
theorem frC_0_0 {k : Nat → ClassId} {q z : Nat → Nat} {g : Nat → Option Nat} {S : St} {X : va_W} : FR (wC k q z g S X) 0 (q 0) 6 0 (q 2) := ⟨_, rfl, rfl⟩
theorem frC_0_1 {k : Nat → ClassId} {q z : Nat → Nat} {g : Nat → Option Nat} {S : St} {X : va_W} : FR (wC k q z g S X) 0 (q 0) 6 1 (q 1) := ⟨_, rfl, rfl⟩
theorem frC_0_2 {k : Nat → ClassId} {q z : Nat → Nat} {g : Nat → Option Nat} {S : St} {X : va_W} : FR (wC k q z g S X) 0 (q 0) 6 2 (q 17) := ⟨_, rfl, rfl⟩
theorem frC_0_3 {k : Nat → ClassId} {q z : Nat → Nat} {g : Nat → Option Nat} {S : St} {X : va_W} : FR (wC k q z g S X) 0 (q 0) 6 3 (q 19) := ⟨_, rfl, rfl⟩
theorem frC_0_4 {k : Nat → ClassId} {q z : Nat → Nat} {g : Nat → Option Nat} {S : St} {X : va_W} : FR (wC k q z g S X) 0 (q 0) 6 4 (q 31) := ⟨_, rfl, rfl⟩
theorem frC_0_5 {k : Nat → ClassId} {q z : Nat → Nat} {g : Nat → Option Nat} {S : St} {X : va_W} : FR (wC k q z g S X) 0 (q 0) 6 5 (q 32) := ⟨_, rfl, rfl⟩
theorem frC_0_6 {k : Nat → ClassId} {q z : Nat → Nat} {g : Nat → Option Nat} {S : St} {X : va_W} : FR (wC k q z g S X) 0 (q 0) 6 6 (q 33) := ⟨_, rfl, rfl⟩
theorem obC_2 {k : Nat → ClassId} {q z : Nat → Nat} {g : Nat → Option Nat} {S : St} {X : va_W} : OB (wC k q z g S X) 2 (q 2) 1 := ⟨_, rfl⟩
theorem frC_2_2 {k : Nat → ClassId} {q z : Nat → Nat} {g : Nat → Option Nat} {S : St} {X : va_W} : FR (wC k q z g S X) 2 (q 2) 1 2 (q 3) := ⟨_, rfl, rfl⟩
theorem frC_2_3 {k : Nat → ClassId} {q z : Nat → Nat} {g : Nat → Option Nat} {S : St} {X : va_W} : FR (wC k q z g S X) 2 (q 2) 1 3 (q 4) := ⟨_, rfl, rfl⟩
theorem frC_2_4 {k : Nat → ClassId} {q z : Nat → Nat} {g : Nat → Option Nat} {S : St} {X : va_W} : FR (wC k q z g S X) 2 (q 2) 1 4 (q 5) := ⟨_, rfl, rfl⟩
theorem frC_2_5 {k : Nat → ClassId} {q z : Nat → Nat} {g : Nat → Option Nat} {S : St} {X : va_W} : FR (wC k q z g S X) 2 (q 2) 1 5 (q 6) := ⟨_, rfl, rfl⟩
theorem frC_2_6 {k : Nat → ClassId} {q z : Nat → Nat} {g : Nat → Option Nat} {S : St} {X : va_W} : FR (wC k q z g S X) 2 (q 2) 1 6 (q 7) := ⟨_, rfl, rfl⟩
theorem frC_2_7 {k : Nat → ClassId} {q z : Nat → Nat} {g : Nat → Option Nat} {S : St} {X : va_W} : FR (wC k q z g S X) 2 (q 2) 1 7 (q 12) := ⟨_, rfl, rfl⟩
theorem frC_2_8 {k : Nat → ClassId} {q z : Nat → Nat} {g : Nat → Option Nat} {S : St} {X : va_W} : FR (wC k q z g S X) 2 (q 2) 1 8 (q 13) := ⟨_, rfl, rfl⟩
theorem frC_2_9 {k : Nat → ClassId} {q z : Nat → Nat} {g : Nat → Option Nat} {S : St} {X : va_W} : FR (wC k q z g S X) 2 (q 2) 1 9 (q 14) := ⟨_, rfl, rfl⟩
theorem frC_2_10 {k : Nat → ClassId} {q z : Nat → Nat} {g : Nat → Option Nat} {S : St} {X : va_W} : FR (wC k q z g S X) 2 (q 2) 1 10 (q 15) := ⟨_, rfl, rfl⟩
theorem frC_2_11 {k : Nat → ClassId} {q z : Nat → Nat} {g : Nat → Option Nat} {S : St} {X : va_W} : FR (wC k q z g S X) 2 (q 2) 1 11 (q 16) := ⟨_, rfl, rfl⟩
theorem fiC_40 {k : Nat → ClassId} {q z : Nat → Nat} {g : Nat → Option Nat} {X : va_W} : FI (fun S => wC k q z g S X) 2 (q 2) 1 0 40 := ⟨_, fun _ => rfl, fun _ => rfl, fun _ _ => rfl, fun _ => Nat.le_of_ble_eq_true rfl⟩
theorem fiC_41 {k : Nat → ClassId} {q z : Nat → Nat} {g : Nat → Option Nat} {X : va_W} : FI (fun S => wC k q z g S X) 2 (q 2) 1 1 41 := ⟨_, fun _ => rfl, fun _ => rfl, fun _ _ => rfl, fun _ => Nat.le_of_ble_eq_true rfl⟩
theorem obC_17 {k : Nat → ClassId} {q z : Nat → Nat} {g : Nat → Option Nat} {S : St} {X : va_W} : OB (wC k q z g S X) 17 (q 17) 3 := ⟨_, rfl⟩
theorem frC_17_1 {k : Nat → ClassId} {q z : Nat → Nat} {g : Nat → Option Nat} {S : St} {X : va_W} : FR (wC k q z g S X) 17 (q 17) 3 1 (q 18) := ⟨_, rfl, rfl⟩
theorem fiC_42 {k : Nat → ClassId} {q z : Nat → Nat} {g : Nat → Option Nat} {X : va_W} : FI (fun S => wC k q z g S X) 17 (q 17) 3 0 42 := ⟨_, fun _ => rfl, fun _ => rfl, fun _ _ => rfl, fun _ => Nat.le_of_ble_eq_true rfl⟩
theorem obC_19 {k : Nat → ClassId} {q z : Nat → Nat} {g : Nat → Option Nat} {S : St} {X : va_W} : OB (wC k q z g S X) 19 (q 19) 5 := ⟨_, rfl⟩
theorem frC_19_2 {k : Nat → ClassId} {q z : Nat → Nat} {g : Nat → Option Nat} {S : St} {X : va_W} : FR (wC k q z g S X) 19 (q 19) 5 2 (z 2) := ⟨_, rfl, rfl⟩
theorem frC_19_3 {k : Nat → ClassId} {q z : Nat → Nat} {g : Nat → Option Nat} {S : St} {X : va_W} : FR (wC k q z g S X) 19 (q 19) 5 3 (z 3) := ⟨_, rfl, rfl⟩
theorem frC_19_4 {k : Nat → ClassId} {q z : Nat → Nat} {g : Nat → Option Nat} {S : St} {X : va_W} : FR (wC k q z g S X) 19 (q 19) 5 4 (q 2) := ⟨_, rfl, rfl⟩
theorem frC_19_8 {k : Nat → ClassId} {q z : Nat → Nat} {g : Nat → Option Nat} {S : St} {X : va_W} : FR (wC k q z g S X) 19 (q 19) 5 8 (q 22) := ⟨_, rfl, rfl⟩
theorem frC_19_9 {k : Nat → ClassId} {q z : Nat → Nat} {g : Nat → Option Nat} {S : St} {X : va_W} : FR (wC k q z g S X) 19 (q 19) 5 9 (q 23) := ⟨_, rfl, rfl⟩
theorem frC_19_10 {k : Nat → ClassId} {q z : Nat → Nat} {g : Nat → Option Nat} {S : St} {X : va_W} : FR (wC k q z g S X) 19 (q 19) 5 10 (q 30) := ⟨_, rfl, rfl⟩
theorem fiC_43 {k : Nat → ClassId} {q z : Nat → Nat} {g : Nat → Option Nat} {X : va_W} : FI (fun S => wC k q z g S X) 19 (q 19) 5 0 43 := ⟨_, fun _ => rfl, fun _ => rfl, fun _ _ => rfl, fun _ => Nat.le_of_ble_eq_true rfl⟩
theorem fiC_44 {k : Nat → ClassId} {q z : Nat → Nat} {g : Nat → Option Nat} {X : va_W} : FI (fun S => wC k q z g S X) 19 (q 19) 5 1 44 := ⟨_, fun _ => rfl, fun _ => rfl, fun _ _ => rfl, fun _ => Nat.le_of_ble_eq_true rfl⟩
theorem fiC_45 {k : Nat → ClassId} {q z : Nat → Nat} {g : Nat → Option Nat} {X : va_W} : FI (fun S => wC k q z g S X) 19 (q 19) 5 5 45 := ⟨_, fun _ => rfl, fun _ => rfl, fun _ _ => rfl, fun _ => Nat.le_of_ble_eq_true rfl⟩
theorem fiC_46 {k : Nat → ClassId} {q z : Nat → Nat} {g : Nat → Option Nat} {X : va_W} : FI (fun S => wC k q z g S X) 19 (q 19) 5 6 46 := ⟨_, fun _ => rfl, fun _ => rfl, fun _ _ => rfl, fun _ => Nat.le_of_ble_eq_true rfl⟩
theorem fiC_47 {k : Nat → ClassId} {q z : Nat → Nat} {g : Nat → Option Nat} {X : va_W} : FI (fun S => wC k q z g S X) 19 (q 19) 5 7 47 := ⟨_, fun _ => rfl, fun _ => rfl, fun _ _ => rfl, fun _ => Nat.le_of_ble_eq_true rfl⟩
theorem obC_31 {k : Nat → ClassId} {q z : Nat → Nat} {g : Nat → Option Nat} {S : St} {X : va_W} : OB (wC k q z g S X) 31 (q 31) 0 := ⟨_, rfl⟩
theorem frC_31_3 {k : Nat → ClassId} {q z : Nat → Nat} {g : Nat → Option Nat} {S : St} {X : va_W} : FR (wC k q z g S X) 31 (q 31) 0 3 (q 2) := ⟨_, rfl, rfl⟩
theorem fiC_48 {k : Nat → ClassId} {q z : Nat → Nat} {g : Nat → Option Nat} {X : va_W} : FI (fun S => wC k q z g S X) 31 (q 31) 0 0 48 := ⟨_, fun _ => rfl, fun _ => rfl, fun _ _ => rfl, fun _ => Nat.le_of_ble_eq_true rfl⟩
theorem fiC_49 {k : Nat → ClassId} {q z : Nat → Nat} {g : Nat → Option Nat} {X : va_W} : FI (fun S => wC k q z g S X) 31 (q 31) 0 1 49 := ⟨_, fun _ => rfl, fun _ => rfl, fun _ _ => rfl, fun _ => Nat.le_of_ble_eq_true rfl⟩
theorem fiC_50 {k : Nat → ClassId} {q z : Nat → Nat} {g : Nat → Option Nat} {X : va_W} : FI (fun S => wC k q z g S X) 31 (q 31) 0 2 50 := ⟨_, fun _ => rfl, fun _ => rfl, fun _ _ => rfl, fun _ => Nat.le_of_ble_eq_true rfl⟩
theorem obC_32 {k : Nat → ClassId} {q z : Nat → Nat} {g : Nat → Option Nat} {S : St} {X : va_W} : OB (wC k q z g S X) 32 (q 32) 2 := ⟨_, rfl⟩
theorem frC_32_0 {k : Nat → ClassId} {q z : Nat → Nat} {g : Nat → Option Nat} {S : St} {X : va_W} : FR (wC k q z g S X) 32 (q 32) 2 0 (q 2) := ⟨_, rfl, rfl⟩
theorem fiC_51 {k : Nat → ClassId} {q z : Nat → Nat} {g : Nat → Option Nat} {X : va_W} : FI (fun S => wC k q z g S X) 32 (q 32) 2 1 51 := ⟨_, fun _ => rfl, fun _ => rfl, fun _ _ => rfl, fun _ => Nat.le_of_ble_eq_true rfl⟩
theorem fiC_52 {k : Nat → ClassId} {q z : Nat → Nat} {g : Nat → Option Nat} {X : va_W} : FI (fun S => wC k q z g S X) 32 (q 32) 2 2 52 := ⟨_, fun _ => rfl, fun _ => rfl, fun _ _ => rfl, fun _ => Nat.le_of_ble_eq_true rfl⟩
theorem obC_33 {k : Nat → ClassId} {q z : Nat → Nat} {g : Nat → Option Nat} {S : St} {X : va_W} : OB (wC k q z g S X) 33 (q 33) 4 := ⟨_, rfl⟩
theorem frC_33_3 {k : Nat → ClassId} {q z : Nat → Nat} {g : Nat → Option Nat} {S : St} {X : va_W} : FR (wC k q z g S X) 33 (q 33) 4 3 (q 34) := ⟨_, rfl, rfl⟩
theorem frC_33_4 {k : Nat → ClassId} {q z : Nat → Nat} {g : Nat → Option Nat} {S : St} {X : va_W} : FR (wC k q z g S X) 33 (q 33) 4 4 (q 35) := ⟨_, rfl, rfl⟩
theorem frC_33_5 {k : Nat → ClassId} {q z : Nat → Nat} {g : Nat → Option Nat} {S : St} {X : va_W} : FR (wC k q z g S X) 33 (q 33) 4 5 (q 36) := ⟨_, rfl, rfl⟩
theorem frC_33_6 {k : Nat → ClassId} {q z : Nat → Nat} {g : Nat → Option Nat} {S : St} {X : va_W} : FR (wC k q z g S X) 33 (q 33) 4 6 (q 37) := ⟨_, rfl, rfl⟩
theorem fiC_53 {k : Nat → ClassId} {q z : Nat → Nat} {g : Nat → Option Nat} {X : va_W} : FI (fun S => wC k q z g S X) 33 (q 33) 4 0 53 := ⟨_, fun _ => rfl, fun _ => rfl, fun _ _ => rfl, fun _ => Nat.le_of_ble_eq_true rfl⟩
theorem fiC_54 {k : Nat → ClassId} {q z : Nat → Nat} {g : Nat → Option Nat} {X : va_W} : FI (fun S => wC k q z g S X) 33 (q 33) 4 1 54 := ⟨_, fun _ => rfl, fun _ => rfl, fun _ _ => rfl, fun _ => Nat.le_of_ble_eq_true rfl⟩
theorem fiC_55 {k : Nat → ClassId} {q z : Nat → Nat} {g : Nat → Option Nat} {X : va_W} : FI (fun S => wC k q z g S X) 33 (q 33) 4 2 55 := ⟨_, fun _ => rfl, fun _ => rfl, fun _ _ => rfl, fun _ => Nat.le_of_ble_eq_true rfl⟩
theorem aiC_3 {k : Nat → ClassId} {q z : Nat → Nat} {g : Nat → Option Nat} {X : va_W} : AI (fun S => wC k q z g S X) 3 (q 3) (k 0) 6 3 := ⟨fun _ => rfl, fun _ _ => rfl, Nat.le_of_ble_eq_true rfl⟩
theorem aiC_4 {k : Nat → ClassId} {q z : Nat → Nat} {g : Nat → Option Nat} {X : va_W} : AI (fun S => wC k q z g S X) 4 (q 4) (k 0) 6 4 := ⟨fun _ => rfl, fun _ _ => rfl, Nat.le_of_ble_eq_true rfl⟩
theorem aiC_5 {k : Nat → ClassId} {q z : Nat → Nat} {g : Nat → Option Nat} {X : va_W} : AI (fun S => wC k q z g S X) 5 (q 5) (k 0) 6 5 := ⟨fun _ => rfl, fun _ _ => rfl, Nat.le_of_ble_eq_true rfl⟩
theorem aiC_6 {k : Nat → ClassId} {q z : Nat → Nat} {g : Nat → Option Nat} {X : va_W} : AI (fun S => wC k q z g S X) 6 (q 6) (k 0) 6 6 := ⟨fun _ => rfl, fun _ _ => rfl, Nat.le_of_ble_eq_true rfl⟩
theorem aiC_12 {k : Nat → ClassId} {q z : Nat → Nat} {g : Nat → Option Nat} {X : va_W} : AI (fun S => wC k q z g S X) 12 (q 12) (k 0) 4 12 := ⟨fun _ => rfl, fun _ _ => rfl, Nat.le_of_ble_eq_true rfl⟩
theorem aiC_13 {k : Nat → ClassId} {q z : Nat → Nat} {g : Nat → Option Nat} {X : va_W} : AI (fun S => wC k q z g S X) 13 (q 13) (k 0) 2 13 := ⟨fun _ => rfl, fun _ _ => rfl, Nat.le_of_ble_eq_true rfl⟩
theorem aiC_14 {k : Nat → ClassId} {q z : Nat → Nat} {g : Nat → Option Nat} {X : va_W} : AI (fun S => wC k q z g S X) 14 (q 14) (k 0) 2 14 := ⟨fun _ => rfl, fun _ _ => rfl, Nat.le_of_ble_eq_true rfl⟩
theorem aiC_15 {k : Nat → ClassId} {q z : Nat → Nat} {g : Nat → Option Nat} {X : va_W} : AI (fun S => wC k q z g S X) 15 (q 15) (k 0) 8 15 := ⟨fun _ => rfl, fun _ _ => rfl, Nat.le_of_ble_eq_true rfl⟩
theorem aiC_16 {k : Nat → ClassId} {q z : Nat → Nat} {g : Nat → Option Nat} {X : va_W} : AI (fun S => wC k q z g S X) 16 (q 16) (k 0) 8 16 := ⟨fun _ => rfl, fun _ _ => rfl, Nat.le_of_ble_eq_true rfl⟩
theorem aiC_18 {k : Nat → ClassId} {q z : Nat → Nat} {g : Nat → Option Nat} {X : va_W} : AI (fun S => wC k q z g S X) 18 (q 18) (k 0) 50 18 := ⟨fun _ => rfl, fun _ _ => rfl, Nat.le_of_ble_eq_true rfl⟩
theorem aiC_22 {k : Nat → ClassId} {q z : Nat → Nat} {g : Nat → Option Nat} {X : va_W} : AI (fun S => wC k q z g S X) 22 (q 22) (k 0) 6 22 := ⟨fun _ => rfl, fun _ _ => rfl, Nat.le_of_ble_eq_true rfl⟩
theorem aiC_34 {k : Nat → ClassId} {q z : Nat → Nat} {g : Nat → Option Nat} {X : va_W} : AI (fun S => wC k q z g S X) 34 (q 34) (k 0) 8 34 := ⟨fun _ => rfl, fun _ _ => rfl, Nat.le_of_ble_eq_true rfl⟩
theorem aiC_35 {k : Nat → ClassId} {q z : Nat → Nat} {g : Nat → Option Nat} {X : va_W} : AI (fun S => wC k q z g S X) 35 (q 35) (k 0) 16 35 := ⟨fun _ => rfl, fun _ _ => rfl, Nat.le_of_ble_eq_true rfl⟩
theorem aiC_36 {k : Nat → ClassId} {q z : Nat → Nat} {g : Nat → Option Nat} {X : va_W} : AI (fun S => wC k q z g S X) 36 (q 36) (k 0) 16 36 := ⟨fun _ => rfl, fun _ _ => rfl, Nat.le_of_ble_eq_true rfl⟩
theorem aiC_37 {k : Nat → ClassId} {q z : Nat → Nat} {g : Nat → Option Nat} {X : va_W} : AI (fun S => wC k q z g S X) 37 (q 37) (k 0) 8 37 := ⟨fun _ => rfl, fun _ _ => rfl, Nat.le_of_ble_eq_true rfl⟩
theorem aiC_30 {k : Nat → ClassId} {q z : Nat → Nat} {g : Nat → Option Nat} {X : va_W} : AI (fun S => wC k q z g S X) 30 (q 30) (k 1) 36 30 := ⟨fun _ => rfl, fun _ _ => rfl, Nat.le_of_ble_eq_true rfl⟩
theorem aiC_20 {k : Nat → ClassId} {q z : Nat → Nat} {g : Nat → Option Nat} {X : va_W} (h : z 0 < 2 ^ 31) : AI (fun S => wC k q z g S X) 20 (z 2) (k 0) (z 0) 20 := ⟨fun _ => rfl, fun _ _ => rfl, h⟩
theorem aiC_21 {k : Nat → ClassId} {q z : Nat → Nat} {g : Nat → Option Nat} {X : va_W} (h : z 1 < 2 ^ 31) : AI (fun S => wC k q z g S X) 21 (z 3) (k 0) (z 1) 21 := ⟨fun _ => rfl, fun _ _ => rfl, h⟩
theorem aiC_slip {k : Nat → ClassId} {q z : Nat → Nat} {g : Nat → Option Nat} {X : va_W} : ∀ {j : Nat}, j < 4 → AI (fun S => wC k q z g S X) (8 + j) (q (8 + j)) (k 0) 4 (8 + j)
  | 0, _ => ⟨fun _ => rfl, fun _ _ => rfl, Nat.le_of_ble_eq_true rfl⟩
  | 1, _ => ⟨fun _ => rfl, fun _ _ => rfl, Nat.le_of_ble_eq_true rfl⟩
  | 2, _ => ⟨fun _ => rfl, fun _ _ => rfl, Nat.le_of_ble_eq_true rfl⟩
  | 3, _ => ⟨fun _ => rfl, fun _ _ => rfl, Nat.le_of_ble_eq_true rfl⟩
  | j + 4, h => absurd h (by omega)
theorem aiC_trc {k : Nat → ClassId} {q z : Nat → Nat} {g : Nat → Option Nat} {X : va_W} : ∀ {j : Nat}, j < 6 → AI (fun S => wC k q z g S X) (24 + j) (q (24 + j)) (k 0) 6 (24 + j)
  | 0, _ => ⟨fun _ => rfl, fun _ _ => rfl, Nat.le_of_ble_eq_true rfl⟩
  | 1, _ => ⟨fun _ => rfl, fun _ _ => rfl, Nat.le_of_ble_eq_true rfl⟩
  | 2, _ => ⟨fun _ => rfl, fun _ _ => rfl, Nat.le_of_ble_eq_true rfl⟩
  | 3, _ => ⟨fun _ => rfl, fun _ _ => rfl, Nat.le_of_ble_eq_true rfl⟩
  | 4, _ => ⟨fun _ => rfl, fun _ _ => rfl, Nat.le_of_ble_eq_true rfl⟩
  | 5, _ => ⟨fun _ => rfl, fun _ _ => rfl, Nat.le_of_ble_eq_true rfl⟩
  | j + 6, h => absurd h (by omega)
/-- a grid: its outer array, its rows' addresses -/
def GI (k : Nat → ClassId) (w : va_W) (p0 a n : Nat) (b : Nat → Nat) : Prop := w[p0]? = some (a, .inl (k 2, n, .inr (.inr (.inr (.inr (fun i => if i < n then some (b i) else none)))))) ∧ n < 2 ^ 31
theorem giC_7 {k : Nat → ClassId} {q z : Nat → Nat} {g : Nat → Option Nat} {S : St} {X : va_W} : GI k (wC k q z g S X) 7 (q 7) 4 (fun i => q (8 + i)) := ⟨rfl, Nat.le_of_ble_eq_true rfl⟩
theorem giC_23 {k : Nat → ClassId} {q z : Nat → Nat} {g : Nat → Option Nat} {S : St} {X : va_W} : GI k (wC k q z g S X) 23 (q 23) 6 (fun i => q (24 + i)) := ⟨rfl, Nat.le_of_ble_eq_true rfl⟩
/-! ===== the reference's cells: the object at q 30, its arrays at the numbers of their fields ===== -/
def wM (k : Nat → ClassId) (q : Nat → Nat) (S : St) (X : va_W) : va_W :=
  (q 30, .inr (7, [.int (S 0 0), .ref (q 1), .ref (q 2), .ref (q 3), .ref (q 4), .ref (q 5), .int (S 6 0), .ref (q 7), .int (S 8 0), .ref (q 9), .ref (q 10), .ref (q 11), .ref (q 12), .int (S 13 0), .ref (q 14), .int (S 15 0), .ref (q 16), .ref (q 17), .int (S 18 0), .ref (q 19), .ref (q 20), .ref (q 21), .int (S 22 0), .int (S 23 0), .int (S 24 0), .int (S 25 0), .int (S 26 0), .int (S 27 0), .ref (q 28), .ref (q 29)])) ::
  (q 1, .inl (k 0, 6, .inl (S 1))) :: (q 2, .inl (k 0, 6, .inl (S 2))) :: (q 3, .inl (k 0, 6, .inl (S 3))) :: (q 4, .inl (k 0, 6, .inl (S 4))) ::
  (q 5, .inl (k 0, 4, .inl (S 5))) :: (q 7, .inl (k 0, 50, .inl (S 7))) :: (q 9, .inl (k 0, 50, .inl (S 9))) :: (q 10, .inl (k 0, 4, .inl (S 10))) ::
  (q 11, .inl (k 0, 8, .inl (S 11))) :: (q 12, .inl (k 0, 8, .inl (S 12))) :: (q 14, .inl (k 0, 8, .inl (S 14))) :: (q 16, .inl (k 0, 16, .inl (S 16))) ::
  (q 17, .inl (k 0, 16, .inl (S 17))) :: (q 19, .inl (k 0, 16, .inl (S 19))) :: (q 20, .inl (k 0, 42, .inl (S 20))) :: (q 21, .inl (k 0, 6, .inl (S 21))) ::
  (q 28, .inl (k 0, 220, .inl (S 28))) :: (q 29, .inl (k 1, 2, .inl (S 29))) :: X
theorem obM {k : Nat → ClassId} {q : Nat → Nat} {S : St} {X : va_W} : OB (wM k q S X) 0 (q 30) 7 := ⟨_, rfl⟩
theorem fiM_0 {k : Nat → ClassId} {q : Nat → Nat} {X : va_W} : FI (fun S => wM k q S X) 0 (q 30) 7 0 0 := ⟨_, fun _ => rfl, fun _ => rfl, fun _ _ => rfl, fun _ => Nat.le_of_ble_eq_true rfl⟩
theorem frM_1 {k : Nat → ClassId} {q : Nat → Nat} {S : St} {X : va_W} : FR (wM k q S X) 0 (q 30) 7 1 (q 1) := ⟨_, rfl, rfl⟩
theorem aiM_1 {k : Nat → ClassId} {q : Nat → Nat} {X : va_W} : AI (fun S => wM k q S X) 1 (q 1) (k 0) 6 1 := ⟨fun _ => rfl, fun _ _ => rfl, Nat.le_of_ble_eq_true rfl⟩
theorem frM_2 {k : Nat → ClassId} {q : Nat → Nat} {S : St} {X : va_W} : FR (wM k q S X) 0 (q 30) 7 2 (q 2) := ⟨_, rfl, rfl⟩
theorem aiM_2 {k : Nat → ClassId} {q : Nat → Nat} {X : va_W} : AI (fun S => wM k q S X) 2 (q 2) (k 0) 6 2 := ⟨fun _ => rfl, fun _ _ => rfl, Nat.le_of_ble_eq_true rfl⟩
theorem frM_3 {k : Nat → ClassId} {q : Nat → Nat} {S : St} {X : va_W} : FR (wM k q S X) 0 (q 30) 7 3 (q 3) := ⟨_, rfl, rfl⟩
theorem aiM_3 {k : Nat → ClassId} {q : Nat → Nat} {X : va_W} : AI (fun S => wM k q S X) 3 (q 3) (k 0) 6 3 := ⟨fun _ => rfl, fun _ _ => rfl, Nat.le_of_ble_eq_true rfl⟩
theorem frM_4 {k : Nat → ClassId} {q : Nat → Nat} {S : St} {X : va_W} : FR (wM k q S X) 0 (q 30) 7 4 (q 4) := ⟨_, rfl, rfl⟩
theorem aiM_4 {k : Nat → ClassId} {q : Nat → Nat} {X : va_W} : AI (fun S => wM k q S X) 4 (q 4) (k 0) 6 4 := ⟨fun _ => rfl, fun _ _ => rfl, Nat.le_of_ble_eq_true rfl⟩
theorem frM_5 {k : Nat → ClassId} {q : Nat → Nat} {S : St} {X : va_W} : FR (wM k q S X) 0 (q 30) 7 5 (q 5) := ⟨_, rfl, rfl⟩
theorem aiM_5 {k : Nat → ClassId} {q : Nat → Nat} {X : va_W} : AI (fun S => wM k q S X) 5 (q 5) (k 0) 4 5 := ⟨fun _ => rfl, fun _ _ => rfl, Nat.le_of_ble_eq_true rfl⟩
theorem fiM_6 {k : Nat → ClassId} {q : Nat → Nat} {X : va_W} : FI (fun S => wM k q S X) 0 (q 30) 7 6 6 := ⟨_, fun _ => rfl, fun _ => rfl, fun _ _ => rfl, fun _ => Nat.le_of_ble_eq_true rfl⟩
theorem frM_7 {k : Nat → ClassId} {q : Nat → Nat} {S : St} {X : va_W} : FR (wM k q S X) 0 (q 30) 7 7 (q 7) := ⟨_, rfl, rfl⟩
theorem aiM_7 {k : Nat → ClassId} {q : Nat → Nat} {X : va_W} : AI (fun S => wM k q S X) 6 (q 7) (k 0) 50 7 := ⟨fun _ => rfl, fun _ _ => rfl, Nat.le_of_ble_eq_true rfl⟩
theorem fiM_8 {k : Nat → ClassId} {q : Nat → Nat} {X : va_W} : FI (fun S => wM k q S X) 0 (q 30) 7 8 8 := ⟨_, fun _ => rfl, fun _ => rfl, fun _ _ => rfl, fun _ => Nat.le_of_ble_eq_true rfl⟩
theorem frM_9 {k : Nat → ClassId} {q : Nat → Nat} {S : St} {X : va_W} : FR (wM k q S X) 0 (q 30) 7 9 (q 9) := ⟨_, rfl, rfl⟩
theorem aiM_9 {k : Nat → ClassId} {q : Nat → Nat} {X : va_W} : AI (fun S => wM k q S X) 7 (q 9) (k 0) 50 9 := ⟨fun _ => rfl, fun _ _ => rfl, Nat.le_of_ble_eq_true rfl⟩
theorem frM_10 {k : Nat → ClassId} {q : Nat → Nat} {S : St} {X : va_W} : FR (wM k q S X) 0 (q 30) 7 10 (q 10) := ⟨_, rfl, rfl⟩
theorem aiM_10 {k : Nat → ClassId} {q : Nat → Nat} {X : va_W} : AI (fun S => wM k q S X) 8 (q 10) (k 0) 4 10 := ⟨fun _ => rfl, fun _ _ => rfl, Nat.le_of_ble_eq_true rfl⟩
theorem frM_11 {k : Nat → ClassId} {q : Nat → Nat} {S : St} {X : va_W} : FR (wM k q S X) 0 (q 30) 7 11 (q 11) := ⟨_, rfl, rfl⟩
theorem aiM_11 {k : Nat → ClassId} {q : Nat → Nat} {X : va_W} : AI (fun S => wM k q S X) 9 (q 11) (k 0) 8 11 := ⟨fun _ => rfl, fun _ _ => rfl, Nat.le_of_ble_eq_true rfl⟩
theorem frM_12 {k : Nat → ClassId} {q : Nat → Nat} {S : St} {X : va_W} : FR (wM k q S X) 0 (q 30) 7 12 (q 12) := ⟨_, rfl, rfl⟩
theorem aiM_12 {k : Nat → ClassId} {q : Nat → Nat} {X : va_W} : AI (fun S => wM k q S X) 10 (q 12) (k 0) 8 12 := ⟨fun _ => rfl, fun _ _ => rfl, Nat.le_of_ble_eq_true rfl⟩
theorem fiM_13 {k : Nat → ClassId} {q : Nat → Nat} {X : va_W} : FI (fun S => wM k q S X) 0 (q 30) 7 13 13 := ⟨_, fun _ => rfl, fun _ => rfl, fun _ _ => rfl, fun _ => Nat.le_of_ble_eq_true rfl⟩
theorem frM_14 {k : Nat → ClassId} {q : Nat → Nat} {S : St} {X : va_W} : FR (wM k q S X) 0 (q 30) 7 14 (q 14) := ⟨_, rfl, rfl⟩
theorem aiM_14 {k : Nat → ClassId} {q : Nat → Nat} {X : va_W} : AI (fun S => wM k q S X) 11 (q 14) (k 0) 8 14 := ⟨fun _ => rfl, fun _ _ => rfl, Nat.le_of_ble_eq_true rfl⟩
theorem fiM_15 {k : Nat → ClassId} {q : Nat → Nat} {X : va_W} : FI (fun S => wM k q S X) 0 (q 30) 7 15 15 := ⟨_, fun _ => rfl, fun _ => rfl, fun _ _ => rfl, fun _ => Nat.le_of_ble_eq_true rfl⟩
theorem frM_16 {k : Nat → ClassId} {q : Nat → Nat} {S : St} {X : va_W} : FR (wM k q S X) 0 (q 30) 7 16 (q 16) := ⟨_, rfl, rfl⟩
theorem aiM_16 {k : Nat → ClassId} {q : Nat → Nat} {X : va_W} : AI (fun S => wM k q S X) 12 (q 16) (k 0) 16 16 := ⟨fun _ => rfl, fun _ _ => rfl, Nat.le_of_ble_eq_true rfl⟩
theorem frM_17 {k : Nat → ClassId} {q : Nat → Nat} {S : St} {X : va_W} : FR (wM k q S X) 0 (q 30) 7 17 (q 17) := ⟨_, rfl, rfl⟩
theorem aiM_17 {k : Nat → ClassId} {q : Nat → Nat} {X : va_W} : AI (fun S => wM k q S X) 13 (q 17) (k 0) 16 17 := ⟨fun _ => rfl, fun _ _ => rfl, Nat.le_of_ble_eq_true rfl⟩
theorem fiM_18 {k : Nat → ClassId} {q : Nat → Nat} {X : va_W} : FI (fun S => wM k q S X) 0 (q 30) 7 18 18 := ⟨_, fun _ => rfl, fun _ => rfl, fun _ _ => rfl, fun _ => Nat.le_of_ble_eq_true rfl⟩
theorem frM_19 {k : Nat → ClassId} {q : Nat → Nat} {S : St} {X : va_W} : FR (wM k q S X) 0 (q 30) 7 19 (q 19) := ⟨_, rfl, rfl⟩
theorem aiM_19 {k : Nat → ClassId} {q : Nat → Nat} {X : va_W} : AI (fun S => wM k q S X) 14 (q 19) (k 0) 16 19 := ⟨fun _ => rfl, fun _ _ => rfl, Nat.le_of_ble_eq_true rfl⟩
theorem frM_20 {k : Nat → ClassId} {q : Nat → Nat} {S : St} {X : va_W} : FR (wM k q S X) 0 (q 30) 7 20 (q 20) := ⟨_, rfl, rfl⟩
theorem aiM_20 {k : Nat → ClassId} {q : Nat → Nat} {X : va_W} : AI (fun S => wM k q S X) 15 (q 20) (k 0) 42 20 := ⟨fun _ => rfl, fun _ _ => rfl, Nat.le_of_ble_eq_true rfl⟩
theorem frM_21 {k : Nat → ClassId} {q : Nat → Nat} {S : St} {X : va_W} : FR (wM k q S X) 0 (q 30) 7 21 (q 21) := ⟨_, rfl, rfl⟩
theorem aiM_21 {k : Nat → ClassId} {q : Nat → Nat} {X : va_W} : AI (fun S => wM k q S X) 16 (q 21) (k 0) 6 21 := ⟨fun _ => rfl, fun _ _ => rfl, Nat.le_of_ble_eq_true rfl⟩
theorem fiM_22 {k : Nat → ClassId} {q : Nat → Nat} {X : va_W} : FI (fun S => wM k q S X) 0 (q 30) 7 22 22 := ⟨_, fun _ => rfl, fun _ => rfl, fun _ _ => rfl, fun _ => Nat.le_of_ble_eq_true rfl⟩
theorem fiM_23 {k : Nat → ClassId} {q : Nat → Nat} {X : va_W} : FI (fun S => wM k q S X) 0 (q 30) 7 23 23 := ⟨_, fun _ => rfl, fun _ => rfl, fun _ _ => rfl, fun _ => Nat.le_of_ble_eq_true rfl⟩
theorem fiM_24 {k : Nat → ClassId} {q : Nat → Nat} {X : va_W} : FI (fun S => wM k q S X) 0 (q 30) 7 24 24 := ⟨_, fun _ => rfl, fun _ => rfl, fun _ _ => rfl, fun _ => Nat.le_of_ble_eq_true rfl⟩
theorem fiM_25 {k : Nat → ClassId} {q : Nat → Nat} {X : va_W} : FI (fun S => wM k q S X) 0 (q 30) 7 25 25 := ⟨_, fun _ => rfl, fun _ => rfl, fun _ _ => rfl, fun _ => Nat.le_of_ble_eq_true rfl⟩
theorem fiM_26 {k : Nat → ClassId} {q : Nat → Nat} {X : va_W} : FI (fun S => wM k q S X) 0 (q 30) 7 26 26 := ⟨_, fun _ => rfl, fun _ => rfl, fun _ _ => rfl, fun _ => Nat.le_of_ble_eq_true rfl⟩
theorem fiM_27 {k : Nat → ClassId} {q : Nat → Nat} {X : va_W} : FI (fun S => wM k q S X) 0 (q 30) 7 27 27 := ⟨_, fun _ => rfl, fun _ => rfl, fun _ _ => rfl, fun _ => Nat.le_of_ble_eq_true rfl⟩
theorem frM_28 {k : Nat → ClassId} {q : Nat → Nat} {S : St} {X : va_W} : FR (wM k q S X) 0 (q 30) 7 28 (q 28) := ⟨_, rfl, rfl⟩
theorem aiM_28 {k : Nat → ClassId} {q : Nat → Nat} {X : va_W} : AI (fun S => wM k q S X) 17 (q 28) (k 0) 220 28 := ⟨fun _ => rfl, fun _ _ => rfl, Nat.le_of_ble_eq_true rfl⟩
theorem frM_29 {k : Nat → ClassId} {q : Nat → Nat} {S : St} {X : va_W} : FR (wM k q S X) 0 (q 30) 7 29 (q 29) := ⟨_, rfl, rfl⟩
theorem aiM_29 {k : Nat → ClassId} {q : Nat → Nat} {X : va_W} : AI (fun S => wM k q S X) 18 (q 29) (k 1) 2 29 := ⟨fun _ => rfl, fun _ _ => rfl, Nat.le_of_ble_eq_true rfl⟩
section XG
variable {p : Program} {l : Launch} {e : Env} {R : Room} {s : State} {m : MethodId} {args : Array Value} {below : List Frame} {meth : Method} {c : Code} {H : Heap} {locs : List Loc} {cells slots : Nat} {Q : State → Prop}
variable {cc : ByteArray} {pc : Nat} {ls : Array Slot} {rest : List Value} {D : va_G} {k : Nat → ClassId} {A : Nat → Prop} {nL d mc ms : Nat} {own : String} {H0 : Heap}
theorem x_grow {w : va_W} {p0 a n : Nat} {b : Nat → Nat} {i : Int32} (ha : GI k w p0 a n b) (F : Fx p R s m args c cc nL own D k d mc ms) (hw : Wd D A H0 H locs w) (i' : Nat) (hi : i = nI i') (hlt : i' < n) (hdg : decode cc pc = .ok (.aaload, 1))
    (kk : W p l e R s m args below meth c H locs cells slots Q (F0 m (pc + 1) ls (.ref (b i') :: rest))) : W p l e R s m args below meth c H locs cells slots Q (F0 m pc ls (.int i :: .ref a :: rest)) :=
  x_gald p0 ha.1 ha.2 F hw i' hi hlt (if_pos hlt) hdg kk
/-- branches between small numbers: as naturals -/
theorem x_icmp_lt (a b : Nat) (F : Fx p R s m args c cc nL own D k d mc ms) (ha : a < 2 ^ 31) (hb : b < 2 ^ 31) {off : Int} {tgt : Nat} (hdg : decode cc pc = .ok (.if_icmp .lt off, 3)) (ht : (pc : Int) + off = (tgt : Int)) (kt : a < b → W p l e R s m args below meth c H locs cells slots Q (F0 m tgt ls rest)) (kf : b ≤ a → W p l e R s m args below meth c H locs cells slots Q (F0 m (pc + 3) ls rest)) : W p l e R s m args below meth c H locs cells slots Q (F0 m pc ls (.int (nI b) :: .int (nI a) :: rest)) :=
  lv_icmp_lt F.1.1 F.1.2 hdg ht (fun h => kt ((nI_ltI ha hb).mp h)) (fun h => kf (Nat.le_of_not_lt fun q => h ((nI_ltI ha hb).mpr q)))
theorem x_icmp_ge (a b : Nat) (F : Fx p R s m args c cc nL own D k d mc ms) (ha : a < 2 ^ 31) (hb : b < 2 ^ 31) {off : Int} {tgt : Nat} (hdg : decode cc pc = .ok (.if_icmp .ge off, 3)) (ht : (pc : Int) + off = (tgt : Int)) (kt : b ≤ a → W p l e R s m args below meth c H locs cells slots Q (F0 m tgt ls rest)) (kf : a < b → W p l e R s m args below meth c H locs cells slots Q (F0 m (pc + 3) ls rest)) : W p l e R s m args below meth c H locs cells slots Q (F0 m pc ls (.int (nI b) :: .int (nI a) :: rest)) :=
  lv_icmp_ge F.1.1 F.1.2 hdg ht (fun h => kt ((nI_leI hb ha).mp h)) (fun h => kf (Nat.lt_of_not_le fun q => h ((nI_leI hb ha).mpr q)))
theorem x_icmp_gt (a b : Nat) (F : Fx p R s m args c cc nL own D k d mc ms) (ha : a < 2 ^ 31) (hb : b < 2 ^ 31) {off : Int} {tgt : Nat} (hdg : decode cc pc = .ok (.if_icmp .gt off, 3)) (ht : (pc : Int) + off = (tgt : Int)) (kt : b < a → W p l e R s m args below meth c H locs cells slots Q (F0 m tgt ls rest)) (kf : a ≤ b → W p l e R s m args below meth c H locs cells slots Q (F0 m (pc + 3) ls rest)) : W p l e R s m args below meth c H locs cells slots Q (F0 m pc ls (.int (nI b) :: .int (nI a) :: rest)) :=
  lv_icmp_gt F.1.1 F.1.2 hdg ht (fun h => kt ((nI_ltI hb ha).mp h)) (fun h => kf (Nat.le_of_not_lt fun q => h ((nI_ltI hb ha).mpr q)))
theorem x_icmp_le (a b : Nat) (F : Fx p R s m args c cc nL own D k d mc ms) (ha : a < 2 ^ 31) (hb : b < 2 ^ 31) {off : Int} {tgt : Nat} (hdg : decode cc pc = .ok (.if_icmp .le off, 3)) (ht : (pc : Int) + off = (tgt : Int)) (kt : a ≤ b → W p l e R s m args below meth c H locs cells slots Q (F0 m tgt ls rest)) (kf : b < a → W p l e R s m args below meth c H locs cells slots Q (F0 m (pc + 3) ls rest)) : W p l e R s m args below meth c H locs cells slots Q (F0 m pc ls (.int (nI b) :: .int (nI a) :: rest)) :=
  lv_icmp_le F.1.1 F.1.2 hdg ht (fun h => kt ((nI_leI ha hb).mp h)) (fun h => kf (Nat.lt_of_not_le fun q => h ((nI_leI ha hb).mpr q)))
theorem x_icmp_eq (a b : Nat) (F : Fx p R s m args c cc nL own D k d mc ms) (ha : a < 2 ^ 31) (hb : b < 2 ^ 31) {off : Int} {tgt : Nat} (hdg : decode cc pc = .ok (.if_icmp .eq off, 3)) (ht : (pc : Int) + off = (tgt : Int)) (kt : a = b → W p l e R s m args below meth c H locs cells slots Q (F0 m tgt ls rest)) (kf : ¬ a = b → W p l e R s m args below meth c H locs cells slots Q (F0 m (pc + 3) ls rest)) : W p l e R s m args below meth c H locs cells slots Q (F0 m pc ls (.int (nI b) :: .int (nI a) :: rest)) :=
  lv_icmp_eq F.1.1 F.1.2 hdg ht (fun h => kt ((nI_eq ha hb).mp h)) (fun h => kf fun q => h ((nI_eq ha hb).mpr q))
theorem x_icmp_ne (a b : Nat) (F : Fx p R s m args c cc nL own D k d mc ms) (ha : a < 2 ^ 31) (hb : b < 2 ^ 31) {off : Int} {tgt : Nat} (hdg : decode cc pc = .ok (.if_icmp .ne off, 3)) (ht : (pc : Int) + off = (tgt : Int)) (kt : ¬ a = b → W p l e R s m args below meth c H locs cells slots Q (F0 m tgt ls rest)) (kf : a = b → W p l e R s m args below meth c H locs cells slots Q (F0 m (pc + 3) ls rest)) : W p l e R s m args below meth c H locs cells slots Q (F0 m pc ls (.int (nI b) :: .int (nI a) :: rest)) :=
  lv_icmp_ne F.1.1 F.1.2 hdg ht (fun h => kt fun q => h ((nI_eq ha hb).mpr q)) (fun h => kf ((nI_eq ha hb).mp h))
theorem x_if_eq (a : Nat) (F : Fx p R s m args c cc nL own D k d mc ms) (ha : a < 2 ^ 31) {off : Int} {tgt : Nat} (hdg : decode cc pc = .ok (.ifCond .eq off, 3)) (ht : (pc : Int) + off = (tgt : Int)) (kt : a = 0 → W p l e R s m args below meth c H locs cells slots Q (F0 m tgt ls rest)) (kf : ¬ a = 0 → W p l e R s m args below meth c H locs cells slots Q (F0 m (pc + 3) ls rest)) : W p l e R s m args below meth c H locs cells slots Q (F0 m pc ls (.int (nI a) :: rest)) :=
  lv_if_eq F.1.1 F.1.2 hdg ht (fun h => kt ((nI_eq ha (by decide)).mp (h.trans nI_0.symm))) (fun h => kf fun q => h (by rw [q]; exact nI_0))
theorem x_if_ne (a : Nat) (F : Fx p R s m args c cc nL own D k d mc ms) (ha : a < 2 ^ 31) {off : Int} {tgt : Nat} (hdg : decode cc pc = .ok (.ifCond .ne off, 3)) (ht : (pc : Int) + off = (tgt : Int)) (kt : ¬ a = 0 → W p l e R s m args below meth c H locs cells slots Q (F0 m tgt ls rest)) (kf : a = 0 → W p l e R s m args below meth c H locs cells slots Q (F0 m (pc + 3) ls rest)) : W p l e R s m args below meth c H locs cells slots Q (F0 m pc ls (.int (nI a) :: rest)) :=
  lv_if_ne F.1.1 F.1.2 hdg ht (fun h => kt fun q => h (by rw [q]; exact nI_0)) (fun h => kf ((nI_eq ha (by decide)).mp (h.trans nI_0.symm)))
theorem x_cs {mc' ms' : Nat} (F : Fx p R s m args c cc nL own D k d mc ms) (h1 : cells + mc' ≤ mc) (h2 : slots + ms' ≤ ms) : cells + mc' ≤ R.cells ∧ slots + ms' ≤ R.slots := ⟨Nat.le_trans h1 F.2.2.2.2.2.1, Nat.le_trans h2 F.2.2.2.2.2.2⟩
theorem x_ldc {idx : Nat} {v : Int32} (F : Fx p R s m args c cc nL own D k d mc ms) (h : Cond.constant own idx v ∈ gT) (hdg : decode cc pc = .ok (.ldc idx, 2)) (kk : W p l e R s m args below meth c H locs cells slots Q (F0 m (pc + 2) ls (.int v :: rest))) : W p l e R s m args below meth c H locs cells slots Q (F0 m pc ls rest) := lv_ldc F.1.1 F.1.2 F.2.1.2.1 (F.2.1.2.2 _ h) hdg kk
end XG
theorem ld_X6_252 : Cond.constant RX6 252 (nI 65535) ∈ gT := gT_tb 270 (by decide +kernel) rfl
set_option maxRecDepth 20000 in
theorem ld_X7_73 : Cond.constant RX7 73 (nI 65535) ∈ gT := gT_tb 698 (by decide +kernel) rfl
set_option maxRecDepth 20000 in
theorem ld_X7_111 : Cond.constant RX7 111 (nI 100000000) ∈ gT := gT_tb 768 (by decide +kernel) rfl
