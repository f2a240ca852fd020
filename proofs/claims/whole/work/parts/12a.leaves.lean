/-! contracts of the small methods -/
def b01 (p : Prop) [Decidable p] : Int32 := if p then 1 else 0
theorem b01_t {p : Prop} [Decidable p] (h : p) : b01 p = 1 := if_pos h
theorem b01_f {p : Prop} [Decidable p] (h : ¬ p) : b01 p = 0 := if_neg h
theorem b01_0 {p : Prop} [Decidable p] : (b01 p = 0) = ¬ p := by
  by_cases h : p
  · rw [b01_t h]; simp [h]
  · rw [b01_f h]; simp [h]
theorem ite_not' {p : Prop} [Decidable p] [Decidable (¬ p)] {A B : Prop} : (if ¬ p then A else B) = if p then B else A := by
  by_cases h : p
  · rw [if_neg (fun n => n h), if_pos h]
  · rw [if_pos h, if_neg h]
theorem ite_b01 {p : Prop} [Decidable p] {A B : Prop} : (if b01 p = 0 then A else B) = if p then B else A := by
  by_cases h : p
  · rw [b01_t h, if_pos h]; rfl
  · rw [b01_f h, if_neg h]; rfl
theorem aNar0 : aNar (some .boolean) 0 = True := eq_true (show narrow .boolean (.int 0) = .int 0 by decide +kernel)
theorem aNar1 : aNar (some .boolean) 1 = True := eq_true (show narrow .boolean (.int 1) = .int 1 by decide +kernel)
theorem aNarB {p : Prop} [Decidable p] : aNar (some .boolean) (b01 p) = True := by
  by_cases h : p
  · rw [b01_t h]; exact aNar1
  · rw [b01_f h]; exact aNar0
theorem QI {Q : Po} {I : IM} {c : Prop} [Decidable c] {x y : Int32} : Q (.int (if c then x else y)) I = if c then Q (.int x) I else Q (.int y) I := by
  by_cases h : c
  · rw [if_pos h, if_pos h]
  · rw [if_neg h, if_neg h]
theorem n2 : (¬ (2 : Int32) = 0) = True := eq_true (by decide)
theorem n10 : (¬ (10 : Int32) = 0) = True := eq_true (by decide)
theorem n100 : (¬ (100 : Int32) = 0) = True := eq_true (by decide)
section KL
variable {d : Nat} {I : IM} {Q : Po} {v a b : Int32}
theorem k108 : E (d, 108, 0, [.int v, .int a, .int b], [], I) Q ↔ Q (.int (b01 (a ≤ v ∧ v ≤ b))) I := by
  simp only [b108_0, b108_5, b108_10, b108_14, b108_15, aNar0, aNar1, true_and]
  by_cases h1 : v < a
  · rw [if_pos h1, b01_f (fun h => absurd h.1 (Int32.not_le.mpr h1))]
  · rw [if_neg h1]
    by_cases h2 : b < v
    · rw [if_pos h2, b01_f (fun h => absurd h.2 (Int32.not_le.mpr h2))]
    · rw [if_neg h2, b01_t ⟨Int32.not_lt.mp h1, Int32.not_lt.mp h2⟩]
theorem k110 : E (d + 1, 110, 0, [.int v], [], I) Q ↔ Q (.int (b01 (0 ≤ v ∧ v ≤ 5))) I := by
  simp only [b110_0, k108, b110_6, aNarB, true_and]
theorem k111 : E (d + 1, 111, 0, [.int v], [], I) Q ↔ Q (.int (b01 (0 ≤ v ∧ v ≤ 3))) I := by
  simp only [b111_0, k108, b111_6, aNarB, true_and]
theorem k112 : E (d + 1, 112, 0, [.int v], [], I) Q ↔ Q (.int (b01 (0 ≤ v ∧ v ≤ 4))) I := by
  simp only [b112_0, k108, b112_6, aNarB, true_and]
def gComes (kind steps plain many : Int32) : Int32 :=
  if kind = 1 then plain / 2 else if kind = 2 then (if 60 < steps then 0 else plain) else if kind = 3 then (if 100 < plain / 2 + 10 then 100 else plain / 2 + 10)
  else if kind = 4 then (if 100 < (if 60 < steps then 0 else plain) + many then 100 else (if 60 < steps then 0 else plain) + many) else if kind = 5 then 0 else plain
theorem k15 {c : Nat} {x y : Value} (h : aShp c = 0) : E (d + 1, 15, 0, [.ref c, .int a, .int b, x, y], [], I) Q ↔ Q (.int (gComes (I c 0) (I c 2) a b)) I := by
  simp only [b15_0 h, b15_13, b15_17, b15_18 h, b15_60, b15_62, b15_72, b15_75, b15_85, b15_87, n2, true_and]
  unfold gComes
  by_cases h60 : 60 < I c 2
  · simp only [h60, if_true, QI]
  · simp only [h60, if_false, QI]
def gWalks (kind steps : Int32) : Int32 :=
  if kind = 1 then 2 * steps else if kind = 2 then (if steps - 10 < 0 then 0 else steps - 10) else if kind = 3 then (if 2 * steps - 5 < 0 then 0 else 2 * steps - 5)
  else if kind = 4 then (if steps - 10 < 0 then 0 else steps - 10) / 2 else if kind = 5 then 99 else steps
theorem k16 {c : Nat} {x y : Value} (h : aShp c = 0) : E (d + 1, 16, 0, [.ref c, x, y], [], I) Q ↔ Q (.int (gWalks (I c 0) (I c 2))) I := by
  simp only [b16_0 h, b16_56, b16_58, b16_66, b16_68, b16_72, b16_75 h, n2, true_and]
  unfold gWalks
  simp only [QI]
def gBrings (kind wit : Int32) : Int32 :=
  if kind = 1 then wit / 10 + 5 else if kind = 2 then (if wit / 10 - 1 < 0 then 0 else wit / 10 - 1) else if kind = 3 then 2 * (wit / 10 + 5)
  else if kind = 4 then (if wit / 10 - 1 < 0 then 0 else wit / 10 - 1) + 2 else if kind = 5 then 0 else wit / 10
theorem k17 {c : Nat} {x y z : Value} (h : aShp c = 0) : E (d + 1, 17, 0, [.ref c, x, y, z], [], I) Q ↔ Q (.int (gBrings (I c 0) (I c 3))) I := by
  simp only [b17_0 h, b17_60, b17_62, b17_66, b17_68, b17_72, b17_74, n10, true_and]
  unfold gBrings
  simp only [QI]
def gWorth (kind odds steps wit times : Int32) : Int32 :=
  if kind = 1 then wit + times else if kind = 2 then 99 - steps else if kind = 3 then (wit + times) / 2 else if kind = 4 then 99 - steps + 7 else if kind = 5 then odds else wit
theorem k18 {c : Nat} {x y : Value} (h : aShp c = 0) : E (d, 18, 0, [.ref c, x, y], [], I) Q ↔ Q (.int (gWorth (I c 0) (I c 1) (I c 2) (I c 3) (I c 4))) I := by
  simp only [b18_0 h, b18_56, b18_58, b18_62, b18_64, b18_69 h, b18_74 h, n2, true_and]
  unfold gWorth
  simp only [QI]
theorem k119 {x y z : Int64} : E (d, 119, 0, [.long x, UN, .long y, UN, .long z, UN], [], I) Q ↔ Q (.int (b01 (y ≤ x ∧ x ≤ z))) I := by
  simp only [b119_0, b119_6, b119_13, b119_17, b119_18, aNar0, aNar1, true_and]
  have e1 : lg_cmp x y < 0 ↔ ¬ y ≤ x := by rw [← lg_cmp_ge x y, Int32.not_le]
  have e2 : 0 < lg_cmp x z ↔ ¬ x ≤ z := by
    unfold lg_cmp
    simp only [gt_iff_lt, Int64.lt_iff_toInt_lt, Int64.le_iff_toInt_le, ← Int64.toInt_inj]
    by_cases h1 : z.toInt < x.toInt
    · simp [h1]
    · by_cases h2 : x.toInt = z.toInt
      · simp [h2]
      · simp only [h1, h2, if_false]
        constructor
        · intro h; exact absurd h (by decide)
        · intro h; omega
  by_cases h1 : y ≤ x
  · rw [if_neg (fun h => e1.mp h h1)]
    by_cases h2 : x ≤ z
    · rw [if_neg (fun h => e2.mp h h2), b01_t ⟨h1, h2⟩]
    · rw [if_pos (e2.mpr h2), b01_f (fun h => h2 h.2)]
  · rw [if_pos (e1.mpr h1), b01_f (fun h => h1 h.1)]
end KL
