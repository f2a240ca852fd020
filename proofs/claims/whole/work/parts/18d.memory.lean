/-! the memory behind the constructors. Written by wip/gen/gen18.py -/
def bM1 : BM := [
  .inl (7, [.ref 1, .ref 14, .ref 27, .int 0, .ref 40, .ref 41, .ref 44, .ref 45, .ref 46, .int 0, .ref 47]),
  .inl (1, [.ref 2, .ref 3, .int 0, .int 3, .int 0, .int 0, .int 0, .int 0, .int 0, .int 0, .int 1, .int 0]),
  .inr (.inr (21, 10, [(9, 13), (8, 12), (7, 11), (6, 10), (5, 9), (4, 8), (3, 7), (2, 6), (1, 5), (0, 4)])),
  .inr (.inl (3, [(2, (-1)), (1, (-1)), (0, (-1))])),
  .inl (0, [.int 0, .int 0, .int 0, .int 0, .int 0]),
  .inl (0, [.int 0, .int 0, .int 0, .int 0, .int 0]),
  .inl (0, [.int 0, .int 0, .int 0, .int 0, .int 0]),
  .inl (0, [.int 0, .int 0, .int 0, .int 0, .int 0]),
  .inl (0, [.int 0, .int 0, .int 0, .int 0, .int 0]),
  .inl (0, [.int 0, .int 0, .int 0, .int 0, .int 0]),
  .inl (0, [.int 0, .int 0, .int 0, .int 0, .int 0]),
  .inl (0, [.int 0, .int 0, .int 0, .int 0, .int 0]),
  .inl (0, [.int 0, .int 0, .int 0, .int 0, .int 0]),
  .inl (0, [.int 0, .int 0, .int 0, .int 0, .int 0]),
  .inl (1, [.ref 15, .ref 16, .int 0, .int 3, .int 0, .int 0, .int 0, .int 0, .int 0, .int 0, .int 1, .int 0]),
  .inr (.inr (21, 10, [(9, 26), (8, 25), (7, 24), (6, 23), (5, 22), (4, 21), (3, 20), (2, 19), (1, 18), (0, 17)])),
  .inr (.inl (3, [(2, (-1)), (1, (-1)), (0, (-1))])),
  .inl (0, [.int 0, .int 0, .int 0, .int 0, .int 0]),
  .inl (0, [.int 0, .int 0, .int 0, .int 0, .int 0]),
  .inl (0, [.int 0, .int 0, .int 0, .int 0, .int 0]),
  .inl (0, [.int 0, .int 0, .int 0, .int 0, .int 0]),
  .inl (0, [.int 0, .int 0, .int 0, .int 0, .int 0]),
  .inl (0, [.int 0, .int 0, .int 0, .int 0, .int 0]),
  .inl (0, [.int 0, .int 0, .int 0, .int 0, .int 0]),
  .inl (0, [.int 0, .int 0, .int 0, .int 0, .int 0]),
  .inl (0, [.int 0, .int 0, .int 0, .int 0, .int 0]),
  .inl (0, [.int 0, .int 0, .int 0, .int 0, .int 0]),
  .inl (1, [.ref 28, .ref 29, .int 0, .int 3, .int 0, .int 0, .int 0, .int 0, .int 0, .int 0, .int 1, .int 0]),
  .inr (.inr (21, 10, [(9, 39), (8, 38), (7, 37), (6, 36), (5, 35), (4, 34), (3, 33), (2, 32), (1, 31), (0, 30)])),
  .inr (.inl (3, [(2, (-1)), (1, (-1)), (0, (-1))])),
  .inl (0, [.int 0, .int 0, .int 0, .int 0, .int 0]),
  .inl (0, [.int 0, .int 0, .int 0, .int 0, .int 0]),
  .inl (0, [.int 0, .int 0, .int 0, .int 0, .int 0]),
  .inl (0, [.int 0, .int 0, .int 0, .int 0, .int 0]),
  .inl (0, [.int 0, .int 0, .int 0, .int 0, .int 0]),
  .inl (0, [.int 0, .int 0, .int 0, .int 0, .int 0]),
  .inl (0, [.int 0, .int 0, .int 0, .int 0, .int 0]),
  .inl (0, [.int 0, .int 0, .int 0, .int 0, .int 0]),
  .inl (0, [.int 0, .int 0, .int 0, .int 0, .int 0]),
  .inl (0, [.int 0, .int 0, .int 0, .int 0, .int 0]),
  .inr (.inr (22, 15, [(14, 90), (13, 87), (12, 84), (11, 81), (10, 78), (9, 75), (8, 72), (7, 69), (6, 66), (5, 63), (4, 60), (3, 57), (2, 54), (1, 51), (0, 48)])),
  .inl (3, [.ref 42, .int (-1), .int 0, .int 0]),
  .inl (6, [.ref 43, .int 0, .int 0, .int 0, .int 0]),
  .inr (.inl (96, [])),
  .inr (.inr (23, 4, [(3, 99), (2, 97), (1, 95), (0, 93)])),
  .inr (.inr (24, 5, [(4, 117), (3, 113), (2, 109), (1, 105), (0, 101)])),
  .inr (.inl (60, [])),
  .inr (.inl (10, [])),
  .inl (2, [.ref 49, .ref 50, .int 0, .int 0, .int 0]),
  .inr (.inl (96, [])),
  .inr (.inl (48, [])),
  .inl (2, [.ref 52, .ref 53, .int 0, .int 0, .int 0]),
  .inr (.inl (96, [])),
  .inr (.inl (48, [])),
  .inl (2, [.ref 55, .ref 56, .int 0, .int 0, .int 0]),
  .inr (.inl (96, [])),
  .inr (.inl (48, [])),
  .inl (2, [.ref 58, .ref 59, .int 0, .int 0, .int 0]),
  .inr (.inl (96, [])),
  .inr (.inl (48, [])),
  .inl (2, [.ref 61, .ref 62, .int 0, .int 0, .int 0]),
  .inr (.inl (96, [])),
  .inr (.inl (48, [])),
  .inl (2, [.ref 64, .ref 65, .int 0, .int 0, .int 0]),
  .inr (.inl (96, [])),
  .inr (.inl (48, [])),
  .inl (2, [.ref 67, .ref 68, .int 0, .int 0, .int 0]),
  .inr (.inl (96, [])),
  .inr (.inl (48, [])),
  .inl (2, [.ref 70, .ref 71, .int 0, .int 0, .int 0]),
  .inr (.inl (96, [])),
  .inr (.inl (48, [])),
  .inl (2, [.ref 73, .ref 74, .int 0, .int 0, .int 0]),
  .inr (.inl (96, [])),
  .inr (.inl (48, [])),
  .inl (2, [.ref 76, .ref 77, .int 0, .int 0, .int 0]),
  .inr (.inl (96, [])),
  .inr (.inl (48, [])),
  .inl (2, [.ref 79, .ref 80, .int 0, .int 0, .int 0]),
  .inr (.inl (96, [])),
  .inr (.inl (48, [])),
  .inl (2, [.ref 82, .ref 83, .int 0, .int 0, .int 0]),
  .inr (.inl (96, [])),
  .inr (.inl (48, [])),
  .inl (2, [.ref 85, .ref 86, .int 0, .int 0, .int 0]),
  .inr (.inl (96, [])),
  .inr (.inl (48, [])),
  .inl (2, [.ref 88, .ref 89, .int 0, .int 0, .int 0]),
  .inr (.inl (96, [])),
  .inr (.inl (48, [])),
  .inl (2, [.ref 91, .ref 92, .int 0, .int 0, .int 0]),
  .inr (.inl (96, [])),
  .inr (.inl (48, [])),
  .inl (4, [.ref 94, .int (-1), .int 0]),
  .inr (.inl (24, [])),
  .inl (4, [.ref 96, .int (-1), .int 0]),
  .inr (.inl (24, [])),
  .inl (4, [.ref 98, .int (-1), .int 0]),
  .inr (.inl (24, [])),
  .inl (4, [.ref 100, .int (-1), .int 0]),
  .inr (.inl (24, [])),
  .inl (5, [.ref 102, .ref 103, .int 0, .int 0]),
  .inl (0, [.int 0, .int 0, .int 0, .int 0, .int 0]),
  .inl (4, [.ref 104, .int (-1), .int 0]),
  .inr (.inl (24, [])),
  .inl (5, [.ref 106, .ref 107, .int 0, .int 0]),
  .inl (0, [.int 0, .int 0, .int 0, .int 0, .int 0]),
  .inl (4, [.ref 108, .int (-1), .int 0]),
  .inr (.inl (24, [])),
  .inl (5, [.ref 110, .ref 111, .int 0, .int 0]),
  .inl (0, [.int 0, .int 0, .int 0, .int 0, .int 0]),
  .inl (4, [.ref 112, .int (-1), .int 0]),
  .inr (.inl (24, [])),
  .inl (5, [.ref 114, .ref 115, .int 0, .int 0]),
  .inl (0, [.int 0, .int 0, .int 0, .int 0, .int 0]),
  .inl (4, [.ref 116, .int (-1), .int 0]),
  .inr (.inl (24, [])),
  .inl (5, [.ref 118, .ref 119, .int 0, .int 0]),
  .inl (0, [.int 0, .int 0, .int 0, .int 0, .int 0]),
  .inl (4, [.ref 120, .int (-1), .int 0]),
  .inr (.inl (24, []))]
def bM2 : BM := [
  .inl (7, [.ref 1, .ref 14, .ref 27, .int 0, .ref 40, .ref 41, .ref 44, .ref 45, .ref 46, .int 0, .ref 47]),
  .inl (1, [.ref 2, .ref 3, .int 0, .int 3, .int 0, .int 0, .int 0, .int 0, .int 0, .int 0, .int 1, .int 0]),
  .inr (.inr (21, 10, [(9, 13), (8, 12), (7, 11), (6, 10), (5, 9), (4, 8), (3, 7), (2, 6), (1, 5), (0, 4)])),
  .inr (.inl (3, [(2, (-1)), (1, (-1)), (0, (-1))])),
  .inl (0, [.int 0, .int 0, .int 0, .int 0, .int 0]),
  .inl (0, [.int 0, .int 0, .int 0, .int 0, .int 0]),
  .inl (0, [.int 0, .int 0, .int 0, .int 0, .int 0]),
  .inl (0, [.int 0, .int 0, .int 0, .int 0, .int 0]),
  .inl (0, [.int 0, .int 0, .int 0, .int 0, .int 0]),
  .inl (0, [.int 0, .int 0, .int 0, .int 0, .int 0]),
  .inl (0, [.int 0, .int 0, .int 0, .int 0, .int 0]),
  .inl (0, [.int 0, .int 0, .int 0, .int 0, .int 0]),
  .inl (0, [.int 0, .int 0, .int 0, .int 0, .int 0]),
  .inl (0, [.int 0, .int 0, .int 0, .int 0, .int 0]),
  .inl (1, [.ref 15, .ref 16, .int 0, .int 3, .int 0, .int 0, .int 0, .int 0, .int 0, .int 0, .int 1, .int 0]),
  .inr (.inr (21, 10, [(9, 26), (8, 25), (7, 24), (6, 23), (5, 22), (4, 21), (3, 20), (2, 19), (1, 18), (0, 17)])),
  .inr (.inl (3, [(2, (-1)), (1, (-1)), (0, (-1))])),
  .inl (0, [.int 0, .int 0, .int 0, .int 0, .int 0]),
  .inl (0, [.int 0, .int 0, .int 0, .int 0, .int 0]),
  .inl (0, [.int 0, .int 0, .int 0, .int 0, .int 0]),
  .inl (0, [.int 0, .int 0, .int 0, .int 0, .int 0]),
  .inl (0, [.int 0, .int 0, .int 0, .int 0, .int 0]),
  .inl (0, [.int 0, .int 0, .int 0, .int 0, .int 0]),
  .inl (0, [.int 0, .int 0, .int 0, .int 0, .int 0]),
  .inl (0, [.int 0, .int 0, .int 0, .int 0, .int 0]),
  .inl (0, [.int 0, .int 0, .int 0, .int 0, .int 0]),
  .inl (0, [.int 0, .int 0, .int 0, .int 0, .int 0]),
  .inl (1, [.ref 28, .ref 29, .int 0, .int 3, .int 0, .int 0, .int 0, .int 0, .int 0, .int 0, .int 1, .int 0]),
  .inr (.inr (21, 10, [(9, 39), (8, 38), (7, 37), (6, 36), (5, 35), (4, 34), (3, 33), (2, 32), (1, 31), (0, 30)])),
  .inr (.inl (3, [(2, (-1)), (1, (-1)), (0, (-1))])),
  .inl (0, [.int 0, .int 0, .int 0, .int 0, .int 0]),
  .inl (0, [.int 0, .int 0, .int 0, .int 0, .int 0]),
  .inl (0, [.int 0, .int 0, .int 0, .int 0, .int 0]),
  .inl (0, [.int 0, .int 0, .int 0, .int 0, .int 0]),
  .inl (0, [.int 0, .int 0, .int 0, .int 0, .int 0]),
  .inl (0, [.int 0, .int 0, .int 0, .int 0, .int 0]),
  .inl (0, [.int 0, .int 0, .int 0, .int 0, .int 0]),
  .inl (0, [.int 0, .int 0, .int 0, .int 0, .int 0]),
  .inl (0, [.int 0, .int 0, .int 0, .int 0, .int 0]),
  .inl (0, [.int 0, .int 0, .int 0, .int 0, .int 0]),
  .inr (.inr (22, 15, [(14, 90), (13, 87), (12, 84), (11, 81), (10, 78), (9, 75), (8, 72), (7, 69), (6, 66), (5, 63), (4, 60), (3, 57), (2, 54), (1, 51), (0, 48)])),
  .inl (3, [.ref 42, .int (-1), .int 0, .int 0]),
  .inl (6, [.ref 43, .int 0, .int 0, .int 0, .int 0]),
  .inr (.inl (96, [])),
  .inr (.inr (23, 4, [(3, 99), (2, 97), (1, 95), (0, 93)])),
  .inr (.inr (24, 5, [(4, 117), (3, 113), (2, 109), (1, 105), (0, 101)])),
  .inr (.inl (60, [])),
  .inr (.inl (10, [])),
  .inl (2, [.ref 49, .ref 50, .int 0, .int 0, .int 0]),
  .inr (.inl (96, [])),
  .inr (.inl (48, [])),
  .inl (2, [.ref 52, .ref 53, .int 0, .int 0, .int 0]),
  .inr (.inl (96, [])),
  .inr (.inl (48, [])),
  .inl (2, [.ref 55, .ref 56, .int 0, .int 0, .int 0]),
  .inr (.inl (96, [])),
  .inr (.inl (48, [])),
  .inl (2, [.ref 58, .ref 59, .int 0, .int 0, .int 0]),
  .inr (.inl (96, [])),
  .inr (.inl (48, [])),
  .inl (2, [.ref 61, .ref 62, .int 0, .int 0, .int 0]),
  .inr (.inl (96, [])),
  .inr (.inl (48, [])),
  .inl (2, [.ref 64, .ref 65, .int 0, .int 0, .int 0]),
  .inr (.inl (96, [])),
  .inr (.inl (48, [])),
  .inl (2, [.ref 67, .ref 68, .int 0, .int 0, .int 0]),
  .inr (.inl (96, [])),
  .inr (.inl (48, [])),
  .inl (2, [.ref 70, .ref 71, .int 0, .int 0, .int 0]),
  .inr (.inl (96, [])),
  .inr (.inl (48, [])),
  .inl (2, [.ref 73, .ref 74, .int 0, .int 0, .int 0]),
  .inr (.inl (96, [])),
  .inr (.inl (48, [])),
  .inl (2, [.ref 76, .ref 77, .int 0, .int 0, .int 0]),
  .inr (.inl (96, [])),
  .inr (.inl (48, [])),
  .inl (2, [.ref 79, .ref 80, .int 0, .int 0, .int 0]),
  .inr (.inl (96, [])),
  .inr (.inl (48, [])),
  .inl (2, [.ref 82, .ref 83, .int 0, .int 0, .int 0]),
  .inr (.inl (96, [])),
  .inr (.inl (48, [])),
  .inl (2, [.ref 85, .ref 86, .int 0, .int 0, .int 0]),
  .inr (.inl (96, [])),
  .inr (.inl (48, [])),
  .inl (2, [.ref 88, .ref 89, .int 0, .int 0, .int 0]),
  .inr (.inl (96, [])),
  .inr (.inl (48, [])),
  .inl (2, [.ref 91, .ref 92, .int 0, .int 0, .int 0]),
  .inr (.inl (96, [])),
  .inr (.inl (48, [])),
  .inl (4, [.ref 94, .int (-1), .int 0]),
  .inr (.inl (24, [])),
  .inl (4, [.ref 96, .int (-1), .int 0]),
  .inr (.inl (24, [])),
  .inl (4, [.ref 98, .int (-1), .int 0]),
  .inr (.inl (24, [])),
  .inl (4, [.ref 100, .int (-1), .int 0]),
  .inr (.inl (24, [])),
  .inl (5, [.ref 102, .ref 103, .int 0, .int 0]),
  .inl (0, [.int 0, .int 0, .int 0, .int 0, .int 0]),
  .inl (4, [.ref 104, .int (-1), .int 0]),
  .inr (.inl (24, [])),
  .inl (5, [.ref 106, .ref 107, .int 0, .int 0]),
  .inl (0, [.int 0, .int 0, .int 0, .int 0, .int 0]),
  .inl (4, [.ref 108, .int (-1), .int 0]),
  .inr (.inl (24, [])),
  .inl (5, [.ref 110, .ref 111, .int 0, .int 0]),
  .inl (0, [.int 0, .int 0, .int 0, .int 0, .int 0]),
  .inl (4, [.ref 112, .int (-1), .int 0]),
  .inr (.inl (24, [])),
  .inl (5, [.ref 114, .ref 115, .int 0, .int 0]),
  .inl (0, [.int 0, .int 0, .int 0, .int 0, .int 0]),
  .inl (4, [.ref 116, .int (-1), .int 0]),
  .inr (.inl (24, [])),
  .inl (5, [.ref 118, .ref 119, .int 0, .int 0]),
  .inl (0, [.int 0, .int 0, .int 0, .int 0, .int 0]),
  .inl (4, [.ref 120, .int (-1), .int 0]),
  .inr (.inl (24, [])),
  .inl (8, [.ref 122, .ref 123, .ref 124, .int 0, .ref 125, .ref 126, .ref 127, .ref 128, .ref 129, .ref 130, .ref 131, .ref 132, .ref 133, .ref 134, .int 0, .int 0, .int 0, .int 0, .int 0, .int 0, .int 0, .int 0, .int 0, .int 0, .int 0, .ref 135, .ref 136, .ref 137, .ref 138, .int 0, .ref 139]),
  .inr (.inl (3060, [(3, 3), (9, 1)])),
  .inr (.inl (3060, [])),
  .inr (.inl (3060, [])),
  .inr (.inl (4, [(3, (-1)), (2, (-1)), (1, (-1)), (0, (-1))])),
  .inr (.inl (4, [])),
  .inr (.inl (96, [])),
  .inr (.inl (5, [])),
  .inr (.inl (5, [])),
  .inr (.inl (5, [])),
  .inr (.inl (5, [])),
  .inr (.inl (120, [])),
  .inr (.inl (60, [])),
  .inr (.inl (96, [])),
  .inr (.inl (128, [])),
  .inr (.inl (100, [])),
  .inr (.inl (24, [])),
  .inr (.inl (60, [])),
  .inr (.inl (60, []))]
def bEq (x y : BE) : Bool := match x, y with
  | .inl o, .inl o' => Nat.beq o.1 o'.1 && decide (o.2 = o'.2)
  | .inr (.inl a), .inr (.inl a') => Nat.beq a.1 a'.1 && decide (a.2 = a'.2)
  | .inr (.inr a), .inr (.inr a') => Nat.beq a.1 a'.1 && (Nat.beq a.2.1 a'.2.1 && decide (a.2.2 = a'.2.2))
  | _, _ => false
theorem bEq_ok {x y : BE} (h : bEq x y = true) : x = y := by
  unfold bEq at h
  split at h
  · rename_i o o'
    obtain ⟨a, b⟩ := o
    obtain ⟨a', b'⟩ := o'
    simp only [Bool.and_eq_true, Nat.beq_eq, decide_eq_true_eq] at h
    obtain ⟨rfl, rfl⟩ := h
    rfl
  · rename_i o o'
    obtain ⟨a, b⟩ := o
    obtain ⟨a', b'⟩ := o'
    simp only [Bool.and_eq_true, Nat.beq_eq, decide_eq_true_eq] at h
    obtain ⟨rfl, rfl⟩ := h
    rfl
  · rename_i o o'
    obtain ⟨a, b, c⟩ := o
    obtain ⟨a', b', c'⟩ := o'
    simp only [Bool.and_eq_true, Nat.beq_eq, decide_eq_true_eq] at h
    obtain ⟨rfl, rfl, rfl⟩ := h
    rfl
  · cases h
def bEqL : BM → BM → Bool
  | [], [] => true
  | x :: l, y :: l' => bEq x y && bEqL l l'
  | _, _ => false
theorem bEqL_ok : ∀ {l l' : BM}, bEqL l l' = true → l = l' := by
  intro l
  induction l with
  | nil =>
    intro l' h
    cases l' with
    | nil => rfl
    | cons y l' => cases h
  | cons x l ih =>
    intro l' h
    cases l' with
    | nil => cases h
    | cons y l' =>
      unfold bEqL at h
      simp only [Bool.and_eq_true] at h
      rw [bEq_ok h.1, ih h.2]
def bEqO (o : Option BM) (M : BM) : Bool := match o with
  | some N => bEqL N M
  | none => false
theorem bEqO_ok {o : Option BM} {M : BM} (h : bEqO o M = true) : o = some M := by
  cases o with
  | none => cases h
  | some N => rw [bEqL_ok h]
set_option maxRecDepth 100000 in
theorem bRun8c : bEqO (bRun 200 1 8 (0, 121, none, [], bM1 ++ [.inl (8, bDef 8)])) bM2 = true := by decide +kernel
theorem bRun8 : bRun 200 1 8 (0, 121, none, [], bM1 ++ [.inl (8, bDef 8)]) = some bM2 := bEqO_ok bRun8c
set_option maxRecDepth 100000 in
theorem bRun7c : bEqO (bRun 2600 3 7 (0, 0, none, [], [.inl (7, bDef 7)])) bM1 = true := by decide +kernel
theorem bRun7 : bRun 2600 3 7 (0, 0, none, [], [.inl (7, bDef 7)]) = some bM1 := bEqO_ok bRun7c
