/-! the cells by number: 0 the class's object and all that it makes, 121 the reference's. Written by wip/gen/gen3.py -/
def aShpL : List Nat := [7, 1, 21, 20, 0, 0, 0, 0, 0, 0, 0, 0, 0, 0, 1, 21, 20, 0, 0, 0, 0, 0, 0, 0, 0, 0, 0, 1, 21, 20, 0, 0, 0, 0, 0, 0, 0, 0, 0, 0, 22, 3, 6, 20, 23, 24, 20, 20, 2, 20, 20, 2, 20, 20, 2, 20, 20, 2, 20, 20, 2, 20, 20, 2, 20, 20, 2, 20, 20, 2, 20, 20, 2, 20, 20, 2, 20, 20, 2, 20, 20, 2, 20, 20, 2, 20, 20, 2, 20, 20, 2, 20, 20, 4, 20, 4, 20, 4, 20, 4, 20, 5, 0, 4, 20, 5, 0, 4, 20, 5, 0, 4, 20, 5, 0, 4, 20, 5, 0, 4, 20, 8, 20, 20, 20, 20, 20, 20, 20, 20, 20, 20, 20, 20, 20, 20, 20, 20, 20, 20]
def aLenL : List Nat := [0, 0, 10, 3, 0, 0, 0, 0, 0, 0, 0, 0, 0, 0, 0, 10, 3, 0, 0, 0, 0, 0, 0, 0, 0, 0, 0, 0, 10, 3, 0, 0, 0, 0, 0, 0, 0, 0, 0, 0, 15, 0, 0, 96, 4, 5, 60, 10, 0, 96, 48, 0, 96, 48, 0, 96, 48, 0, 96, 48, 0, 96, 48, 0, 96, 48, 0, 96, 48, 0, 96, 48, 0, 96, 48, 0, 96, 48, 0, 96, 48, 0, 96, 48, 0, 96, 48, 0, 96, 48, 0, 96, 48, 0, 24, 0, 24, 0, 24, 0, 24, 0, 0, 0, 24, 0, 0, 0, 24, 0, 0, 0, 24, 0, 0, 0, 24, 0, 0, 0, 24, 0, 3060, 3060, 3060, 4, 4, 96, 5, 5, 5, 5, 120, 60, 96, 128, 100, 24, 60, 60]
def aRfL : List (List Nat) := [[1, 14, 27, 0, 40, 41, 44, 45, 46, 0, 47], [2, 3], [4, 5, 6, 7, 8, 9, 10, 11, 12, 13], [], [], [], [], [], [], [], [], [], [], [], [15, 16], [17, 18, 19, 20, 21, 22, 23, 24, 25, 26], [], [], [], [], [], [], [], [], [], [], [], [28, 29], [30, 31, 32, 33, 34, 35, 36, 37, 38, 39], [], [], [], [], [], [], [], [], [], [], [], [48, 51, 54, 57, 60, 63, 66, 69, 72, 75, 78, 81, 84, 87, 90], [42], [43], [], [93, 95, 97, 99], [101, 105, 109, 113, 117], [], [], [49, 50], [], [], [52, 53], [], [], [55, 56], [], [], [58, 59], [], [], [61, 62], [], [], [64, 65], [], [], [67, 68], [], [], [70, 71], [], [], [73, 74], [], [], [76, 77], [], [], [79, 80], [], [], [82, 83], [], [], [85, 86], [], [], [88, 89], [], [], [91, 92], [], [], [94], [], [96], [], [98], [], [100], [], [102, 103], [], [104], [], [106, 107], [], [108], [], [110, 111], [], [112], [], [114, 115], [], [116], [], [118, 119], [], [120], [], [122, 123, 124, 0, 125, 126, 127, 128, 129, 130, 131, 132, 133, 134, 0, 0, 0, 0, 0, 0, 0, 0, 0, 0, 0, 135, 136, 137, 138, 0, 139], [], [], [], [], [], [], [], [], [], [], [], [], [], [], [], [], [], []]
def aFcL : List (List Nat) := [[0, 0, 0, 0, 0], [2, 2, 0, 0, 0, 0, 0, 0, 0, 0, 0, 0], [2, 2, 0, 0, 0], [2, 0, 0, 0], [2, 0, 0], [2, 2, 0, 0], [2, 0, 0, 0, 0], [2, 2, 2, 1, 2, 2, 2, 2, 2, 0, 2], [2, 2, 2, 1, 2, 2, 2, 2, 2, 2, 2, 2, 2, 2, 0, 0, 0, 0, 0, 0, 0, 0, 0, 0, 0, 2, 2, 2, 2, 0, 2]]
def aFfL : List (List Nat) := [[0, 0, 0, 0, 0], [1, 1, 0, 0, 0, 0, 0, 0, 0, 0, 0, 0], [1, 1, 0, 0, 0], [1, 0, 0, 0], [1, 0, 0], [1, 1, 0, 0], [1, 0, 0, 0, 0], [1, 1, 1, 0, 1, 1, 1, 1, 1, 0, 1], [1, 1, 1, 0, 1, 1, 1, 1, 1, 1, 1, 1, 1, 1, 0, 0, 0, 0, 0, 0, 0, 0, 0, 0, 0, 1, 1, 1, 1, 0, 1]]
/-- what a cell is: below 9 an object of that class; 20 ints; 21 to 24 references -/
def aShp (c : Nat) : Nat := aShpL.getD c 99
def aLen (c : Nat) : Nat := aLenL.getD c 0
def aRf (c k : Nat) : Nat := (aRfL.getD c []).getD k 0
/-- a field: 0 int, 1 boolean, 2 a reference -/
def aFc (ci k : Nat) : Nat := (aFcL.getD ci []).getD k 9
def aFf (ci k : Nat) : Nat := (aFfL.getD ci []).getD k 1
def aNf (ci : Nat) : Nat := ([5, 12, 5, 4, 3, 4, 5, 11, 31] : List Nat).getD ci 0
abbrev IM : Type := Nat → Nat → Int32
/-- depth left, method, place, locals, stack, ints -/
abbrev St : Type := Nat × Nat × Nat × List Value × List Value × IM
abbrev Po : Type := Value → IM → Prop
/-- nothing is known of this local -/
abbrev UN : Value := .float 0
abbrev Tr : Type := (Prop × St) ⊕ (Prop × St × St) ⊕ (Prop × St × (Value → IM → St)) ⊕ (Prop × Value × IM)
def tJ (c : Prop) (s : St) : Tr := .inl (c, s)
def tB (c : Prop) (s1 s2 : St) : Tr := .inr (.inl (c, s1, s2))
def tC (c : Prop) (s : St) (k : Value → IM → St) : Tr := .inr (.inr (.inl (c, s, k)))
def tR (c : Prop) (v : Value) (I : IM) : Tr := .inr (.inr (.inr (c, v, I)))
def tX : Tr := tR False .null (fun _ _ => 0)
def up (I : IM) (c k : Nat) (v : Int32) : IM := fun c' => if c' = c then upd (I c) k v else I c'
def aUnder (k : Nat) : Int32 := ([-1, 0, 0, 1, 2, 0] : List Int32).getD k 0
/-- an array of ints read: of UNDER, which nobody writes, or of a cell -/
def aRd (I : IM) (c k : Nat) : Int32 := if c = 1001 then aUnder k else I c k
/-- the length of an array: the script's stands in the ints, at 1002 -/
def aAl (I : IM) (c : Nat) : Nat := if c = 1000 then (I 1002 0).toNatClampNeg else if c = 1001 then 6 else aLen c
def aIA (c : Nat) : Prop := c = 1000 ∨ c = 1001 ∨ aShp c = 20
def aBin (st : List Value) (f : Int32 → Int32 → List Value → Tr) : Tr := match st with
  | .int y :: .int x :: r => f x y r
  | _ => tX
def aUni (st : List Value) (f : Int32 → List Value → Tr) : Tr := match st with
  | .int x :: r => f x r
  | _ => tX
def aRef (st : List Value) (f : Nat → List Value → Tr) : Tr := match st with
  | .ref x :: r => f x r
  | _ => tX
def aLdI (ls : List Value) (k : Nat) (f : Int32 → Tr) : Tr := match ls[k]? with
  | some (.int x) => f x
  | _ => tX
def aLdL (ls : List Value) (k : Nat) (f : Int64 → Tr) : Tr := match ls[k]? with
  | some (.long x) => f x
  | _ => tX
def aIsR (v : Value) : Bool := match v with
  | .ref _ => true
  | .null => true
  | _ => false
def aLdA (ls : List Value) (k : Nat) (f : Value → Tr) : Tr := match ls[k]? with
  | some v => bif aIsR v then f v else tX
  | none => tX
/-- a store doesn't hit a long's second half -/
def aOkS (ls : List Value) (k : Nat) : Bool := match k with
  | 0 => true
  | j + 1 => match ls[j]? with
    | some (.long _) => false
    | some (.double _) => false
    | _ => true
def aTg (pc : Nat) (off : Int) : Nat := ((pc : Int) + off).toNat
def aTk (pc : Nat) (off : Int) : Prop := 0 ≤ (pc : Int) + off
def aCmp (c : ClassFile.Cond) (x y : Int32) : Prop := match c with
  | .eq => x = y
  | .ne => ¬ x = y
  | .lt => x < y
  | .ge => y ≤ x
  | .gt => y < x
  | .le => x ≤ y
def aTsel (pc : Nat) (dflt : Int) (x : Int32) : List Int → Int32 → Nat
  | [], _ => aTg pc dflt
  | o :: os, k => if x = k then aTg pc o else aTsel pc dflt x os (k + 1)
def aLsel (pc : Nat) (dflt : Int) (x : Int32) : List (Int × Int) → Nat
  | [] => aTg pc dflt
  | o :: os => if x = Int32.ofInt o.1 then aTg pc o.2 else aLsel pc dflt x os
/-- the arguments as locals -/
def aLay : List Value → List Value
  | [] => []
  | v :: vs => if v.category = 2 then v :: UN :: aLay vs else v :: aLay vs
def aEnt (m : Nat) (as : List Value) : List Value := aLay as ++ List.replicate (aML m - (aLay as).length) UN
def aCat (st : List Value) : Nat := (st.map fun v => v.category).sum
def aOk2 (v : Value) : Bool := match v with
  | .int _ => true
  | .long _ => true
  | .ref _ => true
  | .null => true
  | _ => false
/-- a call of method m' with n arguments on the stack -/
def aGo (d m pc : Nat) (ls st : List Value) (I : IM) (m' n : Nat) : Tr :=
  tC (1 ≤ d ∧ n ≤ st.length ∧ aCat (st.drop n) ≤ 8 ∧ (aLay (st.take n).reverse).length ≤ aML m' ∧ (st.take n).all aOk2 = true) (d - 1, m', 0, aEnt m' (st.take n).reverse, [], I)
    (fun r I' => (d, m, pc + 3, ls, if aRet m' = none then st.drop n else r :: st.drop n, I'))
def aNar (ty : Option FieldType) (x : Int32) : Prop := match ty with
  | some t => narrow t (.int x) = .int x
  | none => False
/-- the class of the receiver -/
def aRecv (m' c : Nat) : Prop := (aCo m' < 9 ∧ aShp c = aCo m') ∨ (aCo m' = 12 ∧ 1010 ≤ c ∧ c < 1016)
def TI (i : Instr) (n d m pc : Nat) (ls st : List Value) (I : IM) : Tr :=
  match i with
  | .iconst k => tJ (n = 1) (d, m, pc + 1, ls, .int (Int32.ofInt k) :: st, I)
  | .bipush k => tJ (n = 2) (d, m, pc + 2, ls, .int (Int8.ofInt k).toInt32 :: st, I)
  | .sipush k => tJ (n = 3) (d, m, pc + 3, ls, .int (Int16.ofInt k).toInt32 :: st, I)
  | .lconst k => tJ (n = 1) (d, m, pc + 1, ls, .long (Int64.ofNat k.val) :: st, I)
  | .aconst_null => tJ (n = 1) (d, m, pc + 1, ls, .null :: st, I)
  | .ldc x => match aCst (aCo m) x with
    | some v => tJ (n = 2) (d, m, pc + 2, ls, .int v.1 :: st, I)
    | none => match aStr (aCo m) x with
      | some j => tJ (n = 2) (d, m, pc + 2, ls, .ref (1010 + j) :: st, I)
      | none => tX
  | .ldc_w x => match aCst (aCo m) x with
    | some v => tJ (n = 3) (d, m, pc + 3, ls, .int v.1 :: st, I)
    | none => tX
  | .ldc2_w x => match aCsl (aCo m) x with
    | some v => tJ (n = 3) (d, m, pc + 3, ls, .long v.1 :: st, I)
    | none => tX
  | .iload_n k => aLdI ls k.val fun x => tJ (n = 1) (d, m, pc + 1, ls, .int x :: st, I)
  | .iload k => aLdI ls k fun x => tJ (n = 2) (d, m, pc + 2, ls, .int x :: st, I)
  | .lload_n k => aLdL ls k.val fun x => tJ (n = 1) (d, m, pc + 1, ls, .long x :: st, I)
  | .lload k => aLdL ls k fun x => tJ (n = 2) (d, m, pc + 2, ls, .long x :: st, I)
  | .aload_n k => aLdA ls k.val fun v => tJ (n = 1) (d, m, pc + 1, ls, v :: st, I)
  | .aload k => aLdA ls k fun v => tJ (n = 2) (d, m, pc + 2, ls, v :: st, I)
  | .istore_n k => aUni st fun x r => tJ (n = 1 ∧ k.val < aML m ∧ aOkS ls k.val = true) (d, m, pc + 1, ls.set k.val (.int x), r, I)
  | .istore k => aUni st fun x r => tJ (n = 2 ∧ k < aML m ∧ aOkS ls k = true) (d, m, pc + 2, ls.set k (.int x), r, I)
  | .lstore_n k => match st with
    | .long x :: r => tJ (n = 1 ∧ k.val + 1 < aML m ∧ aOkS ls k.val = true) (d, m, pc + 1, (ls.set k.val (.long x)).set (k.val + 1) UN, r, I)
    | _ => tX
  | .lstore k => match st with
    | .long x :: r => tJ (n = 2 ∧ k + 1 < aML m ∧ aOkS ls k = true) (d, m, pc + 2, (ls.set k (.long x)).set (k + 1) UN, r, I)
    | _ => tX
  | .astore_n k => match st with
    | v :: r => tJ (n = 1 ∧ k.val < aML m ∧ aOkS ls k.val = true ∧ aIsR v = true) (d, m, pc + 1, ls.set k.val v, r, I)
    | _ => tX
  | .astore k => match st with
    | v :: r => tJ (n = 2 ∧ k < aML m ∧ aOkS ls k = true ∧ aIsR v = true) (d, m, pc + 2, ls.set k v, r, I)
    | _ => tX
  | .iinc k c => aLdI ls k fun x => tJ (n = 3 ∧ k < aML m ∧ aOkS ls k = true) (d, m, pc + 3, ls.set k (.int (x + Int32.ofInt c)), st, I)
  | .iadd => aBin st fun x y r => tJ (n = 1) (d, m, pc + 1, ls, .int (x + y) :: r, I)
  | .isub => aBin st fun x y r => tJ (n = 1) (d, m, pc + 1, ls, .int (x - y) :: r, I)
  | .imul => aBin st fun x y r => tJ (n = 1) (d, m, pc + 1, ls, .int (x * y) :: r, I)
  | .idiv => aBin st fun x y r => tJ (n = 1 ∧ ¬ y = 0) (d, m, pc + 1, ls, .int (x / y) :: r, I)
  | .irem => aBin st fun x y r => tJ (n = 1 ∧ ¬ y = 0) (d, m, pc + 1, ls, .int (x - x / y * y) :: r, I)
  | .iand => aBin st fun x y r => tJ (n = 1) (d, m, pc + 1, ls, .int (x &&& y) :: r, I)
  | .ior => aBin st fun x y r => tJ (n = 1) (d, m, pc + 1, ls, .int (x ||| y) :: r, I)
  | .ishl => aBin st fun x y r => tJ (n = 1) (d, m, pc + 1, ls, .int (x <<< (y &&& 31)) :: r, I)
  | .ishr => aBin st fun x y r => tJ (n = 1) (d, m, pc + 1, ls, .int (x >>> (y &&& 31)) :: r, I)
  | .iushr => aBin st fun x y r => tJ (n = 1) (d, m, pc + 1, ls, .int (x.toUInt32 >>> (y.toUInt32 &&& Int32.toUInt32 31)).toInt32 :: r, I)
  | .ineg => aUni st fun x r => tJ (n = 1) (d, m, pc + 1, ls, .int (-x) :: r, I)
  | .i2l => aUni st fun x r => tJ (n = 1) (d, m, pc + 1, ls, .long x.toInt64 :: r, I)
  | .i2s => aUni st fun x r => tJ (n = 1) (d, m, pc + 1, ls, .int x.toInt16.toInt32 :: r, I)
  | .i2b => aUni st fun x r => tJ (n = 1) (d, m, pc + 1, ls, .int x.toInt8.toInt32 :: r, I)
  | .i2c => aUni st fun x r => tJ (n = 1) (d, m, pc + 1, ls, .int (x.toUInt32 % 65536).toInt32 :: r, I)
  | .l2i => match st with
    | .long x :: r => tJ (n = 1) (d, m, pc + 1, ls, .int x.toInt32 :: r, I)
    | _ => tX
  | .ladd => match st with
    | .long y :: .long x :: r => tJ (n = 1) (d, m, pc + 1, ls, .long (x + y) :: r, I)
    | _ => tX
  | .lcmp => match st with
    | .long y :: .long x :: r => tJ (n = 1) (d, m, pc + 1, ls, .int (lg_cmp x y) :: r, I)
    | _ => tX
  | .dup => match st with
    | v :: r => tJ (n = 1 ∧ v.category = 1) (d, m, pc + 1, ls, v :: v :: r, I)
    | _ => tX
  | .dup2 => match st with
    | v :: w :: r => tJ (n = 1 ∧ v.category = 1 ∧ w.category = 1) (d, m, pc + 1, ls, v :: w :: v :: w :: r, I)
    | _ => tX
  | .pop => match st with
    | v :: r => tJ (n = 1 ∧ v.category = 1) (d, m, pc + 1, ls, r, I)
    | _ => tX
  | .goto o => tJ (n = 3 ∧ aTk pc o) (d, m, aTg pc o, ls, st, I)
  | .ifCond c o => aUni st fun x r => bif decide (n = 3 ∧ 0 ≤ (pc : Int) + o) then tB (aCmp c x 0) (d, m, aTg pc o, ls, r, I) (d, m, pc + 3, ls, r, I) else tX
  | .if_icmp c o => aBin st fun x y r => bif decide (n = 3 ∧ 0 ≤ (pc : Int) + o) then tB (aCmp c x y) (d, m, aTg pc o, ls, r, I) (d, m, pc + 3, ls, r, I) else tX
  | .ifnull o => match st with
    | .ref x :: r => tJ (n = 3 ∧ x ≠ 1030) (d, m, pc + 3, ls, r, I)
    | .null :: r => tJ (n = 3 ∧ aTk pc o) (d, m, aTg pc o, ls, r, I)
    | _ => tX
  | .ifnonnull o => match st with
    | .ref x :: r => tJ (n = 3 ∧ aTk pc o ∧ x ≠ 1030) (d, m, aTg pc o, ls, r, I)
    | .null :: r => tJ (n = 3) (d, m, pc + 3, ls, r, I)
    | _ => tX
  | .tableswitch dflt lo hi offs => aUni st fun x r => tJ (-2147483648 ≤ lo ∧ hi < 2147483647 ∧ lo ≤ hi + 1 ∧ (offs.size : Int) = hi + 1 - lo ∧ aTk pc dflt ∧ ∀ o ∈ offs.toList, aTk pc o) (d, m, aTsel pc dflt x offs.toList (Int32.ofInt lo), ls, r, I)
  | .lookupswitch dflt ps => aUni st fun x r => tJ ((ps.toList.zip (ps.toList.drop 1)).all (fun (a, next) => a.1 < next.1) = true ∧ aTk pc dflt ∧ ∀ o ∈ ps.toList, -2147483648 ≤ o.1 ∧ o.1 ≤ 2147483647 ∧ aTk pc o.2) (d, m, aLsel pc dflt x ps.toList, ls, r, I)
  | .getfield x => aRef st fun c r => match aFld (aCo m) x with
    | some f => bif Nat.beq (aFc f.1 f.2.1) 2 then tJ (n = 3 ∧ aShp c = f.1) (d, m, pc + 3, ls, .ref (aRf c f.2.1) :: r, I) else tJ (n = 3 ∧ aShp c = f.1) (d, m, pc + 3, ls, .int (I c f.2.1) :: r, I)
    | none => bif Nat.beq (aCo m) 12 then (bif Nat.beq x 9 then tJ (n = 3 ∧ 1010 ≤ c ∧ c < 1016) (d, m, pc + 3, ls, .ref (c + 10) :: r, I) else bif Nat.beq x 15 then tJ (n = 3 ∧ 1010 ≤ c ∧ c < 1016) (d, m, pc + 3, ls, .int 0 :: r, I) else tX) else tX
  | .putfield x => match st with
    | .int v :: .ref c :: r => match aFld (aCo m) x with
      | some f => tJ (n = 3 ∧ aShp c = f.1 ∧ aFf f.1 f.2.1 = 0 ∧ (aFc f.1 f.2.1 = 0 ∨ (aFc f.1 f.2.1 = 1 ∧ (v = 0 ∨ v = 1)))) (d, m, pc + 3, ls, r, up I c f.2.1 v)
      | none => tX
    | _ => tX
  | .getstatic x => bif Nat.beq (aCo m) 0 && Nat.beq x 31 then tJ (n = 3) (d, m, pc + 3, ls, .ref 1001 :: st, I)
    else bif Nat.beq (aCo m) 12 && Nat.beq x 38 then tJ (n = 3) (d, m, pc + 3, ls, .int 1 :: st, I)
    else bif Nat.beq (aCo m) 12 && Nat.beq x 1053 then tJ (n = 3) (d, m, pc + 3, ls, .ref 1030 :: st, I) else tX
  | .arraylength => aRef st fun c r => bif (Nat.ble 1020 c && Nat.blt c 1026) then tJ (n = 1) (d, m, pc + 1, ls, .int (nI (aStrBy (c - 1020)).length) :: r, I) else tJ (n = 1 ∧ (aIA c ∨ (20 ≤ aShp c ∧ aShp c ≤ 24)) ∧ (c = 1000 → ¬ I 1002 0 < 0)) (d, m, pc + 1, ls, .int (nI (aAl I c)) :: r, I)
  | .iaload => match st with
    | .int j :: .ref c :: r => tJ (n = 1 ∧ aIA c ∧ vp_in j (aAl I c)) (d, m, pc + 1, ls, .int (aRd I c j.toNatClampNeg) :: r, I)
    | _ => tX
  | .baload => match st with
    | .int j :: .ref c :: r => tJ (n = 1 ∧ 1020 ≤ c ∧ c < 1026 ∧ vp_in j (aStrBy (c - 1020)).length) (d, m, pc + 1, ls, .int ((aStrBy (c - 1020)).getD j.toNatClampNeg 0) :: r, I)
    | _ => tX
  | .iastore => match st with
    | .int v :: .int j :: .ref c :: r => tJ (n = 1 ∧ aShp c = 20 ∧ vp_in j (aLen c)) (d, m, pc + 1, ls, r, up I c j.toNatClampNeg v)
    | _ => tX
  | .aaload => match st with
    | .int j :: .ref c :: r => tJ (n = 1 ∧ 21 ≤ aShp c ∧ aShp c ≤ 24 ∧ vp_in j (aLen c)) (d, m, pc + 1, ls, .ref (aRf c j.toNatClampNeg) :: r, I)
    | _ => tX
  | .invokestatic x => bif Nat.beq (aCo m) 7 && Nat.beq x 267 then (match st with
      | .int k :: .int dp :: .ref b :: .int sp :: .ref a :: r => tJ (n = 3 ∧ 1 ≤ d ∧ aCat r ≤ 8 ∧ aShp a = 20 ∧ aShp b = 20 ∧ ¬ sp < 0 ∧ ¬ dp < 0 ∧ ¬ k < 0 ∧ sp.toNatClampNeg + k.toNatClampNeg ≤ aLen a ∧ dp.toNatClampNeg + k.toNatClampNeg ≤ aLen b) (d, m, pc + 3, ls, r, fun c' => if c' = b then va_cpy (I a) (I b) sp.toNatClampNeg dp.toNatClampNeg k.toNatClampNeg else I c')
      | _ => tX)
    else match aCall (aCo m) x with
    | some q => bif Nat.beq n 3 && (Nat.beq q.1 0 || Nat.beq q.1 1) then aGo d m pc ls st I q.2.1 (aNp q.2.1)
      else bif Nat.beq q.1 3 then aBin st fun x y r => tJ (n = 3 ∧ 1 ≤ d ∧ aCat r ≤ 8) (d, m, pc + 3, ls, .int (if x < y then y else x) :: r, I)
      else bif Nat.beq q.1 4 then aBin st fun x y r => tJ (n = 3 ∧ 1 ≤ d ∧ aCat r ≤ 8) (d, m, pc + 3, ls, .int (if y < x then y else x) :: r, I)
      else bif Nat.beq q.1 5 then aUni st fun x r => tJ (n = 3 ∧ 1 ≤ d ∧ aCat r ≤ 8) (d, m, pc + 3, ls, .int (if 0 ≤ x then x else 0 - x) :: r, I)
      else tX
    | none => tX
  | .invokevirtual x => match aCall (aCo m) x with
    | some q => bif Nat.beq n 3 && Nat.beq q.1 2 then (match st.drop (aNp q.2.1) with
      | .ref c :: _ => match aGo d m pc ls st I q.2.1 (aNp q.2.1 + 1) with
        | .inr (.inr (.inl t)) => tC (t.1 ∧ aRecv q.2.1 c) t.2.1 t.2.2
        | t => t
      | _ => tX) else tX
    | none => tX
  | .ireturn => match st with
    | [.int v] => tR (n = 1 ∧ aNar (aRet m) v) (.int v) I
    | _ => tX
  | .return_ => match st with
    | [] => tR (n = 1 ∧ aRet m = none) .null I
    | _ => tX
  | .areturn => match st with
    | [v] => tR (n = 1 ∧ aIsR v = true ∧ ((∃ k, aRet m = some (.object k)) ∨ ∃ t, aRet m = some (.array t))) v I
    | _ => tX
  | .lreturn => match st with
    | [.long v] => tR (n = 1 ∧ aRet m = some .long) (.long v) I
    | _ => tX
  | _ => tX
def T (s : St) : Tr := match s with
  | (d, m, pc, ls, st, I) => match aIns m pc with
    | some q => TI q.1 q.2 d m pc ls st I
    | none => tX
def FT (P : St → Po → Prop) (t : Tr) (Q : Po) : Prop := match t with
  | .inl q => q.1 ∧ P q.2 Q
  | .inr (.inl q) => (q.1 → P q.2.1 Q) ∧ (¬ q.1 → P q.2.2 Q)
  | .inr (.inr (.inl q)) => q.1 ∧ ∃ R : Po, P q.2.1 R ∧ ∀ r I, R r I → P (q.2.2 r I) Q
  | .inr (.inr (.inr q)) => q.1 ∧ Q q.2.1 q.2.2
/-- from the state s the abstract machine returns, and what it returns holds Q -/
def E (s : St) (Q : Po) : Prop := ∀ P : St → Po → Prop, (∀ s Q, FT P (T s) Q → P s Q) → P s Q
theorem FT_mono {P P' : St → Po → Prop} (h : ∀ s Q, P s Q → P' s Q) {t : Tr} {Q : Po} (k : FT P t Q) : FT P' t Q := by
  obtain q | q | q | q := t
  · exact ⟨k.1, h _ _ k.2⟩
  · exact ⟨fun c => h _ _ (k.1 c), fun c => h _ _ (k.2 c)⟩
  · obtain ⟨k1, R, k2, k3⟩ := k
    exact ⟨k1, R, h _ _ k2, fun r I hr => h _ _ (k3 r I hr)⟩
  · exact k
theorem E_of {s : St} {Q : Po} (h : FT E (T s) Q) : E s Q := fun P hP => hP s Q (FT_mono (fun s Q k => k P hP) h)
theorem E_to {s : St} {Q : Po} (h : E s Q) : FT E (T s) Q := h (fun s Q => FT E (T s) Q) (fun _ _ k => FT_mono (fun _ _ k => E_of k) k)
theorem E_iff (s : St) (Q : Po) : E s Q ↔ FT E (T s) Q := ⟨E_to, E_of⟩
theorem E_monoQ {s : St} {Q Q' : Po} (h : E s Q) (hQ : ∀ r I, Q r I → Q' r I) : E s Q' := by
  refine h (fun s Q => ∀ Q' : Po, (∀ r I, Q r I → Q' r I) → E s Q') ?_ Q' hQ
  intro s Q k Q' hQ
  apply E_of
  generalize T s = t at k
  obtain q | q | q | q := t
  · exact ⟨k.1, k.2 _ hQ⟩
  · exact ⟨fun c => k.1 c _ hQ, fun c => k.2 c _ hQ⟩
  · obtain ⟨k1, R, k2, k3⟩ := k
    exact ⟨k1, R, k2 _ (fun _ _ h => h), fun r I hr => k3 r I hr _ hQ⟩
  · exact ⟨k.1, hQ _ _ k.2⟩
theorem E_jmp {s s' : St} {c : Prop} {Q : Po} (h : T s = tJ c s') (hc : c) : E s Q ↔ E s' Q := by
  rw [E_iff, h]
  exact ⟨fun k => k.2, fun k => ⟨hc, k⟩⟩
theorem E_jmpc {s s' : St} {c c' : Prop} {Q : Po} (h : T s = tJ c s') (hc : c ↔ c') : E s Q ↔ c' ∧ E s' Q := by
  rw [E_iff, h, ← hc]
  exact Iff.rfl
theorem E_br {s s1 s2 : St} {c : Prop} [Decidable c] {Q : Po} (h : T s = tB c s1 s2) : E s Q ↔ if c then E s1 Q else E s2 Q := by
  rw [E_iff, h]
  by_cases hc : c
  · rw [if_pos hc]
    exact ⟨fun k => k.1 hc, fun k => ⟨fun _ => k, fun n => absurd hc n⟩⟩
  · rw [if_neg hc]
    exact ⟨fun k => k.2 hc, fun k => ⟨fun n => absurd n hc, fun _ => k⟩⟩
theorem E_cal {s s' : St} {c : Prop} {k : Value → IM → St} {Q : Po} (h : T s = tC c s' k) (hc : c) : E s Q ↔ E s' (fun r I => E (k r I) Q) := by
  rw [E_iff, h]
  refine ⟨fun q => ?_, fun q => ⟨hc, _, q, fun _ _ h => h⟩⟩
  obtain ⟨_, R, q1, q2⟩ := q
  exact E_monoQ q1 q2
theorem E_calc {s s' : St} {c c' : Prop} {k : Value → IM → St} {Q : Po} (h : T s = tC c s' k) (hc : c ↔ c') : E s Q ↔ c' ∧ E s' (fun r I => E (k r I) Q) := by
  by_cases h0 : c'
  · rw [E_cal h (hc.mpr h0)]
    exact ⟨fun q => ⟨h0, q⟩, fun q => q.2⟩
  · rw [E_iff, h]
    exact ⟨fun q => absurd (hc.mp q.1) h0, fun q => absurd q.1 h0⟩
theorem E_ret {s : St} {c : Prop} {v : Value} {I : IM} {Q : Po} (h : T s = tR c v I) (hc : c) : E s Q ↔ Q v I := by
  rw [E_iff, h]
  exact ⟨fun k => k.2, fun k => ⟨hc, k⟩⟩
theorem E_retc {s : St} {c c' : Prop} {v : Value} {I : IM} {Q : Po} (h : T s = tR c v I) (hc : c ↔ c') : E s Q ↔ c' ∧ Q v I := by
  rw [E_iff, h, ← hc]
  exact Iff.rfl
theorem T_ins {d m pc : Nat} {ls st : List Value} {I : IM} {i : Instr} {n : Nat} (h : aIns m pc = some (i, n)) : T (d, m, pc, ls, st, I) = TI i n d m pc ls st I := by
  show (match aIns m pc with | some q => TI q.1 q.2 d m pc ls st I | none => tX) = _
  rw [h]
