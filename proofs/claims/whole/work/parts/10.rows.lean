/-! the abstract machine, an instruction a row -/
/-- a Law, or null -/
def aLv (v : Value) : Prop := v = .null ∨ ∃ c : Nat, v = .ref c ∧ aShp c = 2
section EL
variable {d m pc : Nat} {ls st : List Value} {I : IM} {Q : Po}
theorem e_iconst {k : Int} {v : Int32} (h : aIns m pc = some (.iconst k, 1)) (hv : Int32.ofInt k = v) : E (d, m, pc, ls, st, I) Q ↔ E (d, m, pc + 1, ls, .int v :: st, I) Q := by subst hv; exact E_jmp (T_ins h) rfl
theorem e_bipush {k : Int} {v : Int32} (h : aIns m pc = some (.bipush k, 2)) (hv : (Int8.ofInt k).toInt32 = v) : E (d, m, pc, ls, st, I) Q ↔ E (d, m, pc + 2, ls, .int v :: st, I) Q := by subst hv; exact E_jmp (T_ins h) rfl
theorem e_sipush {k : Int} {v : Int32} (h : aIns m pc = some (.sipush k, 3)) (hv : (Int16.ofInt k).toInt32 = v) : E (d, m, pc, ls, st, I) Q ↔ E (d, m, pc + 3, ls, .int v :: st, I) Q := by subst hv; exact E_jmp (T_ins h) rfl
theorem e_lconst {k : Fin 2} {v : Int64} (h : aIns m pc = some (.lconst k, 1)) (hv : Int64.ofNat k.val = v) : E (d, m, pc, ls, st, I) Q ↔ E (d, m, pc + 1, ls, .long v :: st, I) Q := by subst hv; exact E_jmp (T_ins h) rfl
theorem e_aconst_null (h : aIns m pc = some (.aconst_null, 1)) : E (d, m, pc, ls, st, I) Q ↔ E (d, m, pc + 1, ls, .null :: st, I) Q := E_jmp (T_ins h) rfl
theorem e_ldc {x ix : Nat} {v : Int32} (h : aIns m pc = some (.ldc x, 2)) (hc : aCst (aCo m) x = some (v, ix)) : E (d, m, pc, ls, st, I) Q ↔ E (d, m, pc + 2, ls, .int v :: st, I) Q :=
  E_jmp (c := 2 = 2) (by rw [T_ins h]; unfold TI; dsimp only; rw [hc]) rfl
theorem e_ldcs {x j : Nat} (h : aIns m pc = some (.ldc x, 2)) (hc : aCst (aCo m) x = none) (hs : aStr (aCo m) x = some j) : E (d, m, pc, ls, st, I) Q ↔ E (d, m, pc + 2, ls, .ref (1010 + j) :: st, I) Q :=
  E_jmp (c := 2 = 2) (by rw [T_ins h]; unfold TI; dsimp only; rw [hc]; dsimp only; rw [hs]) rfl
theorem e_ldc_w {x ix : Nat} {v : Int32} (h : aIns m pc = some (.ldc_w x, 3)) (hc : aCst (aCo m) x = some (v, ix)) : E (d, m, pc, ls, st, I) Q ↔ E (d, m, pc + 3, ls, .int v :: st, I) Q :=
  E_jmp (c := 3 = 3) (by rw [T_ins h]; unfold TI; dsimp only; rw [hc]) rfl
theorem e_ldc2_w {x ix : Nat} {v : Int64} (h : aIns m pc = some (.ldc2_w x, 3)) (hc : aCsl (aCo m) x = some (v, ix)) : E (d, m, pc, ls, st, I) Q ↔ E (d, m, pc + 3, ls, .long v :: st, I) Q :=
  E_jmp (c := 3 = 3) (by rw [T_ins h]; unfold TI; dsimp only; rw [hc]) rfl
theorem e_iload_n {k : Fin 4} {x : Int32} (h : aIns m pc = some (.iload_n k, 1)) (hl : ls[k.val]? = some (.int x)) : E (d, m, pc, ls, st, I) Q ↔ E (d, m, pc + 1, ls, .int x :: st, I) Q :=
  E_jmp (c := 1 = 1) (by rw [T_ins h]; unfold TI; dsimp only; unfold aLdI; rw [hl]) rfl
theorem e_iload {k : Nat} {x : Int32} (h : aIns m pc = some (.iload k, 2)) (hl : ls[k]? = some (.int x)) : E (d, m, pc, ls, st, I) Q ↔ E (d, m, pc + 2, ls, .int x :: st, I) Q :=
  E_jmp (c := 2 = 2) (by rw [T_ins h]; unfold TI; dsimp only; unfold aLdI; rw [hl]) rfl
theorem e_lload_n {k : Fin 4} {x : Int64} (h : aIns m pc = some (.lload_n k, 1)) (hl : ls[k.val]? = some (.long x)) : E (d, m, pc, ls, st, I) Q ↔ E (d, m, pc + 1, ls, .long x :: st, I) Q :=
  E_jmp (c := 1 = 1) (by rw [T_ins h]; unfold TI; dsimp only; unfold aLdL; rw [hl]) rfl
theorem e_lload {k : Nat} {x : Int64} (h : aIns m pc = some (.lload k, 2)) (hl : ls[k]? = some (.long x)) : E (d, m, pc, ls, st, I) Q ↔ E (d, m, pc + 2, ls, .long x :: st, I) Q :=
  E_jmp (c := 2 = 2) (by rw [T_ins h]; unfold TI; dsimp only; unfold aLdL; rw [hl]) rfl
theorem e_aload_n {k : Fin 4} {v : Value} (h : aIns m pc = some (.aload_n k, 1)) (hl : ls[k.val]? = some v) (hv : aIsR v = true) : E (d, m, pc, ls, st, I) Q ↔ E (d, m, pc + 1, ls, v :: st, I) Q :=
  E_jmp (c := 1 = 1) (by rw [T_ins h]; unfold TI; dsimp only; unfold aLdA; rw [hl]; dsimp only; rw [hv]; rfl) rfl
theorem e_aload {k : Nat} {v : Value} (h : aIns m pc = some (.aload k, 2)) (hl : ls[k]? = some v) (hv : aIsR v = true) : E (d, m, pc, ls, st, I) Q ↔ E (d, m, pc + 2, ls, v :: st, I) Q :=
  E_jmp (c := 2 = 2) (by rw [T_ins h]; unfold TI; dsimp only; unfold aLdA; rw [hl]; dsimp only; rw [hv]; rfl) rfl
theorem e_istore_n {k : Fin 4} {x : Int32} {ls' : List Value} (h : aIns m pc = some (.istore_n k, 1)) (hk : k.val < aML m) (ok : aOkS ls k.val = true) (hl : ls.set k.val (.int x) = ls') : E (d, m, pc, ls, .int x :: st, I) Q ↔ E (d, m, pc + 1, ls', st, I) Q := by subst hl; exact E_jmp (T_ins h) ⟨rfl, hk, ok⟩
theorem e_istore {k : Nat} {x : Int32} {ls' : List Value} (h : aIns m pc = some (.istore k, 2)) (hk : k < aML m) (ok : aOkS ls k = true) (hl : ls.set k (.int x) = ls') : E (d, m, pc, ls, .int x :: st, I) Q ↔ E (d, m, pc + 2, ls', st, I) Q := by subst hl; exact E_jmp (T_ins h) ⟨rfl, hk, ok⟩
theorem e_lstore_n {k : Fin 4} {x : Int64} {ls' : List Value} (h : aIns m pc = some (.lstore_n k, 1)) (hk : k.val + 1 < aML m) (ok : aOkS ls k.val = true) (hl : (ls.set k.val (.long x)).set (k.val + 1) UN = ls') : E (d, m, pc, ls, .long x :: st, I) Q ↔ E (d, m, pc + 1, ls', st, I) Q := by subst hl; exact E_jmp (T_ins h) ⟨rfl, hk, ok⟩
theorem e_lstore {k : Nat} {x : Int64} {ls' : List Value} (h : aIns m pc = some (.lstore k, 2)) (hk : k + 1 < aML m) (ok : aOkS ls k = true) (hl : (ls.set k (.long x)).set (k + 1) UN = ls') : E (d, m, pc, ls, .long x :: st, I) Q ↔ E (d, m, pc + 2, ls', st, I) Q := by subst hl; exact E_jmp (T_ins h) ⟨rfl, hk, ok⟩
theorem e_astore_n {k : Fin 4} {v : Value} {ls' : List Value} (h : aIns m pc = some (.astore_n k, 1)) (hk : k.val < aML m) (ok : aOkS ls k.val = true) (hv : aIsR v = true) (hl : ls.set k.val v = ls') : E (d, m, pc, ls, v :: st, I) Q ↔ E (d, m, pc + 1, ls', st, I) Q := by subst hl; exact E_jmp (T_ins h) ⟨rfl, hk, ok, hv⟩
theorem e_astore {k : Nat} {v : Value} {ls' : List Value} (h : aIns m pc = some (.astore k, 2)) (hk : k < aML m) (ok : aOkS ls k = true) (hv : aIsR v = true) (hl : ls.set k v = ls') : E (d, m, pc, ls, v :: st, I) Q ↔ E (d, m, pc + 2, ls', st, I) Q := by subst hl; exact E_jmp (T_ins h) ⟨rfl, hk, ok, hv⟩
theorem e_iinc {k : Nat} {c : Int} {x v : Int32} {ls' : List Value} (h : aIns m pc = some (.iinc k c, 3)) (hx : ls[k]? = some (.int x)) (hk : k < aML m) (ok : aOkS ls k = true) (hv : Int32.ofInt c = v) (hl : ls.set k (.int (x + v)) = ls') : E (d, m, pc, ls, st, I) Q ↔ E (d, m, pc + 3, ls', st, I) Q := by
  subst hv; subst hl
  exact E_jmp (c := 3 = 3 ∧ k < aML m ∧ aOkS ls k = true) (by rw [T_ins h]; unfold TI; dsimp only; unfold aLdI; rw [hx]) ⟨rfl, hk, ok⟩
theorem e_iadd {x y : Int32} (h : aIns m pc = some (.iadd, 1)) : E (d, m, pc, ls, .int y :: .int x :: st, I) Q ↔ E (d, m, pc + 1, ls, .int (x + y) :: st, I) Q := E_jmp (T_ins h) rfl
theorem e_isub {x y : Int32} (h : aIns m pc = some (.isub, 1)) : E (d, m, pc, ls, .int y :: .int x :: st, I) Q ↔ E (d, m, pc + 1, ls, .int (x - y) :: st, I) Q := E_jmp (T_ins h) rfl
theorem e_imul {x y : Int32} (h : aIns m pc = some (.imul, 1)) : E (d, m, pc, ls, .int y :: .int x :: st, I) Q ↔ E (d, m, pc + 1, ls, .int (x * y) :: st, I) Q := E_jmp (T_ins h) rfl
theorem e_iand {x y : Int32} (h : aIns m pc = some (.iand, 1)) : E (d, m, pc, ls, .int y :: .int x :: st, I) Q ↔ E (d, m, pc + 1, ls, .int (x &&& y) :: st, I) Q := E_jmp (T_ins h) rfl
theorem e_ior {x y : Int32} (h : aIns m pc = some (.ior, 1)) : E (d, m, pc, ls, .int y :: .int x :: st, I) Q ↔ E (d, m, pc + 1, ls, .int (x ||| y) :: st, I) Q := E_jmp (T_ins h) rfl
theorem e_ishl {x y : Int32} (h : aIns m pc = some (.ishl, 1)) : E (d, m, pc, ls, .int y :: .int x :: st, I) Q ↔ E (d, m, pc + 1, ls, .int (x <<< (y &&& 31)) :: st, I) Q := E_jmp (T_ins h) rfl
theorem e_ishr {x y : Int32} (h : aIns m pc = some (.ishr, 1)) : E (d, m, pc, ls, .int y :: .int x :: st, I) Q ↔ E (d, m, pc + 1, ls, .int (x >>> (y &&& 31)) :: st, I) Q := E_jmp (T_ins h) rfl
/-- x >>> y of Java -/
def jUshr (x y : Int32) : Int32 := (x.toUInt32 >>> (y.toUInt32 &&& Int32.toUInt32 31)).toInt32
theorem e_iushr {x y : Int32} (h : aIns m pc = some (.iushr, 1)) : E (d, m, pc, ls, .int y :: .int x :: st, I) Q ↔ E (d, m, pc + 1, ls, .int (jUshr x y) :: st, I) Q := E_jmp (T_ins h) rfl
theorem e_idiv {x y : Int32} (h : aIns m pc = some (.idiv, 1)) : E (d, m, pc, ls, .int y :: .int x :: st, I) Q ↔ ¬ y = 0 ∧ E (d, m, pc + 1, ls, .int (x / y) :: st, I) Q := E_jmpc (T_ins h) ⟨fun k => k.2, fun k => ⟨rfl, k⟩⟩
/-- x % y of Java -/
def jRem (x y : Int32) : Int32 := x - x / y * y
theorem e_irem {x y : Int32} (h : aIns m pc = some (.irem, 1)) : E (d, m, pc, ls, .int y :: .int x :: st, I) Q ↔ ¬ y = 0 ∧ E (d, m, pc + 1, ls, .int (jRem x y) :: st, I) Q := E_jmpc (T_ins h) ⟨fun k => k.2, fun k => ⟨rfl, k⟩⟩
theorem e_ineg {x : Int32} (h : aIns m pc = some (.ineg, 1)) : E (d, m, pc, ls, .int x :: st, I) Q ↔ E (d, m, pc + 1, ls, .int (-x) :: st, I) Q := E_jmp (T_ins h) rfl
theorem e_i2l {x : Int32} (h : aIns m pc = some (.i2l, 1)) : E (d, m, pc, ls, .int x :: st, I) Q ↔ E (d, m, pc + 1, ls, .long x.toInt64 :: st, I) Q := E_jmp (T_ins h) rfl
theorem e_i2s {x : Int32} (h : aIns m pc = some (.i2s, 1)) : E (d, m, pc, ls, .int x :: st, I) Q ↔ E (d, m, pc + 1, ls, .int x.toInt16.toInt32 :: st, I) Q := E_jmp (T_ins h) rfl
theorem e_i2b {x : Int32} (h : aIns m pc = some (.i2b, 1)) : E (d, m, pc, ls, .int x :: st, I) Q ↔ E (d, m, pc + 1, ls, .int x.toInt8.toInt32 :: st, I) Q := E_jmp (T_ins h) rfl
theorem e_i2c {x : Int32} (h : aIns m pc = some (.i2c, 1)) : E (d, m, pc, ls, .int x :: st, I) Q ↔ E (d, m, pc + 1, ls, .int (x.toUInt32 % 65536).toInt32 :: st, I) Q := E_jmp (T_ins h) rfl
theorem e_l2i {x : Int64} (h : aIns m pc = some (.l2i, 1)) : E (d, m, pc, ls, .long x :: st, I) Q ↔ E (d, m, pc + 1, ls, .int x.toInt32 :: st, I) Q := E_jmp (T_ins h) rfl
theorem e_ladd {x y : Int64} (h : aIns m pc = some (.ladd, 1)) : E (d, m, pc, ls, .long y :: .long x :: st, I) Q ↔ E (d, m, pc + 1, ls, .long (x + y) :: st, I) Q := E_jmp (T_ins h) rfl
theorem e_lcmp {x y : Int64} (h : aIns m pc = some (.lcmp, 1)) : E (d, m, pc, ls, .long y :: .long x :: st, I) Q ↔ E (d, m, pc + 1, ls, .int (lg_cmp x y) :: st, I) Q := E_jmp (T_ins h) rfl
theorem e_dup {v : Value} (h : aIns m pc = some (.dup, 1)) (hv : v.category = 1) : E (d, m, pc, ls, v :: st, I) Q ↔ E (d, m, pc + 1, ls, v :: v :: st, I) Q := E_jmp (T_ins h) ⟨rfl, hv⟩
theorem e_dup2 {v w : Value} (h : aIns m pc = some (.dup2, 1)) (hv : v.category = 1) (hw : w.category = 1) : E (d, m, pc, ls, v :: w :: st, I) Q ↔ E (d, m, pc + 1, ls, v :: w :: v :: w :: st, I) Q := E_jmp (T_ins h) ⟨rfl, hv, hw⟩
theorem e_pop {v : Value} (h : aIns m pc = some (.pop, 1)) (hv : v.category = 1) : E (d, m, pc, ls, v :: st, I) Q ↔ E (d, m, pc + 1, ls, st, I) Q := E_jmp (T_ins h) ⟨rfl, hv⟩
theorem e_goto {o : Int} {t : Nat} (h : aIns m pc = some (.goto o, 3)) (ht : (pc : Int) + o = (t : Int)) : E (d, m, pc, ls, st, I) Q ↔ E (d, m, t, ls, st, I) Q := by
  have e : aTg pc o = t := by unfold aTg; omega
  subst e
  exact E_jmp (T_ins h) ⟨rfl, by unfold aTk; omega⟩
theorem e_brU {c : ClassFile.Cond} {o : Int} {t : Nat} {x : Int32} (h : aIns m pc = some (.ifCond c o, 3)) (ht : (pc : Int) + o = (t : Int)) : T (d, m, pc, ls, .int x :: st, I) = tB (aCmp c x 0) (d, m, t, ls, st, I) (d, m, pc + 3, ls, st, I) := by
  have e : aTg pc o = t := by unfold aTg; omega
  subst e
  rw [T_ins h]
  unfold TI aUni
  dsimp only
  rw [decide_eq_true (⟨rfl, by omega⟩ : (3 : Nat) = 3 ∧ 0 ≤ (pc : Int) + o)]
  rfl
theorem e_brB {c : ClassFile.Cond} {o : Int} {t : Nat} {x y : Int32} (h : aIns m pc = some (.if_icmp c o, 3)) (ht : (pc : Int) + o = (t : Int)) : T (d, m, pc, ls, .int y :: .int x :: st, I) = tB (aCmp c x y) (d, m, t, ls, st, I) (d, m, pc + 3, ls, st, I) := by
  have e : aTg pc o = t := by unfold aTg; omega
  subst e
  rw [T_ins h]
  unfold TI aBin
  dsimp only
  rw [decide_eq_true (⟨rfl, by omega⟩ : (3 : Nat) = 3 ∧ 0 ≤ (pc : Int) + o)]
  rfl
theorem ite_neg {c : Prop} [Decidable c] [Decidable (¬ c)] {A B X : Prop} (h : X ↔ if ¬ c then A else B) : X ↔ if c then B else A := by
  rw [h]
  by_cases hc : c
  · rw [if_neg (fun n => n hc), if_pos hc]
  · rw [if_pos hc, if_neg hc]
theorem ite_ge {x y : Int32} {A B X : Prop} (h : X ↔ if y ≤ x then A else B) : X ↔ if x < y then B else A := by
  rw [h]
  by_cases hc : x < y
  · rw [if_neg (Int32.not_le.mpr hc), if_pos hc]
  · rw [if_pos (Int32.not_lt.mp hc), if_neg hc]
variable {o : Int} {t : Nat} {x y : Int32}
theorem e_if_eq (h : aIns m pc = some (.ifCond .eq o, 3)) (ht : (pc : Int) + o = (t : Int)) : E (d, m, pc, ls, .int x :: st, I) Q ↔ if x = 0 then E (d, m, t, ls, st, I) Q else E (d, m, pc + 3, ls, st, I) Q := E_br (c := x = 0) (e_brU h ht)
theorem e_if_ne (h : aIns m pc = some (.ifCond .ne o, 3)) (ht : (pc : Int) + o = (t : Int)) : E (d, m, pc, ls, .int x :: st, I) Q ↔ if x = 0 then E (d, m, pc + 3, ls, st, I) Q else E (d, m, t, ls, st, I) Q := ite_neg (E_br (c := ¬ x = 0) (e_brU h ht))
theorem e_if_lt (h : aIns m pc = some (.ifCond .lt o, 3)) (ht : (pc : Int) + o = (t : Int)) : E (d, m, pc, ls, .int x :: st, I) Q ↔ if x < 0 then E (d, m, t, ls, st, I) Q else E (d, m, pc + 3, ls, st, I) Q := E_br (c := x < 0) (e_brU h ht)
theorem e_if_ge (h : aIns m pc = some (.ifCond .ge o, 3)) (ht : (pc : Int) + o = (t : Int)) : E (d, m, pc, ls, .int x :: st, I) Q ↔ if x < 0 then E (d, m, pc + 3, ls, st, I) Q else E (d, m, t, ls, st, I) Q := ite_ge (E_br (c := 0 ≤ x) (e_brU h ht))
theorem e_if_gt (h : aIns m pc = some (.ifCond .gt o, 3)) (ht : (pc : Int) + o = (t : Int)) : E (d, m, pc, ls, .int x :: st, I) Q ↔ if 0 < x then E (d, m, t, ls, st, I) Q else E (d, m, pc + 3, ls, st, I) Q := E_br (c := 0 < x) (e_brU h ht)
theorem e_if_le (h : aIns m pc = some (.ifCond .le o, 3)) (ht : (pc : Int) + o = (t : Int)) : E (d, m, pc, ls, .int x :: st, I) Q ↔ if 0 < x then E (d, m, pc + 3, ls, st, I) Q else E (d, m, t, ls, st, I) Q := ite_ge (E_br (c := x ≤ 0) (e_brU h ht))
theorem e_icmp_eq (h : aIns m pc = some (.if_icmp .eq o, 3)) (ht : (pc : Int) + o = (t : Int)) : E (d, m, pc, ls, .int y :: .int x :: st, I) Q ↔ if x = y then E (d, m, t, ls, st, I) Q else E (d, m, pc + 3, ls, st, I) Q := E_br (c := x = y) (e_brB h ht)
theorem e_icmp_ne (h : aIns m pc = some (.if_icmp .ne o, 3)) (ht : (pc : Int) + o = (t : Int)) : E (d, m, pc, ls, .int y :: .int x :: st, I) Q ↔ if x = y then E (d, m, pc + 3, ls, st, I) Q else E (d, m, t, ls, st, I) Q := ite_neg (E_br (c := ¬ x = y) (e_brB h ht))
theorem e_icmp_lt (h : aIns m pc = some (.if_icmp .lt o, 3)) (ht : (pc : Int) + o = (t : Int)) : E (d, m, pc, ls, .int y :: .int x :: st, I) Q ↔ if x < y then E (d, m, t, ls, st, I) Q else E (d, m, pc + 3, ls, st, I) Q := E_br (c := x < y) (e_brB h ht)
theorem e_icmp_ge (h : aIns m pc = some (.if_icmp .ge o, 3)) (ht : (pc : Int) + o = (t : Int)) : E (d, m, pc, ls, .int y :: .int x :: st, I) Q ↔ if x < y then E (d, m, pc + 3, ls, st, I) Q else E (d, m, t, ls, st, I) Q := ite_ge (E_br (c := y ≤ x) (e_brB h ht))
theorem e_icmp_gt (h : aIns m pc = some (.if_icmp .gt o, 3)) (ht : (pc : Int) + o = (t : Int)) : E (d, m, pc, ls, .int y :: .int x :: st, I) Q ↔ if y < x then E (d, m, t, ls, st, I) Q else E (d, m, pc + 3, ls, st, I) Q := E_br (c := y < x) (e_brB h ht)
theorem e_icmp_le (h : aIns m pc = some (.if_icmp .le o, 3)) (ht : (pc : Int) + o = (t : Int)) : E (d, m, pc, ls, .int y :: .int x :: st, I) Q ↔ if y < x then E (d, m, pc + 3, ls, st, I) Q else E (d, m, t, ls, st, I) Q := ite_ge (E_br (c := x ≤ y) (e_brB h ht))
theorem e_ifnull_r {c : Nat} (h : aIns m pc = some (.ifnull o, 3)) (hc : c ≠ 1030) : E (d, m, pc, ls, .ref c :: st, I) Q ↔ E (d, m, pc + 3, ls, st, I) Q := E_jmp (T_ins h) ⟨rfl, hc⟩
theorem e_ifnull_0 (h : aIns m pc = some (.ifnull o, 3)) (ht : (pc : Int) + o = (t : Int)) : E (d, m, pc, ls, .null :: st, I) Q ↔ E (d, m, t, ls, st, I) Q := by
  have e : aTg pc o = t := by unfold aTg; omega
  subst e
  exact E_jmp (T_ins h) ⟨rfl, by unfold aTk; omega⟩
theorem e_ifnonnull_r {c : Nat} (h : aIns m pc = some (.ifnonnull o, 3)) (ht : (pc : Int) + o = (t : Int)) (hc : c ≠ 1030) : E (d, m, pc, ls, .ref c :: st, I) Q ↔ E (d, m, t, ls, st, I) Q := by
  have e : aTg pc o = t := by unfold aTg; omega
  subst e
  exact E_jmp (T_ins h) ⟨rfl, by unfold aTk; omega, hc⟩
theorem e_ifnonnull_0 (h : aIns m pc = some (.ifnonnull o, 3)) : E (d, m, pc, ls, .null :: st, I) Q ↔ E (d, m, pc + 3, ls, st, I) Q := E_jmp (T_ins h) rfl
theorem e_tsw {dflt lo hi : Int} {offs : Array Int} {n : Nat} {k : Int32} (h : aIns m pc = some (.tableswitch dflt lo hi offs, n)) (hk : Int32.ofInt lo = k) (hc : (-2147483648 ≤ lo ∧ hi < 2147483647 ∧ lo ≤ hi + 1 ∧ (offs.size : Int) = hi + 1 - lo ∧ 0 ≤ (pc : Int) + dflt ∧ ∀ o ∈ offs.toList, 0 ≤ (pc : Int) + o)) : E (d, m, pc, ls, .int x :: st, I) Q ↔ E (d, m, aTsel pc dflt x offs.toList k, ls, st, I) Q := by
  subst hk
  exact E_jmp (T_ins h) hc
theorem e_tsel_nil {dflt : Int} {k : Int32} (ht : aTg pc dflt = t) : E (d, m, aTsel pc dflt x [] k, ls, st, I) Q ↔ E (d, m, t, ls, st, I) Q := by subst ht; exact Iff.rfl
theorem e_tsel_cons {dflt a : Int} {os : List Int} {k k2 : Int32} {X : Prop} (hn : k + 1 = k2) (ht : aTg pc a = t) (h2 : E (d, m, aTsel pc dflt x os k2, ls, st, I) Q ↔ X) : E (d, m, aTsel pc dflt x (a :: os) k, ls, st, I) Q ↔ if x = k then E (d, m, t, ls, st, I) Q else X := by
  subst ht; subst hn
  rw [← h2]
  unfold aTsel
  by_cases hx : x = k
  · rw [if_pos hx, if_pos hx]
  · rw [if_neg hx, if_neg hx]
    cases os <;> rfl
theorem e_lsw {dflt : Int} {ps : Array (Int × Int)} {n : Nat} (h : aIns m pc = some (.lookupswitch dflt ps, n)) (hc : ((ps.toList.zip (ps.toList.drop 1)).all (fun (a, next) => a.1 < next.1) = true ∧ 0 ≤ (pc : Int) + dflt ∧ ∀ o ∈ ps.toList, -2147483648 ≤ o.1 ∧ o.1 ≤ 2147483647 ∧ 0 ≤ (pc : Int) + o.2)) : E (d, m, pc, ls, .int x :: st, I) Q ↔ E (d, m, aLsel pc dflt x ps.toList, ls, st, I) Q := E_jmp (T_ins h) hc
theorem e_lsel_nil {dflt : Int} (ht : aTg pc dflt = t) : E (d, m, aLsel pc dflt x [], ls, st, I) Q ↔ E (d, m, t, ls, st, I) Q := by subst ht; exact Iff.rfl
theorem e_lsel_cons {dflt a b : Int} {os : List (Int × Int)} {k : Int32} {X : Prop} (hn : Int32.ofInt a = k) (ht : aTg pc b = t) (h2 : E (d, m, aLsel pc dflt x os, ls, st, I) Q ↔ X) : E (d, m, aLsel pc dflt x ((a, b) :: os), ls, st, I) Q ↔ if x = k then E (d, m, t, ls, st, I) Q else X := by
  subst ht; subst hn
  rw [← h2]
  rw [show aLsel pc dflt x ((a, b) :: os) = if x = Int32.ofInt a then aTg pc b else aLsel pc dflt x os from rfl]
  by_cases hx : x = Int32.ofInt a
  · rw [if_pos hx, if_pos hx]
  · rw [if_neg hx, if_neg hx]
variable {c ci k ix v0 : Nat} {v j : Int32}
theorem e_getf_i {f : Nat} (h : aIns m pc = some (.getfield f, 3)) (hf : aFld (aCo m) f = some (ci, k, ix)) (hk : Nat.beq (aFc ci k) 2 = false) (hs : aShp c = ci) : E (d, m, pc, ls, .ref c :: st, I) Q ↔ E (d, m, pc + 3, ls, .int (I c k) :: st, I) Q :=
  E_jmp (c := 3 = 3 ∧ aShp c = ci) (by rw [T_ins h]; unfold TI aRef; dsimp only; rw [hf]; dsimp only; rw [hk]; rfl) ⟨rfl, hs⟩
theorem e_getf_r {f : Nat} (h : aIns m pc = some (.getfield f, 3)) (hf : aFld (aCo m) f = some (ci, k, ix)) (hk : Nat.beq (aFc ci k) 2 = true) (hs : aShp c = ci) : E (d, m, pc, ls, .ref c :: st, I) Q ↔ E (d, m, pc + 3, ls, .ref (aRf c k) :: st, I) Q :=
  E_jmp (c := 3 = 3 ∧ aShp c = ci) (by rw [T_ins h]; unfold TI aRef; dsimp only; rw [hf]; dsimp only; rw [hk]; rfl) ⟨rfl, hs⟩
theorem e_getf_sv (h : aIns m pc = some (.getfield 9, 3)) (hm : aFld (aCo m) 9 = none) (h12 : Nat.beq (aCo m) 12 = true) (hc : 1010 ≤ c ∧ c < 1016) : E (d, m, pc, ls, .ref c :: st, I) Q ↔ E (d, m, pc + 3, ls, .ref (c + 10) :: st, I) Q :=
  E_jmp (c := 3 = 3 ∧ 1010 ≤ c ∧ c < 1016) (by rw [T_ins h]; unfold TI aRef; dsimp only; rw [hm]; dsimp only; rw [h12]; rfl) ⟨rfl, hc⟩
theorem e_getf_sc (h : aIns m pc = some (.getfield 15, 3)) (hm : aFld (aCo m) 15 = none) (h12 : Nat.beq (aCo m) 12 = true) (hc : 1010 ≤ c ∧ c < 1016) : E (d, m, pc, ls, .ref c :: st, I) Q ↔ E (d, m, pc + 3, ls, .int 0 :: st, I) Q :=
  E_jmp (c := 3 = 3 ∧ 1010 ≤ c ∧ c < 1016) (by rw [T_ins h]; unfold TI aRef; dsimp only; rw [hm]; dsimp only; rw [h12]; rfl) ⟨rfl, hc⟩
theorem e_putf {f : Nat} (h : aIns m pc = some (.putfield f, 3)) (hf : aFld (aCo m) f = some (ci, k, ix)) (hff : aFf ci k = 0) (hk : aFc ci k = 0) (hs : aShp c = ci) : E (d, m, pc, ls, .int v :: .ref c :: st, I) Q ↔ E (d, m, pc + 3, ls, st, up I c k v) Q :=
  E_jmp (c := 3 = 3 ∧ aShp c = ci ∧ aFf ci k = 0 ∧ (aFc ci k = 0 ∨ (aFc ci k = 1 ∧ (v = 0 ∨ v = 1)))) (by rw [T_ins h]; unfold TI; dsimp only; rw [hf]) ⟨rfl, hs, hff, Or.inl hk⟩
theorem e_putf_z {f : Nat} (h : aIns m pc = some (.putfield f, 3)) (hf : aFld (aCo m) f = some (ci, k, ix)) (hff : aFf ci k = 0) (hk : aFc ci k = 1) (hv : v = 0 ∨ v = 1) (hs : aShp c = ci) : E (d, m, pc, ls, .int v :: .ref c :: st, I) Q ↔ E (d, m, pc + 3, ls, st, up I c k v) Q :=
  E_jmp (c := 3 = 3 ∧ aShp c = ci ∧ aFf ci k = 0 ∧ (aFc ci k = 0 ∨ (aFc ci k = 1 ∧ (v = 0 ∨ v = 1)))) (by rw [T_ins h]; unfold TI; dsimp only; rw [hf]) ⟨rfl, hs, hff, Or.inr ⟨hk, hv⟩⟩
theorem e_getst_u (h : aIns m pc = some (.getstatic 31, 3)) (hm : aCo m = 0) : E (d, m, pc, ls, st, I) Q ↔ E (d, m, pc + 3, ls, .ref 1001 :: st, I) Q :=
  E_jmp (c := 3 = 3) (by rw [T_ins h]; unfold TI; dsimp only; rw [hm]; rfl) rfl
theorem e_getst_c (h : aIns m pc = some (.getstatic 38, 3)) (hm : aCo m = 12) : E (d, m, pc, ls, st, I) Q ↔ E (d, m, pc + 3, ls, .int 1 :: st, I) Q :=
  E_jmp (c := 3 = 3) (by rw [T_ins h]; unfold TI; dsimp only; rw [hm]; rfl) rfl
theorem e_getst_f (h : aIns m pc = some (.getstatic 1053, 3)) (hm : aCo m = 12) : E (d, m, pc, ls, st, I) Q ↔ E (d, m, pc + 3, ls, .ref 1030 :: st, I) Q :=
  E_jmp (c := 3 = 3) (by rw [T_ins h]; unfold TI; dsimp only; rw [hm]; rfl) rfl
theorem aShp_ne {c s : Nat} (h : aShp c = s) (hs : s ≠ 99) : c ≠ 1000 ∧ c ≠ 1001 ∧ c < 140 := by
  have := aShp_lt h hs
  omega
theorem e_alen {s : Nat} (h : aIns m pc = some (.arraylength, 1)) (hs : aShp c = s) (h1 : 20 ≤ s) (h2 : s ≤ 24) : E (d, m, pc, ls, .ref c :: st, I) Q ↔ E (d, m, pc + 1, ls, .int (nI (aLen c)) :: st, I) Q := by
  obtain ⟨n1, n2, n3⟩ := aShp_ne hs (by omega)
  have hal : aAl I c = aLen c := by unfold aAl; rw [if_neg n1, if_neg n2]
  rw [← hal]
  have hb : (Nat.ble 1020 c && Nat.blt c 1026) = false := by
    cases hq : Nat.ble 1020 c with
    | false => rfl
    | true => rw [Nat.ble_eq] at hq; omega
  refine E_jmp (c := 1 = 1 ∧ (aIA c ∨ (20 ≤ aShp c ∧ aShp c ≤ 24)) ∧ (c = 1000 → ¬ I 1002 0 < 0)) ?_ ⟨rfl, Or.inr (by omega), fun e => absurd e n1⟩
  rw [T_ins h]
  unfold TI aRef
  dsimp only
  rw [hb]
  rfl
theorem e_alen_s (h : aIns m pc = some (.arraylength, 1)) (hn : ¬ I 1002 0 < 0) : E (d, m, pc, ls, .ref 1000 :: st, I) Q ↔ E (d, m, pc + 1, ls, .int (nI (I 1002 0).toNatClampNeg) :: st, I) Q :=
  E_jmp (c := 1 = 1 ∧ (aIA 1000 ∨ (20 ≤ aShp 1000 ∧ aShp 1000 ≤ 24)) ∧ ((1000 : Nat) = 1000 → ¬ I 1002 0 < 0)) (T_ins h) ⟨rfl, Or.inl (Or.inl rfl), fun _ => hn⟩
theorem aS2B {c : Nat} (h : 1010 ≤ c ∧ c < 1016) : 1020 ≤ c + 10 ∧ c + 10 < 1026 := by omega
theorem e_alen_b (h : aIns m pc = some (.arraylength, 1)) (hi : 1020 ≤ c ∧ c < 1026) : E (d, m, pc, ls, .ref c :: st, I) Q ↔ E (d, m, pc + 1, ls, .int (nI (aStrBy (c - 1020)).length) :: st, I) Q := by
  have hb : (Nat.ble 1020 c && Nat.blt c 1026) = true := by
    simp only [Bool.and_eq_true, Nat.ble_eq, Nat.blt_eq]
    omega
  refine E_jmp (c := 1 = 1) ?_ rfl
  rw [T_ins h]
  unfold TI aRef
  dsimp only
  rw [hb]
  rfl
theorem e_iald (h : aIns m pc = some (.iaload, 1)) (hs : aShp c = 20) : E (d, m, pc, ls, .int j :: .ref c :: st, I) Q ↔ vp_in j (aLen c) ∧ E (d, m, pc + 1, ls, .int (I c j.toNatClampNeg) :: st, I) Q := by
  obtain ⟨n1, n2, n3⟩ := aShp_ne hs (by decide)
  have hal : aAl I c = aLen c := by unfold aAl; rw [if_neg n1, if_neg n2]
  have hrd : aRd I c j.toNatClampNeg = I c j.toNatClampNeg := by unfold aRd; rw [if_neg n2]
  rw [← hal, ← hrd]
  exact E_jmpc (T_ins h) ⟨fun q => q.2.2, fun q => ⟨rfl, Or.inr (Or.inr hs), q⟩⟩
theorem e_iald_u (h : aIns m pc = some (.iaload, 1)) : E (d, m, pc, ls, .int j :: .ref 1001 :: st, I) Q ↔ vp_in j 6 ∧ E (d, m, pc + 1, ls, .int (aUnder j.toNatClampNeg) :: st, I) Q := E_jmpc (T_ins h) ⟨fun q => q.2.2, fun q => ⟨rfl, Or.inr (Or.inl rfl), q⟩⟩
theorem e_iald_s (h : aIns m pc = some (.iaload, 1)) : E (d, m, pc, ls, .int j :: .ref 1000 :: st, I) Q ↔ vp_in j (I 1002 0).toNatClampNeg ∧ E (d, m, pc + 1, ls, .int (I 1000 j.toNatClampNeg) :: st, I) Q := E_jmpc (T_ins h) ⟨fun q => q.2.2, fun q => ⟨rfl, Or.inl rfl, q⟩⟩
theorem e_bald (h : aIns m pc = some (.baload, 1)) (hi : 1020 ≤ c ∧ c < 1026) : E (d, m, pc, ls, .int j :: .ref c :: st, I) Q ↔ vp_in j (aStrBy (c - 1020)).length ∧ E (d, m, pc + 1, ls, .int ((aStrBy (c - 1020)).getD j.toNatClampNeg 0) :: st, I) Q :=
  E_jmpc (T_ins h) ⟨fun q => q.2.2.2, fun q => ⟨rfl, hi.1, hi.2, q⟩⟩
theorem e_iast (h : aIns m pc = some (.iastore, 1)) (hs : aShp c = 20) : E (d, m, pc, ls, .int v :: .int j :: .ref c :: st, I) Q ↔ vp_in j (aLen c) ∧ E (d, m, pc + 1, ls, st, up I c j.toNatClampNeg v) Q := E_jmpc (T_ins h) ⟨fun q => q.2.2, fun q => ⟨rfl, hs, q⟩⟩
theorem e_aald {s : Nat} (h : aIns m pc = some (.aaload, 1)) (hs : aShp c = s) (h1 : 21 ≤ s) (h2 : s ≤ 24) : E (d, m, pc, ls, .int j :: .ref c :: st, I) Q ↔ vp_in j (aLen c) ∧ E (d, m, pc + 1, ls, .ref (aRf c j.toNatClampNeg) :: st, I) Q := E_jmpc (T_ins h) ⟨fun q => q.2.2.2, fun q => ⟨rfl, by omega, by omega, q⟩⟩
theorem e_getf_rc {f c' : Nat} (h : aIns m pc = some (.getfield f, 3)) (hf : aFld (aCo m) f = some (ci, k, ix)) (hk : Nat.beq (aFc ci k) 2 = true) (hs : aShp c = ci) (hr : aRf c k = c') : E (d, m, pc, ls, .ref c :: st, I) Q ↔ E (d, m, pc + 3, ls, .ref c' :: st, I) Q := by subst hr; exact e_getf_r h hf hk hs
theorem e_alen_n {s : Nat} {v : Int32} (h : aIns m pc = some (.arraylength, 1)) (hs : aShp c = s) (h1 : 20 ≤ s) (h2 : s ≤ 24) (hv : nI (aLen c) = v) : E (d, m, pc, ls, .ref c :: st, I) Q ↔ E (d, m, pc + 1, ls, .int v :: st, I) Q := by subst hv; exact e_alen h hs h1 h2
theorem vp_in_l {n N : Nat} (h : Nat.blt n N = true) (h2 : Nat.blt n 2147483648 = true) : vp_in (nI n) N := by
  simp only [Nat.blt_eq] at h h2
  unfold vp_in
  rw [nI_clamp (by omega)]
  rintro (q | q)
  · exact nI_pos (by omega) q
  · omega
theorem e_iald_l {n : Nat} (h : aIns m pc = some (.iaload, 1)) (hs : aShp c = 20) (hj : j = nI n) (h1 : Nat.blt n (aLen c) = true) (h2 : Nat.blt n 2147483648 = true) : E (d, m, pc, ls, .int j :: .ref c :: st, I) Q ↔ E (d, m, pc + 1, ls, .int (I c n) :: st, I) Q := by
  subst hj
  rw [e_iald h hs, and_iff_right (vp_in_l h1 h2), nI_clamp (by simpa using h2)]
theorem e_iald_n {n : Nat} (h : aIns m pc = some (.iaload, 1)) (hs : aShp c = 20) (hn : aLen c = n) : E (d, m, pc, ls, .int j :: .ref c :: st, I) Q ↔ vp_in j n ∧ E (d, m, pc + 1, ls, .int (I c j.toNatClampNeg) :: st, I) Q := by subst hn; exact e_iald h hs
theorem e_iast_l {n : Nat} (h : aIns m pc = some (.iastore, 1)) (hs : aShp c = 20) (hj : j = nI n) (h1 : Nat.blt n (aLen c) = true) (h2 : Nat.blt n 2147483648 = true) : E (d, m, pc, ls, .int v :: .int j :: .ref c :: st, I) Q ↔ E (d, m, pc + 1, ls, st, up I c n v) Q := by
  subst hj
  rw [e_iast h hs, and_iff_right (vp_in_l h1 h2), nI_clamp (by simpa using h2)]
theorem e_iast_n {n : Nat} (h : aIns m pc = some (.iastore, 1)) (hs : aShp c = 20) (hn : aLen c = n) : E (d, m, pc, ls, .int v :: .int j :: .ref c :: st, I) Q ↔ vp_in j n ∧ E (d, m, pc + 1, ls, st, up I c j.toNatClampNeg v) Q := by subst hn; exact e_iast h hs
theorem e_aald_n {s n : Nat} (h : aIns m pc = some (.aaload, 1)) (hs : aShp c = s) (h1 : 21 ≤ s) (h2 : s ≤ 24) (hn : aLen c = n) : E (d, m, pc, ls, .int j :: .ref c :: st, I) Q ↔ vp_in j n ∧ E (d, m, pc + 1, ls, .ref (aRf c j.toNatClampNeg) :: st, I) Q := by subst hn; exact e_aald h hs h1 h2
/-! calls -/
theorem e_cs {x q m' i1 i2 i3 : Nat} {as : List Value} {ent : List Value} (h : aIns m pc = some (.invokestatic x, 3)) (hx : (Nat.beq (aCo m) 7 && Nat.beq x 267) = false) (hc : aCall (aCo m) x = some (q, m', i1, i2, i3)) (hq : (Nat.beq q 0 || Nat.beq q 1) = true) (hn : as.length = aNp m') (he : aEnt m' as.reverse = ent) (hk : aCat st ≤ 8 ∧ (aLay as.reverse).length ≤ aML m' ∧ as.all aOk2 = true) : E (d + 1, m, pc, ls, as ++ st, I) Q ↔ E (d, m', 0, ent, [], I) (fun r I' => E (d + 1, m, pc + 3, ls, if aRet m' = none then st else r :: st, I') Q) := by
  subst he
  have e1 : (as ++ st).take (aNp m') = as := by rw [← hn]; simp
  have e2 : (as ++ st).drop (aNp m') = st := by rw [← hn]; simp
  have hT : T (d + 1, m, pc, ls, as ++ st, I) = aGo (d + 1) m pc ls (as ++ st) I m' (aNp m') := by
    rw [T_ins h]
    unfold TI
    dsimp only
    rw [hx]
    simp only [cond_false]
    rw [hc]
    dsimp only
    rw [hq]
    rfl
  unfold aGo at hT
  rw [e1, e2] at hT
  exact E_cal hT ⟨by omega, by rw [List.length_append]; omega, hk.1, hk.2.1, hk.2.2⟩
theorem e_cv {x m' i1 i2 i3 c0 : Nat} {as : List Value} {ent : List Value} (h : aIns m pc = some (.invokevirtual x, 3)) (hc : aCall (aCo m) x = some (2, m', i1, i2, i3)) (hn : as.length = aNp m') (he : aEnt m' (Value.ref c0 :: as.reverse) = ent) (hk : aCat st ≤ 8 ∧ (aLay (Value.ref c0 :: as.reverse)).length ≤ aML m' ∧ as.all aOk2 = true) (hr : aRecv m' c0) : E (d + 1, m, pc, ls, as ++ Value.ref c0 :: st, I) Q ↔ E (d, m', 0, ent, [], I) (fun r I' => E (d + 1, m, pc + 3, ls, if aRet m' = none then st else r :: st, I') Q) := by
  subst he
  have e1 : (as ++ Value.ref c0 :: st).take (aNp m' + 1) = as ++ [Value.ref c0] := by
    rw [← hn, show as ++ Value.ref c0 :: st = (as ++ [Value.ref c0]) ++ st by simp, List.take_append_of_le_length (by simp), List.take_of_length_le (by simp)]
  have e2 : (as ++ Value.ref c0 :: st).drop (aNp m' + 1) = st := by
    rw [← hn, show as ++ Value.ref c0 :: st = (as ++ [Value.ref c0]) ++ st by simp, List.drop_left' (by simp)]
  have e3 : (as ++ Value.ref c0 :: st).drop (aNp m') = Value.ref c0 :: st := by rw [← hn]; simp
  have hT : T (d + 1, m, pc, ls, as ++ Value.ref c0 :: st, I) = tC ((1 ≤ d + 1 ∧ aNp m' + 1 ≤ (as ++ Value.ref c0 :: st).length ∧ aCat st ≤ 8 ∧ (aLay (as ++ [Value.ref c0]).reverse).length ≤ aML m' ∧ (as ++ [Value.ref c0]).all aOk2 = true) ∧ aRecv m' c0) (d, m', 0, aEnt m' (as ++ [Value.ref c0]).reverse, [], I) (fun r I' => (d + 1, m, pc + 3, ls, if aRet m' = none then st else r :: st, I')) := by
    rw [T_ins h]
    unfold TI
    dsimp only
    rw [hc]
    dsimp only
    rw [show (Nat.beq 3 3 && Nat.beq 2 2) = true from rfl]
    simp only [cond_true]
    rw [e3]
    dsimp only
    unfold aGo
    rw [e1, e2]
    rfl
  have e4 : (as ++ [Value.ref c0]).reverse = Value.ref c0 :: as.reverse := by simp
  rw [e4] at hT
  exact E_cal hT ⟨⟨by omega, by simp; omega, hk.1, hk.2.1, by rw [List.all_append, hk.2.2]; rfl⟩, hr⟩
theorem e_max {f m0 i1 i2 i3 : Nat} (h : aIns m pc = some (.invokestatic f, 3)) (hx : (Nat.beq (aCo m) 7 && Nat.beq f 267) = false) (hc : aCall (aCo m) f = some (3, m0, i1, i2, i3)) (hk : aCat st ≤ 8) : E (d + 1, m, pc, ls, .int y :: .int x :: st, I) Q ↔ E (d + 1, m, pc + 3, ls, .int (if x < y then y else x) :: st, I) Q := by
  refine E_jmp (c := 3 = 3 ∧ 1 ≤ d + 1 ∧ aCat st ≤ 8) ?_ ⟨rfl, by omega, hk⟩
  rw [T_ins h]
  unfold TI
  dsimp only
  rw [hx]
  simp only [cond_false]
  rw [hc]
  rfl
theorem e_min {f m0 i1 i2 i3 : Nat} (h : aIns m pc = some (.invokestatic f, 3)) (hx : (Nat.beq (aCo m) 7 && Nat.beq f 267) = false) (hc : aCall (aCo m) f = some (4, m0, i1, i2, i3)) (hk : aCat st ≤ 8) : E (d + 1, m, pc, ls, .int y :: .int x :: st, I) Q ↔ E (d + 1, m, pc + 3, ls, .int (if y < x then y else x) :: st, I) Q := by
  refine E_jmp (c := 3 = 3 ∧ 1 ≤ d + 1 ∧ aCat st ≤ 8) ?_ ⟨rfl, by omega, hk⟩
  rw [T_ins h]
  unfold TI
  dsimp only
  rw [hx]
  simp only [cond_false]
  rw [hc]
  rfl
theorem e_abs {f m0 i1 i2 i3 : Nat} (h : aIns m pc = some (.invokestatic f, 3)) (hx : (Nat.beq (aCo m) 7 && Nat.beq f 267) = false) (hc : aCall (aCo m) f = some (5, m0, i1, i2, i3)) (hk : aCat st ≤ 8) : E (d + 1, m, pc, ls, .int x :: st, I) Q ↔ E (d + 1, m, pc + 3, ls, .int (if 0 ≤ x then x else 0 - x) :: st, I) Q := by
  refine E_jmp (c := 3 = 3 ∧ 1 ≤ d + 1 ∧ aCat st ≤ 8) ?_ ⟨rfl, by omega, hk⟩
  rw [T_ins h]
  unfold TI
  dsimp only
  rw [hx]
  simp only [cond_false]
  rw [hc]
  rfl
theorem e_copy {k dp sp : Int32} {a b : Nat} (h : aIns m pc = some (.invokestatic 267, 3)) (hm : aCo m = 7) (hk : aCat st ≤ 8) (ha : aShp a = 20) (hb : aShp b = 20) : E (d + 1, m, pc, ls, .int k :: .int dp :: .ref b :: .int sp :: .ref a :: st, I) Q ↔ (¬ sp < 0 ∧ ¬ dp < 0 ∧ ¬ k < 0 ∧ sp.toNatClampNeg + k.toNatClampNeg ≤ aLen a ∧ dp.toNatClampNeg + k.toNatClampNeg ≤ aLen b) ∧ E (d + 1, m, pc + 3, ls, st, fun c' => if c' = b then va_cpy (I a) (I b) sp.toNatClampNeg dp.toNatClampNeg k.toNatClampNeg else I c') Q := by
  refine E_jmpc (c := 3 = 3 ∧ 1 ≤ d + 1 ∧ aCat st ≤ 8 ∧ aShp a = 20 ∧ aShp b = 20 ∧ ¬ sp < 0 ∧ ¬ dp < 0 ∧ ¬ k < 0 ∧ sp.toNatClampNeg + k.toNatClampNeg ≤ aLen a ∧ dp.toNatClampNeg + k.toNatClampNeg ≤ aLen b) ?_ ⟨fun q => q.2.2.2.2.2, fun q => ⟨rfl, by omega, hk, ha, hb, q⟩⟩
  rw [T_ins h]
  unfold TI
  dsimp only
  rw [hm]
  rfl
/-! returns -/
theorem e_iret (h : aIns m pc = some (.ireturn, 1)) (hr : aRet m = some .int) : E (d, m, pc, ls, [.int v], I) Q ↔ Q (.int v) I := E_ret (T_ins h) ⟨rfl, by rw [hr]; exact vp_nar_int v⟩
theorem e_zret (h : aIns m pc = some (.ireturn, 1)) (hr : aRet m = some .boolean) (hv : v = 0 ∨ v = 1) : E (d, m, pc, ls, [.int v], I) Q ↔ Q (.int v) I := E_ret (T_ins h) ⟨rfl, by rw [hr]; exact hv.elim (fun e => by subst e; exact (show narrow .boolean (.int 0) = .int 0 by decide +kernel)) (fun e => by subst e; exact (show narrow .boolean (.int 1) = .int 1 by decide +kernel))⟩
theorem e_zretc (h : aIns m pc = some (.ireturn, 1)) (hr : aRet m = some .boolean) : E (d, m, pc, ls, [.int v], I) Q ↔ aNar (some .boolean) v ∧ Q (.int v) I := E_retc (T_ins h) ⟨fun q => by rw [← hr]; exact q.2, fun q => ⟨rfl, by rw [hr]; exact q⟩⟩
theorem e_xret {ty : FieldType} (h : aIns m pc = some (.ireturn, 1)) (hr : aRet m = some ty) : E (d, m, pc, ls, [.int v], I) Q ↔ aNar (some ty) v ∧ Q (.int v) I := E_retc (T_ins h) ⟨fun q => by rw [← hr]; exact q.2, fun q => ⟨rfl, by rw [hr]; exact q⟩⟩
theorem e_vret (h : aIns m pc = some (.return_, 1)) (hr : aRet m = none) : E (d, m, pc, ls, [], I) Q ↔ Q .null I := E_ret (T_ins h) ⟨rfl, hr⟩
theorem e_aret {w : Value} {kn : String} (h : aIns m pc = some (.areturn, 1)) (hr : aRet m = some (.object kn)) (hw : aIsR w = true) : E (d, m, pc, ls, [w], I) Q ↔ Q w I := E_ret (T_ins h) ⟨rfl, hw, Or.inl ⟨_, hr⟩⟩
theorem e_lret {w : Int64} (h : aIns m pc = some (.lreturn, 1)) (hr : aRet m = some .long) : E (d, m, pc, ls, [.long w], I) Q ↔ Q (.long w) I := E_ret (T_ins h) ⟨rfl, hr⟩
end EL
