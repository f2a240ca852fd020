/-! no step writes what is old -/
def okT (I : IM) (t : Tr) : Prop := match t with
  | .inl q => q.1 → fz I q.2.2.2.2.2.2
  | .inr (.inl q) => fz I q.2.1.2.2.2.2.2 ∧ fz I q.2.2.2.2.2.2.2
  | .inr (.inr (.inl q)) => fz I q.2.1.2.2.2.2.2 ∧ ∀ (r : Value) (I' : IM), (q.2.2 r I').2.2.2.2.2 = I'
  | .inr (.inr (.inr q)) => q.1 → fz I q.2.2
theorem fz.rf {I : IM} : fz I I := fun _ _ => rfl
theorem okT_X {I : IM} : okT I tX := fun h => absurd h id
theorem okT_J {I : IM} {c : Prop} {d m pc : Nat} {ls st : List Value} : okT I (tJ c (d, m, pc, ls, st, I)) := fun _ => fz.rf
theorem okT_bin {I : IM} {st : List Value} {f : Int32 → Int32 → List Value → Tr} (h : ∀ x y r, okT I (f x y r)) : okT I (aBin st f) := by
  unfold aBin
  split
  · exact h _ _ _
  · exact okT_X
theorem okT_uni {I : IM} {st : List Value} {f : Int32 → List Value → Tr} (h : ∀ x r, okT I (f x r)) : okT I (aUni st f) := by
  unfold aUni
  split
  · exact h _ _
  · exact okT_X
theorem okT_ref {I : IM} {st : List Value} {f : Nat → List Value → Tr} (h : ∀ x r, okT I (f x r)) : okT I (aRef st f) := by
  unfold aRef
  split
  · exact h _ _
  · exact okT_X
theorem okT_li {I : IM} {ls : List Value} {k : Nat} {f : Int32 → Tr} (h : ∀ x, okT I (f x)) : okT I (aLdI ls k f) := by
  unfold aLdI
  split
  · exact h _
  · exact okT_X
theorem okT_ll {I : IM} {ls : List Value} {k : Nat} {f : Int64 → Tr} (h : ∀ x, okT I (f x)) : okT I (aLdL ls k f) := by
  unfold aLdL
  split
  · exact h _
  · exact okT_X
theorem okT_bif {I : IM} {b : Bool} {s t : Tr} (h1 : okT I s) (h2 : okT I t) : okT I (bif b then s else t) := by
  cases b
  · exact h2
  · exact h1
theorem okT_la {I : IM} {ls : List Value} {k : Nat} {f : Value → Tr} (h : ∀ x, okT I (f x)) : okT I (aLdA ls k f) := by
  unfold aLdA
  split
  · exact okT_bif (h _) okT_X
  · exact okT_X
theorem okT_go {I : IM} {d m pc m' n : Nat} {ls st : List Value} : okT I (aGo d m pc ls st I m' n) := ⟨fz.rf, fun _ _ => rfl⟩
theorem okT_up {I : IM} {c : Prop} {d m pc k b : Nat} {ls st : List Value} {v : Int32} (h : c → b < 140) : okT I (tJ c (d, m, pc, ls, st, up I b k v)) := fun hc c' hc' => up_c (by have := h hc; omega)
theorem aFf99 (k : Nat) : aFf 99 k = 1 := by
  show (aFfL.getD 99 []).getD k 1 = 1
  rw [show aFfL.getD 99 [] = [] by decide]
  rfl
set_option maxHeartbeats 4000000 in
theorem okT_TI {i : Instr} {n d m pc : Nat} {ls st : List Value} {I : IM} : okT I (TI i n d m pc ls st I) := by
  cases i with
  | iconst a0 => exact okT_J
  | bipush a0 => exact okT_J
  | sipush a0 => exact okT_J
  | lconst a0 => exact okT_J
  | aconst_null => exact okT_J
  | ldc a0 =>
    unfold TI
    dsimp only
    split
    · exact okT_J
    · split
      · exact okT_J
      · exact okT_X
  | ldc_w a0 =>
    unfold TI
    dsimp only
    split
    · exact okT_J
    · exact okT_X
  | ldc2_w a0 =>
    unfold TI
    dsimp only
    split
    · exact okT_J
    · exact okT_X
  | iload_n a0 => exact okT_li (fun _ => okT_J)
  | iload a0 => exact okT_li (fun _ => okT_J)
  | lload_n a0 => exact okT_ll (fun _ => okT_J)
  | lload a0 => exact okT_ll (fun _ => okT_J)
  | aload_n a0 => exact okT_la (fun _ => okT_J)
  | aload a0 => exact okT_la (fun _ => okT_J)
  | istore_n a0 => exact okT_uni (fun _ _ => okT_J)
  | istore a0 => exact okT_uni (fun _ _ => okT_J)
  | lstore_n a0 =>
    unfold TI
    dsimp only
    split
    · exact okT_J
    · exact okT_X
  | lstore a0 =>
    unfold TI
    dsimp only
    split
    · exact okT_J
    · exact okT_X
  | astore_n a0 =>
    unfold TI
    dsimp only
    split
    · exact okT_J
    · exact okT_X
  | astore a0 =>
    unfold TI
    dsimp only
    split
    · exact okT_J
    · exact okT_X
  | iinc a0 a1 => exact okT_li (fun _ => okT_J)
  | iadd => exact okT_bin (fun _ _ _ => okT_J)
  | isub => exact okT_bin (fun _ _ _ => okT_J)
  | imul => exact okT_bin (fun _ _ _ => okT_J)
  | idiv => exact okT_bin (fun _ _ _ => okT_J)
  | irem => exact okT_bin (fun _ _ _ => okT_J)
  | iand => exact okT_bin (fun _ _ _ => okT_J)
  | ior => exact okT_bin (fun _ _ _ => okT_J)
  | ishl => exact okT_bin (fun _ _ _ => okT_J)
  | ishr => exact okT_bin (fun _ _ _ => okT_J)
  | iushr => exact okT_bin (fun _ _ _ => okT_J)
  | ineg => exact okT_uni (fun _ _ => okT_J)
  | i2l => exact okT_uni (fun _ _ => okT_J)
  | i2s => exact okT_uni (fun _ _ => okT_J)
  | i2b => exact okT_uni (fun _ _ => okT_J)
  | i2c => exact okT_uni (fun _ _ => okT_J)
  | l2i =>
    unfold TI
    dsimp only
    split
    · exact okT_J
    · exact okT_X
  | ladd =>
    unfold TI
    dsimp only
    split
    · exact okT_J
    · exact okT_X
  | lcmp =>
    unfold TI
    dsimp only
    split
    · exact okT_J
    · exact okT_X
  | dup =>
    unfold TI
    dsimp only
    split
    · exact okT_J
    · exact okT_X
  | dup2 =>
    unfold TI
    dsimp only
    split
    · exact okT_J
    · exact okT_X
  | pop =>
    unfold TI
    dsimp only
    split
    · exact okT_J
    · exact okT_X
  | goto a0 => exact okT_J
  | ifCond a0 a1 => exact okT_uni (fun _ _ => okT_bif ⟨fz.rf, fz.rf⟩ okT_X)
  | if_icmp a0 a1 => exact okT_bin (fun _ _ _ => okT_bif ⟨fz.rf, fz.rf⟩ okT_X)
  | ifnull a0 =>
    unfold TI
    dsimp only
    split
    · exact okT_J
    · exact okT_J
    · exact okT_X
  | ifnonnull a0 =>
    unfold TI
    dsimp only
    split
    · exact okT_J
    · exact okT_J
    · exact okT_X
  | tableswitch a0 a1 a2 a3 => exact okT_uni (fun _ _ => okT_J)
  | lookupswitch a0 a1 => exact okT_uni (fun _ _ => okT_J)
  | getfield a0 =>
    refine okT_ref (fun x r => ?_)
    split
    · exact okT_bif okT_J okT_J
    · exact okT_bif (okT_bif okT_J (okT_bif okT_J okT_X)) okT_X
  | putfield a0 =>
    unfold TI
    dsimp only
    split
    · split
      · refine okT_up (fun h => aShp_lt h.2.1 (fun e => ?_))
        have := h.2.2.1
        rw [e, aFf99] at this
        exact absurd this (by decide)
      · exact okT_X
    · exact okT_X
  | getstatic a0 => exact okT_bif okT_J (okT_bif okT_J (okT_bif okT_J okT_X))
  | arraylength => exact okT_ref (fun _ _ => okT_bif okT_J okT_J)
  | iaload =>
    unfold TI
    dsimp only
    split
    · exact okT_J
    · exact okT_X
  | baload =>
    unfold TI
    dsimp only
    split
    · exact okT_J
    · exact okT_X
  | iastore =>
    unfold TI
    dsimp only
    split
    · exact okT_up (fun h => aShp_lt h.2.1 (by decide))
    · exact okT_X
  | aaload =>
    unfold TI
    dsimp only
    split
    · exact okT_J
    · exact okT_X
  | invokestatic a0 =>
    unfold TI
    dsimp only
    refine okT_bif ?_ ?_
    · split
      · intro h c hc
        have hb := aShp_lt h.2.2.2.2.1 (by decide)
        dsimp only
        rw [if_neg (by omega)]
      · exact okT_X
    · split
      · exact okT_bif okT_go (okT_bif (okT_bin (fun _ _ _ => okT_J)) (okT_bif (okT_bin (fun _ _ _ => okT_J)) (okT_bif (okT_uni (fun _ _ => okT_J)) okT_X)))
      · exact okT_X
  | invokevirtual a0 =>
    unfold TI
    dsimp only
    split
    · refine okT_bif ?_ okT_X
      split
      · exact ⟨fz.rf, fun _ _ => rfl⟩
      · exact okT_X
    · exact okT_X
  | ireturn =>
    unfold TI
    dsimp only
    split
    · exact fun _ => fz.rf
    · exact okT_X
  | return_ =>
    unfold TI
    dsimp only
    split
    · exact fun _ => fz.rf
    · exact okT_X
  | areturn =>
    unfold TI
    dsimp only
    split
    · exact fun _ => fz.rf
    · exact okT_X
  | lreturn =>
    unfold TI
    dsimp only
    split
    · exact fun _ => fz.rf
    · exact okT_X
  | _ => exact okT_X
theorem okT_T (s : St) : okT s.2.2.2.2.2 (T s) := by
  obtain ⟨d, m, pc, ls, st, I⟩ := s
  show okT I (match aIns m pc with | some q => TI q.1 q.2 d m pc ls st I | none => tX)
  cases aIns m pc with
  | none => exact okT_X
  | some q => exact okT_TI
theorem E_fz {s : St} {Q : Po} (h : E s Q) : E s (fun r I' => Q r I' ∧ fz s.2.2.2.2.2 I') := by
  refine h (fun s Q => E s (fun r I' => Q r I' ∧ fz s.2.2.2.2.2 I')) ?_
  intro s Q k
  apply E_of
  have ok := okT_T s
  generalize T s = t at k ok
  obtain q | q | q | q := t
  · exact ⟨k.1, E_monoQ k.2 (fun r I' h => ⟨h.1, (ok k.1).tr h.2⟩)⟩
  · exact ⟨fun c => E_monoQ (k.1 c) (fun r I' h => ⟨h.1, ok.1.tr h.2⟩), fun c => E_monoQ (k.2 c) (fun r I' h => ⟨h.1, ok.2.tr h.2⟩)⟩
  · obtain ⟨k1, R, k2, k3⟩ := k
    refine ⟨k1, _, k2, fun r I' hr => E_monoQ (k3 r I' hr.1) (fun r2 I2 h => ⟨h.1, ?_⟩)⟩
    have h2 := h.2
    rw [ok.2 r I'] at h2
    exact (ok.1.tr hr.2).tr h2
  · exact ⟨k.1, k.2, ok k.1⟩
theorem Rn.fz {d m pc : Nat} {ls st : List Value} {I I' : IM} {r : Value} (h : Rn (d, m, pc, ls, st, I) r I') : fz I I' := by
  have a : E (d, m, pc, ls, st, I) (fun r2 I2 => r2 = r ∧ I2 = I') := (h _).mpr ⟨rfl, rfl⟩
  exact ((h _).mp (E_fz a)).2
