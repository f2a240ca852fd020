/-! what the machine's heap holds when the abstract machine has the ints I -/
/-- base, old addresses, the formatter of the JDK (never used), numbers of the classes, their slots, classes of the arrays -/
abbrev GG : Type := Nat × (Nat → Nat) × Value × (Nat → ClassId) × (Nat → Nat → Nat) × (Nat → ClassId)
def gAdr (g : GG) (c : Nat) : Nat := if c < 1000 then g.1 + c else g.2.1 (c - 1000)
def trv (g : GG) (v : Value) : Value := match v with
  | .ref c => if c = 1030 then g.2.2.1 else .ref (gAdr g c)
  | .int x => .int x
  | .long x => .long x
  | .null => .null
  | .float x => .float x
  | .double x => .double x
  | .retAddr x => .retAddr x
def gA (g : GG) : Nat → Prop := fun q => g.1 ≤ q
def gD (g : GG) : va_G := (g.2.2.2.1, g.2.2.2.2.1)
def gC (g : GG) (k : Nat) : ClassId := g.2.2.2.2.2 k
def gTys (g : GG) : List (ClassId × FieldType) := [(gC g 0, .int), (gC g 1, .object RX0), (gC g 2, .object RX2), (gC g 3, .object RX4), (gC g 4, .object RX5)]
def gFm (g : GG) : Prop := g.2.2.1 = .null ∨ ∃ a, g.2.2.1 = .ref a
def aFv (g : GG) (c ci : Nat) (row : Nat → Int32) (k : Nat) : Value := bif Nat.beq (aFc ci k) 2 then .ref (g.1 + aRf c k) else .int (row k)
def aEn (g : GG) (c : Nat) (row : Nat → Int32) : va_E :=
  if aShp c < 9 then .inr (aShp c, (List.range (aNf (aShp c))).map (aFv g c (aShp c) row))
  else if aShp c = 20 then .inl (gC g 0, aLen c, .inl row)
  else .inl (gC g (aShp c - 20), aLen c, .inr (.inr (.inr (.inr (fun j => some (g.1 + aRf c j))))))
def aW (g : GG) (I : IM) : va_W := (List.range 140).map (fun c => (g.1 + c, aEn g c (I c)))
def aWorld (g : GG) (I : IM) (H : Heap) (U : State) : Prop := va_P (gD g) vwCl9 (aW g I) H ∧ va_K (gD g) vwCl9 (gTys g) U ∧ va_X (g.2.1 0) (I 1002 0).toNatClampNeg (I 1000) U H
def aOld (g : GG) (U : State) (H : Heap) : Prop :=
  gFm g ∧ g.2.1 0 < g.1 ∧ g.1 ≤ H.size ∧
  va_Z "TwelveShort" "UNDER" "[I" (.ref (g.2.1 1)) (gA g) U H ∧ va_T .int (g.2.1 1) 6 (fun j => .int (aUnder j)) (gA g) U H ∧
  vk_S 6 ((List.range 6).map fun i => (aStrBy i).length) ((List.range 6).map aStrBy) (fun i => g.2.1 (10 + i)) (fun i => g.2.1 (20 + i)) (gA g) U H ∧
  (∀ i, i < 6 → vk_R RX3 (aStrIx i) (aStrTx i) (g.2.1 (10 + i)) U) ∧
  va_Z "java/lang/String" "COMPACT_STRINGS" "Z" (.int 1) (gA g) U H ∧
  va_Z "jdk/internal/util/Preconditions" "SIOOBE_FORMATTER" "Ljava/util/function/BiFunction;" g.2.2.1 (gA g) U H ∧
  (∀ q ∈ aCallL, q.2.1 = 1 → va_Nw (.methodLinkNest (aOwn q.1) (q.1 % 10000) (aName q.2.2.1) "TwelveShort") U) ∧
  va_Nw (.fieldLinkNest RX0 31 "TwelveShort" "UNDER" "[I" "TwelveShort") U
theorem aOld.go {g : GG} {s t : State} {H H1 : Heap} (h : aOld g s H) (hW : s.WarmedH t.vm) (hz : H.size ≤ H1.size) (hk : ∀ a : Nat, a < H.size → ¬ gA g a → H1[a]? = H[a]?) : aOld g t H1 := by
  obtain ⟨h1, h2, h3, h4, h5, h6, h7, h8, h9, h10, h11⟩ := h
  exact ⟨h1, h2, Nat.le_trans h3 hz, (h4.moved hW.alike).kept hk, (h5.moved hW.alike).kept hk, (h6.moved hW.alike).kept hk, fun i hi => (h7 i hi).warm hW, (h8.moved hW.alike).kept hk, (h9.moved hW.alike).kept hk, fun q hq h => (h10 q hq h).warmM hW, h11.warmF hW⟩
theorem aWorld.moved {g : GG} {I : IM} {H : Heap} {u U : State} (hvm : u.vm.Alike U.vm) (h : aWorld g I H u) : aWorld g I H U := ⟨h.1, h.2.1.moved hvm, h.2.2.moved hvm⟩
theorem trv_cat {g : GG} (hf : gFm g) (v : Value) : (trv g v).category = v.category := by
  cases v with
  | ref c =>
    unfold trv
    dsimp only
    by_cases h : c = 1030
    · rw [if_pos h]
      rcases hf with h1 | ⟨a, h1⟩ <;> rw [h1] <;> rfl
    · rw [if_neg h]; rfl
  | _ => rfl
theorem trv_in {g : GG} {c : Nat} (h : c < 140) : trv g (.ref c) = .ref (g.1 + c) := by
  unfold trv gAdr
  dsimp only
  rw [if_neg (show ¬ c = 1030 by omega), if_pos (show c < 1000 by omega)]
theorem trv_old {g : GG} {c : Nat} (h : 1000 ≤ c) (h2 : c ≠ 1030) : trv g (.ref c) = .ref (g.2.1 (c - 1000)) := by
  unfold trv gAdr
  dsimp only
  rw [if_neg h2, if_neg (show ¬ c < 1000 by omega)]
theorem aCat_trv {g : GG} (hf : gFm g) (st : List Value) : ((st.map (trv g)).map fun v => v.category).sum = aCat st := by
  unfold aCat
  rw [List.map_map]
  congr 1
  apply List.map_congr_left
  intro v _
  exact trv_cat hf v
theorem aShp_lt {c s : Nat} (h : aShp c = s) (hs : s ≠ 99) : c < 140 := by
  rcases Nat.lt_or_ge c 140 with h1 | h1
  · exact h1
  · exfalso
    apply hs
    rw [← h]
    unfold aShp
    rw [List.getD_eq_getElem?_getD, List.getElem?_eq_none (by exact h1)]
    rfl
theorem aW_at (g : GG) (I : IM) {c : Nat} (h : c < 140) : (aW g I)[c]? = some (g.1 + c, aEn g c (I c)) := by
  unfold aW
  rw [List.getElem?_map, List.getElem?_range h]
  rfl
theorem aW_set (g : GG) (I : IM) {c : Nat} (row : Nat → Int32) (h : c < 140) : (aW g I).set c (g.1 + c, aEn g c row) = aW g (fun c' => if c' = c then row else I c') := by
  apply List.ext_getElem?
  intro k
  by_cases hk : k < 140
  · rw [aW_at g _ hk]
    by_cases hc : k = c
    · subst hc
      rw [List.getElem?_set_self (by unfold aW; simpa using hk), if_pos rfl]
    · rw [List.getElem?_set_ne (Ne.symm hc), aW_at g _ hk, if_neg hc]
  · rw [List.getElem?_eq_none (by simp [aW]; omega), List.getElem?_eq_none (by simp [aW]; omega)]
theorem aW_D (g : GG) (I : IM) : va_D (gA g) (aW g I) := by
  have key : ∀ (k : Nat) (q : Nat × va_E), (aW g I)[k]? = some q → q.1 = g.1 + k := by
    intro k q hq
    have hk : k < 140 := by
      have := (List.getElem?_eq_some_iff.mp hq).1
      simpa [aW] using this
    rw [aW_at g I hk] at hq
    cases hq
    rfl
  refine ⟨fun i j p q hi hj h => ?_, fun k q hk => ?_⟩
  · rw [key i p hi, key j q hj] at h
    omega
  · rw [key k q hk]
    exact Nat.le_add_right _ _
/-! the locals -/
def aLoc (g : GG) (lsA : Array Slot) (n : Nat) (ls : List Value) : Prop := lsA.size = n ∧ lv_wf lsA ∧ ∀ (i : Nat) (v : Value), ls[i]? = some v → v ≠ UN → lsA[i]? = some (.val (trv g v))
def aPs (g : GG) (ls : List Value) : List (Nat × Value) := (List.range ls.length).filterMap (fun i => match ls[i]? with
  | some v => if v = UN then none else some (i, trv g v)
  | none => none)
theorem aPs_mem {g : GG} {ls : List Value} {q : Nat × Value} : q ∈ aPs g ls ↔ ∃ v, ls[q.1]? = some v ∧ v ≠ UN ∧ q.2 = trv g v := by
  unfold aPs
  rw [List.mem_filterMap]
  constructor
  · rintro ⟨i, -, hi⟩
    cases hv : ls[i]? with
    | none => rw [hv] at hi; cases hi
    | some v =>
      rw [hv] at hi
      dsimp only at hi
      by_cases hu : v = UN
      · rw [if_pos hu] at hi; cases hi
      · rw [if_neg hu] at hi
        cases hi
        exact ⟨v, hv, hu, rfl⟩
  · rintro ⟨v, h1, h2, h3⟩
    refine ⟨q.1, List.mem_range.mpr (List.getElem?_eq_some_iff.mp h1).1, ?_⟩
    rw [h1]
    dsimp only
    rw [if_neg h2, ← h3]
theorem aLoc.has {g : GG} {lsA : Array Slot} {n : Nat} {ls : List Value} (h : aLoc g lsA n ls) : lv_has lsA n (aPs g ls) := by
  refine ⟨h.1, h.2.1, fun q hq => ?_⟩
  obtain ⟨v, h1, h2, h3⟩ := aPs_mem.mp hq
  rw [h3]
  exact h.2.2 _ _ h1 h2
theorem aLoc.st1 {g : GG} {lsA : Array Slot} {n k : Nat} {ls : List Value} {v : Value} (hf : gFm g) (ok : aOkS ls k = true) (h : lv_has lsA n ((k, trv g v) :: (aPs g ls).filter (fun q => !(q.1 == k) && !(q.1 + 1 == k && q.2.category == 2)))) : aLoc g lsA n (ls.set k v) := by
  refine ⟨h.1, h.2.1, fun i w hi hw => ?_⟩
  by_cases hik : i = k
  · subst hik
    have hl : i < ls.length := by
      have := (List.getElem?_eq_some_iff.mp hi).1
      simpa using this
    rw [List.getElem?_set_self hl] at hi
    cases hi
    exact h.2.2 _ List.mem_cons_self
  · rw [List.getElem?_set_ne (Ne.symm hik)] at hi
    refine h.2.2 (i, trv g w) (List.mem_cons_of_mem _ (List.mem_filter.mpr ⟨aPs_mem.mpr ⟨w, hi, hw, rfl⟩, ?_⟩))
    simp only [Bool.and_eq_true, Bool.not_eq_true', beq_eq_false_iff_ne, ne_eq, Bool.and_eq_false_iff]
    refine ⟨hik, ?_⟩
    by_cases h1 : i + 1 = k
    · right
      subst h1
      rw [trv_cat hf]
      unfold aOkS at ok
      dsimp only at ok
      rw [hi] at ok
      cases w <;> simp [Value.category] at ok ⊢
    · exact Or.inl h1
theorem aLoc.st2 {g : GG} {lsA : Array Slot} {n k : Nat} {ls : List Value} {x : Int64} (hf : gFm g) (ok : aOkS ls k = true) (h : lv_has lsA n ((k, Value.long x) :: (aPs g ls).filter (fun q => !(q.1 == k) && (!(q.1 == k + 1) && !(q.1 + 1 == k && q.2.category == 2))))) : aLoc g lsA n ((ls.set k (.long x)).set (k + 1) UN) := by
  refine ⟨h.1, h.2.1, fun i w hi hw => ?_⟩
  by_cases hik1 : i = k + 1
  · subst hik1
    have hl : k + 1 < (ls.set k (.long x)).length := by
      have := (List.getElem?_eq_some_iff.mp hi).1
      simpa using this
    rw [List.getElem?_set_self hl] at hi
    cases hi
    exact absurd rfl hw
  · rw [List.getElem?_set_ne (Ne.symm hik1)] at hi
    by_cases hik : i = k
    · subst hik
      have hl : i < ls.length := by
        have := (List.getElem?_eq_some_iff.mp hi).1
        simpa using this
      rw [List.getElem?_set_self hl] at hi
      cases hi
      exact h.2.2 _ List.mem_cons_self
    · rw [List.getElem?_set_ne (Ne.symm hik)] at hi
      refine h.2.2 (i, trv g w) (List.mem_cons_of_mem _ (List.mem_filter.mpr ⟨aPs_mem.mpr ⟨w, hi, hw, rfl⟩, ?_⟩))
      simp only [Bool.and_eq_true, Bool.not_eq_true', beq_eq_false_iff_ne, ne_eq, Bool.and_eq_false_iff]
      refine ⟨hik, hik1, ?_⟩
      by_cases h1 : i + 1 = k
      · right
        subst h1
        rw [trv_cat hf]
        unfold aOkS at ok
        dsimp only at ok
        rw [hi] at ok
        cases w <;> simp [Value.category] at ok ⊢
      · exact Or.inl h1
theorem aLay_args (g : GG) (hf : gFm g) (as : List Value) : ∀ (k i : Nat) (v : Value), (aLay as)[i]? = some v → v ≠ UN → (k + i, trv g v) ∈ lv_args k (as.map (trv g)) := by
  induction as with
  | nil => intro k i v h; simp [aLay] at h
  | cons a as ih =>
    intro k i v h hv
    show _ ∈ lv_args k (trv g a :: as.map (trv g))
    unfold lv_args
    rw [trv_cat hf]
    unfold aLay at h
    by_cases hc : a.category = 2
    · rw [if_pos hc] at h ⊢
      match i, h with
      | 0, h => cases h; exact List.mem_cons_self
      | 1, h => cases h; exact absurd rfl hv
      | i + 2, h =>
        have := ih (k + 2) i v h hv
        exact List.mem_cons_of_mem _ (by rw [show k + (i + 2) = k + 2 + i by omega]; exact this)
    · rw [if_neg hc] at h ⊢
      match i, h with
      | 0, h => cases h; exact List.mem_cons_self
      | i + 1, h =>
        have := ih (k + 1) i v h hv
        exact List.mem_cons_of_mem _ (by rw [show k + (i + 1) = k + 1 + i by omega]; exact this)
theorem aLay_len (g : GG) (hf : gFm g) (as : List Value) : (lg_sl (as.map (trv g))).length = (aLay as).length := by
  induction as with
  | nil => rfl
  | cons a as ih =>
    unfold lg_sl at ih ⊢
    unfold aLay
    rw [List.map_cons, List.flatMap_cons, List.length_append, ih, trv_cat hf]
    by_cases hc : a.category = 2
    · rw [if_pos hc, if_pos hc]; simp; omega
    · rw [if_neg hc, if_neg hc]; simp; omega
theorem aLoc_ent (g : GG) (hf : gFm g) {m : Nat} {as : List Value} (h : (aLay as).length ≤ aML m) : aLoc g ((lg_sl (as.map (trv g)) ++ List.replicate (aML m - (lg_sl (as.map (trv g))).length) Slot.unset).toArray) (aML m) (aEnt m as) := by
  have hl := lv_entry (as.map (trv g)) (n := aML m) (by rw [aLay_len g hf]; exact h)
  refine ⟨hl.1, hl.2.1, fun i v hi hv => ?_⟩
  unfold aEnt at hi
  by_cases hk : i < (aLay as).length
  · rw [List.getElem?_append_left hk] at hi
    have := aLay_args g hf as 0 i v hi hv
    rw [Nat.zero_add] at this
    exact hl.2.2 _ this
  · rw [List.getElem?_append_right (by omega)] at hi
    have := List.mem_of_getElem? hi
    rw [List.mem_replicate] at this
    exact absurd this.2 hv
