/-! the abstract machine's steps are the machine's -/
def aCx (g : GG) (p : Program) (R : Room) (s0 : State) (mi : MethodId) (args : Array Value) (c : Code) (cells slots d m : Nat) : Prop :=
  p.tables.exec = Jvm.exec ∧ c.code = aBytes m ∧ c.maxLocals = aML m ∧ s0.vm.findClass (aCls m) = some mi.cls ∧ (∀ w ∈ aTG, w.before args s0 = true) ∧ d ≤ R.frames ∧ 60 * d ≤ R.locals ∧ cells ≤ R.cells ∧ slots ≤ R.slots
def aRst (g : GG) (m : Nat) (r : Value) : List Value := if aRet m = none then [] else [trv g r]
def aRok (m : Nat) (i : Instr) (r : Value) : Prop := match i with
  | .ireturn => ∃ v, r = .int v ∧ aNar (aRet m) v
  | .return_ => aRet m = none
  | .areturn => aIsR r = true ∧ ((∃ k, aRet m = some (.object k)) ∨ ∃ t, aRet m = some (.array t))
  | .lreturn => ∃ v, r = .long v ∧ aRet m = some .long
  | _ => False
def aBk (g : GG) (m : Nat) (Q : Po) (p : Program) (l : Launch) (e : Env) (R : Room) (s0 : State) (mi : MethodId) (args : Array Value) (below : List Frame) (meth : Method) (c : Code) (cells slots : Nat) (Z : State → Prop) : Prop :=
  ∀ (r : Value) (I : IM) (H : Heap) (locs : List Loc) (pc : Nat) (lsA : Array Slot) (i : Instr), Q r I → aWorld g I H s0 → va_S (gA g) s0.heap H locs → aIns m pc = some (i, 1) → aRok m i r →
    W p l e R s0 mi args below meth c H locs cells slots Z (F0 mi pc lsA (aRst g m r))
def Sh (s : St) (Q : Po) : Prop := ∀ (g : GG) (p : Program) (l : Launch) (e : Env) (R : Room) (s0 : State) (mi : MethodId) (args : Array Value) (below : List Frame) (meth : Method) (c : Code) (H : Heap) (locs : List Loc) (cells slots : Nat) (Z : State → Prop) (lsA : Array Slot),
  aCx g p R s0 mi args c cells slots s.1 s.2.1 → aWorld g s.2.2.2.2.2 H s0 → aOld g s0 s0.heap → va_S (gA g) s0.heap H locs → aLoc g lsA (aML s.2.1) s.2.2.2.1 → aBk g s.2.1 Q p l e R s0 mi args below meth c cells slots Z →
    W p l e R s0 mi args below meth c H locs cells slots Z (F0 mi s.2.2.1 lsA (s.2.2.2.2.1.map (trv g)))
theorem aBin_inv {P : St → Po → Prop} {st : List Value} {f : Int32 → Int32 → List Value → Tr} {Q : Po} (h : FT P (aBin st f) Q) : ∃ x y r, st = .int y :: .int x :: r ∧ FT P (f x y r) Q := by
  unfold aBin at h
  split at h
  · exact ⟨_, _, _, rfl, h⟩
  · exact absurd h.1 id
theorem aUni_inv {P : St → Po → Prop} {st : List Value} {f : Int32 → List Value → Tr} {Q : Po} (h : FT P (aUni st f) Q) : ∃ x r, st = .int x :: r ∧ FT P (f x r) Q := by
  unfold aUni at h
  split at h
  · exact ⟨_, _, rfl, h⟩
  · exact absurd h.1 id
theorem aRef_inv {P : St → Po → Prop} {st : List Value} {f : Nat → List Value → Tr} {Q : Po} (h : FT P (aRef st f) Q) : ∃ x r, st = .ref x :: r ∧ FT P (f x r) Q := by
  unfold aRef at h
  split at h
  · exact ⟨_, _, rfl, h⟩
  · exact absurd h.1 id
theorem aLdI_inv {P : St → Po → Prop} {ls : List Value} {k : Nat} {f : Int32 → Tr} {Q : Po} (h : FT P (aLdI ls k f) Q) : ∃ x, ls[k]? = some (.int x) ∧ FT P (f x) Q := by
  unfold aLdI at h
  split at h
  · rename_i x hx
    exact ⟨x, hx, h⟩
  · exact absurd h.1 id
theorem aLdL_inv {P : St → Po → Prop} {ls : List Value} {k : Nat} {f : Int64 → Tr} {Q : Po} (h : FT P (aLdL ls k f) Q) : ∃ x, ls[k]? = some (.long x) ∧ FT P (f x) Q := by
  unfold aLdL at h
  split at h
  · rename_i x hx
    exact ⟨x, hx, h⟩
  · exact absurd h.1 id
theorem aLdA_inv {P : St → Po → Prop} {ls : List Value} {k : Nat} {f : Value → Tr} {Q : Po} (h : FT P (aLdA ls k f) Q) : ∃ v, ls[k]? = some v ∧ aIsR v = true ∧ FT P (f v) Q := by
  unfold aLdA at h
  split at h
  · rename_i v hv
    cases hr : aIsR v with
    | true => rw [hr] at h; exact ⟨v, hv, hr, h⟩
    | false => rw [hr] at h; exact absurd h.1 id
  · exact absurd h.1 id
theorem aIsR_cases {g : GG} (hf : gFm g) {v : Value} (h : aIsR v = true) : trv g v = .null ∨ ∃ a, trv g v = .ref a := by
  cases v with
  | ref c =>
    unfold trv
    dsimp only
    by_cases hc : c = 1030
    · rw [if_pos hc]; exact hf
    · rw [if_neg hc]; exact Or.inr ⟨_, rfl⟩
  | null => exact Or.inl rfl
  | _ => cases h
section SH
variable {d m pc n : Nat} {ls st : List Value} {I : IM} {Q : Po}
theorem sh_iconst {k : Int} (hi : aIns m pc = some (.iconst k, n)) (h : FT Sh (TI (.iconst k) n d m pc ls st I) Q) : Sh (d, m, pc, ls, st, I) Q := by
  obtain ⟨rfl, h⟩ := h
  intro g p l e R s0 mi args below meth c H locs cells slots Z lsA C w ol hS hl hb
  exact lv_iconst C.1 C.2.1 (aIns_decode hi) rfl (h g p l e R s0 mi args below meth c H locs cells slots Z lsA C w ol hS hl hb)
theorem sh_bipush {k : Int} (hi : aIns m pc = some (.bipush k, n)) (h : FT Sh (TI (.bipush k) n d m pc ls st I) Q) : Sh (d, m, pc, ls, st, I) Q := by
  obtain ⟨rfl, h⟩ := h
  intro g p l e R s0 mi args below meth c H locs cells slots Z lsA C w ol hS hl hb
  exact lv_bipush C.1 C.2.1 (aIns_decode hi) rfl (h g p l e R s0 mi args below meth c H locs cells slots Z lsA C w ol hS hl hb)
theorem sh_sipush {k : Int} (hi : aIns m pc = some (.sipush k, n)) (h : FT Sh (TI (.sipush k) n d m pc ls st I) Q) : Sh (d, m, pc, ls, st, I) Q := by
  obtain ⟨rfl, h⟩ := h
  intro g p l e R s0 mi args below meth c H locs cells slots Z lsA C w ol hS hl hb
  exact lv_sipush C.1 C.2.1 (aIns_decode hi) rfl (h g p l e R s0 mi args below meth c H locs cells slots Z lsA C w ol hS hl hb)
theorem sh_lconst {k : Fin 2} (hi : aIns m pc = some (.lconst k, n)) (h : FT Sh (TI (.lconst k) n d m pc ls st I) Q) : Sh (d, m, pc, ls, st, I) Q := by
  obtain ⟨rfl, h⟩ := h
  intro g p l e R s0 mi args below meth c H locs cells slots Z lsA C w ol hS hl hb
  exact lv_lconst C.1 C.2.1 (aIns_decode hi) rfl (h g p l e R s0 mi args below meth c H locs cells slots Z lsA C w ol hS hl hb)
theorem sh_aconst_null (hi : aIns m pc = some (.aconst_null, n)) (h : FT Sh (TI (.aconst_null) n d m pc ls st I) Q) : Sh (d, m, pc, ls, st, I) Q := by
  obtain ⟨rfl, h⟩ := h
  intro g p l e R s0 mi args below meth c H locs cells slots Z lsA C w ol hS hl hb
  exact lv_null C.1 C.2.1 (aIns_decode hi) (h g p l e R s0 mi args below meth c H locs cells slots Z lsA C w ol hS hl hb)
theorem sh_iadd (hi : aIns m pc = some (.iadd, n)) (h : FT Sh (TI (.iadd) n d m pc ls st I) Q) : Sh (d, m, pc, ls, st, I) Q := by
  obtain ⟨x, y, r, rfl, rfl, h⟩ := aBin_inv h
  intro g p l e R s0 mi args below meth c H locs cells slots Z lsA C w ol hS hl hb
  exact lv_iadd C.1 C.2.1 (aIns_decode hi) (h g p l e R s0 mi args below meth c H locs cells slots Z lsA C w ol hS hl hb)
theorem sh_isub (hi : aIns m pc = some (.isub, n)) (h : FT Sh (TI (.isub) n d m pc ls st I) Q) : Sh (d, m, pc, ls, st, I) Q := by
  obtain ⟨x, y, r, rfl, rfl, h⟩ := aBin_inv h
  intro g p l e R s0 mi args below meth c H locs cells slots Z lsA C w ol hS hl hb
  exact lv_isub C.1 C.2.1 (aIns_decode hi) (h g p l e R s0 mi args below meth c H locs cells slots Z lsA C w ol hS hl hb)
theorem sh_imul (hi : aIns m pc = some (.imul, n)) (h : FT Sh (TI (.imul) n d m pc ls st I) Q) : Sh (d, m, pc, ls, st, I) Q := by
  obtain ⟨x, y, r, rfl, rfl, h⟩ := aBin_inv h
  intro g p l e R s0 mi args below meth c H locs cells slots Z lsA C w ol hS hl hb
  exact lv_imul C.1 C.2.1 (aIns_decode hi) (h g p l e R s0 mi args below meth c H locs cells slots Z lsA C w ol hS hl hb)
theorem sh_iand (hi : aIns m pc = some (.iand, n)) (h : FT Sh (TI (.iand) n d m pc ls st I) Q) : Sh (d, m, pc, ls, st, I) Q := by
  obtain ⟨x, y, r, rfl, rfl, h⟩ := aBin_inv h
  intro g p l e R s0 mi args below meth c H locs cells slots Z lsA C w ol hS hl hb
  exact lv_iand C.1 C.2.1 (aIns_decode hi) (h g p l e R s0 mi args below meth c H locs cells slots Z lsA C w ol hS hl hb)
theorem sh_ior (hi : aIns m pc = some (.ior, n)) (h : FT Sh (TI (.ior) n d m pc ls st I) Q) : Sh (d, m, pc, ls, st, I) Q := by
  obtain ⟨x, y, r, rfl, rfl, h⟩ := aBin_inv h
  intro g p l e R s0 mi args below meth c H locs cells slots Z lsA C w ol hS hl hb
  exact lv_ior C.1 C.2.1 (aIns_decode hi) (h g p l e R s0 mi args below meth c H locs cells slots Z lsA C w ol hS hl hb)
theorem sh_ishl (hi : aIns m pc = some (.ishl, n)) (h : FT Sh (TI (.ishl) n d m pc ls st I) Q) : Sh (d, m, pc, ls, st, I) Q := by
  obtain ⟨x, y, r, rfl, rfl, h⟩ := aBin_inv h
  intro g p l e R s0 mi args below meth c H locs cells slots Z lsA C w ol hS hl hb
  exact lv_ishl C.1 C.2.1 (aIns_decode hi) (h g p l e R s0 mi args below meth c H locs cells slots Z lsA C w ol hS hl hb)
theorem sh_ishr (hi : aIns m pc = some (.ishr, n)) (h : FT Sh (TI (.ishr) n d m pc ls st I) Q) : Sh (d, m, pc, ls, st, I) Q := by
  obtain ⟨x, y, r, rfl, rfl, h⟩ := aBin_inv h
  intro g p l e R s0 mi args below meth c H locs cells slots Z lsA C w ol hS hl hb
  exact lv_ishr C.1 C.2.1 (aIns_decode hi) (h g p l e R s0 mi args below meth c H locs cells slots Z lsA C w ol hS hl hb)
theorem sh_idiv (hi : aIns m pc = some (.idiv, n)) (h : FT Sh (TI (.idiv) n d m pc ls st I) Q) : Sh (d, m, pc, ls, st, I) Q := by
  obtain ⟨x, y, r, rfl, ⟨rfl, h0⟩, h⟩ := aBin_inv h
  intro g p l e R s0 mi args below meth c H locs cells slots Z lsA C w ol hS hl hb
  exact lv_idiv C.1 C.2.1 (aIns_decode hi) h0 (h g p l e R s0 mi args below meth c H locs cells slots Z lsA C w ol hS hl hb)
theorem sh_irem (hi : aIns m pc = some (.irem, n)) (h : FT Sh (TI (.irem) n d m pc ls st I) Q) : Sh (d, m, pc, ls, st, I) Q := by
  obtain ⟨x, y, r, rfl, ⟨rfl, h0⟩, h⟩ := aBin_inv h
  intro g p l e R s0 mi args below meth c H locs cells slots Z lsA C w ol hS hl hb
  exact lv_irem C.1 C.2.1 (aIns_decode hi) h0 (h g p l e R s0 mi args below meth c H locs cells slots Z lsA C w ol hS hl hb)
theorem sh_iushr (hi : aIns m pc = some (.iushr, n)) (h : FT Sh (TI (.iushr) n d m pc ls st I) Q) : Sh (d, m, pc, ls, st, I) Q := by
  obtain ⟨x, y, r, rfl, rfl, h⟩ := aBin_inv h
  intro g p l e R s0 mi args below meth c H locs cells slots Z lsA C w ol hS hl hb
  exact lv_iushr C.1 C.2.1 (aIns_decode hi) rfl (h g p l e R s0 mi args below meth c H locs cells slots Z lsA C w ol hS hl hb)
theorem sh_ineg (hi : aIns m pc = some (.ineg, n)) (h : FT Sh (TI (.ineg) n d m pc ls st I) Q) : Sh (d, m, pc, ls, st, I) Q := by
  obtain ⟨x, r, rfl, rfl, h⟩ := aUni_inv h
  intro g p l e R s0 mi args below meth c H locs cells slots Z lsA C w ol hS hl hb
  exact lv_ineg C.1 C.2.1 (aIns_decode hi) (h g p l e R s0 mi args below meth c H locs cells slots Z lsA C w ol hS hl hb)
theorem sh_i2l (hi : aIns m pc = some (.i2l, n)) (h : FT Sh (TI (.i2l) n d m pc ls st I) Q) : Sh (d, m, pc, ls, st, I) Q := by
  obtain ⟨x, r, rfl, rfl, h⟩ := aUni_inv h
  intro g p l e R s0 mi args below meth c H locs cells slots Z lsA C w ol hS hl hb
  exact lv_i2l C.1 C.2.1 (aIns_decode hi) rfl (h g p l e R s0 mi args below meth c H locs cells slots Z lsA C w ol hS hl hb)
theorem sh_i2s (hi : aIns m pc = some (.i2s, n)) (h : FT Sh (TI (.i2s) n d m pc ls st I) Q) : Sh (d, m, pc, ls, st, I) Q := by
  obtain ⟨x, r, rfl, rfl, h⟩ := aUni_inv h
  intro g p l e R s0 mi args below meth c H locs cells slots Z lsA C w ol hS hl hb
  exact lv_i2s C.1 C.2.1 (aIns_decode hi) rfl (h g p l e R s0 mi args below meth c H locs cells slots Z lsA C w ol hS hl hb)
theorem sh_i2b (hi : aIns m pc = some (.i2b, n)) (h : FT Sh (TI (.i2b) n d m pc ls st I) Q) : Sh (d, m, pc, ls, st, I) Q := by
  obtain ⟨x, r, rfl, rfl, h⟩ := aUni_inv h
  intro g p l e R s0 mi args below meth c H locs cells slots Z lsA C w ol hS hl hb
  exact lv_i2b C.1 C.2.1 (aIns_decode hi) rfl (h g p l e R s0 mi args below meth c H locs cells slots Z lsA C w ol hS hl hb)
theorem sh_i2c (hi : aIns m pc = some (.i2c, n)) (h : FT Sh (TI (.i2c) n d m pc ls st I) Q) : Sh (d, m, pc, ls, st, I) Q := by
  obtain ⟨x, r, rfl, rfl, h⟩ := aUni_inv h
  intro g p l e R s0 mi args below meth c H locs cells slots Z lsA C w ol hS hl hb
  exact lv_i2c C.1 C.2.1 (aIns_decode hi) rfl (h g p l e R s0 mi args below meth c H locs cells slots Z lsA C w ol hS hl hb)
theorem sh_l2i (hi : aIns m pc = some (.l2i, n)) (h : FT Sh (TI (.l2i) n d m pc ls st I) Q) : Sh (d, m, pc, ls, st, I) Q := by
  unfold TI at h
  dsimp only at h
  split at h
  · obtain ⟨rfl, h⟩ := h
    intro g p l e R s0 mi args below meth c H locs cells slots Z lsA C w ol hS hl hb
    exact lv_l2i C.1 C.2.1 (aIns_decode hi) rfl (h g p l e R s0 mi args below meth c H locs cells slots Z lsA C w ol hS hl hb)
  · exact absurd h.1 id
theorem sh_ladd (hi : aIns m pc = some (.ladd, n)) (h : FT Sh (TI (.ladd) n d m pc ls st I) Q) : Sh (d, m, pc, ls, st, I) Q := by
  unfold TI at h
  dsimp only at h
  split at h
  · obtain ⟨rfl, h⟩ := h
    intro g p l e R s0 mi args below meth c H locs cells slots Z lsA C w ol hS hl hb
    exact lv_ladd C.1 C.2.1 (aIns_decode hi) (h g p l e R s0 mi args below meth c H locs cells slots Z lsA C w ol hS hl hb)
  · exact absurd h.1 id
theorem sh_lcmp (hi : aIns m pc = some (.lcmp, n)) (h : FT Sh (TI (.lcmp) n d m pc ls st I) Q) : Sh (d, m, pc, ls, st, I) Q := by
  unfold TI at h
  dsimp only at h
  split at h
  · obtain ⟨rfl, h⟩ := h
    intro g p l e R s0 mi args below meth c H locs cells slots Z lsA C w ol hS hl hb
    exact W.lcmp C.1 C.2.1 (aIns_decode hi) (h g p l e R s0 mi args below meth c H locs cells slots Z lsA C w ol hS hl hb)
  · exact absurd h.1 id
theorem sh_dup (hi : aIns m pc = some (.dup, n)) (h : FT Sh (TI (.dup) n d m pc ls st I) Q) : Sh (d, m, pc, ls, st, I) Q := by
  unfold TI at h
  dsimp only at h
  split at h
  · obtain ⟨⟨rfl, h0⟩, h⟩ := h
    intro g p l e R s0 mi args below meth c H locs cells slots Z lsA C w ol hS hl hb
    exact lv_dup C.1 C.2.1 (aIns_decode hi) ((trv_cat ol.1 _).trans h0) (h g p l e R s0 mi args below meth c H locs cells slots Z lsA C w ol hS hl hb)
  · exact absurd h.1 id
theorem sh_dup2 (hi : aIns m pc = some (.dup2, n)) (h : FT Sh (TI (.dup2) n d m pc ls st I) Q) : Sh (d, m, pc, ls, st, I) Q := by
  unfold TI at h
  dsimp only at h
  split at h
  · obtain ⟨⟨rfl, h0, h1⟩, h⟩ := h
    intro g p l e R s0 mi args below meth c H locs cells slots Z lsA C w ol hS hl hb
    exact lv_dup2_11 C.1 C.2.1 (aIns_decode hi) ((trv_cat ol.1 _).trans h0) ((trv_cat ol.1 _).trans h1) (h g p l e R s0 mi args below meth c H locs cells slots Z lsA C w ol hS hl hb)
  · exact absurd h.1 id
theorem sh_pop (hi : aIns m pc = some (.pop, n)) (h : FT Sh (TI (.pop) n d m pc ls st I) Q) : Sh (d, m, pc, ls, st, I) Q := by
  unfold TI at h
  dsimp only at h
  split at h
  · obtain ⟨⟨rfl, h0⟩, h⟩ := h
    intro g p l e R s0 mi args below meth c H locs cells slots Z lsA C w ol hS hl hb
    exact lv_pop C.1 C.2.1 (aIns_decode hi) ((trv_cat ol.1 _).trans h0) (h g p l e R s0 mi args below meth c H locs cells slots Z lsA C w ol hS hl hb)
  · exact absurd h.1 id
theorem sh_iload_n {k : Fin 4} (hi : aIns m pc = some (.iload_n k, n)) (h : FT Sh (TI (.iload_n k) n d m pc ls st I) Q) : Sh (d, m, pc, ls, st, I) Q := by
  obtain ⟨x, hx, rfl, h⟩ := aLdI_inv h
  intro g p l e R s0 mi args below meth c H locs cells slots Z lsA C w ol hS hl hb
  exact lv_iload_n C.1 C.2.1 (aIns_decode hi) rfl (hl.2.2 _ _ hx (fun e => by cases e)) (h g p l e R s0 mi args below meth c H locs cells slots Z lsA C w ol hS hl hb)
theorem sh_iload {k : Nat} (hi : aIns m pc = some (.iload k, n)) (h : FT Sh (TI (.iload k) n d m pc ls st I) Q) : Sh (d, m, pc, ls, st, I) Q := by
  obtain ⟨x, hx, rfl, h⟩ := aLdI_inv h
  intro g p l e R s0 mi args below meth c H locs cells slots Z lsA C w ol hS hl hb
  exact lv_iload C.1 C.2.1 (aIns_decode hi) (hl.2.2 _ _ hx (fun e => by cases e)) (h g p l e R s0 mi args below meth c H locs cells slots Z lsA C w ol hS hl hb)
theorem sh_lload_n {k : Fin 4} (hi : aIns m pc = some (.lload_n k, n)) (h : FT Sh (TI (.lload_n k) n d m pc ls st I) Q) : Sh (d, m, pc, ls, st, I) Q := by
  obtain ⟨x, hx, rfl, h⟩ := aLdL_inv h
  intro g p l e R s0 mi args below meth c H locs cells slots Z lsA C w ol hS hl hb
  exact lv_lload_n C.1 C.2.1 (aIns_decode hi) rfl (hl.2.2 _ _ hx (fun e => by cases e)) (h g p l e R s0 mi args below meth c H locs cells slots Z lsA C w ol hS hl hb)
theorem sh_lload {k : Nat} (hi : aIns m pc = some (.lload k, n)) (h : FT Sh (TI (.lload k) n d m pc ls st I) Q) : Sh (d, m, pc, ls, st, I) Q := by
  obtain ⟨x, hx, rfl, h⟩ := aLdL_inv h
  intro g p l e R s0 mi args below meth c H locs cells slots Z lsA C w ol hS hl hb
  exact lv_lload C.1 C.2.1 (aIns_decode hi) (hl.2.2 _ _ hx (fun e => by cases e)) (h g p l e R s0 mi args below meth c H locs cells slots Z lsA C w ol hS hl hb)
theorem sh_aload_n {k : Fin 4} (hi : aIns m pc = some (.aload_n k, n)) (h : FT Sh (TI (.aload_n k) n d m pc ls st I) Q) : Sh (d, m, pc, ls, st, I) Q := by
  obtain ⟨v, hv, hr, rfl, h⟩ := aLdA_inv h
  intro g p l e R s0 mi args below meth c H locs cells slots Z lsA C w ol hS hl hb
  have hk := hl.2.2 _ _ hv (fun e => by rw [e] at hr; cases hr)
  have h' := h g p l e R s0 mi args below meth c H locs cells slots Z lsA C w ol hS hl hb
  rcases aIsR_cases ol.1 hr with ht | ⟨a, ht⟩
  · rw [ht] at hk
    refine lv_aload_nN C.1 C.2.1 (aIns_decode hi) rfl hk ?_
    have e : trv g v :: st.map (trv g) = .null :: st.map (trv g) := by rw [ht]
    exact e ▸ h'
  · rw [ht] at hk
    refine lv_aload_n C.1 C.2.1 (aIns_decode hi) rfl hk ?_
    have e : trv g v :: st.map (trv g) = .ref a :: st.map (trv g) := by rw [ht]
    exact e ▸ h'
theorem sh_aload {k : Nat} (hi : aIns m pc = some (.aload k, n)) (h : FT Sh (TI (.aload k) n d m pc ls st I) Q) : Sh (d, m, pc, ls, st, I) Q := by
  obtain ⟨v, hv, hr, rfl, h⟩ := aLdA_inv h
  intro g p l e R s0 mi args below meth c H locs cells slots Z lsA C w ol hS hl hb
  have hk := hl.2.2 _ _ hv (fun e => by rw [e] at hr; cases hr)
  have h' := h g p l e R s0 mi args below meth c H locs cells slots Z lsA C w ol hS hl hb
  rcases aIsR_cases ol.1 hr with ht | ⟨a, ht⟩
  · rw [ht] at hk
    refine lv_aloadN C.1 C.2.1 (aIns_decode hi) hk ?_
    have e : trv g v :: st.map (trv g) = .null :: st.map (trv g) := by rw [ht]
    exact e ▸ h'
  · rw [ht] at hk
    refine lv_aload C.1 C.2.1 (aIns_decode hi) hk ?_
    have e : trv g v :: st.map (trv g) = .ref a :: st.map (trv g) := by rw [ht]
    exact e ▸ h'
theorem sh_istore_n {k : Fin 4} (hi : aIns m pc = some (.istore_n k, n)) (h : FT Sh (TI (.istore_n k) n d m pc ls st I) Q) : Sh (d, m, pc, ls, st, I) Q := by
  obtain ⟨x, r, rfl, ⟨rfl, hk, ok⟩, h⟩ := aUni_inv h
  intro g p l e R s0 mi args below meth c H locs cells slots Z lsA C w ol hS hl hb
  exact lv_istore_n C.1 C.2.1 (aIns_decode hi) rfl hl.has hk rfl (fun lsB hlB => h g p l e R s0 mi args below meth c H locs cells slots Z lsB C w ol hS (aLoc.st1 (v := .int x) ol.1 ok hlB) hb)
theorem sh_istore {k : Nat} (hi : aIns m pc = some (.istore k, n)) (h : FT Sh (TI (.istore k) n d m pc ls st I) Q) : Sh (d, m, pc, ls, st, I) Q := by
  obtain ⟨x, r, rfl, ⟨rfl, hk, ok⟩, h⟩ := aUni_inv h
  intro g p l e R s0 mi args below meth c H locs cells slots Z lsA C w ol hS hl hb
  exact lv_istore C.1 C.2.1 (aIns_decode hi) hl.has hk rfl (fun lsB hlB => h g p l e R s0 mi args below meth c H locs cells slots Z lsB C w ol hS (aLoc.st1 (v := .int x) ol.1 ok hlB) hb)
theorem sh_iinc {k : Nat} {cc : Int} (hi : aIns m pc = some (.iinc k cc, n)) (h : FT Sh (TI (.iinc k cc) n d m pc ls st I) Q) : Sh (d, m, pc, ls, st, I) Q := by
  obtain ⟨x, hx, ⟨rfl, hk, ok⟩, h⟩ := aLdI_inv h
  intro g p l e R s0 mi args below meth c H locs cells slots Z lsA C w ol hS hl hb
  obtain ⟨j, hj⟩ := List.getElem?_of_mem (aPs_mem.mpr ⟨_, hx, (fun e => by cases e), rfl⟩ : (k, Value.int x) ∈ aPs g ls)
  exact lv_iinc C.1 C.2.1 (aIns_decode hi) hl.has hj rfl hk rfl (fun lsB hlB => h g p l e R s0 mi args below meth c H locs cells slots Z lsB C w ol hS (aLoc.st1 (v := .int (x + Int32.ofInt cc)) ol.1 ok hlB) hb)
theorem sh_lstore_n {k : Fin 4} (hi : aIns m pc = some (.lstore_n k, n)) (h : FT Sh (TI (.lstore_n k) n d m pc ls st I) Q) : Sh (d, m, pc, ls, st, I) Q := by
  unfold TI at h
  dsimp only at h
  split at h
  · obtain ⟨⟨rfl, hk, ok⟩, h⟩ := h
    intro g p l e R s0 mi args below meth c H locs cells slots Z lsA C w ol hS hl hb
    exact lv_lstore_n C.1 C.2.1 (aIns_decode hi) rfl hl.has hk rfl (fun lsB hlB => h g p l e R s0 mi args below meth c H locs cells slots Z lsB C w ol hS (aLoc.st2 ol.1 ok hlB) hb)
  · exact absurd h.1 id
theorem sh_lstore {k : Nat} (hi : aIns m pc = some (.lstore k, n)) (h : FT Sh (TI (.lstore k) n d m pc ls st I) Q) : Sh (d, m, pc, ls, st, I) Q := by
  unfold TI at h
  dsimp only at h
  split at h
  · obtain ⟨⟨rfl, hk, ok⟩, h⟩ := h
    intro g p l e R s0 mi args below meth c H locs cells slots Z lsA C w ol hS hl hb
    exact lv_lstore C.1 C.2.1 (aIns_decode hi) hl.has hk rfl (fun lsB hlB => h g p l e R s0 mi args below meth c H locs cells slots Z lsB C w ol hS (aLoc.st2 ol.1 ok hlB) hb)
  · exact absurd h.1 id
theorem sh_astore_n {k : Fin 4} (hi : aIns m pc = some (.astore_n k, n)) (h : FT Sh (TI (.astore_n k) n d m pc ls st I) Q) : Sh (d, m, pc, ls, st, I) Q := by
  unfold TI at h
  dsimp only at h
  split at h
  · rename_i v r
    obtain ⟨⟨rfl, hk, ok, hr⟩, h⟩ := h
    intro g p l e R s0 mi args below meth c H locs cells slots Z lsA C w ol hS hl hb
    have h' := fun (lsB : Array Slot) hlB => h g p l e R s0 mi args below meth c H locs cells slots Z lsB C w ol hS (aLoc.st1 (v := v) ol.1 ok hlB) hb
    show W p l e R s0 mi args below meth c H locs cells slots Z (F0 mi pc lsA (trv g v :: r.map (trv g)))
    rcases aIsR_cases ol.1 hr with ht | ⟨a, ht⟩
    · rw [ht] at h' ⊢
      exact lv_astore_nN C.1 C.2.1 (aIns_decode hi) rfl hl.has hk rfl h'
    · rw [ht] at h' ⊢
      exact lv_astore_n C.1 C.2.1 (aIns_decode hi) rfl hl.has hk rfl h'
  · exact absurd h.1 id
theorem sh_astore {k : Nat} (hi : aIns m pc = some (.astore k, n)) (h : FT Sh (TI (.astore k) n d m pc ls st I) Q) : Sh (d, m, pc, ls, st, I) Q := by
  unfold TI at h
  dsimp only at h
  split at h
  · rename_i v r
    obtain ⟨⟨rfl, hk, ok, hr⟩, h⟩ := h
    intro g p l e R s0 mi args below meth c H locs cells slots Z lsA C w ol hS hl hb
    have h' := fun (lsB : Array Slot) hlB => h g p l e R s0 mi args below meth c H locs cells slots Z lsB C w ol hS (aLoc.st1 (v := v) ol.1 ok hlB) hb
    show W p l e R s0 mi args below meth c H locs cells slots Z (F0 mi pc lsA (trv g v :: r.map (trv g)))
    rcases aIsR_cases ol.1 hr with ht | ⟨a, ht⟩
    · rw [ht] at h' ⊢
      exact lv_astoreN C.1 C.2.1 (aIns_decode hi) hl.has hk rfl h'
    · rw [ht] at h' ⊢
      exact lv_astore C.1 C.2.1 (aIns_decode hi) hl.has hk rfl h'
  · exact absurd h.1 id
theorem aTg_eq {pc : Nat} {o : Int} (h : 0 ≤ (pc : Int) + o) : (pc : Int) + o = (aTg pc o : Int) := by
  unfold aTg
  omega
theorem sh_goto {k : Int} (hi : aIns m pc = some (.goto k, n)) (h : FT Sh (TI (.goto k) n d m pc ls st I) Q) : Sh (d, m, pc, ls, st, I) Q := by
  obtain ⟨⟨rfl, ht⟩, h⟩ := h
  intro g p l e R s0 mi args below meth c H locs cells slots Z lsA C w ol hS hl hb
  exact lv_goto C.1 C.2.1 (aIns_decode hi) (aTg_eq ht) (h g p l e R s0 mi args below meth c H locs cells slots Z lsA C w ol hS hl hb)
theorem sh_ifCond {cc : ClassFile.Cond} {k : Int} (hi : aIns m pc = some (.ifCond cc k, n)) (h : FT Sh (TI (.ifCond cc k) n d m pc ls st I) Q) : Sh (d, m, pc, ls, st, I) Q := by
  obtain ⟨x, r, rfl, hh⟩ := aUni_inv h
  by_cases hd : (n = 3 ∧ 0 ≤ (pc : Int) + k)
  · rw [decide_eq_true hd] at hh
    obtain ⟨rfl, ht⟩ := hd
    obtain ⟨h1, h2⟩ := hh
    intro g p l e R s0 mi args below meth c H locs cells slots Z lsA C w ol hS hl hb
    cases cc with
    | eq => exact lv_if_eq C.1 C.2.1 (aIns_decode hi) (aTg_eq ht) (fun q => h1 q g p l e R s0 mi args below meth c H locs cells slots Z lsA C w ol hS hl hb) (fun q => h2 q g p l e R s0 mi args below meth c H locs cells slots Z lsA C w ol hS hl hb)
    | ne => exact lv_if_ne C.1 C.2.1 (aIns_decode hi) (aTg_eq ht) (fun q => h1 q g p l e R s0 mi args below meth c H locs cells slots Z lsA C w ol hS hl hb) (fun q => h2 (fun z => z q) g p l e R s0 mi args below meth c H locs cells slots Z lsA C w ol hS hl hb)
    | lt => exact lv_if_lt C.1 C.2.1 (aIns_decode hi) (aTg_eq ht) (fun q => h1 q g p l e R s0 mi args below meth c H locs cells slots Z lsA C w ol hS hl hb) (fun q => h2 q g p l e R s0 mi args below meth c H locs cells slots Z lsA C w ol hS hl hb)
    | ge => exact lv_if_ge C.1 C.2.1 (aIns_decode hi) (aTg_eq ht) (fun q => h1 q g p l e R s0 mi args below meth c H locs cells slots Z lsA C w ol hS hl hb) (fun q => h2 q g p l e R s0 mi args below meth c H locs cells slots Z lsA C w ol hS hl hb)
    | gt => exact lv_if_gt C.1 C.2.1 (aIns_decode hi) (aTg_eq ht) (fun q => h1 q g p l e R s0 mi args below meth c H locs cells slots Z lsA C w ol hS hl hb) (fun q => h2 q g p l e R s0 mi args below meth c H locs cells slots Z lsA C w ol hS hl hb)
    | le => exact lv_if_le C.1 C.2.1 (aIns_decode hi) (aTg_eq ht) (fun q => h1 q g p l e R s0 mi args below meth c H locs cells slots Z lsA C w ol hS hl hb) (fun q => h2 q g p l e R s0 mi args below meth c H locs cells slots Z lsA C w ol hS hl hb)
  · rw [decide_eq_false hd] at hh
    exact absurd hh.1 id
theorem sh_if_icmp {cc : ClassFile.Cond} {k : Int} (hi : aIns m pc = some (.if_icmp cc k, n)) (h : FT Sh (TI (.if_icmp cc k) n d m pc ls st I) Q) : Sh (d, m, pc, ls, st, I) Q := by
  obtain ⟨x, y, r, rfl, hh⟩ := aBin_inv h
  by_cases hd : (n = 3 ∧ 0 ≤ (pc : Int) + k)
  · rw [decide_eq_true hd] at hh
    obtain ⟨rfl, ht⟩ := hd
    obtain ⟨h1, h2⟩ := hh
    intro g p l e R s0 mi args below meth c H locs cells slots Z lsA C w ol hS hl hb
    cases cc with
    | eq => exact lv_icmp_eq C.1 C.2.1 (aIns_decode hi) (aTg_eq ht) (fun q => h1 q g p l e R s0 mi args below meth c H locs cells slots Z lsA C w ol hS hl hb) (fun q => h2 q g p l e R s0 mi args below meth c H locs cells slots Z lsA C w ol hS hl hb)
    | ne => exact lv_icmp_ne C.1 C.2.1 (aIns_decode hi) (aTg_eq ht) (fun q => h1 q g p l e R s0 mi args below meth c H locs cells slots Z lsA C w ol hS hl hb) (fun q => h2 (fun z => z q) g p l e R s0 mi args below meth c H locs cells slots Z lsA C w ol hS hl hb)
    | lt => exact lv_icmp_lt C.1 C.2.1 (aIns_decode hi) (aTg_eq ht) (fun q => h1 q g p l e R s0 mi args below meth c H locs cells slots Z lsA C w ol hS hl hb) (fun q => h2 q g p l e R s0 mi args below meth c H locs cells slots Z lsA C w ol hS hl hb)
    | ge => exact lv_icmp_ge C.1 C.2.1 (aIns_decode hi) (aTg_eq ht) (fun q => h1 q g p l e R s0 mi args below meth c H locs cells slots Z lsA C w ol hS hl hb) (fun q => h2 q g p l e R s0 mi args below meth c H locs cells slots Z lsA C w ol hS hl hb)
    | gt => exact lv_icmp_gt C.1 C.2.1 (aIns_decode hi) (aTg_eq ht) (fun q => h1 q g p l e R s0 mi args below meth c H locs cells slots Z lsA C w ol hS hl hb) (fun q => h2 q g p l e R s0 mi args below meth c H locs cells slots Z lsA C w ol hS hl hb)
    | le => exact lv_icmp_le C.1 C.2.1 (aIns_decode hi) (aTg_eq ht) (fun q => h1 q g p l e R s0 mi args below meth c H locs cells slots Z lsA C w ol hS hl hb) (fun q => h2 q g p l e R s0 mi args below meth c H locs cells slots Z lsA C w ol hS hl hb)
  · rw [decide_eq_false hd] at hh
    exact absurd hh.1 id
theorem sh_ifnull {k : Int} (hi : aIns m pc = some (.ifnull k, n)) (h : FT Sh (TI (.ifnull k) n d m pc ls st I) Q) : Sh (d, m, pc, ls, st, I) Q := by
  unfold TI at h
  dsimp only at h
  split at h
  · obtain ⟨⟨rfl, hc⟩, h⟩ := h
    intro g p l e R s0 mi args below meth c H locs cells slots Z lsA C w ol hS hl hb
    rename_i cc r
    show W p l e R s0 mi args below meth c H locs cells slots Z (F0 mi pc lsA (trv g (.ref cc) :: r.map (trv g)))
    rw [show trv g (.ref cc) = .ref (gAdr g cc) by unfold trv; exact if_neg hc]
    exact lv_ifnull C.1 C.2.1 (aIns_decode hi) (h g p l e R s0 mi args below meth c H locs cells slots Z lsA C w ol hS hl hb)
  · obtain ⟨⟨rfl, ht⟩, h⟩ := h
    intro g p l e R s0 mi args below meth c H locs cells slots Z lsA C w ol hS hl hb
    exact lv_ifnullN C.1 C.2.1 (aIns_decode hi) (aTg_eq ht) (h g p l e R s0 mi args below meth c H locs cells slots Z lsA C w ol hS hl hb)
  · exact absurd h.1 id
theorem sh_ifnonnull {k : Int} (hi : aIns m pc = some (.ifnonnull k, n)) (h : FT Sh (TI (.ifnonnull k) n d m pc ls st I) Q) : Sh (d, m, pc, ls, st, I) Q := by
  unfold TI at h
  dsimp only at h
  split at h
  · obtain ⟨⟨rfl, ht, hc⟩, h⟩ := h
    intro g p l e R s0 mi args below meth c H locs cells slots Z lsA C w ol hS hl hb
    rename_i cc r
    show W p l e R s0 mi args below meth c H locs cells slots Z (F0 mi pc lsA (trv g (.ref cc) :: r.map (trv g)))
    rw [show trv g (.ref cc) = .ref (gAdr g cc) by unfold trv; exact if_neg hc]
    exact lv_ifnonnull C.1 C.2.1 (aIns_decode hi) (aTg_eq ht) (h g p l e R s0 mi args below meth c H locs cells slots Z lsA C w ol hS hl hb)
  · obtain ⟨rfl, h⟩ := h
    intro g p l e R s0 mi args below meth c H locs cells slots Z lsA C w ol hS hl hb
    exact lv_ifnonnullN C.1 C.2.1 (aIns_decode hi) (h g p l e R s0 mi args below meth c H locs cells slots Z lsA C w ol hS hl hb)
  · exact absurd h.1 id
end SH
