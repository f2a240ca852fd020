/-! what the machine of literals does, the machine does -/
def tb (g : GG) (v : Value) : Value := match v with
  | .ref c => .ref (g.1 + c)
  | .int x => .int x
  | .long x => .long x
  | .null => .null
  | .float x => .float x
  | .double x => .double x
  | .retAddr x => .retAddr x
def bE (g : GG) (x : BE) : va_E := match x with
  | .inl o => .inr (o.1, o.2.map (tb g))
  | .inr (.inl a) => .inl (gC g 0, a.1, .inl (bI a.2))
  | .inr (.inr a) => .inl (gC g (a.1 - 20), a.2.1, .inr (.inr (.inr (.inr (fun j => (bR a.2.2 j).map (fun v => g.1 + v))))))
def bW (g : GG) (M : BM) : va_W := M.zipIdx.map (fun q => (g.1 + q.2, bE g q.1))
theorem bW_get (g : GG) (M : BM) (c : Nat) : (bW g M)[c]? = (M[c]?).map (fun x => (g.1 + c, bE g x)) := by
  unfold bW
  rw [List.getElem?_map, List.getElem?_zipIdx]
  cases M[c]? with
  | none => rfl
  | some x => simp
theorem bW_at {g : GG} {M : BM} {c : Nat} {x : BE} (h : M[c]? = some x) : (bW g M)[c]? = some (g.1 + c, bE g x) := by
  rw [bW_get, h]
  rfl
theorem bW_len (g : GG) (M : BM) : (bW g M).length = M.length := by
  unfold bW
  simp
theorem bW_set {g : GG} {M : BM} {c : Nat} {x : BE} : (bW g M).set c (g.1 + c, bE g x) = bW g (M.set c x) := by
  apply List.ext_getElem?
  intro k
  rw [bW_get, List.getElem?_set, List.getElem?_set, bW_get, bW_len]
  by_cases hk : c = k
  · subst hk
    rw [if_pos rfl, if_pos rfl]
    by_cases hl : c < M.length
    · rw [if_pos hl, if_pos hl]; rfl
    · rw [if_neg hl, if_neg hl]; rfl
  · rw [if_neg hk, if_neg hk]
theorem bW_app {g : GG} {M : BM} {x : BE} : bW g (M ++ [x]) = bW g M ++ [(g.1 + M.length, bE g x)] := by
  unfold bW
  rw [List.zipIdx_append, List.map_append]
  simp
theorem bW_D (g : GG) (M : BM) : va_D (gA g) (bW g M) := by
  have key : ∀ (k : Nat) (q : Nat × va_E), (bW g M)[k]? = some q → q.1 = g.1 + k := by
    intro k q hq
    rw [bW_get] at hq
    cases hx : M[k]? with
    | none => rw [hx] at hq; cases hq
    | some x => rw [hx] at hq; cases hq; rfl
  refine ⟨fun i j p q hi hj h => ?_, fun k q hk => ?_⟩
  · rw [key i p hi, key j q hj] at h
    omega
  · rw [key k q hk]
    exact Nat.le_add_right _ _
def bWorld (g : GG) (M : BM) (H : Heap) (U : State) : Prop := va_P (gD g) vwCl9 (bW g M) H ∧ va_K (gD g) vwCl9 (gTys g) U
theorem bWorld.moved {g : GG} {M : BM} {H : Heap} {u U : State} (hvm : u.vm.Alike U.vm) (h : bWorld g M H u) : bWorld g M H U := ⟨h.1, h.2.moved hvm⟩
def bEnv (U : State) : Prop := (∀ q ∈ bInvL, q.2.1 = 2 → va_Nw (.methodLinkNest (aOwn q.1) (q.1 % 10000) (bName q.2.2.1) "TwelveShort") U) ∧ ∀ sh, 21 ≤ sh → sh ≤ 24 → va_AO (bShC sh) U
theorem bEnv.warm {s U : State} (hW : s.WarmedH U.vm) (h : bEnv s) : bEnv U := ⟨fun q hq h2 => (h.1 q hq h2).warmM hW, fun sh h1 h2 => (h.2 sh h1 h2).moved hW.alike⟩
/-! sizes -/
theorem bSl_app {M : BM} {x : BE} : bSl (M ++ [x]) = bSl M + bSz x := by
  unfold bSl
  simp
theorem bSl_set {M : BM} {a : Nat} {x y : BE} (h : M[a]? = some y) (e : bSz y = bSz x) : bSl (M.set a x) = bSl M := by
  unfold bSl
  rw [List.map_set, ← e]
  congr 1
  apply List.ext_getElem?
  intro k
  rw [List.getElem?_set]
  by_cases hk : a = k
  · subst hk
    rw [if_pos rfl, List.getElem?_map, h, List.length_map, if_pos (List.getElem?_eq_some_iff.mp h).1]
    rfl
  · rw [if_neg hk]
def bGr (M M' : BM) : Prop := M.length ≤ M'.length ∧ bSl M ≤ bSl M'
theorem bGr.rf {M : BM} : bGr M M := ⟨Nat.le_refl _, Nat.le_refl _⟩
theorem bGr.tr {M M1 M2 : BM} (a : bGr M M1) (b : bGr M1 M2) : bGr M M2 := ⟨Nat.le_trans a.1 b.1, Nat.le_trans a.2 b.2⟩
theorem bGr.app {M : BM} {x : BE} : bGr M (M ++ [x]) := ⟨by simp, by rw [bSl_app]; omega⟩
theorem bGr.st {M : BM} {a : Nat} {x y : BE} (h : M[a]? = some y) (e : bSz y = bSz x) : bGr M (M.set a x) := ⟨by simp, by rw [bSl_set h e]; exact Nat.le_refl _⟩
def bLs (g : GG) (c : Nat) (lv : Option Int32) : List (Nat × Value) := match lv with
  | none => [(0, .ref (g.1 + c))]
  | some x => [(1, .int x), (0, .ref (g.1 + c))]
def bLoc (g : GG) (lsA : Array Slot) (n c : Nat) (lv : Option Int32) : Prop := lv_has lsA n (bLs g c lv)
theorem bLoc.this {g : GG} {lsA : Array Slot} {n c : Nat} {lv : Option Int32} (h : bLoc g lsA n c lv) : lsA[0]? = some (.val (.ref (g.1 + c))) := by
  cases lv with
  | none => exact lv_at h 0 rfl
  | some x => exact lv_at h 1 rfl
/-- the frame's own facts -/
def bCx (g : GG) (p : Program) (R : Room) (s0 : State) (mi : MethodId) (args : Array Value) (meth : Method) (co : Code) (d m k : Nat) : Prop :=
  p.tables.exec = Jvm.exec ∧ co.code = bBytes m ∧ co.maxLocals = bML m ∧ s0.vm.findClass (bOwn m) = some mi.cls ∧ (∀ w ∈ aTG, w.before args s0 = true) ∧ d ≤ R.frames ∧ 60 * d ≤ R.locals ∧ meth.name = "<init>" ∧ bEnv s0 ∧ s0.heap.size = g.1 + k ∧ m < 9
def BW (g : GG) (p : Program) (l : Launch) (e : Env) (R : Room) (s0 : State) (mi : MethodId) (args : Array Value) (below : List Frame) (meth : Method) (co : Code) (Z : State → Prop) (m k j : Nat) (s : BS) : Prop :=
  ∀ (H : Heap) (locs : List Loc) (lsA : Array Slot), bWorld g s.2.2.2.2 H s0 → va_S (gA g) s0.heap H locs → bLoc g lsA (bML m) s.2.1 s.2.2.1 →
    W p l e R s0 mi args below meth co H locs (s.2.2.2.2.length - k) (bSl s.2.2.2.2 - j) Z (F0 mi s.1 lsA (s.2.2.2.1.map (tb g)))
def BOk (d m : Nat) (s s' : BS) : Prop := bGr s.2.2.2.2 s'.2.2.2.2 ∧
  ∀ (g : GG) (p : Program) (l : Launch) (e : Env) (R : Room) (s0 : State) (mi : MethodId) (args : Array Value) (below : List Frame) (meth : Method) (co : Code) (Z : State → Prop) (k j : Nat),
    bCx g p R s0 mi args meth co d m k → k ≤ s.2.2.2.2.length → j ≤ bSl s.2.2.2.2 → s'.2.2.2.2.length - k ≤ R.cells → bSl s'.2.2.2.2 - j ≤ R.slots → BW g p l e R s0 mi args below meth co Z m k j s' → BW g p l e R s0 mi args below meth co Z m k j s
theorem bSize {g : GG} {p : Program} {l : Launch} {e : Env} {R : Room} {s0 : State} {mi : MethodId} {args : Array Value} {below : List Frame} {meth : Method} {co : Code} {Z : State → Prop} {H : Heap} {locs : List Loc} {M : BM} {k sl : Nat} {fr : JFrame} (hP : va_P (gD g) vwCl9 (bW g M) H) (hS : va_S (gA g) s0.heap H locs) (h0 : s0.heap.size = g.1 + k) (hk : k ≤ M.length)
    (kk : H.size = g.1 + M.length → W p l e R s0 mi args below meth co H locs (M.length - k) sl Z fr) : W p l e R s0 mi args below meth co H locs (M.length - k) sl Z fr := by
  intro T hT X
  have h1 := X.heapSize
  rw [hT, h0] at h1
  have h2 := hS.1
  rw [h0] at h2
  have h3 : g.1 + M.length ≤ H.size := by
    by_cases hl : M.length = k
    · omega
    · have hx := List.getElem?_eq_getElem (l := M) (i := M.length - 1) (by omega)
      have h4 : g.1 + (M.length - 1) < H.size := (hP (M.length - 1) _ (bW_at hx)).lt
      omega
  exact kk (by omega) T hT X
theorem bGo_inv {b : Bool} {t t' : BS} (h : bGo b t = some t') : b = true ∧ t = t' := by
  cases b with
  | true => exact ⟨rfl, Option.some.inj h⟩
  | false => exact nomatch (show (none : Option BS) = some t' from h)
theorem bCls {ci : Nat} (h : ci < 9) : ∃ r : vw_C, vwCl9[ci]? = some r ∧ r.1 = aClsL.getD ci "" := by
  have hk := List.all_eq_true.mp aClsAll ci (List.mem_range.mpr h)
  cases hq : vwCl9[ci]? with
  | none => rw [hq] at hk; cases hk
  | some q =>
    rw [hq] at hk
    simp only [decide_eq_true_eq] at hk
    exact ⟨q, rfl, hk⟩
theorem bFld_ok {m x : Nat} {f : Nat × Nat × Nat} (h : aFld m x = some f) : ∃ r : vw_C, vwCl9[f.1]? = some r ∧ f.2.1 < r.2.2 ∧ Cond.fieldLink (bOwn m) x r.1 (r.2.1 f.2.1).2.1 (r.2.1 f.2.1).2.2.1 ∈ aTG ∧ (r.2.1 f.2.1).1 = r.1 := by
  obtain ⟨h1, h2⟩ := aBlk h
  have h3 := List.all_eq_true.mp aFckAll _ h1
  unfold aFck at h3
  dsimp only at h3
  rw [(aOwn_key h2).1, (aOwn_key h2).2] at h3
  cases hr : vwCl9[f.1]? with
  | none => rw [hr] at h3; cases h3
  | some r =>
    rw [hr] at h3
    simp only [Bool.and_eq_true, decide_eq_true_eq] at h3
    exact ⟨r, rfl, h3.1.1, aInT_mem h3.1.2, h3.2⟩
theorem bNew_ok {m x : Nat} {q : Nat × Nat × Nat × Nat} (h : bNew m x = some q) : q.1 < 9 ∧ Cond.classLink (bOwn m) x (aClsL.getD q.1 "") ∈ aTG ∧ Cond.instantiable (aClsL.getD q.1 "") (aNf q.1) ∈ aTG ∧ Cond.initialized (aClsL.getD q.1 "") ∈ aTG := by
  obtain ⟨h1, h2⟩ := aBlk h
  have h3 := List.all_eq_true.mp bNewAll _ h1
  unfold bNewCk at h3
  dsimp only at h3
  rw [(aOwn_key h2).1, (aOwn_key h2).2] at h3
  simp only [Bool.and_eq_true, decide_eq_true_eq] at h3
  exact ⟨h3.1.1.1, aInT_mem h3.1.1.2, aInT_mem h3.1.2, aInT_mem h3.2⟩
theorem bArr_ok {m x : Nat} {q : Nat × Nat} (h : bArr m x = some q) : 21 ≤ q.1 ∧ q.1 ≤ 24 ∧ Cond.classLink (bOwn m) x (bShC q.1) ∈ aTG := by
  obtain ⟨h1, h2⟩ := aBlk h
  have h3 := List.all_eq_true.mp bArrAll _ h1
  dsimp only at h3
  rw [(aOwn_key h2).1, (aOwn_key h2).2] at h3
  simp only [Bool.and_eq_true, decide_eq_true_eq] at h3
  exact ⟨h3.1.1, h3.1.2, aInT_mem h3.2⟩
set_option maxRecDepth 100000 in
theorem bDefAll : (List.range 9).all (fun ci => match vwCl9[ci]? with | some r => (List.range r.2.2).all (fun k => decide ((parseFieldDescriptor (r.2.1 k).2.2.1).map defaultValue = some ((bDef ci).getD k .null))) | none => false) = true := by decide +kernel
theorem bDef_tb (g : GG) (ci : Nat) : (bDef ci).map (tb g) = bDef ci := by
  unfold bDef
  rw [List.map_map]
  apply List.map_congr_left
  intro k _
  show tb g (bif Nat.beq (aFc ci k) 2 then .null else .int 0) = _
  cases Nat.beq (aFc ci k) 2 <;> rfl
theorem bDef_ok {g : GG} {ci : Nat} {r : vw_C} (h9 : ci < 9) (hr : vwCl9[ci]? = some r) {ty : Nat → FieldType} (hty : ∀ k, k < r.2.2 → parseFieldDescriptor (r.2.1 k).2.2.1 = some (ty k)) : ∀ j, j < r.2.2 → defaultValue (ty j) = vp_V ((bDef ci).map (tb g)) j := by
  intro j hj
  have h1 := List.all_eq_true.mp bDefAll ci (List.mem_range.mpr h9)
  rw [hr] at h1
  have h2 := List.all_eq_true.mp h1 j (List.mem_range.mpr hj)
  rw [hty j hj] at h2
  rw [bDef_tb]
  exact Option.some.inj (of_decide_eq_true h2)
def bRTy (t : Option FieldType) : Bool := match t with
  | some (.object _) => true
  | some (.array _) => true
  | _ => false
set_option maxRecDepth 100000 in
theorem bRefAll : (List.range 9).all (fun ci => match vwCl9[ci]? with | some r => (List.range r.2.2).all (fun k => !(Nat.beq (aFc ci k) 2) || bRTy (parseFieldDescriptor (r.2.1 k).2.2.1)) | none => false) = true := by decide +kernel
theorem bFit_ok {g : GG} {ci k : Nat} {r : vw_C} {v : Value} (hr : vwCl9[ci]? = some r) (hk : k < r.2.2) (h : bFit ci k v = true) : ∃ ty, parseFieldDescriptor (r.2.1 k).2.2.1 = some ty ∧ narrow ty (tb g v) = tb g v ∧ fits ty (tb g v) = true := by
  obtain ⟨h9, hN, -, -, -, hint, hbool⟩ := aCl9 hr
  unfold bFit at h
  split at h
  · rename_i x
    simp only [Bool.or_eq_true, Bool.and_eq_true, Nat.beq_eq, decide_eq_true_eq] at h
    rcases h with h | ⟨h, hx⟩
    · exact ⟨.int, hint k hk h, rfl, rfl⟩
    · exact ⟨.boolean, hbool k hk h, by rcases hx with rfl | rfl <;> rfl, by rcases hx with rfl | rfl <;> rfl⟩
  · rename_i a
    have h1 := List.all_eq_true.mp bRefAll ci (List.mem_range.mpr h9)
    rw [hr] at h1
    have h2 := List.all_eq_true.mp h1 k (List.mem_range.mpr hk)
    rw [h] at h2
    have h3 : bRTy (parseFieldDescriptor (r.2.1 k).2.2.1) = true := h2
    unfold bRTy at h3
    split at h3
    · rename_i nm he
      exact ⟨_, he, rfl, rfl⟩
    · rename_i nm he
      exact ⟨_, he, rfl, rfl⟩
    · cases h3
  · cases h
theorem bTys {g : GG} {sh : Nat} (h1 : 21 ≤ sh) (h2 : sh ≤ 24) : (gTys g)[sh - 20]? = some (gC g (sh - 20), .object (bShC sh)) := by
  match sh, h1, h2 with
  | 21, _, _ => rfl
  | 22, _, _ => rfl
  | 23, _, _ => rfl
  | 24, _, _ => rfl
  | k + 25, _, h => exact absurd h (by omega)
theorem tb_cat {g : GG} (v : Value) : (tb g v).category = v.category := by cases v <;> rfl
theorem bCat {g : GG} (st : List Value) : ((st.map (tb g)).map fun v => v.category).sum = aCat st := by
  unfold aCat
  rw [List.map_map]
  congr 1
  apply List.map_congr_left
  intro v _
  exact tb_cat v
section BST
variable {n d m pc c : Nat} {lv : Option Int32} {st : List Value} {M : BM} {s' : BS}
theorem bs_aload {k : Fin 4} (hi : bIns m pc = some (.aload_n k, n)) (h : bTI (.aload_n k) n d m pc c lv st M = some s') : BOk d m (pc, c, lv, st, M) s' := by
  obtain ⟨hc, rfl⟩ := bGo_inv h
  simp only [Bool.and_eq_true, Nat.beq_eq] at hc
  obtain ⟨rfl, h0⟩ := hc
  refine ⟨bGr.rf, fun g p l e R s0 mi args below meth co Z k j C hk hj hrc hrs hw H locs lsA w hS hl => ?_⟩
  exact lv_aload_n C.1 C.2.1 (bIns_decode C.2.2.2.2.2.2.2.2.2.2 hi) h0 hl.this (hw H locs lsA w hS hl)
theorem bs_iload {k : Fin 4} (hi : bIns m pc = some (.iload_n k, n)) (h : bTI (.iload_n k) n d m pc c lv st M = some s') : BOk d m (pc, c, lv, st, M) s' := by
  cases lv with
  | none => exact nomatch (show (none : Option BS) = some s' from h)
  | some x =>
    obtain ⟨hc, rfl⟩ := bGo_inv h
    simp only [Bool.and_eq_true, Nat.beq_eq] at hc
    obtain ⟨rfl, h0⟩ := hc
    refine ⟨bGr.rf, fun g p l e R s0 mi args below meth co Z k j C hk hj hrc hrs hw H locs lsA w hS hl => ?_⟩
    exact lv_iload_n C.1 C.2.1 (bIns_decode C.2.2.2.2.2.2.2.2.2.2 hi) h0 (lv_at hl 0 rfl) (hw H locs lsA w hS hl)
theorem bs_istore {k : Fin 4} (hi : bIns m pc = some (.istore_n k, n)) (h : bTI (.istore_n k) n d m pc c lv st M = some s') : BOk d m (pc, c, lv, st, M) s' := by
  unfold bTI at h
  dsimp only at h
  split at h
  · rename_i x r
    obtain ⟨hc, rfl⟩ := bGo_inv h
    simp only [Bool.and_eq_true, Nat.beq_eq, Nat.blt_eq] at hc
    obtain ⟨rfl, h0, h1⟩ := hc
    refine ⟨bGr.rf, fun g p l e R s0 mi args below meth co Z k j C hk hj hrc hrs hw H locs lsA w hS hl => ?_⟩
    exact lv_istore_n (lv' := bLs g c (some x)) C.1 C.2.1 (bIns_decode C.2.2.2.2.2.2.2.2.2.2 hi) h0 hl h1 (by cases lv <;> rfl) (fun ls' hl' => hw H locs ls' w hS hl')
  · cases h
theorem bs_iinc {k : Nat} {x : Int} (hi : bIns m pc = some (.iinc k x, n)) (h : bTI (.iinc k x) n d m pc c lv st M = some s') : BOk d m (pc, c, lv, st, M) s' := by
  cases lv with
  | none => exact nomatch (show (none : Option BS) = some s' from h)
  | some y =>
    obtain ⟨hc, rfl⟩ := bGo_inv h
    simp only [Bool.and_eq_true, Nat.beq_eq, Nat.blt_eq] at hc
    obtain ⟨rfl, rfl, h1⟩ := hc
    refine ⟨bGr.rf, fun g p l e R s0 mi args below meth co Z k j C hk hj hrc hrs hw H locs lsA w hS hl => ?_⟩
    exact lv_iinc (k := 0) (x := y) (v := y + Int32.ofInt x) (lv' := bLs g c (some (y + Int32.ofInt x))) C.1 C.2.1 (bIns_decode C.2.2.2.2.2.2.2.2.2.2 hi) hl rfl rfl h1 rfl (fun ls' hl' => hw H locs ls' w hS hl')
theorem bs_iconst {k : Int} (hi : bIns m pc = some (.iconst k, n)) (h : bTI (.iconst k) n d m pc c lv st M = some s') : BOk d m (pc, c, lv, st, M) s' := by
  obtain ⟨hc, rfl⟩ := bGo_inv h
  simp only [Nat.beq_eq] at hc
  subst hc
  refine ⟨bGr.rf, fun g p l e R s0 mi args below meth co Z k j C hk hj hrc hrs hw H locs lsA w hS hl => ?_⟩
  exact lv_iconst C.1 C.2.1 (bIns_decode C.2.2.2.2.2.2.2.2.2.2 hi) rfl (hw H locs lsA w hS hl)
theorem bs_bipush {k : Int} (hi : bIns m pc = some (.bipush k, n)) (h : bTI (.bipush k) n d m pc c lv st M = some s') : BOk d m (pc, c, lv, st, M) s' := by
  obtain ⟨hc, rfl⟩ := bGo_inv h
  simp only [Nat.beq_eq] at hc
  subst hc
  refine ⟨bGr.rf, fun g p l e R s0 mi args below meth co Z k j C hk hj hrc hrs hw H locs lsA w hS hl => ?_⟩
  exact lv_bipush C.1 C.2.1 (bIns_decode C.2.2.2.2.2.2.2.2.2.2 hi) rfl (hw H locs lsA w hS hl)
theorem bs_sipush {k : Int} (hi : bIns m pc = some (.sipush k, n)) (h : bTI (.sipush k) n d m pc c lv st M = some s') : BOk d m (pc, c, lv, st, M) s' := by
  obtain ⟨hc, rfl⟩ := bGo_inv h
  simp only [Nat.beq_eq] at hc
  subst hc
  refine ⟨bGr.rf, fun g p l e R s0 mi args below meth co Z k j C hk hj hrc hrs hw H locs lsA w hS hl => ?_⟩
  exact lv_sipush C.1 C.2.1 (bIns_decode C.2.2.2.2.2.2.2.2.2.2 hi) rfl (hw H locs lsA w hS hl)
theorem bs_dup (hi : bIns m pc = some (.dup, n)) (h : bTI .dup n d m pc c lv st M = some s') : BOk d m (pc, c, lv, st, M) s' := by
  unfold bTI at h
  dsimp only at h
  split at h
  · obtain ⟨hc, rfl⟩ := bGo_inv h
    simp only [Nat.beq_eq] at hc
    subst hc
    refine ⟨bGr.rf, fun g p l e R s0 mi args below meth co Z k j C hk hj hrc hrs hw H locs lsA w hS hl => ?_⟩
    exact lv_dup C.1 C.2.1 (bIns_decode C.2.2.2.2.2.2.2.2.2.2 hi) rfl (hw H locs lsA w hS hl)
  · cases h
theorem bs_goto {o : Int} (hi : bIns m pc = some (.goto o, n)) (h : bTI (.goto o) n d m pc c lv st M = some s') : BOk d m (pc, c, lv, st, M) s' := by
  obtain ⟨hc, rfl⟩ := bGo_inv h
  simp only [Bool.and_eq_true, Nat.beq_eq, decide_eq_true_eq] at hc
  obtain ⟨rfl, h0⟩ := hc
  refine ⟨bGr.rf, fun g p l e R s0 mi args below meth co Z k j C hk hj hrc hrs hw H locs lsA w hS hl => ?_⟩
  exact lv_goto (tgt := aTg pc o) C.1 C.2.1 (bIns_decode C.2.2.2.2.2.2.2.2.2.2 hi) (Int.toNat_of_nonneg h0).symm (hw H locs lsA w hS hl)
theorem bs_icmp {o : Int} (hi : bIns m pc = some (.if_icmp .ge o, n)) (h : bTI (.if_icmp .ge o) n d m pc c lv st M = some s') : BOk d m (pc, c, lv, st, M) s' := by
  unfold bTI at h
  dsimp only at h
  split at h
  · rename_i y x r
    obtain ⟨hc, rfl⟩ := bGo_inv h
    simp only [Bool.and_eq_true, Nat.beq_eq, decide_eq_true_eq] at hc
    obtain ⟨rfl, h0⟩ := hc
    refine ⟨bGr.rf, fun g p l e R s0 mi args below meth co Z k j C hk hj hrc hrs hw H locs lsA w hS hl => ?_⟩
    have h2 : W p l e R s0 mi args below meth co H locs (M.length - k) (bSl M - j) Z (F0 mi (if y ≤ x then aTg pc o else pc + 3) lsA (r.map (tb g))) := hw H locs lsA w hS hl
    refine lv_icmp_ge (x := x) (y := y) (tgt := aTg pc o) C.1 C.2.1 (bIns_decode C.2.2.2.2.2.2.2.2.2.2 hi) (Int.toNat_of_nonneg h0).symm (fun q => ?_) (fun q => ?_)
    · rw [if_pos q] at h2
      exact h2
    · rw [if_neg q] at h2
      exact h2
  · cases h
theorem bs_new {x : Nat} (hi : bIns m pc = some (.new x, n)) (h : bTI (.new x) n d m pc c lv st M = some s') : BOk d m (pc, c, lv, st, M) s' := by
  unfold bTI at h
  dsimp only at h
  cases hq : bNew m x with
  | none => rw [hq] at h; cases h
  | some q =>
    rw [hq] at h
    obtain ⟨hc, rfl⟩ := bGo_inv h
    simp only [Nat.beq_eq] at hc
    subst hc
    obtain ⟨h9, w1, w2, w3⟩ := bNew_ok hq
    obtain ⟨r, hr, hrn⟩ := bCls h9
    obtain ⟨-, hN, ⟨ty, hty⟩, -⟩ := aCl9 hr
    rw [← hrn] at w1 w2 w3
    refine ⟨bGr.app, fun g p l e R s0 mi args below meth co Z k j C hk hj hrc hrs hw H locs lsA w hS hl => ?_⟩
    have hts := C.2.2.2.2.1
    have hKn := w.2.1 q.1 _ hr
    have hk' : k ≤ M.length := hk
    have hj' : j ≤ bSl M := hj
    have hln : (bDef q.1).length = aNf q.1 := by unfold bDef; simp
    have e1 : (M ++ [(.inl (q.1, bDef q.1) : BE)]).length - k = M.length - k + 1 := by rw [List.length_append]; simp; omega
    have e2 : bSl (M ++ [(.inl (q.1, bDef q.1) : BE)]) - j = bSl M - j + aNf q.1 := by
      rw [bSl_app]
      show bSl M + (bDef q.1).length - j = _
      omega
    have hrc' : (M ++ [(.inl (q.1, bDef q.1) : BE)]).length - k ≤ R.cells := hrc
    have hrs' : bSl (M ++ [(.inl (q.1, bDef q.1) : BE)]) - j ≤ R.slots := hrs
    rw [e1] at hrc'
    rw [e2] at hrs'
    show W p l e R s0 mi args below meth co H locs (M.length - k) (bSl M - j) Z (F0 mi pc lsA (st.map (tb g)))
    refine bSize w.1 hS C.2.2.2.2.2.2.2.2.2.1 hk' (fun hz => ?_)
    refine W.newcK (C := r.1) (n := aNf q.1) C.1 C.2.1 C.2.2.2.1 (hts _ w1) (hts _ w2) (hts _ w3) (g := F0 mi pc lsA (st.map (tb g))) rfl (bIns_decode C.2.2.2.2.2.2.2.2.2.2 hi) hrc' hrs' hKn.2.1 hz (fun H' kC hkC e3 z1 o1 => ?_)
    have P1 : va_P (gD g) vwCl9 (bW g (M ++ [(.inl (q.1, bDef q.1) : BE)])) H' := by
      rw [bW_app]
      refine (w.1.kept (fun k' x' hx => o1 x'.1 (by have := (w.1 k' x' hx).lt; rw [hz] at this; exact this))).app (fun k' x' hx => ?_)
      have hz0 : k' < 1 := (List.getElem?_eq_some_iff.mp hx).1
      rw [show k' = 0 by omega] at hx
      cases hx
      exact ⟨r, hr, (u_born ty hts (aUws hr) hKn hkC e3 hty).to (bDef_ok h9 hr hty)⟩
    have hh : W p l e R s0 mi args below meth co H' locs ((M ++ [(.inl (q.1, bDef q.1) : BE)]).length - k) (bSl (M ++ [(.inl (q.1, bDef q.1) : BE)]) - j) Z (F0 mi (pc + 3) lsA (.ref (g.1 + M.length) :: st.map (tb g))) := hw H' locs lsA ⟨P1, w.2⟩ ⟨Nat.le_trans hS.1 (by omega), fun y h1 h2 => (o1 y (by have := Nat.lt_of_lt_of_le h1 hS.1; rw [hz] at this; exact this)).trans (hS.2.1 y h1 h2), hS.2.2⟩ hl
    rw [e1, e2] at hh
    exact hh
theorem bs_newarray (hi : bIns m pc = some (.newarray .int, n)) (h : bTI (.newarray .int) n d m pc c lv st M = some s') : BOk d m (pc, c, lv, st, M) s' := by
  unfold bTI at h
  dsimp only at h
  split at h
  · rename_i kk r
    obtain ⟨hc, rfl⟩ := bGo_inv h
    simp only [Bool.and_eq_true, Nat.beq_eq, Nat.ble_eq, decide_eq_true_eq] at hc
    obtain ⟨rfl, hn, hle⟩ := hc
    refine ⟨bGr.app, fun g p l e R s0 mi args below meth co Z k j C hk hj hrc hrs hw H locs lsA w hS hl => ?_⟩
    have hts := C.2.2.2.2.1
    have hk' : k ≤ M.length := hk
    have hj' : j ≤ bSl M := hj
    have e1 : (M ++ [(.inr (.inl (kk.toNatClampNeg, [])) : BE)]).length - k = M.length - k + 1 := by rw [List.length_append]; simp; omega
    have e2 : bSl (M ++ [(.inr (.inl (kk.toNatClampNeg, [])) : BE)]) - j = bSl M - j + kk.toNatClampNeg := by
      rw [bSl_app]
      show bSl M + kk.toNatClampNeg - j = _
      omega
    have hrc' : (M ++ [(.inr (.inl (kk.toNatClampNeg, [])) : BE)]).length - k ≤ R.cells := hrc
    have hrs' : bSl (M ++ [(.inr (.inl (kk.toNatClampNeg, [])) : BE)]) - j ≤ R.slots := hrs
    rw [e1] at hrc'
    rw [e2] at hrs'
    show W p l e R s0 mi args below meth co H locs (M.length - k) (bSl M - j) Z (F0 mi pc lsA (.int kk :: r.map (tb g)))
    refine bSize w.1 hS C.2.2.2.2.2.2.2.2.2.1 hk' (fun hz => ?_)
    refine va_newaK C.1 C.2.1 (atype := .int) (hts _ (aInT_mem bIntC)) (g := F0 mi pc lsA (.int kk :: r.map (tb g))) rfl (bIns_decode C.2.2.2.2.2.2.2.2.2.2 hi) rfl hn rfl ?_ hrc' hrs' hz (fun H' cA e3 z1 o1 hAr hNm => ?_)
    · show kk.toNatClampNeg * 4 ≤ 536870912
      omega
    have hRA : s0.vm.findClass ("[" ++ FieldType.int.toString) = some (gC g 0) := (w.2.2 0 (gC g 0, .int) rfl).2
    have hcA : cA = gC g 0 := Option.some.inj (hNm.symm.trans hRA)
    have P1 : va_P (gD g) vwCl9 (bW g (M ++ [(.inr (.inl (kk.toNatClampNeg, [])) : BE)])) H' := by
      rw [bW_app]
      refine (w.1.kept (fun k' x' hx => o1 x'.1 (by have := (w.1 k' x' hx).lt; rw [hz] at this; exact this))).app (fun k' x' hx => ?_)
      have hz0 : k' < 1 := (List.getElem?_eq_some_iff.mp hx).1
      rw [show k' = 0 by omega] at hx
      cases hx
      show H'[g.1 + M.length]? = some (arrV (gC g 0) kk.toNatClampNeg (fun j => .int (bI [] j)))
      rw [← hcA]
      exact e3
    have hh : W p l e R s0 mi args below meth co H' locs ((M ++ [(.inr (.inl (kk.toNatClampNeg, [])) : BE)]).length - k) (bSl (M ++ [(.inr (.inl (kk.toNatClampNeg, [])) : BE)]) - j) Z (F0 mi (pc + 2) lsA (.ref (g.1 + M.length) :: r.map (tb g))) := hw H' locs lsA ⟨P1, w.2⟩ ⟨Nat.le_trans hS.1 (by omega), fun y h1 h2 => (o1 y (by have := Nat.lt_of_lt_of_le h1 hS.1; rw [hz] at this; exact this)).trans (hS.2.1 y h1 h2), hS.2.2⟩ hl
    rw [e1, e2] at hh
    exact hh
  · cases h
theorem bs_anewarray {x : Nat} (hi : bIns m pc = some (.anewarray x, n)) (h : bTI (.anewarray x) n d m pc c lv st M = some s') : BOk d m (pc, c, lv, st, M) s' := by
  unfold bTI at h
  dsimp only at h
  split at h
  · rename_i kk r
    cases hq : bArr m x with
    | none => rw [hq] at h; cases h
    | some q =>
      rw [hq] at h
      obtain ⟨hc, rfl⟩ := bGo_inv h
      simp only [Bool.and_eq_true, Nat.beq_eq, Nat.ble_eq, decide_eq_true_eq] at hc
      obtain ⟨rfl, hn, hle⟩ := hc
      obtain ⟨s1, s2, w1⟩ := bArr_ok hq
      refine ⟨bGr.app, fun g p l e R s0 mi args below meth co Z k j C hk hj hrc hrs hw H locs lsA w hS hl => ?_⟩
      have hts := C.2.2.2.2.1
      have hk' : k ≤ M.length := hk
      have hj' : j ≤ bSl M := hj
      have e1 : (M ++ [(.inr (.inr (q.1, kk.toNatClampNeg, [])) : BE)]).length - k = M.length - k + 1 := by rw [List.length_append]; simp; omega
      have e2 : bSl (M ++ [(.inr (.inr (q.1, kk.toNatClampNeg, [])) : BE)]) - j = bSl M - j + kk.toNatClampNeg := by
        rw [bSl_app]
        show bSl M + kk.toNatClampNeg - j = _
        omega
      have hrc' : (M ++ [(.inr (.inr (q.1, kk.toNatClampNeg, [])) : BE)]).length - k ≤ R.cells := hrc
      have hrs' : bSl (M ++ [(.inr (.inr (q.1, kk.toNatClampNeg, [])) : BE)]) - j ≤ R.slots := hrs
      rw [e1] at hrc'
      rw [e2] at hrs'
      show W p l e R s0 mi args below meth co H locs (M.length - k) (bSl M - j) Z (F0 mi pc lsA (.int kk :: r.map (tb g)))
      refine bSize w.1 hS C.2.2.2.2.2.2.2.2.2.1 hk' (fun hz => ?_)
      refine W.anew (C := bShC q.1) C.1 C.2.1 C.2.2.2.1 (hts _ w1) (va_AO.use (C.2.2.2.2.2.2.2.2.1.2 q.1 s1 s2)) (g := F0 mi pc lsA (.int kk :: r.map (tb g))) rfl (bIns_decode C.2.2.2.2.2.2.2.2.2.2 hi) rfl hn (by omega) hrc' hrs' (fun cA kA comp f1 f2 f3 f4 => ?_)
      generalize hH1 : H.push ({ cls := cA, slots := Array.replicate kk.toNatClampNeg .null, vm := .none } : Cell) = H'
      have z1 : H'.size = g.1 + M.length + 1 := by rw [← hH1, Array.size_push, hz]
      have e3 : H'[g.1 + M.length]? = some (arrV cA kk.toNatClampNeg (fun _ => .null)) := by rw [← hH1, ← hz, Array.getElem?_push_size, ← arrV_new]
      have o1 : ∀ y : Nat, y < g.1 + M.length → H'[y]? = H[y]? := fun y hy => by rw [← hH1, Array.getElem?_push, if_neg (by rw [hz]; exact Nat.ne_of_lt hy)]
      obtain ⟨kA2, comp2, -, -, -, hRA⟩ := (w.2.2 (q.1 - 20) _ (bTys s1 s2)).2
      have hcA : cA = gC g (q.1 - 20) := Option.some.inj (f1.symm.trans hRA)
      have P1 : va_P (gD g) vwCl9 (bW g (M ++ [(.inr (.inr (q.1, kk.toNatClampNeg, [])) : BE)])) H' := by
        rw [bW_app]
        refine (w.1.kept (fun k' x' hx => o1 x'.1 (by have := (w.1 k' x' hx).lt; rw [hz] at this; exact this))).app (fun k' x' hx => ?_)
        have hz0 : k' < 1 := (List.getElem?_eq_some_iff.mp hx).1
        rw [show k' = 0 by omega] at hx
        cases hx
        show H'[g.1 + M.length]? = some (arrV (gC g (q.1 - 20)) kk.toNatClampNeg (fun j => va_rf ((bR [] j).map (fun v => g.1 + v))))
        rw [← hcA]
        exact e3
      rw [hz]
      have hh : W p l e R s0 mi args below meth co H' locs ((M ++ [(.inr (.inr (q.1, kk.toNatClampNeg, [])) : BE)]).length - k) (bSl (M ++ [(.inr (.inr (q.1, kk.toNatClampNeg, [])) : BE)]) - j) Z (F0 mi (pc + 3) lsA (.ref (g.1 + M.length) :: r.map (tb g))) := hw H' locs lsA ⟨P1, w.2⟩ ⟨Nat.le_trans hS.1 (by omega), fun y h1 h2 => (o1 y (by have := Nat.lt_of_lt_of_le h1 hS.1; rw [hz] at this; exact this)).trans (hS.2.1 y h1 h2), hS.2.2⟩ hl
      rw [e1, e2] at hh
      exact hh
  · cases h
theorem bs_putfield {x : Nat} (hi : bIns m pc = some (.putfield x, n)) (h : bTI (.putfield x) n d m pc c lv st M = some s') : BOk d m (pc, c, lv, st, M) s' := by
  unfold bTI at h
  dsimp only at h
  split at h
  · rename_i v a r
    cases hf : aFld m x with
    | none => rw [hf] at h; cases h
    | some f =>
      rw [hf] at h
      dsimp only at h
      split at h
      · rename_i o hM
        obtain ⟨hc, rfl⟩ := bGo_inv h
        simp only [Bool.and_eq_true, Nat.beq_eq, Nat.blt_eq] at hc
        obtain ⟨rfl, hfo, hfm, hft, hlt⟩ := hc
        obtain ⟨q, h1, h2, h3, h4⟩ := bFld_ok hf
        obtain ⟨h9, hN, ⟨ty, ht⟩, hnm, -, -, -⟩ := aCl9 h1
        obtain ⟨q', hq', hqn⟩ := bCls h9
        have hqq : q' = q := Option.some.inj (hq'.symm.trans h1)
        subst hqq
        have hsz : bSz (.inl o : BE) = bSz (.inl (o.1, o.2.set f.2.1 v) : BE) := by
          show o.2.length = (o.2.set f.2.1 v).length
          rw [List.length_set]
        refine ⟨bGr.st hM hsz, fun g p l e R s0 mi args below meth co Z k j C hk hj hrc hrs hw H locs lsA w hS hl => ?_⟩
        obtain ⟨ty', p1, p2, p3⟩ := bFit_ok (g := g) h1 h2 hft
        have hts := C.2.2.2.2.1
        have he : (bW g M)[a]? = some (g.1 + a, .inr (f.1, o.2.map (tb g))) := by rw [hfo]; exact bW_at hM
        have es : (bW g M).set a (g.1 + a, .inr (f.1, (o.2.map (tb g)).set f.2.1 (tb g v))) = bW g (M.set a (.inl (o.1, o.2.set f.2.1 v))) := by
          rw [← bW_set]
          show _ = (bW g M).set a (g.1 + a, .inr (o.1, (o.2.set f.2.1 v).map (tb g)))
          rw [List.map_set, hfo]
        have fin : ∀ (H1 : Heap) (locs1 : List Loc), va_P (gD g) vwCl9 ((bW g M).set a (g.1 + a, .inr (f.1, (o.2.map (tb g)).set f.2.1 (tb g v)))) H1 → va_D (gA g) ((bW g M).set a (g.1 + a, .inr (f.1, (o.2.map (tb g)).set f.2.1 (tb g v)))) → va_S (gA g) s0.heap H1 locs1 → W p l e R s0 mi args below meth co H1 locs1 (M.length - k) (bSl M - j) Z (F0 mi (pc + 3) lsA (r.map (tb g))) := by
          intro H1 locs1 hP1 _ hS1
          rw [es] at hP1
          have hh : W p l e R s0 mi args below meth co H1 locs1 ((M.set a (.inl (o.1, o.2.set f.2.1 v))).length - k) (bSl (M.set a (.inl (o.1, o.2.set f.2.1 v))) - j) Z (F0 mi (pc + 3) lsA (r.map (tb g))) := hw H1 locs1 lsA ⟨hP1, w.2⟩ hS1 hl
          rw [List.length_set, bSl_set hM hsz] at hh
          exact hh
        show W p l e R s0 mi args below meth co H locs (M.length - k) (bSl M - j) Z (F0 mi pc lsA (tb g v :: .ref (g.1 + a) :: r.map (tb g)))
        cases hfn : (q'.2.1 f.2.1).2.2.2 with
        | false => exact va_put (C := q'.1) (T := q'.2.1) (N := q'.2.2) C.1 C.2.1 hts (aUws h1) ty ht hnm C.2.2.2.1 w.2 w.1 (bW_D g M) hS a he h1 f.2.1 h2 (hts _ h3) (fun y hy => by rw [h4] at hy; exact hy) hfn p1 p2 p3 (by simpa using hlt) (bIns_decode C.2.2.2.2.2.2.2.2.2.2 hi) fin
        | true => exact va_putF (C := q'.1) (T := q'.2.1) (N := q'.2.2) C.1 C.2.1 hts (aUws h1) ty ht hnm C.2.2.2.1 w.2 w.1 (bW_D g M) hS a he h1 f.2.1 h2 (hts _ h3) (fun y hy => by rw [h4] at hy; exact hy) hfn C.2.2.2.2.2.2.2.1 (by rw [h4, hqn, hfm]; rfl) p1 p2 p3 (by simpa using hlt) (bIns_decode C.2.2.2.2.2.2.2.2.2.2 hi) fin
      · cases h
  · cases h
theorem bs_getfield {x : Nat} (hi : bIns m pc = some (.getfield x, n)) (h : bTI (.getfield x) n d m pc c lv st M = some s') : BOk d m (pc, c, lv, st, M) s' := by
  unfold bTI at h
  dsimp only at h
  split at h
  · rename_i a r
    cases hf : aFld m x with
    | none => rw [hf] at h; cases h
    | some f =>
      rw [hf] at h
      dsimp only at h
      split at h
      · rename_i o hM
        cases hv : o.2[f.2.1]? with
        | none => rw [hv] at h; cases h
        | some v =>
          rw [hv] at h
          obtain ⟨hc, rfl⟩ := bGo_inv h
          simp only [Bool.and_eq_true, Nat.beq_eq] at hc
          obtain ⟨rfl, hfo⟩ := hc
          obtain ⟨q, h1, h2, h3, h4⟩ := bFld_ok hf
          refine ⟨bGr.rf, fun g p l e R s0 mi args below meth co Z k j C hk hj hrc hrs hw H locs lsA w hS hl => ?_⟩
          have hts := C.2.2.2.2.1
          have he : (bW g M)[a]? = some (g.1 + a, .inr (f.1, o.2.map (tb g))) := by rw [hfo]; exact bW_at hM
          exact va_get (C := q.1) (T := q.2.1) (N := q.2.2) C.1 C.2.1 hts (aUws h1) C.2.2.2.1 w.2 w.1 a he h1 f.2.1 h2 (hts _ h3) (fun y hy => by rw [h4] at hy; exact hy) (v := tb g v) (by rw [List.getElem?_map, hv]; rfl) (bIns_decode C.2.2.2.2.2.2.2.2.2.2 hi) (hw H locs lsA w hS hl)
      · cases h
  · cases h
theorem bs_alen (hi : bIns m pc = some (.arraylength, n)) (h : bTI .arraylength n d m pc c lv st M = some s') : BOk d m (pc, c, lv, st, M) s' := by
  unfold bTI at h
  dsimp only at h
  split at h
  · rename_i a r
    split at h
    · rename_i q hM
      obtain ⟨hc, rfl⟩ := bGo_inv h
      simp only [Nat.beq_eq] at hc
      subst hc
      refine ⟨bGr.rf, fun g p l e R s0 mi args below meth co Z k j C hk hj hrc hrs hw H locs lsA w hS hl => ?_⟩
      have he : (bW g M)[a]? = some (g.1 + a, .inl (gC g 0, q.1, .inl (bI q.2))) := bW_at hM
      exact va_alen C.1 C.2.1 w.2 w.1 a 0 he (ty := .int) rfl (v := nI q.1) rfl (bIns_decode C.2.2.2.2.2.2.2.2.2.2 hi) (hw H locs lsA w hS hl)
    · rename_i q hM
      obtain ⟨hc, rfl⟩ := bGo_inv h
      simp only [Bool.and_eq_true, Nat.beq_eq, Nat.ble_eq] at hc
      obtain ⟨rfl, s1, s2⟩ := hc
      refine ⟨bGr.rf, fun g p l e R s0 mi args below meth co Z k j C hk hj hrc hrs hw H locs lsA w hS hl => ?_⟩
      have he : (bW g M)[a]? = some (g.1 + a, .inl (gC g (q.1 - 20), q.2.1, .inr (.inr (.inr (.inr (fun j => (bR q.2.2 j).map (fun v => g.1 + v))))))) := bW_at hM
      exact va_alen C.1 C.2.1 w.2 w.1 a (q.1 - 20) he (bTys s1 s2) (v := nI q.2.1) rfl (bIns_decode C.2.2.2.2.2.2.2.2.2.2 hi) (hw H locs lsA w hS hl)
    · cases h
  · cases h
theorem bs_iastore (hi : bIns m pc = some (.iastore, n)) (h : bTI .iastore n d m pc c lv st M = some s') : BOk d m (pc, c, lv, st, M) s' := by
  unfold bTI at h
  dsimp only at h
  split at h
  · rename_i v i a r
    split at h
    · rename_i q hM
      obtain ⟨hc, rfl⟩ := bGo_inv h
      simp only [Bool.and_eq_true, Nat.beq_eq, Nat.blt_eq, decide_eq_true_eq] at hc
      obtain ⟨rfl, hn, hlt⟩ := hc
      have hsz : bSz (.inr (.inl q) : BE) = bSz (.inr (.inl (q.1, (i.toNatClampNeg, v) :: q.2)) : BE) := rfl
      refine ⟨bGr.st hM hsz, fun g p l e R s0 mi args below meth co Z k j C hk hj hrc hrs hw H locs lsA w hS hl => ?_⟩
      have he : (bW g M)[a]? = some (g.1 + a, .inl (gC g 0, q.1, .inl (bI q.2))) := bW_at hM
      have es : (bW g M).set a (g.1 + a, .inl (gC g 0, q.1, .inl (upd (bI q.2) i.toNatClampNeg v))) = bW g (M.set a (.inr (.inl (q.1, (i.toNatClampNeg, v) :: q.2)))) := by
        rw [← bW_set]
        rfl
      show W p l e R s0 mi args below meth co H locs (M.length - k) (bSl M - j) Z (F0 mi pc lsA (.int v :: .int i :: .ref (g.1 + a) :: r.map (tb g)))
      refine va_iast C.1 C.2.1 w.2 w.1 (bW_D g M) hS a 0 he rfl (fun z => by rcases z with z | z; exact hn z; omega) (bIns_decode C.2.2.2.2.2.2.2.2.2.2 hi) (fun H1 locs1 hP1 _ hS1 => ?_)
      rw [es] at hP1
      have hh : W p l e R s0 mi args below meth co H1 locs1 ((M.set a (.inr (.inl (q.1, (i.toNatClampNeg, v) :: q.2)))).length - k) (bSl (M.set a (.inr (.inl (q.1, (i.toNatClampNeg, v) :: q.2)))) - j) Z (F0 mi (pc + 1) lsA (r.map (tb g))) := hw H1 locs1 lsA ⟨hP1, w.2⟩ hS1 hl
      rw [List.length_set, bSl_set hM hsz] at hh
      exact hh
    · cases h
  · cases h
theorem bs_aastore (hi : bIns m pc = some (.aastore, n)) (h : bTI .aastore n d m pc c lv st M = some s') : BOk d m (pc, c, lv, st, M) s' := by
  unfold bTI at h
  dsimp only at h
  split at h
  · rename_i v i a r
    split at h
    · rename_i q hM
      split at h
      · rename_i o hV
        obtain ⟨hc, rfl⟩ := bGo_inv h
        simp only [Bool.and_eq_true, Nat.beq_eq, Nat.blt_eq, Nat.ble_eq, decide_eq_true_eq] at hc
        obtain ⟨rfl, hn, hlt, s1, s2, hsh⟩ := hc
        have hsz : bSz (.inr (.inr q) : BE) = bSz (.inr (.inr (q.1, q.2.1, (i.toNatClampNeg, v) :: q.2.2)) : BE) := rfl
        refine ⟨bGr.st hM hsz, fun g p l e R s0 mi args below meth co Z k j C hk hj hrc hrs hw H locs lsA w hS hl => ?_⟩
        have he : (bW g M)[a]? = some (g.1 + a, .inl (gC g (q.1 - 20), q.2.1, .inr (.inr (.inr (.inr (fun j => (bR q.2.2 j).map (fun v => g.1 + v))))))) := bW_at hM
        have hv : (bW g M)[v]? = some (g.1 + v, .inr (o.1, o.2.map (tb g))) := bW_at hV
        have h9 : o.1 < 9 := by
          rw [← hsh]
          match q.1, s1, s2 with
          | 21, _, _ => decide
          | 22, _, _ => decide
          | 23, _, _ => decide
          | 24, _, _ => decide
          | k + 25, _, h => exact absurd h (by omega)
        obtain ⟨r0, hr0, hrn⟩ := bCls h9
        have ht : (gTys g)[q.1 - 20]? = some (gC g (q.1 - 20), .object r0.1) := by
          rw [hrn, ← hsh]
          exact bTys s1 s2
        have ef : va_up (fun j => (bR q.2.2 j).map (fun v => g.1 + v)) i.toNatClampNeg (some (g.1 + v)) = (fun j => (bR ((i.toNatClampNeg, v) :: q.2.2) j).map (fun v => g.1 + v)) := by
          funext j
          show (if j = i.toNatClampNeg then some (g.1 + v) else (bR q.2.2 j).map (fun v => g.1 + v)) = (if j = i.toNatClampNeg then some v else bR q.2.2 j).map (fun v => g.1 + v)
          by_cases hj : j = i.toNatClampNeg
          · rw [if_pos hj, if_pos hj]; rfl
          · rw [if_neg hj, if_neg hj]
        have es : (bW g M).set a (g.1 + a, .inl (gC g (q.1 - 20), q.2.1, .inr (.inr (.inr (.inr (va_up (fun j => (bR q.2.2 j).map (fun v => g.1 + v)) i.toNatClampNeg (some (g.1 + v)))))))) = bW g (M.set a (.inr (.inr (q.1, q.2.1, (i.toNatClampNeg, v) :: q.2.2)))) := by
          rw [← bW_set, ef]
          rfl
        show W p l e R s0 mi args below meth co H locs (M.length - k) (bSl M - j) Z (F0 mi pc lsA (.ref (g.1 + v) :: .int i :: .ref (g.1 + a) :: r.map (tb g)))
        refine va_astq C.1 C.2.1 w.2 w.1 (bW_D g M) hS a (q.1 - 20) v o.1 he ht hv hr0 (fun z => by rcases z with z | z; exact hn z; omega) (bIns_decode C.2.2.2.2.2.2.2.2.2.2 hi) (fun H1 locs1 hP1 _ hS1 => ?_)
        rw [es] at hP1
        have hh : W p l e R s0 mi args below meth co H1 locs1 ((M.set a (.inr (.inr (q.1, q.2.1, (i.toNatClampNeg, v) :: q.2.2)))).length - k) (bSl (M.set a (.inr (.inr (q.1, q.2.1, (i.toNatClampNeg, v) :: q.2.2)))) - j) Z (F0 mi (pc + 1) lsA (r.map (tb g))) := hw H1 locs1 lsA ⟨hP1, w.2⟩ hS1 hl
        rw [List.length_set, bSl_set hM hsz] at hh
        exact hh
      · cases h
    · cases h
  · cases h
set_option maxHeartbeats 4000000 in
theorem bs_all {i : Instr} (hi : bIns m pc = some (i, n)) (h : bTI i n d m pc c lv st M = some s') : BOk d m (pc, c, lv, st, M) s' := by
  cases i with
  | aload_n k => exact bs_aload hi h
  | iload_n k => exact bs_iload hi h
  | istore_n k => exact bs_istore hi h
  | iinc k x => exact bs_iinc hi h
  | iconst k => exact bs_iconst hi h
  | bipush k => exact bs_bipush hi h
  | sipush k => exact bs_sipush hi h
  | dup => exact bs_dup hi h
  | new x => exact bs_new hi h
  | newarray t =>
    cases t with
    | int => exact bs_newarray hi h
    | _ => exact nomatch (show (none : Option BS) = some s' from h)
  | anewarray x => exact bs_anewarray hi h
  | putfield x => exact bs_putfield hi h
  | getfield x => exact bs_getfield hi h
  | arraylength => exact bs_alen hi h
  | iastore => exact bs_iastore hi h
  | aastore => exact bs_aastore hi h
  | if_icmp k o =>
    cases k with
    | ge => exact bs_icmp hi h
    | _ => exact nomatch (show (none : Option BS) = some s' from h)
  | goto o => exact bs_goto hi h
  | _ => exact nomatch (show (none : Option BS) = some s' from h)
end BST
