/-! the steps that touch the heap, the switches, the calls, the returns -/
theorem aNat6 (b c : Nat) (h1 : b ≤ c) (h2 : c < b + 6) : ∃ i, i < 6 ∧ c = b + i := ⟨c - b, by omega, by omega⟩
theorem aLk_mem {α : Type} {k : Nat} {v : α} : ∀ {l : List (Nat × α)}, aLk l k = some v → (k, v) ∈ l := by
  intro l
  induction l with
  | nil => intro h; simp [aLk] at h
  | cons q l ih =>
    intro h
    unfold aLk at h
    cases hq : Nat.beq q.1 k with
    | true =>
      rw [hq] at h
      simp only [cond_true, Option.some.injEq] at h
      have : q = (k, v) := by rw [← h, ← Nat.eq_of_beq_eq_true hq]
      rw [this]
      exact List.mem_cons_self
    | false =>
      rw [hq] at h
      simp only [cond_false] at h
      exact List.mem_cons_of_mem _ (ih h)
theorem aBlk {α : Type} {l : List (Nat × α)} {c i : Nat} {v : α} (h : (bif Nat.blt i 10000 then aLk l (10000 * c + i) else none) = some v) : (10000 * c + i, v) ∈ l ∧ i < 10000 := by
  cases hb : Nat.blt i 10000 with
  | true =>
    rw [hb] at h
    exact ⟨aLk_mem h, by simpa using hb⟩
  | false => rw [hb] at h; cases h
theorem aOwn_key {c i : Nat} (h : i < 10000) : aOwn (10000 * c + i) = aClsL.getD c "" ∧ (10000 * c + i) % 10000 = i := by
  unfold aOwn
  rw [show (10000 * c + i) / 10000 = c by omega]
  exact ⟨rfl, by omega⟩
theorem aFld_ok {m x : Nat} {f : Nat × Nat × Nat} (h : aFld (aCo m) x = some f) : ∃ r : vw_C, vwCl9[f.1]? = some r ∧ f.2.1 < r.2.2 ∧ Cond.fieldLink (aCls m) x r.1 (r.2.1 f.2.1).2.1 (r.2.1 f.2.1).2.2.1 ∈ aTG ∧ (r.2.1 f.2.1).1 = r.1 := by
  obtain ⟨h1, h2⟩ := aBlk h
  have h3 := List.all_eq_true.mp aFckAll _ h1
  unfold aFck at h3
  dsimp only at h3
  rw [(aOwn_key h2).1, (aOwn_key h2).2] at h3
  cases hr : vwCl9[f.1]? with
  | none => rw [hr] at h3; cases h3
  | some r =>
    rw [hr] at h3
    simp only [Bool.and_eq_true, decide_eq_true_eq] at h3
    exact ⟨r, rfl, h3.1.1, aInT_mem h3.1.2, h3.2⟩
set_option maxRecDepth 100000 in
theorem aUwsAll : vwCl9.all (fun r => (u_ws r.1 r.2.1 r.2.2).all (fun w => decide (w ∈ lw_tbl) && goodWord w)) = true := by decide +kernel
theorem aUws {ci : Nat} {r : vw_C} (h : vwCl9[ci]? = some r) : ∀ w ∈ u_ws r.1 r.2.1 r.2.2, w ∈ aTG := by
  intro w hw
  have h1 := List.all_eq_true.mp (List.all_eq_true.mp aUwsAll _ (List.mem_of_getElem? h)) w hw
  simp only [Bool.and_eq_true, decide_eq_true_eq] at h1
  exact List.mem_filter.mpr ⟨h1.1, h1.2⟩
theorem aCl9 {ci : Nat} {r : vw_C} (h : vwCl9[ci]? = some r) : ci < 9 ∧ r.2.2 = aNf ci ∧ (∃ ty : Nat → FieldType, ∀ k, k < r.2.2 → parseFieldDescriptor (r.2.1 k).2.2.1 = some (ty k)) ∧ (∀ a, a < r.2.2 → ∀ b, b < r.2.2 → a ≠ b → (r.2.1 a).2.1 ≠ (r.2.1 b).2.1) ∧ (∀ k, k < r.2.2 → aFf ci k = 0 → (r.2.1 k).2.2.2 = false) ∧ (∀ k, k < r.2.2 → aFc ci k = 0 → parseFieldDescriptor (r.2.1 k).2.2.1 = some .int) ∧ (∀ k, k < r.2.2 → aFc ci k = 1 → parseFieldDescriptor (r.2.1 k).2.2.1 = some .boolean) := by
  match ci, h with
  | 0, h => cases h; exact ⟨by decide, rfl, ⟨_, tyX0_ok⟩, nmX0, by decide +kernel, by decide +kernel, by decide +kernel⟩
  | 1, h => cases h; exact ⟨by decide, rfl, ⟨_, tyX1_ok⟩, nmX1, by decide +kernel, by decide +kernel, by decide +kernel⟩
  | 2, h => cases h; exact ⟨by decide, rfl, ⟨_, tyX2_ok⟩, nmX2, by decide +kernel, by decide +kernel, by decide +kernel⟩
  | 3, h => cases h; exact ⟨by decide, rfl, ⟨_, tyX3_ok⟩, nmX3, by decide +kernel, by decide +kernel, by decide +kernel⟩
  | 4, h => cases h; exact ⟨by decide, rfl, ⟨_, tyX4_ok⟩, nmX4, by decide +kernel, by decide +kernel, by decide +kernel⟩
  | 5, h => cases h; exact ⟨by decide, rfl, ⟨_, tyX5_ok⟩, nmX5, by decide +kernel, by decide +kernel, by decide +kernel⟩
  | 6, h => cases h; exact ⟨by decide, rfl, ⟨_, tyX6_ok⟩, nmX6, by decide +kernel, by decide +kernel, by decide +kernel⟩
  | 7, h => cases h; exact ⟨by decide, rfl, ⟨_, tyX7_ok⟩, nmX7, by decide +kernel, by decide +kernel, by decide +kernel⟩
  | 8, h => cases h; exact ⟨by decide, rfl, ⟨_, tyX8_ok⟩, nmX8, by decide +kernel, by decide +kernel, by decide +kernel⟩
  | k + 9, h => simp at h
theorem aRfAll : aRfL.all (fun l => l.all (fun v => decide (v < 140))) = true := by decide +kernel
theorem aRf_lt (c k : Nat) : aRf c k < 140 := by
  unfold aRf
  rw [List.getD_eq_getElem?_getD]
  cases h : (aRfL.getD c [])[k]? with
  | none => exact (by decide : (0 : Nat) < 140)
  | some v =>
    have h1 := List.mem_of_getElem? h
    rw [List.getD_eq_getElem?_getD] at h1
    cases h2 : aRfL[c]? with
    | none => rw [h2] at h1; simp at h1
    | some l =>
      rw [h2] at h1
      have h3 := List.all_eq_true.mp (List.all_eq_true.mp aRfAll l (List.mem_of_getElem? h2)) v h1
      simpa using h3
theorem aEn_obj {g : GG} {c ci : Nat} {row : Nat → Int32} (h : aShp c = ci) (h9 : ci < 9) : aEn g c row = .inr (ci, (List.range (aNf ci)).map (aFv g c ci row)) := by
  unfold aEn
  rw [h, if_pos h9]
theorem aEn_ints {g : GG} {c : Nat} {row : Nat → Int32} (h : aShp c = 20) : aEn g c row = .inl (gC g 0, aLen c, .inl row) := by
  unfold aEn
  rw [h, if_neg (by decide), if_pos rfl]
theorem aEn_refs {g : GG} {c s : Nat} {row : Nat → Int32} (h : aShp c = s) (h1 : 21 ≤ s) : aEn g c row = .inl (gC g (s - 20), aLen c, .inr (.inr (.inr (.inr (fun j => some (g.1 + aRf c j)))))) := by
  unfold aEn
  rw [h, if_neg (by omega), if_neg (by omega)]
theorem aFv_set {g : GG} {c ci n k : Nat} {row : Nat → Int32} {v : Int32} (hk : aFc ci k ≠ 2) : ((List.range n).map (aFv g c ci row)).set k (.int v) = (List.range n).map (aFv g c ci (upd row k v)) := by
  apply List.ext_getElem?
  intro j
  by_cases hj : j < n
  · rw [List.getElem?_map, List.getElem?_range hj]
    by_cases hjk : j = k
    · subst hjk
      rw [List.getElem?_set_self (by simpa using hj)]
      show some (Value.int v) = some (aFv g c ci (upd row j v) j)
      unfold aFv
      rw [show Nat.beq (aFc ci j) 2 = false by cases hq : Nat.beq (aFc ci j) 2 with | false => rfl | true => exact absurd (Nat.eq_of_beq_eq_true hq) hk]
      simp [upd]
    · rw [List.getElem?_set_ne (Ne.symm hjk), List.getElem?_map, List.getElem?_range hj]
      show some (aFv g c ci row j) = some (aFv g c ci (upd row k v) j)
      unfold aFv upd
      rw [if_neg hjk]
  · rw [List.getElem?_eq_none (by simp; omega), List.getElem?_eq_none (by simp; omega)]
theorem aScr {g : GG} {I : IM} {U : State} {H H0 H1 : Heap} {locs locs1 : List Loc} (hX : va_X (g.2.1 0) (I 1002 0).toNatClampNeg (I 1000) U H) (hb : g.2.1 0 < g.1) (hz : g.1 ≤ H0.size) (hS : va_S (gA g) H0 H locs) (hS1 : va_S (gA g) H0 H1 locs1) : va_X (g.2.1 0) (I 1002 0).toNatClampNeg (I 1000) U H1 := by
  have hn : ¬ gA g (g.2.1 0) := Nat.not_le.mpr hb
  refine hX.kept ?_
  rw [hS.2.1 _ (by omega) hn, hS1.2.1 _ (by omega) hn]
theorem aX0 {g : GG} {I : IM} {U : State} {H H0 : Heap} {locs : List Loc} (hX : va_X (g.2.1 0) (I 1002 0).toNatClampNeg (I 1000) U H) (hb : g.2.1 0 < g.1) (hz : g.1 ≤ H0.size) (hS : va_S (gA g) H0 H locs) : va_X (g.2.1 0) (I 1002 0).toNatClampNeg (I 1000) U H0 := aScr hX hb hz hS va_S.rf
theorem up_old {I : IM} {c k : Nat} {v : Int32} (h : c < 140) : up I c k v 1000 = I 1000 ∧ up I c k v 1002 = I 1002 := by
  unfold up
  rw [if_neg (by omega), if_neg (by omega)]
  exact ⟨rfl, rfl⟩
/-- behind a store: the world with one row of ints changed -/
theorem aWorld.row {g : GG} {I : IM} {c : Nat} {row : Nat → Int32} {e0 : va_E} {U : State} {H H0 H1 : Heap} {locs locs1 : List Loc} (w : aWorld g I H U) (hc : c < 140) (hb : g.2.1 0 < g.1) (hz : g.1 ≤ H0.size) (hS : va_S (gA g) H0 H locs) (hS1 : va_S (gA g) H0 H1 locs1) (he : e0 = aEn g c row) (hP : va_P (gD g) vwCl9 ((aW g I).set c (g.1 + c, e0)) H1) : aWorld g (fun c' => if c' = c then row else I c') H1 U := by
  refine ⟨?_, w.2.1, ?_⟩
  · rw [he, aW_set g I row hc] at hP
    exact hP
  · have h := aScr w.2.2 hb hz hS hS1
    have e1 : (fun c' => if c' = c then row else I c') 1002 = I 1002 := if_neg (by omega)
    have e2 : (fun c' => if c' = c then row else I c') 1000 = I 1000 := if_neg (by omega)
    rw [e1, e2]
    exact h
section SH2
variable {d m pc n : Nat} {ls st : List Value} {I : IM} {Q : Po}
theorem sh_getfield {x : Nat} (hi : aIns m pc = some (.getfield x, n)) (h : FT Sh (TI (.getfield x) n d m pc ls st I) Q) : Sh (d, m, pc, ls, st, I) Q := by
  obtain ⟨c0, r, rfl, hh⟩ := aRef_inv h
  replace h := hh
  cases hf : aFld (aCo m) x with
  | some f =>
    rw [hf] at h
    dsimp only at h
    obtain ⟨q, h1, h2, h3, h4⟩ := aFld_ok hf
    obtain ⟨h9, hN, -⟩ := aCl9 h1
    have key : n = 3 ∧ aShp c0 = f.1 → (∀ (g : GG) (v : Value), trv g v = aFv g c0 f.1 (I c0) f.2.1 → True) → True := fun _ _ => trivial
    have main : n = 3 ∧ aShp c0 = f.1 → ∀ (v : Value), (∀ g : GG, trv g v = aFv g c0 f.1 (I c0) f.2.1) → Sh (d, m, pc + 3, ls, v :: r, I) Q → Sh (d, m, pc, ls, .ref c0 :: r, I) Q := by
      rintro ⟨rfl, hs⟩ v hv h
      intro g p l e R s0 mi args below meth c H locs cells slots Z lsA C w ol hS hl hb
      have hc := aShp_lt hs (by omega)
      show W p l e R s0 mi args below meth c H locs cells slots Z (F0 mi pc lsA (trv g (.ref c0) :: r.map (trv g)))
      rw [trv_in hc]
      have he := aW_at g I hc
      rw [aEn_obj hs h9] at he
      refine va_get (C := q.1) (T := q.2.1) (N := q.2.2) C.1 C.2.1 C.2.2.2.2.1 (aUws h1) C.2.2.2.1 w.2.1 w.1 c0 he h1 f.2.1 h2 (C.2.2.2.2.1 _ h3) (fun y hy => by rw [h4] at hy; exact hy) (v := trv g v) ?_ (aIns_decode hi) ?_
      · rw [hv g, List.getElem?_map, List.getElem?_range (by omega)]
        rfl
      · exact h g p l e R s0 mi args below meth c H locs cells slots Z lsA C w ol hS hl hb
    cases hk : Nat.beq (aFc f.1 f.2.1) 2 with
    | true =>
      rw [hk] at h
      exact main h.1 _ (fun g => by rw [trv_in (aRf_lt _ _)]; unfold aFv; rw [hk]; rfl) h.2
    | false =>
      rw [hk] at h
      exact main h.1 _ (fun g => by unfold aFv; rw [hk]; rfl) h.2
  | none =>
    rw [hf] at h
    dsimp only at h
    cases h12 : Nat.beq (aCo m) 12 with
    | false => rw [h12] at h; exact absurd h.1 id
    | true =>
      rw [h12] at h
      have hcl : aCls m = "java/lang/String" := by
        unfold aCls
        rw [Nat.eq_of_beq_eq_true h12]
        rfl
      cases hx9 : Nat.beq x 9 with
      | true =>
        rw [hx9] at h
        obtain ⟨⟨rfl, ha, hb2⟩, h⟩ := h
        have := Nat.eq_of_beq_eq_true hx9
        subst this
        intro g p l e R s0 mi args below meth c H locs cells slots Z lsA C w ol hS hl hb
        have h' := h g p l e R s0 mi args below meth c H locs cells slots Z lsA C w ol hS hl hb
        show W p l e R s0 mi args below meth c H locs cells slots Z (F0 mi pc lsA (trv g (.ref c0) :: r.map (trv g)))
        have h'' : W p l e R s0 mi args below meth c H locs cells slots Z (F0 mi (pc + 3) lsA (trv g (.ref (c0 + 10)) :: r.map (trv g))) := h'
        rw [trv_old (by omega) (by omega)] at h'' ⊢
        obtain ⟨i, hi6, rfl⟩ := aNat6 1010 c0 ha hb2
        rw [show 1010 + i - 1000 = 10 + i by omega]
        rw [show 1010 + i + 10 - 1000 = 20 + i by omega] at h''
        have hK := ol.2.2.2.2.2.1.1 i hi6
        refine vk_getf (own := aCls m) (ref := "java/lang/String") (index := 9) C.1 C.2.1 hK.2.2.1 hS C.2.2.2.1 (C.2.2.2.2.1 _ ?_) (fun _ hy => hy) (aIns_decode hi) h''
        rw [hcl]
        exact aInT_mem aStrV
      | false =>
        rw [hx9] at h
        cases hx15 : Nat.beq x 15 with
        | false => rw [hx15] at h; exact absurd h.1 id
        | true =>
          rw [hx15] at h
          obtain ⟨⟨rfl, ha, hb2⟩, h⟩ := h
          have := Nat.eq_of_beq_eq_true hx15
          subst this
          intro g p l e R s0 mi args below meth c H locs cells slots Z lsA C w ol hS hl hb
          have h' := h g p l e R s0 mi args below meth c H locs cells slots Z lsA C w ol hS hl hb
          show W p l e R s0 mi args below meth c H locs cells slots Z (F0 mi pc lsA (trv g (.ref c0) :: r.map (trv g)))
          rw [trv_old (by omega) (by omega)]
          obtain ⟨i, hi6, rfl⟩ := aNat6 1010 c0 ha hb2
          rw [show 1010 + i - 1000 = 10 + i by omega]
          have hK := ol.2.2.2.2.2.1.1 i hi6
          refine vk_getf (own := aCls m) (ref := "java/lang/String") (index := 15) C.1 C.2.1 hK.2.1 hS C.2.2.2.1 (C.2.2.2.2.1 _ ?_) (fun _ hy => hy) (aIns_decode hi) h'
          rw [hcl]
          exact aInT_mem aStrC
theorem sh_putfield {x : Nat} (hi : aIns m pc = some (.putfield x, n)) (h : FT Sh (TI (.putfield x) n d m pc ls st I) Q) : Sh (d, m, pc, ls, st, I) Q := by
  unfold TI at h
  dsimp only at h
  split at h
  · rename_i v c0 r
    cases hf : aFld (aCo m) x with
    | none => rw [hf] at h; exact absurd h.1 id
    | some f =>
      rw [hf] at h
      obtain ⟨⟨rfl, hs, hff, hty⟩, h⟩ := h
      obtain ⟨q, h1, h2, h3, h4⟩ := aFld_ok hf
      obtain ⟨h9, hN, ⟨ty, ht⟩, hnm, hfin, hint, hbool⟩ := aCl9 h1
      intro g p l e R s0 mi args below meth c H locs cells slots Z lsA C w ol hS hl hb
      have hc := aShp_lt hs (by omega)
      show W p l e R s0 mi args below meth c H locs cells slots Z (F0 mi pc lsA (.int v :: trv g (.ref c0) :: r.map (trv g)))
      rw [trv_in hc]
      have he := aW_at g I hc
      rw [aEn_obj hs h9] at he
      have h2' : f.2.1 < aNf f.1 := by omega
      have hnr : aFc f.1 f.2.1 ≠ 2 := by rcases hty with e | ⟨e, -⟩ <;> rw [e] <;> decide
      have fin : ∀ (H1 : Heap) (locs1 : List Loc), va_P (gD g) vwCl9 ((aW g I).set c0 (g.1 + c0, .inr (f.1, ((List.range (aNf f.1)).map (aFv g c0 f.1 (I c0))).set f.2.1 (.int v)))) H1 → va_D (gA g) ((aW g I).set c0 (g.1 + c0, .inr (f.1, ((List.range (aNf f.1)).map (aFv g c0 f.1 (I c0))).set f.2.1 (.int v)))) → va_S (gA g) s0.heap H1 locs1 → W p l e R s0 mi args below meth c H1 locs1 cells slots Z (F0 mi (pc + 3) lsA (r.map (trv g))) := by
        intro H1 locs1 hP1 _ hS1
        have w1 : aWorld g (up I c0 f.2.1 v) H1 s0 := w.row (row := upd (I c0) f.2.1 v) hc ol.2.1 ol.2.2.1 hS hS1 (by rw [aEn_obj hs h9, aFv_set hnr]) hP1
        exact h g p l e R s0 mi args below meth c H1 locs1 cells slots Z lsA C w1 ol hS1 hl hb
      rcases hty with hty | ⟨hty, hv⟩
      · exact va_put (C := q.1) (T := q.2.1) (N := q.2.2) C.1 C.2.1 C.2.2.2.2.1 (aUws h1) ty ht hnm C.2.2.2.1 w.2.1 w.1 (aW_D g I) hS c0 he h1 f.2.1 h2 (C.2.2.2.2.1 _ h3) (fun y hy => by rw [h4] at hy; exact hy) (hfin _ h2 hff) (ty := .int) (hint _ h2 hty) rfl rfl (by simpa using h2') (aIns_decode hi) fin
      · exact va_put (C := q.1) (T := q.2.1) (N := q.2.2) C.1 C.2.1 C.2.2.2.2.1 (aUws h1) ty ht hnm C.2.2.2.1 w.2.1 w.1 (aW_D g I) hS c0 he h1 f.2.1 h2 (C.2.2.2.2.1 _ h3) (fun y hy => by rw [h4] at hy; exact hy) (hfin _ h2 hff) (ty := .boolean) (hbool _ h2 hty) (by rcases hv with rfl | rfl <;> decide) (by rcases hv with rfl | rfl <;> decide) (by simpa using h2') (aIns_decode hi) fin
  · exact absurd h.1 id
theorem sh_getstatic {x : Nat} (hi : aIns m pc = some (.getstatic x, n)) (h : FT Sh (TI (.getstatic x) n d m pc ls st I) Q) : Sh (d, m, pc, ls, st, I) Q := by
  unfold TI at h
  dsimp only at h
  cases h1 : (Nat.beq (aCo m) 0 && Nat.beq x 31) with
  | true =>
    rw [h1] at h
    obtain ⟨rfl, h⟩ := h
    simp only [Bool.and_eq_true] at h1
    have hx := Nat.eq_of_beq_eq_true h1.2
    subst hx
    have hcl : aCls m = RX0 := by
      unfold aCls
      rw [Nat.eq_of_beq_eq_true h1.1]
      rfl
    intro g p l e R s0 mi args below meth c H locs cells slots Z lsA C w ol hS hl hb
    have h' : W p l e R s0 mi args below meth c H locs cells slots Z (F0 mi (pc + 3) lsA (trv g (.ref 1001) :: st.map (trv g))) := h g p l e R s0 mi args below meth c H locs cells slots Z lsA C w ol hS hl hb
    rw [trv_old (by decide) (by decide)] at h'
    have ho := C.2.2.2.1
    rw [hcl] at ho
    exact va_getsN (own := RX0) (ref := "TwelveShort") (host := "TwelveShort") (index := 31) C.1 C.2.1 ol.2.2.2.1 hS ho (ol.2.2.2.2.2.2.2.2.2.2.use rfl) (fun _ hy => hy) (aIns_decode hi) h'
  | false =>
    rw [h1] at h
    cases h2 : (Nat.beq (aCo m) 12 && Nat.beq x 38) with
    | true =>
      rw [h2] at h
      obtain ⟨rfl, h⟩ := h
      simp only [Bool.and_eq_true] at h2
      have hx := Nat.eq_of_beq_eq_true h2.2
      subst hx
      have hcl : aCls m = "java/lang/String" := by
        unfold aCls
        rw [Nat.eq_of_beq_eq_true h2.1]
        rfl
      intro g p l e R s0 mi args below meth c H locs cells slots Z lsA C w ol hS hl hb
      have h' := h g p l e R s0 mi args below meth c H locs cells slots Z lsA C w ol hS hl hb
      have ho := C.2.2.2.1
      rw [hcl] at ho
      exact va_gets (own := "java/lang/String") (ref := "java/lang/String") (index := 38) C.1 C.2.1 ol.2.2.2.2.2.2.2.1 hS ho (C.2.2.2.2.1 _ (aInT_mem aStrS)) (fun _ hy => hy) (aIns_decode hi) h'
    | false =>
      rw [h2] at h
      cases h3 : (Nat.beq (aCo m) 12 && Nat.beq x 1053) with
      | false => rw [h3] at h; exact absurd h.1 id
      | true =>
        rw [h3] at h
        obtain ⟨rfl, h⟩ := h
        simp only [Bool.and_eq_true] at h3
        have hx := Nat.eq_of_beq_eq_true h3.2
        subst hx
        have hcl : aCls m = "java/lang/String" := by
          unfold aCls
          rw [Nat.eq_of_beq_eq_true h3.1]
          rfl
        intro g p l e R s0 mi args below meth c H locs cells slots Z lsA C w ol hS hl hb
        have h' : W p l e R s0 mi args below meth c H locs cells slots Z (F0 mi (pc + 3) lsA (trv g (.ref 1030) :: st.map (trv g))) := h g p l e R s0 mi args below meth c H locs cells slots Z lsA C w ol hS hl hb
        rw [show trv g (.ref 1030) = g.2.2.1 from rfl] at h'
        have ho := C.2.2.2.1
        rw [hcl] at ho
        exact va_gets (own := "java/lang/String") (ref := "jdk/internal/util/Preconditions") (index := 1053) C.1 C.2.1 ol.2.2.2.2.2.2.2.2.1 hS ho (C.2.2.2.2.1 _ (aInT_mem aStrF)) (fun _ hy => hy) (aIns_decode hi) h'
theorem aStrLen {i : Nat} (h : i < 6) : ((List.range 6).map fun i => (aStrBy i).length).getD i 0 = (aStrBy i).length ∧ ((List.range 6).map aStrBy).getD i [] = aStrBy i := by
  rw [List.getD_eq_getElem?_getD, List.getD_eq_getElem?_getD, List.getElem?_map, List.getElem?_map, List.getElem?_range h]
  exact ⟨rfl, rfl⟩
theorem gTys_at {g : GG} {s : Nat} (h1 : 20 ≤ s) (h2 : s ≤ 24) : ∃ ty, (gTys g)[s - 20]? = some (gC g (s - 20), ty) ∧ (21 ≤ s → ∃ C, ty = .object C) ∧ (s = 20 → ty = .int) := by
  match s, h1, h2 with
  | 20, _, _ => exact ⟨_, rfl, fun h => by omega, fun _ => rfl⟩
  | 21, _, _ => exact ⟨_, rfl, fun _ => ⟨_, rfl⟩, fun h => by omega⟩
  | 22, _, _ => exact ⟨_, rfl, fun _ => ⟨_, rfl⟩, fun h => by omega⟩
  | 23, _, _ => exact ⟨_, rfl, fun _ => ⟨_, rfl⟩, fun h => by omega⟩
  | 24, _, _ => exact ⟨_, rfl, fun _ => ⟨_, rfl⟩, fun h => by omega⟩
  | k + 25, _, h => exact absurd h (by omega)
theorem sh_arraylength (hi : aIns m pc = some (.arraylength, n)) (h : FT Sh (TI .arraylength n d m pc ls st I) Q) : Sh (d, m, pc, ls, st, I) Q := by
  obtain ⟨c0, r, rfl, hh⟩ := aRef_inv h
  replace h := hh
  cases hb0 : (Nat.ble 1020 c0 && Nat.blt c0 1026) with
  | true =>
    rw [hb0] at h
    obtain ⟨rfl, h⟩ := h
    simp only [Bool.and_eq_true, Nat.ble_eq, Nat.blt_eq] at hb0
    obtain ⟨i, hi6, rfl⟩ := aNat6 1020 c0 hb0.1 hb0.2
    rw [show 1020 + i - 1020 = i by omega] at h
    intro g p l e R s0 mi args below meth c H locs cells slots Z lsA C w ol hS hl hb
    have h' := h g p l e R s0 mi args below meth c H locs cells slots Z lsA C w ol hS hl hb
    show W p l e R s0 mi args below meth c H locs cells slots Z (F0 mi pc lsA (trv g (.ref (1020 + i)) :: r.map (trv g)))
    rw [trv_old (by omega) (by omega), show 1020 + i - 1000 = 20 + i by omega]
    have hT := (ol.2.2.2.2.2.1.1 i hi6).2.2.2
    rw [(aStrLen hi6).1] at hT
    exact va_tlen C.1 C.2.1 hT hS rfl (aIns_decode hi) h'
  | false =>
    rw [hb0] at h
    obtain ⟨⟨rfl, hk, hn⟩, h⟩ := h
    intro g p l e R s0 mi args below meth c H locs cells slots Z lsA C w ol hS hl hb
    have h' := h g p l e R s0 mi args below meth c H locs cells slots Z lsA C w ol hS hl hb
    show W p l e R s0 mi args below meth c H locs cells slots Z (F0 mi pc lsA (trv g (.ref c0) :: r.map (trv g)))
    by_cases h0 : c0 = 1000
    · subst h0
      rw [trv_old (by decide) (by decide)]
      exact va_slen C.1 C.2.1 (aX0 w.2.2 ol.2.1 ol.2.2.1 hS) (Nat.lt_of_lt_of_le ol.2.1 ol.2.2.1) (Nat.not_le.mpr ol.2.1) hS (aIns_decode hi) h'
    · by_cases h1 : c0 = 1001
      · subst h1
        rw [trv_old (by decide) (by decide)]
        exact va_tlen C.1 C.2.1 ol.2.2.2.2.1 hS rfl (aIns_decode hi) h'
      · have hs : 20 ≤ aShp c0 ∧ aShp c0 ≤ 24 := by
          rcases hk with (e | e | e) | e
          · exact absurd e h0
          · exact absurd e h1
          · omega
          · exact e
        have hc := aShp_lt (c := c0) rfl (by omega)
        rw [trv_in hc]
        have he := aW_at g I hc
        have hal : aAl I c0 = aLen c0 := by unfold aAl; rw [if_neg h0, if_neg h1]
        obtain ⟨ty, t1, -, -⟩ := gTys_at (g := g) hs.1 hs.2
        by_cases h20 : aShp c0 = 20
        · rw [aEn_ints h20] at he
          exact va_alen C.1 C.2.1 w.2.1 w.1 c0 0 he (ty := .int) rfl (v := nI (aAl I c0)) (by rw [hal]; rfl) (aIns_decode hi) h'
        · rw [aEn_refs rfl (by omega)] at he
          exact va_alen C.1 C.2.1 w.2.1 w.1 c0 (aShp c0 - 20) he t1 (v := nI (aAl I c0)) (by rw [hal]; rfl) (aIns_decode hi) h'
theorem sh_iaload (hi : aIns m pc = some (.iaload, n)) (h : FT Sh (TI .iaload n d m pc ls st I) Q) : Sh (d, m, pc, ls, st, I) Q := by
  unfold TI at h
  dsimp only at h
  split at h
  · rename_i j c0 r
    obtain ⟨⟨rfl, hk, hin⟩, h⟩ := h
    intro g p l e R s0 mi args below meth c H locs cells slots Z lsA C w ol hS hl hb
    have h' := h g p l e R s0 mi args below meth c H locs cells slots Z lsA C w ol hS hl hb
    show W p l e R s0 mi args below meth c H locs cells slots Z (F0 mi pc lsA (.int j :: trv g (.ref c0) :: r.map (trv g)))
    by_cases h0 : c0 = 1000
    · subst h0
      rw [trv_old (by decide) (by decide)]
      exact va_sld C.1 C.2.1 (aX0 w.2.2 ol.2.1 ol.2.2.1 hS) (Nat.lt_of_lt_of_le ol.2.1 ol.2.2.1) (Nat.not_le.mpr ol.2.1) hS hin (aIns_decode hi) h'
    · by_cases h1 : c0 = 1001
      · subst h1
        rw [trv_old (by decide) (by decide)]
        exact va_ti C.1 C.2.1 ol.2.2.2.2.1 hS hin rfl (aIns_decode hi) h'
      · have h20 : aShp c0 = 20 := by
          rcases hk with e | e | e
          · exact absurd e h0
          · exact absurd e h1
          · exact e
        have hc := aShp_lt h20 (by decide)
        rw [trv_in hc]
        have he := aW_at g I hc
        rw [aEn_ints h20] at he
        have hal : aAl I c0 = aLen c0 := by unfold aAl; rw [if_neg h0, if_neg h1]
        rw [hal] at hin
        have hrd : aRd I c0 j.toNatClampNeg = I c0 j.toNatClampNeg := by unfold aRd; rw [if_neg h1]
        have h'' : W p l e R s0 mi args below meth c H locs cells slots Z (F0 mi (pc + 1) lsA (.int (aRd I c0 j.toNatClampNeg) :: r.map (trv g))) := h'
        rw [hrd] at h''
        exact va_iald C.1 C.2.1 w.2.1 w.1 c0 0 he rfl hin (aIns_decode hi) h''
  · exact absurd h.1 id
theorem sh_baload (hi : aIns m pc = some (.baload, n)) (h : FT Sh (TI .baload n d m pc ls st I) Q) : Sh (d, m, pc, ls, st, I) Q := by
  unfold TI at h
  dsimp only at h
  split at h
  · rename_i j c0 r
    obtain ⟨⟨rfl, h1, h2, hin⟩, h⟩ := h
    obtain ⟨i, hi6, rfl⟩ := aNat6 1020 c0 h1 h2
    rw [show 1020 + i - 1020 = i by omega] at h hin
    intro g p l e R s0 mi args below meth c H locs cells slots Z lsA C w ol hS hl hb
    have h' := h g p l e R s0 mi args below meth c H locs cells slots Z lsA C w ol hS hl hb
    show W p l e R s0 mi args below meth c H locs cells slots Z (F0 mi pc lsA (.int j :: trv g (.ref (1020 + i)) :: r.map (trv g)))
    rw [trv_old (by omega) (by omega), show 1020 + i - 1000 = 20 + i by omega]
    have hT := (ol.2.2.2.2.2.1.1 i hi6).2.2.2
    rw [(aStrLen hi6).1, (aStrLen hi6).2] at hT
    exact va_tb C.1 C.2.1 hT hS hin rfl (aIns_decode hi) h'
  · exact absurd h.1 id
theorem sh_aaload (hi : aIns m pc = some (.aaload, n)) (h : FT Sh (TI .aaload n d m pc ls st I) Q) : Sh (d, m, pc, ls, st, I) Q := by
  unfold TI at h
  dsimp only at h
  split at h
  · rename_i j c0 r
    obtain ⟨⟨rfl, h1, h2, hin⟩, h⟩ := h
    intro g p l e R s0 mi args below meth c H locs cells slots Z lsA C w ol hS hl hb
    have h' : W p l e R s0 mi args below meth c H locs cells slots Z (F0 mi (pc + 1) lsA (trv g (.ref (aRf c0 j.toNatClampNeg)) :: r.map (trv g))) := h g p l e R s0 mi args below meth c H locs cells slots Z lsA C w ol hS hl hb
    rw [trv_in (aRf_lt _ _)] at h'
    show W p l e R s0 mi args below meth c H locs cells slots Z (F0 mi pc lsA (.int j :: trv g (.ref c0) :: r.map (trv g)))
    have hc := aShp_lt (c := c0) rfl (by omega)
    rw [trv_in hc]
    have he := aW_at g I hc
    rw [aEn_refs rfl h1] at he
    obtain ⟨ty, t1, t2, -⟩ := gTys_at (g := g) (s := aShp c0) (by omega) h2
    obtain ⟨Cn, rfl⟩ := t2 h1
    exact va_aldq C.1 C.2.1 w.2.1 w.1 c0 (aShp c0 - 20) he t1 hin (aIns_decode hi) h'
  · exact absurd h.1 id
theorem sh_iastore (hi : aIns m pc = some (.iastore, n)) (h : FT Sh (TI .iastore n d m pc ls st I) Q) : Sh (d, m, pc, ls, st, I) Q := by
  unfold TI at h
  dsimp only at h
  split at h
  · rename_i v j c0 r
    obtain ⟨⟨rfl, h20, hin⟩, h⟩ := h
    intro g p l e R s0 mi args below meth c H locs cells slots Z lsA C w ol hS hl hb
    show W p l e R s0 mi args below meth c H locs cells slots Z (F0 mi pc lsA (.int v :: .int j :: trv g (.ref c0) :: r.map (trv g)))
    have hc := aShp_lt h20 (by decide)
    rw [trv_in hc]
    have he := aW_at g I hc
    rw [aEn_ints h20] at he
    refine va_iast C.1 C.2.1 w.2.1 w.1 (aW_D g I) hS c0 0 he rfl hin (aIns_decode hi) (fun H1 locs1 hP1 _ hS1 => ?_)
    exact h g p l e R s0 mi args below meth c H1 locs1 cells slots Z lsA C (w.row (row := upd (I c0) j.toNatClampNeg v) hc ol.2.1 ol.2.2.1 hS hS1 (by rw [aEn_ints h20]) hP1) ol hS1 hl hb
  · exact absurd h.1 id
theorem aCst_ok {m x : Nat} {v : Int32 × Nat} (h : aCst (aCo m) x = some v) : Cond.constant (aCls m) x v.1 ∈ aTG := by
  obtain ⟨h1, h2⟩ := aBlk h
  have h3 := List.all_eq_true.mp aCstAll _ h1
  dsimp only at h3
  rw [(aOwn_key h2).1, (aOwn_key h2).2] at h3
  exact aInT_mem h3
theorem aCsl_ok {m x : Nat} {v : Int64 × Nat} (h : aCsl (aCo m) x = some v) : Cond.constantLong (aCls m) x v.1 ∈ aTG := by
  obtain ⟨h1, h2⟩ := aBlk h
  have h3 := List.all_eq_true.mp aCslAll _ h1
  dsimp only at h3
  rw [(aOwn_key h2).1, (aOwn_key h2).2] at h3
  exact aInT_mem h3
theorem aStrLAll : aStrL.all (fun q => decide (q.1 / 10000 = 3 ∧ q.2 < 6 ∧ aStrIx q.2 = q.1 % 10000)) = true := by decide +kernel
theorem sh_ldc {x : Nat} (hi : aIns m pc = some (.ldc x, n)) (h : FT Sh (TI (.ldc x) n d m pc ls st I) Q) : Sh (d, m, pc, ls, st, I) Q := by
  unfold TI at h
  dsimp only at h
  cases hc : aCst (aCo m) x with
  | some v =>
    rw [hc] at h
    obtain ⟨rfl, h⟩ := h
    intro g p l e R s0 mi args below meth c H locs cells slots Z lsA C w ol hS hl hb
    exact lv_ldc C.1 C.2.1 C.2.2.2.1 (C.2.2.2.2.1 _ (aCst_ok hc)) (aIns_decode hi) (h g p l e R s0 mi args below meth c H locs cells slots Z lsA C w ol hS hl hb)
  | none =>
    rw [hc] at h
    dsimp only at h
    cases hs : aStr (aCo m) x with
    | none => rw [hs] at h; exact absurd h.1 id
    | some j =>
      rw [hs] at h
      obtain ⟨rfl, h⟩ := h
      obtain ⟨h1, h2⟩ := aBlk hs
      have h3 := List.all_eq_true.mp aStrLAll _ h1
      simp only [decide_eq_true_eq] at h3
      obtain ⟨h4, h5, h6⟩ := h3
      rw [(aOwn_key h2).2] at h6
      rw [show (10000 * aCo m + x) / 10000 = aCo m by omega] at h4
      intro g p l e R s0 mi args below meth c H locs cells slots Z lsA C w ol hS hl hb
      have h' : W p l e R s0 mi args below meth c H locs cells slots Z (F0 mi (pc + 2) lsA (trv g (.ref (1010 + j)) :: st.map (trv g))) := h g p l e R s0 mi args below meth c H locs cells slots Z lsA C w ol hS hl hb
      rw [trv_old (by omega) (by omega), show 1010 + j - 1000 = 10 + j by omega] at h'
      have ho := C.2.2.2.1
      have hcl : aCls m = RX3 := by unfold aCls; rw [h4]; rfl
      rw [hcl] at ho
      have hR := ol.2.2.2.2.2.2.1 j h5
      rw [h6] at hR
      exact va_ldcS C.1 C.2.1 ho hR (aIns_decode hi) h'
theorem sh_ldc_w {x : Nat} (hi : aIns m pc = some (.ldc_w x, n)) (h : FT Sh (TI (.ldc_w x) n d m pc ls st I) Q) : Sh (d, m, pc, ls, st, I) Q := by
  unfold TI at h
  dsimp only at h
  cases hc : aCst (aCo m) x with
  | some v =>
    rw [hc] at h
    obtain ⟨rfl, h⟩ := h
    intro g p l e R s0 mi args below meth c H locs cells slots Z lsA C w ol hS hl hb
    exact lv_ldcw C.1 C.2.1 C.2.2.2.1 (C.2.2.2.2.1 _ (aCst_ok hc)) (aIns_decode hi) (h g p l e R s0 mi args below meth c H locs cells slots Z lsA C w ol hS hl hb)
  | none => rw [hc] at h; exact absurd h.1 id
theorem sh_ldc2_w {x : Nat} (hi : aIns m pc = some (.ldc2_w x, n)) (h : FT Sh (TI (.ldc2_w x) n d m pc ls st I) Q) : Sh (d, m, pc, ls, st, I) Q := by
  unfold TI at h
  dsimp only at h
  cases hc : aCsl (aCo m) x with
  | some v =>
    rw [hc] at h
    obtain ⟨rfl, h⟩ := h
    intro g p l e R s0 mi args below meth c H locs cells slots Z lsA C w ol hS hl hb
    exact lv_ldc2 C.1 C.2.1 C.2.2.2.1 (C.2.2.2.2.1 _ (aCsl_ok hc)) (aIns_decode hi) (h g p l e R s0 mi args below meth c H locs cells slots Z lsA C w ol hS hl hb)
  | none => rw [hc] at h; exact absurd h.1 id
/-! switches -/
theorem aOfInt_eq {x : Int32} {k : Int} (h1 : -2147483648 ≤ k) (h2 : k ≤ 2147483647) : x = Int32.ofInt k ↔ x.toInt = k := by
  constructor
  · rintro rfl
    exact Int32.toInt_ofInt_of_le (by simpa using h1) (by
      have : (2 : Int) ^ 31 = 2147483648 := by decide
      omega)
  · intro h
    apply Int32.toInt_inj.mp
    rw [h]
    exact (Int32.toInt_ofInt_of_le (by simpa using h1) (by
      have : (2 : Int) ^ 31 = 2147483648 := by decide
      omega)).symm
theorem aTsel_spec (pc : Nat) (dflt : Int) (x : Int32) : ∀ (os : List Int) (lo : Int), -2147483648 ≤ lo → lo + os.length ≤ 2147483647 →
    ((x.toInt < lo ∨ lo + os.length ≤ x.toInt) → aTsel pc dflt x os (Int32.ofInt lo) = aTg pc dflt) ∧ (∀ o, lo ≤ x.toInt → os[(x.toInt - lo).toNat]? = some o → aTsel pc dflt x os (Int32.ofInt lo) = aTg pc o) := by
  intro os
  induction os with
  | nil => intro lo _ _; exact ⟨fun _ => rfl, fun o _ h => by simp at h⟩
  | cons a os ih =>
    intro lo h1 h2
    simp only [List.length_cons] at h2 ⊢
    have e := aOfInt_eq (x := x) h1 (by omega)
    have e2 : Int32.ofInt lo + 1 = Int32.ofInt (lo + 1) := by rw [Int32.ofInt_add]; rfl
    have ih' := ih (lo + 1) (by omega) (by omega)
    unfold aTsel
    rw [e2]
    refine ⟨fun h => ?_, fun o h3 h4 => ?_⟩
    · rw [if_neg (fun q => by have := e.mp q; omega)]
      exact ih'.1 (by omega)
    · by_cases hx : x.toInt = lo
      · rw [if_pos (e.mpr hx)]
        rw [hx, show (lo - lo).toNat = 0 by omega] at h4
        cases h4
        rfl
      · rw [if_neg (fun q => hx (e.mp q))]
        refine ih'.2 o (by omega) ?_
        rw [show (x.toInt - lo).toNat = (x.toInt - (lo + 1)).toNat + 1 by omega] at h4
        exact h4
theorem sh_tableswitch {dflt lo hi' : Int} {offs : Array Int} (hi : aIns m pc = some (.tableswitch dflt lo hi' offs, n)) (h : FT Sh (TI (.tableswitch dflt lo hi' offs) n d m pc ls st I) Q) : Sh (d, m, pc, ls, st, I) Q := by
  obtain ⟨x, r, rfl, ⟨h1, h2, h3, h4, h5, h6⟩, h⟩ := aUni_inv h
  have hsz : (offs.toList.length : Int) = hi' + 1 - lo := by rw [Array.length_toList]; exact h4
  obtain ⟨s1, s2⟩ := aTsel_spec pc dflt x offs.toList lo h1 (by omega)
  intro g p l e R s0 mi args below meth c H locs cells slots Z lsA C w ol hS hl hb
  have h' : W p l e R s0 mi args below meth c H locs cells slots Z (F0 mi (aTsel pc dflt x offs.toList (Int32.ofInt lo)) lsA (r.map (trv g))) := h g p l e R s0 mi args below meth c H locs cells slots Z lsA C w ol hS hl hb
  by_cases hx : x.toInt < lo ∨ hi' < x.toInt
  · rw [s1 (by omega)] at h'
    exact lv_tableOut C.1 C.2.1 (aIns_decode hi) hx (aTg_eq h5) h'
  · have hlt : (x.toInt - lo).toNat < offs.toList.length := by omega
    have ho : offs.toList[(x.toInt - lo).toNat]? = some offs.toList[(x.toInt - lo).toNat] := List.getElem?_eq_getElem hlt
    rw [s2 _ (by omega) ho] at h'
    have hm : aTk pc offs.toList[(x.toInt - lo).toNat] := h6 _ (List.getElem_mem hlt)
    exact lv_tableIn C.1 C.2.1 (aIns_decode hi) (by omega) (by omega) (by rw [← Array.getElem?_toList]; exact ho) (aTg_eq hm) h'
theorem aLsel_spec (pc : Nat) (dflt : Int) (x : Int32) (hd : aTk pc dflt) : ∀ (ps : List (Int × Int)), (∀ o ∈ ps, -2147483648 ≤ o.1 ∧ o.1 ≤ 2147483647 ∧ aTk pc o.2) → aLsel pc dflt x ps = aTg pc (Op.lookupswitch.offset ps dflt x.toInt) ∧ aTk pc (Op.lookupswitch.offset ps dflt x.toInt) := by
  intro ps
  induction ps with
  | nil => intro _; exact ⟨rfl, hd⟩
  | cons a ps ih =>
    intro h
    obtain ⟨a1, a2⟩ := a
    obtain ⟨q1, q2, q3⟩ := h (a1, a2) List.mem_cons_self
    have ih' := ih (fun o ho => h o (List.mem_cons_of_mem _ ho))
    have e := aOfInt_eq (x := x) q1 q2
    unfold aLsel
    rw [Op.lookupswitch.offset_cons]
    by_cases hx : a1 = x.toInt
    · rw [if_pos hx, if_pos (e.mpr hx.symm)]
      exact ⟨rfl, q3⟩
    · rw [if_neg hx, if_neg (fun q => hx (e.mp q).symm)]
      exact ih'
theorem sh_lookupswitch {dflt : Int} {ps : Array (Int × Int)} (hi : aIns m pc = some (.lookupswitch dflt ps, n)) (h : FT Sh (TI (.lookupswitch dflt ps) n d m pc ls st I) Q) : Sh (d, m, pc, ls, st, I) Q := by
  obtain ⟨x, r, rfl, ⟨h1, h2, h3⟩, h⟩ := aUni_inv h
  obtain ⟨s1, s2⟩ := aLsel_spec pc dflt x h2 ps.toList h3
  intro g p l e R s0 mi args below meth c H locs cells slots Z lsA C w ol hS hl hb
  have h' : W p l e R s0 mi args below meth c H locs cells slots Z (F0 mi (aLsel pc dflt x ps.toList) lsA (r.map (trv g))) := h g p l e R s0 mi args below meth c H locs cells slots Z lsA C w ol hS hl hb
  rw [s1] at h'
  exact lv_lookup C.1 C.2.1 (aIns_decode hi) h1 rfl (aTg_eq s2) h'
/-! returns -/
theorem sh_ireturn (hi : aIns m pc = some (.ireturn, n)) (h : FT Sh (TI .ireturn n d m pc ls st I) Q) : Sh (d, m, pc, ls, st, I) Q := by
  unfold TI at h
  dsimp only at h
  split at h
  · rename_i v
    obtain ⟨⟨rfl, hn⟩, h⟩ := h
    intro g p l e R s0 mi args below meth c H locs cells slots Z lsA C w ol hS hl hb
    have h' := hb (.int v) I H locs pc lsA _ h w hS hi ⟨v, rfl, hn⟩
    unfold aRst at h'
    rw [if_neg (fun e => by have hn' : aNar (aRet m) v := hn; rw [e] at hn'; exact hn')] at h'
    exact h'
  · exact absurd h.1 id
theorem sh_return_ (hi : aIns m pc = some (.return_, n)) (h : FT Sh (TI .return_ n d m pc ls st I) Q) : Sh (d, m, pc, ls, st, I) Q := by
  unfold TI at h
  dsimp only at h
  split at h
  · obtain ⟨⟨rfl, hn⟩, h⟩ := h
    intro g p l e R s0 mi args below meth c H locs cells slots Z lsA C w ol hS hl hb
    have h' := hb .null I H locs pc lsA _ h w hS hi hn
    unfold aRst at h'
    rw [if_pos hn] at h'
    exact h'
  · exact absurd h.1 id
theorem sh_areturn (hi : aIns m pc = some (.areturn, n)) (h : FT Sh (TI .areturn n d m pc ls st I) Q) : Sh (d, m, pc, ls, st, I) Q := by
  unfold TI at h
  dsimp only at h
  split at h
  · rename_i v
    obtain ⟨⟨rfl, hn1, hn2⟩, h⟩ := h
    intro g p l e R s0 mi args below meth c H locs cells slots Z lsA C w ol hS hl hb
    have h' := hb v I H locs pc lsA _ h w hS hi ⟨hn1, hn2⟩
    unfold aRst at h'
    rw [if_neg (fun e => by rcases hn2 with ⟨k, q⟩ | ⟨k, q⟩ <;> (rw [show aRet m = none from e] at q; cases q))] at h'
    exact h'
  · exact absurd h.1 id
theorem sh_lreturn (hi : aIns m pc = some (.lreturn, n)) (h : FT Sh (TI .lreturn n d m pc ls st I) Q) : Sh (d, m, pc, ls, st, I) Q := by
  unfold TI at h
  dsimp only at h
  split at h
  · rename_i v
    obtain ⟨⟨rfl, hn⟩, h⟩ := h
    intro g p l e R s0 mi args below meth c H locs cells slots Z lsA C w ol hS hl hb
    have h' := hb (.long v) I H locs pc lsA _ h w hS hi ⟨v, rfl, hn⟩
    unfold aRst at h'
    rw [if_neg (fun e => by rw [show aRet m = none from e] at hn; cases hn)] at h'
    exact h'
  · exact absurd h.1 id
end SH2
