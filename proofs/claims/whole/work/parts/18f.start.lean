/-! what the start gives -/
def bFl : List Cond := flatC (Jvm.Cond.and given_1 narrow_1)
abbrev tUn : Term := .static "TwelveShort" "UNDER" "[I"
abbrev tSx (i : Nat) : Term := .string RX3 (aStrIx i)
set_option maxRecDepth 100000 in
theorem fl_u1 : Cond.arrayOf tUn .int ∈ bFl := by decide +kernel
set_option maxRecDepth 100000 in
theorem fl_u2 : Cond.eq (.length tUn) (.int (Int32.ofNat 6)) ∈ bFl := by decide +kernel
set_option maxRecDepth 100000 in
theorem fl_u3 : ∀ j, j < 6 → Cond.eq (.elem tUn (.int (Int32.ofNat j))) (.int (aUnder j)) ∈ bFl := by decide +kernel
set_option maxRecDepth 100000 in
theorem fl_c : Cond.eq (.static "java/lang/String" "COMPACT_STRINGS" "Z") (.int 1) ∈ bFl := by decide +kernel
set_option maxRecDepth 100000 in
theorem fl_f : Cond.isRef (.static "jdk/internal/util/Preconditions" "SIOOBE_FORMATTER" "Ljava/util/function/BiFunction;") ∈ bFl := by decide +kernel
set_option maxRecDepth 100000 in
theorem fl_s1 : ∀ i, i < 6 → Cond.exactly (tSx i) "java/lang/String" ∈ bFl := by decide +kernel
set_option maxRecDepth 100000 in
theorem fl_s2 : ∀ i, i < 6 → Cond.eq (.field (tSx i) "java/lang/String" "coder" "B") (.int 0) ∈ bFl := by decide +kernel
set_option maxRecDepth 100000 in
theorem fl_s3 : ∀ i, i < 6 → Cond.arrayOf (.field (tSx i) "java/lang/String" "value" "[B") .byte ∈ bFl := by decide +kernel
set_option maxRecDepth 100000 in
theorem fl_s4 : ∀ i, i < 6 → Cond.eq (.length (.field (tSx i) "java/lang/String" "value" "[B")) (.int (Int32.ofNat (((List.range 6).map fun i => (aStrBy i).length).getD i 0))) ∈ bFl := by decide +kernel
set_option maxRecDepth 100000 in
theorem fl_s5 : ∀ i, i < 6 → ∀ j, j < ((List.range 6).map fun i => (aStrBy i).length).getD i 0 → Cond.eq (.elem (.field (tSx i) "java/lang/String" "value" "[B") (.int (Int32.ofNat j))) (.int ((((List.range 6).map aStrBy).getD i []).getD j 0)) ∈ bFl := by decide +kernel
set_option maxRecDepth 100000 in
theorem fl_s6 : ∀ i, i < 6 → ∀ j, j < 6 → i ≠ j → Cond.not (.eq (tSx i) (tSx j)) ∈ bFl ∨ Cond.not (.eq (tSx j) (tSx i)) ∈ bFl := by decide +kernel
set_option maxRecDepth 100000 in
theorem tb_s : ∀ i, i < 6 → Cond.stringRef RX3 (aStrIx i) (aStrTx i) ∈ lw_tbl := by decide +kernel
set_option maxRecDepth 100000 in
theorem tb_i : ∀ ci, ci < 9 → Cond.instantiable (aClsL.getD ci "") (aNf ci) ∈ lw_tbl := by decide +kernel
set_option maxRecDepth 100000 in
theorem tb_a : ∀ sh, sh < 4 → Cond.arrayOver (.object (bShC (21 + sh))) ∈ lw_tbl := by decide +kernel
theorem tb_m {w : Cond} (i : Nat) (h : lw_tbl[i]? = some w) : w ∈ lw_tbl := List.mem_of_getElem? h
theorem tb_under : lw_tbl[414]? = some (.laysStatic "TwelveShort" "UNDER" "[I") := by decide +kernel
theorem tb_cs : lw_tbl[646]? = some (.laysStatic "java/lang/String" "COMPACT_STRINGS" "Z") := by decide +kernel
theorem tb_fm : lw_tbl[662]? = some (.laysStatic "jdk/internal/util/Preconditions" "SIOOBE_FORMATTER" "Ljava/util/function/BiFunction;") := by decide +kernel
theorem tb_i60 : lw_tbl[60]? = some (.initialized "TwelveShort") := by decide +kernel
theorem tb_i71 : lw_tbl[71]? = some (.initialized "java/lang/String") := by decide +kernel
theorem tb_i73 : lw_tbl[73]? = some (.initialized "jdk/internal/util/Preconditions") := by decide +kernel
theorem tb_fn : lw_tbl[413]? = some (.fieldLinkNest RX0 31 "TwelveShort" "UNDER" "[I" "TwelveShort") := by decide +kernel
theorem tb_ai : lw_tbl[124]? = some (.arrayClass .int) := by decide +kernel
section STA
variable {s : State} {b : Nat}
theorem st_K (hts : ∀ w ∈ lw_tbl, w.before #[Value.ref b] s = true) : ∃ (dC : Nat → ClassId) (dI : Nat → Nat → Nat) (aC : Nat → ClassId), va_K (dC, dI) vwCl9 [(aC 0, .int), (aC 1, .object RX0), (aC 2, .object RX2), (aC 3, .object RX4), (aC 4, .object RX5)] s := by
  have htg : ∀ w ∈ aTG, w.before #[Value.ref b] s = true := fun w h => hts w (List.mem_filter.mp h).1
  have h0 : ∀ ci : Nat, ∃ q : ClassId × (Nat → Nat), ∀ r : vw_C, vwCl9[ci]? = some r → u_Kn s r.1 r.2.1 r.2.2 q.1 q.2 := by
    intro ci
    cases hr : vwCl9[ci]? with
    | none => exact ⟨(0, fun _ => 0), fun r h => by cases h⟩
    | some r =>
      obtain ⟨h9, -⟩ := aCl9 hr
      obtain ⟨r', hr', hrn⟩ := bCls h9
      have e : r' = r := Option.some.inj (hr'.symm.trans hr)
      subst e
      have hin := hts _ (tb_i ci h9)
      rw [← hrn] at hin
      obtain ⟨cC, iS, hk⟩ := u_known (C := r'.1) (T := r'.2.1) (N := r'.2.2) htg (aUws hr) hin
      exact ⟨(cC, iS), fun r h => by cases h; exact hk⟩
  obtain ⟨f, hf⟩ := Classical.axiomOfChoice h0
  obtain ⟨c0, k0, p0, a1, a2, a3⟩ := Cond.arrayClass_spec (hts _ (tb_m 124 tb_ai))
  have h1 : ∀ sh : Nat, ∃ cA : ClassId, sh < 4 → ArrOfT s cA (.object (bShC (21 + sh))) ∧ va_RA s cA (.object (bShC (21 + sh))) := by
    intro sh
    by_cases h4 : sh < 4
    · obtain ⟨comp, c, k, f4, -, f2, f3, f1⟩ := Cond.arrayOver_spec (hts _ (tb_a sh h4))
      exact ⟨c, fun _ => ⟨fun N z => ⟨(fun k h => by cases h), k, f2, comp, f3⟩, k, comp, f2, f3, f4, f1⟩⟩
    · exact ⟨0, fun h => absurd h h4⟩
  obtain ⟨fa, hfa⟩ := Classical.axiomOfChoice h1
  refine ⟨fun k => (f k).1, fun k => (f k).2, fun k => if k = 0 then c0 else fa (k - 1), fun ci r hr => hf ci r hr, fun k q hq => ?_⟩
  match k, hq with
  | 0, hq => cases hq; exact ⟨fun N z => ⟨(fun k h => by cases h), k0, a2, p0, a3⟩, a1⟩
  | 1, hq => cases hq; exact hfa 0 (by decide)
  | 2, hq => cases hq; exact hfa 1 (by decide)
  | 3, hq => cases hq; exact hfa 2 (by decide)
  | 4, hq => cases hq; exact hfa 3 (by decide)
  | k + 5, hq => simp at hq
theorem st_env (hts : ∀ w ∈ lw_tbl, w.before #[Value.ref b] s = true) : bEnv s := by
  refine ⟨fun q hq h2 => ?_, fun sh h1 h2 => ?_⟩
  · have hck := List.all_eq_true.mp bInvAll q hq
    unfold bInvCk at hck
    rw [h2] at hck
    simp only [Bool.and_eq_true, decide_eq_true_eq] at hck
    exact va_Nw.of rfl (hts _ (tb_m _ hck.1.2))
  · have h3 := hts _ (tb_a (sh - 21) (by omega))
    rw [show 21 + (sh - 21) = sh by omega] at h3
    exact va_AO.of h3
theorem st_old (hts : ∀ w ∈ lw_tbl, w.before #[Value.ref b] s = true) (hgv : (Jvm.Cond.and given_1 narrow_1).before #[Value.ref b] s = true) (hbl : b < s.heap.size) (dC : Nat → ClassId) (dI : Nat → Nat → Nat) (aC : Nat → ClassId) : ∃ (F : Nat → Nat) (fm : Value), F 0 = b ∧ aOld (s.heap.size, F, fm, dC, dI, aC) s s.heap := by
  have hs : ∀ w ∈ bFl, w.before #[Value.ref b] s = true := flat_of_before _ hgv
  have hA : ∀ a : Nat, a < s.heap.size → ¬ (fun q : Nat => s.heap.size ≤ q) a := fun a h => Nat.not_le.mpr h
  obtain ⟨t, ht, hT⟩ := va_Tof (tm := tUn) (ty := .int) (N := 6) (f := fun j => .int (aUnder j)) (A := fun q : Nat => s.heap.size ≤ q) (by decide) (hs _ fl_u1) (va_eqt (hs _ fl_u2)) (fun j hj => va_eqt (hs _ (fl_u3 j hj))) hA
  have hZ := va_Zof (hts _ (tb_m _ tb_under)) (hts _ (tb_m _ tb_i60)) ht hA
  obtain ⟨adK, adV, hSt, hev⟩ := vk_Sof (N := 6) (tm := tSx) (len := (List.range 6).map fun i => (aStrBy i).length) (byt := (List.range 6).map aStrBy) (A := fun q : Nat => s.heap.size ≤ q) (by decide) (fun i hi => hs _ (fl_s1 i hi)) (fun i hi => hs _ (fl_s2 i hi)) (fun i hi => hs _ (fl_s3 i hi)) (fun i hi => hs _ (fl_s4 i hi)) (fun i hi j hj => hs _ (fl_s5 i hi j hj)) (fun i j hi hj hne => (fl_s6 i hi j hj hne).imp (hs _) (hs _)) hA
  have hC := va_Zof (hts _ (tb_m _ tb_cs)) (hts _ (tb_m _ tb_i71)) (va_eqi (hs _ fl_c)) hA
  obtain ⟨fm, hfm, hF⟩ : ∃ fm : Value, (fm = .null ∨ ∃ a, fm = .ref a) ∧ va_Z "jdk/internal/util/Preconditions" "SIOOBE_FORMATTER" "Ljava/util/function/BiFunction;" fm (fun q : Nat => s.heap.size ≤ q) s s.heap := by
    rcases va_Zqof (hts _ (tb_m _ tb_fm)) (hts _ (tb_m _ tb_i73)) (hs _ fl_f) hA with h | ⟨a, h⟩
    · exact ⟨.null, Or.inl rfl, h⟩
    · exact ⟨.ref a, Or.inr ⟨a, rfl⟩, h⟩
  refine ⟨fun k => if k = 0 then b else if k = 1 then t else if k < 20 then adK (k - 10) else adV (k - 20), fm, rfl, hfm, hbl, Nat.le_refl _, hZ, hT, ?_, fun i hi => ?_, hC, hF, fun q hq h1 => ?_, va_Nw.of rfl (hts _ (tb_m _ tb_fn))⟩
  · have eK : ∀ i : Nat, i < 6 → (if 10 + i = 0 then b else if 10 + i = 1 then t else if 10 + i < 20 then adK (10 + i - 10) else adV (10 + i - 20)) = adK i := fun i hi => by
      rw [if_neg (by omega), if_neg (by omega), if_pos (by omega), show 10 + i - 10 = i by omega]
    have eV : ∀ i : Nat, i < 6 → (if 20 + i = 0 then b else if 20 + i = 1 then t else if 20 + i < 20 then adK (20 + i - 10) else adV (20 + i - 20)) = adV i := fun i hi => by
      rw [if_neg (by omega), if_neg (by omega), if_neg (by omega), show 20 + i - 20 = i by omega]
    refine ⟨fun i hi => ?_, fun i j hi hj e => hSt.2 i j hi hj ?_⟩
    · have h := hSt.1 i hi
      rw [← eK i hi, ← eV i hi] at h
      exact h
    · have e' : (if 10 + i = 0 then b else if 10 + i = 1 then t else if 10 + i < 20 then adK (10 + i - 10) else adV (10 + i - 20)) = (if 10 + j = 0 then b else if 10 + j = 1 then t else if 10 + j < 20 then adK (10 + j - 10) else adV (10 + j - 20)) := e
      rw [eK i hi, eK j hj] at e'
      exact e'
  · have eK : (if 10 + i = 0 then b else if 10 + i = 1 then t else if 10 + i < 20 then adK (10 + i - 10) else adV (10 + i - 20)) = adK i := by
      rw [if_neg (by omega), if_neg (by omega), if_pos (by omega), show 10 + i - 10 = i by omega]
    show vk_R RX3 (aStrIx i) (aStrTx i) (if 10 + i = 0 then b else if 10 + i = 1 then t else if 10 + i < 20 then adK (10 + i - 10) else adV (10 + i - 20)) s
    rw [eK]
    exact vk_R.of (hts _ (tb_s i hi)) (hev i hi)
  · have hck := aCallAll q hq
    obtain ⟨key, kind, m, i1, i2, i3⟩ := q
    have hk : kind = 1 := h1
    subst hk
    unfold aCallCk at hck
    simp only [Bool.and_eq_true, decide_eq_true_eq] at hck
    exact va_Nw.of rfl (hts _ (tb_m _ hck.1.1))
end STA
