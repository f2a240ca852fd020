theorem aCpL : aInT 850 (.methodLink RX7 267 arraycopyName) = true := by decide +kernel
theorem aCpN : aInT 852 (.native arraycopyName) = true := by decide +kernel
theorem aCpS : aInT 851 (.static arraycopyName) = true := by decide +kernel
theorem aCpIn : aInT 76 (.initialized "java/lang/System") = true := by decide +kernel
/-! calls; the abstract machine is sound -/
def aWs (m : Nat) : List Cond := .code (aName m) (aBytes m) (aML m) (aRet m) :: aTG
def aRm (d : Nat) : Room := { frames := d, cells := 0, slots := 0, locals := 60 * d }
def aPcd (g : GG) (I : IM) (as : List Value) : Array Value → State → Prop := va_Pc (as.map (trv g)) (fun U => aWorld g I U.heap U ∧ aOld g U U.heap)
def aQc (g : GG) (m : Nat) (Q : Po) : Array Value → State → Outcome → State → Prop := fun _ st o t => (∃ (r : Value) (I : IM), o = .returned (if aRet m = none then none else some (trv g r)) ∧ Q r I ∧ aWorld g I t.heap t) ∧ va_F (gA g) st t
theorem aMck_ok {m : Nat} (h : m < aN - 1) : Cond.code (aName m) (aBytes m) (aML m) (aRet m) ∈ aTG ∧ Cond.initialized (aName m).cls ∈ aTG ∧ ((aName m).cls ≠ "java/lang/invoke/MethodHandle" ∧ (aName m).cls ≠ "java/lang/invoke/VarHandle") ∧ (parseMethodDescriptor (aName m).desc).map (fun d => d.parameters.length) = some (aNp m) ∧ plainName (aName m).cls = true ∧ (aName m).cls = aCls m ∧ aML m ≤ 40 := by
  have h1 := aMckAll h
  unfold aMck at h1
  simp only [Bool.and_eq_true, decide_eq_true_eq] at h1
  obtain ⟨⟨⟨⟨⟨⟨a, b⟩, c⟩, d⟩, e⟩, f⟩, k⟩ := h1
  exact ⟨aInT_mem a, aInT_mem b, c, d, e, f, k⟩
theorem aGoodIn {ws : List Cond} (h : ∀ w ∈ ws, w ∈ aTG) : GoodIn aTG ws := fun w hw => ⟨h w hw, good_of_word (List.mem_filter.mp (h w hw)).2⟩
theorem aBlind (g : GG) (I : IM) (as : List Value) : FrameBlind (aPcd g I as) := by
  intro a U g' mk ⟨q1, q2, q3⟩
  exact ⟨q1, aWorld.moved (u := U) (U := U.calling g' mk a) (Vm.Alike.refl U.vm) q2, aOld.go (s := U) (t := U.calling g' mk a) q3 (State.WarmedH.refl U) (Nat.le_refl _) (fun _ _ _ => rfl)⟩
set_option maxHeartbeats 1000000 in
theorem aMet {g : GG} (l : Launch) {d m : Nat} {as : List Value} {I : IM} {Q : Po} (hm : m < aN - 1) (hS : Sh (d, m, 0, aEnt m as, [], I) Q) (hlen : (aLay as).length ≤ aML m) : Met l (aName m) (aWs m) (aRm d) (aPcd g I as) (aQc g m Q) 0 0 (gA g) := by
  obtain ⟨k1, k2, k3, k4, k5, k6, k7⟩ := aMck_ok hm
  refine Met.ofW (cc := aBytes m) (maxL := aML m) (ret := aRet m) k5 rfl ?_
  intro p e s mi args below meth c s₁ B hml hv
  obtain ⟨rfl, hw, ho⟩ := hv
  have hts0 := atoms_spec (ws := aWs m) B.pre
  have hts : ∀ w ∈ aTG, w.before (as.map (trv g)).toArray s = true := fun w h => hts0 w (List.mem_cons_of_mem _ h)
  have hown : s.vm.findClass (aCls m) = some mi.cls := by rw [← k6]; exact findClass_of_methodNamed B.named
  have hlocks := B.notSynchronized
  have hr := B.returns
  have hx := B.exec
  have hb := B.bytes
  rw [lg_entry_eq]
  refine hS g p l e _ s mi _ below meth c s.heap [] 0 0 _ _ ⟨hx, hb, hml, hown, hts, Nat.le_refl _, Nat.le_refl _, Nat.zero_le _, Nat.zero_le _⟩ hw ho va_S.rf (aLoc_ent g ho.1 hlen) ?_
  intro r I' H' locs' pc' lsA' i hq hw' hS' hi' hok
  have fin : ∀ (v : Option Value) (t : State), t.heap = H' → s.WarmedH t.vm → v = (if aRet m = none then none else some (trv g r)) → aQc g m Q (as.map (trv g)).toArray s (.returned v) t := fun v t ht hW hv => ⟨⟨r, I', by rw [hv], hq, by rw [ht]; exact hw'.moved hW.alike⟩, hS'.F ht⟩
  show W p l e _ s mi _ below meth c H' locs' 0 0 (MQ below (aQc g m Q) (as.map (trv g)).toArray s 0 0 (gA g)) (F0 mi pc' lsA' (aRst g m r))
  have hd := aIns_decode hi'
  cases i with
  | ireturn =>
    obtain ⟨v, rfl, hn⟩ := hok
    cases hR : aRet m with
    | none => rw [hR] at hn; exact absurd hn id
    | some ty =>
      rw [hR] at hn
      have e1 : aRst g m (.int v) = [.int v] := by unfold aRst; rw [hR]; rfl
      rw [e1]
      exact W.zret hx hb (by rw [hr, hR]) hn (fun t ht hW => fin _ t ht hW (by rw [hR]; rfl)) hS'.2.2 hd
  | return_ =>
    have hR : aRet m = none := hok
    have e1 : aRst g m r = [] := by unfold aRst; rw [if_pos hR]
    rw [e1]
    exact W.vret hx hb (by rw [hr, hR]) (fun t ht hW => fin _ t ht hW (by rw [if_pos hR])) hS'.2.2 hd
  | areturn =>
    obtain ⟨hv, hR⟩ := hok
    have hne : ¬ aRet m = none := by rcases hR with ⟨k, q⟩ | ⟨k, q⟩ <;> (rw [q]; intro z; cases z)
    have e1 : aRst g m r = [trv g r] := by unfold aRst; rw [if_neg hne]
    rw [e1]
    rcases hR with ⟨k, q⟩ | ⟨k, q⟩
    · exact W.aret hx hb (rt := .object k) (by rw [hr, q]) (Or.inl ⟨_, rfl⟩) (aIsR_cases ho.1 hv) (fun t ht hW => fin _ t ht hW (by rw [if_neg hne])) hS'.2.2 hd
    · exact W.aret hx hb (rt := .array k) (by rw [hr, q]) (Or.inr ⟨_, rfl⟩) (aIsR_cases ho.1 hv) (fun t ht hW => fin _ t ht hW (by rw [if_neg hne])) hS'.2.2 hd
  | lreturn =>
    obtain ⟨v, rfl, hR⟩ := hok
    have e1 : aRst g m (.long v) = [.long v] := by unfold aRst; rw [hR]; rfl
    rw [e1]
    exact W.lret hx hb (by rw [hr, hR]) (fun t ht hW => fin _ t ht hW (by rw [hR]; rfl)) hS'.2.2 hd
  | _ => exact absurd hok id
section SH3
variable {d m pc n : Nat} {ls st : List Value} {I : IM} {Q : Po}
theorem aRunW {g : GG} {p : Program} {l : Launch} {e : Env} {R : Room} {s0 : State} {mi : MethodId} {args : Array Value} {below : List Frame} {meth : Method} {c : Code} {H : Heap} {locs : List Loc} {cells slots : Nat} {Z : State → Prop} {lsA : Array Slot} {m' : Nat} {Q' : Po} {a : Array Value} {st0 rest : List Value}
    (hr : va_Run p l e R s0 mi args below meth c H locs cells slots 0 0 (F0 mi pc lsA st0) rest (aQc g m' Q' a) (gA g)) (hS : va_S (gA g) s0.heap H locs)
    (kk : ∀ (r : Value) (I' : IM) (H1 : Heap) (locs1 : List Loc), Q' r I' → aWorld g I' H1 s0 → va_S (gA g) s0.heap H1 locs1 → W p l e R s0 mi args below meth c H1 locs1 cells slots Z (F0 mi (pc + 3) lsA (if aRet m' = none then rest else trv g r :: rest))) : W p l e R s0 mi args below meth c H locs cells slots Z (F0 mi pc lsA st0) := by
  intro T hT X
  obtain ⟨v, st₀, t, T', L, h0, X', hL, e1, e2, ⟨⟨r, I', hv, hq, hw⟩, hz, hk⟩, st⟩ := hr T hT X
  rw [h0] at hz hk
  have hv' : v = (if aRet m' = none then none else some (trv g r)) := by injection hv
  have hvm : t.vm.Alike s0.vm := by rw [← e2]; exact X'.warmed.alike.symm
  obtain ⟨t2, a1, b1⟩ := kk r I' T'.heap (locs ++ L) hq (by rw [e1]; exact hw.moved hvm)
    ⟨Nat.le_trans hS.1 (by rw [e1]; exact hz), fun q h1 h2 => by rw [e1, hk q (Nat.lt_of_lt_of_le h1 hS.1) h2]; exact hS.2.1 q h1 h2, fun q hq => by
      rcases List.mem_append.mp hq with h | h
      · exact hS.2.2 q h
      · exact hL q h⟩ T' rfl X'
  refine ⟨t2, st t2 ?_, b1⟩
  have e3 : v.toList ++ rest = (if aRet m' = none then rest else trv g r :: rest) := by
    rw [hv']
    by_cases hn : aRet m' = none
    · rw [if_pos hn, if_pos hn]; rfl
    · rw [if_neg hn, if_neg hn]; rfl
  show Steps p.tables e below (T'.setTop { (F0 mi pc lsA st0) with pc := pc + 3, stack := v.toList ++ rest }) t2
  rw [e3]
  exact a1
theorem aPre {g : GG} {s0 : State} {H : Heap} {locs : List Loc} {I : IM} {as : List Value} (w : aWorld g I H s0) (ol : aOld g s0 s0.heap) (hS : va_S (gA g) s0.heap H locs) : ∀ U : State, U.heap = H → s0.WarmedH U.vm → aPcd g I as (as.map (trv g)).toArray U := by
  intro U hU hW
  refine ⟨rfl, ?_, ?_⟩
  · rw [hU]; exact w.moved hW.alike
  · rw [hU]; exact ol.go hW hS.1 hS.2.1
theorem aBackW {g : GG} {p : Program} {l : Launch} {e : Env} {R : Room} {s0 : State} {mi : MethodId} {args : Array Value} {below : List Frame} {meth : Method} {c : Code} {H : Heap} {locs : List Loc} {cells slots : Nat} {Z : State → Prop} {lsA : Array Slot} {m' k : Nat} {Q' : Po} {a : Array Value}
    (C : aCx g p R s0 mi args c cells slots d m) (ol : aOld g s0 s0.heap) (hS : va_S (gA g) s0.heap H locs) (hl : aLoc g lsA (aML m) ls) (hb : aBk g m Q p l e R s0 mi args below meth c cells slots Z)
    (h2 : ∀ r I', Q' r I' → Sh (d, m, pc + 3, ls, if aRet m' = none then st.drop k else r :: st.drop k, I') Q)
    (hr : va_Run p l e R s0 mi args below meth c H locs cells slots 0 0 (F0 mi pc lsA (st.map (trv g))) ((st.drop k).map (trv g)) (aQc g m' Q' a) (gA g)) : W p l e R s0 mi args below meth c H locs cells slots Z (F0 mi pc lsA (st.map (trv g))) := by
  refine aRunW hr hS (fun r I' H1 locs1 hq w1 hS1 => ?_)
  have h3 := h2 r I' hq g p l e R s0 mi args below meth c H1 locs1 cells slots Z lsA C w1 ol hS1 hl hb
  have e4 : (if aRet m' = none then st.drop k else r :: st.drop k).map (trv g) = (if aRet m' = none then (st.drop k).map (trv g) else trv g r :: (st.drop k).map (trv g)) := by
    by_cases hn : aRet m' = none
    · rw [if_pos hn, if_pos hn]
    · rw [if_neg hn, if_neg hn]; rfl
  have h4 : W p l e R s0 mi args below meth c H1 locs1 cells slots Z (F0 mi (pc + 3) lsA ((if aRet m' = none then st.drop k else r :: st.drop k).map (trv g))) := h3
  rw [e4] at h4
  exact h4
theorem aSplit (g : GG) (st : List Value) (k : Nat) : st.map (trv g) = (((st.take k).reverse).map (trv g)).reverse ++ (st.drop k).map (trv g) := by
  rw [← List.map_reverse, List.reverse_reverse, ← List.map_append, List.take_append_drop]
theorem aGoS {x m' k0 i1 i2 i3 : Nat} (hi : aIns m pc = some (.invokestatic x, 3)) (hc : aCall (aCo m) x = some (k0, m', i1, i2, i3)) (hk : k0 = 0 ∨ k0 = 1) (h : FT Sh (aGo d m pc ls st I m' (aNp m')) Q) : Sh (d, m, pc, ls, st, I) Q := by
  obtain ⟨⟨hd, hn, hcat, hlay, hok⟩, Q', h1, h2⟩ := h
  obtain ⟨c1, c2⟩ := aBlk hc
  have c3 := aCallAll _ c1
  intro g p l e R s0 mi args below meth c H locs cells slots Z lsA C w ol hS hl hb
  refine aBackW (Q' := Q') (a := ((((st.take (aNp m')).reverse).map (trv g))).toArray) (st := st) (k := aNp m') (m' := m') C ol hS hl hb h2 ?_
  have hlen : (((st.take (aNp m')).reverse).map (trv g)).length = aNp m' := by simp; omega
  have hcat' : 2 * (F0 mi pc lsA (st.map (trv g))).monitorRoom + (((st.drop (aNp m')).map (trv g)).map fun v => v.category).sum ≤ 8 := lv_room (by rw [aCat_trv ol.1]; exact hcat)
  have S : CallFix p mi c (aBytes m) (aML m) s0 args aTG (aCls m) := ⟨C.1, C.2.1, C.2.2.1, C.2.2.2.1, C.2.2.2.2.1⟩
  have hce := C.2.2.2.2.2.2.2.1
  have hsl := C.2.2.2.2.2.2.2.2
  have hfr := C.2.2.2.2.2.1
  have hlo := C.2.2.2.2.2.2.1
  have hp : PreS s0 H (aPcd g I (st.take (aNp m')).reverse) (((st.take (aNp m')).reverse).map (trv g)) := ⟨aBlind g I _, aPre w ol hS⟩
  rcases hk with rfl | rfl
  · unfold aCallCk at c3
    dsimp only at c3
    rw [(aOwn_key c2).1, (aOwn_key c2).2] at c3
    simp only [Bool.and_eq_true, decide_eq_true_eq] at c3
    obtain ⟨⟨q1, q2⟩, q3⟩ := c3
    obtain ⟨k1, k2, k3, k4, k5, k6, k7⟩ := aMck_ok q3
    have hM := aMet (g := g) l q3 h1 hlay
    have hT : GoodIn aTG (va_wsS (aCls m) x (aName m') (aWs m')) := aGoodIn (fun w hw => by
      rcases List.mem_append.mp hw with hw | hw
      · rcases List.mem_cons.mp hw with rfl | hw
        · exact aInT_mem q1
        · rcases List.mem_cons.mp hw with rfl | hw
          · exact aInT_mem q2
          · rw [List.mem_singleton.mp hw]; exact k2
      · rcases List.mem_cons.mp hw with rfl | hw
        · exact k1
        · exact hw)
    exact va_runS S hM (va_cwS (rm := aRm (d - 1)) (aNp m') C.2.2.2.2.1 hT rfl rfl rfl ⟨k3.1, k3.2, k4⟩ ⟨by show d - 1 + 1 ≤ _; omega, by show 8 + (aML m' + 11) + 60 * (d - 1) ≤ _; omega⟩) hp rfl hlen hl.1 (aSplit g st (aNp m')) hcat' (aIns_decode hi) ⟨hce, hsl⟩
  · unfold aCallCk at c3
    dsimp only at c3
    rw [(aOwn_key c2).1, (aOwn_key c2).2] at c3
    simp only [Bool.and_eq_true, decide_eq_true_eq] at c3
    obtain ⟨⟨q1, q2⟩, q3⟩ := c3
    obtain ⟨k1, k2, k3, k4, k5, k6, k7⟩ := aMck_ok q3
    have hM := aMet (g := g) l q3 h1 hlay
    have hG : GoodIn aTG (aWs m') := aGoodIn (fun w hw => by
      rcases List.mem_cons.mp hw with rfl | hw
      · exact k1
      · exact hw)
    have hN := ol.2.2.2.2.2.2.2.2.2.1 _ c1 rfl
    rw [(aOwn_key c2).1, (aOwn_key c2).2] at hN
    exact va_runSN S hM ⟨va_cnB (rm := aRm (d - 1)) (aNp m') C.2.2.2.2.1 hG rfl rfl rfl hN (C.2.2.2.2.1 _ k2) ⟨k3.1, k3.2, k4⟩ ⟨by show d - 1 + 1 ≤ _; omega, by show 8 + (aML m' + 11) + 60 * (d - 1) ≤ _; omega⟩, C.2.2.2.2.1 _ (aInT_mem q2), trivial⟩ hp rfl hlen hl.1 (aSplit g st (aNp m')) hcat' (aIns_decode hi) ⟨hce, hsl⟩
theorem aClsAll : (List.range 9).all (fun ci => match vwCl9[ci]? with | some q => decide (q.1 = aClsL.getD ci "") | none => false) = true := by decide +kernel
theorem aGoV {x m' i1 i2 i3 c0 : Nat} {tl : List Value} (hi : aIns m pc = some (.invokevirtual x, 3)) (hc : aCall (aCo m) x = some (2, m', i1, i2, i3)) (hst : st.drop (aNp m') = .ref c0 :: tl) (hrc : aRecv m' c0) (h : FT Sh (aGo d m pc ls st I m' (aNp m' + 1)) Q) : Sh (d, m, pc, ls, st, I) Q := by
  obtain ⟨⟨hd, hn, hcat, hlay, hok⟩, Q', h1, h2⟩ := h
  obtain ⟨c1, c2⟩ := aBlk hc
  have c3 := aCallAll _ c1
  unfold aCallCk at c3
  dsimp only at c3
  rw [(aOwn_key c2).1, (aOwn_key c2).2] at c3
  simp only [Bool.and_eq_true, decide_eq_true_eq] at c3
  obtain ⟨⟨⟨q1, q2⟩, q2b⟩, q3⟩ := c3
  obtain ⟨k1, k2, k3, k4, k5, k6, k7⟩ := aMck_ok q3
  intro g p l e R s0 mi args below meth c H locs cells slots Z lsA C w ol hS hl hb
  have htk : st.take (aNp m' + 1) = st.take (aNp m') ++ [.ref c0] := by
    have h0 : st[aNp m']? = some (.ref c0) := by
      have := congrArg (fun l : List Value => l[0]?) hst
      simpa using this
    rw [List.take_add_one, h0]
    rfl
  have hrev : (st.take (aNp m' + 1)).reverse = .ref c0 :: (st.take (aNp m')).reverse := by rw [htk]; simp
  obtain ⟨b, hbv, hrecv⟩ : ∃ b, trv g (.ref c0) = .ref b ∧ ∃ cellB : Cell, H[b]? = some cellB ∧ cellB.vm.isStatics = false ∧ s0.vm.findClass (aName m').cls = some cellB.cls := by
    rcases hrc with ⟨h9, hs⟩ | ⟨h12, ha, hb2⟩
    · have hc0 := aShp_lt hs (by omega)
      refine ⟨g.1 + c0, trv_in hc0, ?_⟩
      have hk := List.all_eq_true.mp aClsAll (aCo m') (List.mem_range.mpr h9)
      cases hq : vwCl9[aCo m']? with
      | none => rw [hq] at hk; cases hk
      | some q =>
        rw [hq] at hk
        simp only [decide_eq_true_eq] at hk
        have he := aW_at g I hc0
        rw [aEn_obj hs h9] at he
        have := va_recv w.2.1 w.1 hq he
        rw [k6]
        unfold aCls
        rw [← hk]
        exact this
    · obtain ⟨i, hi6, rfl⟩ := aNat6 1010 c0 ha hb2
      refine ⟨g.2.1 (10 + i), by rw [trv_old (by omega) (by omega), show 1010 + i - 1000 = 10 + i by omega], ?_⟩
      have := vk_recv ol.2.2.2.2.2.1 hi6 hS
      rw [k6]
      unfold aCls
      rw [h12]
      exact this
  have hmap : ((st.take (aNp m' + 1)).reverse).map (trv g) = .ref b :: ((st.take (aNp m')).reverse).map (trv g) := by rw [hrev, List.map_cons, hbv]
  refine aBackW (Q' := Q') (a := (Value.ref b :: ((st.take (aNp m')).reverse).map (trv g)).toArray) (st := st) (k := aNp m' + 1) (m' := m') C ol hS hl hb h2 ?_
  have hlen : (((st.take (aNp m')).reverse).map (trv g)).length = aNp m' := by simp; omega
  have hcat' : 2 * (F0 mi pc lsA (st.map (trv g))).monitorRoom + (((st.drop (aNp m' + 1)).map (trv g)).map fun v => v.category).sum ≤ 8 := lv_room (by rw [aCat_trv ol.1]; exact hcat)
  have S : CallFix p mi c (aBytes m) (aML m) s0 args aTG (aCls m) := ⟨C.1, C.2.1, C.2.2.1, C.2.2.2.1, C.2.2.2.2.1⟩
  have hce := C.2.2.2.2.2.2.2.1
  have hsl := C.2.2.2.2.2.2.2.2
  have hfr := C.2.2.2.2.2.1
  have hlo := C.2.2.2.2.2.2.1
  have hM := aMet (g := g) l q3 h1 hlay
  have hp : PreV s0 H (aName m').cls b (aPcd g I (st.take (aNp m' + 1)).reverse) (((st.take (aNp m')).reverse).map (trv g)) := ⟨aBlind g I _, hrecv, fun U hU hW => by rw [← hmap]; exact aPre w ol hS U hU hW⟩
  have hT : GoodIn aTG (wsV (aCls m) x (aName m').cls (aName m') (aWs m')) := aGoodIn (fun w hw => by
    rcases List.mem_append.mp hw with hw | hw
    · rcases List.mem_cons.mp hw with rfl | hw
      · exact aInT_mem q1
      · rcases List.mem_cons.mp hw with rfl | hw
        · exact aInT_mem q2
        · rcases List.mem_cons.mp hw with rfl | hw
          · exact aInT_mem q2b
          · rw [List.mem_singleton.mp hw]; exact k2
    · rcases List.mem_cons.mp hw with rfl | hw
      · exact k1
      · exact hw)
  have hstk : (F0 mi pc lsA (st.map (trv g))).stack = (((st.take (aNp m')).reverse).map (trv g)).reverse ++ .ref b :: (st.drop (aNp m' + 1)).map (trv g) := by
    show st.map (trv g) = _
    rw [aSplit g st (aNp m' + 1), hmap]
    simp
  exact va_runV S hM (cwV (rm := aRm (d - 1)) (aNp m') C.2.2.2.2.1 hT rfl rfl rfl ⟨rfl, k3.1, k3.2, k4⟩ ⟨by show d - 1 + 1 ≤ _; omega, by show 8 + (aML m' + 11) + 60 * (d - 1) ≤ _; omega⟩) hp rfl hlen hl.1 hstk hcat' (aIns_decode hi) ⟨hce, hsl⟩
theorem sh_invokestatic {x : Nat} (hi : aIns m pc = some (.invokestatic x, n)) (h : FT Sh (TI (.invokestatic x) n d m pc ls st I) Q) : Sh (d, m, pc, ls, st, I) Q := by
  unfold TI at h
  dsimp only at h
  cases h1 : (Nat.beq (aCo m) 7 && Nat.beq x 267) with
  | true =>
    rw [h1] at h
    simp only [Bool.and_eq_true] at h1
    have hx := Nat.eq_of_beq_eq_true h1.2
    subst hx
    have hcl : aCls m = RX7 := by
      unfold aCls
      rw [Nat.eq_of_beq_eq_true h1.1]
      rfl
    simp only [cond_true] at h
    split at h
    · rename_i k dp b sp a r
      obtain ⟨⟨rfl, hd, hcat, ha, hb20, q1, q2, q3, q4, q5⟩, h⟩ := h
      intro g p l e R s0 mi args below meth c H locs cells slots Z lsA C w ol hS hl hb
      show W p l e R s0 mi args below meth c H locs cells slots Z (F0 mi pc lsA (.int k :: .int dp :: trv g (.ref b) :: .int sp :: trv g (.ref a) :: r.map (trv g)))
      have hca := aShp_lt ha (by decide)
      have hcb := aShp_lt hb20 (by decide)
      rw [trv_in hca, trv_in hcb]
      have hea := aW_at g I hca
      rw [aEn_ints ha] at hea
      have heb := aW_at g I hcb
      rw [aEn_ints hb20] at heb
      have ho := C.2.2.2.1
      rw [hcl] at ho
      have hts := C.2.2.2.2.1
      have hfr := C.2.2.2.2.2.1
      have hlo := C.2.2.2.2.2.2.1
      have hnw : nativeFrameWords "java/lang/System" "arraycopy" 5 ≤ 30 := by decide +kernel
      have hcat2 := aCat_trv ol.1 r
      have hd1 : 1 ≤ R.frames := Nat.le_trans hd hfr
      have hl1 : (((r.map (trv g)).map fun v => v.category).sum + (nativeFrameWords "java/lang/System" "arraycopy" 5 + 11)) ≤ R.locals := by
        have hd' : 1 ≤ d := hd
        have hlo' : 60 * d ≤ R.locals := hlo
        rw [hcat2]
        omega
      refine va_copyi (own := RX7) (index := 267) C.1 C.2.1 (by rw [hl.1]; exact C.2.2.1) ho (hts _ (aInT_mem aCpL)) (hts _ (aInT_mem aCpN)) (hts _ (aInT_mem aCpS)) (hts _ (aInT_mem aCpIn)) w.2.1 w.1 (aW_D g I) hS a b 0 0 hea heb rfl rfl rfl q1 q2 q3 q4 q5 (fun _ _ => rfl) hd1 hl1 (aIns_decode hi) (fun H1 locs1 hP1 _ hS1 => ?_)
      exact h g p l e R s0 mi args below meth c H1 locs1 cells slots Z lsA C (w.row (row := va_cpy (I a) (I b) sp.toNatClampNeg dp.toNatClampNeg k.toNatClampNeg) hcb ol.2.1 ol.2.2.1 hS hS1 (by rw [aEn_ints hb20]) hP1) ol hS1 hl hb
    · exact absurd h.1 id
  | false =>
    rw [h1] at h
    simp only [cond_false] at h
    cases hc : aCall (aCo m) x with
    | none => rw [hc] at h; exact absurd h.1 id
    | some q =>
      obtain ⟨k0, m', i1, i2, i3⟩ := q
      rw [hc] at h
      dsimp only at h
      cases h2 : (Nat.beq n 3 && (Nat.beq k0 0 || Nat.beq k0 1)) with
      | true =>
        rw [h2] at h
        simp only [Bool.and_eq_true, Bool.or_eq_true] at h2
        have hn := Nat.eq_of_beq_eq_true h2.1
        subst hn
        exact aGoS hi hc (h2.2.imp Nat.eq_of_beq_eq_true Nat.eq_of_beq_eq_true) h
      | false =>
        rw [h2] at h
        simp only [cond_false] at h
        obtain ⟨c1, c2⟩ := aBlk hc
        have c3 := aCallAll _ c1
        cases h3 : Nat.beq k0 3 with
        | true =>
          rw [h3] at h
          simp only [cond_true] at h
          obtain ⟨x1, y1, r, rfl, ⟨rfl, hd, hcat⟩, h⟩ := aBin_inv h
          have hk := Nat.eq_of_beq_eq_true h3
          subst hk
          unfold aCallCk at c3
          dsimp only at c3
          rw [(aOwn_key c2).1, (aOwn_key c2).2] at c3
          simp only [Bool.and_eq_true, decide_eq_true_eq] at c3
          obtain ⟨⟨⟨q1, q2⟩, q3⟩, -⟩ := c3
          intro g p l e R s0 mi args below meth c H locs cells slots Z lsA C w ol hS hl hb
          have hts := C.2.2.2.2.1
          have hfr := C.2.2.2.2.2.1
          have hlo := C.2.2.2.2.2.2.1
          exact va_mmax C.1 C.2.1 (by rw [hl.1]; exact C.2.2.1) C.2.2.2.1 (hts _ (aInT_mem q1)) (hts _ (aInT_mem q2)) (hts _ (aInT_mem aMathI)) (hts _ (aInT_mem q3)) (by omega) (by rw [aCat_trv ol.1]; omega) C.2.2.2.2.2.2.2.1 C.2.2.2.2.2.2.2.2 (aIns_decode hi) (h g p l e R s0 mi args below meth c H locs cells slots Z lsA C w ol hS hl hb)
        | false =>
          rw [h3] at h
          simp only [cond_false] at h
          cases h4 : Nat.beq k0 4 with
          | true =>
            rw [h4] at h
            simp only [cond_true] at h
            obtain ⟨x1, y1, r, rfl, ⟨rfl, hd, hcat⟩, h⟩ := aBin_inv h
            have hk := Nat.eq_of_beq_eq_true h4
            subst hk
            unfold aCallCk at c3
            dsimp only at c3
            rw [(aOwn_key c2).1, (aOwn_key c2).2] at c3
            simp only [Bool.and_eq_true, decide_eq_true_eq] at c3
            obtain ⟨⟨⟨q1, q2⟩, q3⟩, -⟩ := c3
            intro g p l e R s0 mi args below meth c H locs cells slots Z lsA C w ol hS hl hb
            have hts := C.2.2.2.2.1
            have hfr := C.2.2.2.2.2.1
            have hlo := C.2.2.2.2.2.2.1
            exact va_mmin C.1 C.2.1 (by rw [hl.1]; exact C.2.2.1) C.2.2.2.1 (hts _ (aInT_mem q1)) (hts _ (aInT_mem q2)) (hts _ (aInT_mem aMathI)) (hts _ (aInT_mem q3)) (by omega) (by rw [aCat_trv ol.1]; omega) C.2.2.2.2.2.2.2.1 C.2.2.2.2.2.2.2.2 (aIns_decode hi) (h g p l e R s0 mi args below meth c H locs cells slots Z lsA C w ol hS hl hb)
          | false =>
            rw [h4] at h
            simp only [cond_false] at h
            cases h5 : Nat.beq k0 5 with
            | false => rw [h5] at h; exact absurd h.1 id
            | true =>
              rw [h5] at h
              simp only [cond_true] at h
              obtain ⟨x1, r, rfl, ⟨rfl, hd, hcat⟩, h⟩ := aUni_inv h
              have hk := Nat.eq_of_beq_eq_true h5
              subst hk
              unfold aCallCk at c3
              dsimp only at c3
              rw [(aOwn_key c2).1, (aOwn_key c2).2] at c3
              simp only [Bool.and_eq_true, decide_eq_true_eq] at c3
              obtain ⟨⟨⟨q1, q2⟩, q3⟩, -⟩ := c3
              intro g p l e R s0 mi args below meth c H locs cells slots Z lsA C w ol hS hl hb
              have hts := C.2.2.2.2.1
              have hfr := C.2.2.2.2.2.1
              have hlo := C.2.2.2.2.2.2.1
              exact va_mabs C.1 C.2.1 (by rw [hl.1]; exact C.2.2.1) C.2.2.2.1 (hts _ (aInT_mem q1)) (hts _ (aInT_mem q2)) (hts _ (aInT_mem aMathI)) (hts _ (aInT_mem q3)) (by omega) (by rw [aCat_trv ol.1]; omega) C.2.2.2.2.2.2.2.1 C.2.2.2.2.2.2.2.2 (aIns_decode hi) (h g p l e R s0 mi args below meth c H locs cells slots Z lsA C w ol hS hl hb)
theorem sh_invokevirtual {x : Nat} (hi : aIns m pc = some (.invokevirtual x, n)) (h : FT Sh (TI (.invokevirtual x) n d m pc ls st I) Q) : Sh (d, m, pc, ls, st, I) Q := by
  unfold TI at h
  dsimp only at h
  cases hc : aCall (aCo m) x with
  | none => rw [hc] at h; exact absurd h.1 id
  | some q =>
    obtain ⟨k0, m', i1, i2, i3⟩ := q
    rw [hc] at h
    dsimp only at h
    cases h2 : (Nat.beq n 3 && Nat.beq k0 2) with
    | false => rw [h2] at h; exact absurd h.1 id
    | true =>
      rw [h2] at h
      simp only [Bool.and_eq_true] at h2
      have hn := Nat.eq_of_beq_eq_true h2.1
      subst hn
      have hk := Nat.eq_of_beq_eq_true h2.2
      subst hk
      simp only [cond_true] at h
      split at h
      · rename_i c0 tl hst
        obtain ⟨⟨hg, hrc⟩, h⟩ := h
        exact aGoV hi hc hst hrc ⟨hg, h⟩
      · exact absurd h.1 id
end SH3
