/-! calls of constructors; the machine of literals is sound -/
def BSh (d m : Nat) (s : BS) (M' : BM) : Prop := bGr s.2.2.2.2 M' ∧
  ∀ (g : GG) (p : Program) (l : Launch) (e : Env) (R : Room) (s0 : State) (mi : MethodId) (args : Array Value) (below : List Frame) (meth : Method) (co : Code) (Z : State → Prop) (k j : Nat),
    bCx g p R s0 mi args meth co d m k → k ≤ s.2.2.2.2.length → j ≤ bSl s.2.2.2.2 → M'.length - k ≤ R.cells → bSl M' - j ≤ R.slots →
    (∀ (H' : Heap) (locs' : List Loc) (pc' : Nat) (lsA' : Array Slot), bWorld g M' H' s0 → va_S (gA g) s0.heap H' locs' → bIns m pc' = some (.return_, 1) → W p l e R s0 mi args below meth co H' locs' (M'.length - k) (bSl M' - j) Z (F0 mi pc' lsA' [])) →
    BW g p l e R s0 mi args below meth co Z m k j s
theorem BSh.step {d m : Nat} {s s' : BS} {M' : BM} (h1 : BOk d m s s') (h2 : BSh d m s' M') : BSh d m s M' := by
  refine ⟨h1.1.tr h2.1, fun g p l e R s0 mi args below meth co Z k j C hk hj hrc hrs hb => ?_⟩
  have hg := h1.1
  have hg2 := h2.1
  exact h1.2 g p l e R s0 mi args below meth co Z k j C hk hj (Nat.le_trans (Nat.sub_le_sub_right hg2.1 k) hrc) (Nat.le_trans (Nat.sub_le_sub_right hg2.2 j) hrs) (h2.2 g p l e R s0 mi args below meth co Z k j C (Nat.le_trans hk hg.1) (Nat.le_trans hj hg.2) hrc hrs hb)
def bWs (m : Nat) : List Cond := .code (bName m) (bBytes m) (bML m) none :: aTG
def bRm (d k j : Nat) : Room := { frames := d, cells := k, slots := j, locals := 60 * d }
def bPcd (g : GG) (M : BM) (a : Nat) : Array Value → State → Prop := va_Pc [.ref (g.1 + a)] (fun U => bWorld g M U.heap U ∧ bEnv U ∧ U.heap.size = g.1 + M.length)
def bQc (g : GG) (M' : BM) : Array Value → State → Outcome → State → Prop := va_Qv (fun _ : Unit => True) (fun _ t => bWorld g M' t.heap t) (gA g)
theorem bBlind (g : GG) (M : BM) (a : Nat) : FrameBlind (bPcd g M a) := by
  intro ar U g' mk ⟨q1, q2, q3, q4⟩
  exact ⟨q1, bWorld.moved (u := U) (U := U.calling g' mk ar) (Vm.Alike.refl U.vm) q2, bEnv.warm (s := U) (U := U.calling g' mk ar) (State.WarmedH.refl U) q3, q4⟩
theorem bMet {g : GG} (l : Launch) {d m a : Nat} {M M' : BM} (hm : m < 9) (hS : BSh d m (0, a, none, [], M) M') : Met l (bName m) (bWs m) (bRm d (M'.length - M.length) (bSl M' - bSl M)) (bPcd g M a) (bQc g M') (M'.length - M.length) (bSl M' - bSl M) (gA g) := by
  obtain ⟨k1, k2, k3, k4, k5, k6, k7, k8, k9⟩ := bMck_ok hm
  refine Met.ofW (cc := bBytes m) (maxL := bML m) (ret := none) k5 rfl ?_
  intro p e s mi args below meth co s₁ B hml hv
  obtain ⟨rfl, hw, he, hz⟩ := hv
  have hts0 := atoms_spec (ws := bWs m) B.pre
  have hts : ∀ w ∈ aTG, w.before [Value.ref (g.1 + a)].toArray s = true := fun w h => hts0 w (List.mem_cons_of_mem _ h)
  have hown : s.vm.findClass (bOwn m) = some mi.cls := by rw [← k6]; exact findClass_of_methodNamed B.named
  have hlocks := B.notSynchronized
  have hr := B.returns
  have hx := B.exec
  have hb := B.bytes
  have hin : meth.name = "<init>" := (name_of_methodNamed B.named B.method).1.trans k7
  rw [lg_entry_eq]
  have hl := lv_entry ([.ref (g.1 + a)]) (n := bML m) k8
  have hh : W p l e (headSpec (bWs m) (bRm d (M'.length - M.length) (bSl M' - bSl M))).room s mi [Value.ref (g.1 + a)].toArray below meth co s.heap [] (M.length - M.length) (bSl M - bSl M) (MQ below (bQc g M') [Value.ref (g.1 + a)].toArray s (M'.length - M.length) (bSl M' - bSl M) (gA g)) (F0 mi 0 ((lg_sl [Value.ref (g.1 + a)] ++ List.replicate (bML m - (lg_sl [Value.ref (g.1 + a)]).length) Slot.unset).toArray) []) :=
    hS.2 g p l e _ s mi _ below meth co _ M.length (bSl M) ⟨hx, hb, hml, hown, hts, Nat.le_refl _, Nat.le_refl _, hin, he, hz, hm⟩ (Nat.le_refl _) (Nat.le_refl _) (Nat.le_refl _) (Nat.le_refl _) (fun H' locs' pc' lsA' w' hS' hi' =>
      W.vret hx hb hr (fun t ht hW => ⟨⟨(), rfl, trivial, show bWorld g M' t.heap t by rw [ht]; exact w'.moved hW.alike⟩, hS'.F ht⟩) hS'.2.2 (bIns_decode hm hi')) s.heap [] _ hw va_S.rf hl
  rw [Nat.sub_self, Nat.sub_self] at hh
  exact hh
theorem bInv_ok {m x : Nat} {q : Nat × Nat × Nat × Nat} (h : bInv m x = some q) : (10000 * m + x, q) ∈ bInvL ∧ bInvCk (10000 * m + x, q) = true ∧ aOwn (10000 * m + x) = bOwn m ∧ (10000 * m + x) % 10000 = x := by
  obtain ⟨h1, h2⟩ := aBlk h
  exact ⟨h1, List.all_eq_true.mp bInvAll _ h1, aOwn_key h2⟩
theorem bInvK : ∀ q ∈ bInvL, q.2.1 ≠ 0 → q.2.1 ≠ 1 → q.2.1 = 2 := by decide +kernel
theorem bInv9 {key : Nat} {q : Nat × Nat × Nat × Nat} (hck : bInvCk (key, q) = true) (h0 : Nat.beq q.1 0 = false) : q.2.1 < 9 := by
  unfold bInvCk at hck
  split at hck
  · rename_i hq0
    rw [show q.1 = 0 from hq0] at h0
    cases h0
  · simp only [Bool.and_eq_true, decide_eq_true_eq] at hck
    exact hck.1.1
  · simp only [Bool.and_eq_true, decide_eq_true_eq] at hck
    exact hck.1.1
section BCL
variable {n d m pc c : Nat} {lv : Option Int32} {st : List Value} {M : BM}
theorem bs_obj {x : Nat} {s' : BS} (hi : bIns m pc = some (.invokespecial x, n)) (h : bCal x n d m pc c lv st M = some (.inl s')) : BOk d m (pc, c, lv, st, M) s' := by
  unfold bCal at h
  split at h
  · rename_i a r
    cases hq : bInv m x with
    | none => rw [hq] at h; cases h
    | some q =>
      rw [hq] at h
      dsimp only at h
      cases hc : (Nat.beq n 3 && (Nat.ble 1 d && Nat.ble (aCat r) 8)) with
      | false => rw [hc] at h; cases h
      | true =>
        rw [hc] at h
        simp only [Bool.and_eq_true, Nat.beq_eq, Nat.ble_eq] at hc
        obtain ⟨rfl, hd, hcat⟩ := hc
        cases h0 : Nat.beq q.1 0 with
        | false => rw [h0] at h; cases h
        | true =>
          rw [h0] at h
          cases h
          have hq0 := Nat.eq_of_beq_eq_true h0
          obtain ⟨-, hck, ho, hx⟩ := bInv_ok hq
          unfold bInvCk at hck
          rw [hq0, ho, hx] at hck
          refine ⟨bGr.rf, fun g p l e R s0 mi args below meth co Z k j C hk hj hrc hrs hw H locs lsA w hS hl => ?_⟩
          have hts := C.2.2.2.2.1
          have hfr := C.2.2.2.2.2.1
          have hlo := C.2.2.2.2.2.2.1
          have hrm : 2 * (F0 mi pc lsA (.ref (g.1 + a) :: r.map (tb g))).monitorRoom + ((r.map (tb g)).map fun v => v.category).sum ≤ 8 := lv_room (by rw [bCat]; exact hcat)
          exact W.objInit C.1 C.2.1 C.2.2.2.1 (hts _ (aInT_mem hck)) (hts _ (aInT_mem bObjI)) (hts _ (aInT_mem bObjC)) (g := F0 mi pc lsA (.ref (g.1 + a) :: r.map (tb g))) rfl (hl.1.trans C.2.2.1.symm) rfl (bIns_decode C.2.2.2.2.2.2.2.2.2.2 hi) (Nat.le_trans hd hfr) (by omega) (hw H locs lsA w hS hl)
  · cases h
theorem bs_call {x : Nat} {q : Nat × Nat × List Value} {M1 M' : BM} (hi : bIns m pc = some (.invokespecial x, n)) (h : bCal x n d m pc c lv st M = some (.inr (.inl q))) (h1 : BSh (d - 1) q.1 (0, q.2.1, none, [], M) M1) (h2 : BSh d m (pc + 3, c, lv, q.2.2, M1) M') : BSh d m (pc, c, lv, st, M) M' := by
  unfold bCal at h
  split at h
  · rename_i a r
    cases hq : bInv m x with
    | none => rw [hq] at h; cases h
    | some qq =>
      rw [hq] at h
      dsimp only at h
      cases hc : (Nat.beq n 3 && (Nat.ble 1 d && Nat.ble (aCat r) 8)) with
      | false => rw [hc] at h; cases h
      | true =>
        rw [hc] at h
        simp only [Bool.and_eq_true, Nat.beq_eq, Nat.ble_eq] at hc
        obtain ⟨rfl, hd, hcat⟩ := hc
        cases h0 : Nat.beq qq.1 0 with
        | true => rw [h0] at h; cases h
        | false =>
          rw [h0] at h
          cases h
          have hg := h1.1
          have hg2 := h2.1
          obtain ⟨hmem, hck, ho, hx⟩ := bInv_ok hq
          refine ⟨hg.tr hg2, fun g p l e R s0 mi args below meth co Z k j C hk hj hrc hrs hb H locs lsA w hS hl => ?_⟩
          have hts := C.2.2.2.2.1
          have hfr := C.2.2.2.2.2.1
          have hlo := C.2.2.2.2.2.2.1
          have hk' : k ≤ M.length := hk
          have hj' : j ≤ bSl M := hj
          have hg1 : M.length ≤ M1.length := hg.1
          have hg1s : bSl M ≤ bSl M1 := hg.2
          have hg3 : M1.length ≤ M'.length := hg2.1
          have hg3s : bSl M1 ≤ bSl M' := hg2.2
          have hrm : 2 * (F0 mi pc lsA (.ref (g.1 + a) :: r.map (tb g))).monitorRoom + ((r.map (tb g)).map fun v => v.category).sum ≤ 8 := lv_room (by rw [bCat]; exact hcat)
          show W p l e R s0 mi args below meth co H locs (M.length - k) (bSl M - j) Z (F0 mi pc lsA (.ref (g.1 + a) :: r.map (tb g)))
          refine bSize w.1 hS C.2.2.2.2.2.2.2.2.2.1 hk' (fun hz => ?_)
          have S : CallFix p mi co (bBytes m) (bML m) s0 args aTG (bOwn m) := ⟨C.1, C.2.1, C.2.2.1, C.2.2.2.1, hts⟩
          have hp : PreS s0 H (bPcd g M a) (.ref (g.1 + a) :: []) := ⟨bBlind g M a, fun U hU hW => ⟨rfl, by rw [hU]; exact w.moved hW.alike, C.2.2.2.2.2.2.2.2.1.warm hW, by rw [hU]; exact hz⟩⟩
          have hfit : M.length - k + (M1.length - M.length) ≤ R.cells ∧ bSl M - j + (bSl M1 - bSl M) ≤ R.slots := ⟨by omega, by omega⟩
          have e1 : M.length - k + (M1.length - M.length) = M1.length - k := by omega
          have e2 : bSl M - j + (bSl M1 - bSl M) = bSl M1 - j := by omega
          have run : ∀ hq9 : qq.2.1 < 9, va_Run p l e R s0 mi args below meth co H locs (M.length - k) (bSl M - j) (M1.length - M.length) (bSl M1 - bSl M) (F0 mi pc lsA (.ref (g.1 + a) :: r.map (tb g))) (r.map (tb g)) (bQc g M1 (Value.ref (g.1 + a) :: []).toArray) (gA g) := by
            intro hq9
            obtain ⟨k1, k2, k3, k4, k5, k6, k7, k8, k9⟩ := bMck_ok hq9
            have hG : GoodIn aTG (bWs qq.2.1) := aGoodIn (fun w hw => by
              rcases List.mem_cons.mp hw with rfl | hw
              · exact k1
              · exact hw)
            have hM := bMet (g := g) l hq9 h1
            unfold bInvCk at hck
            split at hck
            · rename_i hq0
              rw [show qq.1 = 0 from hq0] at h0
              cases h0
            · rw [ho, hx] at hck
              simp only [Bool.and_eq_true, decide_eq_true_eq] at hck
              obtain ⟨⟨-, c1⟩, c2⟩ := hck
              exact va_runI S hM (cwI 0 hts hG rfl rfl rfl (hts _ k2) (hts _ (aInT_mem c1)) (hts _ (aInT_mem c2)) k7 ⟨k3.1, k3.2, k4⟩ ⟨by show d - 1 + 1 ≤ _; omega, by show 8 + (bML qq.2.1 + 11) + 60 * (d - 1) ≤ _; omega⟩) hp rfl rfl hl.1 rfl hrm (bIns_decode C.2.2.2.2.2.2.2.2.2.2 hi) hfit
            · rename_i n0 n1
              rw [ho, hx] at hck
              simp only [Bool.and_eq_true, decide_eq_true_eq] at hck
              obtain ⟨⟨-, c1⟩, c2⟩ := hck
              have hN : va_Nw (.methodLinkNest (bOwn m) x (bName qq.2.1) "TwelveShort") s0 := by
                have h3 : qq.1 = 2 := bInvK _ hmem n0 n1
                have := C.2.2.2.2.2.2.2.2.1.1 _ hmem h3
                rw [ho, hx] at this
                exact this
              exact va_runIN S hM ⟨va_cnB (rm := bRm (d - 1) (M1.length - M.length) (bSl M1 - bSl M)) 0 hts hG rfl rfl rfl hN (hts _ k2) ⟨k3.1, k3.2, k4⟩ ⟨by show d - 1 + 1 ≤ _; omega, by show 8 + (bML qq.2.1 + 11) + 60 * (d - 1) ≤ _; omega⟩, k7, hts _ (aInT_mem c2)⟩ hp rfl rfl hl.1 rfl hrm (bIns_decode C.2.2.2.2.2.2.2.2.2.2 hi) hfit
          refine va_callv (run (bInv9 hck h0)) hS (fun q _ h => h) (fun q h => h) (fun u t H1 locs1 ht hvm _ hB hz1 hk1 hS1 => ?_)
          rw [e1, e2]
          exact h2.2 g p l e R s0 mi args below meth co Z k j C (by show k ≤ M1.length; omega) (by show j ≤ bSl M1; omega) hrc hrs hb H1 locs1 lsA (by rw [← ht]; exact hB.moved hvm.symm) hS1 hl
  · cases h
end BCL
theorem bSound : ∀ (f d m : Nat) (s : BS) (M' : BM), bRun f d m s = some M' → BSh d m s M' := by
  intro f
  induction f with
  | zero => intro d m s M' h; cases h
  | succ f ih =>
    intro d m s M' h
    obtain ⟨pc, c, lv, st, M⟩ := s
    unfold bRun at h
    cases hs : bStep d m (pc, c, lv, st, M) with
    | none => rw [hs] at h; cases h
    | some t =>
      rw [hs] at h
      unfold bStep at hs
      dsimp only at hs
      split at hs
      · rename_i x n hi
        obtain s' | q | u := t
        · exact BSh.step (bs_obj hi hs) (ih d m s' M' h)
        · dsimp only at h
          cases h1 : bRun f (d - 1) q.1 (0, q.2.1, none, [], M) with
          | none => rw [h1] at h; cases h
          | some M1 =>
            rw [h1] at h
            exact bs_call hi hs (ih _ _ _ _ h1) (ih _ _ _ _ h)
        · exfalso
          unfold bCal at hs
          split at hs
          · split at hs
            · cases hc : (Nat.beq n 3 && (Nat.ble 1 d && Nat.ble (aCat _) 8)) with
              | false => rw [hc] at hs; cases hs
              | true =>
                rw [hc] at hs
                rename_i q _
                cases h0 : Nat.beq q.1 0 with
                | false => rw [h0] at hs; cases hs
                | true => rw [h0] at hs; cases hs
            · cases hs
          · cases hs
      · rename_i n hi
        split at hs
        · cases hn : Nat.beq n 1 with
          | false => rw [hn] at hs; cases hs
          | true =>
            rw [hn] at hs
            cases hs
            cases h
            have := Nat.eq_of_beq_eq_true hn
            subst this
            exact ⟨bGr.rf, fun g p l e R s0 mi args below meth co Z k j C hk hj hrc hrs hb H locs lsA w hS hl => hb H locs pc lsA w hS hi⟩
        · cases hs
      · rename_i i n _ _ hi
        obtain ⟨s', h1, rfl⟩ := Option.map_eq_some_iff.mp hs
        exact BSh.step (bs_all hi h1) (ih d m s' M' h)
      · cases hs
