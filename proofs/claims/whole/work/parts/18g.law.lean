/-! the law from its entry -/
theorem bBorn {g : GG} {s0 : State} {args : Array Value} {M : BM} {H H' : Heap} {ci : Nat} {r : vw_C} {kC : Class} (h9 : ci < 9) (hr : vwCl9[ci]? = some r) (w : bWorld g M H s0) (hz : H.size = g.1 + M.length) (hts : ∀ w ∈ aTG, w.before args s0 = true) (hkC : s0.vm.classes[(gD g).1 ci]? = some kC) (e3 : H'[g.1 + M.length]? = some (blank ((gD g).1 ci) kC)) (o1 : ∀ q : Nat, q < g.1 + M.length → H'[q]? = H[q]?) : va_P (gD g) vwCl9 (bW g (M ++ [.inl (ci, bDef ci)])) H' := by
  obtain ⟨-, hN, ⟨ty, hty⟩, -⟩ := aCl9 hr
  rw [bW_app]
  refine (w.1.kept (fun k' x' hx => o1 x'.1 (by have := (w.1 k' x' hx).lt; rw [hz] at this; exact this))).app (fun k' x' hx => ?_)
  have hz0 : k' < 1 := (List.getElem?_eq_some_iff.mp hx).1
  rw [show k' = 0 by omega] at hx
  cases hx
  exact ⟨r, hr, (u_born ty hts (aUws hr) (w.2.1 ci _ hr) hkC e3 hty).to (bDef_ok h9 hr hty)⟩
section LWS
variable {p : Program} {e : Env} {s : State} {m : MethodId} {below : List Frame} {meth : Method} {c : Code} {l : Launch} {b L : Nat} {xs : Nat → Int32} {g : GG}
/-- the law makes an object: new, dup, its constructor -/
theorem lawNew {Z : State → Prop} {pc x1 x2 ci f d : Nat} {q1 : Nat × Nat × Nat} {q2 : Nat × Nat} {M M' : BM} {H : Heap} {locs : List Loc} {ls : Array Slot} (C0 : lw_At p s m meth c b L xs) (hg1 : s.heap.size = g.1 + 0) (henv : bEnv s)
    (h1 : bNew 9 x1 = some (ci, q1)) (h2 : bInv 9 x2 = some (1, ci, q2)) (i1 : aIns 211 pc = some (.new x1, 3)) (i2 : aIns 211 (pc + 3) = some (.dup, 1)) (i3 : aIns 211 (pc + 3 + 1) = some (.invokespecial x2, 3))
    (hrun : bRun f d ci (0, M.length, none, [], M ++ [.inl (ci, bDef ci)]) = some M') (hd : d ≤ 100) (hc : M'.length ≤ 600000) (hs : bSl M' ≤ 7302249) (hsz : ls.size = 4) (w : bWorld g M H s) (hS : va_S (gA g) s.heap H locs)
    (kk : ∀ (H' : Heap) (locs' : List Loc), bWorld g M' H' s → va_S (gA g) s.heap H' locs' → W p l e room_1 s m #[Value.ref b] below meth c H' locs' (M'.length - 0) (bSl M' - 0) Z (F0 m (pc + 3 + 1 + 3) ls [.ref (g.1 + M.length)])) :
    W p l e room_1 s m #[Value.ref b] below meth c H locs (M.length - 0) (bSl M - 0) Z (F0 m pc ls []) := by
  obtain ⟨hx, hb, hr, hml, hown, hts0, hX, hbl, hlocks, hgv⟩ := id C0
  have hts : ∀ w ∈ aTG, w.before #[Value.ref b] s = true := fun w h => hts0 w (List.mem_filter.mp h).1
  obtain ⟨h9, w1, w2, w3⟩ := bNew_ok h1
  obtain ⟨r, hr9, hrn⟩ := bCls h9
  have hKn := w.2.1 ci _ hr9
  dsimp only at h9 w1 w2 w3 hrn
  rw [← hrn] at w1 w2 w3
  have hS1 := bSound _ _ _ _ _ hrun
  have hg := hS1.1
  have hgl : (M ++ [(.inl (ci, bDef ci) : BE)]).length ≤ M'.length := hg.1
  have hgs : bSl (M ++ [(.inl (ci, bDef ci) : BE)]) ≤ bSl M' := hg.2
  have hln : (bDef ci).length = aNf ci := by unfold bDef; simp
  have e1 : (M ++ [(.inl (ci, bDef ci) : BE)]).length = M.length + 1 := by rw [List.length_append]; rfl
  have e2 : bSl (M ++ [(.inl (ci, bDef ci) : BE)]) = bSl M + aNf ci := by
    rw [bSl_app]
    show bSl M + (bDef ci).length = _
    rw [hln]
  refine bSize w.1 hS hg1 (Nat.zero_le _) (fun hz => ?_)
  refine W.newcK (C := r.1) (n := aNf ci) (own := bOwn 9) hx hb hown (hts _ w1) (hts _ w2) (hts _ w3) (g := F0 m pc ls []) rfl (aIns_decode (m := 211) i1) (show M.length - 0 + 1 ≤ 600000 by omega) (show bSl M - 0 + aNf ci ≤ 7302249 by omega) hKn.2.1 hz (fun H' kC hkC e3 z1 o1 => ?_)
  have P1 := bBorn h9 hr9 w hz hts hkC e3 o1
  have hS' : va_S (gA g) s.heap H' locs := ⟨Nat.le_trans hS.1 (by omega), fun y h1 h2 => (o1 y (by have := Nat.lt_of_lt_of_le h1 hS.1; rw [hz] at this; exact this)).trans (hS.2.1 y h1 h2), hS.2.2⟩
  refine lv_dup (pc := pc + 3) (ls := ls) (rest := []) hx hb (aIns_decode (m := 211) i2) rfl ?_
  obtain ⟨k1, k2, k3, k4, k5, k6, k7, k8, k9⟩ := bMck_ok h9
  have hG : GoodIn aTG (bWs ci) := aGoodIn (fun w hw => by
    rcases List.mem_cons.mp hw with rfl | hw
    · exact k1
    · exact hw)
  have hM := bMet (g := g) l h9 hS1
  obtain ⟨hmem, hck, ho, hx2⟩ := bInv_ok h2
  have hck2 : (decide (ci < 9) && aInT q2.1 (.methodLink (aOwn (10000 * 9 + x2)) ((10000 * 9 + x2) % 10000) (bName ci)) && aInT q2.2 (.instanceMethod (bName ci))) = true := hck
  rw [ho, hx2] at hck2
  simp only [Bool.and_eq_true, decide_eq_true_eq] at hck2
  obtain ⟨⟨-, c1⟩, c2⟩ := hck2
  have S : CallFix p m c code 4 s #[Value.ref b] aTG (bOwn 9) := ⟨hx, hb, hml, hown, hts⟩
  have hp : PreS s H' (bPcd g (M ++ [.inl (ci, bDef ci)]) M.length) (.ref (g.1 + M.length) :: []) := ⟨bBlind g _ _, fun U hU hW => ⟨rfl, by rw [hU]; exact bWorld.moved hW.alike ⟨P1, w.2⟩, henv.warm hW, by rw [hU, z1, e1]; omega⟩⟩
  have hfit : M.length - 0 + 1 + (M'.length - (M ++ [(.inl (ci, bDef ci) : BE)]).length) ≤ room_1.cells ∧ bSl M - 0 + aNf ci + (bSl M' - bSl (M ++ [(.inl (ci, bDef ci) : BE)])) ≤ room_1.slots := ⟨show _ ≤ 600000 by omega, show _ ≤ 7302249 by omega⟩
  have f1 : M.length - 0 + 1 + (M'.length - (M ++ [(.inl (ci, bDef ci) : BE)]).length) = M'.length - 0 := by omega
  have f2 : bSl M - 0 + aNf ci + (bSl M' - bSl (M ++ [(.inl (ci, bDef ci) : BE)])) = bSl M' - 0 := by omega
  have hrm : 2 * (F0 m (pc + 3 + 1) ls [.ref (g.1 + M.length), .ref (g.1 + M.length)]).monitorRoom + (([.ref (g.1 + M.length)] : List Value).map fun v => v.category).sum ≤ 8 := lv_room (Nat.le_of_ble_eq_true rfl)
  refine va_callv (va_runI (g := F0 m (pc + 3 + 1) ls [.ref (g.1 + M.length), .ref (g.1 + M.length)]) (As := []) (rest := [.ref (g.1 + M.length)]) S hM (cwI 0 hts hG rfl rfl rfl (hts _ k2) (hts _ (aInT_mem c1)) (hts _ (aInT_mem c2)) k7 ⟨k3.1, k3.2, k4⟩ ⟨show d + 1 ≤ 2048 by omega, show 8 + (bML ci + 11) + 60 * d ≤ 84000 by omega⟩) hp rfl rfl hsz rfl hrm (aIns_decode (m := 211) i3) hfit) hS' (fun q _ h => h) (fun q h => h) (fun u t H1 locs1 ht hvm _ hB hz1 hk1 hS1 => ?_)
  rw [f1, f2]
  exact kk H1 locs1 (by rw [← ht]; exact hB.moved hvm.symm) hS1
/-- behind the constructors -/
theorem law16 {H : Heap} {locs : List Loc} {ls : Array Slot} {cells slots : Nat} (hL : L ≤ 3072) (C0 : lw_At p s m meth c b L xs) (hg1 : s.heap.size = g.1 + 0) (hgF : g.2.1 0 = b) (hold : aOld g s s.heap) (w : bWorld g bM2 H s) (hS : va_S (gA g) s.heap H locs)
    (hl : lv_has ls 4 [(2, .ref (g.1 + 121)), (1, .ref (g.1 + 0)), (0, .ref b)]) (hc : cells ≤ 600000) (hs : slots ≤ 7302249) : W p l e room_1 s m #[Value.ref b] below meth c H locs cells slots (lw_Z below #[Value.ref b] s) (F0 m 16 ls []) := by
  obtain ⟨hx, hb, hr, hml, hown, hts0, hX, hbl, hlocks, hgv⟩ := id C0
  have hts : ∀ w ∈ aTG, w.before #[Value.ref b] s = true := fun w h => hts0 w (List.mem_filter.mp h).1
  have hE := aSound (lawE (d := 0) (L := L) (M := iM0 L xs) (x := UN) hL cp0 rfl)
  have hw : aWorld g (iM0 L xs) H s := by
    refine ⟨bToW w.1, w.2, ?_⟩
    rw [hgF, show (iM0 L xs 1002 0).toNatClampNeg = L from nI_clamp (n := L) (by omega), show iM0 L xs 1000 = xs from rfl]
    obtain ⟨scr, x1, x2, x3, x4, x5⟩ := hX
    exact ⟨scr, by rw [hS.2.1 b hbl (show ¬ g.1 ≤ b by omega)]; exact x1, x2, x3, x4, x5⟩
  have hloc : aLoc g ls (aML 211) [.ref 1000, .ref 0, .ref 121, UN] := by
    refine ⟨hl.1, hl.2.1, fun i v hi hv => ?_⟩
    match i, hi with
    | 0, hi => cases hi; rw [trv_old (by decide) (by decide)]; show ls[0]? = some (.val (.ref (g.2.1 0))); rw [hgF]; exact lv_at hl 2 rfl
    | 1, hi => cases hi; rw [trv_in (by decide)]; exact lv_at hl 1 rfl
    | 2, hi => cases hi; rw [trv_in (by decide)]; exact lv_at hl 0 rfl
    | 3, hi => cases hi; exact absurd rfl hv
    | i + 4, hi => cases hi
  refine hE g p l e room_1 s m #[Value.ref b] below meth c H locs cells slots (lw_Z below #[Value.ref b] s) ls ⟨hx, hb, hml, hown, hts, show 201 ≤ 2048 by decide, show 60 * 201 ≤ 84000 by decide, hc, hs⟩ hw hold hS hloc ?_
  intro r I H1 locs1 pc lsA i hq hw1 hS1 hi hok
  have hq' : r = .int 1 := hq
  subst hq'
  show W p l e room_1 s m #[Value.ref b] below meth c H1 locs1 cells slots (lw_Z below #[Value.ref b] s) (F0 m pc lsA [.int 1])
  refine va_forget (fun q hq => by have h : g.1 ≤ q.base := hS1.2.2 q hq; omega) ?_
  refine W.widen hc hs ?_
  cases i with
  | ireturn => exact lw_ret hx hb hr hlocks (aIns_decode (m := 211) hi)
  | return_ => exact absurd (show (some FieldType.boolean) = none from hok) (by intro h; cases h)
  | areturn => exact absurd (show false = true from hok.1) (by decide)
  | lreturn =>
    obtain ⟨v, hv, -⟩ := hok
    cases hv
  | _ => exact absurd hok id
end LWS
