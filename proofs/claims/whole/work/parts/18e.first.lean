/-! the ints behind the constructors; both sides are together -/
def bInt (x : BE) (k : Nat) : Int32 := match x with
  | .inl o => (match o.2.getD k .null with
    | .int v => v
    | _ => 0)
  | .inr (.inl a) => bI a.2 k
  | .inr (.inr _) => 0
def bI0 (c k : Nat) : Int32 := bInt (bM2.getD c (.inr (.inl (0, [])))) k
def iM0 (L : Nat) (xs : Nat → Int32) : IM := fun c => if c = 1000 then xs else if c = 1002 then (fun _ => nI L) else bI0 c
theorem iM0_c {L c : Nat} {xs : Nat → Int32} (h : c < 1000) : iM0 L xs c = bI0 c := by
  unfold iM0
  rw [if_neg (by omega), if_neg (by omega)]
set_option maxRecDepth 100000 in
theorem bI0_h : bI0 122 0 = nI 0 ∧ (∀ i, i < 10 → bI0 1 (hSl i) = bI0 122 i) ∧ bI0 122 5 = 0 ∧ bI0 122 6 = nI 0 ∧ bI0 122 1 = nI 0 ∧ (∀ k, k < 3 → bI0 3 k = enc none) ∧ bI0 122 2 = nI 0 := by decide +kernel
set_option maxRecDepth 100000 in
theorem bI0_s : bI0 0 3 = bI0 121 3 ∧ bI0 0 3 = 0 ∧ bI0 42 1 = nI 0 ∧ bI0 121 14 = nI 0 ∧ bI0 0 9 = nI 0 ∧ bI0 121 29 = nI 0 := by decide +kernel
set_option maxRecDepth 100000 in
theorem bI0_r : ∀ k, k < 4 → bI0 (93 + 2 * k) 1 = bI0 125 k ∧ bI0 (93 + 2 * k) 2 = bI0 126 k ∧ bI0 125 k = -1 ∧ bI0 126 k = nI 0 ∧ ∀ i, i < 24 → bI0 (94 + 2 * k) i = bI0 127 (24 * k + i) ∧ bI0 127 (24 * k + i) = 0 := by decide +kernel
set_option maxRecDepth 100000 in
theorem bI0_l : ∀ j, j < 5 → bI0 (101 + 4 * j) 2 = bI0 128 j ∧ bI0 128 j = 0 := by decide +kernel
theorem cp0 {L : Nat} {xs : Nat → Int32} : Cp (iM0 L xs) 0 0 := by
  obtain ⟨h1, h2, h3, h4, h5, h6, h7⟩ := bI0_h
  obtain ⟨s1, s2, s3, s4, s5, s6⟩ := bI0_s
  have e122 : iM0 L xs 122 = bI0 122 := iM0_c (by decide)
  have e1 : iM0 L xs 1 = bI0 1 := iM0_c (by decide)
  have e3 : iM0 L xs 3 = bI0 3 := iM0_c (by decide)
  have e0 : iM0 L xs 0 = bI0 0 := iM0_c (by decide)
  have e121 : iM0 L xs 121 = bI0 121 := iM0_c (by decide)
  have e42 : iM0 L xs 42 = bI0 42 := iM0_c (by decide)
  refine ⟨⟨?_, ?_, ?_, fun t ht => absurd ht (by omega), fun k hk => ?_, 0, by decide, by rw [e122]; exact h7⟩, ⟨by rw [e0, e121]; exact s1, Or.inl (by rw [e0]; exact s2)⟩, ⟨0, by decide, by rw [e42]; exact s3, by rw [e121]; exact s4, fun i hi => absurd hi (by omega)⟩, fun k hk => ?_, fun j hj => ?_, ⟨0, by decide, by rw [e0]; exact s5, by rw [e121]; exact s6, fun i hi => absurd hi (by omega)⟩⟩
  · refine ⟨by rw [e122]; exact h1, by decide, fun i hi => ?_, fun p hp => absurd hp (by omega)⟩
    rw [e1, e122]
    exact h2 i hi
  · rw [e122]
    exact ⟨h1, by decide, by rw [h3]; exact isSet0, ⟨0, by decide, h4⟩, fun p hp => absurd hp (by omega)⟩
  · rw [e122]
    exact ⟨h5, by decide, fun t ht => absurd ht (by omega)⟩
  · rw [e3]
    exact h6 k hk
  · obtain ⟨q1, q2, q3, q4, q5⟩ := bI0_r k hk
    rw [iM0_c (c := 93 + 2 * k) (by omega), iM0_c (c := 94 + 2 * k) (by omega), iM0_c (c := 125) (by decide), iM0_c (c := 126) (by decide), iM0_c (c := 127) (by decide)]
    exact ⟨q1, q2, Or.inl q3, ⟨0, by decide, q4⟩, fun i hi => ⟨(q5 i hi).1, by rw [(q5 i hi).2]; exact Or.inr (by decide)⟩⟩
  · obtain ⟨q1, q2⟩ := bI0_l j hj
    rw [iM0_c (c := 101 + 4 * j) (by omega), iM0_c (c := 128) (by decide)]
    exact ⟨q1, Or.inl q2⟩
/-! the world behind the constructors -/
def bCk (c : Nat) (x : BE) : Bool := match x with
  | .inl o => Nat.beq (aShp c) o.1 && (Nat.blt o.1 9 && (Nat.beq o.2.length (aNf o.1) && (List.range (aNf o.1)).all (fun k => bif Nat.beq (aFc o.1 k) 2 then decide (o.2.getD k .null = .ref (aRf c k)) else (match o.2.getD k .null with | .int _ => true | _ => false))))
  | .inr (.inl a) => Nat.beq (aShp c) 20 && Nat.beq (aLen c) a.1
  | .inr (.inr a) => Nat.beq (aShp c) a.1 && (Nat.ble 21 a.1 && (Nat.beq (aLen c) a.2.1 && (List.range a.2.1).all (fun j => decide (bR a.2.2 j = some (aRf c j)))))
theorem arrV_cg {cA : ClassId} {n : Nat} {f f' : Nat → Value} (h : ∀ j, j < n → f j = f' j) : arrV cA n f = arrV cA n f' := by
  unfold arrV
  have e : (fun j : Fin n => f j.val) = (fun j : Fin n => f' j.val) := funext (fun j => h j.val j.isLt)
  rw [e]
theorem bConv {g : GG} {c : Nat} {x : BE} {H : Heap} (h : bCk c x = true) (h1 : va_at (gD g) vwCl9 (g.1 + c, bE g x) H) : va_at (gD g) vwCl9 (g.1 + c, aEn g c (bInt x)) H := by
  obtain o | a | a := x
  · unfold bCk at h
    simp only [Bool.and_eq_true, Nat.beq_eq, Nat.blt_eq] at h
    obtain ⟨hs, h9, hln, hall⟩ := h
    rw [aEn_obj hs h9]
    have el : o.2.map (tb g) = (List.range (aNf o.1)).map (aFv g c o.1 (bInt (.inl o))) := by
      apply List.ext_getElem?
      intro k
      rw [List.getElem?_map, List.getElem?_map]
      by_cases hk : k < aNf o.1
      · have hv := List.getElem?_eq_getElem (l := o.2) (i := k) (by omega)
        have hd : o.2.getD k .null = o.2[k]'(by omega) := by rw [List.getD_eq_getElem?_getD, hv]; rfl
        have hc := List.all_eq_true.mp hall k (List.mem_range.mpr hk)
        have hi : bInt (.inl o) k = (match o.2.getD k .null with | .int v => v | _ => 0) := rfl
        rw [List.getElem?_range hk, hv]
        show some (tb g (o.2[k]'(by omega))) = some (bif Nat.beq (aFc o.1 k) 2 then .ref (g.1 + aRf c k) else .int (bInt (.inl o) k))
        rw [hi]
        rw [← hd]
        generalize o.2.getD k .null = v at hc
        cases hb : Nat.beq (aFc o.1 k) 2 with
        | true =>
          rw [hb] at hc
          have hv2 : v = .ref (aRf c k) := of_decide_eq_true hc
          rw [hv2]
          rfl
        | false =>
          rw [hb] at hc
          cases v with
          | int z => rfl
          | _ => cases hc
      · rw [List.getElem?_eq_none (by omega), List.getElem?_eq_none (by simp; omega)]
        rfl
    rw [← el]
    exact h1
  · unfold bCk at h
    simp only [Bool.and_eq_true, Nat.beq_eq] at h
    rw [aEn_ints h.1, h.2]
    exact h1
  · unfold bCk at h
    simp only [Bool.and_eq_true, Nat.beq_eq, Nat.ble_eq] at h
    obtain ⟨hs, h21, hln, hall⟩ := h
    rw [aEn_refs hs h21, hln]
    have h2 : H[g.1 + c]? = some (arrV (gC g (a.1 - 20)) a.2.1 (fun j => va_rf ((bR a.2.2 j).map (fun v => g.1 + v)))) := h1
    show H[g.1 + c]? = some (arrV (gC g (a.1 - 20)) a.2.1 (fun j => va_rf (some (g.1 + aRf c j))))
    rw [h2]
    congr 1
    apply arrV_cg
    intro j hj
    have hc : bR a.2.2 j = some (aRf c j) := of_decide_eq_true (List.all_eq_true.mp hall j (List.mem_range.mpr hj))
    rw [hc]
    rfl
set_option maxRecDepth 100000 in
theorem bCk140 : (List.range 140).all (fun c => match bM2[c]? with | some x => bCk c x | none => false) = true := by decide +kernel
theorem bToW {g : GG} {H : Heap} {L : Nat} {xs : Nat → Int32} (hP : va_P (gD g) vwCl9 (bW g bM2) H) : va_P (gD g) vwCl9 (aW g (iM0 L xs)) H := by
  intro c q hq
  have hc : c < 140 := by
    have := (List.getElem?_eq_some_iff.mp hq).1
    simpa [aW] using this
  rw [aW_at g _ hc] at hq
  cases hq
  have hk := List.all_eq_true.mp bCk140 c (List.mem_range.mpr hc)
  cases hx : bM2[c]? with
  | none => rw [hx] at hk; cases hk
  | some x =>
    rw [hx] at hk
    have e : iM0 L xs c = bInt x := by
      rw [iM0_c (by omega)]
      funext k
      unfold bI0
      rw [List.getD_eq_getElem?_getD, hx]
      rfl
    rw [e]
    exact bConv hk (hP c _ (bW_at hx))
