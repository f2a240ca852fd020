/-! the houses of the class: cells, and what they hold -/
def isHs (h : Nat) : Prop := h = 1 ∨ h = 14 ∨ h = 27
theorem hs0 {h : Nat} (hh : isHs h) : aShp h = 1 := by rcases hh with rfl | rfl | rfl <;> rfl
theorem hs1 {h : Nat} (hh : isHs h) : aShp (aRf h 0) = 21 := by rcases hh with rfl | rfl | rfl <;> rfl
theorem hsg {h : Nat} (hh : isHs h) : aRf h 0 = h + 1 := by rcases hh with rfl | rfl | rfl <;> rfl
theorem hsc {h : Nat} (hh : isHs h) : aRf h 1 = h + 2 := by rcases hh with rfl | rfl | rfl <;> rfl
theorem hsc20 {h : Nat} (hh : isHs h) : aShp (aRf h 1) = 20 := by rcases hh with rfl | rfl | rfl <;> rfl
theorem hsc3 {h : Nat} (hh : isHs h) : aLen (aRf h 1) = 3 := by rcases hh with rfl | rfl | rfl <;> rfl
theorem hs10 {h : Nat} (hh : isHs h) : aLen (aRf h 0) = 10 := by rcases hh with rfl | rfl | rfl <;> rfl
theorem hse {h p : Nat} (hh : isHs h) (hp : p < 10) : aRf (aRf h 0) (Int32.toNatClampNeg (nI p)) = h + 3 + p := by
  rw [nI_clamp (by omega)]
  rcases hh with rfl | rfl | rfl
  · revert p; decide +kernel
  · revert p; decide +kernel
  · revert p; decide +kernel
theorem hsp {h p : Nat} (hh : isHs h) (hp : p < 10) : aShp (h + 3 + p) = 0 := by
  rcases hh with rfl | rfl | rfl
  · revert p; decide +kernel
  · revert p; decide +kernel
  · revert p; decide +kernel
theorem hs2 {h p : Nat} (hh : isHs h) (hp : p < 10) : aShp (aRf (aRf h 0) (Int32.toNatClampNeg (nI p))) = 0 := by
  rw [hse hh hp]; exact hsp hh hp
theorem hs4 {h p : Nat} (hh : isHs h) (hp : p < 10) : vp_in (nI p) (aLen (aRf h 0)) := by
  rw [hs10 hh]; exact vp_in_nI hp (by decide)
/-- fields of a guest in a flat state -/
abbrev gK (S : Nat → Int32) (p : Nat) : Int32 := S (10 + 5 * p)
abbrev gO (S : Nat → Int32) (p : Nat) : Int32 := S (10 + 5 * p + 1)
abbrev gS (S : Nat → Int32) (p : Nat) : Int32 := S (10 + 5 * p + 2)
abbrev gW (S : Nat → Int32) (p : Nat) : Int32 := S (10 + 5 * p + 3)
abbrev gT (S : Nat → Int32) (p : Nat) : Int32 := S (10 + 5 * p + 4)
/-- slot of a house for a place below 10 of the flat state -/
def hSl (i : Nat) : Nat := match i with
  | 0 => 2
  | 1 => 11
  | 2 => 9
  | 3 => 3
  | 4 => 4
  | 5 => 5
  | 6 => 6
  | 7 => 7
  | 8 => 8
  | _ => 10
/-- the house h holds the flat state S, with N people -/
def isH (M : IM) (h : Nat) (S : Nat → Int32) (N : Nat) : Prop :=
  S 0 = nI N ∧ N ≤ 10 ∧ (∀ i, i < 10 → M h (hSl i) = S i) ∧ ∀ p, p < N → ∀ j, j < 5 → M (h + 3 + p) j = S (10 + 5 * p + j)
/-- nothing but the house h has changed -/
def frH (h : Nat) (M M' : IM) : Prop := ∀ c, c ≠ h → ¬ (h + 3 ≤ c ∧ c < h + 13) → M' c = M c
theorem frH.rf {h : Nat} {M : IM} : frH h M M := fun _ _ _ => rfl
theorem frH.tr {h : Nat} {M M1 M2 : IM} (a : frH h M M1) (b : frH h M1 M2) : frH h M M2 := fun c h1 h2 => (b c h1 h2).trans (a c h1 h2)
theorem frH.wr {h : Nat} {M : IM} {c k : Nat} {v : Int32} (hc : c = h ∨ (h + 3 ≤ c ∧ c < h + 13)) : frH h M (up M c k v) := by
  intro c' h1 h2
  unfold up
  rw [if_neg]
  intro e
  subst e
  rcases hc with e | e
  · exact h1 e
  · exact h2 e
theorem up_s {M : IM} {c k : Nat} {v : Int32} : up M c k v c k = v := by unfold up upd; rw [if_pos rfl, if_pos rfl]
theorem up_k {M : IM} {c k k' : Nat} {v : Int32} (h : k' ≠ k) : up M c k v c k' = M c k' := by unfold up upd; rw [if_pos rfl, if_neg h]
theorem up_c {M : IM} {c c' k : Nat} {v : Int32} (h : c' ≠ c) : up M c k v c' = M c' := by unfold up; rw [if_neg h]
theorem up_r {M : IM} {c k : Nat} {v : Int32} : up M c k v c = upd (M c) k v := by unfold up; rw [if_pos rfl]
theorem hSl_inj : ∀ i, i < 10 → ∀ j, j < 10 → hSl i = hSl j → i = j := by decide
section HS
variable {M : IM} {h N : Nat} {S : Nat → Int32}
/-- a field of the house is written -/
theorem isH.fld (H : isH M h S N) {i : Nat} (hi : i < 10) (h0 : i ≠ 0) (v : Int32) : isH (up M h (hSl i) v) h (upd S i v) N := by
  obtain ⟨a, b, c, e⟩ := H
  refine ⟨?_, b, fun j hj => ?_, fun p hp j hj => ?_⟩
  · unfold upd; rw [if_neg (fun q => h0 q.symm)]; exact a
  · unfold upd
    by_cases q : j = i
    · rw [if_pos q, q]; exact up_s
    · rw [if_neg q, up_k (fun z => q (hSl_inj j hj i hi z))]; exact c j hj
  · rw [up_c (by omega), e p hp j hj]
    unfold upd
    rw [if_neg (by omega)]
/-- a field of a guest is written -/
theorem isH.gst (H : isH M h S N) {p j : Nat} (hp : p < N) (hj : j < 5) (v : Int32) : isH (up M (h + 3 + p) j v) h (upd S (10 + 5 * p + j) v) N := by
  obtain ⟨a, b, c, e⟩ := H
  refine ⟨?_, b, fun i hi => ?_, fun p' hp' j' hj' => ?_⟩
  · unfold upd; rw [if_neg (by omega)]; exact a
  · rw [up_c (by omega), c i hi]
    unfold upd
    rw [if_neg (by omega)]
  · unfold upd
    by_cases q : p' = p
    · subst q
      by_cases q2 : j' = j
      · subst q2
        rw [if_pos rfl]; exact up_s
      · rw [if_neg (by omega), up_k q2]; exact e p' hp' j' hj'
    · rw [if_neg (by omega), up_c (by omega)]; exact e p' hp' j' hj'
theorem isH.ppl (H : isH M h S N) : M h 2 = nI N := (H.2.2.1 0 (by decide)).trans H.1
theorem isH.f (H : isH M h S N) {i : Nat} (hi : i < 10) : M h (hSl i) = S i := H.2.2.1 i hi
theorem isH.g (H : isH M h S N) {p j : Nat} (hp : p < N) (hj : j < 5) : M (h + 3 + p) j = S (10 + 5 * p + j) := H.2.2.2 p hp j hj
theorem isH.ext (H : isH M h S N) {S' : Nat → Int32} (e : ∀ i, i < 10 + 5 * N → S' i = S i) (h0 : ∀ i, i < 10 → S' i = S i) : isH M h S' N :=
  ⟨(h0 0 (by decide)).trans H.1, H.2.1, fun i hi => (H.2.2.1 i hi).trans (h0 i hi).symm, fun p hp j hj => (H.2.2.2 p hp j hj).trans (e _ (by omega)).symm⟩
theorem isH.fr (H : isH M h S N) {M' : IM} (e : ∀ c, (c = h ∨ (h + 3 ≤ c ∧ c < h + 13)) → M' c = M c) : isH M' h S N :=
  ⟨H.1, H.2.1, fun i hi => by rw [e h (Or.inl rfl)]; exact H.2.2.1 i hi, fun p hp j hj => by rw [e (h + 3 + p) (Or.inr (by have := H.2.1; omega))]; exact H.2.2.2 p hp j hj⟩
end HS
/-! the spec of an evening, over a flat state -/
def enc (o : Option Nat) : Int32 := match o with
  | none => -1
  | some q => nI q
abbrev gWa (S : Nat → Int32) (p : Nat) : Int32 := gWalks (gK S p) (gS S p)
abbrev gBr (S : Nat → Int32) (p : Nat) : Int32 := gBrings (gK S p) (gW S p)
abbrev bit (x : Int32) (p : Nat) : Int32 := (x >>> (nI p &&& 31)) &&& 1
/-- who is nearest of those below p that aren't in the set -/
def sNr (S : Nat → Int32) (but : Int32) : Nat → Option Nat
  | 0 => none
  | p + 1 => if bit but p = 0 then (match sNr S but p with
    | none => some p
    | some q => if gWa S p < gWa S q then some p else some q) else sNr S but p
theorem sNr_lt (S : Nat → Int32) (but : Int32) : ∀ (p q : Nat), sNr S but p = some q → q < p := by
  intro p
  induction p with
  | zero => intro q h; cases h
  | succ p ih =>
    intro q h
    unfold sNr at h
    by_cases hb : bit but p = 0
    · rw [if_pos hb] at h
      cases ho : sNr S but p with
      | none => rw [ho] at h; cases h; omega
      | some q' =>
        rw [ho] at h
        dsimp only at h
        have := ih q' ho
        by_cases hw : gWa S p < gWa S q'
        · rw [if_pos hw] at h; cases h; omega
        · rw [if_neg hw] at h; cases h; omega
    · rw [if_neg hb] at h
      have := ih q h
      omega
theorem enc_lt {o : Option Nat} (h : ∀ q, o = some q → q < 2 ^ 31) : (enc o < 0) ↔ o = none := by
  cases o with
  | none => exact ⟨fun _ => rfl, fun _ => by decide⟩
  | some q => exact ⟨fun z => absurd z (nI_pos (h q rfl)), fun z => by cases z⟩
/-- what the set brings, of those below p -/
def sBr (S : Nat → Int32) (set : Int32) : Nat → Int32
  | 0 => 0
  | p + 1 => sBr S set p + (if bit set p = 1 then gBr S p else 0)
section KH
variable {d : Nat} {I : IM} {Q : Po} {h N : Nat} {S : Nat → Int32} {set : Int32}
theorem k24_loop (hh : isHs h) (H : isH I h S N) : ∀ (k p : Nat) (l : Int32) (w : Value), p + k = N → (∀ q, sNr S set p = some q → l = gWa S q) →
    (E (d + 2, 24, 7, [.ref h, .int set, .int (enc (sNr S set p)), .int l, .int (nI p), w], [], I) Q ↔ Q (.int (enc (sNr S set N))) I) := by
  intro k
  induction k with
  | zero =>
    intro p l w hp hl
    have : p = N := by omega
    subst this
    rw [b24_7 (hs0 hh), H.ppl, if_neg (nI_nlt (Nat.le_refl _) (by have := H.2.1; omega)), b24_59]
  | succ k ih =>
    intro p l w hp hl
    have hN := H.2.1
    have hpN : p < N := by omega
    have hst : ∀ q, sNr S set p = some q → q < p := fun q => sNr_lt S set p q
    rw [b24_7 (hs0 hh), H.ppl, if_pos (nI_lt hpN (by omega)), b24_16]
    by_cases hb : bit set p = 0
    · rw [if_pos hb, b24_25 (hs0 hh) (hs1 hh) (hs2 hh (by omega)), hse hh (by omega)]
      rw [and_iff_right (hs4 hh (by omega)), k16 (hsp hh (by omega)), show I (h + 3 + p) 0 = gK S p from H.g hpN (by decide), show I (h + 3 + p) 2 = gS S p from H.g hpN (by decide), b24_35]
      cases ho : sNr S set p with
      | none =>
        rw [if_pos (show enc none < 0 by decide), b24_47, b24_53, nI_1]
        have e : sNr S set (p + 1) = some p := by unfold sNr; rw [if_pos hb, ho]
        have := ih (p + 1) (gWa S p) (.int (gWa S p)) (by omega) (fun q hq => by rw [e] at hq; cases hq; rfl)
        rw [e] at this
        exact this
      | some q =>
        have hq := hst q ho
        rw [if_neg (show ¬ enc (some q) < 0 from nI_pos (by omega)), b24_41, hl q ho]
        by_cases hw : gWa S p < gWa S q
        · rw [if_pos hw, b24_47, b24_53, nI_1]
          have e : sNr S set (p + 1) = some p := by unfold sNr; rw [if_pos hb, ho]; dsimp only; rw [if_pos hw]
          have := ih (p + 1) (gWa S p) (.int (gWa S p)) (by omega) (fun q hq => by rw [e] at hq; cases hq; rfl)
          rw [e] at this
          exact this
        · rw [if_neg hw, b24_53, nI_1]
          have e : sNr S set (p + 1) = some q := by unfold sNr; rw [if_pos hb, ho]; dsimp only; rw [if_neg hw]
          have := ih (p + 1) (gWa S q) (.int (gWa S p)) (by omega) (fun q hq => by rw [e] at hq; cases hq; rfl)
          rw [e] at this
          exact this
    · rw [if_neg hb, b24_53, nI_1]
      have e : sNr S set (p + 1) = sNr S set p := by show (if _ then _ else _) = _; rw [if_neg hb]
      have := ih (p + 1) l w (by omega) (fun q hq => hl q (by rw [← e]; exact hq))
      rw [e] at this
      exact this
theorem k24 (hh : isHs h) (H : isH I h S N) {a b c e : Value} : E (d + 2, 24, 0, [.ref h, .int set, a, b, c, e], [], I) Q ↔ Q (.int (enc (sNr S set N))) I := by
  rw [b24_0]
  exact k24_loop hh H N 0 0 e (by omega) (fun q hq => by cases hq)
theorem k34_loop (hh : isHs h) (H : isH I h S N) : ∀ (k p : Nat), p + k = N →
    (E (d + 2, 34, 4, [.ref h, .int set, .int (sBr S set p), .int (nI p)], [], I) Q ↔ Q (.int (sBr S set N)) I) := by
  intro k
  induction k with
  | zero =>
    intro p hp
    have : p = N := by omega
    subst this
    rw [b34_4 (hs0 hh), H.ppl, if_neg (nI_nlt (Nat.le_refl _) (by have := H.2.1; omega)), b34_39]
  | succ k ih =>
    intro p hp
    have hN := H.2.1
    have hpN : p < N := by omega
    have ih' := ih (p + 1) (by omega)
    rw [b34_4 (hs0 hh), H.ppl, if_pos (nI_lt hpN (by omega)), b34_12]
    by_cases hb : bit set p = 1
    · rw [if_pos hb, b34_21 (hs0 hh) (hs1 hh) (hs2 hh (by omega)), hse hh (by omega)]
      rw [and_iff_right (hs4 hh (by omega)), k17 (hsp hh (by omega)), show I (h + 3 + p) 0 = gK S p from H.g hpN (by decide), show I (h + 3 + p) 3 = gW S p from H.g hpN (by decide), b34_31, b34_33, nI_1]
      have e : sBr S set (p + 1) = sBr S set p + gBr S p := by show _ + (if _ then _ else _) = _; rw [if_pos hb]
      rw [e] at ih'
      exact ih'
    · rw [if_neg hb, b34_33, nI_1]
      have e : sBr S set (p + 1) = sBr S set p := by show _ + (if _ then _ else _) = _; rw [if_neg hb]; exact Int32.add_zero _
      rw [e] at ih'
      exact ih'
theorem k34 (hh : isHs h) (H : isH I h S N) {a b : Value} : E (d + 2, 34, 0, [.ref h, .int set, a, b], [], I) Q ↔ Q (.int (sBr S set N)) I := by
  rw [b34_0]
  exact k34_loop hh H N 0 (by omega)
end KH
