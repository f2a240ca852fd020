/-! an evening of the class -/
theorem lRun_f0 {a b c e : Int32} {st f f' : Nat → Int32} : ∀ n, (lRun a b c e st f' n).1 = (lRun a b c e st f n).1 ∧ ∀ i, i < (lRun a b c e st f n).1 → (lRun a b c e st f' n).2 i = (lRun a b c e st f n).2 i := by
  intro n
  induction n with
  | zero => exact ⟨rfl, fun i hi => absurd hi (Nat.not_lt_zero i)⟩
  | succ n ih =>
    obtain ⟨i1, i2⟩ := ih
    unfold lRun
    generalize lRun a b c e st f n = q at *
    generalize lRun a b c e st f' n = q' at *
    obtain ⟨h, g⟩ := q
    obtain ⟨h', g'⟩ := q'
    dsimp only at i1 i2
    subst i1
    unfold lStep
    dsimp only
    by_cases h1 : st n < -4
    · rw [if_pos h1, if_pos h1]
      by_cases h2 : st n = -33
      · rw [if_pos h2, if_pos h2]
        by_cases h3 : h' < 1
        · rw [if_pos h3, if_pos h3]; exact ⟨rfl, i2⟩
        · rw [if_neg h3, if_neg h3]
          refine ⟨rfl, fun i hi => ?_⟩
          show upd g' _ _ i = upd g _ _ i
          have e1 := i2 (h' - 1) (by omega)
          simp only [e1]
          by_cases hz : i = h' - 1
          · rw [hz, upd_s, upd_s]
          · rw [upd_n hz, upd_n hz]; exact i2 i hi
      · rw [if_neg h2, if_neg h2]
        by_cases h3 : h' < 2
        · rw [if_pos h3, if_pos h3]; exact ⟨rfl, i2⟩
        · rw [if_neg h3, if_neg h3]
          refine ⟨rfl, fun i hi => ?_⟩
          have hi' : i < h' - 1 := hi
          show upd g' _ _ i = upd g _ _ i
          rw [i2 (h' - 1) (by omega), i2 (h' - 2) (by omega)]
          by_cases hz : i = h' - 2
          · rw [hz, upd_s, upd_s]
          · rw [upd_n hz, upd_n hz]; exact i2 i (by omega)
    · rw [if_neg h1, if_neg h1]
      by_cases h3 : h' < 48
      · rw [if_pos h3, if_pos h3]
        refine ⟨rfl, fun i hi => ?_⟩
        have hi' : i < h' + 1 := hi
        show upd g' _ _ i = upd g _ _ i
        by_cases hz : i = h'
        · rw [hz, upd_s, upd_s]
        · rw [upd_n hz, upd_n hz]; exact i2 i (by omega)
      · rw [if_neg h3, if_neg h3]; exact ⟨rfl, i2⟩
/-- what a text of n steps gives -/
def lGive (st : Nat → Int32) (n : Nat) (a b c e : Int32) : Int32 := lRes (lRun a b c e st (fun _ => 0) n)
theorem lGive_f0 {st f : Nat → Int32} {n : Nat} {a b c e : Int32} : lRes (lRun a b c e st f n) = lGive st n a b c e := by
  obtain ⟨h1, h2⟩ := lRun_f0 (a := a) (b := b) (c := c) (e := e) (st := st) (f := fun _ => 0) (f' := f) n
  unfold lGive lRes
  rw [h1]
  by_cases hz : (lRun a b c e st (fun _ => 0) n).1 < 1
  · rw [if_pos hz, if_pos hz]
  · rw [if_neg hz, if_neg hz]
    exact h2 _ (by omega)
abbrev Fn4 : Type := Option (Int32 → Int32 → Int32 → Int32 → Int32)
/-- a law, or null, and what it says -/
def Lw (I : IM) (lv : Value) (A : Fn4) : Prop := (lv = .null ∧ A = none) ∨ ∃ t n : Nat, t < 15 ∧ n ≤ 96 ∧ lv = .ref (48 + 3 * t) ∧ I (48 + 3 * t) 2 = nI n ∧ A = some (fun a b c e => lGive (I (49 + 3 * t)) n a b c e)
/-- a pile of a law -/
def scr (c : Nat) : Prop := ∃ t, t < 15 ∧ c = 50 + 3 * t
/-- only piles of laws have changed -/
def frS (I I' : IM) : Prop := ∀ c, ¬ scr c → I' c = I c
theorem Lw.fr {I I' : IM} {lv : Value} {A : Fn4} (L : Lw I lv A) (e : ∀ c, 48 ≤ c → c < 93 → ¬ scr c → I' c = I c) : Lw I' lv A := by
  rcases L with h | ⟨t, n, h1, h2, h3, h4, h5⟩
  · exact Or.inl h
  · have e1 : I' (48 + 3 * t) = I (48 + 3 * t) := e _ (by omega) (by omega) (by rintro ⟨t', _, h⟩; omega)
    have e2 : I' (49 + 3 * t) = I (49 + 3 * t) := e _ (by omega) (by omega) (by rintro ⟨t', _, h⟩; omega)
    exact Or.inr ⟨t, n, h1, h2, h3, by rw [e1]; exact h4, by rw [e2]; exact h5⟩
theorem Lw.lv {I : IM} {lv : Value} {A : Fn4} (L : Lw I lv A) : aLv lv := by
  rcases L with h | ⟨t, n, h1, h2, h3, h4, h5⟩
  · exact Or.inl h.1
  · exact Or.inr ⟨_, h3, (lw0 h1).1⟩
def cl100 (v : Int32) : Int32 := if 0 < (if 100 < v then 100 else v) then (if 100 < v then 100 else v) else 0
def sPl (A : Fn4) (S : Nat → Int32) (p : Nat) : Int32 := match A with
  | none => gO S p
  | some f => cl100 (f (gO S p) (gW S p) (gT S p) (jBit (S 5)))
def sCm (A : Fn4) (S : Nat → Int32) (p : Nat) : Int32 := gComes (gK S p) (gS S p) (sPl A S p) (jBit (S 5))
section KE
variable {d : Nat} {h N : Nat} {S : Nat → Int32} {A : Fn4} {lv : Value}
theorem k23 {I : IM} (hh : isHs h) (H : isH I h S N) (L : Lw I lv A) {p : Nat} (hp : p < N) {x y : Value} :
    ∃ I', Rn (d + 2, 23, 0, [.ref h, .ref (h + 3 + p), lv, x, y], [], I) (.int (sCm A S p)) I' ∧ frS I I' := by
  have hN := H.2.1
  have hg := hsp hh (p := p) (by omega)
  have e5 : I h 5 = S 5 := H.f (i := 5) (by decide)
  have eg : ∀ j, j < 5 → I (h + 3 + p) j = S (10 + 5 * p + j) := fun j hj => H.g hp hj
  have hk : h ≤ 27 := by rcases hh with e | e | e <;> omega
  rcases L with ⟨rfl, rfl⟩ | ⟨t, n, h1, h2, rfl, h4, rfl⟩
  · refine ⟨I, fun Q => ?_, fun _ _ => rfl⟩
    rw [b23_0n (hs0 hh), k0, b23_7n hg, b23_43n hg, k15 hg, b23_50n, eg 0 (by decide), eg 1 (by decide), eg 2 (by decide), e5]
    exact Iff.rfl
  · obtain ⟨s1, -⟩ := lw0 h1
    obtain ⟨I', r1, r2⟩ := k40 (d := d) (a := I (h + 3 + p) 1) (b := I (h + 3 + p) 3) (c := I (h + 3 + p) 4) (e := jBit (I h 5)) (x := UN) (y := UN) (z := UN) h1 h2 h4
    refine ⟨I', fun Q => ?_, fun c hc => r2 c (fun e => hc ⟨t, h1, e⟩)⟩
    rw [b23_0r (hs0 hh), k0, b23_7r hg (by omega), b23_18r hg s1, r1, b23_35r, b109_0, b23_41r, b23_43r hg, k15 hg, b23_50r, r2 (h + 3 + p) (by omega), eg 0 (by decide), eg 2 (by decide), eg 1 (by decide), eg 3 (by decide), eg 4 (by decide), e5, lGive_f0]
    exact Iff.rfl
def zN (z : Int32) : Int32 := z * 1103515245 + 12345
def zIt (z : Int32) : Nat → Int32
  | 0 => z
  | n + 1 => zN (zIt z n)
theorem k22 {I : IM} {Q : Po} (hh : isHs h) (H : isH I h S N) : E (d, 22, 0, [.ref h], [], I) Q ↔ Q (.int (jUshr (zN (S 9)) 8)) (up I h 10 (zN (S 9))) := by
  rw [b22_0 (hs0 hh), up_s, show I h 10 = S 9 from H.f (i := 9) (by decide)]
  exact Iff.rfl
/-- who comes, of those below p -/
def sSet (A : Fn4) (S : Nat → Int32) : Nat → Int32
  | 0 => 0
  | p + 1 => if jRem (jUshr (zIt (S 9) (p + 1)) 8) 100 < sCm A S p then sSet A S p ||| (1 <<< (nI p &&& 31)) else sSet A S p
/-- nothing but the house h and piles of laws has changed -/
def frE (h : Nat) (M M' : IM) : Prop := ∀ c, c ≠ h → ¬ (h + 3 ≤ c ∧ c < h + 13) → ¬ scr c → M' c = M c
theorem frE.rf {M : IM} : frE h M M := fun _ _ _ _ => rfl
theorem frE.tr {M M1 M2 : IM} (a : frE h M M1) (b : frE h M1 M2) : frE h M M2 := fun c h1 h2 h3 => (b c h1 h2 h3).trans (a c h1 h2 h3)
theorem frE.ofH {M M' : IM} (a : frH h M M') : frE h M M' := fun c h1 h2 _ => a c h1 h2
theorem frE.ofS {M M' : IM} (a : frS M M') : frE h M M' := fun c _ _ h3 => a c h3
theorem scr_ge {c : Nat} (h : scr c) : 50 ≤ c ∧ c < 95 := by obtain ⟨t, h1, h2⟩ := h; omega
theorem isH.frS {M M' : IM} (hh : isHs h) (H : isH M h S N) (e : frS M M') : isH M' h S N := by
  have hk : h < 40 := by rcases hh with e | e | e <;> omega
  refine H.fr (fun c hc => e c (fun q => ?_))
  have := scr_ge q
  rcases hc with z | z
  · omega
  · rcases hh with e | e | e <;> omega
theorem Lw.frE {M M' : IM} (hh : isHs h) (L : Lw M lv A) (e : frE h M M') : Lw M' lv A := by
  refine L.fr (fun c h1 h2 h3 => e c ?_ ?_ h3)
  · rcases hh with e | e | e <;> omega
  · rcases hh with e | e | e <;> omega
theorem sCm_z {z : Int32} {p : Nat} : sCm A (upd S 9 z) p = sCm A S p := by
  have e : ∀ j, upd S 9 z (10 + j) = S (10 + j) := fun j => upd_n (by omega)
  have e5 : upd S 9 z 5 = S 5 := upd_n (by decide)
  unfold sCm sPl gK gO gS gW gT
  rw [e5]
  simp only [Nat.add_assoc, e]
theorem k28_loop (hh : isHs h) : ∀ (k p : Nat) (I : IM), p + k = N → isH I h (upd S 9 (zIt (S 9) p)) N → Lw I lv A →
    ∃ I', Rn (d + 3, 28, 4, [.ref h, lv, .int (sSet A S p), .int (nI p)], [], I) (.int (sSet A S N)) I' ∧ isH I' h (upd S 9 (zIt (S 9) N)) N ∧ frE h I I' := by
  intro k
  induction k with
  | zero =>
    intro p I hp H L
    have : p = N := by omega
    subst this
    refine ⟨I, fun Q => ?_, H, frE.rf⟩
    rw [b28_4m (hs0 hh) L.lv, H.ppl, if_neg (nI_nlt (Nat.le_refl _) (by have := H.2.1; omega)), b28_45m L.lv]
  | succ k ih =>
    intro p I hp H L
    have hN := H.2.1
    have hpN : p < N := by omega
    have H1 : isH (up I h 10 (zN (zIt (S 9) p))) h (upd (upd S 9 (zIt (S 9) p)) 9 (zN (zIt (S 9) p))) N := H.fld (i := 9) (by decide) (by decide) (zN (zIt (S 9) p))
    rw [upd_up] at H1
    have L1 : Lw (up I h 10 (zN (zIt (S 9) p))) lv A := L.frE hh (frE.ofH (frH.wr (Or.inl rfl)))
    obtain ⟨I2, r1, r2⟩ := k23 (d := d) (x := UN) (y := UN) hh H1 L1 hpN
    have H2 := H1.frS hh r2
    obtain ⟨I', q1, q2, q3⟩ := ih (p + 1) I2 (by omega) H2 (L1.frE hh (frE.ofS r2))
    refine ⟨I', fun Q => ?_, q2, ((frE.ofH (frH.wr (Or.inl rfl))).tr (frE.ofS r2)).tr q3⟩
    have ez : upd S 9 (zIt (S 9) p) 9 = zIt (S 9) p := upd_s
    rw [b28_4m (hs0 hh) L.lv, H.ppl, if_pos (nI_lt hpN (by omega)), b28_12m (hs0 hh) L.lv, k22 hh H, ez, b28_16m (hs0 hh) (hs1 hh) L.lv, and_iff_right (show ¬ (100 : Int32) = 0 by decide), and_iff_right (hs4 hh (by omega)), hse hh (by omega)]
    rw [r1, sCm_z, b28_30m L.lv]
    have := q1 Q
    by_cases hc : jRem (jUshr (zN (zIt (S 9) p)) 8) 100 < sCm A S p
    · rw [if_pos hc, b28_33m L.lv, b28_39m L.lv, nI_1]
      have e : sSet A S (p + 1) = sSet A S p ||| (1 <<< (nI p &&& 31)) := if_pos hc
      rw [e] at this
      exact this
    · rw [if_neg hc, b28_39m L.lv, nI_1]
      have e : sSet A S (p + 1) = sSet A S p := if_neg hc
      rw [e] at this
      exact this
theorem k28 {I : IM} (hh : isHs h) (H : isH I h S N) (L : Lw I lv A) {x y : Value} :
    ∃ I', Rn (d + 3, 28, 0, [.ref h, lv, x, y], [], I) (.int (sSet A S N)) I' ∧ isH I' h (upd S 9 (zIt (S 9) N)) N ∧ frE h I I' := by
  obtain ⟨I', r1, r2, r3⟩ := k28_loop (d := d) (S := S) (N := N) hh N 0 I (by omega) (by show isH I h (upd S 9 (S 9)) N; rw [upd_id]; exact H) L
  refine ⟨I', fun Q => ?_, r2, r3⟩
  rw [b28_0m L.lv]
  exact r1 Q
/-- the number that a draw gives -/
def dvN (z : Int32) : Nat := z.toBitVec.toNat / 256
theorem dv_eq (z : Int32) : jUshr z 8 = nI (dvN z) ∧ dvN z < 16777216 := by
  have h := pk_ushr z 8 8 (by decide)
  have hlt : dvN z < 16777216 := by
    have := z.toBitVec.isLt
    unfold dvN
    omega
  refine ⟨?_, hlt⟩
  apply Int32.toBitVec_inj.mp
  apply BitVec.eq_of_toNat_eq
  rw [pk_tn (by omega)]
  exact h
theorem jRem_nI {k n : Nat} (hk : k < 2 ^ 31) (h0 : 0 < n) (hn : n < 2 ^ 31) : jRem (nI k) (nI n) = nI (k % n) := pk_rem hk h0 hn
/-- the fog -/
def sFog (S : Nat → Int32) (N : Nat) : Nat → Int32 :=
  if jRem (jUshr (zN (S 9)) 8) 100 < S 4 ∧ 0 < N then upd (upd S 9 (zN (zN (zN (S 9))))) (10 + 5 * (dvN (zN (zN (S 9))) % N) + 2) (jRem (jUshr (zN (zN (zN (S 9)))) 8) 100) else upd S 9 (zN (S 9))
theorem k29 {I : IM} (hh : isHs h) (H : isH I h S N) {x : Value} :
    ∃ I', Rn (d + 1, 29, 0, [.ref h, x], [], I) .null I' ∧ isH I' h (sFog S N) N ∧ frH h I I' := by
  have hN := H.2.1
  have H1 : isH (up I h 10 (zN (S 9))) h (upd S 9 (zN (S 9))) N := H.fld (i := 9) (by decide) (by decide) (zN (S 9))
  have e4 : up I h 10 (zN (S 9)) h 4 = S 4 := (H1.f (i := 4) (by decide)).trans (upd_n (by decide))
  have e2 : up I h 10 (zN (S 9)) h 2 = nI N := H1.ppl
  by_cases hc : jRem (jUshr (zN (S 9)) 8) 100 < S 4
  · by_cases h0 : 0 < N
    · have H2 : isH (up (up I h 10 (zN (S 9))) h 10 (zN (zN (S 9)))) h (upd (upd S 9 (zN (S 9))) 9 (zN (zN (S 9)))) N := H1.fld (i := 9) (by decide) (by decide) (zN (zN (S 9)))
      have H3 : isH (up (up (up I h 10 (zN (S 9))) h 10 (zN (zN (S 9)))) h 10 (zN (zN (zN (S 9))))) h (upd (upd (upd S 9 (zN (S 9))) 9 (zN (zN (S 9)))) 9 (zN (zN (zN (S 9))))) N := H2.fld (i := 9) (by decide) (by decide) (zN (zN (zN (S 9))))
      rw [upd_up] at H2
      rw [upd_up, upd_up] at H3
      have hw : dvN (zN (zN (S 9))) % N < N := Nat.mod_lt _ h0
      have H4 := H3.gst hw (j := 2) (by decide) (jRem (jUshr (zN (zN (zN (S 9)))) 8) 100)
      refine ⟨up (up (up (up I h 10 (zN (S 9))) h 10 (zN (zN (S 9)))) h 10 (zN (zN (zN (S 9))))) (h + 3 + dvN (zN (zN (S 9))) % N) 2 (jRem (jUshr (zN (zN (zN (S 9)))) 8) 100), fun Q => ?_, by unfold sFog; rw [if_pos ⟨hc, h0⟩]; exact H4, (((frH.wr (Or.inl rfl)).tr (frH.wr (Or.inl rfl))).tr (frH.wr (Or.inl rfl))).tr (frH.wr (Or.inr (by omega)))⟩
      · have ez1 : upd S 9 (zN (S 9)) 9 = zN (S 9) := upd_s
        have ez2 : upd S 9 (zN (zN (S 9))) 9 = zN (zN (S 9)) := upd_s
        have ej : jRem (jUshr (zN (zN (S 9))) 8) (nI N) = nI (dvN (zN (zN (S 9))) % N) := by
          rw [(dv_eq _).1]
          exact jRem_nI (by have := (dv_eq (zN (zN (S 9)))).2; omega) h0 (by omega)
        have e22 : up (up I h 10 (zN (S 9))) h 10 (zN (zN (S 9))) h 2 = nI N := H2.ppl
        rw [b29_0 (hs0 hh), k22 hh H, b29_4 (hs0 hh), and_iff_right (show ¬ (100 : Int32) = 0 by decide), e4, if_pos hc, b29_14 (hs0 hh), e2, if_pos (show (0 : Int32) < nI N from by rw [← nI_0]; exact nI_lt h0 (by omega)), b29_21 (hs0 hh), k22 hh H1, ez1, b29_25 (hs0 hh) (hs1 hh), e22, ej]
        rw [and_iff_right (nI_ne0 h0 (by omega)), and_iff_right (hs4 hh (by omega)), hse hh (by omega), k22 hh H2, ez2, b29_41 (hsp hh (by omega)), and_iff_right (show ¬ (100 : Int32) = 0 by decide), b29_47]
    · refine ⟨_, fun Q => ?_, ?_, frH.wr (c := h) (k := 10) (v := zN (S 9)) (Or.inl rfl)⟩
      · rw [b29_0 (hs0 hh), k22 hh H, b29_4 (hs0 hh), and_iff_right (show ¬ (100 : Int32) = 0 by decide), e4, if_pos hc, b29_14 (hs0 hh), e2, if_neg (show ¬ (0 : Int32) < nI N from by rw [← nI_0]; exact nI_nlt (by omega) (by omega)), b29_47]
      · unfold sFog
        rw [if_neg (fun q => h0 q.2)]
        exact H1
  · refine ⟨_, fun Q => ?_, ?_, frH.wr (c := h) (k := 10) (v := zN (S 9)) (Or.inl rfl)⟩
    · rw [b29_0 (hs0 hh), k22 hh H, b29_4 (hs0 hh), and_iff_right (show ¬ (100 : Int32) = 0 by decide), e4, if_neg hc, b29_47]
    · unfold sFog
      rw [if_neg (fun q => hc q.1)]
      exact H1
/-- an evening -/
def sEve (A : Fn4) (N : Nat) (S : Nat → Int32) : Nat → Int32 :=
  upd (sFog (sDine (upd S 9 (zIt (S 9) N)) N (sSet A S N)) N) 2 (sFog (sDine (upd S 9 (zIt (S 9) N)) N (sSet A S N)) N 2 + 1)
def sPass (A : Fn4) (N : Nat) (S : Nat → Int32) : Nat → (Nat → Int32)
  | 0 => S
  | n + 1 => sEve A N (sPass A N S n)
theorem b27_37v {l0 : Nat} {l1 : Int32} {l2 : Value} {l3 : Int32} {I : IM} {Q : Po} (hl : aLv l2) : E (d, 27, 37, [.ref l0, .int l1, l2, .int l3], [], I) Q ↔ Q .null I := hl.elim (fun e => by subst e; exact b27_37n) (fun ⟨c, e, _⟩ => by subst e; exact b27_37r)
theorem k27_loop (hh : isHs h) {ev : Int32} : ∀ (k i : Nat) (I : IM), i + k = ev.toNatClampNeg → isH I h (sPass A N S i) N → Lw I lv A →
    ∃ I', Rn (d + 5, 27, 2, [.ref h, .int ev, lv, .int (nI i)], [], I) .null I' ∧ isH I' h (sPass A N S ev.toNatClampNeg) N ∧ frE h I I' := by
  have hev : ∀ i, i < 2 ^ 31 → (nI i < ev ↔ i < ev.toNatClampNeg) := by
    intro i hi
    rw [Int32.lt_iff_toInt_lt, nI_toInt hi]
    show (i : Int) < ev.toInt ↔ i < ev.toInt.toNat
    omega
  have hb : ev.toNatClampNeg < 2 ^ 31 := by
    show ev.toInt.toNat < 2 ^ 31
    have := Int32.toInt_lt ev
    omega
  intro k
  induction k with
  | zero =>
    intro i I hi H L
    have e : i = ev.toNatClampNeg := by omega
    refine ⟨I, fun Q => ?_, by rw [← e]; exact H, frE.rf⟩
    rw [b27_2m L.lv, if_neg (fun q => by have := (hev i (by omega)).mp q; omega), b27_37v L.lv]
  | succ k ih =>
    intro i I hi H L
    obtain ⟨I1, a1, a2, a3⟩ := k28 (d := d + 1) (x := UN) (y := UN) hh H L
    have L1 := L.frE hh a3
    obtain ⟨I2, c1, c2, c3⟩ := k25 (d := d) (set := sSet A (sPass A N S i) N) (a := UN) (b := UN) (c := UN) hh a2
    have L2 := L1.frE hh (frE.ofH c3)
    obtain ⟨I3, e1, e2, e3⟩ := k29 (d := d + 3) (x := UN) hh c2
    have L3 := L2.frE hh (frE.ofH e3)
    have H4 : isH (up I3 h 9 (sFog (sDine (upd (sPass A N S i) 9 (zIt (sPass A N S i 9) N)) N (sSet A (sPass A N S i) N)) N 2 + 1)) h (sPass A N S (i + 1)) N := e2.fld (i := 2) (by decide) (by decide) (sFog (sDine (upd (sPass A N S i) 9 (zIt (sPass A N S i 9) N)) N (sSet A (sPass A N S i) N)) N 2 + 1)
    have f4 : frE h I3 (up I3 h 9 (sFog (sDine (upd (sPass A N S i) 9 (zIt (sPass A N S i 9) N)) N (sSet A (sPass A N S i) N)) N 2 + 1)) := frE.ofH (frH.wr (Or.inl rfl))
    obtain ⟨I', q1, q2, q3⟩ := ih (i + 1) _ (by omega) H4 (L3.frE hh f4)
    refine ⟨I', fun Q => ?_, q2, (((a3.tr (frE.ofH c3)).tr (frE.ofH e3)).tr f4).tr q3⟩
    rw [b27_2m L.lv, if_pos ((hev i (by omega)).mpr (by omega)), b27_7m (hs0 hh) L.lv, a1, b27_13m (hs0 hh) L.lv, c1, b27_16m (hs0 hh) L.lv, e1, b27_21m (hs0 hh) L.lv, show I3 h 9 = _ from e2.f (i := 2) (by decide), nI_1]
    exact q1 Q
/-- so many evenings pass -/
theorem k27 {I : IM} (hh : isHs h) (H : isH I h S N) (L : Lw I lv A) {ev : Int32} {x : Value} :
    ∃ I', Rn (d + 5, 27, 0, [.ref h, .int ev, lv, x], [], I) .null I' ∧ isH I' h (sPass A N S ev.toNatClampNeg) N ∧ frE h I I' := by
  obtain ⟨I', r1, r2, r3⟩ := k27_loop (d := d) (S := S) (ev := ev) hh ev.toNatClampNeg 0 I (by omega) H L
  refine ⟨I', fun Q => ?_, r2, r3⟩
  rw [b27_0m L.lv]
  exact r1 Q
end KE
