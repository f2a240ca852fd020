/-! a dinner -/
def Rn (s : St) (r : Value) (I' : IM) : Prop := ∀ Q : Po, E s Q ↔ Q r I'
def jBit (x : Int32) : Int32 :=
  let a := x - (jUshr x 1 &&& 1431655765)
  let b := (a &&& 858993459) + (jUshr a 2 &&& 858993459)
  let c := (b + jUshr b 4) &&& 252645135
  let e := c + jUshr c 8
  (e + jUshr e 16) &&& 63
theorem k0 {d : Nat} {x : Int32} {I : IM} {Q : Po} : E (d, 0, 0, [.int x], [], I) Q ↔ Q (.int (jBit x)) I := b0_0
theorem upd_s {f : Nat → Int32} {i : Nat} {v : Int32} : upd f i v i = v := if_pos rfl
theorem upd_n {f : Nat → Int32} {i j : Nat} {v : Int32} (h : j ≠ i) : upd f i v j = f j := if_neg h
theorem upd_id {f : Nat → Int32} {i : Nat} : upd f i (f i) = f := by
  funext j
  by_cases h : j = i
  · rw [h, upd_s]
  · rw [upd_n h]
theorem upd_idv {f : Nat → Int32} {i : Nat} {v : Int32} (h : f i = v) : upd f i v = f := by rw [← h]; exact upd_id
theorem upd_cm {f : Nat → Int32} {i j : Nat} {v w : Int32} (h : i ≠ j) : upd (upd f i v) j w = upd (upd f j w) i v := by
  funext k
  unfold upd
  by_cases h1 : k = j
  · by_cases h2 : k = i
    · omega
    · rw [if_pos h1, if_neg h2, if_pos h1]
  · by_cases h2 : k = i
    · rw [if_neg h1, if_pos h2, if_pos h2]
    · rw [if_neg h1, if_neg h2, if_neg h2, if_neg h1]
theorem upd_up {f : Nat → Int32} {i : Nat} {v w : Int32} : upd (upd f i v) i w = upd f i w := by
  funext k
  unfold upd
  by_cases h1 : k = i
  · rw [if_pos h1, if_pos h1]
  · rw [if_neg h1, if_neg h1, if_neg h1]
def sOdds (S : Nat → Int32) (sit : Int32) (p : Nat) : Int32 := if bit sit p = 1 then (if 100 < gO S p + 2 then 100 else gO S p + 2) else (if gO S p - 1 < 0 then 0 else gO S p - 1)
def sTim (S : Nat → Int32) (sit : Int32) (p : Nat) : Int32 := if bit sit p = 1 then (if 9999 < gT S p + 1 then 9999 else gT S p + 1) else gT S p
/-- the guests below n behind a dinner -/
def sAft (S : Nat → Int32) (sit : Int32) : Nat → (Nat → Int32)
  | 0 => S
  | p + 1 => upd (upd (sAft S sit p) (10 + 5 * p + 1) (sOdds S sit p)) (10 + 5 * p + 4) (sTim S sit p)
theorem sAft_lo {S : Nat → Int32} {sit : Int32} {i : Nat} (h : i < 10) : ∀ n, sAft S sit n i = S i := by
  intro n
  induction n with
  | zero => rfl
  | succ p ih => unfold sAft; rw [upd_n (by omega), upd_n (by omega)]; exact ih
theorem sAft_hi {S : Nat → Int32} {sit : Int32} {i : Nat} : ∀ n, 10 + 5 * n ≤ i → sAft S sit n i = S i := by
  intro n
  induction n with
  | zero => intro _; rfl
  | succ p ih => intro h; unfold sAft; rw [upd_n (by omega), upd_n (by omega)]; exact ih (by omega)
theorem sAft_at {S : Nat → Int32} {sit : Int32} {q j : Nat} (hj : j < 5) : ∀ n, sAft S sit n (10 + 5 * q + j) = if q < n then (if j = 1 then sOdds S sit q else if j = 4 then sTim S sit q else S (10 + 5 * q + j)) else S (10 + 5 * q + j) := by
  intro n
  induction n with
  | zero => rw [if_neg (by omega)]; rfl
  | succ p ih =>
    unfold sAft
    by_cases hq : q = p
    · subst hq
      rw [if_pos (by omega)]
      by_cases h4 : j = 4
      · subst h4; rw [upd_s]; rfl
      · rw [upd_n (by omega)]
        by_cases h1 : j = 1
        · subst h1; rw [upd_s]; rfl
        · rw [upd_n (by omega), ih, if_neg (by omega), if_neg h1, if_neg h4]
    · rw [upd_n (by omega), upd_n (by omega), ih]
      by_cases h1 : q < p
      · rw [if_pos h1, if_pos (show q < p + 1 by omega)]
      · rw [if_neg h1, if_neg (show ¬ q < p + 1 by omega)]
theorem sAft_upd {S : Nat → Int32} {sit : Int32} {i : Nat} {v : Int32} (h : i < 10) : ∀ n, sAft (upd S i v) sit n = upd (sAft S sit n) i v := by
  intro n
  induction n with
  | zero => rfl
  | succ p ih =>
    have e1 : sOdds (upd S i v) sit p = sOdds S sit p := by
      unfold sOdds gO
      rw [upd_n (show 10 + 5 * p + 1 ≠ i by omega)]
    have e2 : sTim (upd S i v) sit p = sTim S sit p := by
      unfold sTim gT
      rw [upd_n (show 10 + 5 * p + 4 ≠ i by omega)]
    show upd (upd (sAft (upd S i v) sit p) _ (sOdds (upd S i v) sit p)) _ (sTim (upd S i v) sit p) = upd (upd (upd (sAft S sit p) _ _) _ _) i v
    rw [ih, e1, e2, upd_cm (show i ≠ 10 + 5 * p + 1 by omega), upd_cm (show i ≠ 10 + 5 * p + 4 by omega)]
theorem sBr_cg {S S' : Nat → Int32} {set : Int32} : ∀ n, (∀ p, p < n → gK S' p = gK S p ∧ gW S' p = gW S p) → sBr S' set n = sBr S set n := by
  intro n
  induction n with
  | zero => intro _; rfl
  | succ p ih =>
    intro h
    show sBr S' set p + _ = sBr S set p + _
    rw [ih (fun q hq => h q (by omega))]
    have := h p (by omega)
    unfold gBr
    rw [this.1, this.2]
theorem sNr_cg {S S' : Nat → Int32} {set : Int32} : ∀ n, (∀ p, p < n → gK S' p = gK S p ∧ gS S' p = gS S p) → sNr S' set n = sNr S set n := by
  intro n
  induction n with
  | zero => intro _; rfl
  | succ p ih =>
    intro h
    have e := ih (fun q hq => h q (by omega))
    have w : ∀ q, q < p + 1 → gWa S' q = gWa S q := fun q hq => by unfold gWa; rw [(h q hq).1, (h q hq).2]
    unfold sNr
    rw [e]
    by_cases hb : bit set p = 0
    · rw [if_pos hb, if_pos hb]
      cases ho : sNr S set p with
      | none => rfl
      | some q =>
        have hq := sNr_lt S set p q ho
        dsimp only
        rw [w p (by omega), w q (by omega)]
    · rw [if_neg hb, if_neg hb]
/-- who sits, of those who came -/
def sSit (S : Nat → Int32) (N : Nat) (set : Int32) : Int32 := if jBit set = S 3 then (match sNr S set N with
  | none => set
  | some q => set ||| (1 <<< (nI q &&& 31))) else set
def sCnt (S : Nat → Int32) (N : Nat) (set : Int32) : Nat → Int32 := if jBit set = S 3 then (match sNr S set N with
  | none => upd S 8 (S 8 + 1)
  | some _ => upd S 7 (S 7 + 1)) else S
def sTalk (S : Nat → Int32) (b : Int32) : Int32 := if 99999 < S 6 + b then 99999 else S 6 + b
/-- a dinner -/
def sDine (S : Nat → Int32) (N : Nat) (set : Int32) : Nat → Int32 :=
  upd (upd (sAft (sCnt S N set) (sSit S N set) N) 6 (sTalk S (sBr S (sSit S N set) N))) 5 (sSit S N set)
theorem sCnt_at {S : Nat → Int32} {N : Nat} {set : Int32} {i : Nat} (h7 : i ≠ 7) (h8 : i ≠ 8) : sCnt S N set i = S i := by
  unfold sCnt
  by_cases h : jBit set = S 3
  · rw [if_pos h]
    cases sNr S set N with
    | none => exact upd_n h8
    | some q => exact upd_n h7
  · rw [if_neg h]
section KD
variable {d : Nat} {h N : Nat} {S : Nat → Int32} {set sit : Int32}
theorem k25_loop (hh : isHs h) : ∀ (k p : Nat) (I : IM) (w : Value), p + k = N → S 5 = sit → isH I h (sAft S sit p) N →
    ∃ I', Rn (d + 3, 25, 28, [.ref h, .int set, .int (sBr S sit p), .int (nI p), w], [], I) (.int (sBr S sit N)) I' ∧ isH I' h (upd (sAft S sit N) 6 (sTalk S (sBr S sit N))) N ∧ frH h I I' := by
  intro k
  induction k with
  | zero =>
    intro p I w hp h5 H
    have : p = N := by omega
    subst this
    refine ⟨up I h 6 (sTalk S (sBr S sit p)), fun Q => ?_, H.fld (i := 6) (by decide) (by decide) _, frH.wr (Or.inl rfl)⟩
    rw [b25_28 (hs0 hh), H.ppl, if_neg (nI_nlt (Nat.le_refl _) (by have := H.2.1; omega)), b25_124 (hs0 hh)]
    have e : I h 6 = S 6 := (H.f (i := 6) (by decide)).trans (sAft_lo (by decide) p)
    rw [e]
    exact Iff.rfl
  | succ k ih =>
    intro p I w hp h5 H
    have hN := H.2.1
    have hpN : p < N := by omega
    have e5 : I h 5 = sit := ((H.f (i := 5) (by decide)).trans (sAft_lo (by decide) p)).trans h5
    have eg : ∀ j, j < 5 → I (h + 3 + p) j = S (10 + 5 * p + j) := fun j hj => (H.g hpN hj).trans (sAft_hi p (by omega))
    have start : ∀ Q : Po, E (d + 3, 25, 28, [.ref h, .int set, .int (sBr S sit p), .int (nI p), w], [], I) Q ↔ if bit sit p = 1 then E (d + 3, 25, 56, [.ref h, .int set, .int (sBr S sit p), .int (nI p), .ref (h + 3 + p)], [], I) Q else E (d + 3, 25, 102, [.ref h, .int set, .int (sBr S sit p), .int (nI p), .ref (h + 3 + p)], [], I) Q := by
      intro Q
      rw [b25_28 (hs0 hh), H.ppl, if_pos (nI_lt hpN (by omega)), b25_36 (hs0 hh) (hs1 hh), and_iff_right (hs4 hh (by omega)), hse hh (by omega), e5]
    by_cases hb : bit sit p = 1
    · have H1 := H.gst hpN (j := 1) (by decide) (sOdds S sit p)
      have H2 := H1.gst hpN (j := 4) (by decide) (sTim S sit p)
      obtain ⟨I', r1, r2, r3⟩ := ih (p + 1) (up (up I (h + 3 + p) 1 (sOdds S sit p)) (h + 3 + p) 4 (sTim S sit p)) (.ref (h + 3 + p)) (by omega) h5 H2
      refine ⟨I', fun Q => ?_, r2, ((frH.wr (Or.inr (by omega))).tr (frH.wr (Or.inr (by omega)))).tr r3⟩
      rw [start Q, if_pos hb, b25_56 (hsp hh (by omega))]
      have o1 : (if 100 < I (h + 3 + p) 1 + 2 then 100 else I (h + 3 + p) 1 + 2) = sOdds S sit p := by
        unfold sOdds; rw [if_pos hb, eg 1 (by decide)]
      have t1 : (if 9999 < (up I (h + 3 + p) 1 (sOdds S sit p)) (h + 3 + p) 4 + 1 then 9999 else (up I (h + 3 + p) 1 (sOdds S sit p)) (h + 3 + p) 4 + 1) = sTim S sit p := by
        unfold sTim; rw [if_pos hb, up_k (by decide), eg 4 (by decide)]
      rw [o1, t1, k17 (hsp hh (by omega)), up_k (by decide), up_k (by decide), up_k (by decide), up_k (by decide), eg 0 (by decide), eg 3 (by decide), b25_97, b25_118, nI_1]
      have e : sBr S sit (p + 1) = sBr S sit p + gBr S p := by show _ + (if _ then _ else _) = _; rw [if_pos hb]
      have := r1 Q
      rw [e] at this
      exact this
    · have H1 := H.gst hpN (j := 1) (by decide) (sOdds S sit p)
      have et : sTim S sit p = upd (sAft S sit p) (10 + 5 * p + 1) (sOdds S sit p) (10 + 5 * p + 4) := by
        rw [upd_n (by omega), sAft_hi p (by omega)]
        unfold sTim; rw [if_neg hb]
      have H2 : isH (up I (h + 3 + p) 1 (sOdds S sit p)) h (sAft S sit (p + 1)) N := by
        unfold sAft
        rw [et, upd_id]
        exact H1
      obtain ⟨I', r1, r2, r3⟩ := ih (p + 1) (up I (h + 3 + p) 1 (sOdds S sit p)) (.ref (h + 3 + p)) (by omega) h5 H2
      refine ⟨I', fun Q => ?_, r2, (frH.wr (Or.inr (by omega))).tr r3⟩
      rw [start Q, if_neg hb, b25_102 (hsp hh (by omega))]
      have o1 : (if I (h + 3 + p) 1 - 1 < 0 then 0 else I (h + 3 + p) 1 - 1) = sOdds S sit p := by
        unfold sOdds; rw [if_neg hb, eg 1 (by decide)]
      rw [o1, b25_118, nI_1]
      have e : sBr S sit (p + 1) = sBr S sit p := by show _ + (if _ then _ else _) = _; rw [if_neg hb]; exact Int32.add_zero _
      have := r1 Q
      rw [e] at this
      exact this
theorem k25 (hh : isHs h) {I : IM} (H : isH I h S N) {a b c : Value} :
    ∃ I', Rn (d + 4, 25, 0, [.ref h, .int set, a, b, c], [], I) (.int (sBr S (sSit S N set) N)) I' ∧ isH I' h (sDine S N set) N ∧ frH h I I' := by
  have hst : ∀ q, sNr S set N = some q → q < 2 ^ 31 := fun q hq => by have := sNr_lt S set N q hq; have := H.2.1; omega
  -- up to the loop
  have pre : ∃ I1, (∀ Q : Po, E (d + 4, 25, 0, [.ref h, .int set, a, b, c], [], I) Q ↔ E (d + 4, 25, 28, [.ref h, .int set, .int 0, .int 0, c], [], I1) Q) ∧ isH I1 h (upd (sCnt S N set) 5 (sSit S N set)) N ∧ frH h I I1 := by
    have e3 : I h 3 = S 3 := H.f (i := 3) (by decide)
    by_cases hj : jBit set = S 3
    · cases ho : sNr S set N with
      | none =>
        have es : sSit S N set = set := by unfold sSit; rw [if_pos hj, ho]
        have ec : sCnt S N set = upd S 8 (S 8 + 1) := by unfold sCnt; rw [if_pos hj, ho]
        have H1 := H.fld (i := 8) (by decide) (by decide) (S 8 + 1)
        have H2 := H1.fld (i := 5) (by decide) (by decide) set
        refine ⟨_, fun Q => ?_, by rw [es, ec]; exact H2, (frH.wr (Or.inl rfl)).tr (frH.wr (Or.inl rfl))⟩
        rw [b25_0, k0, b25_5 (hs0 hh), e3, if_pos hj, b25_12 (hs0 hh), b26_0 (hs0 hh), k24 hh H, ho, b26_5, if_pos (show enc none < 0 by decide), b26_10 (hs0 hh), show I h 8 = S 8 from H.f (i := 8) (by decide), b25_17, b25_21 (hs0 hh)]
        exact Iff.rfl
      | some q =>
        have es : sSit S N set = set ||| (1 <<< (nI q &&& 31)) := by unfold sSit; rw [if_pos hj, ho]
        have ec : sCnt S N set = upd S 7 (S 7 + 1) := by unfold sCnt; rw [if_pos hj, ho]
        have H1 := H.fld (i := 7) (by decide) (by decide) (S 7 + 1)
        have H2 := H1.fld (i := 5) (by decide) (by decide) (set ||| (1 <<< (nI q &&& 31)))
        refine ⟨_, fun Q => ?_, by rw [es, ec]; exact H2, (frH.wr (Or.inl rfl)).tr (frH.wr (Or.inl rfl))⟩
        rw [b25_0, k0, b25_5 (hs0 hh), e3, if_pos hj, b25_12 (hs0 hh), b26_0 (hs0 hh), k24 hh H, ho, b26_5, if_neg (show ¬ enc (some q) < 0 from nI_pos (hst q ho)), b26_22 (hs0 hh), show I h 7 = S 7 from H.f (i := 7) (by decide), b25_17, b25_21 (hs0 hh)]
        exact Iff.rfl
    · have es : sSit S N set = set := by unfold sSit; rw [if_neg hj]
      have ec : sCnt S N set = S := by unfold sCnt; rw [if_neg hj]
      have H2 := H.fld (i := 5) (by decide) (by decide) set
      refine ⟨_, fun Q => ?_, by rw [es, ec]; exact H2, frH.wr (Or.inl rfl)⟩
      rw [b25_0, k0, b25_5 (hs0 hh), e3, if_neg hj, b25_20, b25_21 (hs0 hh)]
      exact Iff.rfl
  obtain ⟨I1, p1, p2, p3⟩ := pre
  obtain ⟨I', r1, r2, r3⟩ := k25_loop (d := d + 1) (set := set) (sit := sSit S N set) hh N 0 I1 c (by omega) upd_s p2
  have eb : sBr (upd (sCnt S N set) 5 (sSit S N set)) (sSit S N set) N = sBr S (sSit S N set) N := sBr_cg N (fun p hp => by
    unfold gK gW
    rw [upd_n (by omega), upd_n (by omega), sCnt_at (by omega) (by omega), sCnt_at (by omega) (by omega)]
    exact ⟨rfl, rfl⟩)
  refine ⟨I', fun Q => ?_, ?_, p3.tr r3⟩
  · rw [p1 Q]
    have := r1 Q
    rw [eb] at this
    exact this
  · rw [eb] at r2
    have et : sTalk (upd (sCnt S N set) 5 (sSit S N set)) (sBr S (sSit S N set) N) = sTalk S (sBr S (sSit S N set) N) := by
      unfold sTalk
      rw [upd_n (by decide), sCnt_at (by decide) (by decide)]
    rw [et, sAft_upd (by decide), upd_cm (by decide)] at r2
    exact r2
end KD
