/-! the reference's evenings; bounds are kept -/
theorem grB : ∀ k, k ≤ 5 → ∀ w, w ≤ 99 → gBrings (nI k) (nI w) = nI (gBrings (nI k) (nI w)).toNatClampNeg ∧ (gBrings (nI k) (nI w)).toNatClampNeg ≤ 28 := by decide +kernel
theorem sBr_bd {S : Nat → Int32} {set : Int32} : ∀ n, (∀ p, p < n → bdG S p) → ∃ m, m ≤ 28 * n ∧ sBr S set n = nI m := by
  intro n
  induction n with
  | zero => intro _; exact ⟨0, by omega, nI_0.symm⟩
  | succ p ih =>
    intro h
    obtain ⟨m, m1, m2⟩ := ih (fun q hq => h q (by omega))
    obtain ⟨⟨k, k1, k2⟩, -, -, ⟨w, w1, w2⟩, -⟩ := h p (by omega)
    obtain ⟨g1, g2⟩ := grB k k1 w w1
    by_cases hb : bit set p = 1
    · refine ⟨m + (gBrings (nI k) (nI w)).toNatClampNeg, by omega, ?_⟩
      show sBr S set p + (if _ then _ else _) = _
      rw [if_pos hb, m2]
      unfold gBr
      rw [k2, w2, g1, nI_add, ← g1]
    · refine ⟨m, by omega, ?_⟩
      show sBr S set p + (if _ then _ else _) = _
      rw [if_neg hb, Int32.add_zero, m2]
theorem sNr_set {S : Nat → Int32} {set : Int32} {N : Nat} (hN : N ≤ 10) (hs : isSet set) : isSet (sSit S N set) := by
  unfold sSit
  by_cases hj : jBit set = S 3
  · rw [if_pos hj]
    cases ho : sNr S set N with
    | none => exact hs
    | some q => exact hs.or (by have := sNr_lt S set N q ho; omega)
  · rw [if_neg hj]; exact hs
theorem sSet_set {A : Fn4} {S : Nat → Int32} : ∀ n, n ≤ 10 → isSet (sSet A S n) := by
  intro n
  induction n with
  | zero => intro _; exact isSet0
  | succ p ih =>
    intro h
    have i1 := ih (by omega)
    unfold sSet
    by_cases hc : jRem (jUshr (zIt (S 9) (p + 1)) 8) 100 < sCm A S p
    · rw [if_pos hc]; exact i1.or (by omega)
    · rw [if_neg hc]; exact i1
theorem od2N : ∀ k, k ≤ 100 → (if 100 < nI k + 2 then 100 else nI k + 2) = nI (if 100 < nI k + 2 then 100 else nI k + 2 : Int32).toNatClampNeg ∧ (if 100 < nI k + 2 then 100 else nI k + 2 : Int32).toNatClampNeg ≤ 100 ∧ (if nI k - 1 < 0 then 0 else nI k - 1) = nI (if nI k - 1 < 0 then 0 else nI k - 1 : Int32).toNatClampNeg ∧ (if nI k - 1 < 0 then 0 else nI k - 1 : Int32).toNatClampNeg ≤ 100 := by decide +kernel
theorem sTim_bd {S : Nat → Int32} {sit : Int32} {p : Nat} (h : ∃ k, k ≤ 9999 ∧ gT S p = nI k) : ∃ k, k ≤ 9999 ∧ sTim S sit p = nI k := by
  obtain ⟨k, k1, k2⟩ := h
  unfold sTim
  rw [k2]
  by_cases hb : bit sit p = 1
  · rw [if_pos hb, nI_1]
    by_cases h9 : (9999 : Int32) < nI (k + 1)
    · rw [if_pos h9]; exact ⟨9999, by decide, by decide⟩
    · rw [if_neg h9]
      refine ⟨k + 1, ?_, rfl⟩
      rcases Nat.lt_or_ge 9999 (k + 1) with z | z
      · exact absurd (show nI 9999 < nI (k + 1) from nI_lt z (by omega)) h9
      · exact z
  · rw [if_neg hb]; exact ⟨k, k1, rfl⟩
theorem sOdds_bd {S : Nat → Int32} {sit : Int32} {p : Nat} (h : ∃ k, k ≤ 100 ∧ gO S p = nI k) : ∃ k, k ≤ 100 ∧ sOdds S sit p = nI k := by
  obtain ⟨k, k1, k2⟩ := h
  obtain ⟨a1, a2, a3, a4⟩ := od2N k k1
  unfold sOdds
  rw [k2]
  by_cases hb : bit sit p = 1
  · rw [if_pos hb]; exact ⟨_, a2, a1⟩
  · rw [if_neg hb]; exact ⟨_, a4, a3⟩
theorem sTalk_bd {S : Nat → Int32} {b : Int32} (h : ∃ k, k ≤ 99999 ∧ S 6 = nI k) (hb : ∃ m, m ≤ 1000 ∧ b = nI m) : ∃ k, k ≤ 99999 ∧ sTalk S b = nI k := by
  obtain ⟨k, k1, k2⟩ := h
  obtain ⟨m, m1, rfl⟩ := hb
  unfold sTalk
  rw [k2, nI_add]
  by_cases h9 : (99999 : Int32) < nI (k + m)
  · rw [if_pos h9]; exact ⟨99999, by decide, by decide⟩
  · rw [if_neg h9]
    refine ⟨k + m, ?_, rfl⟩
    rcases Nat.lt_or_ge 99999 (k + m) with z | z
    · exact absurd (show nI 99999 < nI (k + m) from nI_lt z (by omega)) h9
    · exact z
theorem bd_dine {S : Nat → Int32} {N : Nat} {set : Int32} (B : bd S N) (hs : isSet set) : bd (sDine S N set) N := by
  have C := bd_cnt (set := set) B
  obtain ⟨b0, b1, b2, b3, bg⟩ := B
  obtain ⟨c0, c1, c2, c3, cg⟩ := C
  obtain ⟨m, m1, m2⟩ := sBr_bd (set := sSit S N set) N bg
  have at_ : ∀ i, i ≠ 5 → i ≠ 6 → sDine S N set i = sAft (sCnt S N set) (sSit S N set) N i := fun i h5 h6 => by unfold sDine; rw [upd_n h5, upd_n h6]
  refine ⟨?_, b1, ?_, ?_, fun p hp => ?_⟩
  · rw [at_ 0 (by decide) (by decide), sAft_lo (by decide)]; exact c0
  · unfold sDine; rw [upd_s]; exact sNr_set b1 hs
  · unfold sDine; rw [upd_n (by decide), upd_s]; exact sTalk_bd b3 ⟨m, by omega, m2⟩
  · obtain ⟨g1, g2, g3, g4, g5⟩ := cg p hp
    have e : ∀ j, j < 5 → sDine S N set (10 + 5 * p + j) = (if j = 1 then sOdds (sCnt S N set) (sSit S N set) p else if j = 4 then sTim (sCnt S N set) (sSit S N set) p else sCnt S N set (10 + 5 * p + j)) := fun j hj => by
      rw [at_ _ (by omega) (by omega), sAft_at hj N, if_pos hp]
    refine ⟨?_, ?_, ?_, ?_, ?_⟩
    · have := e 0 (by decide); unfold gK; rw [show 10 + 5 * p = 10 + 5 * p + 0 from rfl, this]; exact g1
    · unfold gO; rw [e 1 (by decide)]; exact sOdds_bd g2
    · unfold gS; rw [e 2 (by decide)]; exact g3
    · unfold gW; rw [e 3 (by decide)]; exact g4
    · unfold gT; rw [e 4 (by decide)]; exact sTim_bd g5
theorem bd_z {S : Nat → Int32} {N : Nat} {i : Nat} {v : Int32} (B : bd S N) (h : i = 1 ∨ i = 2 ∨ i = 3 ∨ i = 4 ∨ i = 7 ∨ i = 8 ∨ i = 9) : bd (upd S i v) N := by
  obtain ⟨b0, b1, b2, b3, bg⟩ := B
  have e : ∀ j, j = 0 ∨ j = 5 ∨ j = 6 ∨ 10 ≤ j → upd S i v j = S j := fun j hj => upd_n (by omega)
  refine ⟨(e 0 (by omega)).trans b0, b1, by rw [e 5 (by omega)]; exact b2, by rw [e 6 (by omega)]; exact b3, fun p hp => ?_⟩
  have g := bg p hp
  unfold bdG gK gO gS gW gT at *
  rw [e _ (by omega), e _ (by omega), e _ (by omega), e _ (by omega), e _ (by omega)]
  exact g
theorem bd_g {S : Nat → Int32} {N p0 : Nat} {j : Nat} {v : Int32} (B : bd S N) (hj : j < 5) (h : (j = 0 ∧ ∃ k, k ≤ 5 ∧ v = nI k) ∨ (j = 1 ∧ ∃ k, k ≤ 100 ∧ v = nI k) ∨ (j = 2 ∧ ∃ k, k ≤ 99 ∧ v = nI k) ∨ (j = 3 ∧ ∃ k, k ≤ 99 ∧ v = nI k) ∨ (j = 4 ∧ ∃ k, k ≤ 9999 ∧ v = nI k)) : bd (upd S (10 + 5 * p0 + j) v) N := by
  obtain ⟨b0, b1, b2, b3, bg⟩ := B
  have e : ∀ i, i < 10 → upd S (10 + 5 * p0 + j) v i = S i := fun i hi => upd_n (by omega)
  refine ⟨(e 0 (by omega)).trans b0, b1, by rw [e 5 (by omega)]; exact b2, by rw [e 6 (by omega)]; exact b3, fun p hp => ?_⟩
  obtain ⟨g1, g2, g3, g4, g5⟩ := bg p hp
  have f : ∀ j', j' < 5 → upd S (10 + 5 * p0 + j) v (10 + 5 * p + j') = if p = p0 ∧ j' = j then v else S (10 + 5 * p + j') := fun j' hj' => by
    by_cases hz : p = p0 ∧ j' = j
    · rw [if_pos hz, hz.1, hz.2, upd_s]
    · rw [if_neg hz, upd_n (by omega)]
  have pick : ∀ (j' : Nat) (P : Int32 → Prop), j' < 5 → P (S (10 + 5 * p + j')) → (j' = j → P v) → P (upd S (10 + 5 * p0 + j) v (10 + 5 * p + j')) := fun j' P hj' h1 h2 => by
    rw [f j' hj']
    by_cases hz : p = p0 ∧ j' = j
    · rw [if_pos hz]; exact h2 hz.2
    · rw [if_neg hz]; exact h1
  refine ⟨pick 0 (fun x => ∃ k, k ≤ 5 ∧ x = nI k) (by decide) g1 (fun q => ?_), pick 1 (fun x => ∃ k, k ≤ 100 ∧ x = nI k) (by decide) g2 (fun q => ?_), pick 2 (fun x => ∃ k, k ≤ 99 ∧ x = nI k) (by decide) g3 (fun q => ?_), pick 3 (fun x => ∃ k, k ≤ 99 ∧ x = nI k) (by decide) g4 (fun q => ?_), pick 4 (fun x => ∃ k, k ≤ 9999 ∧ x = nI k) (by decide) g5 (fun q => ?_)⟩
  all_goals (rcases h with ⟨z, w⟩ | ⟨z, w⟩ | ⟨z, w⟩ | ⟨z, w⟩ | ⟨z, w⟩ <;> first | exact w | (exfalso; omega))
theorem dv100 (z : Int32) : ∃ k, k ≤ 99 ∧ jRem (jUshr z 8) 100 = nI k := by
  obtain ⟨h1, h2⟩ := dv_eq z
  refine ⟨dvN z % 100, by omega, ?_⟩
  rw [h1, show (100 : Int32) = nI 100 by decide]
  exact jRem_nI (by omega) (by decide) (by decide)
theorem bd_fog {S : Nat → Int32} {N : Nat} (B : bd S N) : bd (sFog S N) N := by
  unfold sFog
  by_cases h : jRem (jUshr (zN (S 9)) 8) 100 < S 4 ∧ 0 < N
  · rw [if_pos h]
    exact bd_g (bd_z B (by omega)) (by decide) (Or.inr (Or.inr (Or.inl ⟨rfl, dv100 _⟩)))
  · rw [if_neg h]
    exact bd_z B (by omega)
theorem bd_eve {A : Fn4} {S : Nat → Int32} {N : Nat} (B : bd S N) : bd (sEve A N S) N := by
  unfold sEve
  exact bd_z (bd_fog (bd_dine (bd_z B (by omega)) (sSet_set N B.2.1))) (by omega)
theorem bd_pass {A : Fn4} {S : Nat → Int32} {N : Nat} (B : bd S N) : ∀ n, bd (sPass A N S n) N := by
  intro n
  induction n with
  | zero => exact B
  | succ n ih => exact bd_eve ih
/-- what an evening doesn't touch -/
theorem eve_hi {A : Fn4} {S : Nat → Int32} {N : Nat} (hN : N ≤ 10) {i : Nat} (hi : 60 ≤ i ∨ i = 0 ∨ i = 1 ∨ i = 3 ∨ i = 4) : sEve A N S i = S i := by
  have d1 : sDine (upd S 9 (zIt (S 9) N)) N (sSet A S N) i = S i := by
    unfold sDine
    rw [upd_n (by omega), upd_n (by omega)]
    have c : sCnt (upd S 9 (zIt (S 9) N)) N (sSet A S N) i = S i := by rw [sCnt_at (by omega) (by omega), upd_n (by omega)]
    rcases Nat.lt_or_ge i 10 with z | z
    · rw [sAft_lo z]; exact c
    · rw [sAft_hi N (by omega)]; exact c
  have d2 : ∀ S' : Nat → Int32, sFog S' N i = S' i := fun S' => by
    unfold sFog
    by_cases h : jRem (jUshr (zN (S' 9)) 8) 100 < S' 4 ∧ 0 < N
    · have := Nat.mod_lt (dvN (zN (zN (S' 9)))) h.2
      rw [if_pos h, upd_n (by omega), upd_n (by omega)]
    · rw [if_neg h, upd_n (by omega)]
  unfold sEve
  rw [upd_n (by omega), d2, d1]
theorem pass_hi {A : Fn4} {S : Nat → Int32} {N : Nat} (hN : N ≤ 10) {i : Nat} (hi : 60 ≤ i ∨ i = 0 ∨ i = 1 ∨ i = 3 ∨ i = 4) : ∀ n, sPass A N S n i = S i := by
  intro n
  induction n with
  | zero => rfl
  | succ n ih => show sEve A N _ i = S i; rw [eve_hi hN hi]; exact ih
section KX
variable {d : Nat} {N T : Nat}
theorem k152_loop {S : Nat → Int32} (B : bd S N) (X : wfX S T) {x y : Value} : ∀ (k p : Nat) (I : IM), p + k = N → I 122 = upd S 9 (zIt (S 9) p) →
    ∃ I', (∀ Q : Po, E (d + 4, 152, 4, [.ref 121, .int (sSet (mA S 0 T) S p), .int (nI p), x, y], [], I) Q ↔ E (d + 4, 152, 45, [.ref 121, .int (sSet (mA S 0 T) S N), .int (nI N), x, y], [], I') Q) ∧ I' 122 = upd S 9 (zIt (S 9) N) ∧ frM I I' := by
  have hN := B.2.1
  intro k
  induction k with
  | zero =>
    intro p I hp r
    have : p = N := by omega
    subst this
    refine ⟨I, fun Q => ?_, r, frM.rf⟩
    rw [b152_4, r, upd_n (by decide), B.1, if_neg (nI_nlt (Nat.le_refl _) (by omega))]
  | succ k ih =>
    intro p I hp r
    have r9 : I 122 9 = zIt (S 9) p := by rw [r, upd_s]
    have r1 : (up I 122 9 (zN (zIt (S 9) p))) 122 = upd S 9 (zIt (S 9) (p + 1)) := by rw [up_r, r, upd_up]; rfl
    have cg : ∀ i, 60 ≤ i → upd S 9 (zIt (S 9) (p + 1)) i = S i := fun i hi => upd_n (by omega)
    have B1 : bd ((up I 122 9 (zN (zIt (S 9) p))) 122) N := by rw [r1]; exact bd_z B (by omega)
    have X1 : wfX ((up I 122 9 (zN (zIt (S 9) p))) 122) T := by rw [r1]; exact wfX_cg cg (upd_n (by decide)) X
    obtain ⟨I2, q1, q2, q3⟩ := k134 (d := d) (x := UN) (y := UN) B1 X1 (p := p) (by omega)
    obtain ⟨I', s1, s2, s3⟩ := ih (p + 1) I2 (by omega) (q3.trans r1)
    refine ⟨I', fun Q => ?_, s2, ((frM.wr (Or.inl rfl)).tr q2).tr s3⟩
    rw [b152_4, show I 122 0 = nI N by rw [r, upd_n (by decide)]; exact B.1, if_pos (nI_lt (by omega) (by omega)), b152_14, k130, r9, b152_19, and_iff_right (show ¬ (100 : Int32) = 0 by decide), q1, r1, mA_cg cg, sCm_z, b152_27]
    have := s1 Q
    by_cases hc : jRem (jUshr (zN (zIt (S 9) p)) 8) 100 < sCm (mA S 0 T) S p
    · rw [if_pos hc, b152_30, b152_37, nI_1]
      have e : sSet (mA S 0 T) S (p + 1) = sSet (mA S 0 T) S p ||| (1 <<< (nI p &&& 31)) := if_pos hc
      rw [e] at this
      exact this
    · rw [if_neg hc, b152_36, b152_37, nI_1]
      have e : sSet (mA S 0 T) S (p + 1) = sSet (mA S 0 T) S p ||| 0 := (show sSet (mA S 0 T) S (p + 1) = sSet (mA S 0 T) S p from if_neg hc).trans (Int32.or_zero).symm
      rw [e] at this
      exact this
theorem k152 {I : IM} (B : bd (I 122) N) (X : wfX (I 122) T) {a b c e : Value} :
    ∃ I', Rn (d + 5, 152, 0, [.ref 121, a, b, c, e], [], I) .null I' ∧ I' 122 = sEve (mA (I 122) 0 T) N (I 122) ∧ frM I I' := by
  have hN := B.2.1
  obtain ⟨I1, p1, p2, p3⟩ := k152_loop (d := d + 1) (x := c) (y := e) B X N 0 I (by omega) (by show I 122 = upd (I 122) 9 (I 122 9); rw [upd_id])
  have B1 : bd (I1 122) N := by rw [p2]; exact bd_z B (by omega)
  have hs := sSet_set (A := mA (I 122) 0 T) (S := I 122) N hN
  obtain ⟨I2, q1, q2, q3⟩ := k150 (d := d) (set := sSet (mA (I 122) 0 T) (I 122) N) (x := UN) (y := UN) (z := UN) (w := UN) B1 hs
  have B2 : bd (I2 122) N := by rw [q2]; exact bd_dine B1 hs
  rw [p2] at q2
  generalize hD : sDine (upd (I 122) 9 (zIt (I 122 9) N)) N (sSet (mA (I 122) 0 T) (I 122) N) = D at q2
  -- up to the fog
  have pre : ∀ Q : Po, E (d + 5, 152, 0, [.ref 121, a, b, c, e], [], I) Q ↔ if jRem (jUshr (zN (D 9)) 8) 100 < D 4 then E (d + 5, 152, 77, [.ref 121, .int (sSet (mA (I 122) 0 T) (I 122) N), .int (sBr (upd (I 122) 9 (zIt (I 122 9) N)) (sSit (upd (I 122) 9 (zIt (I 122 9) N)) N (sSet (mA (I 122) 0 T) (I 122) N)) N), .int 1, e], [], up I2 122 9 (zN (D 9))) Q else E (d + 5, 152, 113, [.ref 121, .int (sSet (mA (I 122) 0 T) (I 122) N), .int (sBr (upd (I 122) 9 (zIt (I 122 9) N)) (sSit (upd (I 122) 9 (zIt (I 122 9) N)) N (sSet (mA (I 122) 0 T) (I 122) N)) N), .int 0, e], [], up I2 122 9 (zN (D 9))) Q := by
    intro Q
    have h1 := p1 Q
    rw [nI_0] at h1
    rw [b152_0]
    refine h1.trans ?_
    rw [b152_45, q1, b152_50, k130, q2, b152_55, and_iff_right (show ¬ (100 : Int32) = 0 by decide), up_k (by decide), q2, p2]
    by_cases hf : jRem (jUshr (zN (D 9)) 8) 100 < D 4
    · rw [if_pos hf, if_pos hf, b152_67, b152_72, if_neg (by decide)]
    · rw [if_neg hf, if_neg hf, b152_71, b152_72, if_pos (by decide)]
  have fin : ∀ (I3 : IM) (l1 l2 l3 : Int32) (l4 : Value), I3 122 = sFog D N → frM I I3 → (∀ Q : Po, E (d + 5, 152, 0, [.ref 121, a, b, c, e], [], I) Q ↔ E (d + 5, 152, 113, [.ref 121, .int l1, .int l2, .int l3, l4], [], I3) Q) → ∃ I', Rn (d + 5, 152, 0, [.ref 121, a, b, c, e], [], I) .null I' ∧ I' 122 = sEve (mA (I 122) 0 T) N (I 122) ∧ frM I I' := by
    intro I3 l1 l2 l3 l4 h1 h2 h3
    refine ⟨up I3 122 2 (I3 122 2 + 1), fun Q => ?_, ?_, h2.tr (frM.wr (Or.inl rfl))⟩
    · rw [h3 Q, b152_113]
    · rw [up_r, h1]; unfold sEve; rw [hD]
  have fr2 : frM I (up I2 122 9 (zN (D 9))) := (p3.tr (fun c h1 _ _ => q3 c h1)).tr (frM.wr (Or.inl rfl))
  have r0 : (up I2 122 9 (zN (D 9))) 122 0 = nI N := by rw [up_k (by decide)]; exact B2.1
  by_cases hf : jRem (jUshr (zN (D 9)) 8) 100 < D 4
  · by_cases h0 : 0 < N
    · have ej : jRem (jUshr (zN (zN (D 9))) 8) (nI N) = nI (dvN (zN (zN (D 9))) % N) := by
        rw [(dv_eq _).1]
        exact jRem_nI (by have := (dv_eq (zN (zN (D 9)))).2; omega) h0 (by omega)
      have hw : dvN (zN (zN (D 9))) % N < N := Nat.mod_lt _ h0
      refine fin (up (up (up (up I2 122 9 (zN (D 9))) 122 9 (zN (zN (D 9)))) 122 9 (zN (zN (zN (D 9))))) 122 (10 + 5 * (dvN (zN (zN (D 9))) % N) + 2) (jRem (jUshr (zN (zN (zN (D 9)))) 8) 100)) (sSet (mA (I 122) 0 T) (I 122) N) (sBr (upd (I 122) 9 (zIt (I 122 9) N)) (sSit (upd (I 122) 9 (zIt (I 122 9) N)) N (sSet (mA (I 122) 0 T) (I 122) N)) N) 1 (.int (nI (dvN (zN (zN (D 9))) % N))) ?_ (((fr2.tr (frM.wr (Or.inl rfl))).tr (frM.wr (Or.inl rfl))).tr (frM.wr (Or.inl rfl))) (fun Q => ?_)
      · rw [up_r, up_r, up_r, up_r, q2, upd_up, upd_up]
        unfold sFog
        rw [if_pos ⟨hf, h0⟩]
      · have z1 : (up I2 122 9 (zN (D 9))) 122 9 = zN (D 9) := up_s
        have z2 : (up (up I2 122 9 (zN (D 9))) 122 9 (zN (zN (D 9)))) 122 9 = zN (zN (D 9)) := up_s
        have r02 : (up (up I2 122 9 (zN (D 9))) 122 9 (zN (zN (D 9)))) 122 0 = nI N := by rw [up_k (by decide)]; exact r0
        rw [pre Q, if_pos hf, b152_77, r0, if_pos (show (0 : Int32) < nI N from by rw [← nI_0]; exact nI_lt h0 (by omega)), b152_86, k130, z1, b152_90, r02, ej, and_iff_right (nI_ne0 h0 (by omega)), k130, z2, b152_107, and_iff_right (show ¬ (100 : Int32) = 0 by decide), k127_2 (p := dvN (zN (zN (D 9))) % N) (by omega)]
    · refine fin (up I2 122 9 (zN (D 9))) (sSet (mA (I 122) 0 T) (I 122) N) (sBr (upd (I 122) 9 (zIt (I 122 9) N)) (sSit (upd (I 122) 9 (zIt (I 122 9) N)) N (sSet (mA (I 122) 0 T) (I 122) N)) N) 1 e ?_ fr2 (fun Q => ?_)
      · rw [up_r, q2]; unfold sFog; rw [if_neg (fun q => h0 q.2)]
      · rw [pre Q, if_pos hf, b152_77, r0, if_neg (show ¬ (0 : Int32) < nI N from by rw [← nI_0]; exact nI_nlt (by omega) (by omega))]
  · refine fin (up I2 122 9 (zN (D 9))) (sSet (mA (I 122) 0 T) (I 122) N) (sBr (upd (I 122) 9 (zIt (I 122 9) N)) (sSit (upd (I 122) 9 (zIt (I 122 9) N)) N (sSet (mA (I 122) 0 T) (I 122) N)) N) 0 e ?_ fr2 (fun Q => ?_)
    · rw [up_r, q2]; unfold sFog; rw [if_neg (fun q => hf q.1)]
    · rw [pre Q, if_neg hf]
theorem lt_cl {i : Nat} {ev : Int32} (hi : i < 2 ^ 31) : nI i < ev ↔ i < ev.toNatClampNeg := by
  rw [Int32.lt_iff_toInt_lt, nI_toInt hi]
  show (i : Int) < ev.toInt ↔ i < ev.toInt.toNat
  omega
theorem cl_lt (ev : Int32) : ev.toNatClampNeg < 2 ^ 31 := by
  show ev.toInt.toNat < 2 ^ 31
  have := Int32.toInt_lt ev
  omega
theorem k153_loop {S : Nat → Int32} {ev : Int32} (B : bd S N) (X : wfX S T) : ∀ (k i : Nat) (I : IM), i + k = ev.toNatClampNeg → I 122 = sPass (mA S 0 T) N S i →
    ∃ I', Rn (d + 6, 153, 2, [.ref 121, .int ev, .int (nI i)], [], I) .null I' ∧ I' 122 = sPass (mA S 0 T) N S ev.toNatClampNeg ∧ frM I I' := by
  have hN := B.2.1
  have hb := cl_lt ev
  intro k
  induction k with
  | zero =>
    intro i I hi r
    refine ⟨I, fun Q => ?_, by rw [r, show i = ev.toNatClampNeg by omega], frM.rf⟩
    rw [b153_2, if_neg (fun q => by have := (lt_cl (by omega)).mp q; omega), b153_17]
  | succ k ih =>
    intro i I hi r
    have cg : ∀ j, 60 ≤ j → I 122 j = S j := fun j hj => by rw [r]; exact pass_hi hN (Or.inl hj) i
    have B1 : bd (I 122) N := by rw [r]; exact bd_pass B i
    have X1 : wfX (I 122) T := wfX_cg cg (by rw [r]; exact pass_hi hN (by omega) i) X
    obtain ⟨I1, q1, q2, q3⟩ := k152 (d := d) (a := UN) (b := UN) (c := UN) (e := UN) B1 X1
    rw [mA_cg cg, r] at q2
    obtain ⟨I', s1, s2, s3⟩ := ih (i + 1) I1 (by omega) q2
    refine ⟨I', fun Q => ?_, s2, q3.tr s3⟩
    rw [b153_2, if_pos ((lt_cl (by omega)).mpr (by omega)), b153_7, q1, b153_11, nI_1]
    exact s1 Q
theorem k153 {I : IM} {ev : Int32} (B : bd (I 122) N) (X : wfX (I 122) T) {x : Value} :
    ∃ I', Rn (d + 6, 153, 0, [.ref 121, .int ev, x], [], I) .null I' ∧ I' 122 = sPass (mA (I 122) 0 T) N (I 122) ev.toNatClampNeg ∧ frM I I' := by
  obtain ⟨I', s1, s2, s3⟩ := k153_loop (d := d) (ev := ev) B X ev.toNatClampNeg 0 I (by omega) rfl
  refine ⟨I', fun Q => ?_, s2, s3⟩
  rw [b153_0]
  exact s1 Q
end KX
