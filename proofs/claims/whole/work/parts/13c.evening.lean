/-! the reference's evening -/
/-- nothing but the row, and what the reference writes on the side, has changed -/
def frM (I I' : IM) : Prop := ∀ c, c ≠ 122 → c ≠ 135 → c ≠ 136 → I' c = I c
theorem frM.rf {I : IM} : frM I I := fun _ _ _ _ => rfl
theorem frM.tr {I I1 I2 : IM} (a : frM I I1) (b : frM I1 I2) : frM I I2 := fun c h1 h2 h3 => (b c h1 h2 h3).trans (a c h1 h2 h3)
theorem frM.wr {I : IM} {c k : Nat} {v : Int32} (h : c = 122 ∨ c = 135 ∨ c = 136) : frM I (up I c k v) := by
  intro c' h1 h2 h3
  refine up_c ?_
  rintro rfl
  rcases h with e | e | e
  · exact h1 e
  · exact h2 e
  · exact h3 e
theorem wi100 (v : Int32) : jWi v 100 = cl100 v := by
  unfold jWi cl100
  by_cases h1 : v < 0
  · rw [if_pos h1]
    have h2 : ¬ 100 < v := fun h => absurd (Int32.lt_trans h h1) (by decide)
    rw [if_neg h2, if_neg (fun h => absurd (Int32.lt_trans h h1) (by decide))]
  · rw [if_neg h1]
    by_cases h2 : 100 < v
    · rw [if_pos h2, if_pos (by decide)]
    · rw [if_neg h2]
      by_cases h3 : 0 < v
      · rw [if_pos h3]
      · rw [if_neg h3]
        exact Int32.le_antisymm (Int32.not_lt.mp h3) (Int32.not_lt.mp h1)
section KV
variable {d : Nat} {N T : Nat}
theorem k133 {I : IM} (B : bd (I 122) N) (X : wfX (I 122) T) {p : Nat} (hp : p < N) {x : Value} :
    ∃ I', Rn (d + 2, 133, 0, [.ref 121, .int (nI p), x], [], I) (.int (sPl (mA (I 122) 0 T) (I 122) p)) I' ∧ frM I I' ∧ I' 122 = I 122 := by
  have hN := B.2.1
  have c1 : Int32.toNatClampNeg 111 = 111 := by decide
  have c2 : Int32.toNatClampNeg 119 = 119 := by decide
  have c3 : Int32.toNatClampNeg 116 = 116 := by decide
  have c4 : Int32.toNatClampNeg 110 = 110 := by decide
  have v1 : vp_in 111 128 := vp_in_nI (n := 111) (by decide) (by decide)
  have v2 : vp_in 119 128 := vp_in_nI (n := 119) (by decide) (by decide)
  have v3 : vp_in 116 128 := vp_in_nI (n := 116) (by decide) (by decide)
  have v4 : vp_in 110 128 := vp_in_nI (n := 110) (by decide) (by decide)
  cases ho : cntR (I 122) 0 T with
  | none =>
    refine ⟨I, fun Q => ?_, frM.rf, rfl⟩
    rw [b133_0, k188 X.1 X.2.1, ho, b133_5, if_pos (show enc none < 0 by decide), b133_10, k126_1 (p := p) (by omega), b133_16]
    unfold sPl mA
    rw [ho]
  | some t =>
    obtain ⟨tl, tk⟩ := cntR_lt T t ho
    have h14 := X.2.1
    have rows : ∀ (a b c e : Int32), (up (up (up (up I 135 111 a) 135 119 b) 135 116 c) 135 110 e) 122 = I 122 := fun a b c e => by rw [up_c (by decide), up_c (by decide), up_c (by decide), up_c (by decide)]
    have hn : nms ((up (up (up (up I 135 111 (gO (I 122) p)) 135 119 (gW (I 122) p)) 135 116 (gT (I 122) p)) 135 110 (jBit (I 122 5))) 135) ((up (up (up (up I 135 111 (gO (I 122) p)) 135 119 (gW (I 122) p)) 135 116 (gT (I 122) p)) 135 110 (jBit (I 122 5))) 122 (60 + 200 * t)) (gO (I 122) p) (gW (I 122) p) (gT (I 122) p) (jBit (I 122 5)) := by
      rw [rows]
      refine Or.inl ⟨tk, ?_, ?_, ?_, ?_⟩
      · rw [up_k (by decide), up_k (by decide), up_k (by decide), up_s]
      · rw [up_k (by decide), up_k (by decide), up_s]
      · rw [up_k (by decide), up_s]
      · rw [up_s]
    obtain ⟨I', q1, q2⟩ := k191 (d := d) (x := UN) (y := UN) (z := UN) (u := UN) (by omega) (by rw [rows]; exact X.2.2 t tl) hn
    refine ⟨I', fun Q => ?_, ?_, ?_⟩
    · rw [b133_0, k188 X.1 X.2.1, ho, b133_5, if_neg (show ¬ enc (some t) < 0 from nI_pos (by omega)), b133_17, k126_1 (p := p) (by omega), b133_29, and_iff_right v1, c1]
      rw [k126_3 (p := p) (by omega), up_c (by decide), b133_42, and_iff_right v2, c2, k126_4 (p := p) (by omega), up_c (by decide), up_c (by decide), b133_55, and_iff_right v3, c3, up_c (by decide), up_c (by decide), up_c (by decide), k132s B.2.2.1, b133_71, and_iff_right v4, c4]
      rw [show enc (some t) = nI t from rfl, q1, b133_77, k121, b133_82, wi100, rows]
      unfold sPl mA
      rw [ho]
    · exact (((frM.wr (Or.inr (Or.inl rfl))).tr (frM.wr (Or.inr (Or.inl rfl)))).tr (frM.wr (Or.inr (Or.inl rfl)))).tr ((frM.wr (Or.inr (Or.inl rfl))).tr (fun c h1 h2 h3 => q2 c h3))
    · rw [q2 122 (by decide)]; exact rows _ _ _ _
theorem k134 {I : IM} (B : bd (I 122) N) (X : wfX (I 122) T) {p : Nat} (hp : p < N) {x y : Value} :
    ∃ I', Rn (d + 3, 134, 0, [.ref 121, .int (nI p), x, y], [], I) (.int (sCm (mA (I 122) 0 T) (I 122) p)) I' ∧ frM I I' ∧ I' 122 = I 122 := by
  have hN := B.2.1
  obtain ⟨I', q1, q2, q3⟩ := k133 (d := d) (x := UN) B X hp
  refine ⟨I', fun Q => ?_, q2, q3⟩
  rw [b134_0, q1]
  simp only [b134_5, b134_12, b134_17, b134_21, b134_22, b134_29, b134_64, b134_68, b134_70, b134_81, b134_82, b134_94, b134_98, b134_99, b134_101, k126_2 (by omega : p < 10), k126_0 (by omega : p < 10), k123, n2, true_and, q3, k132s B.2.2.1]
  unfold sCm gComes jLe
  by_cases h60 : 60 < gS (I 122) p
  · simp only [show 60 < I 122 (10 + 5 * p + 2) from h60, if_true, QI, Nat.add_zero]
  · simp only [show ¬ 60 < I 122 (10 + 5 * p + 2) from h60, if_false, QI, Nat.add_zero]
theorem odN : ∀ k, k ≤ 100 → jWi (nI k + 2) 100 = (if 100 < nI k + 2 then 100 else nI k + 2) ∧ jWi (nI k + (-1)) 100 = (if nI k - 1 < 0 then 0 else nI k - 1) := by decide +kernel
theorem sBr_row {I : IM} {c k : Nat} {v : Int32} (h : c ≠ 122) : (up I c k v) 122 = I 122 := up_c (fun e => h e.symm)
theorem k150_loop {set sit br : Int32} {S : Nat → Int32} (B : bd S N) : ∀ (k p : Nat) (I : IM) (w : Value), p + k = N → I 122 = sAft S sit p →
    ∃ I', Rn (d + 1, 150, 64, [.ref 121, .int set, .int sit, .int br, .int (nI p), w], [], I) (.int br) I' ∧ I' 122 = upd (upd (sAft S sit N) 6 (sTalk S br)) 5 sit ∧ ∀ c, c ≠ 122 → I' c = I c := by
  obtain ⟨b0, b1, -, -, bg⟩ := B
  intro k
  induction k with
  | zero =>
    intro p I w hp r
    have : p = N := by omega
    subst this
    have e0 : I 122 0 = nI p := by rw [r, sAft_lo (by decide)]; exact b0
    have e6 : I 122 6 = S 6 := by rw [r, sAft_lo (by decide)]
    have v6 : vp_in 6 3060 := vp_in_nI (n := 6) (by decide) (by decide)
    refine ⟨up (up I 122 6 (sTalk S br)) 122 5 sit, fun Q => ?_, by rw [up_r, up_r, r], fun c hc => by rw [up_c hc, up_c hc]⟩
    rw [b150_64, e0, if_neg (nI_nlt (Nat.le_refl _) (by omega)), b150_159, e6, k123, b150_179, and_iff_right v6]
    exact Iff.rfl
  | succ k ih =>
    intro p I w hp r
    have e0 : I 122 0 = nI N := by rw [r, sAft_lo (by decide)]; exact b0
    obtain ⟨-, ⟨ok, ok1, ok2⟩, -, -, tk, tk1, tk2⟩ := bg p (by omega)
    obtain ⟨w1, w2⟩ := odN ok ok1
    have eo : I 122 (10 + 5 * p + 1) = gO S p := by rw [r, sAft_hi p (by omega)]
    have et : I 122 (10 + 5 * p + 4) = gT S p := by rw [r, sAft_hi p (by omega)]
    obtain ⟨I', q1, q2, q3⟩ := ih (p + 1) (up (up I 122 (10 + 5 * p + 1) (sOdds S sit p)) 122 (10 + 5 * p + 4) (sTim S sit p)) (.int (if bit sit p = 1 then 1 else 0)) (by omega) (by rw [up_r, up_r, r]; rfl)
    refine ⟨I', fun Q => ?_, q2, fun c hc => by rw [q3 c hc, up_c hc, up_c hc]⟩
    rw [b150_64, e0, if_pos (nI_lt (by omega) (by omega)), b150_75]
    have := q1 Q
    by_cases hb : bit sit p = 1
    · rw [if_pos hb, b150_85, b150_90, k126_1 (p := p) (by omega), eo, b150_103, if_neg (by decide), b150_108, b150_113, ok2, k121, w1, b150_119, k127_1 (p := p) (by omega), b150_122, k126_4 (p := p) (by omega), up_k (by omega), et, b150_136, if_neg (by decide), b150_141, b150_146, k123, b150_150, k127_4 (p := p) (by omega), b150_153, nI_1]
      rw [if_pos hb] at this
      have o1 : sOdds S sit p = (if 100 < nI ok + 2 then 100 else nI ok + 2) := by unfold sOdds; rw [if_pos hb, ok2]
      have t1 : sTim S sit p = jLe 9999 (gT S p + 1) := by unfold sTim jLe; rw [if_pos hb]
      rw [o1, t1] at this
      exact this
    · rw [if_neg hb, b150_89, b150_90, k126_1 (p := p) (by omega), eo, b150_103, if_pos (by decide), b150_112, b150_113, ok2, k121, w2, b150_119, k127_1 (p := p) (by omega), b150_122, k126_4 (p := p) (by omega), up_k (by omega), et, b150_136, if_pos (by decide), b150_145, b150_146, k123, b150_150, k127_4 (p := p) (by omega), b150_153, nI_1]
      rw [if_neg hb] at this
      have o1 : sOdds S sit p = (if nI ok - 1 < 0 then 0 else nI ok - 1) := by unfold sOdds; rw [if_neg hb, ok2]
      have t1 : sTim S sit p = jLe 9999 (gT S p + 0) := by
        unfold sTim jLe
        rw [if_neg hb, Int32.add_zero, tk2, if_neg]
        rw [show (9999 : Int32) = nI 9999 by decide]
        exact nI_nlt tk1 (by decide)
      rw [o1, t1] at this
      exact this
theorem bd_cnt {S : Nat → Int32} {set : Int32} (B : bd S N) : bd (sCnt S N set) N := by
  obtain ⟨b0, b1, b2, b3, bg⟩ := B
  refine ⟨(sCnt_at (by decide) (by decide)).trans b0, b1, by rw [sCnt_at (by decide) (by decide)]; exact b2, by rw [sCnt_at (by decide) (by decide)]; exact b3, fun p hp => ?_⟩
  have h := bg p hp
  unfold bdG gK gO gS gW gT at *
  rw [sCnt_at (by omega) (by omega), sCnt_at (by omega) (by omega), sCnt_at (by omega) (by omega), sCnt_at (by omega) (by omega), sCnt_at (by omega) (by omega)]
  exact h
theorem k150 {I : IM} {set : Int32} (B : bd (I 122) N) (hs : isSet set) {x y z w : Value} :
    ∃ I', Rn (d + 4, 150, 0, [.ref 121, .int set, x, y, z, w], [], I) (.int (sBr (I 122) (sSit (I 122) N set) N)) I' ∧ I' 122 = sDine (I 122) N set ∧ ∀ c, c ≠ 122 → I' c = I c := by
  have hN := B.2.1
  have hst : ∀ q, sNr (I 122) set N = some q → q < 2 ^ 31 := fun q hq => by have := sNr_lt (I 122) set N q hq; omega
  have v7 : vp_in 7 3060 := vp_in_nI (n := 7) (by decide) (by decide)
  have v8 : vp_in 8 3060 := vp_in_nI (n := 8) (by decide) (by decide)
  have c7 : Int32.toNatClampNeg 7 = 7 := by decide
  have c8 : Int32.toNatClampNeg 8 = 8 := by decide
  have pre : ∃ I1 z1, (∀ Q : Po, E (d + 4, 150, 0, [.ref 121, .int set, x, y, z, w], [], I) Q ↔ E (d + 4, 150, 55, [.ref 121, .int set, .int (sSit (I 122) N set), z1, z, w], [], I1) Q) ∧ I1 122 = sCnt (I 122) N set ∧ ∀ c, c ≠ 122 → I1 c = I c := by
    by_cases hj : jBit set = I 122 3
    · cases ho : sNr (I 122) set N with
      | none =>
        have es : sSit (I 122) N set = set ||| 0 := by unfold sSit; rw [if_pos hj, ho]; exact (Int32.or_zero).symm
        have ec : sCnt (I 122) N set = upd (I 122) 8 (I 122 8 + 1) := by unfold sCnt; rw [if_pos hj, ho]
        refine ⟨up I 122 8 (I 122 8 + 1), .int (enc none), fun Q => ?_, by rw [up_r, ec], fun c hc => up_c hc⟩
        rw [b150_0, k132s hs, b150_6, if_pos hj, b150_15, k149 B, ho, b150_20, if_pos (show enc none < 0 by decide), b150_26, b150_33, if_pos (show enc none < 0 by decide), b150_43, b150_50, and_iff_right v8, and_iff_right v8, c8, es]
      | some q =>
        have es : sSit (I 122) N set = set ||| (1 <<< (nI q &&& 31)) := by unfold sSit; rw [if_pos hj, ho]
        have ec : sCnt (I 122) N set = upd (I 122) 7 (I 122 7 + 1) := by unfold sCnt; rw [if_pos hj, ho]
        have hq : ¬ enc (some q) < 0 := nI_pos (hst q ho)
        refine ⟨up I 122 7 (I 122 7 + 1), .int (enc (some q)), fun Q => ?_, by rw [up_r, ec], fun c hc => up_c hc⟩
        rw [b150_0, k132s hs, b150_6, if_pos hj, b150_15, k149 B, ho, b150_20, if_neg hq, b150_30, b150_33, if_neg hq, b150_48, b150_50, and_iff_right v7, and_iff_right v7, c7, es]
        exact Iff.rfl
    · have es : sSit (I 122) N set = set := by unfold sSit; rw [if_neg hj]
      have ec : sCnt (I 122) N set = I 122 := by unfold sCnt; rw [if_neg hj]
      refine ⟨I, y, fun Q => ?_, ec.symm, fun c hc => rfl⟩
      rw [b150_0, k132s hs, b150_6, if_neg hj, es]
  obtain ⟨I1, z1, p1, p2, p3⟩ := pre
  have B1 : bd (I1 122) N := by rw [p2]; exact bd_cnt B
  have eb : sBr (sCnt (I 122) N set) (sSit (I 122) N set) N = sBr (I 122) (sSit (I 122) N set) N := sBr_cg N (fun p hp => by
    unfold gK gW
    rw [sCnt_at (by omega) (by omega), sCnt_at (by omega) (by omega)]
    exact ⟨rfl, rfl⟩)
  have et : sTalk (sCnt (I 122) N set) (sBr (I 122) (sSit (I 122) N set) N) = sTalk (I 122) (sBr (I 122) (sSit (I 122) N set) N) := by
    unfold sTalk
    rw [sCnt_at (by decide) (by decide)]
  obtain ⟨I', q1, q2, q3⟩ := k150_loop (d := d + 3) (set := set) (sit := sSit (I 122) N set) (br := sBr (I 122) (sSit (I 122) N set) N) (bd_cnt (set := set) B) N 0 I1 w (by omega) p2
  refine ⟨I', fun Q => ?_, by rw [q2, et]; rfl, fun c hc => (q3 c hc).trans (p3 c hc)⟩
  rw [p1 Q, b150_55, k147 B1, p2, eb, b150_60]
  exact q1 Q
end KV
