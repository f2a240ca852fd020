/-! what a law gives -/
def jWork (c x y : Int32) : Int32 :=
  if c = 38 then (if x = 0 then 0 else if y = 0 then 0 else 1) else if c = 42 then x * y else if c = 43 then x + y else if c = 45 then x - y
  else if c = 60 then (if x < y then 1 else 0) else if c = 61 then (if x = y then 1 else 0) else if c = 62 then (if y < x then 1 else 0)
  else if c = 124 then (if x = 0 then (if y = 0 then 0 else 1) else 1) else if y = 0 then 0 else x / y
theorem k42 {d : Nat} {I : IM} {Q : Po} {c x y : Int32} : E (d, 42, 0, [.int c, .int x, .int y], [], I) Q ↔ Q (.int (jWork c x y)) I := by
  simp only [b42_0, b42_76, b42_80, b42_84, b42_88, b42_89, b42_90, b42_94, b42_98, b42_102, b42_103, b42_104, b42_109, b42_113, b42_114, b42_115, b42_120, b42_124, b42_125, b42_126, b42_131, b42_135, b42_136, b42_137, b42_141, b42_145, b42_149, b42_153, b42_157, b42_160]
  unfold jWork
  simp only [QI]
  by_cases hy : y = 0
  · simp only [hy, if_true]
  · simp only [hy, if_false, not_false_eq_true, true_and]
def jNam (s a b c e : Int32) : Int32 := if s = -3 then c else if s = -2 then b else if s = -1 then a else e
theorem k41 {d : Nat} {I : IM} {Q : Po} {s a b c e : Int32} : E (d, 41, 0, [.int s, .int a, .int b, .int c, .int e], [], I) Q ↔ Q (.int (jNam s a b c e)) I := by
  simp only [b41_0, b41_28, b41_30, b41_32, b41_34]
  unfold jNam
  simp only [QI]
/-- one step of a law: height and pile -/
def lStep (a b c e s : Int32) (q : Nat × (Nat → Int32)) : Nat × (Nat → Int32) :=
  if s < -4 then
    (if s = -33 then (if q.1 < 1 then q else (q.1, upd q.2 (q.1 - 1) (if q.2 (q.1 - 1) = 0 then 1 else 0)))
     else if q.1 < 2 then q else (q.1 - 1, upd q.2 (q.1 - 2) (jWork (-s) (q.2 (q.1 - 2)) (q.2 (q.1 - 1)))))
  else if q.1 < 48 then (q.1 + 1, upd q.2 q.1 (if s < 0 then jNam s a b c e else s)) else q
def lRun (a b c e : Int32) (st : Nat → Int32) (f : Nat → Int32) : Nat → Nat × (Nat → Int32)
  | 0 => (0, f)
  | n + 1 => lStep a b c e (st n) (lRun a b c e st f n)
def lRes (q : Nat × (Nat → Int32)) : Int32 := if q.1 < 1 then 0 else q.2 (q.1 - 1)
theorem lStep_le (a b c e s : Int32) (q : Nat × (Nat → Int32)) (h : q.1 ≤ 48) : (lStep a b c e s q).1 ≤ 48 := by
  unfold lStep
  by_cases h1 : s < -4
  · rw [if_pos h1]
    by_cases h2 : s = -33
    · rw [if_pos h2]
      by_cases h3 : q.1 < 1
      · rw [if_pos h3]; exact h
      · rw [if_neg h3]; exact h
    · rw [if_neg h2]
      by_cases h3 : q.1 < 2
      · rw [if_pos h3]; exact h
      · rw [if_neg h3]; show q.1 - 1 ≤ 48; omega
  · rw [if_neg h1]
    by_cases h3 : q.1 < 48
    · rw [if_pos h3]; show q.1 + 1 ≤ 48; omega
    · rw [if_neg h3]; exact h
theorem lRun_le (a b c e : Int32) (st f : Nat → Int32) : ∀ n, (lRun a b c e st f n).1 ≤ 48 := by
  intro n
  induction n with
  | zero => exact Nat.zero_le _
  | succ n ih => exact lStep_le _ _ _ _ _ _ ih
theorem lRun_st {a b c e : Int32} {st st' f : Nat → Int32} : ∀ n, (∀ i, i < n → st' i = st i) → lRun a b c e st' f n = lRun a b c e st f n := by
  intro n
  induction n with
  | zero => intro _; rfl
  | succ n ih => intro h; unfold lRun; rw [ih (fun i hi => h i (by omega)), h n (by omega)]
/-- the top of a pile of height n, as the class counts -/
def tp (n : Nat) : Int32 := nI n + (-1)
theorem tp_s (n : Nat) : tp (n + 1) = nI n := pk_m1 n
theorem tp_0 : tp 0 = -1 := by decide
theorem tp_1 (n : Nat) : tp n + 1 = nI n := by
  unfold tp
  rw [Int32.add_assoc]
  show nI n + 0 = nI n
  exact Int32.add_zero _
theorem tp_lt0 {n : Nat} (h : n < 100) : tp n < 0 ↔ n < 1 := by
  cases n with
  | zero => exact ⟨fun _ => by decide, fun _ => by decide⟩
  | succ n => rw [tp_s]; exact ⟨fun q => absurd q (nI_pos (by omega)), fun q => by omega⟩
theorem tp_lt1 {n : Nat} (h : n < 100) : tp n < 1 ↔ n < 2 := by
  match n, h with
  | 0, _ => exact ⟨fun _ => by decide, fun _ => by decide⟩
  | 1, _ => exact ⟨fun _ => by decide, fun _ => by decide⟩
  | n + 2, h => rw [tp_s]; exact ⟨fun q => absurd q (by rw [show (1 : Int32) = nI 1 by decide, nI_ltI (by omega) (by decide)]; omega), fun q => by omega⟩
/-- the law t of the class -/
theorem lw0 {t : Nat} (h : t < 15) : aShp (48 + 3 * t) = 2 ∧ aRf (48 + 3 * t) 0 = 49 + 3 * t ∧ aRf (48 + 3 * t) 1 = 50 + 3 * t ∧ aShp (49 + 3 * t) = 20 ∧ aShp (50 + 3 * t) = 20 ∧ aLen (49 + 3 * t) = 96 ∧ aLen (50 + 3 * t) = 48 := by
  revert t; decide +kernel
section KG
variable {d : Nat} {Q : Po} {t n : Nat} {a b c e : Int32}
theorem k40_loop (ht : t < 15) (hn : n ≤ 96) : ∀ (k i : Nat) (I : IM) (w : Value) (f0 : Nat → Int32), i + k = n → I (48 + 3 * t) 2 = nI n → I (50 + 3 * t) = (lRun a b c e (I (49 + 3 * t)) f0 i).2 →
    ∃ I', (∀ Q : Po, E (d + 1, 40, 6, [.ref (48 + 3 * t), .int a, .int b, .int c, .int e, .int (tp (lRun a b c e (I (49 + 3 * t)) f0 i).1), .int (nI i), w], [], I) Q ↔ Q (.int (lRes (lRun a b c e (I (49 + 3 * t)) f0 n))) I') ∧ ∀ c', c' ≠ 50 + 3 * t → I' c' = I c' := by
  obtain ⟨s1, s2, s3, s4, s5, s6, s7⟩ := lw0 ht
  intro k
  induction k with
  | zero =>
    intro i I w f0 hi hsz hf
    have : i = n := by omega
    subst this
    refine ⟨I, fun Q => ?_, fun _ _ => rfl⟩
    have hle := lRun_le a b c e (I (49 + 3 * t)) f0 i
    rw [b40_6 s1, hsz, if_neg (nI_nlt (Nat.le_refl _) (by omega)), b40_157]
    by_cases h0 : (lRun a b c e (I (49 + 3 * t)) f0 i).1 < 1
    · rw [if_pos ((tp_lt0 (by omega)).mpr h0), b40_172, b40_173]
      unfold lRes
      rw [if_pos h0]
    · rw [if_neg (fun q => h0 ((tp_lt0 (by omega)).mp q)), b40_162 s1 (by rw [s3]; exact s5), s3, s7, b40_173]
      obtain ⟨m, hm⟩ : ∃ m, (lRun a b c e (I (49 + 3 * t)) f0 i).1 = m + 1 := ⟨_, (Nat.succ_pred_eq_of_pos (by omega)).symm⟩
      rw [hm, tp_s, and_iff_right (vp_in_nI (by omega) (by decide)), nI_clamp (by omega), hf]
      unfold lRes
      rw [if_neg h0, hm]
      exact Iff.rfl
  | succ k ih =>
    intro i I w f0 hi hsz hf
    have hle := lRun_le a b c e (I (49 + 3 * t)) f0 i
    -- what is common: one step, with its new pile
    have go : ∀ (I1 : IM) (w1 : Int32), (∀ c', c' ≠ 50 + 3 * t → I1 c' = I c') → I1 (50 + 3 * t) = (lStep a b c e (I (49 + 3 * t) i) (lRun a b c e (I (49 + 3 * t)) f0 i)).2 →
        (∀ Q : Po, E (d + 1, 40, 6, [.ref (48 + 3 * t), .int a, .int b, .int c, .int e, .int (tp (lRun a b c e (I (49 + 3 * t)) f0 i).1), .int (nI i), w], [], I) Q ↔ E (d + 1, 40, 151, [.ref (48 + 3 * t), .int a, .int b, .int c, .int e, .int (tp (lStep a b c e (I (49 + 3 * t) i) (lRun a b c e (I (49 + 3 * t)) f0 i)).1), .int (nI i), .int w1], [], I1) Q) →
        ∃ I', (∀ Q : Po, E (d + 1, 40, 6, [.ref (48 + 3 * t), .int a, .int b, .int c, .int e, .int (tp (lRun a b c e (I (49 + 3 * t)) f0 i).1), .int (nI i), w], [], I) Q ↔ Q (.int (lRes (lRun a b c e (I (49 + 3 * t)) f0 n))) I') ∧ ∀ c', c' ≠ 50 + 3 * t → I' c' = I c' := by
      intro I1 w1 hfr hp hgo
      have e49 : I1 (49 + 3 * t) = I (49 + 3 * t) := hfr _ (by omega)
      obtain ⟨I', r1, r2⟩ := ih (i + 1) I1 (.int w1) f0 (by omega) (by rw [hfr _ (by omega)]; exact hsz) (by rw [e49]; exact hp)
      refine ⟨I', fun Q => ?_, fun c' hc => (r2 c' hc).trans (hfr c' hc)⟩
      rw [hgo Q, b40_151, nI_1]
      have := r1 Q
      rw [e49] at this
      exact this
    have st : ∀ Q : Po, E (d + 1, 40, 6, [.ref (48 + 3 * t), .int a, .int b, .int c, .int e, .int (tp (lRun a b c e (I (49 + 3 * t)) f0 i).1), .int (nI i), w], [], I) Q ↔ if I (49 + 3 * t) i < -4 then E (d + 1, 40, 76, [.ref (48 + 3 * t), .int a, .int b, .int c, .int e, .int (tp (lRun a b c e (I (49 + 3 * t)) f0 i).1), .int (nI i), .int (I (49 + 3 * t) i)], [], I) Q else E (d + 1, 40, 31, [.ref (48 + 3 * t), .int a, .int b, .int c, .int e, .int (tp (lRun a b c e (I (49 + 3 * t)) f0 i).1), .int (nI i), .int (I (49 + 3 * t) i)], [], I) Q := by
      intro Q
      rw [b40_6 s1, hsz, if_pos (nI_lt (by omega) (by omega)), b40_15 s1 (by rw [s2]; exact s4), s2, s6, and_iff_right (vp_in_nI (by omega) (by decide)), nI_clamp (by omega)]
    generalize hq : lRun a b c e (I (49 + 3 * t)) f0 i = q at *
    by_cases h1 : I (49 + 3 * t) i < -4
    · by_cases h2 : I (49 + 3 * t) i = -33
      · by_cases h3 : q.1 < 1
        · have e1 : lStep a b c e (I (49 + 3 * t) i) q = q := by unfold lStep; rw [if_pos h1, if_pos h2, if_pos h3]
          refine go I (I (49 + 3 * t) i) (fun _ _ => rfl) (by rw [e1]; exact hf) (fun Q => ?_)
          rw [st Q, if_pos h1, b40_76, if_pos h2, b40_83, if_pos ((tp_lt0 (by omega)).mpr h3), e1]
        · obtain ⟨m, hm⟩ : ∃ m, q.1 = m + 1 := ⟨_, (Nat.succ_pred_eq_of_pos (by omega)).symm⟩
          have e1 : lStep a b c e (I (49 + 3 * t) i) q = (q.1, upd q.2 m (if q.2 m = 0 then 1 else 0)) := by
            unfold lStep; rw [if_pos h1, if_pos h2, if_neg h3, show q.1 - 1 = m by omega]
          refine go (up I (50 + 3 * t) m (if q.2 m = 0 then 1 else 0)) (I (49 + 3 * t) i) (fun c' hc => up_c hc) (by rw [e1, up_r, hf]) (fun Q => ?_)
          rw [st Q, if_pos h1, b40_76, if_pos h2, b40_83, if_neg (fun z => h3 ((tp_lt0 (by omega)).mp z)), b40_88 s1 (by rw [s3]; exact s5), s3, s7, e1]
          show (_ ∧ _) ↔ E (d + 1, 40, 151, [.ref (48 + 3 * t), .int a, .int b, .int c, .int e, .int (tp q.1), .int (nI i), .int (I (49 + 3 * t) i)], [], _) Q
          rw [hm, tp_s, and_iff_right (vp_in_nI (by omega) (by decide)), nI_clamp (by omega), hf]
          by_cases hz : q.2 m = 0
          · rw [if_pos hz, if_pos hz, b40_104, b40_109 s5, s7, and_iff_right (vp_in_nI (by omega) (by decide)), nI_clamp (by omega)]
          · rw [if_neg hz, if_neg hz, b40_108, b40_109 s5, s7, and_iff_right (vp_in_nI (by omega) (by decide)), nI_clamp (by omega)]
      · by_cases h3 : q.1 < 2
        · have e1 : lStep a b c e (I (49 + 3 * t) i) q = q := by unfold lStep; rw [if_pos h1, if_neg h2, if_pos h3]
          refine go I (I (49 + 3 * t) i) (fun _ _ => rfl) (by rw [e1]; exact hf) (fun Q => ?_)
          rw [st Q, if_pos h1, b40_76, if_neg h2, b40_113, if_pos ((tp_lt1 (by omega)).mpr h3), e1]
        · obtain ⟨m, hm⟩ : ∃ m, q.1 = m + 2 := ⟨q.1 - 2, by omega⟩
          have e1 : lStep a b c e (I (49 + 3 * t) i) q = (m + 1, upd q.2 m (jWork (-(I (49 + 3 * t) i)) (q.2 m) (q.2 (m + 1)))) := by
            unfold lStep; rw [if_pos h1, if_neg h2, if_neg h3, show q.1 - 1 = m + 1 by omega, show q.1 - 2 = m by omega]
          refine go (up I (50 + 3 * t) m (jWork (-(I (49 + 3 * t) i)) (q.2 m) (q.2 (m + 1)))) (I (49 + 3 * t) i) (fun c' hc => up_c hc) (by rw [e1, up_r, hf]) (fun Q => ?_)
          rw [st Q, if_pos h1, b40_76, if_neg h2, b40_113, if_neg (fun z => h3 ((tp_lt1 (by omega)).mp z)), b40_119 s1 (by rw [s3]; exact s5), s3, s7, e1, hm]
          show _ ↔ E (d + 1, 40, 151, [.ref (48 + 3 * t), .int a, .int b, .int c, .int e, .int (tp (m + 1)), .int (nI i), .int (I (49 + 3 * t) i)], [], _) Q
          rw [tp_s, show nI (m + 1) + (-1) = nI m from pk_m1 m, nI_1, and_iff_right (vp_in_nI (by omega) (by decide)), and_iff_right (vp_in_nI (by omega) (by decide)), nI_clamp (by omega), nI_clamp (by omega), hf, k42, b40_150 s5, s7, and_iff_right (vp_in_nI (by omega) (by decide)), nI_clamp (by omega), tp_s]
    · by_cases h3 : q.1 < 48
      · have e1 : lStep a b c e (I (49 + 3 * t) i) q = (q.1 + 1, upd q.2 q.1 (if I (49 + 3 * t) i < 0 then jNam (I (49 + 3 * t) i) a b c e else I (49 + 3 * t) i)) := by
          unfold lStep; rw [if_neg h1, if_pos h3]
        refine go (up I (50 + 3 * t) q.1 (if I (49 + 3 * t) i < 0 then jNam (I (49 + 3 * t) i) a b c e else I (49 + 3 * t) i)) (I (49 + 3 * t) i) (fun c' hc => up_c hc) (by rw [e1, up_r, hf]) (fun Q => ?_)
        rw [st Q, if_neg h1, b40_31 s1 (by rw [s3]; exact s5), s3, s7, tp_1, if_pos (nI_lt h3 (by decide)), b40_43 s1, s3, tp_1, e1]
        show _ ↔ E (d + 1, 40, 151, [.ref (48 + 3 * t), .int a, .int b, .int c, .int e, .int (tp (q.1 + 1)), .int (nI i), .int (I (49 + 3 * t) i)], [], _) Q
        rw [tp_s]
        by_cases hz : I (49 + 3 * t) i < 0
        · rw [if_pos hz, if_pos hz, b40_62, k41, b40_72 s5, s7, and_iff_right (vp_in_nI (by omega) (by decide)), nI_clamp (by omega)]
        · rw [if_neg hz, if_neg hz, b40_57, b40_72 s5, s7, and_iff_right (vp_in_nI (by omega) (by decide)), nI_clamp (by omega)]
      · have e1 : lStep a b c e (I (49 + 3 * t) i) q = q := by unfold lStep; rw [if_neg h1, if_neg h3]
        refine go I (I (49 + 3 * t) i) (fun _ _ => rfl) (by rw [e1]; exact hf) (fun Q => ?_)
        rw [st Q, if_neg h1, b40_31 s1 (by rw [s3]; exact s5), s3, s7, tp_1, if_neg (nI_nlt (by omega) (by omega)), e1]
/-- what a law gives: only its own pile is touched -/
theorem k40 {I : IM} (ht : t < 15) (hn : n ≤ 96) (hsz : I (48 + 3 * t) 2 = nI n) {x y z : Value} :
    ∃ I', Rn (d + 1, 40, 0, [.ref (48 + 3 * t), .int a, .int b, .int c, .int e, x, y, z], [], I) (.int (lRes (lRun a b c e (I (49 + 3 * t)) (I (50 + 3 * t)) n))) I' ∧ ∀ c', c' ≠ 50 + 3 * t → I' c' = I c' := by
  obtain ⟨I', r1, r2⟩ := k40_loop (d := d) (a := a) (b := b) (c := c) (e := e) ht hn n 0 I z (I (50 + 3 * t)) (by omega) hsz rfl
  refine ⟨I', fun Q => ?_, r2⟩
  have h1 := r1 Q
  have e1 : tp (lRun a b c e (I (49 + 3 * t)) (I (50 + 3 * t)) 0).1 = -1 := tp_0
  rw [e1, nI_0] at h1
  rw [b40_0]
  exact h1
end KG
