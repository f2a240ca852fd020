/-! like -/
theorem ad {t v : Int32} {a : Nat} (ha : a ≤ 9999) (ht : t = nI a) (hv : okV v) (hn : ¬ v = -1000000005) : (if 0 ≤ t - v then t - v else 0 - (t - v)) = nI (t.toInt - v.toInt).natAbs ∧ (if v < t then t - v else v - t) = nI (t.toInt - v.toInt).natAbs ∧ (t.toInt - v.toInt).natAbs ≤ 110000 := by
  rcases hv with z | ⟨z1, z2⟩
  · exact absurd z hn
  have y1 := Int32.le_iff_toInt_le.mp z1
  have y2 := Int32.le_iff_toInt_le.mp z2
  rw [show (-99999 : Int32).toInt = -99999 by decide] at y1
  rw [show (99999 : Int32).toInt = 99999 by decide] at y2
  have et : t.toInt = a := by rw [ht, nI_toInt (by omega)]
  have e1 : (t - v).toInt = t.toInt - v.toInt := by rw [Int32.toInt_sub, Int.bmod_eq_of_le (by omega) (by omega)]
  have e2 : (v - t).toInt = v.toInt - t.toInt := by rw [Int32.toInt_sub, Int.bmod_eq_of_le (by omega) (by omega)]
  have e3 : (0 - (t - v)).toInt = v.toInt - t.toInt := by rw [Int32.toInt_sub, e1, show (0 : Int32).toInt = 0 by decide, Int.bmod_eq_of_le (by omega) (by omega)]; omega
  refine ⟨?_, ?_, by omega⟩
  · apply Int32.toInt_inj.mp
    rw [nI_toInt (by omega)]
    by_cases h : 0 ≤ t - v
    · have := Int32.le_iff_toInt_le.mp h
      rw [if_pos h, e1]
      rw [e1, show (0 : Int32).toInt = 0 by decide] at this
      omega
    · have := Int32.lt_iff_toInt_lt.mp (Int32.not_le.mp h)
      rw [if_neg h, e3]
      rw [e1, show (0 : Int32).toInt = 0 by decide] at this
      omega
  · apply Int32.toInt_inj.mp
    rw [nI_toInt (by omega)]
    by_cases h : v < t
    · have := Int32.lt_iff_toInt_lt.mp h
      rw [if_pos h, e1]
      omega
    · have := Int32.le_iff_toInt_le.mp (Int32.not_lt.mp h)
      rw [if_neg h, e2]
      omega
theorem l64_add {a b : Nat} (h : a + b < 2 ^ 31) : (nI a).toInt64 + (nI b).toInt64 = (nI (a + b)).toInt64 := by
  apply Int64.toInt_inj.mp
  rw [Int64.toInt_add, Int32.toInt_toInt64, Int32.toInt_toInt64, Int32.toInt_toInt64, nI_toInt (by omega), nI_toInt (by omega), nI_toInt (by omega), Int.bmod_eq_of_le (by omega) (by omega)]
  omega
theorem l64_lt {a b : Nat} (ha : a < 2 ^ 31) (hb : b < 2 ^ 31) : lg_cmp (nI a).toInt64 (nI b).toInt64 < 0 ↔ a < b := by
  have e1 : lg_cmp (nI a).toInt64 (nI b).toInt64 < 0 ↔ ¬ (nI b).toInt64 ≤ (nI a).toInt64 := by rw [← lg_cmp_ge, Int32.not_le]
  rw [e1, Int64.le_iff_toInt_le, Int32.toInt_toInt64, Int32.toInt_toInt64, nI_toInt ha, nI_toInt hb]
  omega
theorem l64_32 {a : Nat} (ha : a < 2 ^ 31) : Int64.toInt32 (nI a).toInt64 = nI a := Int32.toInt32_toInt64 _
/-- by how much a row and how often one sat differ, at place k and below n -/
def dk (A : Fn4) (N : Nat) (S V : Nat → Int32) (p k : Nat) : Nat := if V k = -1000000005 then 0 else ((sPass A N S k (10 + 5 * p + 4)).toInt - (V k).toInt).natAbs
def dS (A : Fn4) (N : Nat) (S V : Nat → Int32) (p : Nat) : Nat → Nat
  | 0 => 0
  | k + 1 => dS A N S V p k + dk A N S V p k
/-- who of those below p (and 0) is likest -/
def sLk (f : Nat → Nat) : Nat → Nat
  | 0 => 0
  | p + 1 => if f p < f (sLk f p) then p else sLk f p
theorem sLk_lt {f : Nat → Nat} : ∀ p, 0 < p → sLk f p < p := by
  intro p
  induction p with
  | zero => intro h; omega
  | succ p ih =>
    intro _
    unfold sLk
    by_cases h : f p < f (sLk f p)
    · rw [if_pos h]; omega
    · rw [if_neg h]
      rcases Nat.eq_zero_or_pos p with z | z
      · subst z; exact Nat.zero_lt_one
      · have := ih z; omega
/-- nothing but the thought, piles of laws and the differences has changed -/
def frL (M M' : IM) : Prop := ∀ c, c ≠ 47 → ¬ (14 ≤ c ∧ c < 27) → ¬ scr c → M' c = M c
theorem frL.tr {M M1 M2 : IM} (a : frL M M1) (b : frL M1 M2) : frL M M2 := fun c h0 h1 h2 => (b c h0 h1 h2).trans (a c h0 h1 h2)
theorem frL.ofK {M M' : IM} (a : frK M M') : frL M M' := fun c _ h1 h2 => a c h1 h2
theorem frL.H {M M' : IM} {S : Nat → Int32} {N : Nat} (f : frL M M') (H : isH M 1 S N) : isH M' 1 S N := H.fr (fun c hc => f c (by omega) (by omega) (fun z => by have := scr_lt z; omega))
theorem frL.L {M M' : IM} {lv : Value} {A : Fn4} (f : frL M M') (L : Lw M lv A) : Lw M' lv A := L.fr (fun c h1 h2 h3 => f c (by omega) (by omega) h3)
theorem frN.ofL {M M' : IM} (f : frL M M') : frN M M' := fun c h1 h2 => f c (fun e => h1 (Or.inr (Or.inl e))) (fun e => h1 (Or.inl e)) (fun e => h1 (Or.inr (Or.inr (Or.inl e))))
theorem Cp.L {M M' : IM} {N T : Nat} (C : Cp M N T) (f : frL M M') : Cp M' N T := C.jk (frN.ofL f) (fun c hc => by
  rcases hc with z | z | z
  · exact f c (by omega) (by omega) (fun y => by have := scr_lt y; omega)
  · exact f c (by omega) (by omega) (fun y => by have := scr_lt y; omega)
  · exact f c (by omega) (by omega) (fun y => by have := scr_lt y; omega))
section K15
variable {d : Nat} {M I : IM} {N T : Nat} {Q : Po} {S V : Nat → Int32} {A : Fn4} {lv : Value}
theorem dk_le (hV : ∀ k, k < 24 → okV (V k)) (B : bd S N) {p : Nat} (hp : p < N) {k : Nat} (hk : k < 24) : dk A N S V p k ≤ 110000 := by
  unfold dk
  by_cases z : V k = -1000000005
  · rw [if_pos z]; omega
  · rw [if_neg z]
    obtain ⟨a, a1, a2⟩ := ((bd_pass (A := A) B k).2.2.2.2 p hp).2.2.2.2
    exact (ad a1 a2 (hV k hk) z).2.2
theorem dS_le (hV : ∀ k, k < 24 → okV (V k)) (B : bd S N) {p : Nat} (hp : p < N) : ∀ k, k ≤ 24 → dS A N S V p k ≤ 110000 * k := by
  intro k
  induction k with
  | zero => intro _; exact Nat.le_refl _
  | succ k ih =>
    intro h
    have h1 := ih (by omega)
    have h2 := dk_le (A := A) hV B hp (k := k) (by omega)
    show dS A N S V p k + dk A N S V p k ≤ _
    omega
theorem b116_132v {l1 : Nat} {l2 : Value} {l3 : Int32} {l4 : Value} (hl : aLv l2) : E (d, 116, 132, [.ref 0, .ref l1, l2, .int l3, l4], [], I) Q ↔ Q .null I := hl.elim (fun e => by subst e; exact b116_132n) (fun ⟨c, e, _⟩ => by subst e; exact b116_132r)
theorem k116_in {k i : Nat} (hk : k < 4) (hi : i < 24) (hV : ∀ k, k < 24 → okV (V k)) (B : bd S N) (L : Lw M lv A) (hz : ¬ V i = -1000000005) : ∀ (f p : Nat) (I : IM) , p + f = N → frL M I → isH I 14 (sPass A N S i) N → I (94 + 2 * k) i = V i → (∀ q, q < p → I 47 q = nI (dS A N S V q (i + 1))) → (∀ q, p ≤ q → q < N → I 47 q = nI (dS A N S V q i)) →
    ∃ I', (∀ Q : Po, E (d + 1, 116, 66, [.ref 0, .ref (93 + 2 * k), lv, .int (nI i), .int (nI p)], [], I) Q ↔ E (d + 1, 116, 117, [.ref 0, .ref (93 + 2 * k), lv, .int (nI i), .int (nI N)], [], I') Q) ∧ (∀ q, q < N → I' 47 q = nI (dS A N S V q (i + 1))) ∧ ∀ c, c ≠ 47 → I' c = I c := by
  have hN := B.2.1
  have R := shR k hk
  intro f
  induction f with
  | zero =>
    intro p I hp f1 H eV h1 h2
    have : p = N := by omega
    subst this
    refine ⟨I, fun Q => ?_, h1, fun _ _ => rfl⟩
    rw [b116_66m L.lv, show I 14 2 = nI p from H.ppl, if_neg (nI_nlt (Nat.le_refl _) (by omega))]
  | succ f ih =>
    intro p I hp f1 H eV h1 h2
    obtain ⟨a, a1, a2⟩ := ((bd_pass (A := A) B i).2.2.2.2 p (by omega)).2.2.2.2
    obtain ⟨m1, -, m3⟩ := ad a1 a2 (hV i hi) hz
    have ed : dS A N S V p (i + 1) = dS A N S V p i + ((sPass A N S i (10 + 5 * p + 4)).toInt - (V i).toInt).natAbs := by
      show dS A N S V p i + dk A N S V p i = _
      unfold dk
      rw [if_neg hz]
    obtain ⟨I', r1, r2, r3⟩ := ih (p + 1) (up I 47 p (nI (dS A N S V p (i + 1)))) (by omega) (f1.tr (fun c z _ _ => up_c z)) (H.fr (fun c hc => up_c (by omega))) (by rw [up_c (by omega)]; exact eV) (fun q hq => by
      by_cases z : q = p
      · rw [z, up_s]
      · rw [up_k z]; exact h1 q (by omega)) (fun q hq hq' => by rw [up_k (by omega)]; exact h2 q (by omega) hq')
    refine ⟨I', fun Q => ?_, r2, fun c hc => by rw [r3 c hc, up_c hc]⟩
    rw [b116_66m L.lv, show I 14 2 = nI N from H.ppl, if_pos (nI_lt (by omega) (by omega)), b116_78m (by rw [g15 (by omega)]; exact s17 (by omega)) R.1 (by rw [R.2.1]; exact R.2.2.1) L.lv, R.2.1, R.2.2.2.1, and_iff_right (vp10 (by omega)), and_iff_right (vp10 (by omega)), and_iff_right (vp_in_nI (by omega) (by decide)), and_iff_right (vp10 (by omega)), g15 (by omega), nI_clamp (by omega), nI_clamp (by omega), h2 p (Nat.le_refl _) (by omega), eV, show I (17 + p) 4 = sPass A N S i (10 + 5 * p + 4) from H.g (by omega) (by decide), m1, nI_add, ← ed, nI_1]
    exact r1 Q
theorem k116_loop {k n : Nat} (hk : k < 4) (hn : n ≤ 24) (hV : ∀ k, k < 24 → okV (V k)) (B : bd S N) (L : Lw M lv A) (e2 : M (93 + 2 * k) 2 = nI n) (eV : ∀ i, i < 24 → M (94 + 2 * k) i = V i) : ∀ (f i : Nat) (I : IM) (x : Value), i + f = n → frL M I → isH I 14 (sPass A N S i) N → (∀ q, q < N → I 47 q = nI (dS A N S V q i)) →
    ∃ I', Rn (d + 6, 116, 47, [.ref 0, .ref (93 + 2 * k), lv, .int (nI i), x], [], I) .null I' ∧ (∀ q, q < N → I' 47 q = nI (dS A N S V q n)) ∧ frL M I' := by
  have hN := B.2.1
  have R := shR k hk
  intro f
  induction f with
  | zero =>
    intro i I x hi f1 H h1
    have : i = n := by omega
    subst this
    refine ⟨I, fun Q => ?_, h1, f1⟩
    rw [b116_47m R.1 L.lv, f1 (93 + 2 * k) (by omega) (by omega) (fun y => by have := scr_lt y; omega), e2, if_neg (nI_nlt (Nat.le_refl _) (by omega)), b116_132v L.lv]
  | succ f ih =>
    intro i I x hi f1 H h1
    have er : I (93 + 2 * k) 2 = nI n := by rw [f1 (93 + 2 * k) (by omega) (by omega) (fun y => by have := scr_lt y; omega)]; exact e2
    have ev : I (94 + 2 * k) i = V i := by rw [f1 (94 + 2 * k) (by omega) (by omega) (fun y => by have := scr_lt y; omega)]; exact eV i (by omega)
    -- up to the evening
    have mid : ∃ (I1 : IM) (y : Value), (∀ Q : Po, E (d + 6, 116, 47, [.ref 0, .ref (93 + 2 * k), lv, .int (nI i), x], [], I) Q ↔ E (d + 6, 116, 117, [.ref 0, .ref (93 + 2 * k), lv, .int (nI i), y], [], I1) Q) ∧ (∀ q, q < N → I1 47 q = nI (dS A N S V q (i + 1))) ∧ ∀ c, c ≠ 47 → I1 c = I c := by
      have st : ∀ Q : Po, E (d + 6, 116, 47, [.ref 0, .ref (93 + 2 * k), lv, .int (nI i), x], [], I) Q ↔ if i < n ∧ ¬ V i = -1000000005 then E (d + 6, 116, 63, [.ref 0, .ref (93 + 2 * k), lv, .int (nI i), x], [], I) Q else E (d + 6, 116, 117, [.ref 0, .ref (93 + 2 * k), lv, .int (nI i), x], [], I) Q := fun Q => by
        rw [b116_47m R.1 L.lv, er, if_pos (nI_lt (by omega) (by omega)), b116_55m R.1 L.lv, k58 R hn (by omega) er, ev, b116_60m L.lv, ite_b01]
      by_cases hz : V i = -1000000005
      · refine ⟨I, x, fun Q => ?_, fun q hq => ?_, fun _ _ => rfl⟩
        · rw [st Q, if_neg (fun y => y.2 hz)]
        · rw [h1 q hq]
          show _ = nI (dS A N S V q i + dk A N S V q i)
          unfold dk
          rw [if_pos hz, Nat.add_zero]
      · obtain ⟨I1, r1, r2, r3⟩ := k116_in (d := d + 5) (i := i) hk (by omega) hV B L hz N 0 I (by omega) f1 H ev (fun q hq => by omega) (fun q _ hq => h1 q hq)
        refine ⟨I1, .int (nI N), fun Q => ?_, r2, r3⟩
        rw [st Q, if_pos ⟨by omega, hz⟩, b116_63m L.lv]
        exact r1 Q
    obtain ⟨I1, y, s1, s2, s3⟩ := mid
    have f2 : frL M I1 := f1.tr (fun c z _ _ => s3 c z)
    obtain ⟨I2, a1, a2, a3⟩ := k27 (d := d) (ev := 1) (x := UN) is14 (H.fr (fun c hc => s3 c (by omega))) (f2.L L)
    rw [show Int32.toNatClampNeg 1 = 1 by decide] at a2
    have e47 : I2 47 = I1 47 := a3 47 (by omega) (by omega) (fun y => by obtain ⟨t, t1, t2⟩ := y; omega)
    obtain ⟨I', q1, q2, q3⟩ := ih (i + 1) I2 y (by omega) (f2.tr (frL.ofK (frK.ofE a3))) a2 (fun q hq => by rw [e47]; exact s2 q hq)
    refine ⟨I', fun Q => ?_, q2, q3⟩
    rw [s1 Q, b116_117m L.lv, a1, b116_126m L.lv, nI_1]
    exact q1 Q
theorem k116 {k n : Nat} (C : Cp M N T) (hk : k < 4) (hn : n ≤ 24) (hV : ∀ k, k < 24 → okV (V k)) (e2 : M (93 + 2 * k) 2 = nI n) (eV : ∀ i, i < 24 → M (94 + 2 * k) i = V i) {x y z : Value} :
    ∃ I', Rn (d + 6, 116, 0, [.ref 0, .ref (93 + 2 * k), x, y, z], [], M) .null I' ∧ (∀ q, q < N → I' 47 q = nI (dS (mA (M 122) 0 T) N (M 122) V q n)) ∧ frL M I' := by
  have hN := C.le
  obtain ⟨lv, l1, l2⟩ := k115 (d := d + 4) (x := UN) C (k := 0) (v := 0) (by decide) (by decide)
  have loop : ∀ (f i : Nat) (I : IM), i + f = 10 → (∀ q, q < i → I 47 q = 0) → (∀ c, c ≠ 47 → I c = M c) → ∃ I', (∀ Q : Po, E (d + 6, 116, 12, [.ref 0, .ref (93 + 2 * k), lv, .int (nI i), z], [], I) Q ↔ E (d + 6, 116, 34, [.ref 0, .ref (93 + 2 * k), lv, .int (nI 10), z], [], I') Q) ∧ (∀ q, q < 10 → I' 47 q = 0) ∧ ∀ c, c ≠ 47 → I' c = M c := by
    intro f
    induction f with
    | zero =>
      intro i I hi h1 h2
      have : i = 10 := by omega
      subst this
      exact ⟨I, fun Q => by rw [b116_12m l2.lv, if_neg (by decide)], h1, h2⟩
    | succ f ih =>
      intro i I hi h1 h2
      obtain ⟨I', r1, r2, r3⟩ := ih (i + 1) (up I 47 i 0) (by omega) (fun q hq => by
        by_cases z : q = i
        · rw [z, up_s]
        · rw [up_k z]; exact h1 q (by omega)) (fun c hc => by rw [up_c hc]; exact h2 c hc)
      refine ⟨I', fun Q => ?_, r2, r3⟩
      rw [b116_12m l2.lv, if_pos (show nI i < 10 from (show nI i < nI 10 from nI_lt (by omega) (by decide))), b116_21m l2.lv, and_iff_right (vp10 (by omega)), nI_clamp (by omega), nI_1]
      exact r1 Q
  obtain ⟨I1, s1, s2, s3⟩ := loop 10 0 M (by omega) (fun q hq => by omega) (fun _ _ => rfl)
  have f1 : frL M I1 := fun c z _ _ => s3 c z
  obtain ⟨I2, a1, a2, a3⟩ := think (d := d + 4) (x := UN) (f1.H C.h.H)
  have e47 : I2 47 = I1 47 := a3 47 (by omega) (fun y => by obtain ⟨t, t1, t2⟩ := y; omega)
  obtain ⟨I', r1, r2, r3⟩ := k116_loop (d := d) (S := M 122) (N := N) hk hn hV C.h.B l2 e2 eV n 0 I2 z (by omega) (f1.tr (frL.ofK a3)) a2 (fun q hq => by rw [e47, s2 q (by omega)]; exact nI_0.symm)
  refine ⟨I', fun Q => ?_, r2, r3⟩
  have := s1 Q
  rw [nI_0] at this
  rw [b116_0, l1, b116_9m l2.lv]
  refine this.trans ?_
  rw [b116_34m l2.lv, a1, b116_45m l2.lv]
  exact r1 Q
theorem k197 {k n p : Nat} (hk : k < 4) (hn : n ≤ 24) (hV : ∀ k, k < 24 → okV (V k)) (B : bd (I 122) N) (X : wfX (I 122) T) (hp : p < N) (e2 : I 126 k = nI n) (eV : ∀ i, i < 24 → I 127 (24 * k + i) = V i) {x y z w : Value} :
    ∃ I', Rn (d + 6, 197, 0, [.ref 121, .int (nI k), .int (nI p), x, y, z, w], [], I) (.long (nI (dS (mA (I 122) 0 T) N (I 122) V p n)).toInt64) I' ∧ I' 122 = I 122 ∧ frT I I' := by
  have hN := B.2.1
  have ck : (nI k).toNatClampNeg = k := nI_clamp (by omega)
  obtain ⟨I1, a1, a2, a3⟩ := k158 (d := d + 5) (I := I) (x := UN)
  have r1 : I1 122 = I 122 := a3 122 (by decide)
  have loop : ∀ (f i : Nat) (J : IM) (u : Value), i + f = n → J 122 = sPass (mA (I 122) 0 T) N (I 122) i → frM I1 J → ∃ (J' : IM) (u' : Value), (∀ Q : Po, E (d + 6, 197, 9, [.ref 121, .int (nI k), .int (nI p), .long (nI (dS (mA (I 122) 0 T) N (I 122) V p i)).toInt64, UN, .int (nI i), u], [], J) Q ↔ E (d + 6, 197, 70, [.ref 121, .int (nI k), .int (nI p), .long (nI (dS (mA (I 122) 0 T) N (I 122) V p n)).toInt64, UN, .int (nI n), u'], [], J') Q) ∧ J' 122 = sPass (mA (I 122) 0 T) N (I 122) n ∧ frM I1 J' := by
    intro f
    induction f with
    | zero =>
      intro i J u hi h1 h2
      have : i = n := by omega
      subst this
      refine ⟨J, u, fun Q => ?_, h1, h2⟩
      rw [b197_9, and_iff_right (vp4 hk), ck, h2 126 (by decide) (by decide) (by decide), a3 126 (by decide), e2, if_neg (nI_nlt (Nat.le_refl _) (by omega))]
    | succ f ih =>
      intro i J u hi h1 h2
      have cg : ∀ j, 60 ≤ j → J 122 j = I 122 j := fun j hj => by rw [h1]; exact pass_hi hN (Or.inl hj) i
      have B1 : bd (J 122) N := by rw [h1]; exact bd_pass B i
      have X1 : wfX (J 122) T := wfX_cg cg (by rw [h1]; exact pass_hi hN (by omega) i) X
      obtain ⟨J1, q1, q2, q3⟩ := k152 (d := d) (a := UN) (b := UN) (c := UN) (e := UN) B1 X1
      rw [mA_cg cg, h1] at q2
      have hle := dS_le (A := mA (I 122) 0 T) hV B hp i (by omega)
      have hdk := dk_le (A := mA (I 122) 0 T) hV B hp (k := i) (by omega)
      have j127 : J 127 = I 127 := by rw [h2 127 (by decide) (by decide) (by decide), a3 127 (by decide)]
      obtain ⟨J', u', t1, t2, t3⟩ := ih (i + 1) J1 (.int (V i)) (by omega) q2 (h2.tr q3)
      refine ⟨J', u', fun Q => ?_, t2, t3⟩
      have st : E (d + 6, 197, 9, [.ref 121, .int (nI k), .int (nI p), .long (nI (dS (mA (I 122) 0 T) N (I 122) V p i)).toInt64, UN, .int (nI i), u], [], J) Q ↔ E (d + 6, 197, 58, [.ref 121, .int (nI k), .int (nI p), .long (nI (dS (mA (I 122) 0 T) N (I 122) V p i)).toInt64, UN, .int (nI i), .int (V i)], [.long (nI (dk (mA (I 122) 0 T) N (I 122) V p i)).toInt64, .long (nI (dS (mA (I 122) 0 T) N (I 122) V p i)).toInt64], J) Q := by
        rw [b197_9, and_iff_right (vp4 hk), ck, h2 126 (by decide) (by decide) (by decide), a3 126 (by decide), e2, if_pos (nI_lt (by omega) (by omega)), b197_20, i24, and_iff_right (vp_in_nI (by omega) (by decide)), nI_clamp (by omega), j127, eV i (by omega)]
        unfold dk
        by_cases hz : V i = -1000000005
        · rw [if_pos hz, if_pos hz, b197_42, show (nI 0).toInt64 = 0 by decide]
        · obtain ⟨a, m1, m2⟩ := ((bd_pass (A := mA (I 122) 0 T) B i).2.2.2.2 p hp).2.2.2.2
          have m3 := (ad m1 m2 (hV i (by omega)) hz).2.1
          rw [if_neg hz, if_neg hz, b197_46, k126_4 (by omega), b197_54, k122, h1, m3, b197_57]
      rw [st, b197_58, q1, l64_add (by omega), b197_64, nI_1]
      exact t1 Q
  obtain ⟨J, u, s1, s2, s3⟩ := loop n 0 I1 w (by omega) r1 frM.rf
  obtain ⟨I', g1, g2, g3⟩ := k159 (d := d + 5) (I := J) (x := UN) (S := I 122) (fun i hi => by rw [s3 133 (by decide) (by decide) (by decide), a2 i hi]) (fun i hi => by rw [s2]; exact pass_hi hN (Or.inl hi) n)
  refine ⟨I', fun Q => ?_, g2, fun c z1 z2 z3 z4 => by rw [g3 c z1, s3 c z1 z3 z4, a3 c z2]⟩
  have := s1 Q
  rw [nI_0] at this
  rw [b197_0, a1, b197_4]
  refine Iff.trans this ?_
  rw [b197_70, g1, b197_74]
/-- promise 19 -/
theorem m86 (C : Cp M N T) {a b : Int32} : Ok (d + 200) M 86 [.ref 0, .int a, .int b, UN, UN] 198 [.ref 121, .int a, .int b, UN, UN, UN, UN, UN, UN, UN] := by
  have hN := C.le
  by_cases h1 : 0 ≤ a ∧ a ≤ 3
  rotate_left
  · exact Ok.ret C (-1000000001) (fun Q => by rw [b86_0, k111, b86_4, ite_b01, if_neg h1, b86_16]) (fun Q => by rw [b198_0, k192, b198_4, ite_b01, if_neg h1, b198_17])
  by_cases h2 : 0 ≤ b ∧ b ≤ 1
  rotate_left
  · exact Ok.ret C (-1000000001) (fun Q => by rw [b86_0, k111, b86_4, ite_b01, if_pos h1, b86_7, k108, b86_13, ite_b01, if_neg h2, b86_16]) (fun Q => by rw [b198_0, k192, b198_4, ite_b01, if_pos h1, b198_7, k119_0_1, b198_14, ite_b01, if_neg h2, b198_17])
  obtain ⟨k, hk', rfl⟩ := wi0 3 (by decide) (by decide) h1
  have hk : k < 4 := by omega
  have R := shR k hk
  have e44 := r44 hk
  obtain ⟨s1, s2, s3, ⟨n, hn, s4⟩, s5⟩ := C.s k hk
  have ck : (nI k).toNatClampNeg = k := nI_clamp (by omega)
  have p1 : ∀ Q : Po, E (d + 200, 86, 0, [.ref 0, .int (nI k), .int b, UN, UN], [], M) Q ↔ if M 125 k = -1 then Q (.int (-1000000011)) M else E (d + 200, 86, 34, [.ref 0, .int (nI k), .int b, UN, UN], [], M) Q := fun Q => by
    rw [b86_0, k111, b86_4, ite_b01, if_pos h1, b86_7, k108, b86_13, ite_b01, if_pos h2, b86_19 (by rw [e44]; exact R.1), and_iff_right (vp4 hk), e44, k53 R, b86_28, s1, ite_b01, b86_31]
  have p2 : ∀ (I : IM) (Q : Po), I 125 = M 125 → (E (d + 200, 198, 0, [.ref 121, .int (nI k), .int b, UN, UN, UN, UN, UN, UN, UN], [], I) Q ↔ if M 125 k < 0 then Q (.int (-1000000011)) I else E (d + 200, 198, 41, [.ref 121, .int (nI k), .int b, .int (-1), .long 0, UN, .int 0, UN, UN, UN], [], I) Q) := fun I Q e => by
    rw [b198_0, k192, b198_4, ite_b01, if_pos h1, b198_7, k119_0_1, b198_14, ite_b01, if_pos h2, b198_20, and_iff_right (vp4 hk), ck, e, b198_29, b198_33]
  by_cases hm : M 125 k = -1
  · exact Ok.ret C (-1000000011) (fun Q => by rw [p1, if_pos hm]) (fun Q => by rw [p2 M Q rfl, if_pos (by rw [hm]; decide)])
  have hm' : ¬ M 125 k < 0 := by rw [← m1_lt s3]; exact hm
  by_cases h0 : N = 0
  · subst h0
    refine Ok.ret C (-1000000005) (fun Q => ?_) (fun Q => ?_)
    · rw [p1, if_neg hm, b86_34, C.n1, if_pos nI_0, b86_44]
    · rw [p2 M Q rfl, if_neg hm', b198_41, C.n2, nI_0, if_neg (by decide), b198_112, if_pos (by decide), b198_116, b198_132]
  generalize hVd : (fun i => M 127 (24 * k + i)) = V
  have eV : ∀ i, M 127 (24 * k + i) = V i := fun i => by rw [← hVd]
  have hV : ∀ i, i < 24 → okV (V i) := fun i hi => by rw [← eV i]; exact (s5 i hi).2
  obtain ⟨M1, r1, r2, r3⟩ := k116 (d := d + 193) (V := V) C hk hn hV (by rw [s2, s4]) (fun i hi => by rw [(s5 i hi).1, eV]) (x := UN) (y := UN) (z := UN)
  have C1 := C.L r3
  have m1 : ∀ c, 93 ≤ c → M1 c = M c := fun c hc => r3 c (by omega) (by omega) (fun y => by have := scr_lt y; omega)
  generalize hf : (fun p => dS (mA (M 122) 0 T) N (M 122) V p n) = f at *
  have ef : ∀ p, dS (mA (M 122) 0 T) N (M 122) V p n = f p := fun p => by rw [← hf]
  have fb : ∀ p, p < N → f p < 2 ^ 31 := fun p hp => by
    rw [← hf]
    have := dS_le (A := mA (M 122) 0 T) hV C.h.B hp n hn
    dsimp only
    omega
  have r2' : ∀ q, q < N → M1 47 q = nI (f q) := fun q hq => by rw [r2 q hq, ef]
  -- the class looks for the least
  have cl : ∀ (g p : Nat) (Q : Po), p + g = N → 0 < p → (E (d + 200, 86, 62, [.ref 0, .int (nI k), .int b, .int (nI (sLk f p)), .int (nI p)], [], M1) Q ↔ E (d + 200, 86, 99, [.ref 0, .int (nI k), .int b, .int (nI (sLk f N)), .int (nI N)], [], M1) Q) := by
    intro g
    induction g with
    | zero =>
      intro p Q hp _
      have : p = N := by omega
      subst this
      rw [b86_62, C1.n1, if_neg (nI_nlt (Nat.le_refl _) (by omega))]
    | succ g ih =>
      intro p Q hp h0
      have hl := sLk_lt (f := f) p h0
      have := ih (p + 1) Q (by omega) (by omega)
      rw [b86_62, C1.n1, if_pos (nI_lt (by omega) (by omega)), b86_74, and_iff_right (vp10 (by omega)), and_iff_right (vp10 (by omega)), nI_clamp (by omega), nI_clamp (by omega), r2' p (by omega), r2' _ (by omega)]
      by_cases z : f p < f (sLk f p)
      · have e : sLk f (p + 1) = p := if_pos z
        rw [e] at this
        rw [if_pos (nI_lt z (fb p (by omega) |> fun _ => fb _ (by omega))), b86_90, b86_93, nI_1]
        exact this
      · have e : sLk f (p + 1) = sLk f p := if_neg z
        rw [e] at this
        rw [if_neg (nI_nlt (by omega) (fb p (by omega))), b86_93, nI_1]
        exact this
  -- the reference looks for the least
  have rf : ∀ (g p : Nat) (I : IM) (x y z : Value), p + g = N → I 122 = M 122 → frT M1 I → ∃ (I' : IM) (x' y' z' : Value), (∀ Q : Po, E (d + 200, 198, 41, [.ref 121, .int (nI k), .int b, .int (if p = 0 then -1 else nI (sLk f p)), .long (if p = 0 then 0 else (nI (f (sLk f p))).toInt64), UN, .int (nI p), x, y, z], [], I) Q ↔ E (d + 200, 198, 112, [.ref 121, .int (nI k), .int b, .int (nI (sLk f N)), .long (nI (f (sLk f N))).toInt64, UN, .int (nI N), x', y', z'], [], I') Q) ∧ I' 122 = M 122 ∧ frT M1 I' := by
    intro g
    induction g with
    | zero =>
      intro p I x y z hp e1 e2
      have : p = N := by omega
      subst this
      refine ⟨I, x, y, z, fun Q => ?_, e1, e2⟩
      rw [b198_41, e1, C.n2, if_neg (nI_nlt (Nat.le_refl _) (by omega)), if_neg h0, if_neg h0]
    | succ g ih =>
      intro p I x y z hp e1 e2
      have i126 : I 126 k = nI n := by rw [e2 126 (by decide) (by decide) (by decide) (by decide), m1 126 (by omega)]; exact s4
      have i127 : ∀ i, i < 24 → I 127 (24 * k + i) = V i := fun i hi => by rw [e2 127 (by decide) (by decide) (by decide) (by decide), m1 127 (by omega)]; exact eV i
      obtain ⟨I2, t1, t2, t3⟩ := k197 (d := d + 193) (I := I) (N := N) (T := T) (p := p) hk hn hV (by rw [e1]; exact C.h.B) (by rw [e1]; exact C.h.X) (by omega) i126 i127 (x := UN) (y := UN) (z := UN) (w := UN)
      rw [e1, ef] at t1
      have fp := fb p (by omega)
      by_cases hb : p = 0 ∨ f p < f (sLk f p)
      · have e : sLk f (p + 1) = p := by
          rcases hb with z | z
          · subst z
            show (if _ then _ else _) = _
            by_cases y : f 0 < f (sLk f 0)
            · rw [if_pos y]
            · rw [if_neg y]; rfl
          · exact if_pos z
        obtain ⟨I', x', y', z', u1, u2, u3⟩ := ih (p + 1) I2 (.long (nI (f p)).toInt64) UN (.int 1) (by omega) (t2.trans e1) (e2.tr t3)
        refine ⟨I', x', y', z', fun Q => ?_, u2, u3⟩
        have := u1 Q
        rw [if_neg (by omega), if_neg (by omega), e] at this
        have st : E (d + 200, 198, 41, [.ref 121, .int (nI k), .int b, .int (if p = 0 then -1 else nI (sLk f p)), .long (if p = 0 then 0 else (nI (f (sLk f p))).toInt64), UN, .int (nI p), x, y, z], [], I) Q ↔ E (d + 200, 198, 73, [.ref 121, .int (nI k), .int b, .int (if p = 0 then -1 else nI (sLk f p)), .long (if p = 0 then 0 else (nI (f (sLk f p))).toInt64), UN, .int (nI p), .long (nI (f p)).toInt64, UN, z], [], I2) Q := by
          rw [b198_41, e1, C.n2, if_pos (nI_lt (by omega) (by omega)), b198_52, t1, b198_59]
          by_cases hz : p = 0
          · rw [if_pos hz, if_pos hz, if_pos (by decide)]
          · have hl := sLk_lt (f := f) p (by omega)
            rw [if_neg hz, if_neg hz, if_neg (nI_pos (by omega)), b198_65, if_pos ((l64_lt fp (fb _ (by omega))).mpr (by rcases hb with y | y; exact absurd y hz; exact y))]
        rw [st, b198_73, b198_78, if_neg (by decide), b198_85, b198_91, if_neg (by decide), b198_97, b198_104, nI_1]
        exact this
      · have hz : ¬ p = 0 := fun y => hb (Or.inl y)
        have hz' : ¬ f p < f (sLk f p) := fun y => hb (Or.inr y)
        have hl := sLk_lt (f := f) p (by omega)
        have e : sLk f (p + 1) = sLk f p := if_neg hz'
        obtain ⟨I', x', y', z', u1, u2, u3⟩ := ih (p + 1) I2 (.long (nI (f p)).toInt64) UN (.int 0) (by omega) (t2.trans e1) (e2.tr t3)
        refine ⟨I', x', y', z', fun Q => ?_, u2, u3⟩
        have := u1 Q
        rw [if_neg (by omega), if_neg (by omega), e] at this
        rw [b198_41, e1, C.n2, if_pos (nI_lt (by omega) (by omega)), b198_52, t1, b198_59, if_neg hz, if_neg hz, if_neg (nI_pos (by omega)), b198_65, if_neg (fun y => hz' ((l64_lt fp (fb _ (by omega))).mp y)), b198_77, b198_78, if_pos rfl, b198_90, b198_91, if_pos rfl, b198_102, b198_104, nI_1]
        exact this
  obtain ⟨M2, x', y', z', u1, u2, u3⟩ := rf N 0 M1 UN UN UN (by omega) (m1 122 (by omega)) frT.rf
  have hl := sLk_lt (f := f) N (by omega)
  refine ⟨if b = 0 then nI (sLk f N) else nI (f (sLk f N)), M1, M2, fun Q => ?_, fun Q => ?_, ⟨N, T, C1.T u3 (by rw [u2, m1 122 (by omega)])⟩, (frN.ofL r3).fz.tr (frN.ofT u3).fz⟩
  · rw [p1, if_neg hm, b86_34, C.n1, if_neg (nI_ne0 (by omega) (by omega)), b86_47, and_iff_right (vp4 hk), e44, r1, b86_57]
    have e1 : sLk f 1 = 0 := by have := sLk_lt (f := f) 1 (by decide); omega
    have c1 := cl (N - 1) 1 Q (by omega) (by omega)
    rw [e1] at c1
    refine Iff.trans c1 ?_
    rw [b86_99, b86_103, b86_107, and_iff_right (vp10 (by omega)), nI_clamp (by omega), r2' _ hl, b86_113, b86_113, QI (Q := Q)]
  · rw [p2 M1 Q (m1 125 (by omega)), if_neg hm']
    refine (u1 Q).trans ?_
    rw [b198_112, if_neg (nI_pos (by omega)), b198_121, b198_125, b198_129, l64_32 (fb _ hl), b198_132, b198_132, QI (Q := Q)]
end K15
