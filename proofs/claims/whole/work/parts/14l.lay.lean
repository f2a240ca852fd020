/-! lay, copy -/
section K12
variable {d : Nat} {M I : IM} {N T : Nat} {Q : Po}
theorem k55 {r q r' q' : Nat} (R : isR r q) (R' : isR r' q') (n1 : r' ≠ r) (n2 : r' ≠ q) (n3 : q' ≠ r) (n4 : q' ≠ q) {x : Value} : ∃ I', Rn (d, 55, 0, [.ref r, .ref r', x], [], I) .null I' ∧ I' r 1 = I r' 1 ∧ I' r 2 = I r' 2 ∧ (∀ i, i < 24 → I' q i = I q' i) ∧ ∀ c, c ≠ r → c ≠ q → I' c = I c := by
  obtain ⟨R1, R2, R3, R4, R5⟩ := R
  obtain ⟨S1, S2, S3, S4, S5⟩ := R'
  have loop : ∀ (k i : Nat) (I1 : IM), i + k = 24 → (∀ j, j < i → I1 q j = I q' j) → I1 q' = I q' → ∃ I', Rn (d, 55, 18, [.ref r, .ref r', .int (nI i)], [], I1) .null I' ∧ (∀ j, j < 24 → I' q j = I q' j) ∧ ∀ c, c ≠ q → I' c = I1 c := by
    intro k
    induction k with
    | zero =>
      intro i I1 hi f _
      refine ⟨I1, fun Q => ?_, fun j hj => f j (by omega), fun _ _ => rfl⟩
      rw [b55_18 R1 (by rw [R2]; exact R3), R2, R4, if_neg (nI_nlt (by omega) (by omega)), b55_45]
    | succ k ih =>
      intro i I1 hi f e
      obtain ⟨I', r1, r2, r3⟩ := ih (i + 1) (up I1 q i (I1 q' i)) (by omega) (fun j hj => by
        by_cases z : j = i
        · rw [z, up_s, e]
        · rw [up_k z]; exact f j (by omega)) (by rw [up_c n4]; exact e)
      refine ⟨I', fun Q => ?_, r2, fun c hc => by rw [r3 c hc, up_c hc]⟩
      rw [b55_18 R1 (by rw [R2]; exact R3), R2, R4, if_pos (nI_lt (by omega) (by omega)), b55_27 R1 S1 (by rw [S2]; exact S3) (by rw [R2]; exact R3), R2, S2, R4, S4, and_iff_right (vp_in_nI (by omega) (by decide)), and_iff_right (vp_in_nI (by omega) (by decide)), nI_clamp (by omega), nI_1]
      exact r1 Q
  obtain ⟨I', r1, r2, r3⟩ := loop 24 0 (up (up I r 1 (I r' 1)) r 2 (I r' 2)) (by omega) (fun j hj => by omega) (by rw [up_c n3, up_c n3])
  refine ⟨I', fun Q => ?_, by rw [r3 r R5, up_k (by decide), up_s], by rw [r3 r R5, up_s], r2, fun c h1 h2 => by rw [r3 c h2, up_c h1, up_c h1]⟩
  rw [b55_0 S1 R1, up_c n1]
  exact r1 Q
/-- a slot has changed -/
theorem Cp.sl (C : Cp M N T) {M' : IM} {j : Nat} (hj : j < 5) (f : ∀ c, ¬ (101 + 4 * j ≤ c ∧ c < 105 + 4 * j) → ¬ (128 ≤ c ∧ c < 133) → M' c = M c) (f4 : ∀ c, 128 ≤ c → c < 132 → ∀ i, i ≠ j → M' c i = M c i) (f5 : ∀ i, ¬ (24 * j ≤ i ∧ i < 24 * j + 24) → M' 132 i = M 132 i)
    (new : M' (101 + 4 * j) 2 = M' 128 j ∧ (M' 128 j = 0 ∨
  (M' 128 j = 1 ∧ M' (102 + 4 * j) 0 = M' 129 j ∧ (∃ q, q ≤ 5 ∧ M' 129 j = nI q) ∧ M' 130 j = gWorth (M' (102 + 4 * j) 0) (M' (102 + 4 * j) 1) (M' (102 + 4 * j) 2) (M' (102 + 4 * j) 3) (M' (102 + 4 * j) 4)) ∨
  (M' 128 j = 2 ∧ M' (103 + 4 * j) 2 = M' 131 j ∧ (∃ n, n ≤ 24 ∧ M' 131 j = nI n) ∧ ∀ i, i < 24 → M' (104 + 4 * j) i = M' 132 (24 * j + i)) ∨
  (M' 128 j = 3 ∧ M' (101 + 4 * j) 3 = M' 129 j))) : Cp M' N T := by
  have e122 : M' 122 = M 122 := f 122 (by omega) (by omega)
  refine ⟨C.h.st (by rw [e122]; exact C.h.H.fr (fun c hc => f c (by omega) (by omega))) (by rw [e122]; exact C.h.B) (fun i _ => by rw [e122]) (by rw [e122]) (f 3 (by omega) (by omega)) (fun c h1 h2 _ => f c (by omega) (by omega)) (by rw [e122]; exact C.h.ev), C.i.fr (by rw [f 0 (by omega) (by omega)]) (by rw [f 121 (by omega) (by omega)]) (fun c h1 h2 => f c (by omega) (by omega)) (f 123 (by omega) (by omega)) (fun i _ _ => by rw [e122]) (Nat.le_refl _), C.t.fr (by rw [f 42 (by omega) (by omega)]) (by rw [f 121 (by omega) (by omega)]) (f 43 (by omega) (by omega)) (f 134 (by omega) (by omega)), C.s.fr (fun c hc => f c (by omega) (by omega)), fun j' hj' => ?_, C.w.fr (by rw [f 0 (by omega) (by omega)]) (by rw [f 121 (by omega) (by omega)]) (f 46 (by omega) (by omega)) (f 138 (by omega) (by omega))⟩
  by_cases z : j' = j
  · subst z; exact new
  · have := C.l j' hj'
    rw [f (101 + 4 * j') (by omega) (by omega), f (102 + 4 * j') (by omega) (by omega), f (103 + 4 * j') (by omega) (by omega), f (104 + 4 * j') (by omega) (by omega), f4 128 (by omega) (by omega) j' z, f4 129 (by omega) (by omega) j' z, f4 130 (by omega) (by omega) j' z, f4 131 (by omega) (by omega) j' z]
    refine ⟨this.1, ?_⟩
    rcases this.2 with y | y | ⟨y1, y2, y3, y4⟩ | y
    · exact Or.inl y
    · exact Or.inr (Or.inl y)
    · exact Or.inr (Or.inr (Or.inl ⟨y1, y2, y3, fun i hi => by rw [f5 _ (by omega)]; exact y4 i hi⟩))
    · exact Or.inr (Or.inr (Or.inr y))
theorem k201_loop {j k : Nat} {b l4 l5 : Int32} (hj : j < 5) (hk : k < 4) : ∀ (m i : Nat) (I1 : IM), i + m = 24 → (∀ p, p < i → I1 132 (24 * j + p) = I1 127 (24 * k + p)) → ∃ I', Rn (d, 201, 150, [.ref 121, .int (nI j), .int b, .int (nI k), .int l4, .int l5, .int (nI i)], [], I1) (.int l5) I' ∧ (∀ p, p < 24 → I' 132 (24 * j + p) = I1 127 (24 * k + p)) ∧ (∀ p, ¬ (24 * j ≤ p ∧ p < 24 * j + 24) → I' 132 p = I1 132 p) ∧ ∀ c, c ≠ 132 → I' c = I1 c := by
  intro m
  induction m with
  | zero =>
    intro i I1 hi f
    refine ⟨I1, fun Q => ?_, fun p hp => f p (by omega), fun _ _ => rfl, fun _ _ => rfl⟩
    rw [b201_150, if_neg (show ¬ nI i < 24 from (show ¬ nI i < nI 24 from nI_nlt (by omega) (by omega))), b201_187]
  | succ m ih =>
    intro i I1 hi f
    have e127 : (up I1 132 (24 * j + i) (I1 127 (24 * k + i))) 127 = I1 127 := up_c (by decide)
    obtain ⟨I', r1, r2, r3, r4⟩ := ih (i + 1) (up I1 132 (24 * j + i) (I1 127 (24 * k + i))) (by omega) (fun p hp => by
      rw [e127]
      by_cases z : p = i
      · rw [z, up_s]
      · rw [up_k (by omega)]; exact f p (by omega))
    rw [e127] at r2
    refine ⟨I', fun Q => ?_, r2, fun p hp => by rw [r3 p hp, up_k (by omega)], fun c hc => by rw [r4 c hc, up_c hc]⟩
    rw [b201_150, if_pos (show nI i < 24 from (show nI i < nI 24 from nI_lt (by omega) (by decide))), b201_157, i24, i24, and_iff_right (vp_in_nI (by omega) (by decide)), and_iff_right (vp_in_nI (by omega) (by decide)), nI_clamp (by omega), nI_clamp (by omega), nI_1]
    exact r1 Q
/-- promise 32 -/
theorem m99 (C : Cp M N T) {a b c : Int32} : Ok (d + 200) M 99 [.ref 0, .int a, .int b, .int c, UN, UN] 201 [.ref 121, .int a, .int b, .int c, UN, UN, UN] := by
  have hN := C.le
  -- the reference: is it good
  have good : ∀ g : Int32, (∀ (I : IM) (Q : Po), I 122 0 = nI N → (E (d + 200, 201, 0, [.ref 121, .int a, .int b, .int c, UN, UN, UN], [], I) Q ↔ E (d + 200, 201, 39, [.ref 121, .int a, .int b, .int c, UN, UN, UN], [.int g], I) Q)) → ∀ (I : IM) (Q : Po), I 122 0 = nI N → (E (d + 200, 201, 0, [.ref 121, .int a, .int b, .int c, UN, UN, UN], [], I) Q ↔ if 0 ≤ a ∧ a ≤ 4 then (if g = 0 then Q (.int (-1000000001)) I else E (d + 200, 201, 56, [.ref 121, .int a, .int b, .int c, .int g, UN, UN], [], I) Q) else Q (.int (-1000000001)) I) := fun g h I Q e => by
    rw [h I Q e, b201_39, k200, b201_45, ite_b01, b201_48, b201_53]
  have slot0 : ∀ Q : Po, ¬ (0 ≤ a ∧ a ≤ 4) → (E (d + 200, 99, 0, [.ref 0, .int a, .int b, .int c, UN, UN], [], M) Q ↔ Q (.int (-1000000001)) M) := fun Q h => by rw [b99_0, k112, b99_4, ite_b01, if_neg h, b99_16]
  have bad : (∀ (I : IM) (Q : Po), I 122 0 = nI N → (E (d + 200, 201, 0, [.ref 121, .int a, .int b, .int c, UN, UN, UN], [], I) Q ↔ E (d + 200, 201, 39, [.ref 121, .int a, .int b, .int c, UN, UN, UN], [.int 0], I) Q)) → (∀ Q : Po, 0 ≤ a ∧ a ≤ 4 → (E (d + 200, 99, 0, [.ref 0, .int a, .int b, .int c, UN, UN], [], M) Q ↔ Q (.int (-1000000001)) M)) → Ok (d + 200) M 99 [.ref 0, .int a, .int b, .int c, UN, UN] 201 [.ref 121, .int a, .int b, .int c, UN, UN, UN] := fun h1 h2 => by
    refine Ok.ret C (-1000000001) (fun Q => ?_) (fun Q => ?_)
    · by_cases z : 0 ≤ a ∧ a ≤ 4
      · exact h2 Q z
      · exact slot0 Q z
    · rw [good 0 h1 M Q C.n2, if_pos rfl, ite_self]
  have noslot : (∀ (I : IM) (Q : Po), I 122 0 = nI N → (E (d + 200, 201, 0, [.ref 121, .int a, .int b, .int c, UN, UN, UN], [], I) Q ↔ E (d + 200, 201, 39, [.ref 121, .int a, .int b, .int c, UN, UN, UN], [.int 1], I) Q)) → ¬ (0 ≤ a ∧ a ≤ 4) → Ok (d + 200) M 99 [.ref 0, .int a, .int b, .int c, UN, UN] 201 [.ref 121, .int a, .int b, .int c, UN, UN, UN] := fun h1 h2 => by
    refine Ok.ret C (-1000000001) (fun Q => slot0 Q h2) (fun Q => ?_)
    rw [good 1 h1 M Q C.n2, if_neg h2]
  have cls : ∀ Q : Po, 0 ≤ a ∧ a ≤ 4 → 0 ≤ b ∧ b ≤ 3 → (E (d + 200, 99, 0, [.ref 0, .int a, .int b, .int c, UN, UN], [], M) Q ↔ E (d + 200, 99, 19, [.ref 0, .int a, .int b, .int c, UN, UN], [], M) Q) := fun Q z y => by
    rw [b99_0, k112, b99_4, ite_b01, if_pos z, b99_7, k108, b99_13, ite_b01, if_pos y]
  -- b within 0 .. 3 ?
  by_cases hb : 0 ≤ b ∧ b ≤ 3
  rotate_left
  · have n : ∀ k, k ≤ 3 → ¬ b = nI k := fun k hk e => hb (by rw [e]; exact ⟨(le_nI (a := 0) (by decide) (by omega)).mpr (by omega), (le_nI (b := 3) (by omega) (by decide)).mpr hk⟩)
    refine bad (fun I Q e => ?_) (fun Q z => ?_)
    · rw [b201_0, if_neg (show ¬ b = 0 from n 0 (by decide)), b201_4, if_neg (show ¬ b = 3 from n 3 (by decide)), b201_9, if_neg (show ¬ b = 1 from n 1 (by decide)), b201_22, if_neg (show ¬ b = 2 from n 2 (by decide)), b201_38]
    · rw [b99_0, k112, b99_4, ite_b01, if_pos z, b99_7, k108, b99_13, ite_b01, if_neg hb, b99_16]
  obtain ⟨t, ht, rfl⟩ := wi0 3 (by decide) (by decide) hb
  have ht' : t = 0 ∨ t = 1 ∨ t = 2 ∨ t = 3 := by omega
  rcases ht' with rfl | rfl | rfl | rfl
  · -- nothing
    have g1 : ∀ (I : IM) (Q : Po), I 122 0 = nI N → (E (d + 200, 201, 0, [.ref 121, .int a, .int (nI 0), .int c, UN, UN, UN], [], I) Q ↔ E (d + 200, 201, 39, [.ref 121, .int a, .int (nI 0), .int c, UN, UN, UN], [.int 1], I) Q) := fun I Q e => by rw [b201_0, if_pos (by decide), b201_34]
    by_cases h1 : 0 ≤ a ∧ a ≤ 4
    rotate_left
    · exact noslot g1 h1
    obtain ⟨j, hj', rfl⟩ := wi0 4 (by decide) (by decide) h1
    have hj : j < 5 := by omega
    obtain ⟨t1, t2, t3, t4⟩ := sl0 j hj
    have cj : (nI j).toNatClampNeg = j := nI_clamp (by omega)
    refine ⟨M 128 j, up M (101 + 4 * j) 2 (nI 0), up (up (up (up M (101 + 4 * j) 2 (nI 0)) 128 j (nI 0)) 129 j c) 130 j 0, fun Q => ?_, fun Q => ?_, ⟨N, T, C.sl hj (fun c' z1 z2 => by rw [up_c (by omega), up_c (by omega), up_c (by omega), up_c (by omega)]) (fun c' z1 z2 i hi => ?_) (fun i hi => by rw [up_c (by decide), up_c (by decide), up_c (by decide), up_c (by omega)]) ⟨?_, Or.inl ?_⟩⟩, fun c' hc => by rw [up_c (by omega), up_c (by omega), up_c (by omega), up_c (by omega)]⟩
    · rw [cls Q h1 hb, b99_19, if_neg (by decide), b99_32, if_neg (by decide), b99_47, if_neg (by decide), b99_67 (by rw [r45 hj]; exact t1), and_iff_right (vp5 hj), if_neg (by decide), r45 hj, b99_113, if_neg (by decide), b99_135, if_neg (by decide), b99_146, (C.l j hj).1]
    · rw [good 1 g1 _ Q (by rw [up_c (by omega)]; exact C.n2), if_pos h1, if_neg (by decide), b201_56, if_neg (by decide), b201_74, and_iff_right (vp5 hj), and_iff_right (vp5 hj), cj, if_neg (by decide), b201_108, b201_109, and_iff_right (vp5 hj), cj, if_neg (by decide), b201_128, b201_129, and_iff_right (vp5 hj), cj, if_neg (by decide), b201_187, up_c (by omega)]
    · have : c' = 128 ∨ c' = 129 ∨ c' = 130 ∨ c' = 131 := by omega
      rcases this with rfl | rfl | rfl | rfl
      · rw [up_c (by decide), up_c (by decide), up_k hi, up_c (by omega)]
      · rw [up_c (by decide), up_k hi, up_c (by decide), up_c (by omega)]
      · rw [up_k hi, up_c (by decide), up_c (by decide), up_c (by omega)]
      · rw [up_c (by decide), up_c (by decide), up_c (by decide), up_c (by omega)]
    · rw [up_c (by omega), up_c (by omega), up_c (by omega), up_s, up_c (by decide), up_c (by decide), up_s]
    · rw [up_c (by decide), up_c (by decide), up_s]; decide
  · -- a person
    by_cases hp : 0 ≤ c ∧ c ≤ nI N - 1
    rotate_left
    · refine bad (fun I Q e => ?_) (fun Q z => ?_)
      · rw [b201_0, if_neg (by decide), b201_4, if_neg (by decide), b201_9, if_pos (by decide), b201_14, k128, b201_19, e, ite_b01, if_neg hp, b201_22, if_neg (by decide), b201_38]
      · rw [cls Q z hb, b99_19, if_pos (by decide), b99_24, k113, b99_29, C.n1, ite_b01, if_neg hp, b99_44]
    have g1 : ∀ (I : IM) (Q : Po), I 122 0 = nI N → (E (d + 200, 201, 0, [.ref 121, .int a, .int (nI 1), .int c, UN, UN, UN], [], I) Q ↔ E (d + 200, 201, 39, [.ref 121, .int a, .int (nI 1), .int c, UN, UN, UN], [.int 1], I) Q) := fun I Q e => by rw [b201_0, if_neg (by decide), b201_4, if_neg (by decide), b201_9, if_pos (by decide), b201_14, k128, b201_19, e, ite_b01, if_pos hp, b201_34]
    by_cases h1 : 0 ≤ a ∧ a ≤ 4
    rotate_left
    · exact noslot g1 h1
    obtain ⟨j, hj', rfl⟩ := wi0 4 (by decide) (by decide) h1
    have hj : j < 5 := by omega
    obtain ⟨t1, t2, t3, t4⟩ := sl0 j hj
    have cj : (nI j).toNatClampNeg = j := nI_clamp (by omega)
    obtain ⟨p, hpN, rfl⟩ := (isP (by omega)).mp hp
    have hne : 4 + p ≠ 102 + 4 * j := by omega
    generalize hM1 : up (up (up (up (up (up M (101 + 4 * j) 2 (nI 1)) (102 + 4 * j) 0 (M (4 + p) 0)) (102 + 4 * j) 1 (M (4 + p) 1)) (102 + 4 * j) 2 (M (4 + p) 2)) (102 + 4 * j) 3 (M (4 + p) 3)) (102 + 4 * j) 4 (M (4 + p) 4) = M1
    have f1 : ∀ c', c' ≠ 101 + 4 * j → c' ≠ 102 + 4 * j → M1 c' = M c' := fun c' z1 z2 => by rw [← hM1, up_c z2, up_c z2, up_c z2, up_c z2, up_c z2, up_c z1]
    have v1 : M1 (101 + 4 * j) 2 = nI 1 := by rw [← hM1, up_c (by omega), up_c (by omega), up_c (by omega), up_c (by omega), up_c (by omega), up_s]
    have v2 : ∀ i, i < 5 → M1 (102 + 4 * j) i = M 122 (10 + 5 * p + i) := fun i hi => by rw [← hM1, cp5_at (v := M (4 + p)) hi]; exact C.g hpN hi
    have e122 : M1 122 = M 122 := f1 122 (by omega) (by omega)
    have eW : gWorth (gK (M 122) p) (gO (M 122) p) (gS (M 122) p) (gW (M 122) p) (gT (M 122) p) = gWorth (M1 (102 + 4 * j) 0) (M1 (102 + 4 * j) 1) (M1 (102 + 4 * j) 2) (M1 (102 + 4 * j) 3) (M1 (102 + 4 * j) 4) := by
      rw [v2 0 (by decide), v2 1 (by decide), v2 2 (by decide), v2 3 (by decide), v2 4 (by decide)]
      rfl
    refine ⟨M 128 j, M1, up (up (up M1 128 j (nI 1)) 129 j (M 122 (10 + 5 * p))) 130 j (gWorth (gK (M 122) p) (gO (M 122) p) (gS (M 122) p) (gW (M 122) p) (gT (M 122) p)), fun Q => ?_, fun Q => ?_, ⟨N, T, C.sl hj (fun c' z1 z2 => by rw [up_c (by omega), up_c (by omega), up_c (by omega), f1 c' (by omega) (by omega)]) (fun c' z1 z2 i hi => ?_) (fun i hi => by rw [up_c (by decide), up_c (by decide), up_c (by decide), f1 132 (by omega) (by omega)]) ⟨?_, Or.inr (Or.inl ⟨?_, ?_, ?_, ?_⟩)⟩⟩, fun c' hc => by rw [up_c (by omega), up_c (by omega), up_c (by omega), f1 c' (by omega) (by omega)]⟩
    · rw [cls Q h1 hb, b99_19, if_pos (by decide), b99_24, k113, b99_29, C.n1, ite_b01, if_pos hp, b99_32, if_neg (by decide), b99_47, if_neg (by decide), b99_67 (by rw [r45 hj]; exact t1), and_iff_right (vp5 hj), if_pos (by decide), r45 hj, b99_93 t1 (by rw [t2]; exact t4), and_iff_right (vp10 (by omega)), t2, g4 (by omega), k13 t4 (s4 (by omega)) hne, b99_110, b99_146, (C.l j hj).1, up_c (c := 101 + 4 * j) (c' := 4 + p) (by omega), hM1]
    · rw [good 1 g1 _ Q (by rw [e122]; exact C.n2), if_pos h1, if_neg (by decide), b201_56, if_neg (by decide), b201_74, and_iff_right (vp5 hj), and_iff_right (vp5 hj), cj, if_pos (by decide), b201_99, k126_0 (by omega), up_c (c := 128) (c' := 122) (by decide), e122, b201_105, b201_109, and_iff_right (vp5 hj), cj, if_pos (by decide), b201_120, k137 (by omega), up_c (c := 129) (c' := 122) (by decide), up_c (c := 128) (c' := 122) (by decide), e122, b201_125, b201_129, and_iff_right (vp5 hj), cj, if_neg (by decide), b201_187, f1 128 (by omega) (by omega)]
    · have : c' = 128 ∨ c' = 129 ∨ c' = 130 ∨ c' = 131 := by omega
      rcases this with rfl | rfl | rfl | rfl
      · rw [up_c (by decide), up_c (by decide), up_k hi, f1 128 (by omega) (by omega)]
      · rw [up_c (by decide), up_k hi, up_c (by decide), f1 129 (by omega) (by omega)]
      · rw [up_k hi, up_c (by decide), up_c (by decide), f1 130 (by omega) (by omega)]
      · rw [up_c (by decide), up_c (by decide), up_c (by decide), f1 131 (by omega) (by omega)]
    · rw [up_c (by omega), up_c (by omega), up_c (by omega), v1, up_c (by decide), up_c (by decide), up_s]
    · rw [up_c (by decide), up_c (by decide), up_s]; decide
    · rw [up_c (by omega), up_c (by omega), up_c (by omega), v2 0 (by decide), up_c (by decide), up_s]
      rfl
    · rw [up_c (by decide), up_s]; exact (C.h.B.2.2.2.2 p hpN).1
    · rw [up_s, up_c (c' := 102 + 4 * j) (by omega), up_c (c' := 102 + 4 * j) (by omega), up_c (c' := 102 + 4 * j) (by omega)]; exact eW
  · -- a sheet
    by_cases hs : 0 ≤ c ∧ c ≤ 3
    rotate_left
    · refine bad (fun I Q e => ?_) (fun Q z => ?_)
      · rw [b201_0, if_neg (by decide), b201_4, if_neg (by decide), b201_9, if_neg (by decide), b201_22, if_pos (by decide), b201_27, k192, b201_31, ite_b01, if_neg hs, b201_38]
      · rw [cls Q z hb, b99_19, if_neg (by decide), b99_32, if_pos (by decide), b99_37, k111, b99_41, ite_b01, if_neg hs, b99_44]
    have g1 : ∀ (I : IM) (Q : Po), I 122 0 = nI N → (E (d + 200, 201, 0, [.ref 121, .int a, .int (nI 2), .int c, UN, UN, UN], [], I) Q ↔ E (d + 200, 201, 39, [.ref 121, .int a, .int (nI 2), .int c, UN, UN, UN], [.int 1], I) Q) := fun I Q e => by rw [b201_0, if_neg (by decide), b201_4, if_neg (by decide), b201_9, if_neg (by decide), b201_22, if_pos (by decide), b201_27, k192, b201_31, ite_b01, if_pos hs, b201_34]
    by_cases h1 : 0 ≤ a ∧ a ≤ 4
    rotate_left
    · exact noslot g1 h1
    obtain ⟨j, hj', rfl⟩ := wi0 4 (by decide) (by decide) h1
    have hj : j < 5 := by omega
    obtain ⟨t1, t2, t3, t4⟩ := sl0 j hj
    have cj : (nI j).toNatClampNeg = j := nI_clamp (by omega)
    obtain ⟨k, hk', rfl⟩ := wi0 3 (by decide) (by decide) hs
    have hk : k < 4 := by omega
    have ck : (nI k).toNatClampNeg = k := nI_clamp (by omega)
    have R := shR k hk
    have R' := slR j hj
    obtain ⟨s1, s2, s3, s4, s5⟩ := C.s k hk
    have p1 : ∀ Q : Po, E (d + 200, 99, 0, [.ref 0, .int (nI j), .int (nI 2), .int (nI k), UN, UN], [], M) Q ↔ if M 125 k = -1 then Q (.int (-1000000011)) M else E (d + 200, 99, 67, [.ref 0, .int (nI j), .int (nI 2), .int (nI k), UN, UN], [], M) Q := fun Q => by
      rw [cls Q h1 hb, b99_19, if_neg (by decide), b99_32, if_pos (by decide), b99_37, k111, b99_41, ite_b01, if_pos hs, b99_47, if_pos (by decide), b99_52 (by rw [r44 hk]; exact R.1), and_iff_right (vp4 hk), r44 hk, k53 R, b99_61, s1, ite_b01, b99_64]
    have p2 : ∀ (I : IM) (Q : Po), I 122 0 = nI N → I 125 = M 125 → (E (d + 200, 201, 0, [.ref 121, .int (nI j), .int (nI 2), .int (nI k), UN, UN, UN], [], I) Q ↔ if M 125 k < 0 then Q (.int (-1000000011)) I else E (d + 200, 201, 74, [.ref 121, .int (nI j), .int (nI 2), .int (nI k), .int 1, UN, UN], [], I) Q) := fun I Q e e' => by
      rw [good 1 g1 I Q e, if_pos h1, if_neg (by decide), b201_56, if_pos (by decide), b201_61, and_iff_right (vp4 hk), ck, e', b201_70]
    by_cases hm : M 125 k = -1
    · exact Ok.ret C (-1000000011) (fun Q => by rw [p1, if_pos hm]) (fun Q => by rw [p2 M Q C.n2 rfl, if_pos (by rw [hm]; decide)])
    have hm' : ¬ M 125 k < 0 := by rw [← m1_lt s3]; exact hm
    obtain ⟨M1, x1, x2, x3, x4, x5⟩ := k55 (d := d + 199) (I := up M (101 + 4 * j) 2 (nI 2)) R' R (by omega) (by omega) (by omega) (by omega) (x := UN)
    have f1 : ∀ c', ¬ (101 + 4 * j ≤ c' ∧ c' < 105 + 4 * j) → M1 c' = M c' := fun c' z => by rw [x5 c' (by omega) (by omega), up_c (by omega)]
    have v1 : M1 (101 + 4 * j) 2 = nI 2 := by rw [x5 _ (by omega) (by omega), up_s]
    have v2 : M1 (103 + 4 * j) 2 = M 126 k := by rw [x3, up_c (by omega)]; exact s2
    have v3 : ∀ i, i < 24 → M1 (104 + 4 * j) i = M 127 (24 * k + i) := fun i hi => by rw [x4 i hi, up_c (by omega)]; exact (s5 i hi).1
    obtain ⟨M2, y1, y2, y3, y4⟩ := k201_loop (d := d + 200) (b := nI 2) (l4 := 1) (l5 := M 128 j) hj hk 24 0 (up (up (up (up M1 128 j (nI 2)) 129 j (nI k)) 130 j 0) 131 j (M 126 k)) (by omega) (fun p hp => by omega)
    have w127 : (up (up (up (up M1 128 j (nI 2)) 129 j (nI k)) 130 j 0) 131 j (M 126 k)) 127 = M 127 := by rw [up_c (by decide), up_c (by decide), up_c (by decide), up_c (by decide), f1 127 (by omega)]
    have w132 : (up (up (up (up M1 128 j (nI 2)) 129 j (nI k)) 130 j 0) 131 j (M 126 k)) 132 = M 132 := by rw [up_c (by decide), up_c (by decide), up_c (by decide), up_c (by decide), f1 132 (by omega)]
    rw [w127] at y2
    rw [w132] at y3
    have g2 : ∀ c', c' < 128 ∨ 132 < c' → M2 c' = M1 c' := fun c' z => by rw [y4 c' (by omega), up_c (by omega), up_c (by omega), up_c (by omega), up_c (by omega)]
    refine ⟨M 128 j, M1, M2, fun Q => ?_, fun Q => ?_, ⟨N, T, C.sl hj (fun c' z1 z2 => by rw [g2 c' (by omega), f1 c' z1]) (fun c' z1 z2 i hi => ?_) y3 ⟨?_, Or.inr (Or.inr (Or.inl ⟨?_, ?_, ?_, fun i hi => ?_⟩))⟩⟩, fun c' hc => by rw [g2 c' (by omega), f1 c' (by omega)]⟩
    · rw [p1, if_neg hm, b99_67 (by rw [r45 hj]; exact t1), and_iff_right (vp5 hj), if_neg (by decide), r45 hj, b99_113, if_pos (by decide), b99_118 t1 (by rw [t3]; exact R'.1), and_iff_right (vp4 hk), t3, r44 hk, x1, b99_132, b99_146, (C.l j hj).1]
    · rw [p2 M1 Q (by rw [f1 122 (by omega)]; exact C.n2) (f1 125 (by omega)), if_neg hm', b201_74, and_iff_right (vp5 hj), and_iff_right (vp5 hj), cj, if_neg (by decide), b201_108, b201_109, and_iff_right (vp5 hj), cj, if_neg (by decide), b201_128, b201_129, and_iff_right (vp5 hj), cj, if_pos (by decide), b201_135, and_iff_right (vp4 hk), and_iff_right (vp5 hj), cj, ck, up_c (c := 130) (c' := 126) (by decide), up_c (c := 129) (c' := 126) (by decide), up_c (c := 128) (c' := 126) (by decide), f1 126 (by omega), f1 128 (by omega)]
      exact y1 Q
    · rw [y4 c' (by omega)]
      have : c' = 128 ∨ c' = 129 ∨ c' = 130 ∨ c' = 131 := by omega
      rcases this with rfl | rfl | rfl | rfl
      · rw [up_c (by decide), up_c (by decide), up_c (by decide), up_k hi, f1 128 (by omega)]
      · rw [up_c (by decide), up_c (by decide), up_k hi, up_c (by decide), f1 129 (by omega)]
      · rw [up_c (by decide), up_k hi, up_c (by decide), up_c (by decide), f1 130 (by omega)]
      · rw [up_k hi, up_c (by decide), up_c (by decide), up_c (by decide), f1 131 (by omega)]
    · rw [g2 _ (by omega), v1, y4 128 (by decide), up_c (by decide), up_c (by decide), up_c (by decide), up_s]
    · rw [y4 128 (by decide), up_c (by decide), up_c (by decide), up_c (by decide), up_s]; decide
    · rw [g2 _ (by omega), v2, y4 131 (by decide), up_s]
    · rw [y4 131 (by decide), up_s]; exact s4
    · rw [g2 _ (by omega), v3 i hi, y2 i hi]
  · -- a number
    have g1 : ∀ (I : IM) (Q : Po), I 122 0 = nI N → (E (d + 200, 201, 0, [.ref 121, .int a, .int (nI 3), .int c, UN, UN, UN], [], I) Q ↔ E (d + 200, 201, 39, [.ref 121, .int a, .int (nI 3), .int c, UN, UN, UN], [.int 1], I) Q) := fun I Q e => by rw [b201_0, if_neg (by decide), b201_4, if_pos (by decide), b201_34]
    by_cases h1 : 0 ≤ a ∧ a ≤ 4
    rotate_left
    · exact noslot g1 h1
    obtain ⟨j, hj', rfl⟩ := wi0 4 (by decide) (by decide) h1
    have hj : j < 5 := by omega
    obtain ⟨t1, t2, t3, t4⟩ := sl0 j hj
    have cj : (nI j).toNatClampNeg = j := nI_clamp (by omega)
    refine ⟨M 128 j, up (up M (101 + 4 * j) 2 (nI 3)) (101 + 4 * j) 3 c, up (up (up (up (up M (101 + 4 * j) 2 (nI 3)) (101 + 4 * j) 3 c) 128 j (nI 3)) 129 j c) 130 j 0, fun Q => ?_, fun Q => ?_, ⟨N, T, C.sl hj (fun c' z1 z2 => by rw [up_c (by omega), up_c (by omega), up_c (by omega), up_c (by omega), up_c (by omega)]) (fun c' z1 z2 i hi => ?_) (fun i hi => by rw [up_c (by decide), up_c (by decide), up_c (by decide), up_c (by omega), up_c (by omega)]) ⟨?_, Or.inr (Or.inr (Or.inr ⟨?_, ?_⟩))⟩⟩, fun c' hc => by rw [up_c (by omega), up_c (by omega), up_c (by omega), up_c (by omega), up_c (by omega)]⟩
    · rw [cls Q h1 hb, b99_19, if_neg (by decide), b99_32, if_neg (by decide), b99_47, if_neg (by decide), b99_67 (by rw [r45 hj]; exact t1), and_iff_right (vp5 hj), if_neg (by decide), r45 hj, b99_113, if_neg (by decide), b99_135, if_pos (by decide), b99_140 t1, b99_146, (C.l j hj).1]
    · rw [good 1 g1 _ Q (by rw [up_c (by omega), up_c (by omega)]; exact C.n2), if_pos h1, if_neg (by decide), b201_56, if_neg (by decide), b201_74, and_iff_right (vp5 hj), and_iff_right (vp5 hj), cj, if_neg (by decide), b201_108, b201_109, and_iff_right (vp5 hj), cj, if_neg (by decide), b201_128, b201_129, and_iff_right (vp5 hj), cj, if_neg (by decide), b201_187, up_c (by omega), up_c (by omega)]
    · have : c' = 128 ∨ c' = 129 ∨ c' = 130 ∨ c' = 131 := by omega
      rcases this with rfl | rfl | rfl | rfl
      · rw [up_c (by decide), up_c (by decide), up_k hi, up_c (by omega), up_c (by omega)]
      · rw [up_c (by decide), up_k hi, up_c (by decide), up_c (by omega), up_c (by omega)]
      · rw [up_k hi, up_c (by decide), up_c (by decide), up_c (by omega), up_c (by omega)]
      · rw [up_c (by decide), up_c (by decide), up_c (by decide), up_c (by omega), up_c (by omega)]
    · rw [up_c (by omega), up_c (by omega), up_c (by omega), up_k (by decide), up_s, up_c (by decide), up_c (by decide), up_s]
    · rw [up_c (by decide), up_c (by decide), up_s]; decide
    · rw [up_c (by omega), up_c (by omega), up_c (by omega), up_s, up_c (by decide), up_s]
end K12
