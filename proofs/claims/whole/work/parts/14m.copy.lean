/-! copy, check -/
theorem nn {v : Int32} (h : ¬ v < 0) : ∃ p, p < 2 ^ 31 ∧ v = nI p := by
  have h1 := Int32.le_iff_toInt_le.mp (Int32.not_lt.mp h)
  rw [show (0 : Int32).toInt = 0 by decide] at h1
  have h2 := Int32.toInt_lt v
  refine ⟨v.toInt.toNat, by omega, Int32.toInt_inj.mp ?_⟩
  rw [nI_toInt (by omega)]
  omega
theorem lg_gt (x y : Int64) : 0 < lg_cmp x y ↔ ¬ x ≤ y := by
  unfold lg_cmp
  simp only [gt_iff_lt, Int64.lt_iff_toInt_lt, Int64.le_iff_toInt_le, ← Int64.toInt_inj]
  by_cases h1 : y.toInt < x.toInt
  · simp [h1]
  · by_cases h2 : x.toInt = y.toInt
    · simp [h2]
    · simp only [h1, h2, if_false]
      constructor
      · intro h; exact absurd h (by decide)
      · intro h; omega
theorem lgc {p m n : Nat} (hp : p < 2 ^ 31) (hm : m < 2 ^ 31) (hn : n < 2 ^ 31) : 0 < lg_cmp ((nI p).toInt64 + (nI m).toInt64) (nI n).toInt64 ↔ n < p + m := by
  rw [lg_gt, Int64.le_iff_toInt_le, Int64.toInt_add, Int32.toInt_toInt64, Int32.toInt_toInt64, Int32.toInt_toInt64, nI_toInt hp, nI_toInt hm, nI_toInt hn]
  rw [Int.bmod_eq_of_le (by omega) (by omega)]
  omega
section K13
variable {d : Nat} {M I : IM} {N T : Nat} {Q : Po}
theorem k57t {r q n p m : Nat} (R : isR r q) (e : I r 2 = nI n) (hn : n ≤ 24) (h : p + m ≤ n) : E (d + 1, 57, 0, [.ref r, .int (nI p), .int (nI m)], [], I) Q ↔ Q (.int 1) I := by
  rw [b57_0, if_neg (nI_pos (by omega)), b57_4 R.1, k108, b57_13, e, ite_b01, if_pos ⟨(le_nI (a := 0) (by decide) (by omega)).mpr (by omega), (le_nI (by omega) (by omega)).mpr (by omega)⟩, b57_16 R.1, e, nI_sub (by omega), if_neg (nI_nlt (by omega) (by omega)), b57_26, b57_31, aNar1, true_and]
theorem k57f {r q n : Nat} {v w : Int32} (R : isR r q) (e : I r 2 = nI n) (hn : n ≤ 24) (h : ¬ ∃ p m : Nat, p + m ≤ n ∧ v = nI p ∧ w = nI m) : E (d + 1, 57, 0, [.ref r, .int v, .int w], [], I) Q ↔ Q (.int 0) I := by
  rw [b57_0]
  by_cases h1 : w < 0
  · rw [if_pos h1, b57_30, b57_31, aNar0, true_and]
  · rw [if_neg h1, b57_4 R.1, k108, b57_13, e, ite_b01]
    by_cases h2 : 0 ≤ v ∧ v ≤ nI n
    · obtain ⟨p, hp, rfl⟩ := wi0 n (by omega) rfl h2
      obtain ⟨m, hm, rfl⟩ := nn h1
      rw [if_pos h2, b57_16 R.1, e, nI_sub hp, if_pos (nI_lt (by
        rcases Nat.lt_or_ge (n - p) m with z | z
        · exact z
        · exact absurd ⟨p, m, by omega, rfl, rfl⟩ h) (by omega)), b57_30, b57_31, aNar0, true_and]
    · rw [if_neg h2, b57_30, b57_31, aNar0, true_and]
theorem k199a {k p j q m : Nat} (hk : k < 4) (hpm : p + m ≤ 24) : ∀ (f i : Nat) (I1 : IM), i + f = m → (∀ x, x < i → I1 137 x = I1 127 (24 * k + p + x)) → ∃ I', (∀ Q : Po, E (d, 199, 113, [.ref 121, .int (nI k), .int (nI p), .int (nI j), .int (nI q), .int (nI m), .int (nI i)], [], I1) Q ↔ E (d, 199, 147, [.ref 121, .int (nI k), .int (nI p), .int (nI j), .int (nI q), .int (nI m), .int (nI m)], [], I') Q) ∧ (∀ x, x < m → I' 137 x = I1 127 (24 * k + p + x)) ∧ ∀ c, c ≠ 137 → I' c = I1 c := by
  intro f
  induction f with
  | zero =>
    intro i I1 hi h
    have : i = m := by omega
    subst this
    refine ⟨I1, fun Q => ?_, h, fun _ _ => rfl⟩
    rw [b199_113, if_neg (nI_nlt (Nat.le_refl _) (by omega))]
  | succ f ih =>
    intro i I1 hi h
    have e127 : (up I1 137 i (I1 127 (24 * k + p + i))) 127 = I1 127 := up_c (by decide)
    obtain ⟨I', r1, r2, r3⟩ := ih (i + 1) (up I1 137 i (I1 127 (24 * k + p + i))) (by omega) (fun x hx => by
      rw [e127]
      by_cases z : x = i
      · rw [z, up_s]
      · rw [up_k z]; exact h x (by omega))
    rw [e127] at r2
    refine ⟨I', fun Q => ?_, r2, fun c hc => by rw [r3 c hc, up_c hc]⟩
    rw [b199_113, if_pos (nI_lt (by omega) (by omega)), b199_120, i24, nI_add, and_iff_right (vp_in_nI (by omega) (by decide)), and_iff_right (vp_in_nI (by omega) (by decide)), nI_clamp (by omega), nI_clamp (by omega), nI_1]
    exact r1 Q
theorem k199b {k p j q m : Nat} (hj : j < 4) (hqm : q + m ≤ 24) : ∀ (f i : Nat) (I1 : IM), i + f = m → ∃ I', Rn (d, 199, 150, [.ref 121, .int (nI k), .int (nI p), .int (nI j), .int (nI q), .int (nI m), .int (nI i)], [], I1) (.int (nI m)) I' ∧ (∀ x, i ≤ x → x < m → I' 127 (24 * j + q + x) = I1 137 x) ∧ (∀ y, ¬ (24 * j + q + i ≤ y ∧ y < 24 * j + q + m) → I' 127 y = I1 127 y) ∧ ∀ c, c ≠ 127 → I' c = I1 c := by
  intro f
  induction f with
  | zero =>
    intro i I1 hi
    refine ⟨I1, fun Q => ?_, fun x h1 h2 => by omega, fun _ _ => rfl, fun _ _ => rfl⟩
    rw [b199_150, if_neg (nI_nlt (by omega) (by omega)), b199_185]
  | succ f ih =>
    intro i I1 hi
    obtain ⟨I', r1, r2, r3, r4⟩ := ih (i + 1) (up I1 127 (24 * j + q + i) (I1 137 i)) (by omega)
    refine ⟨I', fun Q => ?_, fun x h1 h2 => ?_, fun y hy => by rw [r3 y (by omega), up_k (by omega)], fun c hc => by rw [r4 c hc, up_c hc]⟩
    · rw [b199_150, if_pos (nI_lt (by omega) (by omega)), b199_157, i24, nI_add, and_iff_right (vp_in_nI (by omega) (by decide)), and_iff_right (vp_in_nI (by omega) (by decide)), nI_clamp (by omega), nI_clamp (by omega), nI_1]
      exact r1 Q
    · by_cases z : x = i
      · subst z
        rw [r3 _ (by omega), up_s]
      · rw [r2 x (by omega) h2, up_c (by decide)]
/-- promise 31 -/
theorem m98 (C : Cp M N T) {a b c e g : Int32} : Ok (d + 200) M 98 [.ref 0, .int a, .int b, .int c, .int e, .int g, UN, UN] 199 [.ref 121, .int a, .int b, .int c, .int e, .int g, UN] := by
  by_cases h1 : 0 ≤ a ∧ a ≤ 3
  rotate_left
  · exact Ok.ret C (-1000000001) (fun Q => by rw [b98_0, k111, b98_4, ite_b01, if_neg h1, b98_14]) (fun Q => by rw [b199_0, k192, b199_4, ite_b01, if_neg h1, b199_14])
  by_cases h2 : 0 ≤ c ∧ c ≤ 3
  rotate_left
  · exact Ok.ret C (-1000000001) (fun Q => by rw [b98_0, k111, b98_4, ite_b01, if_pos h1, b98_7, k111, b98_11, ite_b01, if_neg h2, b98_14]) (fun Q => by rw [b199_0, k192, b199_4, ite_b01, if_pos h1, b199_7, k192, b199_11, ite_b01, if_neg h2, b199_14])
  obtain ⟨k, hk', rfl⟩ := wi0 3 (by decide) (by decide) h1
  obtain ⟨j, hj', rfl⟩ := wi0 3 (by decide) (by decide) h2
  have hk : k < 4 := by omega
  have hj : j < 4 := by omega
  have ck : (nI k).toNatClampNeg = k := nI_clamp (by omega)
  have cj : (nI j).toNatClampNeg = j := nI_clamp (by omega)
  have R := shR k hk
  have R' := shR j hj
  obtain ⟨s1, s2, s3, ⟨n, hn, s4⟩, s5⟩ := C.s k hk
  obtain ⟨u1, u2, u3, ⟨n', hn', u4⟩, u5⟩ := C.s j hj
  have p1 : ∀ Q : Po, E (d + 200, 98, 0, [.ref 0, .int (nI k), .int b, .int (nI j), .int e, .int g, UN, UN], [], M) Q ↔ if M 125 k = -1 then Q (.int (-1000000011)) M else if M 125 j = -1 then Q (.int (-1000000011)) M else if M 125 k = M 125 j then E (d + 200, 98, 68, [.ref 0, .int (nI k), .int b, .int (nI j), .int e, .int g, .ref (93 + 2 * k), .ref (93 + 2 * j)], [], M) Q else Q (.int (-1000000012)) M := fun Q => by
    rw [b98_0, k111, b98_4, ite_b01, if_pos h1, b98_7, k111, b98_11, ite_b01, if_pos h2, b98_17 (by rw [r44 hk]; exact R.1), and_iff_right (vp4 hk), and_iff_right (vp4 hj), r44 hk, r44 hj, k53 R, b98_38, s1, ite_b01, b98_41 R'.1, k53 R', b98_46, u1, ite_b01, b98_52 R.1 R'.1, s1, u1, b98_49, b98_65]
  have p2 : ∀ (I : IM) (Q : Po), I 125 = M 125 → (E (d + 200, 199, 0, [.ref 121, .int (nI k), .int b, .int (nI j), .int e, .int g, UN], [], I) Q ↔ if M 125 k < 0 then Q (.int (-1000000011)) I else if M 125 j < 0 then Q (.int (-1000000011)) I else if M 125 k = M 125 j then E (d + 200, 199, 57, [.ref 121, .int (nI k), .int b, .int (nI j), .int e, .int g, UN], [], I) Q else Q (.int (-1000000012)) I) := fun I Q e1 => by
    rw [b199_0, k192, b199_4, ite_b01, if_pos h1, b199_7, k192, b199_11, ite_b01, if_pos h2, b199_17, and_iff_right (vp4 hk), ck, e1, b199_26, and_iff_right (vp4 hj), cj, e1, b199_39, and_iff_right (vp4 hk), and_iff_right (vp4 hj), ck, cj, e1, b199_35, b199_54]
  by_cases hm : M 125 k = -1
  · exact Ok.ret C (-1000000011) (fun Q => by rw [p1, if_pos hm]) (fun Q => by rw [p2 M Q rfl, if_pos (by rw [hm]; decide)])
  have hm' : ¬ M 125 k < 0 := by rw [← m1_lt s3]; exact hm
  by_cases hq : M 125 j = -1
  · exact Ok.ret C (-1000000011) (fun Q => by rw [p1, if_neg hm, if_pos hq]) (fun Q => by rw [p2 M Q rfl, if_neg hm', if_pos (by rw [hq]; decide)])
  have hq' : ¬ M 125 j < 0 := by rw [← m1_lt u3]; exact hq
  by_cases hs : M 125 k = M 125 j
  rotate_left
  · exact Ok.ret C (-1000000012) (fun Q => by rw [p1, if_neg hm, if_neg hq, if_neg hs]) (fun Q => by rw [p2 M Q rfl, if_neg hm', if_neg hq', if_neg hs])
  -- the reference's tests
  have nope : (¬ ((∃ p m : Nat, p + m ≤ n ∧ b = nI p ∧ g = nI m) ∧ ∃ p m : Nat, p + m ≤ n' ∧ e = nI p ∧ g = nI m)) → ∀ Q : Po, E (d + 200, 199, 57, [.ref 121, .int (nI k), .int b, .int (nI j), .int e, .int g, UN], [], M) Q ↔ Q (.int (-1000000013)) M := fun h Q => by
    rw [b199_57]
    by_cases z1 : b < 0
    · rw [if_pos z1, b199_106]
    rw [if_neg z1, b199_61]
    by_cases z2 : e < 0
    · rw [if_pos z2, b199_106]
    rw [if_neg z2, b199_66]
    by_cases z3 : g < 0
    · rw [if_pos z3, b199_106]
    obtain ⟨p, hp, rfl⟩ := nn z1
    obtain ⟨q, hq, rfl⟩ := nn z2
    obtain ⟨m, hm, rfl⟩ := nn z3
    rw [if_neg z3, b199_71, and_iff_right (vp4 hk), ck, s4]
    by_cases z4 : n < p + m
    · rw [if_pos ((lgc hp hm (by omega)).mpr z4), b199_106]
    rw [if_neg (fun z => z4 ((lgc hp hm (by omega)).mp z)), b199_88, and_iff_right (vp4 hj), cj, u4]
    by_cases z5 : n' < q + m
    · rw [if_pos ((lgc hq hm (by omega)).mpr z5), b199_106]
    exact absurd ⟨⟨p, m, by omega, rfl, rfl⟩, ⟨q, m, by omega, rfl, rfl⟩⟩ h
  by_cases z1 : ∃ p m : Nat, p + m ≤ n ∧ b = nI p ∧ g = nI m
  rotate_left
  · refine Ok.ret C (-1000000013) (fun Q => ?_) (fun Q => ?_)
    · rw [p1, if_neg hm, if_neg hq, if_pos hs, b98_68 R.1, k57f R (by rw [s2, s4]) hn z1, b98_76, if_pos rfl, b98_91]
    · rw [p2 M Q rfl, if_neg hm', if_neg hq', if_pos hs, nope (fun z => z1 z.1)]
  obtain ⟨p, m, hpm, rfl, rfl⟩ := z1
  by_cases z2 : ∃ p m' : Nat, p + m' ≤ n' ∧ e = nI p ∧ nI m = nI m'
  rotate_left
  · refine Ok.ret C (-1000000013) (fun Q => ?_) (fun Q => ?_)
    · rw [p1, if_neg hm, if_neg hq, if_pos hs, b98_68 R.1, k57t R (by rw [s2, s4]) hn hpm, b98_76, if_neg (by decide), b98_79 R'.1, k57f R' (by rw [u2, u4]) hn' z2, b98_88, if_pos rfl, b98_91]
    · rw [p2 M Q rfl, if_neg hm', if_neg hq', if_pos hs, nope (fun z => z2 z.2)]
  obtain ⟨q, m', hqm, rfl, em⟩ := z2
  have hmm : m = m' := (nI_eqI (by omega) (by omega)).mp em
  subst hmm
  have cp : (nI p).toNatClampNeg = p := nI_clamp (by omega)
  have cq : (nI q).toNatClampNeg = q := nI_clamp (by omega)
  have cm : (nI m).toNatClampNeg = m := nI_clamp (by omega)
  generalize hM1 : (fun c' => if c' = 94 + 2 * j then va_cpy (M (94 + 2 * k)) (M (94 + 2 * j)) p q m else M c') = M1
  have f1 : ∀ c', c' ≠ 94 + 2 * j → M1 c' = M c' := fun c' z => by rw [← hM1]; exact if_neg z
  have v1 : ∀ i, M1 (94 + 2 * j) i = if q ≤ i ∧ i < q + m then M (94 + 2 * k) (p + (i - q)) else M (94 + 2 * j) i := fun i => by
    have w : M1 (94 + 2 * j) = va_cpy (M (94 + 2 * k)) (M (94 + 2 * j)) p q m := by rw [← hM1]; exact if_pos rfl
    rw [w]
    rfl
  obtain ⟨I2, r1, r2, r3⟩ := k199a (d := d + 200) (p := p) (j := j) (q := q) (m := m) hk (by omega) m 0 M1 (by omega) (fun x hx => by omega)
  obtain ⟨M2, y1, y2, y3, y4⟩ := k199b (d := d + 200) (k := k) (p := p) (q := q) (m := m) hj (by omega) m 0 I2 (by omega)
  have e127 : I2 127 = M 127 := by rw [r3 127 (by decide), f1 127 (by omega)]
  have g2 : ∀ c', c' ≠ 127 → c' ≠ 137 → M2 c' = M1 c' := fun c' z1 z2 => by rw [y4 c' z1, r3 c' z2]
  -- junk first: what was carried
  have C0 : Cp (fun c' => if c' = 137 then M2 137 else M c') N T := C.jk (fun c' z1 z2 => if_neg (fun z => z1 (by subst z; exact Or.inr (Or.inr (Or.inr (Or.inr (Or.inr (Or.inr (Or.inr (Or.inl rfl))))))))) ) (fun c' hc => if_neg (fun z => by rcases hc with y | y | y <;> omega))
  refine ⟨nI m, M1, M2, fun Q => ?_, fun Q => ?_, ⟨N, T, C0.sh (fun x hx => ?_) (fun c' z1 z2 => ?_)⟩, fun c' hc => by rw [g2 c' (by omega) (by omega), f1 c' (by omega)]⟩
  · rw [p1, if_neg hm, if_neg hq, if_pos hs, b98_68 R.1, k57t R (by rw [s2, s4]) hn hpm, b98_76, if_neg (by decide), b98_79 R'.1, k57t R' (by rw [u2, u4]) hn' hqm, b98_88, if_neg (by decide), b98_94 R.1 R'.1 (by rw [R.2.1]; exact R.2.2.1) (by rw [R'.2.1]; exact R'.2.2.1), R.2.1, R'.2.1, R.2.2.2.1, R'.2.2.2.1, cp, cq, cm, and_iff_right ⟨nI_pos (by omega), nI_pos (by omega), nI_pos (by omega), by omega, by omega⟩, hM1]
  · rw [p2 M1 Q (f1 125 (by omega)), if_neg hm', if_neg hq', if_pos hs, b199_57, if_neg (nI_pos (by omega)), b199_61, if_neg (nI_pos (by omega)), b199_66, if_neg (nI_pos (by omega)), b199_71, and_iff_right (vp4 hk), ck, f1 126 (by omega), s4, if_neg (fun z => by have := (lgc (by omega) (by omega) (by omega)).mp z; omega), b199_88, and_iff_right (vp4 hj), cj, f1 126 (by omega), u4, if_neg (fun z => by have := (lgc (by omega) (by omega) (by omega)).mp z; omega), b199_110]
    refine (r1 Q).trans ?_
    rw [b199_147]
    exact y1 Q
  · have := C.s x hx
    have w : ∀ i, i < 24 → M2 127 (24 * x + i) = if x = j ∧ q ≤ i ∧ i < q + m then M 127 (24 * k + (p + (i - q))) else M 127 (24 * x + i) := fun i hi => by
      by_cases z : x = j ∧ q ≤ i ∧ i < q + m
      · obtain ⟨rfl, z2, z3⟩ := z
        rw [if_pos ⟨rfl, z2, z3⟩, show 24 * x + i = 24 * x + q + (i - q) by omega, y2 (i - q) (by omega) (by omega), r2 (i - q) (by omega), f1 127 (by omega), Nat.add_assoc]
      · rw [if_neg z, y3 _ (by omega), e127]
    rw [g2 (93 + 2 * x) (by omega) (by omega), f1 (93 + 2 * x) (by omega), g2 125 (by decide) (by decide), f1 125 (by omega), g2 126 (by decide) (by decide), f1 126 (by omega), g2 (94 + 2 * x) (by omega) (by omega)]
    refine ⟨this.1, this.2.1, this.2.2.1, this.2.2.2.1, fun i hi => ?_⟩
    rw [w i hi]
    by_cases z : x = j
    · subst z
      rw [v1 i]
      by_cases z2 : q ≤ i ∧ i < q + m
      · rw [if_pos z2, if_pos ⟨rfl, z2⟩]
        exact s5 _ (by omega)
      · rw [if_neg z2, if_neg (fun z3 => z2 z3.2)]
        exact this.2.2.2.2 i hi
    · rw [if_neg (fun z3 => z z3.1), f1 _ (by omega)]
      exact this.2.2.2.2 i hi
  · show M2 c' = if c' = 137 then M2 137 else M c'
    by_cases z : c' = 137
    · subst z; rw [if_pos rfl]
    · rw [if_neg z, g2 c' (by omega) z, f1 c' (by omega)]
end K13
