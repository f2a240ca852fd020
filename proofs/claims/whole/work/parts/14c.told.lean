/-! told, as, turns, set, rule, seed, count -/
def iO (q k : Nat) : Bool := q == k || k == 0 || (k == 1 && q == 3) || (k == 2 && q == 4)
section K3
variable {d : Nat} {M I : IM} {N T : Nat} {Q : Po}
theorem k14_step {c q j : Nat} {w : Int32} (hq : q ≤ 5) (hj : j < 6) : E (d + 2, 14, 7, [.ref c, .int w, .int (nI q), .int (nI j)], [], I) Q ↔ if nI q = w then Q (.int 1) I else E (d + 2, 14, 7, [.ref c, .int w, .int (aUnder q), .int (nI (j + 1))], [], I) Q := by
  rw [b14_7, if_pos (show nI j < 6 from nI_lt hj (by decide)), b14_13, k110, b14_17, ite_b01, if_pos ⟨show (0 : Int32) ≤ nI q from (le_nI (a := 0) (by decide) (by omega)).mpr (by omega), show nI q ≤ 5 from (le_nI (b := 5) (by omega) (by decide)).mpr hq⟩, b14_20]
  by_cases h : nI q = w
  · rw [if_pos h, if_pos h, b14_25]
  · rw [if_neg h, if_neg h, b14_27, and_iff_right (vp_in_nI (by omega) (by decide)), nI_clamp (by omega), nI_1]
theorem k14_end {c j : Nat} {w : Int32} (hj : j < 6) : E (d + 2, 14, 7, [.ref c, .int w, .int (-1), .int (nI j)], [], I) Q ↔ Q (.int 0) I := by
  rw [b14_7, if_pos (show nI j < 6 from nI_lt hj (by decide)), b14_13, k110, b14_17, ite_b01, if_neg (by decide), b14_39]
theorem k14 {c q k : Nat} (h : aShp c = 0) (e : I c 0 = nI q) (hq : q ≤ 5) (hk : k ≤ 5) {x y : Value} : E (d + 2, 14, 0, [.ref c, .int (nI k), x, y], [], I) Q ↔ Q (.int (b01 (iO q k = true))) I := by
  have s := fun (j : Nat) (hj : j < 6) (q : Nat) (hq : q ≤ 5) => k14_step (d := d) (I := I) (Q := Q) (c := c) (w := nI k) hq hj
  have f := fun (j : Nat) (hj : j < 6) => k14_end (d := d) (I := I) (Q := Q) (c := c) (w := nI k) hj
  have en : ∀ q, q ≤ 5 → (nI q = nI k ↔ q = k) := fun q hq => nI_eqI (by omega) (by omega)
  rw [b14_0 h, e, show (0 : Int32) = nI 0 by decide, s 0 (by decide) q hq]
  have hq' : q = 0 ∨ q = 1 ∨ q = 2 ∨ q = 3 ∨ q = 4 ∨ q = 5 := by omega
  have hk' : k = 0 ∨ k = 1 ∨ k = 2 ∨ k = 3 ∨ k = 4 ∨ k = 5 := by omega
  have u0 : aUnder 0 = -1 := by decide
  have u1 : aUnder 1 = nI 0 := by decide
  have u2 : aUnder 2 = nI 0 := by decide
  have u3 : aUnder 3 = nI 1 := by decide
  have u4 : aUnder 4 = nI 2 := by decide
  have u5 : aUnder 5 = nI 0 := by decide
  rcases hq' with rfl | rfl | rfl | rfl | rfl | rfl
  · rw [u0, f 1 (by decide)]
    rcases hk' with rfl | rfl | rfl | rfl | rfl | rfl <;> simp (decide := true) only [if_true, if_false, b01]
  · rw [u1, s 1 (by decide) 0 (by decide), u0, f 2 (by decide)]
    rcases hk' with rfl | rfl | rfl | rfl | rfl | rfl <;> simp (decide := true) only [if_true, if_false, b01]
  · rw [u2, s 1 (by decide) 0 (by decide), u0, f 2 (by decide)]
    rcases hk' with rfl | rfl | rfl | rfl | rfl | rfl <;> simp (decide := true) only [if_true, if_false, b01]
  · rw [u3, s 1 (by decide) 1 (by decide), u1, s 2 (by decide) 0 (by decide), u0, f 3 (by decide)]
    rcases hk' with rfl | rfl | rfl | rfl | rfl | rfl <;> simp (decide := true) only [if_true, if_false, b01]
  · rw [u4, s 1 (by decide) 2 (by decide), u2, s 2 (by decide) 0 (by decide), u0, f 3 (by decide)]
    rcases hk' with rfl | rfl | rfl | rfl | rfl | rfl <;> simp (decide := true) only [if_true, if_false, b01]
  · rw [u5, s 1 (by decide) 0 (by decide), u0, f 2 (by decide)]
    rcases hk' with rfl | rfl | rfl | rfl | rfl | rfl <;> simp (decide := true) only [if_true, if_false, b01]
theorem k131 {q k : Nat} (hq : q ≤ 5) (hk : k ≤ 5) : E (d, 131, 0, [.int (nI q), .int (nI k)], [], I) Q ↔ Q (.int (b01 (iO q k = true))) I := by
  have hq' : q = 0 ∨ q = 1 ∨ q = 2 ∨ q = 3 ∨ q = 4 ∨ q = 5 := by omega
  have hk' : k = 0 ∨ k = 1 ∨ k = 2 ∨ k = 3 ∨ k = 4 ∨ k = 5 := by omega
  simp only [b131_0, b131_5, b131_9, b131_14, b131_19, b131_24, b131_29, b131_33, b131_34, aNar0, aNar1, true_and]
  rcases hq' with rfl | rfl | rfl | rfl | rfl | rfl <;> rcases hk' with rfl | rfl | rfl | rfl | rfl | rfl <;> simp (decide := true) only [if_true, if_false, b01]
theorem k124 {i : Nat} {v w : Int32} (hv : v = nI i) (hi : i < 3060) {x : Value} : E (d, 124, 0, [.ref 121, .int v, .int w, x], [], I) Q ↔ Q (.int (I 122 i)) (up I 122 i w) := by
  subst hv
  rw [b124_0, and_iff_right (vp_in_nI hi (by decide)), and_iff_right (vp_in_nI hi (by decide)), nI_clamp (by omega)]
/-- promise 3 -/
theorem m70 (C : Cp M N T) {a b : Int32} : Ok (d + 200) M 70 [.ref 0, .int a, .int b, UN] 140 [.ref 121, .int a, .int b] := by
  have hN := C.le
  by_cases h1 : 0 ≤ a ∧ a ≤ nI N - 1
  rotate_left
  · exact Ok.ret C (-1000000001) (fun Q => by rw [b70_0, k113, b70_5, C.n1, ite_b01, if_neg h1, b70_8]) (fun Q => by rw [b140_0, k128, b140_5, C.n2, ite_b01, if_neg h1, b140_20])
  obtain ⟨p, hp, rfl⟩ := (isP (by omega)).mp h1
  have p1 : ∀ Q : Po, E (d + 200, 70, 0, [.ref 0, .int (nI p), .int b, UN], [], M) Q ↔ E (d + 200, 70, 11, [.ref 0, .int (nI p), .int b, UN], [], M) Q := fun Q => by rw [b70_0, k113, b70_5, C.n1, ite_b01, if_pos h1]
  have hg := s4 (p := p) (by omega)
  by_cases h2 : 0 ≤ b ∧ b ≤ 8
  rotate_left
  · have n : ∀ k, k ≤ 8 → ¬ b = nI k := fun k hk e => h2 (by rw [e]; exact ⟨(le_nI (a := 0) (by decide) (by omega)).mpr (by omega), (le_nI (b := 8) (by omega) (by decide)).mpr hk⟩)
    refine Ok.ret C (-1000000001) (fun Q => ?_) (fun Q => by rw [b140_0, k128, b140_5, C.n2, ite_b01, if_pos h1, b140_8, k119_0_8, b140_17, ite_b01, if_neg h2, b140_20])
    rw [p1, b70_11, and_iff_right (vp10 (by omega)), if_neg (show ¬ b = 0 from n 0 (by decide)), if_neg (show ¬ b = 1 from n 1 (by decide)), if_neg (show ¬ b = 2 from n 2 (by decide)), if_neg (show ¬ b = 3 from n 3 (by decide)), if_neg (show ¬ b = 4 from n 4 (by decide)), if_neg (show ¬ b = 5 from n 5 (by decide)), if_neg (show ¬ b = 6 from n 6 (by decide)), if_neg (show ¬ b = 7 from n 7 (by decide)), if_neg (show ¬ b = 8 from n 8 (by decide)), b70_130]
  have p2 : ∀ (I : IM) (Q : Po), I 122 = M 122 → (E (d + 200, 140, 0, [.ref 121, .int (nI p), .int b], [], I) Q ↔ E (d + 200, 140, 23, [.ref 121, .int (nI p), .int b], [], I) Q) := fun I Q e => by rw [b140_0, k128, b140_5, e, C.n2, ite_b01, if_pos h1, b140_8, k119_0_8, b140_17, ite_b01, if_pos h2]
  have p3 : ∀ (j : Nat) (Q : Po), j < 5 → b = nI j → (E (d + 200, 140, 0, [.ref 121, .int (nI p), .int b], [], M) Q ↔ Q (.int (M 122 (10 + 5 * p + j))) M) := fun j Q hj e => by
    have n : ∀ k, 5 ≤ k → k ≤ 8 → ¬ b = nI k := fun k h5 hk z => by rw [e, nI_eqI (by omega) (by omega)] at z; omega
    rw [p2 M Q rfl, b140_23, if_neg (show ¬ b = 5 from n 5 (by decide) (by decide)), if_neg (show ¬ b = 6 from n 6 (by decide) (by decide)), if_neg (show ¬ b = 7 from n 7 (by decide) (by decide)), if_neg (show ¬ b = 8 from n 8 (by decide) (by decide)), b140_80, k126 (by omega) hj e, b140_86]
  obtain ⟨k, hk, rfl⟩ := wi0 8 (by decide) (by decide) h2
  have e4 := g4 (p := p) (by omega)
  have hk' : k = 0 ∨ k = 1 ∨ k = 2 ∨ k = 3 ∨ k = 4 ∨ k = 5 ∨ k = 6 ∨ k = 7 ∨ k = 8 := by omega
  rcases hk' with rfl | rfl | rfl | rfl | rfl | rfl | rfl | rfl | rfl
  · refine Ok.ret C (M 122 (10 + 5 * p + 0)) (fun Q => ?_) (fun Q => p3 0 Q (by decide) rfl)
    rw [p1, b70_11, and_iff_right (vp10 (by omega)), if_pos (by decide), e4, b70_72 hg, C.g hp (by decide)]
  · refine Ok.ret C (M 122 (10 + 5 * p + 1)) (fun Q => ?_) (fun Q => p3 1 Q (by decide) rfl)
    rw [p1, b70_11, and_iff_right (vp10 (by omega)), if_neg (by decide), if_pos (by decide), e4, b70_77 hg, C.g hp (by decide)]
  · refine Ok.ret C (M 122 (10 + 5 * p + 2)) (fun Q => ?_) (fun Q => p3 2 Q (by decide) rfl)
    rw [p1, b70_11, and_iff_right (vp10 (by omega)), if_neg (by decide), if_neg (by decide), if_pos (by decide), e4, b70_82 hg, C.g hp (by decide)]
  · refine Ok.ret C (M 122 (10 + 5 * p + 3)) (fun Q => ?_) (fun Q => p3 3 Q (by decide) rfl)
    rw [p1, b70_11, and_iff_right (vp10 (by omega)), if_neg (by decide), if_neg (by decide), if_neg (by decide), if_pos (by decide), e4, b70_87 hg, C.g hp (by decide)]
  · refine Ok.ret C (M 122 (10 + 5 * p + 4)) (fun Q => ?_) (fun Q => p3 4 Q (by decide) rfl)
    rw [p1, b70_11, and_iff_right (vp10 (by omega)), if_neg (by decide), if_neg (by decide), if_neg (by decide), if_neg (by decide), if_pos (by decide), e4, b70_92 hg, C.g hp (by decide)]
  · obtain ⟨lv, l1, l2⟩ := k115 (d := d + 198) (x := UN) C (k := 0) (v := 0) (by decide) (by decide)
    obtain ⟨M1, a1, a2⟩ := k23 (d := d + 197) (x := UN) (y := UN) (h := 1) (Or.inl rfl) C.h.H l2 hp
    have e122 : M1 122 = M 122 := a2 122 (fun z => by have := scr_lt z; omega)
    obtain ⟨M2, b1, b2, b3⟩ := k134 (d := d + 196) (I := M1) (N := N) (T := T) (x := UN) (y := UN) (by rw [e122]; exact C.h.B) (by rw [e122]; exact C.h.X) hp
    have fr := (frN.ofS a2).tr (frN.ofM b2)
    refine ⟨sCm (mA (M 122) 0 T) (M 122) p, M1, M2, fun Q => ?_, fun Q => ?_, ⟨N, T, C.jk fr (fun c hc => ?_)⟩, fr.fz⟩
    · rw [p1, b70_11, and_iff_right (vp10 (by omega)), if_neg (by decide), if_neg (by decide), if_neg (by decide), if_neg (by decide), if_neg (by decide), if_pos (by decide), e4, b70_97, l1, b70_111m l2.lv]
      have := a1 (fun r I' => E (d + 200, 70, 114, [.ref 0, .int (nI p), .int (nI 5), .ref (4 + p)], [r], I') Q)
      refine this.trans ?_
      rw [b70_114]
    · rw [p2 M1 Q e122, b140_23, if_pos (by decide), b140_56, b1, b140_61, e122]
    · rcases hc with z | z | z
      · rw [b2 c (by omega) (by omega) (by omega), a2 c (fun z => by have := scr_lt z; omega)]
      · rw [b2 c (by omega) (by omega) (by omega), a2 c (fun z => by have := scr_lt z; omega)]
      · subst z; rw [b3, e122]
  · refine Ok.ret C (gWa (M 122) p) (fun Q => ?_) (fun Q => ?_)
    · rw [p1, b70_11, and_iff_right (vp10 (by omega)), if_neg (by decide), if_neg (by decide), if_neg (by decide), if_neg (by decide), if_neg (by decide), if_neg (by decide), if_pos (by decide), e4, b70_115 hg, k16 hg, b70_119, C.g hp (by decide), C.g hp (by decide)]
      exact Iff.rfl
    · rw [p2 M Q rfl, b140_23, if_neg (by decide), if_pos (by decide), b140_62, k135 (by omega) (C.h.B.2.2.2.2 p hp).2.2.1, b140_67]
  · refine Ok.ret C (gBr (M 122) p) (fun Q => ?_) (fun Q => ?_)
    · rw [p1, b70_11, and_iff_right (vp10 (by omega)), if_neg (by decide), if_neg (by decide), if_neg (by decide), if_neg (by decide), if_neg (by decide), if_neg (by decide), if_neg (by decide), if_pos (by decide), e4, b70_120 hg, k17 hg, b70_124, C.g hp (by decide), C.g hp (by decide)]
      exact Iff.rfl
    · rw [p2 M Q rfl, b140_23, if_neg (by decide), if_neg (by decide), if_pos (by decide), b140_68, k136 (by omega) (C.h.B.2.2.2.2 p hp).2.2.2.1, b140_73]
  · refine Ok.ret C (gWorth (gK (M 122) p) (gO (M 122) p) (gS (M 122) p) (gW (M 122) p) (gT (M 122) p)) (fun Q => ?_) (fun Q => ?_)
    · rw [p1, b70_11, and_iff_right (vp10 (by omega)), if_neg (by decide), if_neg (by decide), if_neg (by decide), if_neg (by decide), if_neg (by decide), if_neg (by decide), if_neg (by decide), if_neg (by decide), if_pos (by decide), e4, b70_125 hg, k18 hg, b70_129, C.g hp (by decide), C.g hp (by decide), C.g hp (by decide), C.g hp (by decide), C.g hp (by decide)]
      exact Iff.rfl
    · rw [p2 M Q rfl, b140_23, if_neg (by decide), if_neg (by decide), if_neg (by decide), if_pos (by decide), b140_74, k137 (by omega), b140_79]
/-- promise 4 -/
theorem m71 (C : Cp M N T) {a b : Int32} : Ok (d + 200) M 71 [.ref 0, .int a, .int b, UN] 141 [.ref 121, .int a, .int b] := by
  have hN := C.le
  by_cases h1 : 0 ≤ a ∧ a ≤ nI N - 1
  rotate_left
  · exact Ok.ret C (-1000000001) (fun Q => by rw [b71_0, k113, b71_5, C.n1, ite_b01, if_neg h1, b71_15]) (fun Q => by rw [b141_0, k128, b141_5, C.n2, ite_b01, if_neg h1, b141_20])
  by_cases h2 : 0 ≤ b ∧ b ≤ 5
  rotate_left
  · exact Ok.ret C (-1000000001) (fun Q => by rw [b71_0, k113, b71_5, C.n1, ite_b01, if_pos h1, b71_8, k110, b71_12, ite_b01, if_neg h2, b71_15]) (fun Q => by rw [b141_0, k128, b141_5, C.n2, ite_b01, if_pos h1, b141_8, k119_0_5, b141_17, ite_b01, if_neg h2, b141_20])
  obtain ⟨p, hp, rfl⟩ := (isP (by omega)).mp h1
  obtain ⟨k, hk, rfl⟩ := wi0 5 (by decide) (by decide) h2
  have hg := s4 (p := p) (by omega)
  have e4 := g4 (p := p) (by omega)
  obtain ⟨q, hq, eq⟩ := (C.h.B.2.2.2.2 p hp).1
  have e0 : M (4 + p) 0 = nI q := (C.g hp (by decide)).trans eq
  refine Ok.ret C (if iO q k = true then M 122 (10 + 5 * p + 3) else -1000000012) (fun Q => ?_) (fun Q => ?_)
  · rw [b71_0, k113, b71_5, C.n1, ite_b01, if_pos h1, b71_8, k110, b71_12, ite_b01, if_pos h2, b71_18 (by rw [e4]; exact hg), and_iff_right (vp10 (by omega)), e4, k14 hg e0 hq hk, b71_33, ite_b01, b71_36 hg, b71_45, b71_43, b71_45, C.g hp (by decide), QI (Q := Q)]
  · rw [b141_0, k128, b141_5, C.n2, ite_b01, if_pos h1, b141_8, k119_0_5, b141_17, ite_b01, if_pos h2, b141_23, k126_0 (by omega), b141_29, show M 122 (10 + 5 * p) = nI q from eq, k131 hq hk, b141_33, ite_b01, b141_36, k126_3 (by omega), b141_42, b141_47, b141_45, b141_47, QI (Q := Q)]
/-- promise 5 -/
theorem m72 (C : Cp M N T) {a b : Int32} : Ok (d + 200) M 72 [.ref 0, .int a, .int b, UN] 142 [.ref 121, .int a, .int b] := by
  have hN := C.le
  by_cases h1 : 0 ≤ a ∧ a ≤ nI N - 1
  rotate_left
  · exact Ok.ret C (-1000000001) (fun Q => by rw [b72_0, k113, b72_5, C.n1, ite_b01, if_neg h1, b72_15]) (fun Q => by rw [b142_0, k128, b142_5, C.n2, ite_b01, if_neg h1, b142_34, b142_36])
  by_cases h2 : 0 ≤ b ∧ b ≤ 5
  rotate_left
  · exact Ok.ret C (-1000000001) (fun Q => by rw [b72_0, k113, b72_5, C.n1, ite_b01, if_pos h1, b72_8, k110, b72_12, ite_b01, if_neg h2, b72_15]) (fun Q => by rw [b142_0, k128, b142_5, C.n2, ite_b01, if_pos h1, b142_8, k119_0_5, b142_17, ite_b01, if_neg h2, b142_34, b142_36])
  obtain ⟨p, hp, rfl⟩ := (isP (by omega)).mp h1
  have hg := s4 (p := p) (by omega)
  have e4 := g4 (p := p) (by omega)
  refine ⟨M 122 (10 + 5 * p + 0), up M (4 + p) 0 b, _, fun Q => ?_, fun Q => ?_, ⟨N, T, C.gst hp (j := 0) (by decide) b (Or.inl ⟨rfl, wi0 5 (by decide) (by decide) h2⟩)⟩, fun c hc => by rw [up_c (by omega), up_c (by omega)]⟩
  · rw [b72_0, k113, b72_5, C.n1, ite_b01, if_pos h1, b72_8, k110, b72_12, ite_b01, if_pos h2, b72_18 (by rw [e4]; exact hg), and_iff_right (vp10 (by omega)), and_iff_right (vp10 (by omega)), e4, C.g hp (by decide)]
  · rw [b142_0, k128, b142_5, up_c (by omega), C.n2, ite_b01, if_pos h1, b142_8, k119_0_5, b142_17, ite_b01, if_pos h2, b142_20, k124 (i := 10 + 5 * p + 0) (by rw [← ix5]; exact (Int32.add_zero _).symm) (by omega), b142_31, b142_36, up_c (by omega)]
/-- promise 6 -/
theorem m73 (C : Cp M N T) {a b c : Int32} : Ok (d + 200) M 73 [.ref 0, .int a, .int b, .int c, UN, UN] 143 [.ref 121, .int a, .int b, .int c, UN] := by
  have hN := C.le
  by_cases h1 : 0 ≤ a ∧ a ≤ nI N - 1
  rotate_left
  · exact Ok.ret C (-1000000001) (fun Q => by rw [b73_0, k113, b73_5, C.n1, ite_b01, if_neg h1, b73_29]) (fun Q => by rw [b143_0, k128, b143_5, C.n2, ite_b01, if_neg h1, b143_58, b143_59, if_pos rfl, b143_82, b143_84])
  by_cases h2 : 1 ≤ b ∧ b ≤ 4
  rotate_left
  · exact Ok.ret C (-1000000001) (fun Q => by rw [b73_0, k113, b73_5, C.n1, ite_b01, if_pos h1, b73_8, k108, b73_14, ite_b01, if_neg h2, b73_29]) (fun Q => by rw [b143_0, k128, b143_5, C.n2, ite_b01, if_pos h1, b143_8, k119_1_4, b143_17, ite_b01, if_neg h2, b143_58, b143_59, if_pos rfl, b143_82, b143_84])
  obtain ⟨p, hp, rfl⟩ := (isP (by omega)).mp h1
  obtain ⟨k, hk1, hk, rfl⟩ := wi1 4 (by decide) (by decide) h2
  have hg := s4 (p := p) (by omega)
  have e4 := g4 (p := p) (by omega)
  -- what is asked of the number
  have key : ∀ (m : Nat) (mv : Int32), mv = nI m → m < 100000 → ((k = 1 ∧ m = 100) ∨ (k = 2 ∧ m = 99) ∨ (k = 3 ∧ m = 99) ∨ (k = 4 ∧ m = 9999)) →
      (∀ (I : IM) (Q : Po), E (d + 199, 114, 0, [.int (nI k)], [], I) Q ↔ Q (.int mv) I) →
      (∀ (I : IM) (Q : Po), E (d + 200, 143, 20, [.ref 121, .int (nI p), .int (nI k), .int c, UN], [], I) Q ↔ if 0 ≤ c ∧ c ≤ mv then E (d + 200, 143, 54, [.ref 121, .int (nI p), .int (nI k), .int c, UN], [], I) Q else E (d + 200, 143, 58, [.ref 121, .int (nI p), .int (nI k), .int c, UN], [], I) Q) →
      (∀ (Q : Po), E (d + 200, 73, 32, [.ref 0, .int (nI p), .int (nI k), .int c, UN, UN], [], M) Q ↔ Q (.int (M (4 + p) k)) (up M (4 + p) k c)) →
      Ok (d + 200) M 73 [.ref 0, .int (nI p), .int (nI k), .int c, UN, UN] 143 [.ref 121, .int (nI p), .int (nI k), .int c, UN] := by
    intro m mv hmv hm hkm q1 q2 q3
    have p1 : ∀ Q : Po, E (d + 200, 73, 0, [.ref 0, .int (nI p), .int (nI k), .int c, UN, UN], [], M) Q ↔ if 0 ≤ c ∧ c ≤ mv then E (d + 200, 73, 32, [.ref 0, .int (nI p), .int (nI k), .int c, UN, UN], [], M) Q else Q (.int (-1000000001)) M := fun Q => by
      rw [b73_0, k113, b73_5, C.n1, ite_b01, if_pos h1, b73_8, k108, b73_14, ite_b01, if_pos h2, b73_17, q1, b73_23, k108, b73_26, ite_b01, b73_29]
    have p2 : ∀ (I : IM) (Q : Po), I 122 0 = nI N → (E (d + 200, 143, 0, [.ref 121, .int (nI p), .int (nI k), .int c, UN], [], I) Q ↔ if 0 ≤ c ∧ c ≤ mv then E (d + 200, 143, 54, [.ref 121, .int (nI p), .int (nI k), .int c, UN], [], I) Q else E (d + 200, 143, 58, [.ref 121, .int (nI p), .int (nI k), .int c, UN], [], I) Q) := fun I Q e => by
      rw [b143_0, k128, b143_5, e, ite_b01, if_pos h1, b143_8, k119_1_4, b143_17, ite_b01, if_pos h2, q2]
    by_cases h3 : 0 ≤ c ∧ c ≤ mv
    · have bb := wi0 m (by omega) hmv h3
      refine ⟨M 122 (10 + 5 * p + k), up M (4 + p) k c, _, fun Q => ?_, fun Q => ?_, ⟨N, T, C.gst hp (j := k) (by omega) c ?_⟩, fun c hc => by rw [up_c (by omega), up_c (by omega)]⟩
      · rw [p1, if_pos h3, q3, C.g hp (by omega)]
      · rw [p2 _ Q (by rw [up_c (by omega)]; exact C.n2), if_pos h3, b143_54, b143_59, if_neg (by decide), b143_66, k124 (i := 10 + 5 * p + k) (by rw [← ix5]) (by omega), b143_79, b143_84, up_c (by omega)]
      · rcases hkm with ⟨z, w⟩ | ⟨z, w⟩ | ⟨z, w⟩ | ⟨z, w⟩
        · subst w; exact Or.inr (Or.inl ⟨z, bb⟩)
        · subst w; exact Or.inr (Or.inr (Or.inl ⟨z, bb⟩))
        · subst w; exact Or.inr (Or.inr (Or.inr (Or.inl ⟨z, bb⟩)))
        · subst w; exact Or.inr (Or.inr (Or.inr (Or.inr ⟨z, bb⟩)))
    · exact Ok.ret C (-1000000001) (fun Q => by rw [p1, if_neg h3]) (fun Q => by rw [p2 _ Q C.n2, if_neg h3, b143_58, b143_59, if_pos rfl, b143_82, b143_84])
  have hk' : k = 1 ∨ k = 2 ∨ k = 3 ∨ k = 4 := by omega
  rcases hk' with rfl | rfl | rfl | rfl
  · refine key 100 100 (by decide) (by decide) (by omega) (fun I Q => ?_) (fun I Q => ?_) (fun Q => ?_)
    · rw [b114_0, if_pos (by decide), b114_28]
    · rw [b143_20, if_pos (by decide), b143_28, b143_48, k119_0_100, b143_51, ite_b01]
    · rw [b73_32, and_iff_right (vp10 (by omega)), if_pos (by decide), e4, b73_72 hg]
  · refine key 99 99 (by decide) (by decide) (by omega) (fun I Q => ?_) (fun I Q => ?_) (fun Q => ?_)
    · rw [b114_0, if_neg (by decide), if_pos (by decide), b114_31]
    · rw [b143_20, if_neg (by decide), b143_34, if_neg (by decide), b143_45, b143_48, k119_0_99, b143_51, ite_b01]
    · rw [b73_32, and_iff_right (vp10 (by omega)), if_neg (by decide), if_pos (by decide), e4, b73_88 hg]
  · refine key 99 99 (by decide) (by decide) (by omega) (fun I Q => ?_) (fun I Q => ?_) (fun Q => ?_)
    · rw [b114_0, if_neg (by decide), if_neg (by decide), if_pos (by decide), b114_34]
    · rw [b143_20, if_neg (by decide), b143_34, if_neg (by decide), b143_45, b143_48, k119_0_99, b143_51, ite_b01]
    · rw [b73_32, and_iff_right (vp10 (by omega)), if_neg (by decide), if_neg (by decide), if_pos (by decide), e4, b73_104 hg]
  · refine key 9999 9999 (by decide) (by decide) (by omega) (fun I Q => ?_) (fun I Q => ?_) (fun Q => ?_)
    · rw [b114_0, if_neg (by decide), if_neg (by decide), if_neg (by decide), b114_37]
    · rw [b143_20, if_neg (by decide), b143_34, if_pos (by decide), b143_39, b143_48, k119_0_9999, b143_51, ite_b01]
    · rw [b73_32, and_iff_right (vp10 (by omega)), if_neg (by decide), if_neg (by decide), if_neg (by decide), e4, b73_120 hg]
/-- promise 7 -/
theorem m74 (C : Cp M N T) {a b : Int32} : Ok (d + 200) M 74 [.ref 0, .int a, .int b, UN] 144 [.ref 121, .int a, .int b] := by
  have e144 : ∀ (i : Nat) (v : Int32) (I : IM) (Q : Po), 3 + v = nI i → i < 10 → (E (d + 200, 144, 32, [.ref 121, .int v, .int b], [], I) Q ↔ Q (.int (I 122 i)) (up I 122 i b)) := fun i v I Q h1 h2 => by
    rw [b144_32, k124 h1 (by omega), b144_40, b144_45]
  by_cases h0 : a = 0
  · subst h0
    by_cases h : 0 ≤ b ∧ b ≤ 10
    · refine ⟨M 122 3, up M 1 3 b, _, fun Q => ?_, fun Q => ?_, ⟨N, T, C.fld (i := 3) (by omega) b⟩, fun c hc => by rw [up_c (by omega), up_c (by omega)]⟩
      · rw [b74_0, if_pos rfl, b74_4, k108, b74_11, ite_b01, if_pos h, b74_14, show M 1 3 = M 122 3 from C.f (i := 3) (by decide)]
      · rw [b144_0, k119_0_1, b144_7, ite_b01, if_pos (by decide), b144_10, if_pos rfl, b144_17, b144_26, k119_0_10, b144_29, ite_b01, if_pos h, e144 3 0 _ _ (by decide) (by decide), up_c (by decide)]
        exact Iff.rfl
    · refine Ok.ret C (-1000000001) (fun Q => ?_) (fun Q => ?_)
      · rw [b74_0, if_pos rfl, b74_4, k108, b74_11, ite_b01, if_neg h, b74_32, if_neg (by decide), b74_65]
      · rw [b144_0, k119_0_1, b144_7, ite_b01, if_pos (by decide), b144_10, if_pos rfl, b144_17, b144_26, k119_0_10, b144_29, ite_b01, if_neg h, b144_43, b144_45]
  by_cases h1 : a = 1
  · subst h1
    by_cases h : 0 ≤ b ∧ b ≤ 100
    · refine ⟨M 122 4, up M 1 4 b, _, fun Q => ?_, fun Q => ?_, ⟨N, T, C.fld (i := 4) (by omega) b⟩, fun c hc => by rw [up_c (by omega), up_c (by omega)]⟩
      · rw [b74_0, if_neg (by decide), b74_32, if_pos rfl, b74_37, k108, b74_44, ite_b01, if_pos h, b74_47, show M 1 4 = M 122 4 from C.f (i := 4) (by decide)]
      · rw [b144_0, k119_0_1, b144_7, ite_b01, if_pos (by decide), b144_10, if_neg (by decide), b144_23, b144_26, k119_0_100, b144_29, ite_b01, if_pos h, e144 4 1 _ _ (by decide) (by decide), up_c (by decide)]
        exact Iff.rfl
    · refine Ok.ret C (-1000000001) (fun Q => ?_) (fun Q => ?_)
      · rw [b74_0, if_neg (by decide), b74_32, if_pos rfl, b74_37, k108, b74_44, ite_b01, if_neg h, b74_65]
      · rw [b144_0, k119_0_1, b144_7, ite_b01, if_pos (by decide), b144_10, if_neg (by decide), b144_23, b144_26, k119_0_100, b144_29, ite_b01, if_neg h, b144_43, b144_45]
  have hn : ¬ (0 ≤ a ∧ a ≤ 1) := fun h => by
    obtain ⟨k, hk, rfl⟩ := wi0 1 (by decide) (by decide) h
    have : k = 0 ∨ k = 1 := by omega
    rcases this with rfl | rfl
    · exact h0 (by decide)
    · exact h1 (by decide)
  refine Ok.ret C (-1000000001) (fun Q => ?_) (fun Q => ?_)
  · rw [b74_0, if_neg h0, b74_32, if_neg h1, b74_65]
  · rw [b144_0, k119_0_1, b144_7, ite_b01, if_neg hn, b144_43, b144_45]
/-- promise 9 -/
theorem m76 (C : Cp M N T) {a : Int32} : Ok (d + 200) M 76 [.ref 0, .int a, UN] 146 [.ref 121, .int a] := by
  refine ⟨M 122 9, up M 1 10 a, _, fun Q => ?_, fun Q => ?_, ⟨N, T, C.fld (i := 9) (by omega) a⟩, fun c hc => by rw [up_c (by omega), up_c (by omega)]⟩
  · rw [b76_0, show M 1 10 = M 122 9 from C.f (i := 9) (by decide)]
  · rw [b146_0, k124 (i := 9) (by decide) (by decide), b146_7, up_c (by decide)]
    exact Iff.rfl
/-- promise 40 -/
theorem m107 (C : Cp M N T) {a : Int32} : Ok (d + 200) M 107 [.ref 0, .int a] 210 [.ref 121, .int a] := by
  obtain ⟨n, -, w1, w2, -⟩ := C.w
  obtain ⟨m, -, t1, t2, -⟩ := C.t
  have e0 : M 1 2 = M 122 0 := C.f (i := 0) (by decide)
  have e1 : M 1 9 = M 122 2 := C.f (i := 2) (by decide)
  have e2 : M 1 3 = M 122 3 := C.f (i := 3) (by decide)
  have e3 : M 1 4 = M 122 4 := C.f (i := 4) (by decide)
  have e4 : M 1 11 = M 122 1 := C.f (i := 1) (by decide)
  have e7 : M 1 10 = M 122 9 := C.f (i := 9) (by decide)
  refine Ok.ret C (if a = 0 then M 122 0 else if a = 1 then M 122 2 else if a = 2 then M 122 3 else if a = 3 then M 122 4 else if a = 4 then M 122 1 else if a = 5 then nI n else if a = 6 then nI m else if a = 7 then M 122 9 else -1000000001) (fun Q => ?_) (fun Q => ?_)
  · simp only [b107_0, b107_48, b107_56, b107_64, b107_72, b107_80, b107_88, b107_93, b107_104, b107_112, QI, e0, e1, e2, e3, e4, e7, w1, t1]
  · simp only [b210_0, b210_48, b210_55, b210_62, b210_69, b210_76, b210_83, b210_88, b210_93, b210_101, QI, w2, t2]
end K3
