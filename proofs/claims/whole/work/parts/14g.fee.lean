/-! fee, fine, textTold, why, trim, feed -/
section K7
variable {d : Nat} {M I : IM} {N T : Nat} {Q : Po}
theorem law_res {lv : Value} {key : Int32} (X : wfX (M 122) T) (L : Lw M lv (mA (M 122) key T)) : (lv = .null ∧ cntR (M 122) key T = none) ∨ ∃ t n t' : Nat, t < 15 ∧ n ≤ 96 ∧ lv = .ref (48 + 3 * t) ∧ M (48 + 3 * t) 2 = nI n ∧ cntR (M 122) key T = some t' ∧ t' < 14 ∧ wfT (M 122) t' ∧ M 122 (60 + 200 * t') = key ∧ ∀ a b c e, lGive (M (49 + 3 * t)) n a b c e = lGive (tSt (M 122) t') (tN (M 122) t') a b c e := by
  cases ho : cntR (M 122) key T with
  | none =>
    rcases L with ⟨z, -⟩ | ⟨t, n, h1, h2, h3, h4, h5⟩
    · exact Or.inl ⟨z, rfl⟩
    · unfold mA at h5; rw [ho] at h5; cases h5
  | some t' =>
    obtain ⟨c1, c2⟩ := cntR_lt T t' ho
    rcases L with ⟨-, z⟩ | ⟨t, n, h1, h2, h3, h4, h5⟩
    · unfold mA at z; rw [ho] at z; cases z
    · refine Or.inr ⟨t, n, t', h1, h2, h3, h4, rfl, by have := X.2.1; omega, X.2.2 t' c1, c2, fun a b c e => ?_⟩
      unfold mA at h5
      rw [ho] at h5
      have := Option.some.inj h5
      exact (congrFun (congrFun (congrFun (congrFun this a) b) c) e).symm
/-- promise 20 -/
theorem m87 (C : Cp M N T) : Ok (d + 200) M 87 [.ref 0, UN] 167 [.ref 121, UN] := by
  obtain ⟨lv, l1, l2⟩ := k115 (d := d + 198) (x := UN) C (k := 1) (v := 1) (by decide) (by decide)
  have hT := C.h.X.2.1
  have e7 : M 1 7 = M 122 7 := C.f (i := 7) (by decide)
  have e8 : M 1 8 = M 122 8 := C.f (i := 8) (by decide)
  rcases law_res C.h.X l2 with ⟨rfl, ho⟩ | ⟨t, n, t', h1, h2, rfl, h4, ho, h14, hw, hky, hg⟩
  · refine Ok.ret C (M 122 7) (fun Q => ?_) (fun Q => ?_)
    · rw [b87_0, l1, b87_9n, b87_14n, b87_44n, e7]
    · rw [b167_0, k188 C.h.X.1 hT, ho, b167_5, if_pos (show enc none < 0 by decide), b167_10]
  · obtain ⟨M1, r1, r2⟩ := k40 (d := d + 198) (a := M 122 7) (b := M 122 8) (c := 0) (e := 0) (x := UN) (y := UN) (z := UN) h1 h2 h4
    have e122 : M1 122 = M 122 := r2 122 (by omega)
    have n122 : (up (up M1 135 115 (M 122 7)) 135 102 (M 122 8)) 122 = M 122 := by rw [up_c (by decide), up_c (by decide)]; exact e122
    obtain ⟨M2, q1, q2⟩ := k191 (d := d + 198) (I := up (up M1 135 115 (M 122 7)) 135 102 (M 122 8)) (t := t') h14 (by rw [n122]; exact hw) (a := M 122 7) (b := M 122 8) (c := 0) (e := 0) (by rw [n122, hky]; exact Or.inr (Or.inl ⟨rfl, by rw [up_k (by decide), up_s], by rw [up_s]⟩)) (x := UN) (y := UN) (z := UN) (u := UN)
    have f1 : frS M M1 := fun c hc => r2 c (fun e => hc ⟨t, h1, e⟩)
    have f2 : frM M1 M2 := fun c z1 z2 z3 => by rw [q2 c z3, up_c z2, up_c z2]
    have fN := (frN.ofS f1).tr (frN.ofM f2)
    refine ⟨lGive (tSt (M 122) t') (tN (M 122) t') (M 122 7) (M 122 8) 0 0, M1, M2, fun Q => ?_, fun Q => ?_, ⟨N, T, C.jk fN (fun c hc => ?_)⟩, fN.fz⟩
    · rw [b87_0, l1, b87_9r (by omega), b87_24r (lw0 h1).1, e7, e8, r1, lGive_f0, hg, b87_44r]
    · rw [b167_0, k188 (by rw [e122]; exact C.h.X.1) hT, e122, ho, b167_5, if_neg (show ¬ enc (some t') < 0 from nI_pos (by omega)), b167_18, up_c (by decide), e122, show enc (some t') = nI t' from rfl, q1, n122, b167_51]
    · unfold hk at hc
      by_cases z : c = 122
      · subst z; rw [q2 122 (by decide), n122]
      · rw [f2 c z (by omega) (by omega), r2 c (by omega)]
/-- promise 21 -/
theorem m88 (C : Cp M N T) {a : Int32} : Ok (d + 200) M 88 [.ref 0, .int a, UN, UN] 168 [.ref 121, .int a, UN] := by
  have hN := C.le
  by_cases h0 : 0 ≤ a ∧ a ≤ nI N - 1
  rotate_left
  · exact Ok.ret C (-1000000001) (fun Q => by rw [b88_0, k113, b88_5, C.n1, ite_b01, if_neg h0, b88_8]) (fun Q => by rw [b168_0, k128, b168_5, C.n2, ite_b01, if_neg h0, b168_8])
  obtain ⟨p, hp, rfl⟩ := (isP (by omega)).mp h0
  have hg' := s4 (p := p) (by omega)
  have e4 := g4 (p := p) (by omega)
  obtain ⟨lv, l1, l2⟩ := k115 (d := d + 198) (x := UN) C (k := 2) (v := 2) (by decide) (by decide)
  have hT := C.h.X.2.1
  have e1 : M (4 + p) 1 = M 122 (10 + 5 * p + 1) := C.g hp (by decide)
  have e3 : M (4 + p) 3 = M 122 (10 + 5 * p + 3) := C.g hp (by decide)
  rcases law_res C.h.X l2 with ⟨rfl, ho⟩ | ⟨t, n, t', h1, h2, rfl, h4, ho, h14, hw, hky, hg⟩
  · refine Ok.ret C (M 122 (10 + 5 * p + 3)) (fun Q => ?_) (fun Q => ?_)
    · rw [b88_0, k113, b88_5, C.n1, ite_b01, if_pos h0, b88_11, and_iff_right (vp10 (by omega)), e4, l1, b88_30n, b88_35n hg', b88_56n, e3]
    · rw [b168_0, k128, b168_5, C.n2, ite_b01, if_pos h0, b168_11, k188 C.h.X.1 hT, ho, b168_16, if_pos (show enc none < 0 by decide), b168_21, k126_3 (by omega), b168_27]
  · obtain ⟨M1, r1, r2⟩ := k40 (d := d + 198) (a := M 122 (10 + 5 * p + 1)) (b := M 122 (10 + 5 * p + 3)) (c := 0) (e := 0) (x := UN) (y := UN) (z := UN) h1 h2 h4
    have e122 : M1 122 = M 122 := r2 122 (by omega)
    have n122 : (up (up M1 135 111 (M 122 (10 + 5 * p + 1))) 135 119 (M 122 (10 + 5 * p + 3))) 122 = M 122 := by rw [up_c (by decide), up_c (by decide)]; exact e122
    obtain ⟨M2, q1, q2⟩ := k191 (d := d + 198) (I := up (up M1 135 111 (M 122 (10 + 5 * p + 1))) 135 119 (M 122 (10 + 5 * p + 3))) (t := t') h14 (by rw [n122]; exact hw) (a := M 122 (10 + 5 * p + 1)) (b := M 122 (10 + 5 * p + 3)) (c := 0) (e := 0) (by rw [n122, hky]; exact Or.inr (Or.inr ⟨rfl, by rw [up_k (by decide), up_s], by rw [up_s]⟩)) (x := UN) (y := UN) (z := UN) (u := UN)
    have f1 : frS M M1 := fun c hc => r2 c (fun e => hc ⟨t, h1, e⟩)
    have f2 : frM M1 M2 := fun c z1 z2 z3 => by rw [q2 c z3, up_c z2, up_c z2]
    have fN := (frN.ofS f1).tr (frN.ofM f2)
    have c1 : Int32.toNatClampNeg 111 = 111 := by decide
    have c2 : Int32.toNatClampNeg 119 = 119 := by decide
    refine ⟨lGive (tSt (M 122) t') (tN (M 122) t') (M 122 (10 + 5 * p + 1)) (M 122 (10 + 5 * p + 3)) 0 0, M1, M2, fun Q => ?_, fun Q => ?_, ⟨N, T, C.jk fN (fun c hc => ?_)⟩, fN.fz⟩
    · rw [b88_0, k113, b88_5, C.n1, ite_b01, if_pos h0, b88_11, and_iff_right (vp10 (by omega)), e4, l1, b88_30r (by omega), b88_42r hg' (lw0 h1).1, e1, e3, r1, lGive_f0, hg, b88_56r]
    · rw [b168_0, k128, b168_5, e122, C.n2, ite_b01, if_pos h0, b168_11, k188 (by rw [e122]; exact C.h.X.1) hT, e122, ho, b168_16, if_neg (show ¬ enc (some t') < 0 from nI_pos (by omega)), b168_28, k126_1 (by omega), e122, b168_40, and_iff_right (show vp_in 111 128 from vp_in_nI (n := 111) (by decide) (by decide)), c1, k126_3 (by omega), up_c (by decide), e122, b168_53, and_iff_right (show vp_in 119 128 from vp_in_nI (n := 119) (by decide) (by decide)), c2, show enc (some t') = nI t' from rfl, q1, n122, b168_59]
    · unfold hk at hc
      by_cases z : c = 122
      · subst z; rw [q2 122 (by decide), n122]
      · rw [f2 c z (by omega) (by omega), r2 c (by omega)]
/-- promise 25 -/
theorem m92 (C : Cp M N T) {a b : Int32} : Ok (d + 200) M 92 [.ref 0, .int a, .int b] 187 [.ref 121, .int a, .int b] := by
  have hT := C.h.X.2.1
  have eT : M 1 11 = nI T := (C.f (i := 1) (by decide)).trans C.h.X.1
  by_cases h0 : 0 ≤ a ∧ a ≤ nI T - 1
  rotate_left
  · exact Ok.ret C (-1000000001) (fun Q => by rw [b92_0, k108, b92_14, eT, ite_b01, if_neg h0, b92_26]) (fun Q => by rw [b187_0, k129, b187_5, C.h.X.1, ite_b01, if_neg h0, b187_18])
  by_cases h2 : 0 ≤ b ∧ b ≤ 1
  rotate_left
  · exact Ok.ret C (-1000000001) (fun Q => by rw [b92_0, k108, b92_14, eT, ite_b01, if_pos h0, b92_17, k108, b92_23, ite_b01, if_neg h2, b92_26]) (fun Q => by rw [b187_0, k129, b187_5, C.h.X.1, ite_b01, if_pos h0, b187_8, k119_0_1, b187_15, ite_b01, if_neg h2, b187_18])
  obtain ⟨t, ht, rfl⟩ := (isP (by omega)).mp h0
  obtain ⟨k, hk, rfl⟩ := wi0 1 (by decide) (by decide) h2
  obtain ⟨x1, x2, x3, -⟩ := C.h.tx t ht
  have e40 : aRf 40 (Int32.toNatClampNeg (nI t)) = 48 + 3 * t := by rw [nI_clamp (by omega)]; exact rf40 t (by omega)
  have p1 : ∀ Q : Po, E (d + 200, 92, 0, [.ref 0, .int (nI t), .int (nI k)], [], M) Q ↔ E (d + 200, 92, 29, [.ref 0, .int (nI t), .int (nI k)], [], M) Q := fun Q => by
    rw [b92_0, k108, b92_14, eT, ite_b01, if_pos h0, b92_17, k108, b92_23, ite_b01, if_pos h2]
  have p2 : ∀ Q : Po, E (d + 200, 187, 0, [.ref 121, .int (nI t), .int (nI k)], [], M) Q ↔ Q (.int (M 122 (60 + 200 * t + k))) M := fun Q => by
    rw [b187_0, k129, b187_5, C.h.X.1, ite_b01, if_pos h0, b187_8, k119_0_1, b187_15, ite_b01, if_pos h2, b187_21, k125, b187_30, nI_add, and_iff_right (vp_in_nI (by omega) (by decide)), nI_clamp (by omega)]
  have hk' : k = 0 ∨ k = 1 := by omega
  rcases hk' with rfl | rfl
  · refine Ok.ret C (M 122 (60 + 200 * t + 0)) (fun Q => ?_) p2
    rw [p1, b92_29, if_pos (by decide), b92_33 (by rw [e40]; exact (lw0 (by omega)).1), and_iff_right (vp_in_nI (by omega) (by decide)), e40, b92_54, x2]
    exact Iff.rfl
  · refine Ok.ret C (M 122 (60 + 200 * t + 1)) (fun Q => ?_) p2
    rw [p1, b92_29, if_neg (by decide), b92_45 (by rw [e40]; exact (lw0 (by omega)).1), and_iff_right (vp_in_nI (by omega) (by decide)), e40, b92_54, x3, show 61 + 200 * t = 60 + 200 * t + 1 by omega]
/-- promise 26 -/
theorem m93 (C : Cp M N T) {a : Int32} : Ok (d + 200) M 93 [.ref 0, .int a] 189 [.ref 121, .int a] := by
  have hT := C.h.X.2.1
  by_cases h0 : 0 ≤ a ∧ a ≤ 2
  rotate_left
  · exact Ok.ret C (-1000000001) (fun Q => by rw [b93_0, k108, b93_6, ite_b01, if_neg h0, b93_9]) (fun Q => by rw [b189_0, k119_0_2, b189_9, ite_b01, if_neg h0, b189_23, b189_25])
  obtain ⟨k, hk, rfl⟩ := wi0 2 (by decide) (by decide) h0
  refine Ok.ret C (if enc (cntR (M 122) (nI k) T) < 0 then -1000000005 else enc (cntR (M 122) (nI k) T)) (fun Q => ?_) (fun Q => ?_)
  · rw [b93_0, k108, b93_6, ite_b01, if_pos h0, b93_12, and_iff_right (vp_in_nI (by omega) (by decide)), nI_clamp (by omega), C.h.ct k (by omega), b93_24, b93_29, and_iff_right (vp_in_nI (by omega) (by decide)), nI_clamp (by omega), C.h.ct k (by omega), b93_38, b93_38, QI (Q := Q)]
  · rw [b189_0, k119_0_2, b189_9, ite_b01, if_pos h0, b189_12, k188 C.h.X.1 hT, b189_17, k120, b189_20, b189_25]
/-- the tape has changed -/
theorem Cp.tp (C : Cp M N T) {M' : IM} (t : CpT M') (f : ∀ c, c ≠ 42 → c ≠ 43 → c ≠ 121 → c ≠ 134 → M' c = M c) (e1 : M' 121 3 = M 121 3) (e2 : M' 121 29 = M 121 29) : Cp M' N T := by
  have e : ∀ c, c ≠ 42 ∧ c ≠ 43 ∧ c ≠ 121 ∧ c ≠ 134 → M' c = M c := fun c h => f c h.1 h.2.1 h.2.2.1 h.2.2.2
  have e122 : M' 122 = M 122 := e 122 (by omega)
  refine ⟨C.h.st (by rw [e122]; exact C.h.H.fr (fun c hc => e c (by omega))) (by rw [e122]; exact C.h.B) (fun i _ => by rw [e122]) (by rw [e122]) (e 3 (by omega)) (fun c h1 h2 _ => e c (by omega)) (by rw [e122]; exact C.h.ev), C.i.fr (by rw [e 0 (by omega)]) e1 (fun c h1 h2 => e c (by omega)) (e 123 (by omega)) (fun i _ _ => by rw [e122]) (Nat.le_refl _), t, C.s.fr (fun c hc => e c (by omega)), C.l.fr (fun c hc => e c (by omega)), C.w.fr (by rw [e 0 (by omega)]) e2 (e 46 (by omega)) (e 138 (by omega))⟩
/-- promise 23 -/
theorem m90 (C : Cp M N T) {a : Int32} : Ok (d + 200) M 90 [.ref 0, .int a] 170 [.ref 121, .int a] := by
  obtain ⟨n, n96, t1, t2, t3⟩ := C.t
  by_cases h0 : 0 ≤ a ∧ a ≤ nI n
  rotate_left
  · exact Ok.ret C (-1000000001) (fun Q => by rw [b90_0, k108, b90_15, t1, ite_b01, if_neg h0, b90_18]) (fun Q => by rw [b170_0, k119v, b170_11, t2, ite_b01, if_neg h0, b170_14])
  obtain ⟨k, hk, rfl⟩ := wi0 n (by omega) rfl h0
  refine ⟨nI k, up M 42 1 (nI k), up (up M 42 1 (nI k)) 121 14 (nI k), fun Q => ?_, fun Q => ?_, ⟨N, T, C.tp ?_ ?_ ?_ ?_⟩, fun c hc => by rw [up_c (by omega), up_c (by omega)]⟩
  · rw [b90_0, k108, b90_15, t1, ite_b01, if_pos h0, b90_21]
  · rw [b170_0, k119v, b170_11, up_c (by decide), t2, ite_b01, if_pos h0, b170_17]
  · refine ⟨k, by omega, by rw [up_c (by decide), up_s], by rw [up_s], fun i hi => ?_⟩
    rw [up_c (by decide), up_c (by decide), up_c (by decide), up_c (by decide)]
    exact t3 i (by omega)
  · intro c z1 z2 z3 z4
    rw [up_c z3, up_c z1]
  · rw [up_k (by decide), up_c (by decide)]
  · rw [up_k (by decide), up_c (by decide)]
end K7
