/-! sheet, mark, pour, reads -/
/-- a row of the class: its cell, and that of its places -/
def isR (r q : Nat) : Prop := aShp r = 4 ∧ aRf r 0 = q ∧ aShp q = 20 ∧ aLen q = 24 ∧ r ≠ q
theorem shR : ∀ k, k < 4 → isR (93 + 2 * k) (94 + 2 * k) := by unfold isR; decide +kernel
theorem slR : ∀ j, j < 5 → isR (103 + 4 * j) (104 + 4 * j) := by unfold isR; decide +kernel
theorem r44 {k : Nat} (hk : k < 4) : aRf 44 (Int32.toNatClampNeg (nI k)) = 93 + 2 * k := by
  rw [nI_clamp (by omega)]; revert k; decide +kernel
theorem vp4 {p : Nat} (hp : p < 4) : vp_in (nI p) 4 := vp_in_nI hp (by decide)
theorem i24 (k i : Nat) : 24 * nI k + nI i = nI (24 * k + i) := by rw [show (24 : Int32) = nI 24 by decide, pk_mul, nI_add]
theorem s4g {p : Nat} (hp : p < 10) : aShp (4 + p) = 0 := s4 hp
section K9
variable {d : Nat} {M I : IM} {N T : Nat} {Q : Po} {r q : Nat}
theorem k53 (R : isR r q) : E (d, 53, 0, [.ref r], [], I) Q ↔ Q (.int (b01 (I r 1 = -1))) I := by
  rw [b53_0 R.1, b53_8, b53_12, b53_13, b53_13, aNar1, aNar0, true_and, true_and]
  by_cases h : I r 1 = -1
  · rw [if_pos h, b01_t h]
  · rw [if_neg h, b01_f h]
theorem k56 (R : isR r q) {v : Int32} : E (d + 1, 56, 0, [.ref r, .int v], [], I) Q ↔ Q (.int (b01 (0 ≤ v ∧ v ≤ I r 2 - 1))) I := by
  rw [b56_0 R.1, k108, b56_11, aNarB, true_and]
theorem k58 (R : isR r q) {i n : Nat} (hn : n ≤ 24) (hi : i < 100) (e : I r 2 = nI n) : E (d + 2, 58, 0, [.ref r, .int (nI i)], [], I) Q ↔ Q (.int (b01 (i < n ∧ ¬ I q i = -1000000005))) I := by
  rw [b58_0 R.1, k56 R, b58_5, e, ite_b01]
  by_cases h : i < n
  · rw [if_pos ((isP (by omega)).mpr ⟨i, h, rfl⟩), b58_8 R.1 (by rw [R.2.1]; exact R.2.2.1), R.2.1, R.2.2.2.1, and_iff_right (vp_in_nI (by omega) (by decide)), nI_clamp (by omega), b58_23, b58_19, b58_24, b58_24, aNar0, aNar1, true_and, true_and]
    by_cases z : I q i = -1000000005
    · rw [if_pos z, b01_f (fun y => y.2 z)]
    · rw [if_neg z, b01_t ⟨h, z⟩]
  · rw [if_neg (fun z => by obtain ⟨k, k1, k2⟩ := (isP (by omega)).mp z; rw [nI_eqI (by omega) (by omega)] at k2; omega), b58_23, b58_24, aNar0, true_and, b01_f (fun y => h y.1)]
theorem k54 (R : isR r q) {s v : Int32} {n : Nat} (hv : v = nI n) (hn : n ≤ 24) {x : Value} : ∃ I', Rn (d + 2, 54, 0, [.ref r, .int s, .int v, x], [], I) .null I' ∧ I' r 1 = s ∧ I' r 2 = nI n ∧ (∀ i, i < 24 → I' q i = 0) ∧ ∀ c, c ≠ r → c ≠ q → I' c = I c := by
  subst hv
  obtain ⟨R1, R2, R3, R4, R5⟩ := R
  have loop : ∀ (k i : Nat) (I1 : IM), i + k = 24 → (∀ j, j < i → I1 q j = 0) → ∃ I', Rn (d + 2, 54, 18, [.ref r, .int s, .int (nI n), .int (nI i)], [], I1) .null I' ∧ (∀ j, j < 24 → I' q j = 0) ∧ ∀ c, c ≠ q → I' c = I1 c := by
    intro k
    induction k with
    | zero =>
      intro i I1 hi f
      refine ⟨I1, fun Q => ?_, fun j hj => f j (by omega), fun _ _ => rfl⟩
      rw [b54_18 R1 (by rw [R2]; exact R3), R2, R4, if_neg (nI_nlt (by omega) (by omega)), b54_40]
    | succ k ih =>
      intro i I1 hi f
      obtain ⟨I', r1, r2, r3⟩ := ih (i + 1) (up I1 q i 0) (by omega) (fun j hj => by
        by_cases z : j = i
        · rw [z, up_s]
        · rw [up_k z]; exact f j (by omega))
      refine ⟨I', fun Q => ?_, r2, fun c hc => by rw [r3 c hc, up_c hc]⟩
      rw [b54_18 R1 (by rw [R2]; exact R3), R2, R4, if_pos (nI_lt (by omega) (by omega)), b54_27 R1 (by rw [R2]; exact R3), R2, R4, and_iff_right (vp_in_nI (by omega) (by decide)), nI_clamp (by omega), nI_1]
      exact r1 Q
  obtain ⟨I', r1, r2, r3⟩ := loop 24 0 (up (up I r 1 s) r 2 (nI n)) (by omega) (fun j hj => by omega)
  refine ⟨I', fun Q => ?_, by rw [r3 r R5, up_k (by decide), up_s], by rw [r3 r R5, up_s], r2, fun c h1 h2 => by rw [r3 c h2, up_c h1, up_c h1]⟩
  have hh : (if (0 : Int32) < (if 24 < nI n then 24 else nI n) then (if 24 < nI n then 24 else nI n) else 0) = nI n := by
    rw [if_neg (show ¬ (24 : Int32) < nI n from (show ¬ nI 24 < nI n from nI_nlt hn (by decide)))]
    by_cases z : n = 0
    · subst z; decide
    · rw [if_pos (show (0 : Int32) < nI n from (show nI 0 < nI n from nI_lt (by omega) (by omega)))]
  rw [b54_0 R1, b109_0, hh, b54_13 R1]
  exact r1 Q
/-- sheets have changed -/
theorem Cp.sh (C : Cp M N T) {M' : IM} (s : CpS M') (f : ∀ c, ¬ (93 ≤ c ∧ c < 101) → ¬ (125 ≤ c ∧ c < 128) → M' c = M c) : Cp M' N T := by
  have e122 : M' 122 = M 122 := f 122 (by omega) (by omega)
  refine ⟨C.h.st (by rw [e122]; exact C.h.H.fr (fun c hc => f c (by omega) (by omega))) (by rw [e122]; exact C.h.B) (fun i _ => by rw [e122]) (by rw [e122]) (f 3 (by omega) (by omega)) (fun c h1 h2 _ => f c (by omega) (by omega)) (by rw [e122]; exact C.h.ev), C.i.fr (by rw [f 0 (by omega) (by omega)]) (by rw [f 121 (by omega) (by omega)]) (fun c h1 h2 => f c (by omega) (by omega)) (f 123 (by omega) (by omega)) (fun i _ _ => by rw [e122]) (Nat.le_refl _), C.t.fr (by rw [f 42 (by omega) (by omega)]) (by rw [f 121 (by omega) (by omega)]) (f 43 (by omega) (by omega)) (f 134 (by omega) (by omega)), s, C.l.fr (fun c hc => f c (by omega) (by omega)), C.w.fr (by rw [f 0 (by omega) (by omega)]) (by rw [f 121 (by omega) (by omega)]) (f 46 (by omega) (by omega)) (f 138 (by omega) (by omega))⟩
theorem ok0 : okV 0 := Or.inr ⟨by decide, by decide⟩
theorem k193_loop {s w : Int32} {k : Nat} (hk : k < 4) : ∀ (m i : Nat) (I1 : IM), i + m = 24 → (∀ j, j < i → I1 127 (24 * k + j) = 0) → ∃ I', Rn (d, 193, 69, [.ref 121, .int (nI k), .int s, .int w, .int (nI i)], [], I1) (.int (I1 126 k)) I' ∧ (∀ j, j < 24 → I' 127 (24 * k + j) = 0) ∧ (∀ j, ¬ (24 * k ≤ j ∧ j < 24 * k + 24) → I' 127 j = I1 127 j) ∧ ∀ c, c ≠ 127 → I' c = I1 c := by
  intro m
  induction m with
  | zero =>
    intro i I1 hi f
    refine ⟨I1, fun Q => ?_, fun j hj => f j (by omega), fun _ _ => rfl, fun _ _ => rfl⟩
    rw [b193_69, if_neg (show ¬ nI i < 24 from (show ¬ nI i < nI 24 from nI_nlt (by omega) (by omega))), b193_95, and_iff_right (vp4 hk), nI_clamp (by omega)]
  | succ m ih =>
    intro i I1 hi f
    obtain ⟨I', r1, r2, r3, r4⟩ := ih (i + 1) (up I1 127 (24 * k + i) 0) (by omega) (fun j hj => by
      by_cases z : j = i
      · rw [z, up_s]
      · rw [up_k (by omega)]; exact f j (by omega))
    refine ⟨I', fun Q => ?_, r2, fun j hj => by rw [r3 j hj, up_k (by omega)], fun c hc => by rw [r4 c hc, up_c hc]⟩
    rw [b193_69, if_pos (show nI i < 24 from (show nI i < nI 24 from nI_lt (by omega) (by decide))), b193_76, i24, and_iff_right (vp_in_nI (by omega) (by decide)), nI_clamp (by omega), nI_1]
    exact r1 Q
theorem wim1 {v : Int32} : (-1 ≤ v ∧ v ≤ 1) ↔ (v = -1 ∨ v = 0 ∨ v = 1) := by
  constructor
  · intro h
    have h1 := Int32.le_iff_toInt_le.mp h.1
    have h2 := Int32.le_iff_toInt_le.mp h.2
    rw [show (-1 : Int32).toInt = -1 by decide] at h1
    rw [show (1 : Int32).toInt = 1 by decide] at h2
    have : v.toInt = -1 ∨ v.toInt = 0 ∨ v.toInt = 1 := by omega
    rcases this with z | z | z
    · exact Or.inl (Int32.toInt_inj.mp (z.trans (by decide)))
    · exact Or.inr (Or.inl (Int32.toInt_inj.mp (z.trans (by decide))))
    · exact Or.inr (Or.inr (Int32.toInt_inj.mp (z.trans (by decide))))
  · rintro (rfl | rfl | rfl) <;> decide
/-- promise 27 -/
theorem m94 (C : Cp M N T) {a b c : Int32} : Ok (d + 200) M 94 [.ref 0, .int a, .int b, .int c] 193 [.ref 121, .int a, .int b, .int c, UN] := by
  by_cases h1 : 0 ≤ a ∧ a ≤ 3
  rotate_left
  · exact Ok.ret C (-1000000001) (fun Q => by rw [b94_0, k111, b94_4, ite_b01, if_neg h1, b94_16]) (fun Q => by rw [b193_0, k192, b193_4, ite_b01, if_neg h1, b193_29])
  by_cases h2 : -1 ≤ b ∧ b ≤ 1
  rotate_left
  · exact Ok.ret C (-1000000001) (fun Q => by rw [b94_0, k111, b94_4, ite_b01, if_pos h1, b94_7, k108, b94_13, ite_b01, if_neg h2, b94_16]) (fun Q => by rw [b193_0, k192, b193_4, ite_b01, if_pos h1, b193_7, k119_m1_1, b193_16, ite_b01, if_neg h2, b193_29])
  obtain ⟨k, hk', rfl⟩ := wi0 3 (by decide) (by decide) h1
  have hk : k < 4 := by omega
  have R := shR k hk
  have e44 := r44 hk
  -- what both sides do
  have fin : ∀ (n : Nat) (w : Int32), n ≤ 24 → w = nI n → (∀ Q : Po, E (d + 200, 94, 0, [.ref 0, .int (nI k), .int b, .int c], [], M) Q ↔ E (d + 199, 54, 0, [.ref (93 + 2 * k), .int b, .int w, UN], [], M) (fun _ I' => Q (.int w) I')) → (∀ (I : IM) (Q : Po), E (d + 200, 193, 0, [.ref 121, .int (nI k), .int b, .int c, UN], [], I) Q ↔ E (d + 200, 193, 69, [.ref 121, .int (nI k), .int b, .int c, .int 0], [], up (up I 125 k b) 126 k w) Q) → Ok (d + 200) M 94 [.ref 0, .int (nI k), .int b, .int c] 193 [.ref 121, .int (nI k), .int b, .int c, UN] := by
    intro n w hn hw p1 p2
    obtain ⟨M1, r1, r2, r3, r4, r5⟩ := k54 (d := d + 197) (I := M) R (s := b) (v := w) hw hn (x := UN)
    obtain ⟨M2, s1, s2, s3, s4⟩ := k193_loop (d := d + 200) (s := b) (w := c) hk 24 0 (up (up M1 125 k b) 126 k w) (by omega) (fun j hj => by omega)
    rw [up_s] at s1
    have f1 : ∀ c', c' ≠ 93 + 2 * k → c' ≠ 94 + 2 * k → c' ≠ 125 → c' ≠ 126 → c' ≠ 127 → M2 c' = M c' := fun c' z1 z2 z3 z4 z5 => by
      rw [s4 c' z5, up_c z4, up_c z3, r5 c' z1 z2]
    refine ⟨w, M1, M2, fun Q => ?_, fun Q => ?_, ⟨N, T, C.sh ?_ (fun c' z1 z2 => f1 c' (by omega) (by omega) (by omega) (by omega) (by omega))⟩, fun c' hc => f1 c' (by omega) (by omega) (by omega) (by omega) (by omega)⟩
    · rw [p1 Q, r1]
    · rw [p2 M1 Q]; exact s1 Q
    · intro j hj
      by_cases z : j = k
      · subst z
        rw [s4 (93 + 2 * j) (by omega), s4 (94 + 2 * j) (by omega), up_c (by omega), up_c (by omega), up_c (by omega), up_c (by omega), r2, r3, s4 125 (by decide), s4 126 (by decide), up_c (by decide), up_s, up_s]
        exact ⟨rfl, hw.symm, wim1.mp h2, ⟨n, hn, hw⟩, fun i hi => ⟨by rw [r4 i hi, s2 i hi], by rw [s2 i hi]; exact ok0⟩⟩
      · have := C.s j hj
        rw [f1 (93 + 2 * j) (by omega) (by omega) (by omega) (by omega) (by omega), f1 (94 + 2 * j) (by omega) (by omega) (by omega) (by omega) (by omega), s4 125 (by decide), s4 126 (by decide), up_c (by decide), up_k z, up_k z, up_c (by decide), r5 125 (by omega) (by omega), r5 126 (by omega) (by omega)]
        refine ⟨this.1, this.2.1, this.2.2.1, this.2.2.2.1, fun i hi => ?_⟩
        rw [s3 _ (by omega), up_c (by decide), up_c (by decide), r5 127 (by omega) (by omega)]
        exact this.2.2.2.2 i hi
  have pre1 : ∀ Q : Po, E (d + 200, 94, 0, [.ref 0, .int (nI k), .int b, .int c], [], M) Q ↔ E (d + 200, 94, 19, [.ref 0, .int (nI k), .int b, .int c], [], M) Q := fun Q => by
    rw [b94_0, k111, b94_4, ite_b01, if_pos h1, b94_7, k108, b94_13, ite_b01, if_pos h2]
  have pre2 : ∀ (I : IM) (Q : Po), E (d + 200, 193, 0, [.ref 121, .int (nI k), .int b, .int c, UN], [], I) Q ↔ E (d + 200, 193, 19, [.ref 121, .int (nI k), .int b, .int c, UN], [], I) Q := fun I Q => by
    rw [b193_0, k192, b193_4, ite_b01, if_pos h1, b193_7, k119_m1_1, b193_16, ite_b01, if_pos h2]
  by_cases hb : b = -1
  · subst hb
    refine fin 0 0 (by decide) (by decide) (fun Q => ?_) (fun I Q => ?_)
    · rw [pre1 Q, b94_19, if_pos rfl, b94_24 (by rw [e44]; exact R.1), and_iff_right (vp4 hk), e44]
      simp only [b94_35]
    · rw [pre2, b193_19, if_pos (by decide), b193_32, if_pos (by decide), b193_44, and_iff_right (vp4 hk), if_pos (by decide), b193_60, b193_65, and_iff_right (vp4 hk), nI_clamp (by omega)]
  have hb0 : ¬ b < 0 := by
    rcases wim1.mp h2 with z | z | z
    · exact absurd z hb
    · subst z; decide
    · subst z; decide
  by_cases h24 : 24 < c
  · refine Ok.ret C (-1000000001) (fun Q => ?_) (fun Q => ?_)
    · rw [pre1 Q, b94_19, if_neg hb, b94_37, if_pos h24, b94_43]
    · rw [pre2, b193_19, if_neg hb0, b193_23, if_pos h24, b193_29]
  by_cases hc0 : c < 0
  · refine Ok.ret C (-1000000014) (fun Q => ?_) (fun Q => ?_)
    · rw [pre1 Q, b94_19, if_neg hb, b94_37, if_neg h24, b94_46, if_pos hc0, b94_50]
    · rw [pre2, b193_19, if_neg hb0, b193_23, if_neg h24, b193_32, if_neg hb0, b193_36, if_pos hc0, b193_40]
  obtain ⟨n, hn, hw⟩ := wi0 24 (by decide) (by decide) ⟨Int32.not_lt.mp hc0, Int32.not_lt.mp h24⟩
  refine fin n c hn hw (fun Q => ?_) (fun I Q => ?_)
  · rw [pre1 Q, b94_19, if_neg hb, b94_37, if_neg h24, b94_46, if_neg hc0, b94_53 (by rw [e44]; exact R.1), and_iff_right (vp4 hk), e44]
    simp only [b94_64]
  · rw [pre2, b193_19, if_neg hb0, b193_23, if_neg h24, b193_32, if_neg hb0, b193_36, if_neg hc0, b193_44, and_iff_right (vp4 hk), if_neg hb0, b193_64, b193_65, and_iff_right (vp4 hk), nI_clamp (by omega)]
theorem m1_lt {v : Int32} (h : v = -1 ∨ v = 0 ∨ v = 1) : (v = -1) = (v < 0) := by
  rcases h with rfl | rfl | rfl <;> decide
theorem short16 (v : Int32) : (Int32.toInt16 v).toInt32 = (v <<< ((16 : Int32) &&& 31)) >>> ((16 : Int32) &&& 31) := by
  apply Int32.toBitVec_inj.mp
  show ((v.toBitVec.signExtend 16).signExtend 32) = (v.toBitVec <<< 16).sshiftRight 16
  apply BitVec.eq_of_getLsbD_eq
  intro i hi
  rw [BitVec.getLsbD_signExtend, BitVec.getLsbD_sshiftRight]
  have hm : (v.toBitVec.signExtend 16).msb = v.toBitVec.getLsbD 15 := by
    rw [BitVec.msb_eq_getLsbD_last, BitVec.getLsbD_signExtend]
    rfl
  have hm2 : (v.toBitVec <<< 16).msb = v.toBitVec.getLsbD 15 := by
    rw [BitVec.msb_eq_getLsbD_last, BitVec.getLsbD_shiftLeft]
    rfl
  have h32 : ¬ 32 ≤ i := by omega
  by_cases h : i < 16
  · rw [if_pos h, BitVec.getLsbD_signExtend, if_pos (show 16 + i < 32 by omega), BitVec.getLsbD_shiftLeft]
    simp [hi, h, h32, show i < 32 by omega]
    intro _; omega
  · rw [if_neg h, if_neg (show ¬ 16 + i < 32 by omega), hm, hm2]
    simp [hi, h32]
theorem ok16 (v : Int32) : okV (Int32.toInt16 v).toInt32 := by
  have h1 := Int16.toInt_lt (Int32.toInt16 v)
  have h2 := Int16.le_toInt (Int32.toInt16 v)
  have h3 : ((Int32.toInt16 v).toInt32).toInt = (Int32.toInt16 v).toInt := Int16.toInt_toInt32 _
  refine Or.inr ⟨?_, ?_⟩
  · rw [Int32.le_iff_toInt_le, h3, show (-99999 : Int32).toInt = -99999 by decide]; omega
  · rw [Int32.le_iff_toInt_le, h3, show (99999 : Int32).toInt = 99999 by decide]; omega
/-- one place of a sheet is written -/
theorem Cp.mk (C : Cp M N T) {k i : Nat} (hk : k < 4) (hi : i < 24) {v : Int32} (hv : okV v) : Cp (up (up M (94 + 2 * k) i v) 127 (24 * k + i) v) N T := by
  refine C.sh ?_ (fun c z1 z2 => by rw [up_c (by omega), up_c (by omega)])
  intro j hj
  have := C.s j hj
  rw [up_c (c := 127) (c' := 93 + 2 * j) (by omega), up_c (c' := 93 + 2 * j) (by omega), up_c (c := 127) (c' := 125) (by omega), up_c (c' := 125) (by omega), up_c (c := 127) (c' := 126) (by omega), up_c (c' := 126) (by omega), up_c (c := 127) (c' := 94 + 2 * j) (by omega)]
  refine ⟨this.1, this.2.1, this.2.2.1, this.2.2.2.1, fun i' hi' => ?_⟩
  by_cases z : j = k
  · subst z
    by_cases z2 : i' = i
    · subst z2
      rw [up_s, up_s]
      exact ⟨rfl, hv⟩
    · rw [up_k z2, up_k (by omega), up_c (by omega)]
      exact this.2.2.2.2 i' hi'
  · rw [up_c (by omega), up_k (by omega), up_c (by omega)]
    exact this.2.2.2.2 i' hi'
/-- promise 28 -/
theorem m95 (C : Cp M N T) {a b c : Int32} : Ok (d + 200) M 95 [.ref 0, .int a, .int b, .int c, UN] 194 [.ref 121, .int a, .int b, .int c] := by
  by_cases h1 : 0 ≤ a ∧ a ≤ 3
  rotate_left
  · exact Ok.ret C (-1000000001) (fun Q => by rw [b95_0, k111, b95_4, ite_b01, if_neg h1, b95_7]) (fun Q => by rw [b194_0, k192, b194_4, ite_b01, if_neg h1, b194_7])
  obtain ⟨k, hk', rfl⟩ := wi0 3 (by decide) (by decide) h1
  have hk : k < 4 := by omega
  have R := shR k hk
  have e44 := r44 hk
  obtain ⟨s1, s2, s3, ⟨n, hn, s4⟩, s5⟩ := C.s k hk
  have ck : (nI k).toNatClampNeg = k := nI_clamp (by omega)
  by_cases hm : M 125 k = -1
  · refine Ok.ret C (-1000000011) (fun Q => ?_) (fun Q => ?_)
    · rw [b95_0, k111, b95_4, ite_b01, if_pos h1, b95_10 (by rw [e44]; exact R.1), and_iff_right (vp4 hk), e44, k53 R, b95_23, ite_b01, s1, if_pos hm, b95_26]
    · rw [b194_0, k192, b194_4, ite_b01, if_pos h1, b194_10, and_iff_right (vp4 hk), ck, if_pos (by rw [hm]; decide), b194_19]
  have hm' : ¬ M 125 k < 0 := by rw [← m1_lt s3]; exact hm
  have p1 : ∀ Q : Po, E (d + 200, 95, 0, [.ref 0, .int (nI k), .int b, .int c, UN], [], M) Q ↔ if 0 ≤ b ∧ b ≤ nI n - 1 then E (d + 200, 95, 41, [.ref 0, .int (nI k), .int b, .int c, .ref (93 + 2 * k)], [], M) Q else Q (.int (-1000000013)) M := fun Q => by
    rw [b95_0, k111, b95_4, ite_b01, if_pos h1, b95_10 (by rw [e44]; exact R.1), and_iff_right (vp4 hk), e44, k53 R, b95_23, ite_b01, s1, if_neg hm, b95_29 R.1, k56 R, b95_35, s2, s4, ite_b01, b95_38]
  have p2 : ∀ (I : IM) (Q : Po), I 125 = M 125 → I 126 = M 126 → (E (d + 200, 194, 0, [.ref 121, .int (nI k), .int b, .int c], [], I) Q ↔ if 0 ≤ b ∧ b ≤ nI n - 1 then E (d + 200, 194, 45, [.ref 121, .int (nI k), .int b, .int c], [], I) Q else Q (.int (-1000000013)) I) := fun I Q e1 e2 => by
    rw [b194_0, k192, b194_4, ite_b01, if_pos h1, b194_10, and_iff_right (vp4 hk), ck, e1, if_neg hm', b194_23, and_iff_right (vp4 hk), ck, e2, s4, k119v, b194_38, ite_b01, b194_41]
  by_cases h2 : 0 ≤ b ∧ b ≤ nI n - 1
  rotate_left
  · exact Ok.ret C (-1000000013) (fun Q => by rw [p1, if_neg h2]) (fun Q => by rw [p2 M Q rfl rfl, if_neg h2])
  obtain ⟨i, hi, rfl⟩ := (isP (by omega)).mp h2
  have ci : (nI i).toNatClampNeg = i := nI_clamp (by omega)
  have hR : aShp (aRf (93 + 2 * k) 0) = 20 := by rw [R.2.1]; exact R.2.2.1
  have wr : ∀ v : Int32, okV v → (∀ Q : Po, E (d + 200, 95, 0, [.ref 0, .int (nI k), .int (nI i), .int c, UN], [], M) Q ↔ Q (.int 1) (up M (94 + 2 * k) i v)) → (∀ (I : IM) (Q : Po), I 125 = M 125 → I 126 = M 126 → (E (d + 200, 194, 0, [.ref 121, .int (nI k), .int (nI i), .int c], [], I) Q ↔ Q (.int 1) (up I 127 (24 * k + i) v))) → Ok (d + 200) M 95 [.ref 0, .int (nI k), .int (nI i), .int c, UN] 194 [.ref 121, .int (nI k), .int (nI i), .int c] := fun v hv q1 q2 => ⟨1, up M (94 + 2 * k) i v, up (up M (94 + 2 * k) i v) 127 (24 * k + i) v, q1, fun Q => q2 _ Q (up_c (by omega)) (up_c (by omega)), ⟨N, T, C.mk hk (by omega) hv⟩, fun c' hc => by rw [up_c (by omega), up_c (by omega)]⟩
  rcases s3 with z | z | z
  · exact absurd z hm
  · by_cases hc : c = -1000000005
    · refine Ok.ret C (-1000000012) (fun Q => ?_) (fun Q => ?_)
      · rw [p1, if_pos h2, b95_41 R.1, s1, if_pos z, b95_49, if_pos hc, b95_55]
      · rw [p2 M Q rfl rfl, if_pos h2, b194_45, and_iff_right (vp4 hk), ck, if_pos z, b194_54, if_pos hc, b194_60]
    · refine wr _ (ok16 c) (fun Q => ?_) (fun I Q e1 e2 => ?_)
      · rw [p1, if_pos h2, b95_41 R.1, s1, if_pos z, b95_49, if_neg hc, b95_58 R.1 hR, R.2.1, R.2.2.2.1, and_iff_right (vp_in_nI (by omega) (by decide)), ci]
      · rw [p2 I Q e1 e2, if_pos h2, b194_45, and_iff_right (vp4 hk), ck, e1, if_pos z, b194_54, if_neg hc, b194_63, and_iff_right (vp4 hk), ck, e1, if_neg (by rw [z]; decide), b194_96, and_iff_right (vp4 hk), ck, e1, if_pos z, b194_115, b194_126, i24, and_iff_right (vp_in_nI (by omega) (by decide)), nI_clamp (by omega), short16]
  · have z0 : ¬ M 125 k = 0 := by rw [z]; decide
    have w1 : ∀ Q : Po, E (d + 200, 95, 91, [.ref 0, .int (nI k), .int (nI i), .int c, .ref (93 + 2 * k)], [], M) Q ↔ Q (.int 1) (up M (94 + 2 * k) i c) := fun Q => by
      rw [b95_91 R.1 hR, R.2.1, R.2.2.2.1, and_iff_right (vp_in_nI (by omega) (by decide)), ci]
    have w2 : ∀ (I : IM) (Q : Po), I 125 = M 125 → (E (d + 200, 194, 96, [.ref 121, .int (nI k), .int (nI i), .int c], [], I) Q ↔ Q (.int 1) (up I 127 (24 * k + i) c)) := fun I Q e1 => by
      rw [b194_96, and_iff_right (vp4 hk), ck, e1, if_neg z0, b194_125, b194_126, i24, and_iff_right (vp_in_nI (by omega) (by decide)), nI_clamp (by omega)]
    by_cases hc : c = -1000000005
    · refine wr c (Or.inl hc) (fun Q => ?_) (fun I Q e1 e2 => ?_)
      · rw [p1, if_pos h2, b95_41 R.1, s1, if_neg z0, b95_69, if_pos hc, w1]
      · rw [p2 I Q e1 e2, if_pos h2, b194_45, and_iff_right (vp4 hk), ck, e1, if_neg z0, b194_63, and_iff_right (vp4 hk), ck, e1, if_pos z, b194_73, if_pos hc, w2 I Q e1]
    · by_cases h9 : -99999 ≤ c ∧ c ≤ 99999
      · refine wr c (Or.inr h9) (fun Q => ?_) (fun I Q e1 e2 => ?_)
        · rw [p1, if_pos h2, b95_41 R.1, s1, if_neg z0, b95_69, if_neg hc, b95_75, k108, b95_85, ite_b01, if_pos h9, w1]
        · rw [p2 I Q e1 e2, if_pos h2, b194_45, and_iff_right (vp4 hk), ck, e1, if_neg z0, b194_63, and_iff_right (vp4 hk), ck, e1, if_pos z, b194_73, if_neg hc, b194_79, k119_m99999_99999, b194_90, ite_b01, if_pos h9, w2 I Q e1]
      · refine Ok.ret C (-1000000001) (fun Q => ?_) (fun Q => ?_)
        · rw [p1, if_pos h2, b95_41 R.1, s1, if_neg z0, b95_69, if_neg hc, b95_75, k108, b95_85, ite_b01, if_neg h9, b95_88]
        · rw [p2 M Q rfl rfl, if_pos h2, b194_45, and_iff_right (vp4 hk), ck, if_neg z0, b194_63, and_iff_right (vp4 hk), ck, if_pos z, b194_73, if_neg hc, b194_79, k119_m99999_99999, b194_90, ite_b01, if_neg h9, b194_93]
/-- promise 30 -/
theorem m97 (C : Cp M N T) {a : Int32} : Ok (d + 200) M 97 [.ref 0, .int a, UN, UN] 196 [.ref 121, .int a, UN, UN] := by
  have hN := C.le
  by_cases h1 : 0 ≤ a ∧ a ≤ 3
  rotate_left
  · exact Ok.ret C (-1000000001) (fun Q => by rw [b97_0, k111, b97_4, ite_b01, if_neg h1, b97_7]) (fun Q => by rw [b196_0, k192, b196_4, ite_b01, if_neg h1, b196_7])
  obtain ⟨k, hk', rfl⟩ := wi0 3 (by decide) (by decide) h1
  have hk : k < 4 := by omega
  have R := shR k hk
  have e44 := r44 hk
  obtain ⟨s1, s2, s3, ⟨n, hn, s4⟩, s5⟩ := C.s k hk
  have ck : (nI k).toNatClampNeg = k := nI_clamp (by omega)
  by_cases hm : M 125 k = -1
  · refine Ok.ret C (-1000000011) (fun Q => ?_) (fun Q => ?_)
    · rw [b97_0, k111, b97_4, ite_b01, if_pos h1, b97_10 (by rw [e44]; exact R.1), and_iff_right (vp4 hk), e44, k53 R, b97_21, ite_b01, s1, if_pos hm, b97_24]
    · rw [b196_0, k192, b196_4, ite_b01, if_pos h1, b196_10, and_iff_right (vp4 hk), ck, if_pos (by rw [hm]; decide), b196_19]
  have hm' : ¬ M 125 k < 0 := by rw [← m1_lt s3]; exact hm
  have hR : aShp (aRf (93 + 2 * k) 0) = 20 := by rw [R.2.1]; exact R.2.2.1
  have loop : ∀ (m i : Nat), i + m = n → ∃ r : Int32, (∀ Q : Po, E (d + 200, 97, 29, [.ref 0, .int (nI k), .ref (93 + 2 * k), .int (nI i)], [], M) Q ↔ Q (.int r) M) ∧ ∀ (Q : Po) (x : Value), E (d + 200, 196, 25, [.ref 121, .int (nI k), .int (nI i), x], [], M) Q ↔ Q (.int r) M := by
    intro m
    induction m with
    | zero =>
      intro i hi
      refine ⟨-1000000005, fun Q => ?_, fun Q x => ?_⟩
      · rw [b97_29 R.1, s2, s4, if_neg (nI_nlt (by omega) (by omega)), b97_82]
      · rw [b196_25, and_iff_right (vp4 hk), ck, s4, if_neg (nI_nlt (by omega) (by omega)), b196_81]
    | succ m ih =>
      intro i hi
      obtain ⟨r, r1, r2⟩ := ih (i + 1) (by omega)
      obtain ⟨v1, v2⟩ := s5 i (by omega)
      have c1 : ∀ Q : Po, E (d + 200, 97, 29, [.ref 0, .int (nI k), .ref (93 + 2 * k), .int (nI i)], [], M) Q ↔ if i < n ∧ ¬ M (94 + 2 * k) i = -1000000005 then E (d + 200, 97, 45, [.ref 0, .int (nI k), .ref (93 + 2 * k), .int (nI i)], [], M) Q else Q (.int r) M := fun Q => by
        rw [b97_29 R.1, s2, s4, if_pos (nI_lt (by omega) (by omega)), b97_37 R.1, k58 R hn (by omega) (by rw [s2, s4]), b97_42, ite_b01, b97_76, nI_1, r1]
      have c2 : ∀ (Q : Po) (x : Value), E (d + 200, 196, 25, [.ref 121, .int (nI k), .int (nI i), x], [], M) Q ↔ if M 127 (24 * k + i) = -1000000005 then Q (.int r) M else E (d + 200, 196, 53, [.ref 121, .int (nI k), .int (nI i), .int (M 127 (24 * k + i))], [], M) Q := fun Q x => by
        rw [b196_25, and_iff_right (vp4 hk), ck, s4, if_pos (nI_lt (by omega) (by omega)), b196_35, i24, and_iff_right (vp_in_nI (by omega) (by decide)), nI_clamp (by omega), b196_75, nI_1, r2]
      by_cases hz : M 127 (24 * k + i) = -1000000005
      · refine ⟨r, fun Q => ?_, fun Q x => ?_⟩
        · rw [c1, if_neg (fun y => y.2 (by rw [v1]; exact hz))]
        · rw [c2, if_pos hz]
      · have c1' : ∀ Q : Po, E (d + 200, 97, 29, [.ref 0, .int (nI k), .ref (93 + 2 * k), .int (nI i)], [], M) Q ↔ E (d + 200, 97, 45, [.ref 0, .int (nI k), .ref (93 + 2 * k), .int (nI i)], [], M) Q := fun Q => by
          rw [c1, if_pos ⟨by omega, by rw [v1]; exact hz⟩]
        by_cases hp : i < N
        · have q1 : ∀ Q : Po, E (d + 200, 97, 29, [.ref 0, .int (nI k), .ref (93 + 2 * k), .int (nI i)], [], M) Q ↔ if M 127 (24 * k + i) = M 122 (10 + 5 * i + 2) then Q (.int r) M else Q (.int (nI i)) M := fun Q => by
            rw [c1', b97_45, k113, b97_50, C.n1, ite_b01, if_pos ((isP (by omega)).mpr ⟨i, hp, rfl⟩), b97_53 R.1 hR (by rw [g4 (by omega)]; exact (s4g (by omega))), R.2.1, R.2.2.2.1, and_iff_right (vp_in_nI (by omega) (by decide)), and_iff_right (vp10 (by omega)), g4 (by omega), nI_clamp (by omega), v1, C.g hp (by decide), b97_76, nI_1, r1, b97_74]
          have q2 : ∀ (Q : Po) (x : Value), E (d + 200, 196, 25, [.ref 121, .int (nI k), .int (nI i), x], [], M) Q ↔ if M 127 (24 * k + i) = M 122 (10 + 5 * i + 2) then Q (.int r) M else Q (.int (nI i)) M := fun Q x => by
            rw [c2, if_neg hz, b196_53, C.n2, if_pos (nI_lt hp (by omega)), b196_63, k126_2 (by omega), b196_70, b196_75, nI_1, r2, b196_73]
          by_cases he : M 127 (24 * k + i) = M 122 (10 + 5 * i + 2)
          · exact ⟨r, fun Q => by rw [q1, if_pos he], fun Q x => by rw [q2, if_pos he]⟩
          · exact ⟨nI i, fun Q => by rw [q1, if_neg he], fun Q x => by rw [q2, if_neg he]⟩
        · refine ⟨nI i, fun Q => ?_, fun Q x => ?_⟩
          · rw [c1', b97_45, k113, b97_50, C.n1, ite_b01, if_neg (fun z => by obtain ⟨j, j1, j2⟩ := (isP (by omega)).mp z; rw [nI_eqI (by omega) (by omega)] at j2; omega), b97_74]
          · rw [c2, if_neg hz, b196_53, C.n2, if_neg (nI_nlt (by omega) (by omega)), b196_73]
  obtain ⟨r, r1, r2⟩ := loop n 0 (by omega)
  refine Ok.ret C r (fun Q => ?_) (fun Q => ?_)
  · rw [b97_0, k111, b97_4, ite_b01, if_pos h1, b97_10 (by rw [e44]; exact R.1), and_iff_right (vp4 hk), e44, k53 R, b97_21, ite_b01, s1, if_neg hm, b97_27]
    exact r1 Q
  · rw [b196_0, k192, b196_4, ite_b01, if_pos h1, b196_10, and_iff_right (vp4 hk), ck, if_neg hm', b196_23]
    exact r2 Q UN
end K9
