/-! check -/
/-- the first place, of these, that isn't as told -/
def sCk (D W : Nat → Int32) (many : Nat) : Nat → Nat → Nat
  | 0, k => k
  | f + 1, k => if k < many ∧ W k = D k then sCk D W many f (k + 1) else k
def sCr (K many due : Nat) : Int32 := if K = many ∧ K = due then 0 else nI (1 + K)
/-- what is due -/
def sDu (A : Fn4) (N : Nat) (S : Nat → Int32) (k : Nat) : Int32 := if k % 2 = 0 then sPass A N S (k / 2 + 1) 6 else sSum (sPass A N S (k / 2 + 1)) 1 N
section K14
variable {d : Nat} {M I : IM} {N T : Nat} {Q : Po} {S : Nat → Int32} {A : Fn4} {lv : Value}
theorem k118 {k many : Nat} {v : Int32} (hk : k ≤ 60) (hm : many ≤ 60) : E (d, 118, 0, [.ref 0, .int (nI k), .int (nI many), .int v], [], I) Q ↔ Q (.int (b01 (k < many ∧ I 46 k = v))) I := by
  rw [b118_0]
  by_cases h : k < many
  · rw [if_pos (nI_lt h (by omega)), b118_5, if_pos (show nI k < 60 from (show nI k < nI 60 from nI_lt (by omega) (by decide))), b118_14, and_iff_right (vp_in_nI (by omega) (by decide)), nI_clamp (by omega), b118_24, b118_28, b118_29, b118_29, aNar0, aNar1, true_and, true_and]
    by_cases z : I 46 k = v
    · rw [if_pos z, b01_t ⟨h, z⟩]
    · rw [if_neg z, b01_f (fun y => z y.2)]
  · rw [if_neg (nI_nlt (by omega) (by omega)), b118_28, b118_29, aNar0, true_and, b01_f (fun y => h y.1)]
theorem k117_loop {n : Int32} {r many : Nat} (hr : r ≤ 30) (hm : many ≤ 60) (L : Lw M lv A) : ∀ (k i : Nat) (I : IM), i + k = r → frK M I → isH I 14 (sPass A N S i) N →
    ∃ I', Rn (d + 6, 117, 44, [.ref 0, .int n, .int (nI many), lv, .int (nI r), .int (nI (2 * i)), .int (nI i)], [], I) (.int (sCr (sCk (sDu A N S) (M 46) many (2 * r - 2 * i) (2 * i)) many (2 * r))) I' ∧ frK M I' := by
  intro k
  induction k with
  | zero =>
    intro i I hi f H
    have : i = r := by omega
    subst this
    refine ⟨I, fun Q => ?_, f⟩
    rw [b117_44m L.lv, if_neg (nI_nlt (Nat.le_refl _) (by omega)), b117_115m L.lv, Nat.sub_self]
    show _ ↔ Q (.int (sCr (2 * i) many (2 * i))) I
    unfold sCr
    by_cases z : 2 * i = many
    · rw [if_pos (by rw [z]), if_pos ⟨z, rfl⟩, b117_121m L.lv, b117_129m L.lv]
    · rw [if_neg (fun y => z ((nI_eqI (by omega) (by omega)).mp y)), if_neg (fun y => z y.1), b117_125m L.lv, b117_129m L.lv, show (1 : Int32) = nI 1 by decide, nI_add]
  | succ k ih =>
    intro i I hi f H
    obtain ⟨I1, a1, a2, a3⟩ := k27 (d := d) (ev := 1) (x := UN) is14 H (f.L L)
    rw [show Int32.toNatClampNeg 1 = 1 by decide] at a2
    have H1 : isH I1 14 (sPass A N S (i + 1)) N := a2
    have f1 := f.tr (frK.ofE a3)
    have e46 : I1 46 = M 46 := f1 46 (by omega) (fun z => by have := scr_lt z; omega)
    have e6 : I1 14 6 = sDu A N S (2 * i) := by
      unfold sDu
      rw [if_pos (by omega), show 2 * i / 2 = i by omega]
      exact H1.f (i := 6) (by decide)
    have es : sSum (sPass A N S (i + 1)) 1 N = sDu A N S (2 * i + 1) := by
      unfold sDu
      rw [if_neg (by omega), show (2 * i + 1) / 2 = i by omega]
    have e1 : nI (2 * i) + 1 = nI (2 * i + 1) := nI_1 _
    have e2 : nI (2 * i) + 2 = nI (2 * (i + 1)) := nI_k (2 * i) 2 2 (by decide)
    have st : ∀ Q : Po, E (d + 6, 117, 44, [.ref 0, .int n, .int (nI many), lv, .int (nI r), .int (nI (2 * i)), .int (nI i)], [], I) Q ↔ if 2 * i < many ∧ M 46 (2 * i) = sDu A N S (2 * i) then (if 2 * i + 1 < many ∧ M 46 (2 * i + 1) = sDu A N S (2 * i + 1) then E (d + 6, 117, 44, [.ref 0, .int n, .int (nI many), lv, .int (nI r), .int (nI (2 * (i + 1))), .int (nI (i + 1))], [], I1) Q else Q (.int (nI (1 + (2 * i + 1)))) I1) else Q (.int (nI (1 + 2 * i))) I1 := fun Q => by
      rw [b117_44m L.lv, if_pos (nI_lt (by omega) (by omega)), b117_51m L.lv, a1, b117_60m L.lv, k118 (by omega) hm, e46, e6, b117_74m L.lv, ite_b01, b117_82m L.lv, k31 is14 H1, es, b117_95m L.lv, e1, k118 (by omega) hm, e46, b117_98m L.lv, ite_b01, b117_106m L.lv, e2, nI_1, b117_101m L.lv, b117_77m L.lv, show (1 : Int32) = nI 1 by decide, show (2 : Int32) = nI 2 by decide, nI_add, nI_add, show 2 + 2 * i = 1 + (2 * i + 1) by omega]
    by_cases z1 : 2 * i < many ∧ M 46 (2 * i) = sDu A N S (2 * i)
    · by_cases z2 : 2 * i + 1 < many ∧ M 46 (2 * i + 1) = sDu A N S (2 * i + 1)
      · obtain ⟨I', r1, r2⟩ := ih (i + 1) I1 (by omega) f1 H1
        refine ⟨I', fun Q => ?_, r2⟩
        have e : sCk (sDu A N S) (M 46) many (2 * r - 2 * i) (2 * i) = sCk (sDu A N S) (M 46) many (2 * r - 2 * (i + 1)) (2 * (i + 1)) := by
          rw [show 2 * r - 2 * i = (2 * r - 2 * (i + 1)) + 1 + 1 by omega]
          show (if _ then (if _ then _ else _) else _) = _
          rw [if_pos z1, if_pos z2]
          rfl
        rw [st Q, if_pos z1, if_pos z2, r1 Q, e]
      · refine ⟨I1, fun Q => ?_, f1⟩
        have e : sCk (sDu A N S) (M 46) many (2 * r - 2 * i) (2 * i) = 2 * i + 1 := by
          rw [show 2 * r - 2 * i = (2 * r - 2 * (i + 1)) + 1 + 1 by omega]
          show (if _ then (if _ then _ else _) else _) = _
          rw [if_pos z1, if_neg z2]
        rw [st Q, if_pos z1, if_neg z2, e]
        unfold sCr
        rw [if_neg (by omega)]
    · refine ⟨I1, fun Q => ?_, f1⟩
      have e : sCk (sDu A N S) (M 46) many (2 * r - 2 * i) (2 * i) = 2 * i := by
        rw [show 2 * r - 2 * i = (2 * r - 2 * (i + 1)) + 1 + 1 by omega]
        show (if _ then _ else _) = _
        rw [if_neg z1]
      rw [st Q, if_neg z1, e]
      unfold sCr
      rw [if_neg (by omega)]
theorem k207_loop {n many r e : Nat} (hn : n ≤ 30) (hr : r = min n (9999 - e)) (he : e ≤ 9999) (B : bd S N) (X : wfX S T) (hev : S 2 = nI e) : ∀ (k i : Nat) (I : IM), i + k = r → I 122 = sPass (mA S 0 T) N S i → (∀ j, j < 2 * i → I 139 j = sDu (mA S 0 T) N S j) →
    ∃ I', (∀ Q : Po, E (d + 6, 207, 65, [.ref 121, .int (nI n), .int (nI many), .int (nI (2 * i)), .int (nI i)], [], I) Q ↔ E (d + 6, 207, 122, [.ref 121, .int (nI n), .int (nI many), .int (nI (2 * r)), .int (nI r)], [], I') Q) ∧ (∀ j, j < 2 * r → I' 139 j = sDu (mA S 0 T) N S j) ∧ I' 122 = sPass (mA S 0 T) N S r ∧ ∀ c, c ≠ 122 → c ≠ 135 → c ≠ 136 → c ≠ 139 → I' c = I c := by
  have hN := B.2.1
  intro k
  induction k with
  | zero =>
    intro i I hi h1 h2
    have : i = r := by omega
    subst this
    refine ⟨I, fun Q => ?_, h2, h1, fun _ _ _ _ _ => rfl⟩
    rw [b207_65, b207_71, h1, pass_2 hN, hev, nI_add]
    by_cases z : i < n
    · rw [if_pos (nI_lt z (by omega)), if_neg (show ¬ nI (e + i) < 9999 from (show ¬ nI (e + i) < nI 9999 from nI_nlt (by omega) (by omega)))]
    · rw [if_neg (nI_nlt (by omega) (by omega))]
  | succ k ih =>
    intro i I hi h1 h2
    have cg : ∀ j, 60 ≤ j → I 122 j = S j := fun j hj => by rw [h1]; exact pass_hi hN (Or.inl hj) i
    have B1 : bd (I 122) N := by rw [h1]; exact bd_pass B i
    have X1 : wfX (I 122) T := wfX_cg cg (by rw [h1]; exact pass_hi hN (by omega) i) X
    obtain ⟨I1, q1, q2, q3⟩ := k152 (d := d) (a := UN) (b := UN) (c := UN) (e := UN) B1 X1
    rw [mA_cg cg, h1] at q2
    have q2' : I1 122 = sPass (mA S 0 T) N S (i + 1) := q2
    have e139 : I1 139 = I 139 := q3 139 (by decide) (by decide) (by decide)
    have d0 : sPass (mA S 0 T) N S (i + 1) 6 = sDu (mA S 0 T) N S (2 * i) := by
      unfold sDu
      rw [if_pos (by omega), show 2 * i / 2 = i by omega]
    have d1 : sSum (sPass (mA S 0 T) N S (i + 1)) 1 N = sDu (mA S 0 T) N S (2 * i + 1) := by
      unfold sDu
      rw [if_neg (by omega), show (2 * i + 1) / 2 = i by omega]
    have u122 : (up I1 139 (2 * i) (sDu (mA S 0 T) N S (2 * i))) 122 = sPass (mA S 0 T) N S (i + 1) := by rw [up_c (by decide)]; exact q2'
    have u0 : (up I1 139 (2 * i) (sDu (mA S 0 T) N S (2 * i))) 122 0 = nI N := by rw [u122]; exact (bd_pass B (i + 1)).1
    obtain ⟨I', r1, r2, r3, r4⟩ := ih (i + 1) (up (up I1 139 (2 * i) (sDu (mA S 0 T) N S (2 * i))) 139 (2 * i + 1) (sDu (mA S 0 T) N S (2 * i + 1))) (by omega) (by rw [up_c (by decide)]; exact u122) (fun j hj => by
      by_cases z : j = 2 * i + 1
      · rw [z, up_s]
      · rw [up_k z]
        by_cases z2 : j = 2 * i
        · rw [z2, up_s]
        · rw [up_k z2, e139]; exact h2 j (by omega))
    refine ⟨I', fun Q => ?_, r2, r3, fun c z1 z2 z3 z4 => by rw [r4 c z1 z2 z3 z4, up_c z4, up_c z4, q3 c z1 z2 z3]⟩
    rw [b207_65, if_pos (nI_lt (by omega) (by omega)), b207_71, h1, pass_2 hN, hev, nI_add, if_pos (show nI (e + i) < 9999 from (show nI (e + i) < nI 9999 from nI_lt (by omega) (by decide))), b207_83, q1, b207_87, and_iff_right (vp_in_nI (by omega) (by decide)), nI_clamp (by omega), q2', d0, k155 (j := 1) (by decide) (by decide) u0 hN, u122, d1, b207_112, nI_1, and_iff_right (vp_in_nI (by omega) (by decide)), nI_clamp (by omega), nI_1, nI_k (2 * i) 2 2 (by decide)]
    exact r1 Q
theorem k207_end {n : Int32} {many due : Nat} {D : Nat → Int32} (hm : many ≤ 60) (hd : due ≤ 60) (hD : ∀ j, j < due → I 139 j = D j) : ∀ (f k : Nat), k + f = due → (E (d, 207, 137, [.ref 121, .int n, .int (nI many), .int (nI due), .int (nI k)], [], I) Q ↔ Q (.int (sCr (sCk D (I 138) many f k) many due)) I) := by
  have fin : ∀ k, k ≤ due → (E (d, 207, 172, [.ref 121, .int n, .int (nI many), .int (nI due), .int (nI k)], [], I) Q ↔ Q (.int (sCr k many due)) I) := fun k hk => by
    unfold sCr
    rw [b207_172, b207_178]
    by_cases z1 : k = many
    · by_cases z2 : k = due
      · rw [if_pos ((nI_eqI (by omega) (by omega)).mpr z1), if_pos ((nI_eqI (by omega) (by omega)).mpr z2), if_pos ⟨z1, z2⟩, b207_184, b207_192]
      · rw [if_pos ((nI_eqI (by omega) (by omega)).mpr z1), if_neg (fun y => z2 ((nI_eqI (by omega) (by omega)).mp y)), if_neg (fun y => z2 y.2), b207_188, b207_192, show (1 : Int32) = nI 1 by decide, nI_add]
    · rw [if_neg (fun y => z1 ((nI_eqI (by omega) (by omega)).mp y)), if_neg (fun y => z1 y.1), b207_188, b207_192, show (1 : Int32) = nI 1 by decide, nI_add]
  intro f
  induction f with
  | zero =>
    intro k hk
    rw [b207_137, b207_143, if_neg (show ¬ nI k < nI due from nI_nlt (by omega) (by omega)), ite_self]
    exact fin k (by omega)
  | succ f ih =>
    intro k hk
    show _ ↔ Q (.int (sCr (if k < many ∧ I 138 k = D k then sCk D (I 138) many f (k + 1) else k) many due)) I
    rw [b207_137]
    by_cases z1 : k < many
    · rw [if_pos (nI_lt z1 (by omega)), b207_143, if_pos (nI_lt (by omega) (by omega)), b207_149, and_iff_right (vp_in_nI (by omega) (by decide)), and_iff_right (vp_in_nI (by omega) (by decide)), nI_clamp (by omega), hD k (by omega)]
      by_cases z2 : I 138 k = D k
      · rw [if_pos z2, if_pos ⟨z1, z2⟩, b207_166, nI_1]
        exact ih (k + 1) (by omega)
      · rw [if_neg z2, if_neg (fun y => z2 y.2)]
        exact fin k (by omega)
    · rw [if_neg (nI_nlt (by omega) (by omega)), if_neg (fun y => z1 y.1)]
      exact fin k (by omega)
theorem sCk_cg {D W W' : Nat → Int32} {many : Nat} (h : ∀ i, i < many → W i = W' i) : ∀ (f k : Nat), sCk D W many f k = sCk D W' many f k := by
  intro f
  induction f with
  | zero => intro k; rfl
  | succ f ih =>
    intro k
    show (if _ then _ else _) = (if _ then _ else _)
    by_cases z : k < many
    · rw [h k z, ih]
    · rw [if_neg (fun y => z y.1), if_neg (fun y => z y.1)]
/-- promise 37 -/
theorem m104 (C : Cp M N T) {a : Int32} : Ok (d + 200) M 104 [.ref 0, .int a, UN] 207 [.ref 121, .int a, UN, UN, UN] := by
  obtain ⟨m, hm, w1, w2, w3⟩ := C.w
  obtain ⟨i1, i2⟩ := C.i
  -- the row in waiting is empty then
  have C0 : Cp (up (up M 0 9 0) 121 29 0) N T := C.wt ⟨0, by decide, by rw [up_c (by decide), up_s]; decide, by rw [up_s]; decide, fun i hi => by omega⟩ (fun c z1 z2 z3 z4 => by rw [up_c z3, up_c z1]) (by rw [up_c (by decide), up_k (by decide)]) (by rw [up_k (by decide), up_c (by decide)]) (by rw [up_k (by decide), up_c (by decide)])
  have fz0 : fz M (up (up M 0 9 0) 121 29 0) := fun c hc => by rw [up_c (by omega), up_c (by omega)]
  by_cases h1 : 1 ≤ a ∧ a ≤ 30
  rotate_left
  · refine ⟨-1000000001, up M 0 9 0, up (up M 0 9 0) 121 29 0, fun Q => ?_, fun Q => ?_, ⟨N, T, C0⟩, fz0⟩
    · rw [b104_0, k108, b104_17, ite_b01, if_neg h1, b104_20]
    · rw [b207_0, k119_1_30, b207_19, ite_b01, if_neg h1, b207_22]
  have p1 : ∀ Q : Po, E (d + 200, 104, 0, [.ref 0, .int a, UN], [], M) Q ↔ E (d + 200, 104, 23, [.ref 0, .int a, .int (nI m)], [], up M 0 9 0) Q := fun Q => by
    rw [b104_0, k108, b104_17, ite_b01, if_pos h1, w1]
  have p2 : ∀ (I : IM) (Q : Po), I 121 = M 121 → (E (d + 200, 207, 0, [.ref 121, .int a, UN, UN, UN], [], I) Q ↔ if M 121 3 = 0 then Q (.int (-1000000002)) (up I 121 29 0) else E (d + 200, 207, 36, [.ref 121, .int a, .int (nI m), UN, UN], [], up I 121 29 0) Q) := fun I Q e => by
    rw [b207_0, k119_1_30, b207_19, ite_b01, if_pos h1, e, w2, b207_25, up_k (by decide), e, b207_32]
  rcases i2 with z | ⟨z, Ni, Ti, H, B, X, hTi, sm, ct, ev⟩
  · refine ⟨-1000000002, up M 0 9 0, up (up M 0 9 0) 121 29 0, fun Q => ?_, fun Q => ?_, ⟨N, T, C0⟩, fz0⟩
    · rw [p1, b104_23, up_k (by decide), if_pos z, b104_39, b104_42]
    · rw [p2 _ Q (up_c (by decide)), if_pos (by rw [← i1]; exact z)]
  have z0 : ¬ M 0 3 = 0 := by rw [z]; decide
  have hNi := B.2.1
  have hX := X.2.1
  obtain ⟨n, n1, n2, rfl⟩ := wi1 30 (by decide) (by decide) h1
  obtain ⟨e, e1, e2⟩ := ev
  have e27 : M 27 9 = nI e := (H.f (i := 2) (by decide)).trans e2
  have es : (9999 : Int32) - nI e = nI (9999 - e) := nI_sub (a := 9999) e1
  have mc : (if nI (9999 - e) < nI n then nI (9999 - e) else nI n) = nI (min n (9999 - e)) := by
    rcases Nat.lt_or_ge (9999 - e) n with z | z
    · rw [if_pos (nI_lt z (by omega)), Nat.min_eq_right (by omega)]
    · rw [if_neg (nI_nlt z (by omega)), Nat.min_eq_left z]
  -- the image as the reference lays it over its row
  generalize hRd : (fun i => if i < 2860 then M 123 i else M 122 i) = R
  have Rlo : ∀ i, i < 2860 → R i = M 123 i := fun i hi => by rw [← hRd]; exact if_pos hi
  have Rhi : ∀ i, 2860 ≤ i → R i = M 122 i := fun i hi => by rw [← hRd]; exact if_neg (by omega)
  have sR : ∀ t, t < Ti → sameT (M 123) R t := fun t ht i h1 h2 => Rlo i (by omega)
  have BR : bd R Ni := bd_ext B (fun i hi => Rlo i (by omega))
  have XR : wfX R Ti := wfX_same sR (Rlo 1 (by decide)) X
  have AR : mA R 0 Ti = mA (M 123) 0 Ti := mA_same sR X
  -- the class
  have Hu : isH (up M 0 9 0) 27 R Ni := (H.fr (fun c hc => up_c (by omega))).ext' (fun i hi => Rlo i (by omega))
  have tx : ∀ t, t < Ti → txOk (up M 0 9 0) (M 123) t := fun t ht => by
    have s1 : sameT (M 122) (M 123) t := fun i h1 h2 => (sm i (by omega) (by omega)).symm
    have := s1.tx (C.h.X.2.2 t (by omega)) (C.h.tx t (by omega))
    unfold txOk at *
    rw [up_c (by omega), up_c (by omega)]
    exact this
  obtain ⟨lv, l1, l2⟩ := k115g (d := d + 197) (M := up M 0 9 0) (h := 27) (k := 0) (v := 0) (x := UN) is27 (by decide) (by decide) hX X.2.2 tx (by rw [up_c (by decide)]; exact ct 0 (by decide))
  rw [← AR] at l2
  obtain ⟨I1, a1, a2, -, a4⟩ := k19 (d := d + 197) (I := up M 0 9 0) (h := 14) (g := 27) (x := UN) is14 is27 (by decide) Hu
  have f0 : frK (up M 0 9 0) I1 := fun c h1 _ => a4 c (by omega) (by omega) (by omega)
  obtain ⟨M1, c1, c2⟩ := k117_loop (d := d + 193) (n := nI n) (r := min n (9999 - e)) (many := m) (S := R) (N := Ni) (by omega) hm l2 (min n (9999 - e)) 0 I1 (by omega) f0 a2
  have k46 : (up M 0 9 0) 46 = M 46 := up_c (by decide)
  rw [k46] at c1
  have g1 : ∀ c, c ≠ 0 → ¬ (14 ≤ c ∧ c < 27) → ¬ scr c → M1 c = M c := fun c y1 y2 y3 => by rw [c2 c y2 y3, up_c y1]
  have ns : ∀ c, 93 ≤ c → ¬ scr c := fun c hc y => by have := scr_lt y; omega
  -- the reference
  obtain ⟨I2, b1, b2, -, b4⟩ := k206 (d := d + 199) (I := up M1 121 29 0) (a := 122) (b := 124) (x := UN) rfl rfl rfl rfl (by decide)
  obtain ⟨I3, r1, r2, r3, r4⟩ := k206 (d := d + 199) (I := I2) (a := 123) (b := 122) (x := UN) rfl rfl rfl rfl (by decide)
  have q122 : (up M1 121 29 0) 122 = M 122 := by rw [up_c (by decide), g1 122 (by decide) (by decide) (ns 122 (by decide))]
  have q123 : I2 123 = M 123 := by rw [b4 123 (by decide), up_c (by decide), g1 123 (by decide) (by decide) (ns 123 (by decide))]
  have j122 : I3 122 = R := by
    funext i
    rcases Nat.lt_or_ge i 2860 with hi | hi
    · rw [r2 i hi, q123, Rlo i hi]
    · rw [r3 i hi, b4 122 (by decide), q122, Rhi i hi]
  obtain ⟨I4, t1, t2, t3, t4⟩ := k207_loop (d := d + 194) (n := n) (many := m) (r := min n (9999 - e)) (e := e) (S := R) (N := Ni) (T := Ti) n2 rfl e1 BR XR (by rw [Rlo 2 (by decide)]; exact e2) (min n (9999 - e)) 0 I3 (by omega) j122 (fun j hj => by omega)
  obtain ⟨M2, y1, y2, y3, y4⟩ := k206 (d := d + 199) (I := I4) (a := 124) (b := 122) (x := UN) rfl rfl rfl rfl (by decide)
  have M2r : M2 122 = M 122 := by
    funext i
    rcases Nat.lt_or_ge i 2860 with hi | hi
    · rw [y2 i hi, t4 124 (by decide) (by decide) (by decide) (by decide), r4 124 (by decide), b2 i hi, q122]
    · rw [y3 i hi, t3, pass_hi hNi (by omega), Rhi i hi]
  have h2 : ∀ c, c ≠ 0 → ¬ (14 ≤ c ∧ c < 27) → ¬ scr c → c ≠ 121 → c ≠ 122 → c ≠ 124 → c ≠ 135 → c ≠ 136 → c ≠ 139 → M2 c = M c := fun c x1 x2 x3 x4 x5 x6 x7 x8 x9 => by
    rw [y4 c x5, t4 c x5 x7 x8 x9, r4 c x5, b4 c x6, up_c x4, g1 c x1 x2 x3]
  have h0 : M2 0 = upd (M 0) 9 0 := by
    rw [y4 0 (by decide), t4 0 (by decide) (by decide) (by decide) (by decide), r4 0 (by decide), b4 0 (by decide), up_c (by decide), c2 0 (by decide) (fun y => by have := scr_lt y; omega), up_r]
  have h121 : M2 121 = upd (M 121) 29 0 := by
    rw [y4 121 (by decide), t4 121 (by decide) (by decide) (by decide) (by decide), r4 121 (by decide), b4 121 (by decide), up_r, g1 121 (by decide) (by decide) (ns 121 (by decide))]
  have m0 : (up (up M 0 9 0) 121 29 0) 0 = upd (M 0) 9 0 := by rw [up_c (by decide), up_r]
  have m121 : (up (up M 0 9 0) 121 29 0) 121 = upd (M 121) 29 0 := by rw [up_r, up_c (by decide)]
  have fin : frN (up (up M 0 9 0) 121 29 0) M2 := fun c k1 k2 => by
    by_cases x0 : c = 0
    · subst x0; rw [h0, m0]
    · by_cases x1 : c = 121
      · subst x1; rw [h121, m121]
      · rw [up_c x1, up_c x0]
        refine h2 c x0 (fun y => k1 (Or.inl y)) (fun y => k1 (Or.inr (Or.inr (Or.inl y)))) x1 (fun y => k2 (Or.inr (Or.inr y))) ?_ ?_ ?_ ?_
        · intro y; subst y; exact k1 (Or.inr (Or.inr (Or.inr (Or.inl rfl))))
        · intro y; subst y; exact k1 (Or.inr (Or.inr (Or.inr (Or.inr (Or.inr (Or.inl rfl))))))
        · intro y; subst y; exact k1 (Or.inr (Or.inr (Or.inr (Or.inr (Or.inr (Or.inr (Or.inl rfl)))))))
        · intro y; subst y; exact k1 (Or.inr (Or.inr (Or.inr (Or.inr (Or.inr (Or.inr (Or.inr (Or.inr rfl))))))))
  have e138 : M2 138 = M 138 := h2 138 (by decide) (by decide) (ns 138 (by decide)) (by decide) (by decide) (by decide) (by decide) (by decide) (by decide)
  have e139 : ∀ j, j < 2 * min n (9999 - e) → M2 139 j = sDu (mA R 0 Ti) Ni R j := fun j hj => by rw [y4 139 (by decide), t2 j hj]
  refine ⟨sCr (sCk (sDu (mA R 0 Ti) Ni R) (M 46) m (2 * min n (9999 - e) - 2 * 0) (2 * 0)) m (2 * min n (9999 - e)), M1, M2, fun Q => ?_, fun Q => ?_, ⟨N, T, C0.jk fin (fun c hc => ?_)⟩, fz0.tr fin.fz⟩
  · rw [p1, b104_23, up_k (by decide), if_neg z0, b104_30, b117_0, l1, b117_9m l2.lv, a1, up_c (by decide), e27, es, mc, b117_41m l2.lv]
    refine Iff.trans (c1 (fun r I' => E (d + 200, 104, 36, [.ref 0, .int (nI n), .int (nI m)], [r], I') Q)) ?_
    rw [b104_36, b104_42]
  · rw [p2 M1 Q (g1 121 (by decide) (by decide) (ns 121 (by decide))), if_neg (by rw [← i1]; exact z0), b207_36, b1, b207_48, r1, b207_60]
    refine (t1 Q).trans ?_
    rw [b207_122, y1, b207_134]
    have := k207_end (d := d + 200) (I := M2) (Q := Q) (n := nI n) (many := m) (due := 2 * min n (9999 - e)) (D := sDu (mA R 0 Ti) Ni R) hm (by omega) e139 (2 * min n (9999 - e)) 0 (by omega)
    rw [e138, ← sCk_cg w3] at this
    exact this
  · rcases hc with y | y | y
    · subst y; rw [up_c (by decide), up_c (by decide)]; exact h2 1 (by decide) (by decide) (fun y => by have := scr_lt y; omega) (by decide) (by decide) (by decide) (by decide) (by decide) (by decide)
    · rw [up_c (by omega), up_c (by omega)]; exact h2 c (by omega) (by omega) (fun y => by have := scr_lt y; omega) (by omega) (by omega) (by omega) (by omega) (by omega) (by omega)
    · subst y; rw [M2r, up_c (by decide), up_c (by decide)]
end K14
