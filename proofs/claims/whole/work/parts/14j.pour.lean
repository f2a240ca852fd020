/-! pour, tell, ask, item, rest, keep, back -/
/-- odds poured out of a sheet V of n places, into those below p; and how many are otherwise -/
def sPr (S V : Nat → Int32) (n : Nat) : Nat → (Nat → Int32) × Int32
  | 0 => (S, 0)
  | p + 1 => if p < n ∧ ¬ V p = -1000000005 then (upd (sPr S V n p).1 (10 + 5 * p + 1) (cl100 (V p)), (sPr S V n p).2 + (if cl100 (V p) = (sPr S V n p).1 (10 + 5 * p + 1) then 0 else 1)) else sPr S V n p
theorem cl100_bd (v : Int32) : ∃ k, k ≤ 100 ∧ cl100 v = nI k := by
  have h : 0 ≤ cl100 v ∧ cl100 v ≤ 100 := by
    unfold cl100
    by_cases h1 : 100 < v
    · rw [if_pos h1]; decide
    · rw [if_neg h1]
      by_cases h2 : 0 < v
      · rw [if_pos h2]; exact ⟨Int32.le_of_lt h2, Int32.not_lt.mp h1⟩
      · rw [if_neg h2]; decide
  exact wi0 100 (by decide) (by decide) h
theorem sPr_at {S V : Nat → Int32} {n i : Nat} (hi : i < 10) : ∀ p, (sPr S V n p).1 i = S i := by
  intro p
  induction p with
  | zero => rfl
  | succ p ih =>
    unfold sPr
    by_cases h : p < n ∧ ¬ V p = -1000000005
    · rw [if_pos h]; show upd _ _ _ i = _; rw [upd_n (by omega)]; exact ih
    · rw [if_neg h]; exact ih
theorem sPr_hi {S V : Nat → Int32} {n i : Nat} : ∀ p, 10 + 5 * p ≤ i → (sPr S V n p).1 i = S i := by
  intro p
  induction p with
  | zero => intro _; rfl
  | succ p ih =>
    intro hi
    unfold sPr
    by_cases h : p < n ∧ ¬ V p = -1000000005
    · rw [if_pos h]; show upd _ _ _ i = _; rw [upd_n (by omega)]; exact ih (by omega)
    · rw [if_neg h]; exact ih (by omega)
theorem sPr_bd {S V : Nat → Int32} {n N : Nat} (B : bd S N) : ∀ p, bd (sPr S V n p).1 N := by
  intro p
  induction p with
  | zero => exact B
  | succ p ih =>
    unfold sPr
    by_cases h : p < n ∧ ¬ V p = -1000000005
    · rw [if_pos h]; exact bd_g ih (by decide) (Or.inr (Or.inl ⟨rfl, cl100_bd _⟩))
    · rw [if_neg h]; exact ih
theorem sPr_end {S V : Nat → Int32} {n p : Nat} (hp : n ≤ p) : sPr S V n (p + 1) = sPr S V n p := by
  show (if _ then _ else _) = _
  rw [if_neg (fun z => by omega)]
section K10
variable {d : Nat} {M I : IM} {N T : Nat} {Q : Po}
theorem k96_loop {k n : Nat} {S V : Nat → Int32} (hk : k < 4) (hn : n ≤ 24) : ∀ (m p : Nat) (I : IM) (x : Value), p + m = N → isH I 1 (sPr S V n p).1 N → I (93 + 2 * k) 2 = nI n → (∀ i, i < 24 → I (94 + 2 * k) i = V i) →
    ∃ I', Rn (d + 3, 96, 32, [.ref 0, .int (nI k), .ref (93 + 2 * k), .int (sPr S V n p).2, .int (nI p), x], [], I) (.int (sPr S V n N).2) I' ∧ isH I' 1 (sPr S V n N).1 N ∧ frH 1 I I' := by
  have R := shR k hk
  have hR : aShp (aRf (93 + 2 * k) 0) = 20 := by rw [R.2.1]; exact R.2.2.1
  intro m
  induction m with
  | zero =>
    intro p I x hp H e2 eV
    have : p = N := by omega
    subst this
    refine ⟨I, fun Q => ?_, H, frH.rf⟩
    rw [b96_32, show I 1 2 = nI p from H.ppl, if_neg (nI_nlt (Nat.le_refl _) (by have := H.2.1; omega)), b96_115]
  | succ m ih =>
    intro p I x hp H e2 eV
    have hN := H.2.1
    have st : ∀ Q : Po, E (d + 3, 96, 32, [.ref 0, .int (nI k), .ref (93 + 2 * k), .int (sPr S V n p).2, .int (nI p), x], [], I) Q ↔ if p < n ∧ ¬ V p = -1000000005 then E (d + 3, 96, 53, [.ref 0, .int (nI k), .ref (93 + 2 * k), .int (sPr S V n p).2, .int (nI p), x], [], I) Q else E (d + 3, 96, 109, [.ref 0, .int (nI k), .ref (93 + 2 * k), .int (sPr S V n p).2, .int (nI p), x], [], I) Q := fun Q => by
      rw [b96_32, show I 1 2 = nI N from H.ppl, if_pos (nI_lt (by omega) (by omega)), b96_44 R.1, k58 R hn (by omega) e2, b96_50, eV p (by omega), ite_b01]
    by_cases h : p < n ∧ ¬ V p = -1000000005
    · have e : sPr S V n (p + 1) = (upd (sPr S V n p).1 (10 + 5 * p + 1) (cl100 (V p)), (sPr S V n p).2 + (if cl100 (V p) = (sPr S V n p).1 (10 + 5 * p + 1) then 0 else 1)) := if_pos h
      have H1 : isH (up I (4 + p) 1 (cl100 (V p))) 1 (sPr S V n (p + 1)).1 N := by
        rw [e]
        exact H.gst (p := p) (j := 1) (by omega) (by decide) (cl100 (V p))
      obtain ⟨I', r1, r2, r3⟩ := ih (p + 1) (up I (4 + p) 1 (cl100 (V p))) (.int (cl100 (V p))) (by omega) H1 (by rw [up_c (by omega)]; exact e2) (fun i hi => by rw [up_c (by omega)]; exact eV i hi)
      refine ⟨I', fun Q => ?_, r2, (frH.wr (h := 1) (c := 4 + p) (Or.inr (by omega))).tr r3⟩
      have e1 : I (4 + p) 1 = (sPr S V n p).1 (10 + 5 * p + 1) := H.g (p := p) (j := 1) (by omega) (by decide)
      have := r1 Q
      rw [e] at this
      rw [st Q, if_pos h, b96_53 R.1 hR, R.2.1, R.2.2.2.1, and_iff_right (vp_in_nI (by omega) (by decide)), nI_clamp (by omega), eV p (by omega), b109_0, b96_66 (by rw [g4 (by omega)]; exact s4 (by omega)), and_iff_right (vp10 (by omega)), g4 (by omega), e1]
      show (if cl100 (V p) = _ then _ else _) ↔ _
      by_cases hz : cl100 (V p) = (sPr S V n p).1 (10 + 5 * p + 1)
      · rw [if_pos hz] at this ⊢
        rw [b96_87, b96_92 (by rw [g4 (by omega)]; exact s4 (by omega)), and_iff_right (vp10 (by omega)), g4 (by omega), b96_109, nI_1]
        exact this
      · rw [if_neg hz] at this ⊢
        rw [b96_91, b96_92 (by rw [g4 (by omega)]; exact s4 (by omega)), and_iff_right (vp10 (by omega)), g4 (by omega), b96_109, nI_1]
        exact this
    · have e : sPr S V n (p + 1) = sPr S V n p := if_neg h
      obtain ⟨I', r1, r2, r3⟩ := ih (p + 1) I x (by omega) (by rw [e]; exact H) e2 eV
      refine ⟨I', fun Q => ?_, r2, r3⟩
      have := r1 Q
      rw [e] at this
      rw [st Q, if_neg h, b96_109, nI_1]
      exact this
theorem k195_loop {k n : Nat} {S V : Nat → Int32} (hk : k < 4) (hn : n ≤ 24) (B : bd S N) : ∀ (m p : Nat) (I : IM) (x y : Value), p + m = N → I 122 = (sPr S V n p).1 → I 126 k = nI n → (∀ i, i < 24 → I 127 (24 * k + i) = V i) →
    ∃ I', Rn (d + 2, 195, 27, [.ref 121, .int (nI k), .int (sPr S V n p).2, .int (nI p), x, y], [], I) (.int (sPr S V n N).2) I' ∧ I' 122 = (sPr S V n N).1 ∧ ∀ c, c ≠ 122 → I' c = I c := by
  have ck : (nI k).toNatClampNeg = k := nI_clamp (by omega)
  have hN := B.2.1
  have ends : ∀ q, n ≤ q → ∀ m, sPr S V n (q + m) = sPr S V n q := by
    intro q hq m
    induction m with
    | zero => rfl
    | succ m ih => rw [show q + (m + 1) = (q + m) + 1 by omega, sPr_end (by omega)]; exact ih
  intro m
  induction m with
  | zero =>
    intro p I x y hp r e2 eV
    have : p = N := by omega
    subst this
    refine ⟨I, fun Q => ?_, r, fun _ _ => rfl⟩
    rw [b195_27, and_iff_right (vp4 hk), ck, e2, b195_37, r, (sPr_bd B p).1, if_neg (nI_nlt (Nat.le_refl p) (by omega)), b195_118, ite_self]
  | succ m ih =>
    intro p I x y hp r e2 eV
    by_cases hpn : p < n
    rotate_left
    · have e := ends p (by omega) (m + 1)
      rw [hp] at e
      refine ⟨I, fun Q => ?_, by rw [e]; exact r, fun _ _ => rfl⟩
      rw [b195_27, and_iff_right (vp4 hk), ck, e2, if_neg (nI_nlt (by omega) (by omega)), b195_118, e]
    have e10 : 10 + 5 * nI p + 1 = nI (10 + 5 * p + 1) := ix5 p 1
    have st : ∀ Q : Po, E (d + 2, 195, 27, [.ref 121, .int (nI k), .int (sPr S V n p).2, .int (nI p), x, y], [], I) Q ↔ if V p = -1000000005 then E (d + 2, 195, 67, [.ref 121, .int (nI k), .int (sPr S V n p).2, .int (nI p), .int (V p), y], [], I) Q else E (d + 2, 195, 76, [.ref 121, .int (nI k), .int (sPr S V n p).2, .int (nI p), .int (V p), y], [], I) Q := fun Q => by
      rw [b195_27, and_iff_right (vp4 hk), ck, e2, if_pos (nI_lt hpn (by omega)), b195_37, r, (sPr_bd B p).1, if_pos (nI_lt (by omega) (by omega)), b195_47, i24, and_iff_right (vp_in_nI (by omega) (by decide)), nI_clamp (by omega), eV p (by omega)]
    have go : ∀ (v : Int32) (Q : Po), E (d + 2, 195, 83, [.ref 121, .int (nI k), .int (sPr S V n p).2, .int (nI p), .int (V p), y], [.int v], I) Q ↔ E (d + 2, 195, 27, [.ref 121, .int (nI k), .int ((sPr S V n p).2 + (if v = (sPr S V n p).1 (10 + 5 * p + 1) then 0 else 1)), .int (nI (p + 1)), .int (V p), .int v], [], up I 122 (10 + 5 * p + 1) v) Q := fun v Q => by
      rw [b195_83, k124 (i := 10 + 5 * p + 1) e10 (by omega), b195_102, r]
      by_cases hz : v = (sPr S V n p).1 (10 + 5 * p + 1)
      · rw [if_pos hz, if_pos hz, b195_105, b195_110, nI_1]
      · rw [if_neg hz, if_neg hz, b195_109, b195_110, nI_1]
    by_cases hz : V p = -1000000005
    · have e : sPr S V n (p + 1) = sPr S V n p := if_neg (fun z => z.2 hz)
      have eu : (up I 122 (10 + 5 * p + 1) ((sPr S V n p).1 (10 + 5 * p + 1))) 122 = (sPr S V n (p + 1)).1 := by rw [up_r, r, upd_id, e]
      obtain ⟨I', r1, r2, r3⟩ := ih (p + 1) (up I 122 (10 + 5 * p + 1) ((sPr S V n p).1 (10 + 5 * p + 1))) (.int (V p)) (.int ((sPr S V n p).1 (10 + 5 * p + 1))) (by omega) eu (by rw [up_c (by decide)]; exact e2) (fun i hi => by rw [up_c (by decide)]; exact eV i hi)
      refine ⟨I', fun Q => ?_, r2, fun c hc => by rw [r3 c hc, up_c hc]⟩
      have := r1 Q
      rw [e] at this
      rw [st Q, if_pos hz, b195_67, k126_1 (by omega), b195_73, r, go, if_pos rfl, Int32.add_zero]
      exact this
    · have e : sPr S V n (p + 1) = (upd (sPr S V n p).1 (10 + 5 * p + 1) (cl100 (V p)), (sPr S V n p).2 + (if cl100 (V p) = (sPr S V n p).1 (10 + 5 * p + 1) then 0 else 1)) := if_pos ⟨hpn, hz⟩
      have eu : (up I 122 (10 + 5 * p + 1) (cl100 (V p))) 122 = (sPr S V n (p + 1)).1 := by rw [up_r, r, e]
      obtain ⟨I', r1, r2, r3⟩ := ih (p + 1) (up I 122 (10 + 5 * p + 1) (cl100 (V p))) (.int (V p)) (.int (cl100 (V p))) (by omega) eu (by rw [up_c (by decide)]; exact e2) (fun i hi => by rw [up_c (by decide)]; exact eV i hi)
      refine ⟨I', fun Q => ?_, r2, fun c hc => by rw [r3 c hc, up_c hc]⟩
      have := r1 Q
      rw [e] at this
      rw [st Q, if_neg hz, b195_76, k121, wi100, go]
      exact this
/-- promise 29 -/
theorem m96 (C : Cp M N T) {a : Int32} : Ok (d + 200) M 96 [.ref 0, .int a, UN, UN, UN, UN] 195 [.ref 121, .int a, UN, UN, UN, UN] := by
  have hN := C.le
  by_cases h1 : 0 ≤ a ∧ a ≤ 3
  rotate_left
  · exact Ok.ret C (-1000000001) (fun Q => by rw [b96_0, k111, b96_4, ite_b01, if_neg h1, b96_7]) (fun Q => by rw [b195_0, k192, b195_4, ite_b01, if_neg h1, b195_7])
  obtain ⟨k, hk', rfl⟩ := wi0 3 (by decide) (by decide) h1
  have hk : k < 4 := by omega
  have R := shR k hk
  have e44 := r44 hk
  obtain ⟨s1, s2, s3, ⟨n, hn, s4⟩, s5⟩ := C.s k hk
  have ck : (nI k).toNatClampNeg = k := nI_clamp (by omega)
  by_cases hm : M 125 k = -1
  · refine Ok.ret C (-1000000011) (fun Q => ?_) (fun Q => ?_)
    · rw [b96_0, k111, b96_4, ite_b01, if_pos h1, b96_10 (by rw [e44]; exact R.1), and_iff_right (vp4 hk), e44, k53 R, b96_21, ite_b01, s1, if_pos hm, b96_24]
    · rw [b195_0, k192, b195_4, ite_b01, if_pos h1, b195_10, and_iff_right (vp4 hk), ck, if_pos (by rw [hm]; decide), b195_19]
  have hm' : ¬ M 125 k < 0 := by rw [← m1_lt s3]; exact hm
  obtain ⟨M1, r1, r2, r3⟩ := k96_loop (d := d + 197) (S := M 122) (V := fun i => M 127 (24 * k + i)) hk hn N 0 M UN (by omega) C.h.H (by rw [s2, s4]) (fun i hi => (s5 i hi).1)
  have ec : ∀ c, 122 ≤ c → M1 c = M c := fun c hc => r3 c (by omega) (by omega)
  obtain ⟨M2, q1, q2, q3⟩ := k195_loop (d := d + 198) (N := N) (S := M 122) (V := fun i => M 127 (24 * k + i)) hk hn C.h.B N 0 M1 UN UN (by omega) (ec 122 (by omega)) (by rw [ec 126 (by omega)]; exact s4) (fun i hi => by rw [ec 127 (by omega)])
  have fM : frM M1 M2 := fun c z _ _ => q3 c z
  refine ⟨(sPr (M 122) (fun i => M 127 (24 * k + i)) n N).2, M1, M2, fun Q => ?_, fun Q => ?_, ⟨N, T, C.both r2 (frE.ofH r3) q2 fM (sPr_bd C.h.B N) (fun i hi => sPr_hi N (by omega)) (sPr_at (by decide) N) (by rw [sPr_at (by decide) N]; exact C.h.ev)⟩, ((frN.ofH r3).tr (frN.ofM fM)).fz⟩
  · rw [b96_0, k111, b96_4, ite_b01, if_pos h1, b96_10 (by rw [e44]; exact R.1), and_iff_right (vp4 hk), e44, k53 R, b96_21, ite_b01, s1, if_neg hm, b96_27]
    exact r1 Q
  · rw [b195_0, k192, b195_4, ite_b01, if_pos h1, b195_10, and_iff_right (vp4 hk), ck, ec 125 (by omega), if_neg hm', b195_23]
    exact q1 Q
/-- the row in waiting has changed -/
theorem Cp.wt (C : Cp M N T) {M' : IM} (s : CpW M') (f : ∀ c, c ≠ 0 → c ≠ 46 → c ≠ 121 → c ≠ 138 → M' c = M c) (e1 : M' 0 3 = M 0 3) (e2 : M' 121 3 = M 121 3) (e3 : M' 121 14 = M 121 14) : Cp M' N T := by
  have f' : ∀ c, c ≠ 0 ∧ c ≠ 46 ∧ c ≠ 121 ∧ c ≠ 138 → M' c = M c := fun c h => f c h.1 h.2.1 h.2.2.1 h.2.2.2
  have e122 : M' 122 = M 122 := f' 122 (by omega)
  refine ⟨C.h.st (by rw [e122]; exact C.h.H.fr (fun c hc => f' c (by omega))) (by rw [e122]; exact C.h.B) (fun i _ => by rw [e122]) (by rw [e122]) (f' 3 (by omega)) (fun c h1 h2 _ => f' c (by omega)) (by rw [e122]; exact C.h.ev), C.i.fr e1 e2 (fun c h1 h2 => f' c (by omega)) (f' 123 (by omega)) (fun i _ _ => by rw [e122]) (Nat.le_refl _), C.t.fr (by rw [f' 42 (by omega)]) e3 (f' 43 (by omega)) (f' 134 (by omega)), C.s.fr (fun c hc => f' c (by omega)), C.l.fr (fun c hc => f' c (by omega)), s⟩
/-- promise 36 -/
theorem m103 (C : Cp M N T) {a : Int32} : Ok (d + 200) M 103 [.ref 0, .int a] 205 [.ref 121, .int a] := by
  obtain ⟨n, hn, w1, w2, w3⟩ := C.w
  by_cases h : n = 60
  · refine Ok.ret C (-1000000003) (fun Q => ?_) (fun Q => ?_)
    · rw [b103_0, w1, k108, b103_15, h, b01_f (by decide), if_pos rfl, b103_18]
    · rw [b205_0, w2, h, if_pos (by decide), b205_9]
  · refine ⟨nI (n + 1), up (up M 46 n a) 0 9 (nI (n + 1)), up (up (up (up M 46 n a) 0 9 (nI (n + 1))) 138 n a) 121 29 (nI (n + 1)), fun Q => ?_, fun Q => ?_, ⟨N, T, C.wt ⟨n + 1, by omega, ?_, ?_, fun i hi => ?_⟩ (fun c z1 z2 z3 z4 => by rw [up_c z3, up_c z4, up_c z1, up_c z2]) ?_ ?_ ?_⟩, fun c hc => by rw [up_c (by omega), up_c (by omega), up_c (by omega), up_c (by omega)]⟩
    · have e0 : (up M 46 n a) 0 9 = nI n := by rw [up_c (by decide)]; exact w1
      rw [b103_0, w1, k108, show (60 : Int32) - 1 = nI 59 by decide, b01_t ⟨(le_nI (a := 0) (by decide) (by omega)).mpr (by omega), (le_nI (by omega) (by decide)).mpr (by omega)⟩, b103_15, if_neg (by decide), b103_21, w1, and_iff_right (vp_in_nI (by omega) (by decide)), nI_clamp (by omega), e0, nI_1, up_s]
    · have e : (up (up M 46 n a) 0 9 (nI (n + 1))) 121 29 = nI n := by rw [up_c (by decide), up_c (by decide)]; exact w2
      rw [b205_0, e, if_neg (show ¬ nI n = 60 from fun z => h ((nI_eqI (b := 60) (by omega) (by decide)).mp z)), b205_12, e, and_iff_right (vp_in_nI (by omega) (by decide)), nI_clamp (by omega), up_c (c := 138) (by decide), e, nI_1, up_s]
    · rw [up_c (by decide), up_c (by decide), up_s]
    · rw [up_s]
    · have q1 : (up (up (up (up M 46 n a) 0 9 (nI (n + 1))) 138 n a) 121 29 (nI (n + 1))) 46 i = up M 46 n a 46 i := by rw [up_c (by decide), up_c (by decide), up_c (by decide)]
      have q2 : (up (up (up (up M 46 n a) 0 9 (nI (n + 1))) 138 n a) 121 29 (nI (n + 1))) 138 i = up (up (up M 46 n a) 0 9 (nI (n + 1))) 138 n a 138 i := by rw [up_c (by decide)]
      rw [q1, q2]
      by_cases z : i = n
      · rw [z, up_s, up_s]
      · rw [up_k z, up_k z, up_c (by decide), up_c (by decide)]; exact w3 i (by omega)
    · rw [up_c (by decide), up_c (by decide), up_k (by decide), up_c (by decide)]
    · rw [up_k (by decide), up_c (by decide), up_c (by decide), up_c (by decide)]
    · rw [up_k (by decide), up_c (by decide), up_c (by decide), up_c (by decide)]
theorem r45 {k : Nat} (hk : k < 5) : aRf 45 (Int32.toNatClampNeg (nI k)) = 101 + 4 * k := by
  rw [nI_clamp (by omega)]; revert k; decide +kernel
theorem sl0 : ∀ j, j < 5 → aShp (101 + 4 * j) = 5 ∧ aRf (101 + 4 * j) 0 = 102 + 4 * j ∧ aRf (101 + 4 * j) 1 = 103 + 4 * j ∧ aShp (102 + 4 * j) = 0 := by decide +kernel
theorem vp5 {p : Nat} (hp : p < 5) : vp_in (nI p) 5 := vp_in_nI hp (by decide)
/-- promise 33 -/
theorem m100 (C : Cp M N T) {a b : Int32} : Ok (d + 200) M 100 [.ref 0, .int a, .int b, UN] 202 [.ref 121, .int a, .int b] := by
  by_cases h1 : 0 ≤ a ∧ a ≤ 4
  rotate_left
  · exact Ok.ret C (-1000000001) (fun Q => by rw [b100_0, k112, b100_4, ite_b01, if_neg h1, b100_14]) (fun Q => by rw [b202_0, k200, b202_4, ite_b01, if_neg h1, b202_19])
  by_cases h2 : 0 ≤ b ∧ b ≤ 5
  rotate_left
  · exact Ok.ret C (-1000000001) (fun Q => by rw [b100_0, k112, b100_4, ite_b01, if_pos h1, b100_7, k110, b100_11, ite_b01, if_neg h2, b100_14]) (fun Q => by rw [b202_0, k200, b202_4, ite_b01, if_pos h1, b202_7, k119_0_5, b202_16, ite_b01, if_neg h2, b202_19])
  obtain ⟨j, hj', rfl⟩ := wi0 4 (by decide) (by decide) h1
  have hj : j < 5 := by omega
  obtain ⟨k, hk, rfl⟩ := wi0 5 (by decide) (by decide) h2
  obtain ⟨t1, t2, t3, t4⟩ := sl0 j hj
  have e45 := r45 hj
  obtain ⟨l1, l2⟩ := C.l j hj
  have cj : (nI j).toNatClampNeg = j := nI_clamp (by omega)
  have p1 : ∀ Q : Po, E (d + 200, 100, 0, [.ref 0, .int (nI j), .int (nI k), UN], [], M) Q ↔ if M 128 j = 0 then Q (.int (-1000000011)) M else if M 128 j = 1 then E (d + 200, 100, 42, [.ref 0, .int (nI j), .int (nI k), .ref (101 + 4 * j)], [], M) Q else Q (.int (-1000000012)) M := fun Q => by
    rw [b100_0, k112, b100_4, ite_b01, if_pos h1, b100_7, k110, b100_11, ite_b01, if_pos h2, b100_17 (by rw [e45]; exact t1), and_iff_right (vp5 hj), e45, l1, b100_31, b100_34 t1, l1, b100_53]
  have p2 : ∀ Q : Po, E (d + 200, 202, 0, [.ref 121, .int (nI j), .int (nI k)], [], M) Q ↔ if M 128 j = 0 then Q (.int (-1000000011)) M else if M 128 j = 1 then E (d + 200, 202, 45, [.ref 121, .int (nI j), .int (nI k)], [], M) Q else Q (.int (-1000000012)) M := fun Q => by
    rw [b202_0, k200, b202_4, ite_b01, if_pos h1, b202_7, k119_0_5, b202_16, ite_b01, if_pos h2, b202_22, and_iff_right (vp5 hj), cj, b202_31, b202_35, and_iff_right (vp5 hj), cj, b202_67, b202_69]
  by_cases z0 : M 128 j = 0
  · exact Ok.ret C (-1000000011) (fun Q => by rw [p1, if_pos z0]) (fun Q => by rw [p2, if_pos z0])
  by_cases z1 : M 128 j = 1
  rotate_left
  · exact Ok.ret C (-1000000012) (fun Q => by rw [p1, if_neg z0, if_neg z1]) (fun Q => by rw [p2, if_neg z0, if_neg z1])
  rcases l2 with y | ⟨-, x1, ⟨q, hq, x2⟩, x3⟩ | ⟨y, -⟩ | ⟨y, -⟩
  · exact absurd y z0
  · refine Ok.ret C (if iO q k = true then M 130 j else -1000000012) (fun Q => ?_) (fun Q => ?_)
    · rw [p1, if_neg z0, if_pos z1, b100_42 t1 (by rw [t2]; exact t4), t2, k14 t4 (x1.trans x2) hq hk, b100_50, ite_b01, b100_56 t1 (by rw [t2]; exact t4), t2, k18 t4, ← x3, b100_63, b100_53, QI (Q := Q)]
    · rw [p2, if_neg z0, if_pos z1, b202_45, and_iff_right (vp5 hj), cj, x2, k131 hq hk, b202_55, ite_b01, b202_58, and_iff_right (vp5 hj), cj, b202_67, b202_69, b202_69, QI (Q := Q)]
  · rw [y] at z1; exact absurd z1 (by decide)
  · rw [y] at z1; exact absurd z1 (by decide)
/-- promise 34 -/
theorem m101 (C : Cp M N T) {a b : Int32} : Ok (d + 200) M 101 [.ref 0, .int a, .int b, UN] 203 [.ref 121, .int a, .int b, UN] := by
  by_cases h1 : 0 ≤ a ∧ a ≤ 4
  rotate_left
  · exact Ok.ret C (-1000000001) (fun Q => by rw [b101_0, k112, b101_4, ite_b01, if_neg h1, b101_7]) (fun Q => by rw [b203_0, k200, b203_4, ite_b01, if_neg h1, b203_7])
  obtain ⟨j, hj', rfl⟩ := wi0 4 (by decide) (by decide) h1
  have hj : j < 5 := by omega
  obtain ⟨t1, t2, t3, t4⟩ := sl0 j hj
  have R := slR j hj
  have e45 := r45 hj
  obtain ⟨l1, l2⟩ := C.l j hj
  have cj : (nI j).toNatClampNeg = j := nI_clamp (by omega)
  have p1 : ∀ Q : Po, E (d + 200, 101, 0, [.ref 0, .int (nI j), .int b, UN], [], M) Q ↔ if M 128 j = 0 then Q (.int (-1000000011)) M else if M 128 j = 2 then E (d + 200, 101, 38, [.ref 0, .int (nI j), .int b, .ref (101 + 4 * j)], [], M) Q else Q (.int (-1000000012)) M := fun Q => by
    rw [b101_0, k112, b101_4, ite_b01, if_pos h1, b101_10 (by rw [e45]; exact t1), and_iff_right (vp5 hj), e45, l1, b101_24, b101_27 t1, l1, b101_35]
  have p2 : ∀ Q : Po, E (d + 200, 203, 0, [.ref 121, .int (nI j), .int b, UN], [], M) Q ↔ if M 128 j = 2 then E (d + 200, 203, 38, [.ref 121, .int (nI j), .int b, UN], [], M) Q else if M 128 j = 0 then Q (.int (-1000000011)) M else Q (.int (-1000000012)) M := fun Q => by
    rw [b203_0, k200, b203_4, ite_b01, if_pos h1, b203_10, and_iff_right (vp5 hj), cj, b203_20, and_iff_right (vp5 hj), cj, b203_29, b203_35, b203_37, b203_37]
  by_cases z0 : M 128 j = 0
  · exact Ok.ret C (-1000000011) (fun Q => by rw [p1, if_pos z0]) (fun Q => by rw [p2, if_neg (by rw [z0]; decide), if_pos z0])
  by_cases z1 : M 128 j = 2
  rotate_left
  · exact Ok.ret C (-1000000012) (fun Q => by rw [p1, if_neg z0, if_neg z1]) (fun Q => by rw [p2, if_neg z1, if_neg z0])
  rcases l2 with y | ⟨y, -⟩ | ⟨-, x1, ⟨n, hn, x2⟩, x3⟩ | ⟨y, -⟩
  · exact absurd y z0
  · rw [y] at z1; exact absurd z1 (by decide)
  · have hR : aShp (aRf (103 + 4 * j) 0) = 20 := by rw [R.2.1]; exact R.2.2.1
    by_cases h2 : 0 ≤ b ∧ b ≤ nI n - 1
    rotate_left
    · refine Ok.ret C (-1000000013) (fun Q => ?_) (fun Q => ?_)
      · rw [p1, if_neg z0, if_pos z1, b101_38 t1 (by rw [t3]; exact R.1), t3, k56 R, b101_46, x1, x2, ite_b01, if_neg h2, b101_49]
      · rw [p2, if_pos z1, b203_38, and_iff_right (vp5 hj), cj, x2, k119v, b203_53, ite_b01, if_neg h2, b203_56]
    obtain ⟨i, hi, rfl⟩ := (isP (by omega)).mp h2
    refine Ok.ret C (if M 132 (24 * j + i) = -1000000005 then -1000000012 else M 132 (24 * j + i)) (fun Q => ?_) (fun Q => ?_)
    · rw [p1, if_neg z0, if_pos z1, b101_38 t1 (by rw [t3]; exact R.1), t3, k56 R, b101_46, x1, x2, ite_b01, if_pos h2, b101_52 t1 (by rw [t3]; exact R.1), t3, k58 R hn (by omega) (by rw [x1, x2]), b101_60, ite_b01, x3 i (by omega), b101_63 t1 (by rw [t3]; exact R.1) (by rw [t3]; exact hR), t3, R.2.1, R.2.2.2.1, and_iff_right (vp_in_nI (by omega) (by decide)), nI_clamp (by omega), x3 i (by omega), b101_75, b101_77, b101_77]
      by_cases hz : M 132 (24 * j + i) = -1000000005
      · rw [if_neg (fun y => y.2 hz), if_pos hz]
      · rw [if_pos ⟨hi, hz⟩, if_neg hz]
    · rw [p2, if_pos z1, b203_38, and_iff_right (vp5 hj), cj, x2, k119v, b203_53, ite_b01, if_pos h2, b203_60, i24, and_iff_right (vp_in_nI (by omega) (by decide)), nI_clamp (by omega), b203_78, b203_83, b203_84, b203_84, QI (Q := Q)]
  · rw [y] at z1; exact absurd z1 (by decide)
/-- promise 35 -/
theorem m102 (C : Cp M N T) {a b : Int32} : Ok (d + 200) M 102 [.ref 0, .int a, .int b, UN] 204 [.ref 121, .int a, .int b] := by
  by_cases h1 : 0 ≤ a ∧ a ≤ 4
  rotate_left
  · exact Ok.ret C (-1000000001) (fun Q => by rw [b102_0, k112, b102_4, ite_b01, if_neg h1, b102_7]) (fun Q => by rw [b204_0, k200, b204_4, ite_b01, if_neg h1, b204_7])
  obtain ⟨j, hj', rfl⟩ := wi0 4 (by decide) (by decide) h1
  have hj : j < 5 := by omega
  obtain ⟨t1, t2, t3, t4⟩ := sl0 j hj
  have e45 := r45 hj
  obtain ⟨l1, l2⟩ := C.l j hj
  have cj : (nI j).toNatClampNeg = j := nI_clamp (by omega)
  have p1 : ∀ Q : Po, E (d + 200, 102, 0, [.ref 0, .int (nI j), .int b, UN], [], M) Q ↔ if M 128 j = 0 then Q (.int (-1000000011)) M else if M 128 j = 3 then E (d + 200, 102, 38, [.ref 0, .int (nI j), .int b, .ref (101 + 4 * j)], [], M) Q else Q (.int (-1000000012)) M := fun Q => by
    rw [b102_0, k112, b102_4, ite_b01, if_pos h1, b102_10 (by rw [e45]; exact t1), and_iff_right (vp5 hj), e45, l1, b102_24, b102_27 t1, l1, b102_35]
  have p2 : ∀ Q : Po, E (d + 200, 204, 0, [.ref 121, .int (nI j), .int b], [], M) Q ↔ if M 128 j = 3 then E (d + 200, 204, 38, [.ref 121, .int (nI j), .int b], [], M) Q else if M 128 j = 0 then Q (.int (-1000000011)) M else Q (.int (-1000000012)) M := fun Q => by
    rw [b204_0, k200, b204_4, ite_b01, if_pos h1, b204_10, and_iff_right (vp5 hj), cj, b204_20, and_iff_right (vp5 hj), cj, b204_29, b204_35, b204_37, b204_37]
  by_cases z0 : M 128 j = 0
  · exact Ok.ret C (-1000000011) (fun Q => by rw [p1, if_pos z0]) (fun Q => by rw [p2, if_neg (by rw [z0]; decide), if_pos z0])
  by_cases z1 : M 128 j = 3
  rotate_left
  · exact Ok.ret C (-1000000012) (fun Q => by rw [p1, if_neg z0, if_neg z1]) (fun Q => by rw [p2, if_neg z1, if_neg z0])
  rcases l2 with y | ⟨y, -⟩ | ⟨y, -⟩ | ⟨-, x1⟩
  · exact absurd y z0
  · rw [y] at z1; exact absurd z1 (by decide)
  · rw [y] at z1; exact absurd z1 (by decide)
  · by_cases hb : b = 0
    · exact Ok.ret C (-1000000002) (fun Q => by rw [p1, if_neg z0, if_pos z1, b102_38, if_pos hb, b102_42, b102_54]) (fun Q => by rw [p2, if_pos z1, b204_38, if_pos hb, b204_42, b204_56])
    · exact Ok.ret C (jRem (M 129 j) b) (fun Q => by rw [p1, if_neg z0, if_pos z1, b102_38, if_neg hb, b102_48 t1, and_iff_right hb, x1, b102_54]) (fun Q => by rw [p2, if_pos z1, b204_38, if_neg hb, b204_48, and_iff_right (vp5 hj), and_iff_right hb, cj, b204_56])
end K10
