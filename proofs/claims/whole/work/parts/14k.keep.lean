/-! keep, back -/
theorem hgt_cg {st st' : Nat → Int32} : ∀ n, (∀ i, i < n → st' i = st i) → hgt st' n = hgt st n := by
  intro n
  induction n with
  | zero => intro _; rfl
  | succ n ih => intro h; unfold hgt; rw [ih (fun i hi => h i (by omega)), h n (by omega)]
/-- two rows have the same text t -/
def sameT (R R' : Nat → Int32) (t : Nat) : Prop := ∀ i, 60 + 200 * t ≤ i → i < 260 + 200 * t → R' i = R i
theorem sameT.st {R R' : Nat → Int32} {t k : Nat} (h : sameT R R' t) (hk : k < 96) : tSt R' t k = tSt R t k := by
  unfold tSt
  rw [h (64 + 200 * t + 2 * k) (by omega) (by omega), h (65 + 200 * t + 2 * k) (by omega) (by omega), h (60 + 200 * t) (by omega) (by omega)]
theorem sameT.n {R R' : Nat → Int32} {t : Nat} (h : sameT R R' t) : tN R' t = tN R t := by unfold tN; rw [h _ (by omega) (by omega)]
theorem wfT.n {R : Nat → Int32} {t : Nat} (w : wfT R t) : tN R t ≤ 96 := by
  obtain ⟨⟨n, h1, h2⟩, -⟩ := w
  unfold tN
  rw [h2, nI_clamp (by omega)]; exact h1
theorem sameT.wf {R R' : Nat → Int32} {t : Nat} (h : sameT R R' t) (w : wfT R t) : wfT R' t := by
  have hn := w.n
  have es : ∀ k, k < tN R t → tSt R' t k = tSt R t k := fun k hk => h.st (by omega)
  obtain ⟨w1, w2, w3, w4⟩ := w
  unfold wfT
  rw [h.n, h (62 + 200 * t) (by omega) (by omega), h (60 + 200 * t) (by omega) (by omega), hgt_cg _ es]
  refine ⟨w1, w2, w3, fun k hk => ?_⟩
  obtain ⟨o, p⟩ := w4 k hk
  rw [h (64 + 200 * t + 2 * k) (by omega) (by omega), h (65 + 200 * t + 2 * k) (by omega) (by omega)]
  refine ⟨?_, p⟩
  unfold okH at *
  rw [es k hk, hgt_cg k (fun i hi => es i (by omega))]
  exact o
theorem sameT.tx {M : IM} {R R' : Nat → Int32} {t : Nat} (h : sameT R R' t) (w : wfT R t) (x : txOk M R t) : txOk M R' t := by
  have hn := w.n
  obtain ⟨x1, x2, x3, x4⟩ := x
  unfold txOk
  rw [h (62 + 200 * t) (by omega) (by omega), h (60 + 200 * t) (by omega) (by omega), h (61 + 200 * t) (by omega) (by omega), h.n]
  exact ⟨x1, x2, x3, fun k hk => by rw [h.st (by omega)]; exact x4 k hk⟩
theorem cntR_same {R R' : Nat → Int32} {key : Int32} : ∀ T, (∀ t, t < T → sameT R R' t) → cntR R' key T = cntR R key T := by
  intro T
  induction T with
  | zero => intro _; rfl
  | succ T ih => intro h; unfold cntR; rw [ih (fun t ht => h t (by omega)), h T (by omega) _ (by omega) (by omega)]
theorem wfX_same {R R' : Nat → Int32} {T : Nat} (h : ∀ t, t < T → sameT R R' t) (h1 : R' 1 = R 1) (w : wfX R T) : wfX R' T := ⟨h1.trans w.1, w.2.1, fun t ht => (h t ht).wf (w.2.2 t ht)⟩
theorem mA_same {R R' : Nat → Int32} {key : Int32} {T : Nat} (h : ∀ t, t < T → sameT R R' t) (w : wfX R T) : mA R' key T = mA R key T := by
  unfold mA
  rw [cntR_same T h]
  cases ho : cntR R key T with
  | none => rfl
  | some t =>
    obtain ⟨h1, -⟩ := cntR_lt T t ho
    have hn := (w.2.2 t h1).n
    dsimp only
    rw [(h t h1).n]
    congr 1
    funext a b c e
    unfold lGive
    rw [lRun_st (tN R t) (fun i hi => (h t h1).st (by omega))]
theorem bd_ext {S S' : Nat → Int32} {N : Nat} (B : bd S N) (h : ∀ i, i < 60 → S' i = S i) : bd S' N := by
  obtain ⟨b0, b1, b2, b3, bg⟩ := B
  refine ⟨(h 0 (by decide)).trans b0, b1, by rw [h 5 (by decide)]; exact b2, by rw [h 6 (by decide)]; exact b3, fun p hp => ?_⟩
  have g := bg p hp
  unfold bdG gK gO gS gW gT at *
  rw [h _ (by omega), h _ (by omega), h _ (by omega), h _ (by omega), h _ (by omega)]
  exact g
theorem isH.ext' {M : IM} {h N : Nat} {S S' : Nat → Int32} (H : isH M h S N) (e : ∀ i, i < 60 → S' i = S i) : isH M h S' N := H.ext (fun i hi => e i (by have := H.2.1; omega)) (fun i hi => e i (by omega))
section K11
variable {d : Nat} {M I : IM} {N T : Nat} {Q : Po}
theorem k206 {a b : Nat} (sa : aShp a = 20) (sb : aShp b = 20) (la : aLen a = 3060) (lb : aLen b = 3060) (hne : a ≠ b) {x : Value} : ∃ I', Rn (d, 206, 0, [.ref 121, .ref a, .ref b, x], [], I) .null I' ∧ (∀ i, i < 2860 → I' b i = I a i) ∧ (∀ i, 2860 ≤ i → I' b i = I b i) ∧ ∀ c, c ≠ b → I' c = I c := by
  have loop : ∀ (k p : Nat) (I1 : IM), p + k = 2860 → (∀ i, i < p → I1 b i = I a i) → (∀ i, 2860 ≤ i → I1 b i = I b i) → (∀ c, c ≠ b → I1 c = I c) → ∃ I', Rn (d, 206, 2, [.ref 121, .ref a, .ref b, .int (nI p)], [], I1) .null I' ∧ (∀ i, i < 2860 → I' b i = I a i) ∧ (∀ i, 2860 ≤ i → I' b i = I b i) ∧ ∀ c, c ≠ b → I' c = I c := by
    intro k
    induction k with
    | zero =>
      intro p I1 hp f1 f3 f2
      refine ⟨I1, fun Q => ?_, fun i hi => f1 i (by omega), f3, f2⟩
      rw [b206_2, if_neg (show ¬ nI p < 2860 from (show ¬ nI p < nI 2860 from nI_nlt (by omega) (by omega))), b206_21]
    | succ k ih =>
      intro p I1 hp f1 f3 f2
      obtain ⟨I', r1, r2, r3, r4⟩ := ih (p + 1) (up I1 b p (I1 a p)) (by omega) (fun i hi => by
        by_cases hz : i = p
        · rw [hz, up_s, f2 a hne]
        · rw [up_k hz]; exact f1 i (by omega)) (fun i hi => by rw [up_k (by omega)]; exact f3 i hi) (fun c hc => by rw [up_c hc]; exact f2 c hc)
      refine ⟨I', fun Q => ?_, r2, r3, r4⟩
      rw [b206_2, if_pos (show nI p < 2860 from (show nI p < nI 2860 from nI_lt (by omega) (by decide))), b206_9 sa sb, la, lb, and_iff_right (vp_in_nI (by omega) (by decide)), and_iff_right (vp_in_nI (by omega) (by decide)), nI_clamp (by omega), nI_1]
      exact r1 Q
  obtain ⟨I', r1, r2, r3, r4⟩ := loop 2860 0 I (by omega) (fun i hi => by omega) (fun _ _ => rfl) (fun _ _ => rfl)
  refine ⟨I', fun Q => ?_, r2, r3, r4⟩
  rw [b206_0]
  exact r1 Q
theorem is27 : isHs 27 := Or.inr (Or.inr rfl)
/-- promise 38 -/
theorem m105 (C : Cp M N T) : Ok (d + 200) M 105 [.ref 0] 208 [.ref 121] := by
  have hN := C.le
  have hT := C.h.X.2.1
  obtain ⟨I1, a1, a2, a3, a4⟩ := k19 (d := d + 198) (h := 27) (g := 1) (x := UN) is27 is1 (by decide) C.h.H
  obtain ⟨M2, b1, b2, b3, b4⟩ := k206 (d := d + 199) (I := up (up I1 0 3 1) 121 3 1) (a := 122) (b := 123) (x := UN) rfl rfl rfl rfl (by decide)
  have e2 : ∀ c, c ≠ 0 → c ≠ 27 → c ≠ 29 → ¬ (30 ≤ c ∧ c < 40) → c ≠ 121 → c ≠ 123 → M2 c = M c := fun c z1 z2 z3 z4 z5 z6 => by
    rw [b4 c z6, up_c z5, up_c z1, a4 c z2 z3 z4]
  have e0 : M2 0 = upd (M 0) 3 1 := by rw [b4 0 (by decide), up_c (by decide), up_r, a4 0 (by decide) (by decide) (by decide)]
  have e121 : M2 121 = upd (M 121) 3 1 := by rw [b4 121 (by decide), up_r, up_c (by decide), a4 121 (by decide) (by decide) (by decide)]
  have e122 : M2 122 = M 122 := e2 122 (by decide) (by decide) (by decide) (by decide) (by decide) (by decide)
  have i122 : (up (up I1 0 3 1) 121 3 1) 122 = M 122 := by rw [up_c (by decide), up_c (by decide), a4 122 (by decide) (by decide) (by decide)]
  have e123 : ∀ i, i < 2860 → M2 123 i = M 122 i := fun i hi => by rw [b2 i hi, i122]
  have sm : ∀ t, t < T → sameT (M 122) (M2 123) t := fun t ht i h1 h2 => e123 i (by omega)
  have e27 : ∀ c, (c = 27 ∨ c = 29 ∨ (30 ≤ c ∧ c < 40)) → M2 c = I1 c := fun c hc => by rw [b4 c (by omega), up_c (by omega), up_c (by omega)]
  have CH : CpH M2 N T := C.h.st (by rw [e122]; exact C.h.H.fr (fun c hc => e2 c (by omega) (by omega) (by omega) (by omega) (by omega) (by omega))) (by rw [e122]; exact C.h.B) (fun i _ => by rw [e122]) (by rw [e122]) (e2 3 (by decide) (by decide) (by decide) (by decide) (by decide) (by decide)) (fun c h1 h2 _ => e2 c (by omega) (by omega) (by omega) (by omega) (by omega) (by omega)) (by rw [e122]; exact C.h.ev)
  have CI : CpI M2 T := by
    refine ⟨by rw [e0, e121, upd_s, upd_s], Or.inr ⟨by rw [e0, upd_s], N, T, ?_, bd_ext C.h.B (fun i hi => e123 i (by omega)), wfX_same sm (e123 1 (by decide)) C.h.X, Nat.le_refl _, fun i h1 h2 => by rw [e122, e123 i (by omega)], fun k hk => ?_, ?_⟩⟩
    · exact (a2.fr (fun c hc => e27 c (by omega))).ext' (fun i hi => e123 i (by omega))
    · rw [e27 29 (by omega), cntR_same T sm, a3 k hk]; exact C.h.ct k hk
    · rw [e123 2 (by decide)]; exact C.h.ev
  refine ⟨nI N, up I1 0 3 1, M2, fun Q => ?_, fun Q => ?_, ⟨N, T, CH, CI, C.t.fr (by rw [e2 42 (by decide) (by decide) (by decide) (by decide) (by decide) (by decide)]) (by rw [e121, upd_n (by decide)]) (e2 43 (by decide) (by decide) (by decide) (by decide) (by decide) (by decide)) (e2 134 (by decide) (by decide) (by decide) (by decide) (by decide) (by decide)), C.s.fr (fun c hc => e2 c (by omega) (by omega) (by omega) (by omega) (by omega) (by omega)), C.l.fr (fun c hc => e2 c (by omega) (by omega) (by omega) (by omega) (by omega) (by omega)), C.w.fr (by rw [e0, upd_n (by decide)]) (by rw [e121, upd_n (by decide)]) (e2 46 (by decide) (by decide) (by decide) (by decide) (by decide) (by decide)) (e2 138 (by decide) (by decide) (by decide) (by decide) (by decide) (by decide))⟩, fun c hc => e2 c (by omega) (by omega) (by omega) (by omega) (by omega) (by omega)⟩
  · rw [b105_0, a1, b105_11, up_c (by decide), a4 1 (by decide) (by decide) (by decide), C.n1]
  · rw [b208_0, b1, b208_17, e122, C.n2]
/-- promise 39 -/
theorem m106 (C : Cp M N T) : Ok (d + 200) M 106 [.ref 0] 209 [.ref 121] := by
  have hT := C.h.X.2.1
  obtain ⟨i1, i2⟩ := C.i
  rcases i2 with z | ⟨z, Ni, Ti, H, B, X, hTi, sm, ct, ev⟩
  · exact Ok.ret C (-1000000002) (fun Q => by rw [b106_0, if_pos z, b106_7]) (fun Q => by rw [b209_0, ← i1, if_pos z, b209_7])
  have z1 : ¬ M 0 3 = 0 := by rw [z]; decide
  obtain ⟨M1, a1, a2, a3, a4⟩ := k19 (d := d + 198) (h := 1) (g := 27) (x := UN) is1 is27 (by decide) H
  obtain ⟨M2, b1, b2, b3, b4⟩ := k206 (d := d + 199) (I := M1) (a := 123) (b := 122) (x := UN) rfl rfl rfl rfl (by decide)
  have e2 : ∀ c, c ≠ 1 → c ≠ 3 → ¬ (4 ≤ c ∧ c < 14) → c ≠ 122 → M2 c = M c := fun c y1 y2 y3 y4 => by rw [b4 c y4, a4 c y1 y2 y3]
  have e123 : M2 123 = M 123 := e2 123 (by decide) (by decide) (by decide) (by decide)
  have i123 : M1 123 = M 123 := a4 123 (by decide) (by decide) (by decide)
  have i122 : M1 122 = M 122 := a4 122 (by decide) (by decide) (by decide)
  have e122 : ∀ i, i < 2860 → M2 122 i = M 123 i := fun i hi => by rw [b2 i hi, i123]
  have hX := X.2.1
  have s1 : ∀ t, t < Ti → sameT (M 123) (M2 122) t := fun t ht i h1 h2 => e122 i (by omega)
  have s2 : ∀ t, t < Ti → sameT (M 122) (M2 122) t := fun t ht i h1 h2 => by rw [e122 i (by omega), sm i (by omega) (by omega)]
  have e1 : ∀ c, (c = 1 ∨ c = 3 ∨ (4 ≤ c ∧ c < 14)) → M2 c = M1 c := fun c hc => b4 c (by omega)
  have CH : CpH M2 Ni Ti := by
    refine ⟨(a2.fr (fun c hc => e1 c (by omega))).ext' (fun i hi => e122 i (by omega)), bd_ext B (fun i hi => e122 i (by omega)), wfX_same s1 (e122 1 (by decide)) X, fun t ht => ?_, fun k hk => ?_, ?_⟩
    · refine (s2 t ht).tx (C.h.X.2.2 t (by omega)) ?_
      have := C.h.tx t (by omega)
      unfold txOk at *
      rw [e2 (48 + 3 * t) (by omega) (by omega) (by omega) (by omega), e2 (49 + 3 * t) (by omega) (by omega) (by omega) (by omega)]
      exact this
    · rw [e1 3 (by omega), a3 k hk, cntR_same Ti s1]; exact ct k hk
    · rw [e122 2 (by decide)]; exact ev
  have CI : CpI M2 Ti := by
    unfold CpI
    rw [e2 0 (by decide) (by decide) (by decide) (by decide), e2 121 (by decide) (by decide) (by decide) (by decide), e123]
    exact ⟨i1, Or.inr ⟨z, Ni, Ti, H.fr (fun c hc => e2 c (by omega) (by omega) (by omega) (by omega)), B, X, Nat.le_refl _, fun i h1 h2 => e122 i (by omega), fun k hk => by rw [e2 29 (by decide) (by decide) (by decide) (by decide)]; exact ct k hk, ev⟩⟩
  refine ⟨nI Ni, M1, M2, fun Q => ?_, fun Q => ?_, ⟨Ni, Ti, CH, CI, C.t.fr (by rw [e2 42 (by decide) (by decide) (by decide) (by decide)]) (by rw [e2 121 (by decide) (by decide) (by decide) (by decide)]) (e2 43 (by decide) (by decide) (by decide) (by decide)) (e2 134 (by decide) (by decide) (by decide) (by decide)), C.s.fr (fun c hc => e2 c (by omega) (by omega) (by omega) (by omega)), C.l.fr (fun c hc => e2 c (by omega) (by omega) (by omega) (by omega)), C.w.fr (by rw [e2 0 (by decide) (by decide) (by decide) (by decide)]) (by rw [e2 121 (by decide) (by decide) (by decide) (by decide)]) (e2 46 (by decide) (by decide) (by decide) (by decide)) (e2 138 (by decide) (by decide) (by decide) (by decide))⟩, fun c hc => e2 c (by omega) (by omega) (by omega) (by omega)⟩
  · rw [b106_0, if_neg z1, b106_11, a1, b106_22, show M1 1 2 = nI Ni from a2.ppl]
  · rw [b209_0, a4 121 (by decide) (by decide) (by decide), ← i1, if_neg z1, b209_11, b1, b209_23, e122 0 (by decide), B.1]
end K11
