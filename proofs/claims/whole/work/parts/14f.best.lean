/-! door, never, becomes -/
/-- the first number below v with which most is talked, and how much -/
def sB (g : Nat → Int32) : Nat → Int32 × Int32
  | 0 => (-1, -1)
  | v + 1 => if (sB g v).2 < g v then (nI v, g v) else sB g v
theorem sB_pos {g : Nat → Int32} (hg : ∀ v, ∃ k, k ≤ 99999 ∧ g v = nI k) : ∀ v, 0 < v → ∃ k, k < v ∧ (sB g v).1 = nI k := by
  intro v
  induction v with
  | zero => intro h; omega
  | succ v ih =>
    intro _
    unfold sB
    by_cases hb : (sB g v).2 < g v
    · rw [if_pos hb]; exact ⟨v, by omega, rfl⟩
    · rw [if_neg hb]
      cases v with
      | zero =>
        exfalso
        obtain ⟨k, k1, k2⟩ := hg 0
        refine hb ?_
        show (-1 : Int32) < g 0
        rw [k2, Int32.lt_iff_toInt_lt, nI_toInt (by omega), show (-1 : Int32).toInt = -1 by decide]
        omega
      | succ v =>
        obtain ⟨k, k1, k2⟩ := ih (by omega)
        exact ⟨k, by omega, k2⟩
section K6
variable {d : Nat} {M I : IM} {N T : Nat} {Q : Po} {S : Nat → Int32} {A : Fn4} {lv : Value}
theorem k163_loop {l1 l2 l3 l4 l5 : Int32} {c : Nat} (pl : Nat → Nat) (w : Nat → Int32) (hc : c ≤ 100) (B : bd S N) (X : wfX S T) (hl : ∀ v, v ≤ c → (l3 < nI v ↔ c ≤ v)) (h1 : ∀ v, v < c → l1 + l2 * nI v = nI (pl v) ∧ pl v < 60 ∧ pl v ≠ 1) (h2 : ∀ v, v < c → (if 0 < l2 then 0 else nI v) = w v) (hb : ∀ v, v < c → bd (upd S (pl v) (w v)) N) :
    ∀ (k v : Nat) (I : IM) (x : Value), v + k = c → I 122 = S → (∀ i, i < 60 → I 133 i = S i) →
    ∃ (I' : IM) (y : Value), (∀ Q : Po, E (d + 7, 163, 13, [.ref 121, .int l1, .int l2, .int l3, .int l4, .int l5, .int (sB (fun v => sPass (mA S 0 T) N (upd S (pl v) (w v)) l4.toNatClampNeg 6) v).1, .int (sB (fun v => sPass (mA S 0 T) N (upd S (pl v) (w v)) l4.toNatClampNeg 6) v).2, .int (nI v), x], [], I) Q ↔ E (d + 7, 163, 97, [.ref 121, .int l1, .int l2, .int l3, .int l4, .int l5, .int (sB (fun v => sPass (mA S 0 T) N (upd S (pl v) (w v)) l4.toNatClampNeg 6) c).1, .int (sB (fun v => sPass (mA S 0 T) N (upd S (pl v) (w v)) l4.toNatClampNeg 6) c).2, .int (nI c), y], [], I') Q) ∧ I' 122 = S ∧ frT I I' := by
  have hN := B.2.1
  generalize hg : (fun v => sPass (mA S 0 T) N (upd S (pl v) (w v)) l4.toNatClampNeg 6) = g
  intro k
  induction k with
  | zero =>
    intro v I x hv r _
    have : v = c := by omega
    subst this
    exact ⟨I, x, fun Q => by rw [b163_13, if_pos ((hl v (Nat.le_refl _)).mpr (Nat.le_refl _))], r, frT.rf⟩
  | succ k ih =>
    intro v I x hv r r3
    obtain ⟨e1, e2, e3⟩ := h1 v (by omega)
    have ru : (up I 122 (pl v) (w v)) 122 = upd S (pl v) (w v) := by rw [up_r, r]
    have cg : ∀ j, 60 ≤ j → upd S (pl v) (w v) j = S j := fun j hj => upd_n (by omega)
    obtain ⟨I1, q1, q2, q3⟩ := k153 (d := d) (I := up I 122 (pl v) (w v)) (N := N) (T := T) (ev := l4) (x := UN) (by rw [ru]; exact hb v (by omega)) (by rw [ru]; exact wfX_cg cg (upd_n (Ne.symm e3)) X)
    rw [ru, mA_cg cg] at q2
    obtain ⟨I2, s1, s2, s3⟩ := k159 (d := d + 6) (I := I1) (x := UN) (S := S) (fun i hi => by rw [q3 133 (by decide) (by decide) (by decide), up_c (by decide)]; exact r3 i hi) (fun i hi => by rw [q2, pass_hi hN (Or.inl hi)]; exact cg i hi)
    have fT : frT I I2 := fun c' z1 z2 z3 z4 => by rw [s3 c' z1, q3 c' z1 z3 z4, up_c z1]
    have e6 : I1 122 6 = g v := by rw [q2, ← hg]
    obtain ⟨I', y, t1, t2, t3⟩ := ih (v + 1) I2 (.int (g v)) (by omega) s2 (fun i hi => by rw [s3 133 (by decide), q3 133 (by decide) (by decide) (by decide), up_c (by decide)]; exact r3 i hi)
    refine ⟨I', y, fun Q => ?_, t2, fT.tr t3⟩
    have st : E (d + 7, 163, 13, [.ref 121, .int l1, .int l2, .int l3, .int l4, .int l5, .int (sB g v).1, .int (sB g v).2, .int (nI v), x], [], I) Q ↔ E (d + 7, 163, 46, [.ref 121, .int l1, .int l2, .int l3, .int l4, .int l5, .int (sB g v).1, .int (sB g v).2, .int (nI v), x], [], I1) Q := by
      have e := h2 v (by omega)
      rw [b163_13, if_neg (fun z => by have := (hl v (by omega)).mp z; omega), b163_19, e1]
      by_cases hl2 : 0 < l2
      · rw [if_pos hl2] at e
        rw [if_pos hl2, b163_33, b163_39, and_iff_right (vp_in_nI (by omega) (by decide)), nI_clamp (by omega), e, q1]
      · rw [if_neg hl2] at e
        rw [if_neg hl2, b163_37, b163_39, and_iff_right (vp_in_nI (by omega) (by decide)), nI_clamp (by omega), e, q1]
    rw [st, b163_46, s1, e6, b163_59]
    have := t1 Q
    by_cases hz : (sB g v).2 < g v
    · have e : sB g (v + 1) = (nI v, g v) := if_pos hz
      rw [e] at this
      rw [if_pos hz, b163_66, b163_73, if_pos hz, b163_82, b163_89, nI_1]
      exact this
    · have e : sB g (v + 1) = sB g v := if_neg hz
      rw [e] at this
      rw [if_neg hz, b163_71, b163_73, if_neg hz, b163_87, b163_89, nI_1]
      exact this
theorem k163 {l1 l2 l3 l4 l5 : Int32} {c : Nat} (pl : Nat → Nat) (w : Nat → Int32) (hc : c ≤ 100) (B : bd (I 122) N) (X : wfX (I 122) T) (hl : ∀ v, v ≤ c → (l3 < nI v ↔ c ≤ v)) (h1 : ∀ v, v < c → l1 + l2 * nI v = nI (pl v) ∧ pl v < 60 ∧ pl v ≠ 1) (h2 : ∀ v, v < c → (if 0 < l2 then 0 else nI v) = w v) (hb : ∀ v, v < c → bd (upd (I 122) (pl v) (w v)) N) {x y z u : Value} {q : Int32 × Int32} (hq : sB (fun v => sPass (mA (I 122) 0 T) N (upd (I 122) (pl v) (w v)) l4.toNatClampNeg 6) c = q) :
    ∃ I' : IM, Rn (d + 7, 163, 0, [.ref 121, .int l1, .int l2, .int l3, .int l4, .int l5, x, y, z, u], [], I) (.int (if q.1 < 0 then -1000000005 else if l5 = 0 then q.1 else q.2)) I' ∧ I' 122 = I 122 ∧ frT I I' := by
  obtain ⟨I1, a1, a2, a3⟩ := k158 (d := d + 6) (I := I) (x := UN)
  have r : I1 122 = I 122 := a3 122 (by decide)
  obtain ⟨I', y, t1, t2, t3⟩ := k163_loop (d := d) (l1 := l1) (l2 := l2) (l3 := l3) (l4 := l4) (l5 := l5) pl w hc B X hl h1 h2 hb c 0 I1 u (by omega) r a2
  refine ⟨I', fun Q => ?_, t2, fun c' z1 z2 z3 z4 => by rw [t3 c' z1 z2 z3 z4, a3 c' z2]⟩
  have := t1 Q
  rw [nI_0] at this
  rw [b163_0, a1, b163_4]
  refine this.trans ?_
  rw [hq, b163_97, b163_102, b163_107, b163_112, b163_117, b163_119, b163_119, b163_119, QI (Q := Q), QI (Q := Q)]
theorem sub1_lt {c v : Nat} (hc : c ≤ 1000) (hv : v ≤ 1000) : nI c - 1 < nI v ↔ c ≤ v := by
  cases c with
  | zero =>
    refine ⟨fun _ => by omega, fun _ => ?_⟩
    rw [show nI 0 - 1 = -1 by decide, Int32.lt_iff_toInt_lt, nI_toInt (by omega), show (-1 : Int32).toInt = -1 by decide]
    omega
  | succ n =>
    rw [show nI (n + 1) - 1 = nI n by rw [show nI (n + 1) = nI n + 1 from (nI_1 n).symm, Int32.add_sub_cancel], nI_ltI (by omega) (by omega)]
    omega
theorem talk_bd (B : bd S N) : ∃ k, k ≤ 99999 ∧ S 6 = nI k := B.2.2.2.1
/-- a step of the three: the thought is made, changed, and evenings pass -/
theorem k83_loop {n w : Int32} (H : isH M 1 S N) (L : Lw M lv A) : ∀ (k v : Nat) (I : IM) (b : Int32), v + k = N → frK M I → (0 < v → b = (sB (fun v => sPass A N (upd S (12 + 5 * v) 0) n.toNatClampNeg 6) v).1) → (∀ v, ∃ k, k ≤ 99999 ∧ sPass A N (upd S (12 + 5 * v) 0) n.toNatClampNeg 6 = nI k) →
    ∃ (I' : IM) (b' : Int32), (∀ Q : Po, E (d + 6, 83, 54, [.ref 0, .int n, .int w, lv, .int b, .int (sB (fun v => sPass A N (upd S (12 + 5 * v) 0) n.toNatClampNeg 6) v).2, .int (nI v)], [], I) Q ↔ E (d + 6, 83, 131, [.ref 0, .int n, .int w, lv, .int b', .int (sB (fun v => sPass A N (upd S (12 + 5 * v) 0) n.toNatClampNeg 6) N).2, .int (nI N)], [], I') Q) ∧ frK M I' ∧ (0 < N → b' = (sB (fun v => sPass A N (upd S (12 + 5 * v) 0) n.toNatClampNeg 6) N).1) := by
  have hN := H.2.1
  generalize hg : (fun v => sPass A N (upd S (12 + 5 * v) 0) n.toNatClampNeg 6) = g
  intro k
  induction k with
  | zero =>
    intro v I b hv f hb gb
    have : v = N := by omega
    subst this
    refine ⟨I, b, fun Q => ?_, f, hb⟩
    rw [b83_54m L.lv, show I 1 2 = nI v from (f.H H).ppl, if_neg (nI_nlt (Nat.le_refl _) (by omega))]
  | succ k ih =>
    intro v I b hv f hb gb
    obtain ⟨I1, a1, a2, a3⟩ := think (d := d + 4) (x := UN) (f.H H)
    have H2 : isH (up I1 (17 + v) 2 0) 14 (upd S (12 + 5 * v) 0) N := by
      have := a2.gst (p := v) (j := 2) (by omega) (by decide) 0
      rw [show 10 + 5 * v + 2 = 12 + 5 * v by omega] at this
      exact this
    have f2 : frK M (up I1 (17 + v) 2 0) := (f.tr a3).tr (frK.wr (by omega))
    obtain ⟨I3, c1, c2, c3⟩ := k27 (d := d) (ev := n) (x := UN) is14 H2 (f2.L L)
    have f3 := f2.tr (frK.ofE c3)
    have e6 : I3 14 6 = g v := by rw [← hg]; exact c2.f (i := 6) (by decide)
    have st : ∀ Q : Po, E (d + 6, 83, 54, [.ref 0, .int n, .int w, lv, .int b, .int (sB g v).2, .int (nI v)], [], I) Q ↔ if (sB g v).2 < g v then E (d + 6, 83, 54, [.ref 0, .int n, .int w, lv, .int (nI v), .int (g v), .int (nI (v + 1))], [], I3) Q else E (d + 6, 83, 54, [.ref 0, .int n, .int w, lv, .int b, .int (sB g v).2, .int (nI (v + 1))], [], I3) Q := fun Q => by
      rw [b83_54m L.lv, show I 1 2 = nI N from (f.H H).ppl, if_pos (nI_lt (by omega) (by omega)), b83_66m L.lv, a1, b83_77m (by rw [g15 (by omega)]; exact s17 (by omega)) L.lv, and_iff_right (vp10 (by omega)), g15 (by omega), c1, b83_100m L.lv, e6, b83_112m L.lv, e6, b83_125m L.lv, b83_125m L.lv, nI_1]
    by_cases hz : (sB g v).2 < g v
    · have e : sB g (v + 1) = (nI v, g v) := if_pos hz
      obtain ⟨I', b', t1, t2, t3⟩ := ih (v + 1) I3 (nI v) (by omega) f3 (fun _ => by rw [e]) gb
      refine ⟨I', b', fun Q => ?_, t2, t3⟩
      have := t1 Q
      rw [e] at this
      rw [st Q, if_pos hz]
      exact this
    · have e : sB g (v + 1) = sB g v := if_neg hz
      have hv0 : 0 < v := by
        rcases Nat.eq_zero_or_pos v with z | z
        · exfalso
          subst z
          obtain ⟨q, q1, q2⟩ := gb 0
          refine hz ?_
          show (-1 : Int32) < g 0
          rw [← hg]
          dsimp only
          rw [q2, Int32.lt_iff_toInt_lt, nI_toInt (by omega), show (-1 : Int32).toInt = -1 by decide]
          omega
        · exact z
      obtain ⟨I', b', t1, t2, t3⟩ := ih (v + 1) I3 b (by omega) f3 (fun _ => by rw [e]; exact hb hv0) gb
      refine ⟨I', b', fun Q => ?_, t2, t3⟩
      have := t1 Q
      rw [e] at this
      rw [st Q, if_neg hz]
      exact this
/-- promise 16 -/
theorem m83 (C : Cp M N T) {a b : Int32} : Ok (d + 200) M 83 [.ref 0, .int a, .int b, UN, UN, UN, UN] 164 [.ref 121, .int a, .int b] := by
  have hN := C.le
  by_cases h1 : 1 ≤ a ∧ a ≤ 60
  rotate_left
  · exact Ok.ret C (-1000000001) (fun Q => by rw [b83_0, k108, b83_7, ite_b01, if_neg h1, b83_19]) (fun Q => by rw [b164_0, k162, b164_5, ite_b01, if_neg (fun z => h1 z.1), b164_28, b164_30])
  by_cases h2 : 0 ≤ b ∧ b ≤ 1
  rotate_left
  · exact Ok.ret C (-1000000001) (fun Q => by rw [b83_0, k108, b83_7, ite_b01, if_pos h1, b83_10, k108, b83_16, ite_b01, if_neg h2, b83_19]) (fun Q => by rw [b164_0, k162, b164_5, ite_b01, if_neg (fun z => h2 z.2), b164_28, b164_30])
  have gb : ∀ v, bd (upd (M 122) (12 + 5 * v) 0) N := fun v => by
    rw [show 12 + 5 * v = 10 + 5 * v + 2 by omega]
    exact bd_g C.h.B (by decide) (Or.inr (Or.inr (Or.inl ⟨rfl, 0, by decide, nI_0.symm⟩)))
  have key : ∀ (M1 : IM), frK M M1 → ∃ M2, Rn (d + 200, 164, 0, [.ref 121, .int a, .int b], [], M1) (.int (if (sB (fun v => sPass (mA (M 122) 0 T) N (upd (M 122) (12 + 5 * v) 0) a.toNatClampNeg 6) N).1 < 0 then -1000000005 else if b = 0 then (sB (fun v => sPass (mA (M 122) 0 T) N (upd (M 122) (12 + 5 * v) 0) a.toNatClampNeg 6) N).1 else (sB (fun v => sPass (mA (M 122) 0 T) N (upd (M 122) (12 + 5 * v) 0) a.toNatClampNeg 6) N).2)) M2 ∧ Cp M2 N T ∧ fz M M2 := by
    intro M1 f
    have C1 := C.K f
    have e122 : M1 122 = M 122 := f 122 (by omega) (fun z => by have := scr_lt z; omega)
    obtain ⟨M2, t1, t2, t3⟩ := k163 (d := d + 192) (I := M1) (N := N) (T := T) (l1 := 12) (l2 := 5) (l3 := nI N - 1) (l4 := a) (l5 := b) (c := N) (fun v => 12 + 5 * v) (fun _ => 0) (by omega) C1.h.B C1.h.X (fun v hv => sub1_lt (by omega) (by omega)) (fun v hv => ⟨by rw [show (5 : Int32) = nI 5 by decide, show (12 : Int32) = nI 12 by decide, pk_mul, nI_add], by omega, by omega⟩) (fun v hv => if_pos (by decide)) (fun v hv => by rw [e122]; exact gb v) (x := UN) (y := UN) (z := UN) (u := UN) rfl
    refine ⟨M2, fun Q => ?_, C1.T t3 t2, (frN.ofK f).fz.tr (frN.ofT t3).fz⟩
    rw [b164_0, k162, b164_5, ite_b01, if_pos ⟨h1, h2⟩, b164_8, C1.n2, t1, b164_25, b164_30, e122]
  by_cases h0 : N = 0
  · subst h0
    obtain ⟨M2, t1, t2, t3⟩ := key M frK.rf
    refine ⟨-1000000005, M, M2, fun Q => ?_, fun Q => ?_, ⟨0, T, t2⟩, t3⟩
    · rw [b83_0, k108, b83_7, ite_b01, if_pos h1, b83_10, k108, b83_16, ite_b01, if_pos h2, b83_22, C.n1, if_pos nI_0, b83_32]
    · rw [t1, if_pos (show (sB (fun v => sPass (mA (M 122) 0 T) 0 (upd (M 122) (12 + 5 * v) 0) a.toNatClampNeg 6) 0).1 < 0 from (show (-1 : Int32) < 0 by decide))]
  obtain ⟨lv, l1, l2⟩ := k115 (d := d + 198) (x := UN) C (k := 0) (v := 0) (by decide) (by decide)
  obtain ⟨M1, b', s1, s2, s3⟩ := k83_loop (d := d + 194) (S := M 122) (n := a) (w := b) C.h.H l2 N 0 M 0 (by omega) frK.rf (fun z => by omega) (fun v => talk_bd (bd_pass (gb v) _))
  obtain ⟨M2, t1, t2, t3⟩ := key M1 s2
  obtain ⟨q, q1, q2⟩ := sB_pos (g := fun v => sPass (mA (M 122) 0 T) N (upd (M 122) (12 + 5 * v) 0) a.toNatClampNeg 6) (fun v => talk_bd (bd_pass (gb v) _)) N (by omega)
  refine ⟨if b = 0 then (sB (fun v => sPass (mA (M 122) 0 T) N (upd (M 122) (12 + 5 * v) 0) a.toNatClampNeg 6) N).1 else (sB (fun v => sPass (mA (M 122) 0 T) N (upd (M 122) (12 + 5 * v) 0) a.toNatClampNeg 6) N).2, M1, M2, fun Q => ?_, fun Q => ?_, ⟨N, T, t2⟩, t3⟩
  · rw [b83_0, k108, b83_7, ite_b01, if_pos h1, b83_10, k108, b83_16, ite_b01, if_pos h2, b83_22, C.n1, if_neg (nI_ne0 (by omega) (by omega)), b83_35, l1, b83_44m l2.lv]
    refine (s1 Q).trans ?_
    rw [b83_131m l2.lv, b83_135m l2.lv, b83_140m l2.lv, b83_142m l2.lv, b83_142m l2.lv, s3 (by omega), QI (Q := Q)]
  · rw [t1, if_neg (show ¬ (sB (fun v => sPass (mA (M 122) 0 T) N (upd (M 122) (12 + 5 * v) 0) a.toNatClampNeg 6) N).1 < 0 from by rw [q2]; exact nI_pos (by omega))]
theorem k84_loop {n w : Int32} (H : isH M 1 S N) (L : Lw M lv A) : ∀ (k v : Nat) (I : IM) (b : Int32), v + k = 11 → frK M I → (0 < v → b = (sB (fun v => sPass A N (upd S 3 (nI v)) n.toNatClampNeg 6) v).1) → (∀ v, ∃ k, k ≤ 99999 ∧ sPass A N (upd S 3 (nI v)) n.toNatClampNeg 6 = nI k) →
    ∃ (I' : IM) (b' : Int32), (∀ Q : Po, E (d + 6, 84, 41, [.ref 0, .int n, .int w, lv, .int b, .int (sB (fun v => sPass A N (upd S 3 (nI v)) n.toNatClampNeg 6) v).2, .int (nI v)], [], I) Q ↔ E (d + 6, 84, 108, [.ref 0, .int n, .int w, lv, .int b', .int (sB (fun v => sPass A N (upd S 3 (nI v)) n.toNatClampNeg 6) 11).2, .int (nI 11)], [], I') Q) ∧ frK M I' ∧ b' = (sB (fun v => sPass A N (upd S 3 (nI v)) n.toNatClampNeg 6) 11).1 := by
  have hN := H.2.1
  generalize hg : (fun v => sPass A N (upd S 3 (nI v)) n.toNatClampNeg 6) = g
  intro k
  induction k with
  | zero =>
    intro v I b hv f hb gb
    have : v = 11 := by omega
    subst this
    refine ⟨I, b, fun Q => ?_, f, hb (by decide)⟩
    rw [b84_41m L.lv, if_pos (by decide)]
  | succ k ih =>
    intro v I b hv f hb gb
    obtain ⟨I1, a1, a2, a3⟩ := think (d := d + 4) (x := UN) (f.H H)
    have H2 : isH (up I1 14 3 (nI v)) 14 (upd S 3 (nI v)) N := a2.fld (i := 3) (by decide) (by decide) (nI v)
    have f2 : frK M (up I1 14 3 (nI v)) := (f.tr a3).tr (frK.wr (by omega))
    obtain ⟨I3, c1, c2, c3⟩ := k27 (d := d) (ev := n) (x := UN) is14 H2 (f2.L L)
    have f3 := f2.tr (frK.ofE c3)
    have e6 : I3 14 6 = g v := by rw [← hg]; exact c2.f (i := 6) (by decide)
    have st : ∀ Q : Po, E (d + 6, 84, 41, [.ref 0, .int n, .int w, lv, .int b, .int (sB g v).2, .int (nI v)], [], I) Q ↔ if (sB g v).2 < g v then E (d + 6, 84, 41, [.ref 0, .int n, .int w, lv, .int (nI v), .int (g v), .int (nI (v + 1))], [], I3) Q else E (d + 6, 84, 41, [.ref 0, .int n, .int w, lv, .int b, .int (sB g v).2, .int (nI (v + 1))], [], I3) Q := fun Q => by
      rw [b84_41m L.lv, if_neg (show ¬ (10 : Int32) < nI v from (show ¬ nI 10 < nI v from nI_nlt (by omega) (by decide))), b84_48m L.lv, a1, b84_59m L.lv, c1, b84_77m L.lv, e6, b84_89m L.lv, e6, b84_102m L.lv, b84_102m L.lv, nI_1]
    by_cases hz : (sB g v).2 < g v
    · have e : sB g (v + 1) = (nI v, g v) := if_pos hz
      obtain ⟨I', b', t1, t2, t3⟩ := ih (v + 1) I3 (nI v) (by omega) f3 (fun _ => by rw [e]) gb
      refine ⟨I', b', fun Q => ?_, t2, t3⟩
      have := t1 Q
      rw [e] at this
      rw [st Q, if_pos hz]
      exact this
    · have e : sB g (v + 1) = sB g v := if_neg hz
      have hv0 : 0 < v := by
        rcases Nat.eq_zero_or_pos v with z | z
        · exfalso
          subst z
          obtain ⟨q, q1, q2⟩ := gb 0
          refine hz ?_
          show (-1 : Int32) < g 0
          rw [← hg]
          dsimp only
          rw [q2, Int32.lt_iff_toInt_lt, nI_toInt (by omega), show (-1 : Int32).toInt = -1 by decide]
          omega
        · exact z
      obtain ⟨I', b', t1, t2, t3⟩ := ih (v + 1) I3 b (by omega) f3 (fun _ => by rw [e]; exact hb hv0) gb
      refine ⟨I', b', fun Q => ?_, t2, t3⟩
      have := t1 Q
      rw [e] at this
      rw [st Q, if_neg hz]
      exact this
/-- promise 17 -/
theorem m84 (C : Cp M N T) {a b : Int32} : Ok (d + 200) M 84 [.ref 0, .int a, .int b, UN, UN, UN, UN] 165 [.ref 121, .int a, .int b] := by
  have hN := C.le
  by_cases h1 : 1 ≤ a ∧ a ≤ 60
  rotate_left
  · exact Ok.ret C (-1000000001) (fun Q => by rw [b84_0, k108, b84_7, ite_b01, if_neg h1, b84_19]) (fun Q => by rw [b165_0, k162, b165_5, ite_b01, if_neg (fun z => h1 z.1), b165_21, b165_23])
  by_cases h2 : 0 ≤ b ∧ b ≤ 1
  rotate_left
  · exact Ok.ret C (-1000000001) (fun Q => by rw [b84_0, k108, b84_7, ite_b01, if_pos h1, b84_10, k108, b84_16, ite_b01, if_neg h2, b84_19]) (fun Q => by rw [b165_0, k162, b165_5, ite_b01, if_neg (fun z => h2 z.2), b165_21, b165_23])
  have gb : ∀ v, bd (upd (M 122) 3 (nI v)) N := fun v => bd_z C.h.B (by omega)
  obtain ⟨lv, l1, l2⟩ := k115 (d := d + 198) (x := UN) C (k := 0) (v := 0) (by decide) (by decide)
  obtain ⟨M1, b', s1, s2, s3⟩ := k84_loop (d := d + 194) (S := M 122) (n := a) (w := b) C.h.H l2 11 0 M 0 (by omega) frK.rf (fun z => by omega) (fun v => talk_bd (bd_pass (gb v) _))
  have C1 := C.K s2
  have e122 : M1 122 = M 122 := s2 122 (by omega) (fun z => by have := scr_lt z; omega)
  obtain ⟨M2, t1, t2, t3⟩ := k163 (d := d + 192) (I := M1) (N := N) (T := T) (l1 := 3) (l2 := 0) (l3 := 10) (l4 := a) (l5 := b) (c := 11) (fun v => 3) (fun v => nI v) (by omega) C1.h.B C1.h.X (fun v hv => sub1_lt (c := 11) (by omega) (by omega)) (fun v hv => ⟨by rw [Int32.zero_mul, Int32.add_zero]; decide, by decide, by decide⟩) (fun v hv => if_neg (by decide)) (fun v hv => by rw [e122]; exact gb v) (x := UN) (y := UN) (z := UN) (u := UN) rfl
  obtain ⟨q, q1, q2⟩ := sB_pos (g := fun v => sPass (mA (M 122) 0 T) N (upd (M 122) 3 (nI v)) a.toNatClampNeg 6) (fun v => talk_bd (bd_pass (gb v) _)) 11 (by omega)
  refine ⟨if b = 0 then (sB (fun v => sPass (mA (M 122) 0 T) N (upd (M 122) 3 (nI v)) a.toNatClampNeg 6) 11).1 else (sB (fun v => sPass (mA (M 122) 0 T) N (upd (M 122) 3 (nI v)) a.toNatClampNeg 6) 11).2, M1, M2, fun Q => ?_, fun Q => ?_, ⟨N, T, C1.T t3 t2⟩, (frN.ofK s2).fz.tr (frN.ofT t3).fz⟩
  · rw [b84_0, k108, b84_7, ite_b01, if_pos h1, b84_10, k108, b84_16, ite_b01, if_pos h2, b84_22, l1, b84_31m l2.lv]
    refine (s1 Q).trans ?_
    rw [b84_108m l2.lv, b84_112m l2.lv, b84_117m l2.lv, b84_119m l2.lv, b84_119m l2.lv, s3, QI (Q := Q)]
  · rw [b165_0, k162, b165_5, ite_b01, if_pos ⟨h1, h2⟩, b165_8, t1, b165_18, b165_23, e122, if_neg (show ¬ (sB (fun v => sPass (mA (M 122) 0 T) N (upd (M 122) 3 (nI v)) a.toNatClampNeg 6) 11).1 < 0 from by rw [q2]; exact nI_pos (by omega))]
theorem k85_loop {n w : Int32} {p : Nat} (hp : p < N) (H : isH M 1 S N) (L : Lw M lv A) : ∀ (k v : Nat) (I : IM) (b : Int32), v + k = 6 → frK M I → (0 < v → b = (sB (fun v => sPass A N (upd S (10 + 5 * p) (nI v)) n.toNatClampNeg 6) v).1) → (∀ v, v < 6 → ∃ k, k ≤ 99999 ∧ sPass A N (upd S (10 + 5 * p) (nI v)) n.toNatClampNeg 6 = nI k) →
    ∃ (I' : IM) (b' : Int32), (∀ Q : Po, E (d + 6, 85, 50, [.ref 0, .int (nI p), .int n, .int w, lv, .int b, .int (sB (fun v => sPass A N (upd S (10 + 5 * p) (nI v)) n.toNatClampNeg 6) v).2, .int (nI v)], [], I) Q ↔ E (d + 6, 85, 123, [.ref 0, .int (nI p), .int n, .int w, lv, .int b', .int (sB (fun v => sPass A N (upd S (10 + 5 * p) (nI v)) n.toNatClampNeg 6) 6).2, .int (nI 6)], [], I') Q) ∧ frK M I' ∧ b' = (sB (fun v => sPass A N (upd S (10 + 5 * p) (nI v)) n.toNatClampNeg 6) 6).1 := by
  have hN := H.2.1
  generalize hg : (fun v => sPass A N (upd S (10 + 5 * p) (nI v)) n.toNatClampNeg 6) = g
  intro k
  induction k with
  | zero =>
    intro v I b hv f hb gb
    have : v = 6 := by omega
    subst this
    refine ⟨I, b, fun Q => ?_, f, hb (by decide)⟩
    rw [b85_50m L.lv, if_neg (by decide)]
  | succ k ih =>
    intro v I b hv f hb gb
    obtain ⟨I1, a1, a2, a3⟩ := think (d := d + 4) (x := UN) (f.H H)
    have H2 : isH (up I1 (17 + p) 0 (nI v)) 14 (upd S (10 + 5 * p) (nI v)) N := a2.gst (p := p) (j := 0) hp (by decide) (nI v)
    have f2 : frK M (up I1 (17 + p) 0 (nI v)) := (f.tr a3).tr (frK.wr (by omega))
    obtain ⟨I3, c1, c2, c3⟩ := k27 (d := d) (ev := n) (x := UN) is14 H2 (f2.L L)
    have f3 := f2.tr (frK.ofE c3)
    have e6 : I3 14 6 = g v := by rw [← hg]; exact c2.f (i := 6) (by decide)
    have st : ∀ Q : Po, E (d + 6, 85, 50, [.ref 0, .int (nI p), .int n, .int w, lv, .int b, .int (sB g v).2, .int (nI v)], [], I) Q ↔ if (sB g v).2 < g v then E (d + 6, 85, 50, [.ref 0, .int (nI p), .int n, .int w, lv, .int (nI v), .int (g v), .int (nI (v + 1))], [], I3) Q else E (d + 6, 85, 50, [.ref 0, .int (nI p), .int n, .int w, lv, .int b, .int (sB g v).2, .int (nI (v + 1))], [], I3) Q := fun Q => by
      rw [b85_50m L.lv, if_pos (show nI v < 6 from (show nI v < nI 6 from nI_lt (by omega) (by decide))), b85_57m L.lv, a1, b85_68m (by rw [g15 (by omega)]; exact s17 (by omega)) L.lv, and_iff_right (vp10 (by omega)), g15 (by omega), c1, b85_92m L.lv, e6, b85_104m L.lv, e6, b85_117m L.lv, b85_117m L.lv, nI_1]
    by_cases hz : (sB g v).2 < g v
    · have e : sB g (v + 1) = (nI v, g v) := if_pos hz
      obtain ⟨I', b', t1, t2, t3⟩ := ih (v + 1) I3 (nI v) (by omega) f3 (fun _ => by rw [e]) gb
      refine ⟨I', b', fun Q => ?_, t2, t3⟩
      have := t1 Q
      rw [e] at this
      rw [st Q, if_pos hz]
      exact this
    · have e : sB g (v + 1) = sB g v := if_neg hz
      have hv0 : 0 < v := by
        rcases Nat.eq_zero_or_pos v with z | z
        · exfalso
          subst z
          obtain ⟨q, q1, q2⟩ := gb 0 (by decide)
          refine hz ?_
          show (-1 : Int32) < g 0
          rw [← hg]
          dsimp only
          rw [q2, Int32.lt_iff_toInt_lt, nI_toInt (by omega), show (-1 : Int32).toInt = -1 by decide]
          omega
        · exact z
      obtain ⟨I', b', t1, t2, t3⟩ := ih (v + 1) I3 b (by omega) f3 (fun _ => by rw [e]; exact hb hv0) gb
      refine ⟨I', b', fun Q => ?_, t2, t3⟩
      have := t1 Q
      rw [e] at this
      rw [st Q, if_neg hz]
      exact this
theorem sB_pos' {g : Nat → Int32} {c : Nat} (hg : ∀ v, v < c → ∃ k, k ≤ 99999 ∧ g v = nI k) (hc : 0 < c) : ∃ k, k < c ∧ (sB g c).1 = nI k := by
  have cg : ∀ v, v ≤ c → sB (fun u => if u < c then g u else 0) v = sB g v := by
    intro v
    induction v with
    | zero => intro _; rfl
    | succ v ih => intro h; unfold sB; rw [ih (by omega), if_pos (show v < c by omega)]
  obtain ⟨k, k1, k2⟩ := sB_pos (g := fun u => if u < c then g u else 0) (fun v => by
    by_cases z : v < c
    · rw [if_pos z]; exact hg v z
    · rw [if_neg z]; exact ⟨0, by decide, nI_0.symm⟩) c hc
  rw [cg c (Nat.le_refl _)] at k2
  exact ⟨k, k1, k2⟩
/-- promise 18 -/
theorem m85 (C : Cp M N T) {p a b : Int32} : Ok (d + 200) M 85 [.ref 0, .int p, .int a, .int b, UN, UN, UN, UN] 166 [.ref 121, .int p, .int a, .int b] := by
  have hN := C.le
  by_cases h0 : 0 ≤ p ∧ p ≤ nI N - 1
  rotate_left
  · exact Ok.ret C (-1000000001) (fun Q => by rw [b85_0, k113, b85_5, C.n1, ite_b01, if_neg h0, b85_27]) (fun Q => by rw [b166_0, k128, b166_5, C.n2, ite_b01, if_neg h0, b166_33, b166_35])
  by_cases h1 : 1 ≤ a ∧ a ≤ 60
  rotate_left
  · exact Ok.ret C (-1000000001) (fun Q => by rw [b85_0, k113, b85_5, C.n1, ite_b01, if_pos h0, b85_8, k108, b85_15, ite_b01, if_neg h1, b85_27]) (fun Q => by rw [b166_0, k128, b166_5, C.n2, ite_b01, if_pos h0, b166_8, k162, b166_13, ite_b01, if_neg (fun z => h1 z.1), b166_33, b166_35])
  by_cases h2 : 0 ≤ b ∧ b ≤ 1
  rotate_left
  · exact Ok.ret C (-1000000001) (fun Q => by rw [b85_0, k113, b85_5, C.n1, ite_b01, if_pos h0, b85_8, k108, b85_15, ite_b01, if_pos h1, b85_18, k108, b85_24, ite_b01, if_neg h2, b85_27]) (fun Q => by rw [b166_0, k128, b166_5, C.n2, ite_b01, if_pos h0, b166_8, k162, b166_13, ite_b01, if_neg (fun z => h2 z.2), b166_33, b166_35])
  obtain ⟨p, hp, rfl⟩ := (isP (by omega)).mp h0
  have gb : ∀ v, v < 6 → bd (upd (M 122) (10 + 5 * p) (nI v)) N := fun v hv => bd_g (j := 0) C.h.B (by decide) (Or.inl ⟨rfl, v, by omega, rfl⟩)
  obtain ⟨lv, l1, l2⟩ := k115 (d := d + 198) (x := UN) C (k := 0) (v := 0) (by decide) (by decide)
  obtain ⟨M1, b', s1, s2, s3⟩ := k85_loop (d := d + 194) (S := M 122) (n := a) (w := b) hp C.h.H l2 6 0 M 0 (by omega) frK.rf (fun z => by omega) (fun v hv => talk_bd (bd_pass (gb v hv) _))
  have C1 := C.K s2
  have e122 : M1 122 = M 122 := s2 122 (by omega) (fun z => by have := scr_lt z; omega)
  have e10 : (10 : Int32) + 5 * nI p = nI (10 + 5 * p) := by rw [show (5 : Int32) = nI 5 by decide, show (10 : Int32) = nI 10 by decide, pk_mul, nI_add]
  obtain ⟨M2, t1, t2, t3⟩ := k163 (d := d + 192) (I := M1) (N := N) (T := T) (l1 := 10 + 5 * nI p) (l2 := 0) (l3 := 5) (l4 := a) (l5 := b) (c := 6) (fun v => 10 + 5 * p) (fun v => nI v) (by omega) C1.h.B C1.h.X (fun v hv => sub1_lt (c := 6) (by omega) (by omega)) (fun v hv => ⟨by rw [Int32.zero_mul, Int32.add_zero, e10], by omega, by omega⟩) (fun v hv => if_neg (by decide)) (fun v hv => by rw [e122]; exact gb v hv) (x := UN) (y := UN) (z := UN) (u := UN) rfl
  obtain ⟨q, q1, q2⟩ := sB_pos' (g := fun v => sPass (mA (M 122) 0 T) N (upd (M 122) (10 + 5 * p) (nI v)) a.toNatClampNeg 6) (c := 6) (fun v hv => talk_bd (bd_pass (gb v hv) _)) (by omega)
  refine ⟨if b = 0 then (sB (fun v => sPass (mA (M 122) 0 T) N (upd (M 122) (10 + 5 * p) (nI v)) a.toNatClampNeg 6) 6).1 else (sB (fun v => sPass (mA (M 122) 0 T) N (upd (M 122) (10 + 5 * p) (nI v)) a.toNatClampNeg 6) 6).2, M1, M2, fun Q => ?_, fun Q => ?_, ⟨N, T, C1.T t3 t2⟩, (frN.ofK s2).fz.tr (frN.ofT t3).fz⟩
  · rw [b85_0, k113, b85_5, C.n1, ite_b01, if_pos h0, b85_8, k108, b85_15, ite_b01, if_pos h1, b85_18, k108, b85_24, ite_b01, if_pos h2, b85_30, l1, b85_39m l2.lv]
    refine (s1 Q).trans ?_
    rw [b85_123m l2.lv, b85_127m l2.lv, b85_132m l2.lv, b85_134m l2.lv, b85_134m l2.lv, s3, QI (Q := Q)]
  · rw [b166_0, k128, b166_5, e122, C.n2, ite_b01, if_pos h0, b166_8, k162, b166_13, ite_b01, if_pos ⟨h1, h2⟩, b166_16, t1, b166_30, b166_35, e122, if_neg (show ¬ (sB (fun v => sPass (mA (M 122) 0 T) N (upd (M 122) (10 + 5 * p) (nI v)) a.toNatClampNeg 6) 6).1 < 0 from by rw [q2]; exact nI_pos (by omega))]
end K6
