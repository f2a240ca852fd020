/-! class and reference read alike: levels -/
def nH (L dp : Nat) : Nat := (5 - L) + 1 + 5 * (8 - dp)
def cq (dp tu : Nat) : Nat := 8 * (8 - dp) + 2 * (8 - tu) + 10
def rq (dp tu : Nat) : Nat := 6 * (8 - dp) + (8 - tu) + 10
def Pr (tp : Nat → Int32) (n key : Nat) (k : Tk) (need : Nat) (ok : Bool) (k' : Tk) (e : List Sp) : Prop :=
  okK tp n k' ∧ k.2.1 ≤ k'.2.1 ∧ (ok = true → e.length + k.2.1 ≤ k'.2.1 ∧ (∀ q, q ∈ e → okE key q) ∧ ∀ h, h + need ≤ 48 → gd (e.map (eS key)) h (h + 1))
def cR (tp : Nat → Int32) (n t key : Nat) (S : St) (M : IM) (ok : Bool) (k' : Tk) (dp tu : Nat) (o' : List Sp) : Prop :=
  ∃ M', Rn S .null M' ∧ fC t M M' ∧ (ok = true → cS tp n t key M' k' dp tu o') ∧ (ok = false → M' 41 1 = nI k'.2.1)
def rR (tp : Nat → Int32) (n at_ : Nat) (S : St) (I : IM) (ok : Bool) (k' : Tk) (dp tu : Nat) (o' : List Sp) : Prop :=
  ∃ I', Rn S (.int (bif ok then 1 else 0)) I' ∧ fR at_ I I' ∧ (ok = true → rS tp n at_ I' k' dp tu o') ∧ (ok = false → I' 121 15 = nI k'.2.1)
def Gl (tp : Nat → Int32) (n t key at_ : Nat) (cst rst : Nat → IM → St) (cN rN : Nat) (k : Tk) (need dp tu : Nat) (o : List Sp) : Prop :=
  ∃ (ok : Bool) (k' : Tk) (e : List Sp), Pr tp n key k need ok k' e ∧ (∀ (D : Nat) (M : IM), cN ≤ D → cS tp n t key M k dp tu o → cR tp n t key (cst D M) M ok k' dp tu (o ++ e)) ∧ (∀ (D : Nat) (I : IM), rN ≤ D → rS tp n at_ I k dp tu o → rR tp n at_ (rst D I) I ok k' dp tu (o ++ e))
def cL (t L : Nat) (D : Nat) (M : IM) : St := (D, 48, 0, [.ref 41, .int (nI L), .ref (48 + 3 * t), UN, UN, UN], [], M)
def cP (t : Nat) (D : Nat) (M : IM) : St := (D, 50, 0, [.ref 41, .ref (48 + 3 * t), UN], [], M)
def rX (m : Nat) (ls : List Value) (D : Nat) (I : IM) : St := (D, m, 0, ls, [], I)
/-- rows of a method of the reference that reads a level -/
def rwL (tp : Nat → Int32) (n L : Nat) (st0 sub : Nat → IM → St) (hd : Value → Nat → IM → St) (one : Bool) : Prop :=
  (∀ (D : Nat) (I I1 : IM), Rn (sub D I) (.int 0) I1 → Rn (st0 (D + 1) I) (.int 0) I1) ∧
  (∀ (D : Nat) (I I1 : IM), Rn (sub D I) (.int 1) I1 → ∀ Q : Po, E (st0 (D + 1) I) Q ↔ E (hd UN (D + 1) I1) Q) ∧
  (∀ (x : Value) (D : Nat) (I : IM) (k : Tk), k.1 ≤ 4 → tokR I tp k.1 k.2.1 k.2.2 → ¬ (k.1 = 3 ∧ lvl (tp k.2.1) = nI L) → Rn (hd x (D + 1) I) (.int 1) I) ∧
  (∀ (x : Value) (D : Nat) (I I1 I2 : IM) (k : Tk), k.1 ≤ 4 → tokR I tp k.1 k.2.1 k.2.2 → (k.1 = 3 ∧ lvl (tp k.2.1) = nI L) → Rn (D, 173, 0, [.ref 121, UN, UN], [], I) .null I1 → Rn (sub D I1) (.int 0) I2 → Rn (hd x (D + 1) I) (.int 0) I2) ∧
  (∀ (x : Value) (D : Nat) (I I1 I2 I3 : IM) (k : Tk), k.1 ≤ 4 → tokR I tp k.1 k.2.1 k.2.2 → (k.1 = 3 ∧ lvl (tp k.2.1) = nI L) → Rn (D, 173, 0, [.ref 121, UN, UN], [], I) .null I1 → Rn (sub D I1) (.int 1) I2 → Rn (D, 178, 0, [.ref 121, .int 2, .int (tp k.2.1)], [], I2) .null I3 → (one = false → ∃ y : Value, ∀ Q : Po, E (hd x (D + 1) I) Q ↔ E (hd y (D + 1) I3) Q) ∧ (one = true → Rn (hd x (D + 1) I) (.int 1) I3))
section LV
variable {tp : Nat → Int32} {n t key at_ : Nat}
theorem rw179 : rwL tp n 0 (rX 179 [.ref 121, .int (nI key)]) (rX 180 [.ref 121, .int (nI key)]) (fun _ D I => (D, 179, 10, [.ref 121, .int (nI key)], [], I)) false :=
  ⟨fun _ _ _ s _ => r179_e0 s, fun _ _ _ s _ => r179_e1 s, fun _ _ _ k h T s _ => r179_h1 (k := k) h T s, fun _ _ _ _ _ k h T s a b _ => r179_h2 (k := k) h T s a b, fun _ _ _ _ _ _ k h T s a b c => ⟨fun _ => ⟨UN, fun _ => r179_h3 (k := k) h T s a b c⟩, fun z => absurd z (by decide)⟩⟩
theorem rw180 : rwL tp n 1 (rX 180 [.ref 121, .int (nI key)]) (rX 181 [.ref 121, .int (nI key), UN]) (fun _ D I => (D, 180, 10, [.ref 121, .int (nI key)], [], I)) false :=
  ⟨fun _ _ _ s _ => r180_e0 s, fun _ _ _ s _ => r180_e1 s, fun _ _ _ k h T s _ => r180_h1 (k := k) h T s, fun _ _ _ _ _ k h T s a b _ => r180_h2 (k := k) h T s a b, fun _ _ _ _ _ _ k h T s a b c => ⟨fun _ => ⟨UN, fun _ => r180_h3 (k := k) h T s a b c⟩, fun z => absurd z (by decide)⟩⟩
theorem rw181 : rwL tp n 2 (rX 181 [.ref 121, .int (nI key), UN]) (rX 182 [.ref 121, .int (nI key), UN]) (fun x D I => (D, 181, 10, [.ref 121, .int (nI key), x], [], I)) true :=
  ⟨fun _ _ _ s _ => r181_e0 s, fun _ _ _ s _ => r181_e1 s, fun _ _ _ k h T s _ => r181_h1 (k := k) h T s, fun _ _ _ _ _ k h T s a b _ => r181_h2 (k := k) h T s a b, fun _ _ _ _ _ _ k h T s a b c => ⟨fun z => absurd z (by decide), fun _ _ => r181_h3 (k := k) h T s a b c⟩⟩
theorem rw182 : rwL tp n 3 (rX 182 [.ref 121, .int (nI key), UN]) (rX 183 [.ref 121, .int (nI key), UN]) (fun x D I => (D, 182, 10, [.ref 121, .int (nI key), x], [], I)) false :=
  ⟨fun _ _ _ s _ => r182_e0 s, fun _ _ _ s _ => r182_e1 s, fun _ _ _ k h T s _ => r182_h1 (k := k) h T s, fun _ _ _ _ _ k h T s a b _ => r182_h2 (k := k) h T s a b, fun _ _ _ _ _ _ k h T s a b c => ⟨fun _ => ⟨.int (tp k.2.1), fun _ => r182_h3 (k := k) h T s a b c⟩, fun z => absurd z (by decide)⟩⟩
theorem rw183 : rwL tp n 4 (rX 183 [.ref 121, .int (nI key), UN]) (rX 184 [.ref 121, .int (nI key)]) (fun x D I => (D, 183, 10, [.ref 121, .int (nI key), x], [], I)) false :=
  ⟨fun _ _ _ s _ => r183_e0 s, fun _ _ _ s _ => r183_e1 s, fun _ _ _ k h T s _ => r183_h1 (k := k) h T s, fun _ _ _ _ _ k h T s a b _ => r183_h2 (k := k) h T s a b, fun _ _ _ _ _ _ k h T s a b c => ⟨fun _ => ⟨.int (tp k.2.1), fun _ => r183_h3 (k := k) h T s a b c⟩, fun z => absurd z (by decide)⟩⟩
theorem gd_sg {key : Nat} {c : Int32} {L : Nat} (hL : L < 5) (h : lvl c = nI L) (x : Nat) : gd ([((2 : Int32), c)].map (eS key)) (x + 2) (x + 1) := by
  obtain ⟨h1, h2⟩ := lvl_sg hL h
  obtain ⟨s1, s2, s3⟩ := okSg_at h1
  have e : eS key (2, c) = -c := eS2
  show gd [eS key (2, c)] (x + 2) (x + 1)
  rw [e]
  refine ⟨fun _ z => absurd (s2.mp z) h2, fun _ _ => by omega, fun z => absurd s1 z, ?_⟩
  rw [if_pos s1, if_neg (fun z => h2 (s2.mp z))]
  exact rfl
/-- what the loop of a level does -/
theorem loopJ {L dp tu cN rN : Nat} {st0 sub : Nat → IM → St} {hd : Value → Nat → IM → St} (hL : L < 5) (h2 : ¬ L = 2) (hn : n ≤ 96) (ht : t < 15) (ha : at_ + 200 ≤ 3060) (hr : rwL tp n L st0 sub hd false) (c4 : 4 ≤ cN) (r4 : 4 ≤ rN)
    {w0 : Nat} (sb : ∀ (k : Tk) (o : List Sp), okK tp n k → n ≤ k.2.1 + w0 → o.length ≤ k.2.1 → Gl tp n t key at_ (cL t (L + 1)) sub cN rN k (nH (L + 1) dp) dp tu o) :
    ∀ (w : Nat) (k : Tk) (o : List Sp), okK tp n k → n ≤ k.2.1 + w0 → n ≤ k.2.1 + w → o.length ≤ k.2.1 →
      ∃ (ok : Bool) (k' : Tk) (e : List Sp), (okK tp n k' ∧ k.2.1 ≤ k'.2.1 ∧ (ok = true → e.length + k.2.1 ≤ k'.2.1 ∧ (∀ q, q ∈ e → okE key q) ∧ ∀ h, h + nH L dp ≤ 48 → gd (e.map (eS key)) (h + 1) (h + 1))) ∧
        (∀ (D i : Nat) (x : Value) (M : IM), i ≤ k.2.1 → cN ≤ D → cS tp n t key M k dp tu o → cR tp n t key (D + 1, 48, 34, [.ref 41, .int (nI L), .ref (48 + 3 * t), .int (nI 96), .int (nI i), x], [], M) M ok k' dp tu (o ++ e)) ∧
        (∀ (D : Nat) (x : Value) (I : IM), rN ≤ D → rS tp n at_ I k dp tu o → rR tp n at_ (hd x (D + 1) I) I ok k' dp tu (o ++ e)) := by
  obtain ⟨-, -, q1, q2, q3⟩ := hr
  intro w
  induction w with
  | zero =>
    intro k o K hw0 hw ho
    have z : ¬ (k.1 = 3 ∧ lvl (tp k.2.1) = nI L) := fun z => by
      have := K.2.2.2.2.2.2 (by omega)
      have := K.2.2.1
      omega
    refine ⟨true, k, [], ⟨K, Nat.le_refl _, fun _ => ⟨by show 0 + _ ≤ _; omega, fun q hq => absurd hq List.not_mem_nil, fun h _ => rfl⟩⟩, fun D i x M hi hD C => ?_, fun D x I hD R => ?_⟩
    · obtain ⟨D', rfl⟩ : ∃ D', D = D' + 1 := ⟨D - 1, by omega⟩
      exact ⟨M, fun Q => c48_1 hL hn C K z, fC.rf, fun _ => by rw [List.append_nil]; exact C, fun z => absurd z (by decide)⟩
    · exact ⟨I, q1 x D I k K.1 R.1.2.2.2.1 z, fR.rf, fun _ => by rw [List.append_nil]; exact R, fun z => absurd z (by decide)⟩
  | succ w ih =>
    intro k o K hw0 hw ho
    by_cases z : k.1 = 3 ∧ lvl (tp k.2.1) = nI L
    rotate_left
    · refine ⟨true, k, [], ⟨K, Nat.le_refl _, fun _ => ⟨by show 0 + _ ≤ _; omega, fun q hq => absurd hq List.not_mem_nil, fun h _ => rfl⟩⟩, fun D i x M hi hD C => ?_, fun D x I hD R => ?_⟩
      · obtain ⟨D', rfl⟩ : ∃ D', D = D' + 1 := ⟨D - 1, by omega⟩
        exact ⟨M, fun Q => c48_1 hL hn C K z, fC.rf, fun _ => by rw [List.append_nil]; exact C, fun z => absurd z (by decide)⟩
      · exact ⟨I, q1 x D I k K.1 R.1.2.2.2.1 z, fR.rf, fun _ => by rw [List.append_nil]; exact R, fun z => absurd z (by decide)⟩
    have ksp : k.2.2 = k.2.1 + 1 := K.2.2.2.1 z.1
    have kn : k.2.2 ≤ n := K.2.2.1
    obtain ⟨K1, p1⟩ := nx_ok (tp := tp) (n := n) (k := k) kn
    obtain ⟨ok1, k1, e1, ⟨KK, p2, P⟩, sC, sR⟩ := sb (nx tp n k) o K1 (by omega) (by omega)
    have kk1 : k1.2.1 ≤ 96 := by have := KK.2.1; have := KK.2.2.1; omega
    cases ok1 with
    | false =>
      refine ⟨false, k1, [], ⟨KK, by omega, fun z => absurd z (by decide)⟩, fun D i x M hi hD C => ?_, fun D x I hD R => ?_⟩
      · obtain ⟨D', rfl⟩ : ∃ D', D = D' + 2 := ⟨D - 2, by omega⟩
        obtain ⟨M1, s1, s2, s3⟩ := C.next (d := D') hn ht K (x := UN) (y := UN)
        obtain ⟨M2, u1, u2, -, u4⟩ := sC (D' + 2) M1 (by omega) s2
        obtain ⟨M3, v1, v2⟩ := k38a (d := D') (M := M2) ht (c := tp k.2.1)
        have f3 : M3 41 1 = nI k1.2.1 := by rw [v2 41 (by omega) (by omega)]; exact u4 rfl
        exact ⟨M3, fun Q => by rw [c48_3 (D := D' + 1) ht hn C K z (by omega) (by decide) s1 u1 v1, c48_f f3 kk1], (s3.tr u2).tr (fun c _ _ h3 h4 => v2 c h3 h4), fun z => absurd z (by decide), fun _ => f3⟩
      · obtain ⟨D', rfl⟩ : ∃ D', D = D' + 2 := ⟨D - 2, by omega⟩
        obtain ⟨I1, s1, s2, s3⟩ := R.next (d := D') hn K (fun y => by omega) (x := UN) (y := UN)
        obtain ⟨I2, u1, u2, -, u4⟩ := sR (D' + 2) I1 (by omega) s2
        exact ⟨I2, q2 x (D' + 2) I I1 I2 k K.1 R.1.2.2.2.1 z s1 u1, s3.tr u2, fun z => absurd z (by decide), fun _ => u4 rfl⟩
    | true =>
      obtain ⟨P1, P2, P3⟩ := P rfl
      have hlen : (o ++ e1 ++ [((2 : Int32), tp k.2.1)]).length ≤ k1.2.1 := by
        rw [List.length_append, List.length_append]
        show o.length + e1.length + 1 ≤ _
        omega
      have hlen2 : (o ++ e1).length < 96 := by rw [List.length_append]; omega
      obtain ⟨ok2, k2, e2, ⟨KK2, p3, PP⟩, iC, iR⟩ := ih k1 (o ++ e1 ++ [((2 : Int32), tp k.2.1)]) KK (by omega) (by omega) hlen
      have eo : o ++ e1 ++ [((2 : Int32), tp k.2.1)] ++ e2 = o ++ (e1 ++ [((2 : Int32), tp k.2.1)] ++ e2) := by rw [List.append_assoc, List.append_assoc, List.append_assoc]
      rw [eo] at iC iR
      refine ⟨ok2, k2, e1 ++ [((2 : Int32), tp k.2.1)] ++ e2, ⟨KK2, by omega, fun z2 => ?_⟩, fun D i x M hi hD C => ?_, fun D x I hD R => ?_⟩
      · obtain ⟨PP1, PP2, PP3⟩ := PP z2
        refine ⟨?_, fun q hq => ?_, fun h hh => ?_⟩
        · rw [List.length_append, List.length_append]
          show e1.length + 1 + e2.length + _ ≤ _
          omega
        · rcases List.mem_append.mp hq with hq | hq
          · rcases List.mem_append.mp hq with hq | hq
            · exact P2 q hq
            · have : q = (2, tp k.2.1) := List.mem_singleton.mp hq
              rw [this]
              exact Or.inr (Or.inr ⟨rfl, (lvl_sg hL z.2).1⟩)
          · exact PP2 q hq
        · rw [List.map_append, List.map_append]
          refine gd_ap _ _ _ (h + 1) _ (gd_ap _ _ _ (h + 2) _ (P3 (h + 1) ?_) (gd_sg hL z.2 h)) (PP3 h hh)
          unfold nH at hh ⊢
          omega
      · obtain ⟨D', rfl⟩ : ∃ D', D = D' + 2 := ⟨D - 2, by omega⟩
        obtain ⟨M1, s1, s2, s3⟩ := C.next (d := D') hn ht K (x := UN) (y := UN)
        obtain ⟨M2, u1, u2, u3, -⟩ := sC (D' + 2) M1 (by omega) s2
        obtain ⟨v1, v2, v3⟩ := (u3 rfl).sg (d := D') ht hlen2 (c := tp k.2.1)
        obtain ⟨M4, w1, w2, w3, w4⟩ := iC (D' + 2) (i + 1) (.int (tp k.2.1)) _ (by omega) (by omega) v2
        exact ⟨M4, fun Q => by rw [c48_3 (D := D' + 1) ht hn C K z (by omega) (by decide) s1 u1 v1, w1], ((s3.tr u2).tr v3).tr w2, w3, w4⟩
      · obtain ⟨D', rfl⟩ : ∃ D', D = D' + 2 := ⟨D - 2, by omega⟩
        obtain ⟨I1, s1, s2, s3⟩ := R.next (d := D') hn K (fun y => by omega) (x := UN) (y := UN)
        obtain ⟨I2, u1, u2, u3, -⟩ := sR (D' + 2) I1 (by omega) s2
        obtain ⟨I3, v1, v2, v3⟩ := (u3 rfl).sg (d := D' + 2) hlen2 ha (c := tp k.2.1)
        obtain ⟨y, hy⟩ := (q3 x (D' + 2) I I1 I2 I3 k K.1 R.1.2.2.2.1 z s1 u1 v1).1 rfl
        obtain ⟨I4, w1, w2, w3, w4⟩ := iR (D' + 2) y I3 (by omega) v2
        exact ⟨I4, fun Q => by rw [hy Q, w1 Q], ((s3.tr u2).tr v3).tr w2, w3, w4⟩
/-- a level with a loop -/
theorem levJ {L dp tu cN rN : Nat} {st0 sub : Nat → IM → St} {hd : Value → Nat → IM → St} (hL : L < 5) (h2 : ¬ L = 2) (hn : n ≤ 96) (ht : t < 15) (ha : at_ + 200 ≤ 3060) (hr : rwL tp n L st0 sub hd false) (c4 : 4 ≤ cN) (r4 : 4 ≤ rN) {w : Nat}
    (sb : ∀ (k : Tk) (o : List Sp), okK tp n k → n ≤ k.2.1 + w → o.length ≤ k.2.1 → Gl tp n t key at_ (cL t (L + 1)) sub cN rN k (nH (L + 1) dp) dp tu o) (k : Tk) (o : List Sp) (K : okK tp n k) (hw : n ≤ k.2.1 + w) (ho : o.length ≤ k.2.1) :
    Gl tp n t key at_ (cL t L) st0 (cN + 1) (rN + 1) k (nH L dp) dp tu o := by
  obtain ⟨ok1, k1, e1, ⟨KK, p2, P⟩, sC, sR⟩ := sb k o K hw ho
  have kk1 : k1.2.1 ≤ 96 := by have := KK.2.1; have := KK.2.2.1; omega
  cases ok1 with
  | false =>
    refine ⟨false, k1, [], ⟨KK, p2, fun z => absurd z (by decide)⟩, fun D M hD C => ?_, fun D I hD R => ?_⟩
    · obtain ⟨D', rfl⟩ : ∃ D', D = D' + 1 := ⟨D - 1, by omega⟩
      obtain ⟨M1, u1, u2, -, u4⟩ := sC D' M (by omega) C
      exact ⟨M1, fun Q => by unfold cL; rw [c48_e hL u1, c48_f (u4 rfl) kk1], u2, fun z => absurd z (by decide), fun _ => u4 rfl⟩
    · obtain ⟨D', rfl⟩ : ∃ D', D = D' + 1 := ⟨D - 1, by omega⟩
      obtain ⟨I1, u1, u2, -, u4⟩ := sR D' I (by omega) R
      exact ⟨I1, hr.1 D' I I1 u1, u2, fun z => absurd z (by decide), fun _ => u4 rfl⟩
  | true =>
    obtain ⟨P1, P2, P3⟩ := P rfl
    obtain ⟨ok2, k2, e2, ⟨KK2, p3, PP⟩, iC, iR⟩ := loopJ (key := key) hL h2 hn ht ha hr c4 r4 sb w k1 (o ++ e1) KK (by omega) (by omega) (by rw [List.length_append]; omega)
    rw [List.append_assoc] at iC iR
    refine ⟨ok2, k2, e1 ++ e2, ⟨KK2, by omega, fun z2 => ?_⟩, fun D M hD C => ?_, fun D I hD R => ?_⟩
    · obtain ⟨PP1, PP2, PP3⟩ := PP z2
      refine ⟨by rw [List.length_append]; omega, fun q hq => (List.mem_append.mp hq).elim (P2 q) (PP2 q), fun h hh => ?_⟩
      rw [List.map_append]
      refine gd_ap _ _ _ (h + 1) _ (P3 h ?_) (PP3 h hh)
      unfold nH at hh ⊢
      omega
    · obtain ⟨D', rfl⟩ : ∃ D', D = D' + 1 := ⟨D - 1, by omega⟩
      obtain ⟨M1, u1, u2, u3, -⟩ := sC D' M (by omega) C
      obtain ⟨M2, w1, w2, w3, w4⟩ := iC D' 0 UN M1 (Nat.zero_le _) (by omega) (u3 rfl)
      refine ⟨M2, fun Q => ?_, u2.tr w2, w3, w4⟩
      have := c48_e (Q := Q) hL u1
      rw [if_neg h2] at this
      unfold cL
      rw [this, w1 Q]
    · obtain ⟨D', rfl⟩ : ∃ D', D = D' + 1 := ⟨D - 1, by omega⟩
      obtain ⟨I1, u1, u2, u3, -⟩ := sR D' I (by omega) R
      obtain ⟨I2, w1, w2, w3, w4⟩ := iR D' UN I1 (by omega) (u3 rfl)
      exact ⟨I2, fun Q => by rw [hr.2.1 D' I I1 u1 Q, w1 Q], u2.tr w2, w3, w4⟩
/-- the level of tests -/
theorem levT {dp tu cN rN : Nat} {st0 sub : Nat → IM → St} {hd : Value → Nat → IM → St} (hn : n ≤ 96) (ht : t < 15) (ha : at_ + 200 ≤ 3060) (hr : rwL tp n 2 st0 sub hd true) (c4 : 4 ≤ cN) (r4 : 4 ≤ rN) {w : Nat}
    (sb : ∀ (k : Tk) (o : List Sp), okK tp n k → n ≤ k.2.1 + w → o.length ≤ k.2.1 → Gl tp n t key at_ (cL t 3) sub cN rN k (nH 3 dp) dp tu o) (k : Tk) (o : List Sp) (K : okK tp n k) (hw : n ≤ k.2.1 + w) (ho : o.length ≤ k.2.1) :
    Gl tp n t key at_ (cL t 2) st0 (cN + 1) (rN + 1) k (nH 2 dp) dp tu o := by
  obtain ⟨ok1, k1, e1, ⟨KK, p2, P⟩, sC, sR⟩ := sb k o K hw ho
  have kk1 : k1.2.1 ≤ 96 := by have := KK.2.1; have := KK.2.2.1; omega
  have hL : 2 < 5 := by decide
  have ce : ∀ {D : Nat} {M M1 : IM} {Q : Po}, Rn (cL t 3 D M) .null M1 → (E (cL t 2 (D + 1) M) Q ↔ E (D + 1, 48, 34, [.ref 41, .int (nI 2), .ref (48 + 3 * t), .int (nI 1), .int (nI 0), UN], [], M1) Q) := fun s => c48_e (L := 2) hL s
  cases ok1 with
  | false =>
    refine ⟨false, k1, [], ⟨KK, p2, fun z => absurd z (by decide)⟩, fun D M hD C => ?_, fun D I hD R => ?_⟩
    · obtain ⟨D', rfl⟩ : ∃ D', D = D' + 1 := ⟨D - 1, by omega⟩
      obtain ⟨M1, u1, u2, -, u4⟩ := sC D' M (by omega) C
      exact ⟨M1, fun Q => by rw [ce u1, c48_f (u4 rfl) kk1], u2, fun z => absurd z (by decide), fun _ => u4 rfl⟩
    · obtain ⟨D', rfl⟩ : ∃ D', D = D' + 1 := ⟨D - 1, by omega⟩
      obtain ⟨I1, u1, u2, -, u4⟩ := sR D' I (by omega) R
      exact ⟨I1, hr.1 D' I I1 u1, u2, fun z => absurd z (by decide), fun _ => u4 rfl⟩
  | true =>
    obtain ⟨-, q0, q1, q2, q3⟩ := hr
    obtain ⟨P1, P2, P3⟩ := P rfl
    by_cases z : k1.1 = 3 ∧ lvl (tp k1.2.1) = nI 2
    rotate_left
    · refine ⟨true, k1, e1, ⟨KK, p2, fun _ => ⟨P1, P2, fun h hh => P3 h (by unfold nH at hh ⊢; omega)⟩⟩, fun D M hD C => ?_, fun D I hD R => ?_⟩
      · obtain ⟨D', rfl⟩ : ∃ D', D = D' + 2 := ⟨D - 2, by omega⟩
        obtain ⟨M1, u1, u2, u3, -⟩ := sC (D' + 1) M (by omega) C
        exact ⟨M1, fun Q => by rw [ce u1, c48_1 hL hn (u3 rfl) KK z], u2, u3, fun z => absurd z (by decide)⟩
      · obtain ⟨D', rfl⟩ : ∃ D', D = D' + 1 := ⟨D - 1, by omega⟩
        obtain ⟨I1, u1, u2, u3, -⟩ := sR D' I (by omega) R
        exact ⟨I1, fun Q => by rw [q0 D' I I1 u1 Q, q1 UN D' I1 k1 KK.1 (u3 rfl).1.2.2.2.1 z Q]; exact Iff.rfl, u2, u3, fun z => absurd z (by decide)⟩
    have ksp : k1.2.2 = k1.2.1 + 1 := KK.2.2.2.1 z.1
    have kn : k1.2.2 ≤ n := KK.2.2.1
    obtain ⟨K1, p1⟩ := nx_ok (tp := tp) (n := n) (k := k1) kn
    have ho1 : (o ++ e1).length ≤ k1.2.1 := by rw [List.length_append]; omega
    obtain ⟨ok2, k2, e2, ⟨KK2, p3, PP⟩, iC, iR⟩ := sb (nx tp n k1) (o ++ e1) K1 (by omega) (by omega)
    have kk2 : k2.2.1 ≤ 96 := by have := KK2.2.1; have := KK2.2.2.1; omega
    cases ok2 with
    | false =>
      refine ⟨false, k2, [], ⟨KK2, by omega, fun z => absurd z (by decide)⟩, fun D M hD C => ?_, fun D I hD R => ?_⟩
      · obtain ⟨D', rfl⟩ : ∃ D', D = D' + 3 := ⟨D - 3, by omega⟩
        obtain ⟨M1, u1, u2, u3, -⟩ := sC (D' + 2) M (by omega) C
        obtain ⟨M2, s1, s2, s3⟩ := (u3 rfl).next (d := D') hn ht KK (x := UN) (y := UN)
        obtain ⟨M3, w1, w2, -, w4⟩ := iC (D' + 2) M2 (by omega) s2
        obtain ⟨M4, v1, v2⟩ := k38a (d := D') (M := M3) ht (c := tp k1.2.1)
        have f3 : M4 41 1 = nI k2.2.1 := by rw [v2 41 (by omega) (by omega)]; exact w4 rfl
        exact ⟨M4, fun Q => by rw [ce u1, c48_3 (D := D' + 1) ht hn (u3 rfl) KK z (by decide) (by decide) s1 w1 v1, c48_f f3 kk2], ((u2.tr s3).tr w2).tr (fun c _ _ h3 h4 => v2 c h3 h4), fun z => absurd z (by decide), fun _ => f3⟩
      · obtain ⟨D', rfl⟩ : ∃ D', D = D' + 3 := ⟨D - 3, by omega⟩
        obtain ⟨I1, u1, u2, u3, -⟩ := sR (D' + 2) I (by omega) R
        obtain ⟨I2, s1, s2, s3⟩ := (u3 rfl).next (d := D') hn KK (fun y => by omega) (x := UN) (y := UN)
        obtain ⟨I3, w1, w2, -, w4⟩ := iR (D' + 2) I2 (by omega) s2
        exact ⟨I3, fun Q => by rw [q0 (D' + 2) I I1 u1 Q, q2 UN (D' + 2) I1 I2 I3 k1 KK.1 (u3 rfl).1.2.2.2.1 z s1 w1 Q]; exact Iff.rfl, (u2.tr s3).tr w2, fun z => absurd z (by decide), fun _ => w4 rfl⟩
    | true =>
      obtain ⟨PP1, PP2, PP3⟩ := PP rfl
      have hlen2 : (o ++ e1 ++ e2).length < 96 := by rw [List.length_append]; omega
      have eo : o ++ e1 ++ e2 ++ [((2 : Int32), tp k1.2.1)] = o ++ (e1 ++ e2 ++ [((2 : Int32), tp k1.2.1)]) := by rw [List.append_assoc, List.append_assoc, List.append_assoc]
      refine ⟨true, k2, e1 ++ e2 ++ [((2 : Int32), tp k1.2.1)], ⟨KK2, by omega, fun _ => ⟨?_, fun q hq => ?_, fun h hh => ?_⟩⟩, fun D M hD C => ?_, fun D I hD R => ?_⟩
      · rw [List.length_append, List.length_append]
        show e1.length + e2.length + 1 + _ ≤ _
        omega
      · rcases List.mem_append.mp hq with hq | hq
        · exact (List.mem_append.mp hq).elim (P2 q) (PP2 q)
        · have : q = (2, tp k1.2.1) := List.mem_singleton.mp hq
          rw [this]
          exact Or.inr (Or.inr ⟨rfl, (lvl_sg hL z.2).1⟩)
      · rw [List.map_append, List.map_append]
        refine gd_ap _ _ _ (h + 2) _ (gd_ap _ _ _ (h + 1) _ (P3 h ?_) (PP3 (h + 1) ?_)) (gd_sg hL z.2 h)
        · unfold nH at hh ⊢; omega
        · unfold nH at hh ⊢; omega
      · obtain ⟨D', rfl⟩ : ∃ D', D = D' + 3 := ⟨D - 3, by omega⟩
        obtain ⟨M1, u1, u2, u3, -⟩ := sC (D' + 2) M (by omega) C
        obtain ⟨M2, s1, s2, s3⟩ := (u3 rfl).next (d := D') hn ht KK (x := UN) (y := UN)
        obtain ⟨M3, w1, w2, w3, -⟩ := iC (D' + 2) M2 (by omega) s2
        obtain ⟨v1, v2, v3⟩ := (w3 rfl).sg (d := D') ht hlen2 (c := tp k1.2.1)
        rw [eo] at v2
        exact ⟨_, fun Q => by rw [ce u1, c48_3 (D := D' + 1) ht hn (u3 rfl) KK z (by decide) (by decide) s1 w1 v1, c48_m (by decide) (by decide)], ((u2.tr s3).tr w2).tr v3, fun _ => v2, fun z => absurd z (by decide)⟩
      · obtain ⟨D', rfl⟩ : ∃ D', D = D' + 3 := ⟨D - 3, by omega⟩
        obtain ⟨I1, u1, u2, u3, -⟩ := sR (D' + 2) I (by omega) R
        obtain ⟨I2, s1, s2, s3⟩ := (u3 rfl).next (d := D') hn KK (fun y => by omega) (x := UN) (y := UN)
        obtain ⟨I3, w1, w2, w3, -⟩ := iR (D' + 2) I2 (by omega) s2
        obtain ⟨I4, v1, v2, v3⟩ := (w3 rfl).sg (d := D' + 2) hlen2 ha (c := tp k1.2.1)
        rw [eo] at v2
        exact ⟨I4, fun Q => by rw [q0 (D' + 2) I I1 u1 Q, (q3 UN (D' + 2) I1 I2 I3 I4 k1 KK.1 (u3 rfl).1.2.2.2.1 z s1 w1 v1).2 rfl Q]; exact Iff.rfl, ((u2.tr s3).tr w2).tr v3, fun _ => v2, fun z => absurd z (by decide)⟩
end LV
