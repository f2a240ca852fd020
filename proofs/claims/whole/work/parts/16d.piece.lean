/-! class and reference read alike: a piece, and all -/
section PC
variable {tp : Nat → Int32} {n t key at_ : Nat}
theorem k44 {d : Nat} {M : IM} {Q : Po} (h : M 41 1 = -1) : E (d, 44, 0, [.ref 41], [], M) Q ↔ Q .null (up M 41 1 (M 42 3)) := by
  rw [b44_0, h, if_pos (by decide), b44_7, b44_18]
theorem k44f {d f : Nat} {M : IM} {Q : Po} (h : M 41 1 = nI f) (hf : f ≤ 96) : E (d, 44, 0, [.ref 41], [], M) Q ↔ Q .null M := by
  rw [b44_0, h, if_neg (nI_pos (by omega)), b44_18]
/-- up to the name -/
theorem p50 {D dp tu : Nat} {M : IM} {k : Tk} {o : List Sp} {Q : Po} {x : Value} (hk : key < 3) (ht : t < 15) (hn : n ≤ 96) (C : cS tp n t key M k dp tu o) (K : okK tp n k) :
    (k.1 = 1 ∧ k.2.2 - k.2.1 = 1 ∧ okNm (nI key) (tp k.2.1) → (E (D + 6, 50, 0, [.ref 41, .ref (48 + 3 * t), x], [], M) Q ↔ E (D + 6, 50, 27, [.ref 41, .ref (48 + 3 * t), .int (nmIx (nI key) (tp k.2.1))], [], M) Q)) ∧
    (¬ (k.1 = 1 ∧ k.2.2 - k.2.1 = 1 ∧ okNm (nI key) (tp k.2.1)) → (E (D + 6, 50, 0, [.ref 41, .ref (48 + 3 * t), x], [], M) Q ↔ E (D + 6, 50, 42, [.ref 41, .ref (48 + 3 * t), .int (-1)], [], M) Q)) := by
  have pre : E (D + 6, 50, 0, [.ref 41, .ref (48 + 3 * t), x], [], M) Q ↔ E (D + 6, 50, 22, [.ref 41, .ref (48 + 3 * t), x], [.int (if k.1 = 1 ∧ k.2.2 - k.2.1 = 1 then fnd (3 + key) (tp k.2.1) (aStrBy (3 + key)).length 0 else -1)], M) Q := by
    rw [b50_0, C.2.1.1, if_pos (by decide), b50_8 (lw0 ht).1, C.2.2.1, k47 hk, b50_19, show 1013 + key = 1010 + (3 + key) by omega, k66 (tp := tp) (n := n) (so := k.1) (st := k.2.1) (sp := k.2.2) (by omega) hn C.1.2.1 K.1 C.1.2.2.1 C.1.2.2.2.1 K.2.1 K.2.2.1 C.1.2.2.2.2 (fun z => ⟨by have := K.2.2.2.2.2.2 (by omega); have := K.2.2.1; omega, K.2.2.2.2.1 z⟩)]
  obtain ⟨f1, f2⟩ := fnd_nm hk (tp k.2.1)
  refine ⟨fun z => ?_, fun z => ?_⟩
  · obtain ⟨g1, g2⟩ := f1 z.2.2
    rw [pre, if_pos ⟨z.1, z.2.1⟩, g1, b50_22, if_neg g2]
  · rw [pre, b50_22]
    by_cases y : k.1 = 1 ∧ k.2.2 - k.2.1 = 1
    · rw [if_pos y, f2 (fun w => z ⟨y.1, y.2, w⟩), if_pos (by decide)]
    · rw [if_neg y, if_pos (by decide)]
theorem gd_1 {s : Int32} (h0 : ¬ s < -4) {h : Nat} (hh : h < 48) : gd [s] h (h + 1) := by
  refine ⟨fun z => absurd z h0, fun z => absurd z h0, fun _ => hh, ?_⟩
  rw [if_neg h0]
  exact rfl
theorem nI_g4 {v : Nat} (h : v ≤ 9999) : ¬ nI v < -4 := by
  intro z
  have := Int32.lt_iff_toInt_lt.mp z
  rw [nI_toInt (by omega), show (-4 : Int32).toInt = -4 by decide] at this
  omega
/-- a piece -/
theorem pieceJ {dp tu : Nat} (hk : key < 3) (hn : n ≤ 96) (ht : t < 15) (ha : at_ + 200 ≤ 3060) (hd : dp ≤ 8) (hu : tu ≤ 8) (k : Tk) (o : List Sp) (K : okK tp n k) (ho : o.length ≤ k.2.1)
    (i0 : ∀ (k' : Tk), okK tp n k' → k.2.1 < k'.2.1 → dp < 8 → Gl tp n t key at_ (cL t 0) (rX 179 [.ref 121, .int (nI key)]) (cq (dp + 1) tu + 6) (rq (dp + 1) tu + 5) k' (nH 0 (dp + 1)) (dp + 1) tu o)
    (iP : ∀ (k' : Tk), okK tp n k' → k.2.1 < k'.2.1 → tu < 8 → Gl tp n t key at_ (cP t) (rX 184 [.ref 121, .int (nI key)]) (cq dp (tu + 1)) (rq dp (tu + 1)) k' (nH 5 dp) dp (tu + 1) o) :
    Gl tp n t key at_ (cP t) (rX 184 [.ref 121, .int (nI key)]) (cq dp tu) (rq dp tu) k (nH 5 dp) dp tu o := by
  have k96 : k.2.2 ≤ 96 := by have := K.2.2.1; omega
  have kn := K.2.2.1
  have kse := K.2.1
  have klt := K.2.2.2.2.2.2
  have cq0 : 10 ≤ cq dp tu := by unfold cq; omega
  have rq0 : 10 ≤ rq dp tu := by unfold rq; omega
  obtain ⟨K1, p1⟩ := nx_ok (tp := tp) (n := n) (k := k) kn
  -- rows of the class
  have c42 : ∀ {D : Nat} {M : IM} {Q : Po}, cS tp n t key M k dp tu o → (E (D + 6, 50, 42, [.ref 41, .ref (48 + 3 * t), .int (-1)], [], M) Q ↔ if k.1 = 2 ∧ k.2.2 - k.2.1 ≤ 4 then E (D + 6, 50, 52, [.ref 41, .ref (48 + 3 * t), .int (-1)], [], M) Q else E (D + 6, 50, 80, [.ref 41, .ref (48 + 3 * t), .int (-1)], [.int (if k.1 = 3 then tp k.2.1 else -1)], M) Q) := fun {D M Q} C => by
    rw [b50_42, k64 C.1.2.1 K.1 C.1.2.2.1 C.1.2.2.2.1 kse k96, b50_49, ite_b01, b50_73, k62c hn C K]
  have c80 : ∀ {D : Nat} {M : IM} {Q : Po}, cS tp n t key M k dp tu o → (E (D + 6, 50, 80, [.ref 41, .ref (48 + 3 * t), .int (-1)], [.int (if k.1 = 3 then tp k.2.1 else -1)], M) Q ↔ if (if k.1 = 3 then tp k.2.1 else -1) = 33 then (if nI tu < 8 then E (D + 6, 50, 94, [.ref 41, .ref (48 + 3 * t), .int (-1)], [], M) Q else E (D + 6, 50, 102, [.ref 41, .ref (48 + 3 * t), .int (-1)], [], M) Q) else E (D + 6, 50, 102, [.ref 41, .ref (48 + 3 * t), .int (-1)], [], M) Q) := fun {D M Q} C => by
    rw [b50_80, b50_85, C.2.1.2.2]
  have c102 : ∀ {D : Nat} {M : IM} {Q : Po}, cS tp n t key M k dp tu o → (E (D + 6, 50, 102, [.ref 41, .ref (48 + 3 * t), .int (-1)], [], M) Q ↔ if (if k.1 = 3 then tp k.2.1 else -1) = 40 then (if nI dp < 8 then E (D + 6, 50, 123, [.ref 41, .ref (48 + 3 * t), .int (-1)], [], M) Q else Q .null (up M 41 1 (nI k.2.1))) else Q .null (up M 41 1 (nI k.2.1))) := fun {D M Q} C => by
    rw [b50_102, k62c hn C K, b50_109, b50_114, C.2.1.2.1, b50_131, k44 C.2.1.1, C.1.2.2.1, b50_135]
  -- rows of the reference
  have r84 : ∀ {D : Nat} {I : IM} {Q : Po}, rS tp n at_ I k dp tu o → ¬ (k.1 = 2 ∧ k.2.2 - k.2.1 ≤ 4) → ¬ (k.1 = 1 ∧ k.2.2 - k.2.1 = 1 ∧ okNm (nI key) (tp k.2.1)) → (E (D + 1, 184, 0, [.ref 121, .int (nI key)], [], I) Q ↔ E (D + 1, 184, 84, [.ref 121, .int (nI key)], [], I) Q) := fun {D I Q} R z1 z2 => by
    have kk := tk K.1 R.1.2.2.2.1
    rw [b184_0, if_neg (fun z => z1 (kk.2.2.2.mp z)), b184_33]
    by_cases y : k.1 = 1
    · have l19 := (R.1.2.2.2.1.2.1 y).2
      rw [if_pos (kk.2.1.mpr y), b184_41, l19]
      by_cases y2 : k.2.2 - k.2.1 = 1
      · have hl := (tyV_1 _).mp (K.2.2.2.2.1 y)
        have h0 : ¬ tp k.2.1 = 0 := fun e => by rw [e] at hl; exact absurd hl.1 (by decide)
        rw [if_pos y2, if_neg h0, b184_48, l19, if_pos y2, k177f hk (fun w => z2 ⟨y, y2, w⟩), b184_56, if_pos rfl]
      · rw [if_neg y2, if_pos rfl]
    · rw [if_neg (fun z => y (kk.2.1.mp z))]
  have r145 : ∀ {D : Nat} {I : IM} {Q : Po}, rS tp n at_ I k dp tu o → (E (D + 1, 184, 84, [.ref 121, .int (nI key)], [], I) Q ↔ if k.1 = 3 ∧ tp k.2.1 = 33 then (if nI tu < 8 then E (D + 1, 184, 102, [.ref 121, .int (nI key)], [], I) Q else E (D + 1, 184, 145, [.ref 121, .int (nI key)], [], I) Q) else E (D + 1, 184, 145, [.ref 121, .int (nI key)], [], I) Q) := fun {D I Q} R => by
    rw [b184_84, k174 K.1 R.1.2.2.2.1, b184_90, ite_b01, b184_93, R.2.1.2]
  have r163 : ∀ {D : Nat} {I : IM} {Q : Po}, rS tp n at_ I k dp tu o → (E (D + 1, 184, 145, [.ref 121, .int (nI key)], [], I) Q ↔ if k.1 = 3 ∧ tp k.2.1 = 40 then (if nI dp = 8 then Q (.int 0) I else E (D + 1, 184, 165, [.ref 121, .int (nI key)], [], I) Q) else Q (.int 0) I) := fun {D I Q} R => by
    rw [b184_145, k174 K.1 R.1.2.2.2.1, b184_151, ite_b01, b184_154, R.2.1.1, b184_163]
  by_cases zA : k.1 = 2 ∧ k.2.2 - k.2.1 ≤ 4
  · -- a number
    have nB : ¬ (k.1 = 1 ∧ k.2.2 - k.2.1 = 1 ∧ okNm (nI key) (tp k.2.1)) := fun z => by omega
    obtain ⟨v, v1, v2⟩ := num_bd (tp := tp) (st := k.2.1) (k.2.2 - k.2.1) zA.2 (K.2.2.2.2.2.1 zA.1)
    have v3 : v ≤ 9999 := by
      have : 10 ^ (k.2.2 - k.2.1) ≤ 10 ^ 4 := Nat.pow_le_pow_right (by decide) zA.2
      have e4 : 10 ^ 4 = 10000 := by decide
      omega
    have lt1 : k.2.1 < k.2.2 := klt (by omega)
    have om : o.length < 96 := by omega
    refine ⟨true, nx tp n k, [((0 : Int32), nI v)], ⟨K1, by omega, fun _ => ⟨by show 1 + _ ≤ _; omega, fun q hq => ?_, fun h hh => ?_⟩⟩, fun D M hD C => ?_, fun D I hD R => ?_⟩
    · rw [List.mem_singleton.mp hq]; exact Or.inl ⟨rfl, v, v3, rfl⟩
    · show gd [eS key (0, nI v)] h (h + 1)
      rw [eS0]
      exact gd_1 (nI_g4 v3) (by unfold nH at hh; omega)
    · obtain ⟨D', rfl⟩ : ∃ D', D = D' + 6 := ⟨D - 6, by omega⟩
      obtain ⟨M1, a1, a2, a3⟩ := C.nu (d := D' + 3) ht om (v := nI v)
      obtain ⟨M2, b1, b2, b3⟩ := a2.next (d := D' + 3) hn ht K (x := UN) (y := UN)
      refine ⟨M2, fun Q => ?_, a3.tr b3, fun _ => b2, fun z => absurd z (by decide)⟩
      unfold cP
      rw [(p50 hk ht hn C K).2 nB, c42 C, if_pos zA, b50_52, k65 (tp := tp) (n := n) kse kn hn C.1.2.2.1 C.1.2.2.2.1 C.1.2.2.2.2, v2, b50_60 (lw0 ht).1, a1, b50_63, b1, b50_70, b50_135]
    · obtain ⟨D', rfl⟩ : ∃ D', D = D' + 3 := ⟨D - 3, by omega⟩
      obtain ⟨I1, a1, a2, a3, a4⟩ := R.st (d := D' + 2) om ha (q := (0, nI v)) rfl rfl
      have ao := a2 (lvs o + 1) (by rw [lvs_ap]; rfl)
      obtain ⟨I2, b1, b2, b3⟩ := ao.next (d := D') hn K (fun _ => zA.2) (x := UN) (y := UN)
      refine ⟨I2, fun Q => ?_, (a4.tr (fR.w1 (by decide))).tr b3, fun _ => b2, fun z => absurd z (by decide)⟩
      have kk := tk K.1 R.1.2.2.2.1
      unfold rX
      rw [b184_0, if_pos (kk.2.2.2.mpr zA), b184_8, ((R.1.2.2.2.1.2.2.1 zA.1).1 zA.2).2, v2, a1, b184_17, a3, nI_1, b1, b184_31]
      exact Iff.rfl
  by_cases zB : k.1 = 1 ∧ k.2.2 - k.2.1 = 1 ∧ okNm (nI key) (tp k.2.1)
  · -- a name
    have lt1 : k.2.1 < k.2.2 := klt (by omega)
    have om : o.length < 96 := by omega
    refine ⟨true, nx tp n k, [((1 : Int32), tp k.2.1)], ⟨K1, by omega, fun _ => ⟨by show 1 + _ ≤ _; omega, fun q hq => ?_, fun h hh => ?_⟩⟩, fun D M hD C => ?_, fun D I hD R => ?_⟩
    · rw [List.mem_singleton.mp hq]; exact Or.inr (Or.inl ⟨rfl, zB.2.2⟩)
    · show gd [eS key (1, tp k.2.1)] h (h + 1)
      rw [eS1]
      exact gd_1 (nm_ge zB.2.2) (by unfold nH at hh; omega)
    · obtain ⟨D', rfl⟩ : ∃ D', D = D' + 6 := ⟨D - 6, by omega⟩
      obtain ⟨M1, a1, a2, a3⟩ := C.na (d := D' + 3) ht om (v := tp k.2.1) rfl
      obtain ⟨M2, b1, b2, b3⟩ := a2.next (d := D' + 3) hn ht K (x := UN) (y := UN)
      refine ⟨M2, fun Q => ?_, a3.tr b3, fun _ => b2, fun z => absurd z (by decide)⟩
      unfold cP
      rw [(p50 hk ht hn C K).1 zB, b50_27 (lw0 ht).1, a1, b50_32, b1, b50_39, b50_135]
    · obtain ⟨D', rfl⟩ : ∃ D', D = D' + 3 := ⟨D - 3, by omega⟩
      obtain ⟨I1, a1, a2, a3, a4⟩ := R.st (d := D' + 2) om ha (q := (1, tp k.2.1)) rfl rfl
      have ao := a2 (lvs o + 1) (by rw [lvs_ap]; rfl)
      obtain ⟨I2, b1, b2, b3⟩ := ao.next (d := D') hn K (fun y => by omega) (x := UN) (y := UN)
      refine ⟨I2, fun Q => ?_, (a4.tr (fR.w1 (by decide))).tr b3, fun _ => b2, fun z => absurd z (by decide)⟩
      have kk := tk K.1 R.1.2.2.2.1
      have l19 := (R.1.2.2.2.1.2.1 zB.1).2
      rw [if_pos zB.2.1] at l19
      have hl := (tyV_1 _).mp (K.2.2.2.2.1 zB.1)
      have h0 : ¬ tp k.2.1 = 0 := fun e => by rw [e] at hl; exact absurd hl.1 (by decide)
      unfold rX
      rw [b184_0, if_neg (fun z => zA (kk.2.2.2.mp z)), b184_33, if_pos (kk.2.1.mpr zB.1), b184_41, l19, if_neg h0, b184_48, l19, k177t hk zB.2.2, b184_56, if_neg (by decide), b184_59, l19, a1, b184_68, a3, nI_1, b1, b184_82]
      exact Iff.rfl
  by_cases zC : k.1 = 3 ∧ tp k.2.1 = 33 ∧ tu < 8
  · -- not
    have lt1 : k.2.1 < k.2.2 := klt (by omega)
    obtain ⟨ok, k', e, ⟨KK, p2, P⟩, sC, sR⟩ := iP (nx tp n k) K1 (by omega) zC.2.2
    have kk1 : k'.2.1 ≤ 96 := by have := KK.2.1; have := KK.2.2.1; omega
    have s33 : (if k.1 = 3 then tp k.2.1 else -1) = 33 := by rw [if_pos zC.1]; exact zC.2.1
    have t8 : nI tu < 8 := show nI tu < nI 8 from nI_lt zC.2.2 (by decide)
    have cI : ∀ (D : Nat) (M : IM), cq dp tu ≤ D → cS tp n t key M k dp tu o → ∃ (D' : Nat) (M1 M2 : IM), D = D' + 6 ∧ fC t M M1 ∧ fC t M1 M2 ∧ (ok = true → cS tp n t key M2 k' dp (tu + 1) (o ++ e)) ∧ (ok = false → M2 41 1 = nI k'.2.1) ∧ ∀ Q : Po, E (cP t D M) Q ↔ E (D' + 5, 51, 22, [.ref 41, .ref (48 + 3 * t)], [], M2) (fun r I' => E (D' + 6, 50, 99, [.ref 41, .ref (48 + 3 * t), .int (-1)], [], I') Q) := fun D M hD C => by
      obtain ⟨D', rfl⟩ : ∃ D', D = D' + 6 := ⟨D - 6, by omega⟩
      obtain ⟨M1, b1, b2, b3⟩ := (C.tu' ht (v := nI tu + 1) (x := tu + 1) (nI_1 tu)).next (d := D' + 2) hn ht K (x := UN) (y := UN)
      obtain ⟨M2, u1, u2, u3, u4⟩ := sC (D' + 4) M1 (by unfold cq at hD ⊢; omega) b2
      refine ⟨D', M1, M2, rfl, (fC.wr (Or.inl rfl)).tr b3, u2, u3, u4, fun Q => ?_⟩
      have u1' : Rn (D' + 4, 50, 0, [.ref 41, .ref (48 + 3 * t), UN], [], M1) .null M2 := u1
      unfold cP
      rw [(p50 hk ht hn C K).2 zB, c42 C, if_neg zA, c80 C, if_pos s33, if_pos t8, b50_94, b51_0, C.2.1.2.2, b1, b51_17, u1']
    have rI : ∀ (D : Nat) (I : IM), rq dp tu ≤ D → rS tp n at_ I k dp tu o → ∃ (D' : Nat) (I1 I2 : IM), D = D' + 3 ∧ fR at_ I I1 ∧ fR at_ I1 I2 ∧ (ok = true → rS tp n at_ I2 k' dp (tu + 1) (o ++ e)) ∧ (ok = false → I2 121 15 = nI k'.2.1) ∧ ∀ Q : Po, E (rX 184 [.ref 121, .int (nI key)] D I) Q ↔ E (D' + 3, 184, 121, [.ref 121, .int (nI key)], [.int (bif ok then 1 else 0)], I2) Q := fun D I hD R => by
      obtain ⟨D', rfl⟩ : ∃ D', D = D' + 3 := ⟨D - 3, by omega⟩
      obtain ⟨I1, b1, b2, b3⟩ := (R.tu' (v := nI tu + 1) (x := tu + 1) (nI_1 tu)).next (d := D') hn K (fun y => by omega) (x := UN) (y := UN)
      obtain ⟨I2, u1, u2, u3, u4⟩ := sR (D' + 2) I1 (by unfold rq at hD ⊢; omega) b2
      refine ⟨D', I1, I2, rfl, (fR.w1 (by decide)).tr b3, u2, u3, u4, fun Q => ?_⟩
      have u1' : Rn (D' + 2, 184, 0, [.ref 121, .int (nI key)], [], I1) (.int (bif ok then 1 else 0)) I2 := u1
      unfold rX
      rw [r84 R zA zB, r145 R, if_pos ⟨zC.1, zC.2.1⟩, if_pos t8, b184_102, R.2.1.2, b1, b184_116, u1']
    cases ok with
    | false =>
      refine ⟨false, k', [], ⟨KK, by omega, fun z => absurd z (by decide)⟩, fun D M hD C => ?_, fun D I hD R => ?_⟩
      · obtain ⟨D', M1, M2, rfl, f1, f2, -, f4, f5⟩ := cI D M hD C
        obtain ⟨M3, v1, v2⟩ := k38a (d := D' + 2) (M := M2) ht (c := 33)
        refine ⟨_, fun Q => by rw [f5 Q, b51_22 (lw0 ht).1, v1, b51_28, b50_99, b50_135], ((f1.tr f2).tr (fun c _ _ h3 h4 => v2 c h3 h4)).tr (fC.wr (Or.inl rfl)), fun z => absurd z (by decide), fun _ => ?_⟩
        rw [up_k (by decide), v2 41 (by omega) (by omega)]
        exact f4 rfl
      · obtain ⟨D', I1, I2, rfl, f1, f2, -, f4, f5⟩ := rI D I hD R
        exact ⟨I2, fun Q => by rw [f5 Q]; show E (D' + 3, 184, 121, [.ref 121, .int (nI key)], [.int 0], I2) Q ↔ _; rw [b184_121, if_pos rfl, b184_124]; exact Iff.rfl, f1.tr f2, fun z => absurd z (by decide), fun _ => f4 rfl⟩
    | true =>
      obtain ⟨P1, P2, P3⟩ := P rfl
      have om : (o ++ e).length < 96 := by rw [List.length_append]; omega
      refine ⟨true, k', e ++ [((2 : Int32), 33)], ⟨KK, by omega, fun _ => ⟨by rw [List.length_append]; show e.length + 1 + _ ≤ _; omega, fun q hq => ?_, fun h hh => ?_⟩⟩, fun D M hD C => ?_, fun D I hD R => ?_⟩
      · rcases List.mem_append.mp hq with hq | hq
        · exact P2 q hq
        · rw [List.mem_singleton.mp hq]; exact Or.inr (Or.inr ⟨rfl, Or.inl rfl⟩)
      · rw [List.map_append]
        refine gd_ap _ _ _ (h + 1) _ (P3 h hh) ?_
        show gd [eS key (2, 33)] (h + 1) (h + 1)
        rw [eS2]
        refine ⟨fun _ _ => by omega, fun _ z => absurd (by decide) z, fun z => absurd (by decide) z, ?_⟩
        rw [if_pos (by decide), if_pos (by decide)]
        exact rfl
      · obtain ⟨D', M1, M2, rfl, f1, f2, f3, -, f5⟩ := cI D M hD C
        obtain ⟨v1, v2, v3⟩ := (f3 rfl).sg (d := D' + 2) ht om (c := 33)
        have v4 := v2.tu' (v := nI (tu + 1) - 1) (x := tu) ht (by rw [← nI_1, Int32.add_sub_cancel])
        rw [List.append_assoc] at v4
        refine ⟨_, fun Q => by rw [f5 Q, b51_22 (lw0 ht).1, v1, b51_28, v2.2.1.2.2, b50_99, b50_135], ((f1.tr f2).tr v3).tr (fC.wr (Or.inl rfl)), fun _ => v4, fun z => absurd z (by decide)⟩
      · obtain ⟨D', I1, I2, rfl, f1, f2, f3, -, f5⟩ := rI D I hD R
        have f3' := (f3 rfl).tu' (v := nI (tu + 1) - 1) (x := tu) (by rw [← nI_1, Int32.add_sub_cancel])
        obtain ⟨I3, v1, v2, v3⟩ := f3'.sg (d := D' + 2) om ha (c := 33)
        rw [List.append_assoc] at v2
        exact ⟨I3, fun Q => by rw [f5 Q]; show E (D' + 3, 184, 121, [.ref 121, .int (nI key)], [.int 1], I2) Q ↔ _; rw [b184_121, if_neg (by decide), b184_126, (f3 rfl).2.1.2, v1, b184_143]; exact Iff.rfl, ((f1.tr f2).tr (fR.w1 (by decide))).tr v3, fun _ => v2, fun z => absurd z (by decide)⟩
  by_cases zD : k.1 = 3 ∧ tp k.2.1 = 40 ∧ dp < 8
  · -- brackets
    have lt1 : k.2.1 < k.2.2 := klt (by omega)
    obtain ⟨ok, k', e, ⟨KK, p2, P⟩, sC, sR⟩ := i0 (nx tp n k) K1 (by omega) zD.2.2
    have kk1 : k'.2.1 ≤ 96 := by have := KK.2.1; have := KK.2.2.1; omega
    have s33 : ¬ (if k.1 = 3 then tp k.2.1 else -1) = 33 := by rw [if_pos zD.1, zD.2.1]; decide
    have s40 : (if k.1 = 3 then tp k.2.1 else -1) = 40 := by rw [if_pos zD.1]; exact zD.2.1
    have t33 : ¬ (k.1 = 3 ∧ tp k.2.1 = 33) := fun z => by rw [zD.2.1] at z; exact absurd z.2 (by decide)
    have d8 : nI dp < 8 := show nI dp < nI 8 from nI_lt zD.2.2 (by decide)
    have d8' : ¬ nI dp = 8 := fun z => by have := (eqN 8 (by decide) (by omega) (by decide)).mp z; omega
    have cI : ∀ (D : Nat) (M : IM), cq dp tu ≤ D → cS tp n t key M k dp tu o → ∃ (D' : Nat) (M1 M2 : IM), D = D' + 6 ∧ fC t M M1 ∧ fC t M1 M2 ∧ (ok = true → cS tp n t key M2 k' (dp + 1) tu (o ++ e)) ∧ (ok = false → M2 41 1 = nI k'.2.1) ∧ ∀ Q : Po, E (cP t D M) Q ↔ E (D' + 5, 52, 23, [.ref 41, .ref (48 + 3 * t)], [], M2) (fun r I' => E (D' + 6, 50, 128, [.ref 41, .ref (48 + 3 * t), .int (-1)], [], I') Q) := fun D M hD C => by
      obtain ⟨D', rfl⟩ : ∃ D', D = D' + 6 := ⟨D - 6, by omega⟩
      obtain ⟨M1, b1, b2, b3⟩ := (C.dp' ht (v := nI dp + 1) (x := dp + 1) (nI_1 dp)).next (d := D' + 2) hn ht K (x := UN) (y := UN)
      obtain ⟨M2, u1, u2, u3, u4⟩ := sC (D' + 4) M1 (by unfold cq at hD ⊢; omega) b2
      refine ⟨D', M1, M2, rfl, (fC.wr (Or.inl rfl)).tr b3, u2, u3, u4, fun Q => ?_⟩
      have u1' : Rn (D' + 4, 48, 0, [.ref 41, .int 0, .ref (48 + 3 * t), UN, UN, UN], [], M1) .null M2 := u1
      unfold cP
      rw [(p50 hk ht hn C K).2 zB, c42 C, if_neg zA, c80 C, if_neg s33, c102 C, if_pos s40, if_pos d8, b50_123, b52_0, C.2.1.2.1, b1, b52_17, u1']
    have rI : ∀ (D : Nat) (I : IM), rq dp tu ≤ D → rS tp n at_ I k dp tu o → ∃ (D' : Nat) (I1 I2 : IM), D = D' + 3 ∧ fR at_ I I1 ∧ fR at_ I1 I2 ∧ (ok = true → rS tp n at_ I2 k' (dp + 1) tu (o ++ e)) ∧ (ok = false → I2 121 15 = nI k'.2.1) ∧ ∀ Q : Po, E (rX 184 [.ref 121, .int (nI key)] D I) Q ↔ E (D' + 3, 184, 184, [.ref 121, .int (nI key)], [.int (bif ok then 1 else 0)], I2) Q := fun D I hD R => by
      obtain ⟨D', rfl⟩ : ∃ D', D = D' + 3 := ⟨D - 3, by omega⟩
      obtain ⟨I1, b1, b2, b3⟩ := (R.dp' (v := nI dp + 1) (x := dp + 1) (nI_1 dp)).next (d := D') hn K (fun y => by omega) (x := UN) (y := UN)
      obtain ⟨I2, u1, u2, u3, u4⟩ := sR (D' + 2) I1 (by unfold rq at hD ⊢; omega) b2
      refine ⟨D', I1, I2, rfl, (fR.w1 (by decide)).tr b3, u2, u3, u4, fun Q => ?_⟩
      have u1' : Rn (D' + 2, 179, 0, [.ref 121, .int (nI key)], [], I1) (.int (bif ok then 1 else 0)) I2 := u1
      unfold rX
      rw [r84 R zA zB, r145 R, if_neg t33, r163 R, if_pos ⟨zD.1, zD.2.1⟩, if_neg d8', b184_165, R.2.1.1, b1, b184_179, u1']
    cases ok with
    | false =>
      refine ⟨false, k', [], ⟨KK, by omega, fun z => absurd z (by decide)⟩, fun D M hD C => ?_, fun D I hD R => ?_⟩
      · obtain ⟨D', M1, M2, rfl, f1, f2, -, f4, f5⟩ := cI D M hD C
        refine ⟨_, fun Q => by rw [f5 Q, b52_23, f4 rfl, if_neg (nI_pos (by omega)), b52_52, k44f (f4 rfl) kk1, b52_56, b50_128, b50_135], (f1.tr f2).tr (fC.wr (Or.inl rfl)), fun z => absurd z (by decide), fun _ => ?_⟩
        rw [up_k (by decide)]
        exact f4 rfl
      · obtain ⟨D', I1, I2, rfl, f1, f2, -, f4, f5⟩ := rI D I hD R
        exact ⟨I2, fun Q => by rw [f5 Q]; show E (D' + 3, 184, 184, [.ref 121, .int (nI key)], [.int 0], I2) Q ↔ _; rw [b184_184, if_pos rfl, b184_196]; exact Iff.rfl, f1.tr f2, fun z => absurd z (by decide), fun _ => f4 rfl⟩
    | true =>
      obtain ⟨P1, P2, P3⟩ := P rfl
      by_cases zE : k'.1 = 3 ∧ tp k'.2.1 = 41
      · obtain ⟨K2, p3⟩ := nx_ok (tp := tp) (n := n) (k := k') KK.2.2.1
        have p4 : k'.2.1 ≤ k'.2.2 := KK.2.1
        have s41 : (if k'.1 = 3 then tp k'.2.1 else -1) = 41 := by rw [if_pos zE.1]; exact zE.2
        refine ⟨true, nx tp n k', e, ⟨K2, by omega, fun _ => ⟨by omega, P2, fun h hh => P3 h (by unfold nH at hh ⊢; omega)⟩⟩, fun D M hD C => ?_, fun D I hD R => ?_⟩
        · obtain ⟨D', M1, M2, rfl, f1, f2, f3, -, f5⟩ := cI D M hD C
          obtain ⟨M3, v1, v2, v3⟩ := (f3 rfl).next (d := D' + 2) hn ht KK (x := UN) (y := UN)
          have v4 := v2.dp' (v := nI (dp + 1) - 1) (x := dp) ht (by rw [← nI_1, Int32.add_sub_cancel])
          refine ⟨_, fun Q => by rw [f5 Q, b52_23, (f3 rfl).2.1.1, if_pos (by decide), b52_30, k62c hn (f3 rfl) KK, b52_37, if_pos s41, b52_42, v1, b52_49, b52_56, v2.2.1.2.1, b50_128, b50_135], ((f1.tr f2).tr v3).tr (fC.wr (Or.inl rfl)), fun _ => v4, fun z => absurd z (by decide)⟩
        · obtain ⟨D', I1, I2, rfl, f1, f2, f3, -, f5⟩ := rI D I hD R
          have f3' := (f3 rfl).dp' (v := nI (dp + 1) - 1) (x := dp) (by rw [← nI_1, Int32.add_sub_cancel])
          obtain ⟨I3, v1, v2, v3⟩ := f3'.next (d := D') hn KK (fun y => by omega) (x := UN) (y := UN)
          exact ⟨I3, fun Q => by rw [f5 Q]; show E (D' + 3, 184, 184, [.ref 121, .int (nI key)], [.int 1], I2) Q ↔ _; rw [b184_184, if_neg (by decide), b184_187, k174 KK.1 (f3 rfl).1.2.2.2.1, b184_193, ite_b01, if_pos zE, b184_198, (f3 rfl).2.1.1, v1, b184_212]; exact Iff.rfl, ((f1.tr f2).tr (fR.w1 (by decide))).tr v3, fun _ => v2, fun z => absurd z (by decide)⟩
      · have s41 : ¬ (if k'.1 = 3 then tp k'.2.1 else -1) = 41 := by
          by_cases y : k'.1 = 3
          · rw [if_pos y]; exact fun w => zE ⟨y, w⟩
          · rw [if_neg y]; decide
        refine ⟨false, k', [], ⟨KK, by omega, fun z => absurd z (by decide)⟩, fun D M hD C => ?_, fun D I hD R => ?_⟩
        · obtain ⟨D', M1, M2, rfl, f1, f2, f3, -, f5⟩ := cI D M hD C
          refine ⟨_, fun Q => by rw [f5 Q, b52_23, (f3 rfl).2.1.1, if_pos (by decide), b52_30, k62c hn (f3 rfl) KK, b52_37, if_neg s41, b52_52, k44 (f3 rfl).2.1.1, b52_56, b50_128, b50_135], ((f1.tr f2).tr (fC.wr (Or.inl rfl))).tr (fC.wr (Or.inl rfl)), fun z => absurd z (by decide), fun _ => ?_⟩
          rw [up_k (by decide), up_s]
          exact (f3 rfl).1.2.2.1
        · obtain ⟨D', I1, I2, rfl, f1, f2, f3, -, f5⟩ := rI D I hD R
          exact ⟨I2, fun Q => by rw [f5 Q]; show E (D' + 3, 184, 184, [.ref 121, .int (nI key)], [.int 1], I2) Q ↔ _; rw [b184_184, if_neg (by decide), b184_187, k174 KK.1 (f3 rfl).1.2.2.2.1, b184_193, ite_b01, if_neg zE, b184_196]; exact Iff.rfl, f1.tr f2, fun z => absurd z (by decide), fun _ => (f3 rfl).1.2.1⟩
  -- a fault
  have t8 : ∀ y : (if k.1 = 3 then tp k.2.1 else -1) = 33, ¬ nI tu < 8 := fun y w => by
    by_cases y3 : k.1 = 3
    · rw [if_pos y3] at y
      exact zC ⟨y3, y, (nI_ltI (b := 8) (by omega) (by decide)).mp w⟩
    · rw [if_neg y3] at y; exact absurd y (by decide)
  have d8 : ∀ y : (if k.1 = 3 then tp k.2.1 else -1) = 40, ¬ nI dp < 8 := fun y w => by
    by_cases y3 : k.1 = 3
    · rw [if_pos y3] at y
      exact zD ⟨y3, y, (nI_ltI (b := 8) (by omega) (by decide)).mp w⟩
    · rw [if_neg y3] at y; exact absurd y (by decide)
  refine ⟨false, k, [], ⟨K, Nat.le_refl _, fun z => absurd z (by decide)⟩, fun D M hD C => ?_, fun D I hD R => ?_⟩
  · obtain ⟨D', rfl⟩ : ∃ D', D = D' + 6 := ⟨D - 6, by omega⟩
    refine ⟨up M 41 1 (nI k.2.1), fun Q => ?_, fC.wr (Or.inl rfl), fun z => absurd z (by decide), fun _ => up_s⟩
    have e102 : E (D' + 6, 50, 102, [.ref 41, .ref (48 + 3 * t), .int (-1)], [], M) Q ↔ Q .null (up M 41 1 (nI k.2.1)) := by
      rw [c102 C]
      by_cases y : (if k.1 = 3 then tp k.2.1 else -1) = 40
      · rw [if_pos y, if_neg (d8 y)]
      · rw [if_neg y]
    unfold cP
    rw [(p50 hk ht hn C K).2 zB, c42 C, if_neg zA, c80 C]
    by_cases y : (if k.1 = 3 then tp k.2.1 else -1) = 33
    · rw [if_pos y, if_neg (t8 y), e102]
    · rw [if_neg y, e102]
  · obtain ⟨D', rfl⟩ : ∃ D', D = D' + 1 := ⟨D - 1, by omega⟩
    refine ⟨I, fun Q => ?_, fR.rf, fun z => absurd z (by decide), fun _ => R.1.2.1⟩
    have e145 : E (D' + 1, 184, 145, [.ref 121, .int (nI key)], [], I) Q ↔ Q (.int 0) I := by
      rw [r163 R]
      by_cases y : k.1 = 3 ∧ tp k.2.1 = 40
      · have : dp = 8 := by
          by_cases w : dp < 8
          · exact absurd ⟨y.1, y.2, w⟩ zD
          · omega
        rw [if_pos y, if_pos (by rw [this]; decide)]
      · rw [if_neg y]
    unfold rX
    rw [r84 R zA zB, r145 R]
    by_cases y : k.1 = 3 ∧ tp k.2.1 = 33
    · rw [if_pos y, if_neg (t8 (by rw [if_pos y.1]; exact y.2)), e145]; exact Iff.rfl
    · rw [if_neg y, e145]; exact Iff.rfl
theorem lev5 {dp tu cN rN need : Nat} {rst : Nat → IM → St} {k : Tk} {o : List Sp} (g : Gl tp n t key at_ (cP t) rst cN rN k need dp tu o) : Gl tp n t key at_ (cL t 5) rst (cN + 1) rN k need dp tu o := by
  obtain ⟨ok, k', e, P, sC, sR⟩ := g
  refine ⟨ok, k', e, P, fun D M hD C => ?_, sR⟩
  obtain ⟨D', rfl⟩ : ∃ D', D = D' + 1 := ⟨D - 1, by omega⟩
  obtain ⟨M1, u1, u2, u3, u4⟩ := sC D' M (by omega) C
  exact ⟨M1, fun Q => c48_5 u1, u2, u3, u4⟩
theorem lev0 {dp tu w : Nat} (hn : n ≤ 96) (ht : t < 15) (ha : at_ + 200 ≤ 3060)
    (hp : ∀ (k : Tk) (o : List Sp), okK tp n k → n ≤ k.2.1 + w → o.length ≤ k.2.1 → Gl tp n t key at_ (cP t) (rX 184 [.ref 121, .int (nI key)]) (cq dp tu) (rq dp tu) k (nH 5 dp) dp tu o) :
    ∀ (k : Tk) (o : List Sp), okK tp n k → n ≤ k.2.1 + w → o.length ≤ k.2.1 → Gl tp n t key at_ (cL t 0) (rX 179 [.ref 121, .int (nI key)]) (cq dp tu + 6) (rq dp tu + 5) k (nH 0 dp) dp tu o := by
  have c0 : 10 ≤ cq dp tu := by unfold cq; omega
  have r0 : 10 ≤ rq dp tu := by unfold rq; omega
  have h5 := fun k o K hw ho => lev5 (hp k o K hw ho)
  have h4 := levJ (key := key) (L := 4) (by decide) (by decide) hn ht ha rw183 (by omega) (by omega) h5
  have h3 := levJ (key := key) (L := 3) (by decide) (by decide) hn ht ha rw182 (by omega) (by omega) h4
  have h2 := levT (key := key) hn ht ha rw181 (by omega) (by omega) h3
  have h1 := levJ (key := key) (L := 1) (by decide) (by decide) hn ht ha rw180 (by omega) (by omega) h2
  exact levJ (key := key) (L := 0) (by decide) (by decide) hn ht ha rw179 (by omega) (by omega) h1
theorem pieceA (hk : key < 3) (hn : n ≤ 96) (ht : t < 15) (ha : at_ + 200 ≤ 3060) : ∀ (w dp tu : Nat) (k : Tk) (o : List Sp), dp ≤ 8 → tu ≤ 8 → okK tp n k → n ≤ k.2.1 + w → o.length ≤ k.2.1 → Gl tp n t key at_ (cP t) (rX 184 [.ref 121, .int (nI key)]) (cq dp tu) (rq dp tu) k (nH 5 dp) dp tu o := by
  intro w
  induction w with
  | zero =>
    intro dp tu k o hd hu K hw ho
    refine pieceJ hk hn ht ha hd hu k o K ho (fun k' K' h _ => ?_) (fun k' K' h _ => ?_)
    · have := K'.2.1; have := K'.2.2.1; omega
    · have := K'.2.1; have := K'.2.2.1; omega
  | succ w ih =>
    intro dp tu k o hd hu K hw ho
    refine pieceJ hk hn ht ha hd hu k o K ho (fun k' K' h h8 => ?_) (fun k' K' h h8 => ?_)
    · exact lev0 (w := w) hn ht ha (fun k o => ih (dp + 1) tu k o (by omega) hu) k' o K' (by omega) (by omega)
    · exact ih dp (tu + 1) k' o hd (by omega) K' (by omega) (by omega)
/-- a whole text's body -/
theorem bodyJ (hk : key < 3) (hn : n ≤ 96) (ht : t < 15) (ha : at_ + 200 ≤ 3060) (k : Tk) (K : okK tp n k) : Gl tp n t key at_ (cL t 0) (rX 179 [.ref 121, .int (nI key)]) 96 71 k 46 0 0 [] :=
  lev0 (w := n) (dp := 0) (tu := 0) hn ht ha (fun k o => pieceA hk hn ht ha n 0 0 k o (by decide) (by decide)) k [] K (by omega) (Nat.zero_le _)
end PC
