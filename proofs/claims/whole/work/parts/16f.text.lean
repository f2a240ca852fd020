/-! promise 24 -/
section TX
variable {d : Nat} {M M' : IM} {N T : Nat}
/-- the parts that a text read leaves as they were -/
theorem Cp.txt (C : Cp M N T) {T' : Nat} (hT : T ≤ T') (H : CpH M' N T') (f : ∀ c, c ≠ 1 → c ≠ 3 → c ≠ 41 → c ≠ 42 → c ≠ 48 + 3 * T → c ≠ 49 + 3 * T → c ≠ 121 → c ≠ 122 → M' c = M c) (f1 : ∀ s, s < 14 ∨ 24 < s → M' 121 s = M 121 s) (f2 : ∀ i, 60 ≤ i → i < 60 + 200 * T → M' 122 i = M 122 i) (t1 : M' 42 1 = 0) (t2 : M' 121 14 = 0) : Cp M' N T' := by
  have h14 := C.h.X.2.1
  refine ⟨H, C.i.fr (by rw [f 0 (by omega) (by omega) (by omega) (by omega) (by omega) (by omega) (by omega) (by omega)]) (f1 3 (by omega)) (fun c h1 h2 => f c (by omega) (by omega) (by omega) (by omega) (by omega) (by omega) (by omega) (by omega)) (f 123 (by omega) (by omega) (by omega) (by omega) (by omega) (by omega) (by omega) (by omega)) f2 hT, ⟨0, by decide, t1, t2, fun i hi => absurd hi (Nat.not_lt_zero i)⟩, C.s.fr (fun c hc => f c (by omega) (by omega) (by omega) (by omega) (by omega) (by omega) (by omega) (by omega)), C.l.fr (fun c hc => f c (by omega) (by omega) (by omega) (by omega) (by omega) (by omega) (by omega) (by omega)), C.w.fr (by rw [f 0 (by omega) (by omega) (by omega) (by omega) (by omega) (by omega) (by omega) (by omega)]) (f1 29 (by omega)) (f 46 (by omega) (by omega) (by omega) (by omega) (by omega) (by omega) (by omega) (by omega)) (f 138 (by omega) (by omega) (by omega) (by omega) (by omega) (by omega) (by omega) (by omega))⟩
theorem tx_cg {R : Nat → Int32} {t : Nat} (h : txOk M R t) (e1 : M' (48 + 3 * t) = M (48 + 3 * t)) (e2 : M' (49 + 3 * t) = M (49 + 3 * t)) : txOk M' R t := by
  unfold txOk at *
  rw [e1, e2]; exact h
/-- no text came -/
theorem CpH.tx0 (C : CpH M N T) (f : ∀ c, c ≠ 41 → c ≠ 42 → c ≠ 48 + 3 * T → c ≠ 49 + 3 * T → c ≠ 121 → c ≠ 122 → M' c = M c) (f2 : ∀ i, i < 60 + 200 * T → M' 122 i = M 122 i) : CpH M' N T := by
  have h14 := C.X.2.1
  have sm : ∀ t, t < T → sameT (M 122) (M' 122) t := fun t ht i h1 h2 => f2 i (by omega)
  have g : ∀ c, c < 41 → M' c = M c := fun c hc => f c (by omega) (by omega) (by omega) (by omega) (by omega) (by omega)
  refine ⟨(C.H.fr (fun c hc => g c (by omega))).ext' (fun i hi => f2 i (by omega)), bd_ext C.B (fun i hi => f2 i (by omega)), wfX_same sm (f2 1 (by omega)) C.X, fun t ht => ?_, fun k hk => ?_, ?_⟩
  · exact tx_cg ((sm t ht).tx (C.X.2.2 t ht) (C.tx t ht)) (f _ (by omega) (by omega) (by omega) (by omega) (by omega) (by omega)) (f _ (by omega) (by omega) (by omega) (by omega) (by omega) (by omega))
  · rw [g 3 (by omega), cntR_same T sm]; exact C.ct k hk
  · rw [f2 2 (by omega)]; exact C.ev
/-- a text came -/
theorem CpH.tx1 (C : CpH M N T) (hT : T < 14) {key : Nat} {o : List Sp} (hk : key < 3) (P : o.length ≤ 96 ∧ (∀ q, q ∈ o → okE key q) ∧ gd (o.map (eS key)) 0 1)
    (f : ∀ c, c ≠ 1 → c ≠ 3 → c ≠ 41 → c ≠ 42 → c ≠ 48 + 3 * T → c ≠ 49 + 3 * T → c ≠ 121 → c ≠ 122 → M' c = M c) (f2 : ∀ i, i < 60 + 200 * T → i ≠ 1 → M' 122 i = M 122 i) (e1 : M' 122 1 = nI (T + 1)) (e2 : M' 1 = (up M 1 11 (nI (T + 1))) 1) (e3 : M' 3 = (up M 3 key (nI T)) 3)
    (l : M' (48 + 3 * T) 3 = nI key ∧ M' (48 + 3 * T) 2 = nI o.length ∧ M' (48 + 3 * T) 4 = nI (lvs o) ∧ ∀ (j : Nat) (q : Sp), o[j]? = some q → M' (49 + 3 * T) j = eS key q)
    (r0 : M' 122 (60 + 200 * T) = nI key) (r1 : M' 122 (61 + 200 * T) = nI (lvs o)) (r2 : M' 122 (62 + 200 * T) = nI o.length) (r3 : ∀ (j : Nat) (q : Sp), o[j]? = some q → M' 122 (64 + 200 * T + 2 * j) = q.1 ∧ M' 122 (65 + 200 * T + 2 * j) = q.2) : CpH M' N (T + 1) := by
  obtain ⟨P1, P2, P3⟩ := P
  have sm : ∀ t, t < T → sameT (M 122) (M' 122) t := fun t ht i h1 h2 => f2 i (by omega) (by omega)
  have g : ∀ c, c ≠ 1 → c ≠ 3 → c < 41 → M' c = M c := fun c h1 h3 hc => f c h1 h3 (by omega) (by omega) (by omega) (by omega) (by omega) (by omega)
  have eu : ∀ i, i < 60 → M' 122 i = upd (M 122) 1 (nI (T + 1)) i := fun i hi => by
    by_cases z : i = 1
    · rw [z, upd_s]; exact e1
    · rw [upd_n z]; exact f2 i (by omega) z
  have H1 := C.H.fld (i := 1) (by decide) (by decide) (nI (T + 1))
  have sn : tN (M' 122) T = o.length := by unfold tN; rw [r2, nI_clamp (by omega)]
  have ss : ∀ (j : Nat) (q : Sp), o[j]? = some q → tSt (M' 122) T j = eS key q := fun j q hq => by
    obtain ⟨a, b⟩ := r3 j q hq
    unfold tSt eS
    rw [a, b, r0]
  have hg := gdH (o.map (eS key)) (tSt (M' 122) T) 0 1 (fun j q hq => by
    rw [List.getElem?_map] at hq
    obtain ⟨q', h1, h2⟩ := Option.map_eq_some_iff.mp hq
    rw [Nat.zero_add, ← h2]
    exact ss j q' h1) P3
  rw [List.length_map, Nat.zero_add] at hg
  have wT : wfT (M' 122) T := by
    refine ⟨⟨o.length, P1, r2⟩, ⟨key, hk, r0⟩, by rw [sn]; exact hg.1, fun k hk' => ?_⟩
    rw [sn] at hk'
    refine ⟨by have := hg.2 k hk'; rw [Nat.zero_add] at this; exact this, ?_⟩
    obtain ⟨a, b⟩ := r3 k o[k] (List.getElem?_eq_getElem hk')
    rw [a, b, r0]
    exact P2 _ (List.getElem_mem hk')
  refine ⟨(H1.fr (fun c hc => ?_)).ext' eu, bd_ext (bd_z C.B (Or.inl rfl)) eu, ⟨e1, by omega, fun t ht => ?_⟩, fun t ht => ?_, fun k hk' => ?_, ?_⟩
  · rcases hc with rfl | hc
    · exact e2
    · rw [up_c (by omega)]; exact g c (by omega) (by omega) (by omega)
  · by_cases z : t = T
    · rw [z]; exact wT
    · exact (sm t (by omega)).wf (C.X.2.2 t (by omega))
  · by_cases z : t = T
    · rw [z]
      refine ⟨by rw [r2]; exact l.2.1, by rw [r0]; exact l.1, by rw [r1]; exact l.2.2.1, fun k hk' => ?_⟩
      rw [sn] at hk'
      rw [ss k _ (List.getElem?_eq_getElem hk')]
      exact l.2.2.2 k _ (List.getElem?_eq_getElem hk')
    · have ht' : t < T := by omega
      exact tx_cg ((sm t ht').tx (C.X.2.2 t ht') (C.tx t ht')) (f _ (by omega) (by omega) (by omega) (by omega) (by omega) (by omega) (by omega) (by omega)) (f _ (by omega) (by omega) (by omega) (by omega) (by omega) (by omega) (by omega) (by omega))
  · show M' 3 k = enc (if M' 122 (60 + 200 * T) = nI k then some T else cntR (M' 122) (nI k) T)
    rw [r0, e3, cntR_same T sm]
    by_cases z : k = key
    · rw [z, up_s, if_pos rfl]; rfl
    · rw [up_k z, if_neg (fun y => z ((nI_eqI (by omega) (by omega)).mp y).symm)]
      exact C.ct k hk'
  · rw [f2 2 (by omega) (by decide)]; exact C.ev
theorem m91 (C : Cp M N T) : Ok (d + 200) M 91 [.ref 0, UN, UN, UN] 186 [.ref 121, UN, UN] := by
  have hT := C.h.X.2.1
  have eT : M 1 11 = nI T := (C.f (i := 1) (by decide)).trans C.h.X.1
  obtain ⟨n, n96, t1, t2, t3⟩ := C.t
  obtain ⟨at_, hat⟩ : ∃ at_, (T < 14 ∧ at_ = 64 + 200 * T) ∨ (T = 14 ∧ at_ = 2860) := by
    by_cases z : T < 14
    · exact ⟨_, Or.inl ⟨z, rfl⟩⟩
    · exact ⟨_, Or.inr ⟨by omega, rfl⟩⟩
  obtain ⟨ok, f, key, o, f96, hk, P, sC, sR⟩ := tapeJ (tp := M 43) (at_ := at_) n96 (T := T) (by omega) hat
  obtain ⟨M1, u1, u2, u3⟩ := sC (d + 199) M (by omega) t1 (fun _ _ => rfl)
  have hh : (if (0 : Int32) < (if 14 < nI T then 14 else nI T) then (if 14 < nI T then 14 else nI T) else 0) = nI T := by
    have : ∀ T, T ≤ 14 → (if (0 : Int32) < (if 14 < nI T then 14 else nI T) then (if 14 < nI T then 14 else nI T) else 0) = nI T := by decide
    exact this T hT
  have e40 : aRf 40 (Int32.toNatClampNeg (nI T)) = 48 + 3 * T := by rw [nI_clamp (by omega)]; exact rf40 T (by omega)
  have c1 : ∀ Q : Po, E (d + 200, 91, 0, [.ref 0, UN, UN, UN], [], M) Q ↔ E (d + 200, 91, 29, [.ref 0, .int (nI T), .ref (48 + 3 * T), UN], [.int (bif ok then -1 else nI f)], M1) Q := fun Q => by
    rw [b91_0, eT, b109_0, hh, b91_13, and_iff_right (vp_in_nI (by omega) (by decide)), e40, u1]
  -- the reference, from any state that the class leaves
  have rf : ∀ J : IM, J 121 = M 121 → J 122 = M 122 → J 134 = M 134 → ∃ I2, (∀ Q : Po, E (d + 200, 186, 0, [.ref 121, UN, UN], [], J) Q ↔ E (d + 200, 186, 4, [.ref 121, UN, UN], [.int (bif ok then nI key else -1)], I2) Q) ∧ I2 121 14 = 0 ∧ fR2 at_ J I2 ∧ (ok = true → I2 121 22 = nI o.length ∧ I2 121 24 = nI (lvs o) ∧ ∀ (j : Nat) (q : Sp), o[j]? = some q → I2 122 (at_ + 2 * j) = q.1 ∧ I2 122 (at_ + 2 * j + 1) = q.2) ∧ (ok = false → I2 121 15 = nI f) := fun J j1 j2 j3 => by
    obtain ⟨I2, v1, v2, v3, v4, v5⟩ := sR (d + 199) J (by omega) (by rw [j1]; exact t2) (fun i hi => by rw [j3]; exact ((t3 i hi).1).symm) (by rw [j2]; exact C.h.X.1)
    exact ⟨I2, fun Q => by rw [b186_0, v1], v2, v3, v4, v5⟩
  have m1c : ∀ c, c ≠ 41 → c ≠ 42 → c ≠ 48 + 3 * T → c ≠ 49 + 3 * T → M1 c = M c := u2
  cases ok with
  | false =>
    -- a fault
    obtain ⟨I2, v1, v2, v3, -, v5⟩ := rf (up M1 42 1 0) (by rw [up_c (by decide)]; exact m1c 121 (by omega) (by omega) (by omega) (by omega)) (by rw [up_c (by decide)]; exact m1c 122 (by omega) (by omega) (by omega) (by omega)) (by rw [up_c (by decide)]; exact m1c 134 (by omega) (by omega) (by omega) (by omega))
    have fI : ∀ c, c ≠ 41 → c ≠ 42 → c ≠ 48 + 3 * T → c ≠ 49 + 3 * T → c ≠ 121 → c ≠ 122 → I2 c = M c := fun c h1 h2 h3 h4 h5 h6 => by rw [v3.2.2 c h5 h6, up_c h2]; exact m1c c h1 h2 h3 h4
    have f2 : ∀ i, i < 60 + 200 * T → I2 122 i = M 122 i := fun i hi => by rw [v3.2.1 i (by omega), up_c (by decide), m1c 122 (by omega) (by omega) (by omega) (by omega)]
    refine ⟨(-100) - nI f, up M1 42 1 0, I2, fun Q => ?_, fun Q => ?_, ⟨N, T, C.txt (Nat.le_refl _) (C.h.tx0 fI f2) (fun c _ _ h1 h2 h3 h4 h5 h6 => fI c h1 h2 h3 h4 h5 h6) (fun s hs => by rw [v3.1 s hs, up_c (by decide), m1c 121 (by omega) (by omega) (by omega) (by omega)]) (fun i _ h => f2 i h) (by rw [v3.2.2 42 (by decide) (by decide), up_s]) v2⟩, fun c hc => fI c (by omega) (by omega) (by omega) (by omega) (by omega) (by omega)⟩
    · rw [c1 Q]
      show E (d + 200, 91, 29, [.ref 0, .int (nI T), .ref (48 + 3 * T), UN], [.int (nI f)], M1) Q ↔ _
      rw [b91_29, if_neg (nI_pos (by omega)), b91_45]
    · rw [v1 Q]
      show E (d + 200, 186, 4, [.ref 121, UN, UN], [.int (-1)], I2) Q ↔ _
      rw [b186_4, if_pos (by decide), b186_9, v5 rfl]
  | true =>
    have P' := P rfl
    have u3' := u3 rfl
    by_cases z : T = 14
    · -- full
      obtain ⟨I2, v1, v2, v3, -, -⟩ := rf (up M1 42 1 0) (by rw [up_c (by decide)]; exact m1c 121 (by omega) (by omega) (by omega) (by omega)) (by rw [up_c (by decide)]; exact m1c 122 (by omega) (by omega) (by omega) (by omega)) (by rw [up_c (by decide)]; exact m1c 134 (by omega) (by omega) (by omega) (by omega))
      have fI : ∀ c, c ≠ 41 → c ≠ 42 → c ≠ 48 + 3 * T → c ≠ 49 + 3 * T → c ≠ 121 → c ≠ 122 → I2 c = M c := fun c h1 h2 h3 h4 h5 h6 => by rw [v3.2.2 c h5 h6, up_c h2]; exact m1c c h1 h2 h3 h4
      have f2 : ∀ i, i < 60 + 200 * T → I2 122 i = M 122 i := fun i hi => by rw [v3.2.1 i (by omega), up_c (by decide), m1c 122 (by omega) (by omega) (by omega) (by omega)]
      refine ⟨-1000000003, up M1 42 1 0, I2, fun Q => ?_, fun Q => ?_, ⟨N, T, C.txt (Nat.le_refl _) (C.h.tx0 fI f2) (fun c _ _ h1 h2 h3 h4 h5 h6 => fI c h1 h2 h3 h4 h5 h6) (fun s hs => by rw [v3.1 s hs, up_c (by decide), m1c 121 (by omega) (by omega) (by omega) (by omega)]) (fun i _ h => f2 i h) (by rw [v3.2.2 42 (by decide) (by decide), up_s]) v2⟩, fun c hc => fI c (by omega) (by omega) (by omega) (by omega) (by omega) (by omega)⟩
      · rw [c1 Q]
        show E (d + 200, 91, 29, [.ref 0, .int (nI T), .ref (48 + 3 * T), UN], [.int (-1)], M1) Q ↔ _
        rw [b91_29, if_pos (by decide), b91_50, if_pos (by rw [z]; decide), b91_56]
      · rw [v1 Q]
        show E (d + 200, 186, 4, [.ref 121, UN, UN], [.int (nI key)], I2) Q ↔ _
        rw [b186_4, if_neg (nI_pos (by omega)), b186_17, f2 1 (by omega), C.h.X.1, if_pos (by rw [z]; decide), b186_28]
    · -- a text
      have hT' : T < 14 := by omega
      have eat : at_ = 64 + 200 * T := by omega
      subst eat
      generalize hM2 : up (up (up M1 42 1 0) 1 11 (nI (T + 1))) 3 key (nI T) = M2
      have m2c : ∀ c, c ≠ 42 → c ≠ 1 → c ≠ 3 → M2 c = M1 c := fun c h1 h2 h3 => by rw [← hM2, up_c h3, up_c h2, up_c h1]
      have m2m : ∀ c, c ≠ 1 → c ≠ 3 → c ≠ 41 → c ≠ 42 → c ≠ 48 + 3 * T → c ≠ 49 + 3 * T → M2 c = M c := fun c h1 h2 h3 h4 h5 h6 => by rw [m2c c h4 h1 h2]; exact m1c c h3 h4 h5 h6
      have m21 : M2 1 = (up M 1 11 (nI (T + 1))) 1 := by rw [← hM2, up_c (by decide), up_r, up_r, up_c (by decide), m1c 1 (by omega) (by omega) (by omega) (by omega)]
      have m23 : M2 3 = (up M 3 key (nI T)) 3 := by rw [← hM2, up_r, up_r, up_c (by decide), up_c (by decide), m1c 3 (by omega) (by omega) (by omega) (by omega)]
      have m242 : M2 42 1 = 0 := by rw [← hM2, up_c (by decide), up_c (by decide), up_s]
      obtain ⟨I2, v1, v2, v3, v4, -⟩ := rf M2 (m2m 121 (by omega) (by omega) (by omega) (by omega) (by omega) (by omega)) (m2m 122 (by omega) (by omega) (by omega) (by omega) (by omega) (by omega)) (m2m 134 (by omega) (by omega) (by omega) (by omega) (by omega) (by omega))
      obtain ⟨w1, w2, w3⟩ := v4 rfl
      have i21 : I2 122 1 = nI T := by rw [v3.2.1 1 (by omega), m2m 122 (by omega) (by omega) (by omega) (by omega) (by omega) (by omega)]; exact C.h.X.1
      generalize hI3 : up (up (up (up I2 122 (60 + 200 * T) (nI key)) 122 (61 + 200 * T) (nI (lvs o))) 122 (62 + 200 * T) (nI o.length)) 122 1 (nI (T + 1)) = I3
      have i3c : ∀ c, c ≠ 122 → I3 c = I2 c := fun c h => by rw [← hI3, up_c h, up_c h, up_c h, up_c h]
      have i3r : ∀ i, i ≠ 1 → i ≠ 60 + 200 * T → i ≠ 61 + 200 * T → i ≠ 62 + 200 * T → I3 122 i = I2 122 i := fun i h1 h2 h3 h4 => by rw [← hI3, up_k h1, up_k h4, up_k h3, up_k h2]
      have fI : ∀ c, c ≠ 1 → c ≠ 3 → c ≠ 41 → c ≠ 42 → c ≠ 48 + 3 * T → c ≠ 49 + 3 * T → c ≠ 121 → c ≠ 122 → I3 c = M c := fun c h1 h2 h3 h4 h5 h6 h7 h8 => by rw [i3c c h8, v3.2.2 c h7 h8]; exact m2m c h1 h2 h3 h4 h5 h6
      have f2 : ∀ i, i < 60 + 200 * T → i ≠ 1 → I3 122 i = M 122 i := fun i hi h1 => by rw [i3r i h1 (by omega) (by omega) (by omega), v3.2.1 i (by omega), m2m 122 (by omega) (by omega) (by omega) (by omega) (by omega) (by omega)]
      have i31 : I3 122 1 = nI (T + 1) := by rw [← hI3, up_s]
      have e48 : I3 (48 + 3 * T) = M1 (48 + 3 * T) := by rw [i3c _ (by omega), v3.2.2 _ (by omega) (by omega), m2c _ (by omega) (by omega) (by omega)]
      have e49 : I3 (49 + 3 * T) = M1 (49 + 3 * T) := by rw [i3c _ (by omega), v3.2.2 _ (by omega) (by omega), m2c _ (by omega) (by omega) (by omega)]
      have H := CpH.tx1 (M' := I3) C.h hT' hk P' fI f2 i31 (by rw [i3c 1 (by decide), v3.2.2 1 (by decide) (by decide)]; exact m21) (by rw [i3c 3 (by decide), v3.2.2 3 (by decide) (by decide)]; exact m23) (by rw [e48, e49]; exact u3') (by rw [← hI3, up_k (by omega), up_k (by omega), up_k (by omega), up_s]) (by rw [← hI3, up_k (by omega), up_k (by omega), up_s]) (by rw [← hI3, up_k (by omega), up_s]) (fun j q hq => by
        rw [i3r _ (by omega) (by omega) (by omega) (by omega), i3r _ (by omega) (by omega) (by omega) (by omega), show 65 + 200 * T + 2 * j = 64 + 200 * T + 2 * j + 1 by omega]
        exact w3 j q hq)
      refine ⟨nI T, M2, I3, fun Q => ?_, fun Q => ?_, ⟨N, T + 1, C.txt (Nat.le_succ _) H fI (fun s hs => by rw [i3c 121 (by decide), v3.1 s hs, m2m 121 (by omega) (by omega) (by omega) (by omega) (by omega) (by omega)]) (fun i h1 h => f2 i h (by omega)) (by rw [i3c 42 (by decide), v3.2.2 42 (by decide) (by decide)]; exact m242) (by rw [i3c 121 (by decide)]; exact v2)⟩, fun c hc => fI c (by omega) (by omega) (by omega) (by omega) (by omega) (by omega) (by omega) (by omega)⟩
      · rw [c1 Q]
        show E (d + 200, 91, 29, [.ref 0, .int (nI T), .ref (48 + 3 * T), UN], [.int (-1)], M1) Q ↔ _
        have ek : (up (up M1 42 1 0) 1 11 (nI T + 1)) (48 + 3 * T) 3 = nI key := by rw [up_c (by omega), up_c (by omega)]; exact u3'.1
        rw [b91_29, if_pos (by decide), b91_50, if_neg (fun y => z ((eqN 14 (by decide) (by omega) (by decide)).mp y)), b91_59 (lw0 (by omega)).1, ek, and_iff_right (vp_in_nI hk (by decide)), nI_clamp (by omega), nI_1, hM2]
      · rw [v1 Q]
        show E (d + 200, 186, 4, [.ref 121, UN, UN], [.int (nI key)], I2) Q ↔ _
        have a0 : nI (60 + 200 * T) + 0 = nI (60 + 200 * T) := nI_add _ 0
        have a1 : nI (60 + 200 * T) + 1 = nI (61 + 200 * T) := by rw [nI_1, show 60 + 200 * T + 1 = 61 + 200 * T by omega]
        have a2 : nI (60 + 200 * T) + 2 = nI (62 + 200 * T) := by rw [nI_k _ 2 2 (by decide), show 60 + 200 * T + 2 = 62 + 200 * T by omega]
        have x24 : (up I2 122 (60 + 200 * T) (nI key)) 121 24 = nI (lvs o) := by rw [up_c (by decide)]; exact w2
        have x22 : (up (up I2 122 (60 + 200 * T) (nI key)) 122 (61 + 200 * T) (nI (lvs o))) 121 22 = nI o.length := by rw [up_c (by decide), up_c (by decide)]; exact w1
        have x1 : (up (up (up I2 122 (60 + 200 * T) (nI key)) 122 (61 + 200 * T) (nI (lvs o))) 122 (62 + 200 * T) (nI o.length)) 122 1 = nI T := by rw [up_k (by omega), up_k (by omega), up_k (by omega)]; exact i21
        rw [b186_4, if_neg (nI_pos (by omega)), b186_17, i21, if_neg (fun y => z ((eqN 14 (by decide) (by omega) (by decide)).mp y)), b186_31, i21, k125, b186_41, a0, a1, a2, nI_clamp (by omega), nI_clamp (by omega), nI_clamp (by omega), x24, x22, x1, nI_1, hI3, i31, and_iff_right (vp_in_nI (by omega) (by decide)), and_iff_right (vp_in_nI (by omega) (by decide)), and_iff_right (vp_in_nI (by omega) (by decide)), ← nI_1, Int32.add_sub_cancel]
end TX
