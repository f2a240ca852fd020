/-! feed, sheet, mark, pour, reads -/
theorem sh_and (v : Int32) : ((jUshr v 24 &&& (255 : Int32) : Int32) = ((v >>> ((24 : Int32) &&& 31)) &&& (255 : Int32) : Int32)) ∧ ((jUshr v 16 &&& (255 : Int32) : Int32) = ((v >>> ((16 : Int32) &&& 31)) &&& (255 : Int32) : Int32)) ∧ ((jUshr v 8 &&& (255 : Int32) : Int32) = ((v >>> ((8 : Int32) &&& 31)) &&& (255 : Int32) : Int32)) ∧ ((jUshr v 0 &&& (255 : Int32) : Int32) = ((v >>> ((0 : Int32) &&& 31)) &&& (255 : Int32) : Int32)) := by
  have key : ∀ (x : BitVec 32) (s : Nat), s ≤ 24 → (x >>> s) &&& 255#32 = (x.sshiftRight s) &&& 255#32 := by
    intro x s hs
    apply BitVec.eq_of_getLsbD_eq
    intro i hi
    rw [BitVec.getLsbD_and, BitVec.getLsbD_and]
    by_cases h8 : i < 8
    · rw [BitVec.getLsbD_ushiftRight, BitVec.getLsbD_sshiftRight]
      have h1 : ¬ 32 ≤ i := by omega
      have h2 : s + i < 32 := by omega
      simp [h1, h2]
    · have : (255#32).getLsbD i = false := by
        have : ∀ i, i < 32 → ¬ i < 8 → (255#32).getLsbD i = false := by decide +kernel
        exact this i hi h8
      rw [this, Bool.and_false, Bool.and_false]
  refine ⟨?_, ?_, ?_, ?_⟩ <;> apply Int32.toBitVec_inj.mp
  · exact key v.toBitVec 24 (by decide)
  · exact key v.toBitVec 16 (by decide)
  · exact key v.toBitVec 8 (by decide)
  · exact key v.toBitVec 0 (by decide)
theorem and255 (v : Int32) : ∃ b, b < 256 ∧ v &&& 255 = nI b := by
  refine ⟨v.toBitVec.toNat % 256, Nat.mod_lt _ (by decide), ?_⟩
  apply Int32.toBitVec_inj.mp
  apply BitVec.eq_of_toNat_eq
  rw [pk_tn (by omega)]
  show (v.toBitVec &&& 255#32).toNat = _
  rw [BitVec.toNat_and]
  exact Nat.and_two_pow_sub_one_eq_mod _ 8
/-- the byte j of a number -/
def byt (v : Int32) (j : Nat) : Int32 := jUshr v (nI (24 - 8 * j)) &&& 255
def tp1 (I : IM) (n : Nat) (v : Int32) : IM := up (up I 43 n v) 42 1 (nI (n + 1))
section K8
variable {d : Nat} {M I : IM} {N T : Nat} {Q : Po}
theorem k59 {n : Nat} {v : Int32} (hn : n + 4 ≤ 96) (h : I 42 1 = nI n) {x : Value} : E (d + 1, 59, 0, [.ref 42, .int v, x], [], I) Q ↔ Q .null (tp1 (tp1 (tp1 (tp1 I n (byt v 0)) (n + 1) (byt v 1)) (n + 2) (byt v 2)) (n + 3) (byt v 3)) := by
  have step : ∀ (I : IM) (m : Nat) (s : Int32), m < 96 → I 42 1 = nI m → ¬ s < 0 → (E (d + 1, 59, 3, [.ref 42, .int v, .int s], [], I) Q ↔ E (d + 1, 59, 3, [.ref 42, .int v, .int (s + (-8))], [], tp1 I m (jUshr v s &&& 255)) Q) := by
    intro I m s hm h hs
    rw [b59_3, if_neg hs, b59_7, h, k108, show (96 : Int32) - 1 = nI 95 by decide, b01_t ⟨(le_nI (a := 0) (by decide) (by omega)).mpr (by omega), (le_nI (by omega) (by omega)).mpr (by omega)⟩, b59_22, if_neg (by decide), b59_25, h, and_iff_right (vp_in_nI (by omega) (by decide)), nI_clamp (by omega), b59_51, up_c (by decide), h, nI_1]
    exact Iff.rfl
  have s1 : ∀ (I : IM) (m : Nat) (v : Int32), (tp1 I m v) 42 1 = nI (m + 1) := fun I m v => up_s
  rw [b59_0, step I n 24 (by omega) h (by decide), step _ (n + 1) _ (by omega) (s1 _ _ _) (by decide), step _ (n + 2) _ (by omega) (s1 _ _ _) (by decide), step _ (n + 3) _ (by omega) (s1 _ _ _) (by decide), b59_3, if_pos (by decide), b59_57]
  exact Iff.rfl
theorem tp1_43 {n i : Nat} {v : Int32} : (tp1 I n v) 43 i = if i = n then v else I 43 i := by
  unfold tp1
  rw [up_c (by decide)]
  by_cases h : i = n
  · rw [if_pos h, h, up_s]
  · rw [if_neg h, up_k h]
theorem tp1_c {n c : Nat} {v : Int32} (h1 : c ≠ 42) (h2 : c ≠ 43) : (tp1 I n v) c = I c := by unfold tp1; rw [up_c h1, up_c h2]
def vk (a b c : Int32) (k : Nat) : Int32 := if k < 4 then a else if k < 8 then b else c
theorem k169_loop {a b c : Int32} {n : Nat} (hn : n + 12 ≤ 96) : ∀ (m k : Nat) (I : IM) (x : Value), k + m = 12 → I 121 14 = nI (n + k) →
    ∃ I', Rn (d, 169, 18, [.ref 121, .int a, .int b, .int c, .int (nI k), x], [], I) (.int (nI (n + 12))) I' ∧ I' 121 14 = nI (n + 12) ∧ (∀ j, k ≤ j → j < 12 → I' 134 (n + j) = byt (vk a b c j) (j % 4)) ∧ (∀ i, i < n + k → I' 134 i = I 134 i) ∧ (∀ s, s ≠ 14 → I' 121 s = I 121 s) ∧ ∀ c', c' ≠ 121 → c' ≠ 134 → I' c' = I c' := by
  intro m
  induction m with
  | zero =>
    intro k I x hk h
    have : k = 12 := by omega
    subst this
    refine ⟨I, fun Q => ?_, h, fun j h1 h2 => by omega, fun _ _ => rfl, fun _ _ => rfl, fun _ _ _ => rfl⟩
    rw [b169_18, if_neg (by decide), b169_91, h]
  | succ m ih =>
    intro k I x hk h
    have bj : (vk a b c k >>> ((24 - 8 * jRem (nI k) 4) &&& 31)) &&& 255 = byt (vk a b c k) (k % 4) := by
      have e : jRem (nI k) 4 = nI (k % 4) := jRem_nI (n := 4) (by omega) (by decide) (by decide)
      rw [e]
      unfold byt
      obtain ⟨q0, q1, q2, q3⟩ := sh_and (vk a b c k)
      have : k % 4 = 0 ∨ k % 4 = 1 ∨ k % 4 = 2 ∨ k % 4 = 3 := by omega
      rcases this with z | z | z | z <;> rw [z]
      · exact q0.symm
      · exact q1.symm
      · exact q2.symm
      · exact q3.symm
    have st : ∀ Q : Po, E (d, 169, 18, [.ref 121, .int a, .int b, .int c, .int (nI k), x], [], I) Q ↔ E (d, 169, 47, [.ref 121, .int a, .int b, .int c, .int (nI k), x], [.int (vk a b c k)], I) Q := fun Q => by
      rw [b169_18, if_pos (show nI k < 12 from (show nI k < nI 12 from nI_lt (by omega) (by decide))), b169_25]
      unfold vk
      by_cases z4 : k < 4
      · rw [if_pos (show nI k < 4 from (show nI k < nI 4 from nI_lt z4 (by decide))), if_pos z4, b169_31]
      · rw [if_neg (show ¬ nI k < 4 from (show ¬ nI k < nI 4 from nI_nlt (by omega) (by omega))), if_neg z4, b169_35]
        by_cases z8 : k < 8
        · rw [if_pos (show nI k < 8 from (show nI k < nI 8 from nI_lt z8 (by decide))), if_pos z8, b169_42]
        · rw [if_neg (show ¬ nI k < 8 from (show ¬ nI k < nI 8 from nI_nlt (by omega) (by omega))), if_neg z8, b169_46]
    obtain ⟨I', r1, r2, r3, r4, r5, r6⟩ := ih (k + 1) (up (up I 134 (n + k) (byt (vk a b c k) (k % 4))) 121 14 (nI (n + k + 1))) (.int (vk a b c k)) (by omega) (by rw [up_s]; rfl)
    refine ⟨I', fun Q => ?_, r2, fun j h1 h2 => ?_, fun i hi => ?_, fun s hs => ?_, fun c' z1 z2 => ?_⟩
    · rw [st Q, b169_47, and_iff_right (by decide), h, and_iff_right (vp_in_nI (by omega) (by decide)), nI_clamp (by omega), bj, up_c (by decide), h, nI_1, nI_1]
      exact r1 Q
    · by_cases z : j = k
      · subst z
        rw [r4 (n + j) (by omega), up_c (by decide), up_s]
      · exact r3 j (by omega) h2
    · rw [r4 i (by omega), up_c (by decide), up_k (by omega)]
    · rw [r5 s hs, up_k hs, up_c (by decide)]
    · rw [r6 c' z1 z2, up_c z1, up_c z2]
/-- promise 22 -/
theorem m89 (C : Cp M N T) {a b c : Int32} : Ok (d + 200) M 89 [.ref 0, .int a, .int b, .int c, UN] 169 [.ref 121, .int a, .int b, .int c, UN, UN] := by
  obtain ⟨n, n96, t1, t2, t3⟩ := C.t
  have e12 : nI n + 12 = nI (n + 12) := nI_k n 12 12 (by decide)
  by_cases h0 : n + 12 ≤ 96
  rotate_left
  · refine Ok.ret C (-1000000003) (fun Q => ?_) (fun Q => ?_)
    · rw [b89_0, t1, e12, if_pos (show (96 : Int32) < nI (n + 12) from (show nI 96 < nI (n + 12) from nI_lt (by omega) (by omega))), b89_22]
    · rw [b169_0, t2, e12, if_pos (show (96 : Int32) < nI (n + 12) from (show nI 96 < nI (n + 12) from nI_lt (by omega) (by omega))), b169_12]
  have w1 : ∀ (I : IM) (n : Nat) (v : Int32), (tp1 I n v) 42 1 = nI (n + 1) := fun I n v => up_s
  generalize hM1 : tp1 (tp1 (tp1 (tp1 M n (byt a 0)) (n + 1) (byt a 1)) (n + 2) (byt a 2)) (n + 3) (byt a 3) = M1
  have s1 : M1 42 1 = nI (n + 4) := by rw [← hM1]; exact w1 _ _ _
  generalize hM2 : tp1 (tp1 (tp1 (tp1 M1 (n + 4) (byt b 0)) (n + 4 + 1) (byt b 1)) (n + 4 + 2) (byt b 2)) (n + 4 + 3) (byt b 3) = M2
  have s2 : M2 42 1 = nI (n + 8) := by rw [← hM2]; exact w1 _ _ _
  generalize hM3 : tp1 (tp1 (tp1 (tp1 M2 (n + 8) (byt c 0)) (n + 8 + 1) (byt c 1)) (n + 8 + 2) (byt c 2)) (n + 8 + 3) (byt c 3) = M3
  have s3 : M3 42 1 = nI (n + 12) := by rw [← hM3]; exact w1 _ _ _
  have fr : ∀ c', c' ≠ 42 → c' ≠ 43 → M3 c' = M c' := fun c' z1 z2 => by
    rw [← hM3, tp1_c z1 z2, tp1_c z1 z2, tp1_c z1 z2, tp1_c z1 z2, ← hM2, tp1_c z1 z2, tp1_c z1 z2, tp1_c z1 z2, tp1_c z1 z2, ← hM1, tp1_c z1 z2, tp1_c z1 z2, tp1_c z1 z2, tp1_c z1 z2]
  have lo : ∀ i, i < n → M3 43 i = M 43 i := fun i hi => by
    have w : ∀ (I : IM) (m : Nat) (v : Int32), n ≤ m → (tp1 I m v) 43 i = I 43 i := fun I m v hm => by rw [tp1_43, if_neg (by omega)]
    rw [← hM3, w _ _ _ (by omega), w _ _ _ (by omega), w _ _ _ (by omega), w _ _ _ (by omega), ← hM2, w _ _ _ (by omega), w _ _ _ (by omega), w _ _ _ (by omega), w _ _ _ (by omega), ← hM1, w _ _ _ (by omega), w _ _ _ (by omega), w _ _ _ (by omega), w _ _ _ (by omega)]
  have hi : ∀ j, j < 12 → M3 43 (n + j) = byt (vk a b c j) (j % 4) := fun j hj => by
    have : j = 0 ∨ j = 1 ∨ j = 2 ∨ j = 3 ∨ j = 4 ∨ j = 5 ∨ j = 6 ∨ j = 7 ∨ j = 8 ∨ j = 9 ∨ j = 10 ∨ j = 11 := by omega
    have w : ∀ (I : IM) (m i : Nat) (v : Int32), i ≠ m → (tp1 I m v) 43 i = I 43 i := fun I m i v hm => by rw [tp1_43, if_neg hm]
    have w' : ∀ (I : IM) (m i : Nat) (v : Int32), i = m → (tp1 I m v) 43 i = v := fun I m i v hm => by rw [tp1_43, if_pos hm]
    rw [← hM3, ← hM2, ← hM1]
    rcases this with rfl | rfl | rfl | rfl | rfl | rfl | rfl | rfl | rfl | rfl | rfl | rfl
    · rw [w _ _ _ _ (by omega), w _ _ _ _ (by omega), w _ _ _ _ (by omega), w _ _ _ _ (by omega), w _ _ _ _ (by omega), w _ _ _ _ (by omega), w _ _ _ _ (by omega), w _ _ _ _ (by omega), w _ _ _ _ (by omega), w _ _ _ _ (by omega), w _ _ _ _ (by omega), w' _ _ _ _ (by omega)]; rfl
    · rw [w _ _ _ _ (by omega), w _ _ _ _ (by omega), w _ _ _ _ (by omega), w _ _ _ _ (by omega), w _ _ _ _ (by omega), w _ _ _ _ (by omega), w _ _ _ _ (by omega), w _ _ _ _ (by omega), w _ _ _ _ (by omega), w _ _ _ _ (by omega), w' _ _ _ _ (by omega)]; rfl
    · rw [w _ _ _ _ (by omega), w _ _ _ _ (by omega), w _ _ _ _ (by omega), w _ _ _ _ (by omega), w _ _ _ _ (by omega), w _ _ _ _ (by omega), w _ _ _ _ (by omega), w _ _ _ _ (by omega), w _ _ _ _ (by omega), w' _ _ _ _ (by omega)]; rfl
    · rw [w _ _ _ _ (by omega), w _ _ _ _ (by omega), w _ _ _ _ (by omega), w _ _ _ _ (by omega), w _ _ _ _ (by omega), w _ _ _ _ (by omega), w _ _ _ _ (by omega), w _ _ _ _ (by omega), w' _ _ _ _ (by omega)]; rfl
    · rw [w _ _ _ _ (by omega), w _ _ _ _ (by omega), w _ _ _ _ (by omega), w _ _ _ _ (by omega), w _ _ _ _ (by omega), w _ _ _ _ (by omega), w _ _ _ _ (by omega), w' _ _ _ _ (by omega)]; rfl
    · rw [w _ _ _ _ (by omega), w _ _ _ _ (by omega), w _ _ _ _ (by omega), w _ _ _ _ (by omega), w _ _ _ _ (by omega), w _ _ _ _ (by omega), w' _ _ _ _ (by omega)]; rfl
    · rw [w _ _ _ _ (by omega), w _ _ _ _ (by omega), w _ _ _ _ (by omega), w _ _ _ _ (by omega), w _ _ _ _ (by omega), w' _ _ _ _ (by omega)]; rfl
    · rw [w _ _ _ _ (by omega), w _ _ _ _ (by omega), w _ _ _ _ (by omega), w _ _ _ _ (by omega), w' _ _ _ _ (by omega)]; rfl
    · rw [w _ _ _ _ (by omega), w _ _ _ _ (by omega), w _ _ _ _ (by omega), w' _ _ _ _ (by omega)]; rfl
    · rw [w _ _ _ _ (by omega), w _ _ _ _ (by omega), w' _ _ _ _ (by omega)]; rfl
    · rw [w _ _ _ _ (by omega), w' _ _ _ _ (by omega)]; rfl
    · rw [w' _ _ _ _ (by omega)]; rfl
  obtain ⟨M4, r1, r2, r3, r4, r5, r6⟩ := k169_loop (d := d + 200) (a := a) (b := b) (c := c) (n := n) h0 12 0 M3 UN (by omega) (by rw [fr 121 (by decide) (by decide)]; exact t2)
  refine ⟨nI (n + 12), M3, M4, fun Q => ?_, fun Q => ?_, ⟨N, T, C.tp ⟨n + 12, h0, by rw [r6 42 (by decide) (by decide)]; exact s3, r2, fun i hi' => ?_⟩ (fun c' z1 z2 z3 z4 => by rw [r6 c' z3 z4, fr c' z1 z2]) (by rw [r5 3 (by decide), fr 121 (by decide) (by decide)]) (by rw [r5 29 (by decide), fr 121 (by decide) (by decide)])⟩, fun c' hc => by rw [r6 c' (by omega) (by omega), fr c' (by omega) (by omega)]⟩
  · rw [b89_0, t1, e12, if_neg (show ¬ (96 : Int32) < nI (n + 12) from (show ¬ nI 96 < nI (n + 12) from nI_nlt (by omega) (by decide))), b89_25, k59 (by omega) t1, hM1, b89_31, k59 (by omega) s1, hM2, b89_37, k59 (by omega) s2, hM3, b89_43, s3]
  · rw [b169_0, fr 121 (by decide) (by decide), t2, e12, if_neg (show ¬ (96 : Int32) < nI (n + 12) from (show ¬ nI 96 < nI (n + 12) from nI_nlt (by omega) (by decide))), b169_15]
    exact r1 Q
  · rw [r6 43 (by decide) (by decide)]
    by_cases z : i < n
    · rw [lo i z, r4 i (by omega), fr 134 (by decide) (by decide)]
      exact t3 i z
    · have e : i = n + (i - n) := by omega
      rw [e, hi (i - n) (by omega), r3 (i - n) (by omega) (by omega)]
      exact ⟨rfl, and255 _⟩
end K8
