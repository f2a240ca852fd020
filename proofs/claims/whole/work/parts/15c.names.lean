/-! names, words, steps -/
theorem aNarY0 : aNar (some .byte) 0 = True := eq_true (show narrow .byte (.int 0) = .int 0 by decide +kernel)
theorem chr_ok : ∀ j, j < 6 → ∀ i, i < (aStrBy j).length → narrow .char (.int (((Int32.toUInt32 (((aStrBy j).getD i 0) &&& 255)) % 65536).toInt32)) = .int (((Int32.toUInt32 (((aStrBy j).getD i 0) &&& 255)) % 65536).toInt32) ∧ ((Int32.toUInt32 (((aStrBy j).getD i 0) &&& 255)) % 65536).toInt32 = (aStrBy j).getD i 0 := by decide +kernel
theorem str_len : ∀ j, j < 6 → (aStrBy j).length ≤ 4 ∧ 0 < (aStrBy j).length := by decide +kernel
def fnd (j : Nat) (c : Int32) : Nat → Nat → Int32
  | 0, _ => -1
  | k + 1, i => if (aStrBy j).getD i 0 = c then nI i else fnd j c k (i + 1)
theorem low8 : ∀ k, k < 128 → (Int32.toInt8 (nI k)).toInt32 = nI k ∧ ((Int32.toUInt32 (nI k)) % 65536).toInt32 = nI k := by decide +kernel
section NM
variable {d : Nat} {M I : IM} {Q : Po} {n : Nat} {tp : Nat → Int32}
theorem k5 {j : Nat} (hj : j < 6) : E (d, 5, 0, [.ref (1010 + j)], [], I) Q ↔ Q (.int 0) I := by
  rw [b5_0, if_neg (by decide), b5_6 (by omega), b5_14, aNarY0, true_and]
theorem k6 {j : Nat} (hj : j < 6) : E (d, 6, 0, [.ref (1010 + j)], [], I) Q ↔ Q (.int 1) I := by
  rw [b6_0, if_neg (by decide), b6_6 (by omega), if_pos rfl, b6_13, b6_18, aNar1, true_and]
theorem k1s {j : Nat} (hj : j < 6) : E (d + 1, 1, 0, [.ref (1010 + j)], [], I) Q ↔ Q (.int (nI (aStrBy j).length)) I := by
  have e : ∀ j, j < 6 → nI (aStrBy j).length >>> ((0 : Int32) &&& 31) = nI (aStrBy j).length := by decide +kernel
  rw [b1_0 (by omega), k5 hj, b1_9, show 1010 + j + 10 - 1020 = j by omega, e j hj]
theorem k2s {j i : Nat} (hj : j < 6) (hi : i < (aStrBy j).length) : E (d + 3, 2, 0, [.ref (1010 + j), .int (nI i)], [], I) Q ↔ Q (.int ((aStrBy j).getD i 0)) I := by
  obtain ⟨c1, c2⟩ := chr_ok j hj i hi
  have hl := str_len j hj
  have c1' : aNar (some .char) (((Int32.toUInt32 (((aStrBy j).getD i 0) &&& 255)) % 65536).toInt32) = True := eq_true c1
  rw [b2_0 (by omega), k6 hj, b2_4, if_neg (by decide), b2_7 (by omega), b8_0 (by omega), b7_0, b12_0, if_neg (nI_pos (by omega)), b12_4, show 1010 + j + 10 - 1020 = j by omega, if_pos (nI_lt hi (by omega)), b12_16, b7_8, b8_6 (by omega), show 1010 + j + 10 - 1020 = j by omega, and_iff_right (vp_in_nI hi (by omega)), nI_clamp (by omega), c1', true_and, b2_15]
  rw [c2] at c1' ⊢
  rw [c1', true_and]
theorem k11s {j : Nat} (hj : j < 6) {c x y : Int32} : ∀ (k i : Nat), i + k = (aStrBy j).length → (E (d, 11, 7, [.ref (1020 + j), .int x, .int y, .int (nI (aStrBy j).length), .int c, .int (nI i)], [], I) Q ↔ Q (.int (fnd j c k i)) I) := by
  have hl := str_len j hj
  intro k
  induction k with
  | zero =>
    intro i hi
    rw [b11_7, if_neg (nI_nlt (by omega) (by omega)), b11_31]
    exact Iff.rfl
  | succ k ih =>
    intro i hi
    show _ ↔ Q (.int (if (aStrBy j).getD i 0 = c then nI i else fnd j c k (i + 1))) I
    rw [b11_7, if_pos (nI_lt (by omega) (by omega)), b11_13 (by omega), show 1020 + j - 1020 = j by omega, and_iff_right (vp_in_nI (by omega) (by omega)), nI_clamp (by omega), b11_22, b11_25, nI_1, ih (i + 1) (by omega), QI (Q := Q)]
theorem k3s {j k : Nat} (hj : j < 6) (hk : k < 128) : E (d + 4, 3, 0, [.ref (1010 + j), .int (nI k)], [], I) Q ↔ Q (.int (fnd j (nI k) (aStrBy j).length 0)) I := by
  have hl := str_len j hj
  have e1 : (if (0 : Int32) < 0 then 0 else 0 : Int32) = 0 := rfl
  have e2 : (if nI (aStrBy j).length < nI (aStrBy j).length then nI (aStrBy j).length else nI (aStrBy j).length) = nI (aStrBy j).length := by rw [if_neg (nI_nlt (Nat.le_refl _) (by omega))]
  rw [b3_0 (by omega), b4_0 (by omega), k6 hj, b4_4, if_neg (by decide), b4_7 (by omega), k1s hj, b4_17, b10_0, b9_0, if_neg (nI_pos (by omega)), b9_4, if_neg (show ¬ (255 : Int32) < nI k from (show ¬ nI 255 < nI k from nI_nlt (by omega) (by decide))), b9_11, b9_16, aNar1, true_and, b10_4, if_neg (by decide), b10_9 (by omega), show 1010 + j + 10 - 1020 = j by omega, e1, e2, if_pos (show (0 : Int32) < nI (aStrBy j).length from (show nI 0 < nI (aStrBy j).length from nI_lt hl.2 (by omega))), b10_29, b11_0, (low8 k hk).1]
  have := k11s (d := d + 1) (I := I) (j := j) (c := nI k) (x := nI k) (y := 0) (Q := fun r I' => E (d + 1 + 1, 10, 36, [.ref (1020 + j), .int (nI k), .int 0, .int (nI (aStrBy j).length)], [r], I') (fun r I' => E (d + 2 + 1, 4, 20, [.ref (1010 + j), .int (nI k), .int 0], [r], I') (fun r I' => E (d + 3 + 1, 3, 6, [.ref (1010 + j), .int (nI k)], [r], I') Q))) hj (aStrBy j).length 0 (by omega)
  rw [nI_0] at this
  rw [show 1010 + j + 10 = 1020 + j by omega]
  refine Iff.trans this ?_
  rw [b10_36, b4_20, b4_36, b3_6]
/-- which name it is -/
theorem k66 {j st sp so : Nat} (hj : j < 6) (hn : n ≤ 96) (h2 : I 42 2 = nI so) (hso : so ≤ 4) (h3 : I 42 3 = nI st) (h4 : I 42 4 = nI sp) (hs : st ≤ sp) (hsp : sp ≤ n) (hb : ∀ i, i < n → I 43 i = tp i) (hl : so = 1 → st < n ∧ tyV (tp st) = 1) : E (d + 5, 66, 0, [.ref 42, .ref (1010 + j)], [], I) Q ↔ Q (.int (if so = 1 ∧ sp - st = 1 then fnd j (tp st) (aStrBy j).length 0 else -1)) I := by
  rw [b66_0, h2]
  by_cases z1 : so = 1
  · rw [if_pos (by rw [z1]; decide), b66_8, h3, h4, nI_sub hs]
    by_cases z2 : sp - st = 1
    · obtain ⟨l1, l2⟩ := hl z1
      obtain ⟨m1, m2⟩ := (tyV_1 _).mp l2
      have y1 := Int32.le_iff_toInt_le.mp m1
      have y2 := Int32.le_iff_toInt_le.mp m2
      rw [show (97 : Int32).toInt = 97 by decide] at y1
      rw [show (122 : Int32).toInt = 122 by decide] at y2
      obtain ⟨k, k1, k2⟩ : ∃ k : Nat, k < 128 ∧ tp st = nI k := ⟨(tp st).toInt.toNat, by omega, Int32.toInt_inj.mp (by rw [nI_toInt (by omega)]; omega)⟩
      rw [if_pos (by rw [z2]; decide), b66_21, h3, k67 (by omega), hb st l1, b66_30 (by omega), k2, (low8 k k1).2, k3s hj k1, b66_34, b66_38, if_pos ⟨z1, z2⟩]
    · rw [if_neg (show ¬ nI (sp - st) = 1 from fun e => z2 ((nI_eqI (b := 1) (by omega) (by decide)).mp e)), b66_37, b66_38, if_neg (fun e => z2 e.2)]
  · rw [if_neg (show ¬ nI so = 1 from fun e => z1 ((nI_eqI (b := 1) (by omega) (by decide)).mp e)), b66_37, b66_38, if_neg (fun e => z1 e.1)]
theorem k47 {key : Nat} (hk : key < 3) : E (d, 47, 0, [.int (nI key)], [], I) Q ↔ Q (.ref (1013 + key)) I := by
  have : key = 0 ∨ key = 1 ∨ key = 2 := by omega
  rcases this with rfl | rfl | rfl
  · rw [b47_0, if_pos (by decide), b47_28]
  · rw [b47_0, if_neg (by decide), if_pos (by decide), b47_31]
  · rw [b47_0, if_neg (by decide), if_neg (by decide), b47_34]
theorem k46 {key : Nat} (hk : key < 3) : E (d, 46, 0, [.int (nI key)], [], I) Q ↔ Q (.ref (1010 + key)) I := by
  have : key = 0 ∨ key = 1 ∨ key = 2 := by omega
  rcases this with rfl | rfl | rfl
  · rw [b46_0, if_pos (by decide), b46_28]
  · rw [b46_0, if_neg (by decide), if_pos (by decide), b46_31]
  · rw [b46_0, if_neg (by decide), if_neg (by decide), b46_34]
/-- names: the class's index, and the reference's test -/
theorem fnd_nm {key : Nat} (hk : key < 3) (c : Int32) : (okNm (nI key) c → fnd (3 + key) c (aStrBy (3 + key)).length 0 = nmIx (nI key) c ∧ ¬ nmIx (nI key) c < 0) ∧ (¬ okNm (nI key) c → fnd (3 + key) c (aStrBy (3 + key)).length 0 = -1) := by
  have : key = 0 ∨ key = 1 ∨ key = 2 := by omega
  rcases this with rfl | rfl | rfl
  · have e : fnd 3 c (aStrBy 3).length 0 = if 111 = c then nI 0 else if 119 = c then nI 1 else if 116 = c then nI 2 else if 110 = c then nI 3 else -1 := rfl
    constructor
    · rintro (⟨-, rfl | rfl | rfl | rfl⟩ | ⟨z, -⟩ | ⟨z, -⟩)
      · exact ⟨by decide +kernel, by decide +kernel⟩
      · exact ⟨by decide +kernel, by decide +kernel⟩
      · exact ⟨by decide +kernel, by decide +kernel⟩
      · exact ⟨by decide +kernel, by decide +kernel⟩
      · exact absurd z (by decide)
      · exact absurd z (by decide)
    · intro h
      show fnd 3 c (aStrBy 3).length 0 = -1
      rw [e, if_neg (fun z => h (Or.inl ⟨by decide, Or.inl z.symm⟩)), if_neg (fun z => h (Or.inl ⟨by decide, Or.inr (Or.inl z.symm)⟩)), if_neg (fun z => h (Or.inl ⟨by decide, Or.inr (Or.inr (Or.inl z.symm))⟩)), if_neg (fun z => h (Or.inl ⟨by decide, Or.inr (Or.inr (Or.inr z.symm))⟩))]
  · have e : fnd 4 c (aStrBy 4).length 0 = if 115 = c then nI 0 else if 102 = c then nI 1 else -1 := rfl
    constructor
    · rintro (⟨z, -⟩ | ⟨-, rfl | rfl⟩ | ⟨z, -⟩)
      · exact absurd z (by decide)
      · exact ⟨by decide +kernel, by decide +kernel⟩
      · exact ⟨by decide +kernel, by decide +kernel⟩
      · exact absurd z (by decide)
    · intro h
      show fnd 4 c (aStrBy 4).length 0 = -1
      rw [e, if_neg (fun z => h (Or.inr (Or.inl ⟨by decide, Or.inl z.symm⟩))), if_neg (fun z => h (Or.inr (Or.inl ⟨by decide, Or.inr z.symm⟩)))]
  · have e : fnd 5 c (aStrBy 5).length 0 = if 111 = c then nI 0 else if 119 = c then nI 1 else -1 := rfl
    constructor
    · rintro (⟨z, -⟩ | ⟨z, -⟩ | ⟨-, rfl | rfl⟩)
      · exact absurd z (by decide)
      · exact absurd z (by decide)
      · exact ⟨by decide +kernel, by decide +kernel⟩
      · exact ⟨by decide +kernel, by decide +kernel⟩
    · intro h
      show fnd 5 c (aStrBy 5).length 0 = -1
      rw [e, if_neg (fun z => h (Or.inr (Or.inr ⟨by decide, Or.inl z.symm⟩))), if_neg (fun z => h (Or.inr (Or.inr ⟨by decide, Or.inr z.symm⟩)))]
theorem k177t {key : Nat} (hk : key < 3) {c : Int32} (h : okNm (nI key) c) : E (d, 177, 0, [.int (nI key), .int c], [], I) Q ↔ Q (.int 1) I := by
  simp only [b177_0, b177_28, b177_34, b177_40, b177_46, b177_52, b177_56, b177_57, b177_58, b177_64, b177_70, b177_74, b177_75, b177_76, b177_82, b177_88, b177_92, b177_93, aNar0, aNar1, true_and]
  have : key = 0 ∨ key = 1 ∨ key = 2 := by omega
  rcases this with rfl | rfl | rfl
  · rcases h with ⟨-, rfl | rfl | rfl | rfl⟩ | ⟨z, -⟩ | ⟨z, -⟩
    · simp (decide := true) only [if_true, if_false]
    · simp (decide := true) only [if_true, if_false]
    · simp (decide := true) only [if_true, if_false]
    · simp (decide := true) only [if_true, if_false]
    · exact absurd z (by decide)
    · exact absurd z (by decide)
  · rcases h with ⟨z, -⟩ | ⟨-, rfl | rfl⟩ | ⟨z, -⟩
    · exact absurd z (by decide)
    · simp (decide := true) only [if_true, if_false]
    · simp (decide := true) only [if_true, if_false]
    · exact absurd z (by decide)
  · rcases h with ⟨z, -⟩ | ⟨z, -⟩ | ⟨-, rfl | rfl⟩
    · exact absurd z (by decide)
    · exact absurd z (by decide)
    · simp (decide := true) only [if_true, if_false]
    · simp (decide := true) only [if_true, if_false]
theorem k177f {key : Nat} (hk : key < 3) {c : Int32} (h : ¬ okNm (nI key) c) : E (d, 177, 0, [.int (nI key), .int c], [], I) Q ↔ Q (.int 0) I := by
  simp only [b177_0, b177_28, b177_34, b177_40, b177_46, b177_52, b177_56, b177_57, b177_58, b177_64, b177_70, b177_74, b177_75, b177_76, b177_82, b177_88, b177_92, b177_93, aNar0, aNar1, true_and]
  have : key = 0 ∨ key = 1 ∨ key = 2 := by omega
  rcases this with rfl | rfl | rfl
  · rw [if_pos (by decide), if_neg (fun z => h (Or.inl ⟨by decide, Or.inl z⟩)), if_neg (fun z => h (Or.inl ⟨by decide, Or.inr (Or.inl z)⟩)), if_neg (fun z => h (Or.inl ⟨by decide, Or.inr (Or.inr (Or.inl z))⟩)), if_neg (fun z => h (Or.inl ⟨by decide, Or.inr (Or.inr (Or.inr z))⟩))]
  · rw [if_neg (by decide), if_pos (by decide), if_neg (fun z => h (Or.inr (Or.inl ⟨by decide, Or.inl z⟩))), if_neg (fun z => h (Or.inr (Or.inl ⟨by decide, Or.inr z⟩)))]
  · rw [if_neg (by decide), if_neg (by decide), if_neg (fun z => h (Or.inr (Or.inr ⟨by decide, Or.inl z⟩))), if_neg (fun z => h (Or.inr (Or.inr ⟨by decide, Or.inr z⟩)))]
/-- is it a word -/
def wd (tp : Nat → Int32) (so st sp j : Nat) : Prop := so = 1 ∧ sp - st = (aStrBy j).length ∧ ∀ i, i < (aStrBy j).length → tp (st + i) = (aStrBy j).getD i 0
theorem k63 {j st sp so : Nat} (hj : j < 6) (hn : n ≤ 96) (h2 : I 42 2 = nI so) (hso : so ≤ 4) (h3 : I 42 3 = nI st) (h4 : I 42 4 = nI sp) (hs : st ≤ sp) (hsp : sp ≤ n) (hb : ∀ i, i < n → I 43 i = tp i) {x : Value} : (wd tp so st sp j → (E (d + 4, 63, 0, [.ref 42, .ref (1010 + j), x], [], I) Q ↔ Q (.int 1) I)) ∧ (¬ wd tp so st sp j → (E (d + 4, 63, 0, [.ref 42, .ref (1010 + j), x], [], I) Q ↔ Q (.int 0) I)) := by
  have hl := str_len j hj
  by_cases z1 : so = 1
  · by_cases z2 : sp - st = (aStrBy j).length
    · have st1 : E (d + 4, 63, 0, [.ref 42, .ref (1010 + j), x], [], I) Q ↔ E (d + 4, 63, 28, [.ref 42, .ref (1010 + j), .int (nI 0)], [], I) Q := by
        rw [b63_0, h2, if_pos (by rw [z1]; decide), b63_8 (by omega), k1s hj, h3, h4, nI_sub hs, b63_21, if_pos (by rw [z2]), b63_26, nI_0]
      have loop : ∀ (k i : Nat), i + k = (aStrBy j).length → ((∀ q, i ≤ q → q < (aStrBy j).length → tp (st + q) = (aStrBy j).getD q 0) → (E (d + 4, 63, 28, [.ref 42, .ref (1010 + j), .int (nI i)], [], I) Q ↔ Q (.int 1) I)) ∧ ((¬ ∀ q, i ≤ q → q < (aStrBy j).length → tp (st + q) = (aStrBy j).getD q 0) → (E (d + 4, 63, 28, [.ref 42, .ref (1010 + j), .int (nI i)], [], I) Q ↔ Q (.int 0) I)) := by
        intro k
        induction k with
        | zero =>
          intro i hi
          refine ⟨fun _ => ?_, fun z => absurd (fun q q1 q2 => by omega) z⟩
          rw [b63_28 (by omega), k1s hj, b63_33, if_neg (nI_nlt (by omega) (by omega)), b63_62]
        | succ k ih =>
          intro i hi
          obtain ⟨i1, i2⟩ := ih (i + 1) (by omega)
          have st2 : E (d + 4, 63, 28, [.ref 42, .ref (1010 + j), .int (nI i)], [], I) Q ↔ if tp (st + i) = (aStrBy j).getD i 0 then E (d + 4, 63, 28, [.ref 42, .ref (1010 + j), .int (nI (i + 1))], [], I) Q else Q (.int 0) I := by
            rw [b63_28 (by omega), k1s hj, b63_33, if_pos (nI_lt (by omega) (by omega)), b63_36, h3, nI_add, k67 (by omega), hb _ (by omega), b63_46 (by omega), k2s hj (by omega), b63_51, b63_56, nI_1, b63_54]
          refine ⟨fun z => ?_, fun z => ?_⟩
          · rw [st2, if_pos (z i (Nat.le_refl _) (by omega))]
            exact i1 (fun q q1 q2 => z q (by omega) q2)
          · rw [st2]
            by_cases y : tp (st + i) = (aStrBy j).getD i 0
            · rw [if_pos y]
              refine i2 (fun w => z (fun q q1 q2 => ?_))
              by_cases e : q = i
              · rw [e]; exact y
              · exact w q (by omega) q2
            · rw [if_neg y]
      obtain ⟨l1, l2⟩ := loop (aStrBy j).length 0 (by omega)
      refine ⟨fun w => ?_, fun w => ?_⟩
      · rw [st1]; exact l1 (fun q _ q2 => w.2.2 q q2)
      · rw [st1]; exact l2 (fun z => w ⟨z1, z2, fun q q2 => z q (by omega) q2⟩)
    · refine ⟨fun w => absurd w.2.1 z2, fun _ => ?_⟩
      rw [b63_0, h2, if_pos (by rw [z1]; decide), b63_8 (by omega), k1s hj, h3, h4, nI_sub hs, b63_21, if_neg (fun e => z2 ((nI_eqI (by omega) (by omega)).mp e)), b63_24]
  · refine ⟨fun w => absurd w.1 z1, fun _ => ?_⟩
    rw [b63_0, h2, if_neg (show ¬ nI so = 1 from fun e => z1 ((nI_eqI (b := 1) (by omega) (by decide)).mp e)), b63_24]
theorem tk {so st sp : Nat} (hso : so ≤ 4) (h : tokR I tp so st sp) : (I 121 17 = 0 ↔ so = 0) ∧ (I 121 17 = 1 ↔ so = 1) ∧ (I 121 17 = 3 ↔ so = 3) ∧ (I 121 17 = 2 ↔ (so = 2 ∧ sp - st ≤ 4)) := by
  obtain ⟨t0, t1, t2, t3, t4⟩ := h
  have : so = 0 ∨ so = 1 ∨ so = 2 ∨ so = 3 ∨ so = 4 := by omega
  rcases this with rfl | rfl | rfl | rfl | rfl
  · rw [t0 rfl]; exact ⟨by decide, by decide, by decide, ⟨fun z => absurd z (by decide), fun z => absurd z.1 (by decide)⟩⟩
  · rw [(t1 rfl).1]; exact ⟨by decide, by decide, by decide, ⟨fun z => absurd z (by decide), fun z => absurd z.1 (by decide)⟩⟩
  · obtain ⟨u1, u2⟩ := t2 rfl
    by_cases z : sp - st ≤ 4
    · rw [(u1 z).1]; exact ⟨by decide, by decide, by decide, ⟨fun _ => ⟨rfl, z⟩, fun _ => by decide⟩⟩
    · rw [u2 (by omega)]; exact ⟨by decide, by decide, by decide, ⟨fun w => absurd w (by decide), fun w => absurd w.2 z⟩⟩
  · rw [(t3 rfl).1]; exact ⟨by decide, by decide, by decide, ⟨fun z => absurd z (by decide), fun z => absurd z.1 (by decide)⟩⟩
  · rw [t4 rfl]; exact ⟨by decide, by decide, by decide, ⟨fun z => absurd z (by decide), fun z => absurd z.1 (by decide)⟩⟩
theorem k174 {so st sp : Nat} {c : Int32} (hso : so ≤ 4) (h : tokR I tp so st sp) : E (d, 174, 0, [.ref 121, .int c], [], I) Q ↔ Q (.int (b01 (so = 3 ∧ tp st = c))) I := by
  rw [b174_0]
  by_cases z : so = 3
  · rw [if_pos ((tk hso h).2.2.1.mpr z), b174_8, (h.2.2.2.1 z).2, b174_16, b174_20, b174_21, b174_21, aNar0, aNar1, true_and, true_and]
    by_cases y : tp st = c
    · rw [if_pos y, b01_t ⟨z, y⟩]
    · rw [if_neg y, b01_f (fun w => y w.2)]
  · rw [if_neg (fun w => z ((tk hso h).2.2.1.mp w)), b174_20, b174_21, aNar0, true_and, b01_f (fun w => z w.1)]
theorem k62 {so st : Nat} (hso : so ≤ 4) (h2 : I 42 2 = nI so) (h3 : I 42 3 = nI st) (hb : so = 3 → st < n) (hn : n ≤ 96) (hB : ∀ i, i < n → I 43 i = tp i) : E (d + 1, 62, 0, [.ref 42], [], I) Q ↔ Q (.int (if so = 3 then tp st else -1)) I := by
  rw [b62_0, h2]
  by_cases z : so = 3
  · rw [if_pos (by rw [z]; decide), b62_8, h3, k67 (by have := hb z; omega), hB _ (hb z), b62_16, b62_20, if_pos z]
  · rw [if_neg (show ¬ nI so = 3 from fun e => z ((nI_eqI (b := 3) (by omega) (by decide)).mp e)), b62_19, b62_20, if_neg z]
theorem k175 {so st sp : Nat} {a b c e : Int32} (hn : n ≤ 96) (hso : so ≤ 4) (h : tokR I tp so st sp) (h5 : I 121 15 = nI st) (h6 : I 121 16 = nI sp) (hs : st ≤ sp) (hsp : sp ≤ n) (hb : ∀ i, i < n → I 134 i = tp i) {x : Value} : E (d, 175, 0, [.ref 121, .int a, .int b, .int c, .int e, x], [], I) Q ↔ Q (.int (b01 (so = 1 ∧ sp - st = (if e = 0 then 3 else 4) ∧ tp st = a ∧ tp (st + 1) = b ∧ tp (st + 2) = c ∧ (e = 0 ∨ tp (st + 3) = e)))) I := by
  have e0 : E (d, 175, 0, [.ref 121, .int a, .int b, .int c, .int e, x], [], I) Q ↔ E (d, 175, 10, [.ref 121, .int a, .int b, .int c, .int e, x], [.int (nI (if e = 0 then 3 else 4))], I) Q := by
    rw [b175_0]
    by_cases z : e = 0
    · rw [if_pos z, if_pos z, b175_5]; exact Iff.rfl
    · rw [if_neg z, if_neg z, b175_9]; exact Iff.rfl
  have hL : (if e = 0 then 3 else 4) ≤ 4 ∧ 3 ≤ (if e = 0 then 3 else 4) := by
    by_cases z : e = 0
    · rw [if_pos z]; omega
    · rw [if_neg z]; omega
  generalize hLd : (if e = 0 then 3 else 4) = L at *
  rw [e0, b175_10]
  have no : ∀ y : Value, ¬ (so = 1 ∧ sp - st = L ∧ tp st = a ∧ tp (st + 1) = b ∧ tp (st + 2) = c ∧ (e = 0 ∨ tp (st + 3) = e)) → (E (d, 175, 102, [.ref 121, .int a, .int b, .int c, .int e, .int (nI L)], [], I) Q ↔ Q (.int (b01 (so = 1 ∧ sp - st = L ∧ tp st = a ∧ tp (st + 1) = b ∧ tp (st + 2) = c ∧ (e = 0 ∨ tp (st + 3) = e)))) I) := fun y w => by
    rw [b175_102, b175_103, aNar0, true_and, b01_f w]
  by_cases z1 : so = 1
  rotate_left
  · rw [if_neg (fun w => z1 ((tk hso h).2.1.mp w))]; exact no x (fun w => z1 w.1)
  rw [if_pos ((tk hso h).2.1.mpr z1), b175_20, h5, h6, nI_sub hs]
  by_cases z2 : sp - st = L
  rotate_left
  · rw [if_neg (fun w => z2 ((nI_eqI (by omega) (by omega)).mp w))]; exact no x (fun w => z2 w.2.1)
  have e1 : nI st + 1 = nI (st + 1) := nI_1 st
  have e2 : nI st + 2 = nI (st + 2) := nI_k st 2 2 (by decide)
  have e3 : nI st + 3 = nI (st + 3) := nI_k st 3 3 (by decide)
  rw [if_pos (by rw [z2]), b175_34, h5, and_iff_right (vp_in_nI (by omega) (by decide)), nI_clamp (by omega), hb st (by omega)]
  by_cases z3 : tp st = a
  rotate_left
  · rw [if_neg z3]; exact no x (fun w => z3 w.2.2.1)
  rw [if_pos z3, b175_47, h5, e1, and_iff_right (vp_in_nI (by omega) (by decide)), nI_clamp (by omega), hb _ (by omega)]
  by_cases z4 : tp (st + 1) = b
  rotate_left
  · rw [if_neg z4]; exact no x (fun w => z4 w.2.2.2.1)
  rw [if_pos z4, b175_62, h5, e2, and_iff_right (vp_in_nI (by omega) (by decide)), nI_clamp (by omega), hb _ (by omega)]
  by_cases z5 : tp (st + 2) = c
  rotate_left
  · rw [if_neg z5]; exact no x (fun w => z5 w.2.2.2.2.1)
  rw [if_pos z5, b175_77]
  by_cases z6 : e = 0
  · rw [if_pos z6, b175_98, b175_103, aNar1, true_and, b01_t ⟨z1, z2, z3, z4, z5, Or.inl z6⟩]
  · rw [if_neg z6] at hLd
    rw [if_neg z6, b175_82, h5, e3, and_iff_right (vp_in_nI (by omega) (by decide)), nI_clamp (by omega), hb _ (by omega)]
    by_cases z7 : tp (st + 3) = e
    · rw [if_pos z7, b175_98, b175_103, aNar1, true_and, b01_t ⟨z1, z2, z3, z4, z5, Or.inr z7⟩]
    · rw [if_neg z7]; exact no x (fun w => w.2.2.2.2.2.elim z6 z7)
/-- steps -/
theorem k39 {t m : Nat} {v : Int32} (ht : t < 15) (hm : m < 96) (e : I (48 + 3 * t) 2 = nI m) : E (d + 1, 39, 0, [.ref (48 + 3 * t), .int v], [], I) Q ↔ Q .null (up (up I (49 + 3 * t) m v) (48 + 3 * t) 2 (nI (m + 1))) := by
  obtain ⟨s1, s2, s3, s4, s5, s6, s7⟩ := lw0 ht
  rw [b39_0 s1 (by rw [s2]; exact s4), k108, s2, s6, e, show nI 96 - 1 = nI 95 by decide, b01_t ⟨(le_nI (a := 0) (by decide) (by omega)).mpr (by omega), (le_nI (by omega) (by decide)).mpr (by omega)⟩, b39_15, if_neg (by decide), b39_18 s1 (by rw [s2]; exact s4), s2, s6, e, and_iff_right (vp_in_nI (by omega) (by decide)), nI_clamp (by omega), up_c (by omega), e, nI_1, b39_38]
theorem k178 {at_ m : Nat} {a v : Int32} (h : at_ + 2 * m + 1 < 3060) (e1 : I 121 23 = nI at_) (e2 : I 121 22 = nI m) : E (d, 178, 0, [.ref 121, .int a, .int v], [], I) Q ↔ Q .null (up (up (up I 122 (at_ + 2 * m) a) 122 (at_ + 2 * m + 1) v) 121 22 (nI (m + 1))) := by
  have i1 : nI at_ + 2 * nI m = nI (at_ + 2 * m) := by rw [show (2 : Int32) = nI 2 by decide, pk_mul, nI_add]
  rw [b178_0, e1, e2, i1, nI_clamp (by omega), up_c (by decide), e1, e2, i1, nI_1, nI_clamp (by omega), up_c (by decide), up_c (by decide), e2, nI_1, and_iff_right (vp_in_nI (by omega) (by decide)), and_iff_right (vp_in_nI (by omega) (by decide))]
end NM
