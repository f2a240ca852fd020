/-! levels of a text: signs, and rows of the reference's five methods -/
theorem lvl_c (c : Int32) : (c = 38 ∨ c = 42 ∨ c = 43 ∨ c = 45 ∨ c = 47 ∨ c = 60 ∨ c = 61 ∨ c = 62 ∨ c = 124) ∨ lvl c = -1 := by
  by_cases h38 : c = 38
  · exact Or.inl (Or.inl h38)
  by_cases h42 : c = 42
  · exact Or.inl (Or.inr (Or.inl h42))
  by_cases h43 : c = 43
  · exact Or.inl (Or.inr (Or.inr (Or.inl h43)))
  by_cases h45 : c = 45
  · exact Or.inl (Or.inr (Or.inr (Or.inr (Or.inl h45))))
  by_cases h47 : c = 47
  · exact Or.inl (Or.inr (Or.inr (Or.inr (Or.inr (Or.inl h47)))))
  by_cases h60 : c = 60
  · exact Or.inl (Or.inr (Or.inr (Or.inr (Or.inr (Or.inr (Or.inl h60))))))
  by_cases h61 : c = 61
  · exact Or.inl (Or.inr (Or.inr (Or.inr (Or.inr (Or.inr (Or.inr (Or.inl h61)))))))
  by_cases h62 : c = 62
  · exact Or.inl (Or.inr (Or.inr (Or.inr (Or.inr (Or.inr (Or.inr (Or.inr (Or.inl h62))))))))
  by_cases h124 : c = 124
  · exact Or.inl (Or.inr (Or.inr (Or.inr (Or.inr (Or.inr (Or.inr (Or.inr (Or.inr (h124)))))))))
  refine Or.inr ?_
  unfold lvl
  rw [if_neg h38, if_neg h42, if_neg h43, if_neg h45, if_neg h47, if_neg h60, if_neg h61, if_neg h62, if_neg h124]
theorem lvl_0 (c : Int32) : lvl c = nI 0 ↔ (c = 124) := by
  constructor
  · intro h
    rcases lvl_c c with (rfl | rfl | rfl | rfl | rfl | rfl | rfl | rfl | rfl) | z
    all_goals first | exact absurd h (by decide +kernel) | decide | (rw [z] at h; exact absurd h (by decide))
  · rintro rfl; decide +kernel
theorem lvl_1 (c : Int32) : lvl c = nI 1 ↔ (c = 38) := by
  constructor
  · intro h
    rcases lvl_c c with (rfl | rfl | rfl | rfl | rfl | rfl | rfl | rfl | rfl) | z
    all_goals first | exact absurd h (by decide +kernel) | decide | (rw [z] at h; exact absurd h (by decide))
  · rintro rfl; decide +kernel
theorem lvl_2 (c : Int32) : lvl c = nI 2 ↔ (c = 60 ∨ c = 61 ∨ c = 62) := by
  constructor
  · intro h
    rcases lvl_c c with (rfl | rfl | rfl | rfl | rfl | rfl | rfl | rfl | rfl) | z
    all_goals first | exact absurd h (by decide +kernel) | decide | (rw [z] at h; exact absurd h (by decide))
  · rintro (rfl | rfl | rfl) <;> decide +kernel
theorem lvl_3 (c : Int32) : lvl c = nI 3 ↔ (c = 43 ∨ c = 45) := by
  constructor
  · intro h
    rcases lvl_c c with (rfl | rfl | rfl | rfl | rfl | rfl | rfl | rfl | rfl) | z
    all_goals first | exact absurd h (by decide +kernel) | decide | (rw [z] at h; exact absurd h (by decide))
  · rintro (rfl | rfl) <;> decide +kernel
theorem lvl_4 (c : Int32) : lvl c = nI 4 ↔ (c = 42 ∨ c = 47) := by
  constructor
  · intro h
    rcases lvl_c c with (rfl | rfl | rfl | rfl | rfl | rfl | rfl | rfl | rfl) | z
    all_goals first | exact absurd h (by decide +kernel) | decide | (rw [z] at h; exact absurd h (by decide))
  · rintro (rfl | rfl) <;> decide +kernel
theorem lvl_sg {c : Int32} {L : Nat} (hL : L < 5) (h : lvl c = nI L) : okSg c ∧ ¬ c = 33 := by
  rcases lvl_c c with (rfl | rfl | rfl | rfl | rfl | rfl | rfl | rfl | rfl) | z
  all_goals first | (rw [z] at h; exact absurd h (by have : ∀ L, L < 5 → ¬ (-1 : Int32) = nI L := by decide
                                                     exact this L hL)) | (exact ⟨by unfold okSg; decide, by decide⟩)
theorem lvl_m1 {L : Nat} (hL : L < 5) : ¬ lvl (-1) = nI L := by
  have : ∀ L, L < 5 → ¬ lvl (-1) = nI L := by decide +kernel
  exact this L hL
section RW
variable {tp : Nat → Int32} {key D : Nat} {I I1 I2 I3 : IM} {k : Tk} {Q : Po} {x : Value}
theorem r179_e0 (s : Rn (D, 180, 0, [.ref 121, .int (nI key)], [], I) (.int 0) I1) : E (D + 1, 179, 0, [.ref 121, .int (nI key)], [], I) Q ↔ Q (.int 0) I1 := by
  rw [b179_0, s, b179_5, if_pos rfl, b179_8]
theorem r179_e1 (s : Rn (D, 180, 0, [.ref 121, .int (nI key)], [], I) (.int 1) I1) : E (D + 1, 179, 0, [.ref 121, .int (nI key)], [], I) Q ↔ E (D + 1, 179, 10, [.ref 121, .int (nI key)], [], I1) Q := by
  rw [b179_0, s, b179_5, if_neg (by decide)]
theorem r179_h1 (hk : k.1 ≤ 4) (hT : tokR I tp k.1 k.2.1 k.2.2) (hs : ¬ (k.1 = 3 ∧ lvl (tp k.2.1) = nI 0)) : E (D + 1, 179, 10, [.ref 121, .int (nI key)], [], I) Q ↔ Q (.int 1) I := by
  rw [b179_10, k174 hk hT, b179_16, ite_b01, if_neg (fun z => hs ⟨z.1, (lvl_0 _).mpr z.2⟩), b179_43]
theorem r179_go (hk : k.1 ≤ 4) (hT : tokR I tp k.1 k.2.1 k.2.2) (hs : k.1 = 3 ∧ lvl (tp k.2.1) = nI 0) : E (D + 1, 179, 10, [.ref 121, .int (nI key)], [], I) Q ↔ E (D + 1, 179, 19, [.ref 121, .int (nI key)], [], I) Q := by
  rw [b179_10, k174 hk hT, b179_16, ite_b01, if_pos ⟨hs.1, (lvl_0 _).mp hs.2⟩]
theorem r179_h2 (hk : k.1 ≤ 4) (hT : tokR I tp k.1 k.2.1 k.2.2) (hs : k.1 = 3 ∧ lvl (tp k.2.1) = nI 0) (n : Rn (D, 173, 0, [.ref 121, UN, UN], [], I) .null I1) (s : Rn (D, 180, 0, [.ref 121, .int (nI key)], [], I1) (.int 0) I2) : E (D + 1, 179, 10, [.ref 121, .int (nI key)], [], I) Q ↔ Q (.int 0) I2 := by
  rw [r179_go hk hT hs, b179_19, n, b179_23, s, b179_28, if_pos rfl, b179_31]
theorem r179_h3 (hk : k.1 ≤ 4) (hT : tokR I tp k.1 k.2.1 k.2.2) (hs : k.1 = 3 ∧ lvl (tp k.2.1) = nI 0) (n : Rn (D, 173, 0, [.ref 121, UN, UN], [], I) .null I1) (s : Rn (D, 180, 0, [.ref 121, .int (nI key)], [], I1) (.int 1) I2) (p : Rn (D, 178, 0, [.ref 121, .int 2, .int (tp k.2.1)], [], I2) .null I3) : E (D + 1, 179, 10, [.ref 121, .int (nI key)], [], I) Q ↔ E (D + 1, 179, 10, [.ref 121, .int (nI key)], [], I3) Q := by
  have e : tp k.2.1 = 124 := (lvl_0 _).mp hs.2
  rw [e] at p
  rw [r179_go hk hT hs, b179_19, n, b179_23, s, b179_28, if_neg (by decide), b179_33, p, b179_40]
theorem r180_e0 (s : Rn (D, 181, 0, [.ref 121, .int (nI key), UN], [], I) (.int 0) I1) : E (D + 1, 180, 0, [.ref 121, .int (nI key)], [], I) Q ↔ Q (.int 0) I1 := by
  rw [b180_0, s, b180_5, if_pos rfl, b180_8]
theorem r180_e1 (s : Rn (D, 181, 0, [.ref 121, .int (nI key), UN], [], I) (.int 1) I1) : E (D + 1, 180, 0, [.ref 121, .int (nI key)], [], I) Q ↔ E (D + 1, 180, 10, [.ref 121, .int (nI key)], [], I1) Q := by
  rw [b180_0, s, b180_5, if_neg (by decide)]
theorem r180_h1 (hk : k.1 ≤ 4) (hT : tokR I tp k.1 k.2.1 k.2.2) (hs : ¬ (k.1 = 3 ∧ lvl (tp k.2.1) = nI 1)) : E (D + 1, 180, 10, [.ref 121, .int (nI key)], [], I) Q ↔ Q (.int 1) I := by
  rw [b180_10, k174 hk hT, b180_16, ite_b01, if_neg (fun z => hs ⟨z.1, (lvl_1 _).mpr z.2⟩), b180_43]
theorem r180_go (hk : k.1 ≤ 4) (hT : tokR I tp k.1 k.2.1 k.2.2) (hs : k.1 = 3 ∧ lvl (tp k.2.1) = nI 1) : E (D + 1, 180, 10, [.ref 121, .int (nI key)], [], I) Q ↔ E (D + 1, 180, 19, [.ref 121, .int (nI key)], [], I) Q := by
  rw [b180_10, k174 hk hT, b180_16, ite_b01, if_pos ⟨hs.1, (lvl_1 _).mp hs.2⟩]
theorem r180_h2 (hk : k.1 ≤ 4) (hT : tokR I tp k.1 k.2.1 k.2.2) (hs : k.1 = 3 ∧ lvl (tp k.2.1) = nI 1) (n : Rn (D, 173, 0, [.ref 121, UN, UN], [], I) .null I1) (s : Rn (D, 181, 0, [.ref 121, .int (nI key), UN], [], I1) (.int 0) I2) : E (D + 1, 180, 10, [.ref 121, .int (nI key)], [], I) Q ↔ Q (.int 0) I2 := by
  rw [r180_go hk hT hs, b180_19, n, b180_23, s, b180_28, if_pos rfl, b180_31]
theorem r180_h3 (hk : k.1 ≤ 4) (hT : tokR I tp k.1 k.2.1 k.2.2) (hs : k.1 = 3 ∧ lvl (tp k.2.1) = nI 1) (n : Rn (D, 173, 0, [.ref 121, UN, UN], [], I) .null I1) (s : Rn (D, 181, 0, [.ref 121, .int (nI key), UN], [], I1) (.int 1) I2) (p : Rn (D, 178, 0, [.ref 121, .int 2, .int (tp k.2.1)], [], I2) .null I3) : E (D + 1, 180, 10, [.ref 121, .int (nI key)], [], I) Q ↔ E (D + 1, 180, 10, [.ref 121, .int (nI key)], [], I3) Q := by
  have e : tp k.2.1 = 38 := (lvl_1 _).mp hs.2
  rw [e] at p
  rw [r180_go hk hT hs, b180_19, n, b180_23, s, b180_28, if_neg (by decide), b180_33, p, b180_40]
theorem r181_e0 (s : Rn (D, 182, 0, [.ref 121, .int (nI key), UN], [], I) (.int 0) I1) : E (D + 1, 181, 0, [.ref 121, .int (nI key), UN], [], I) Q ↔ Q (.int 0) I1 := by
  rw [b181_0, s, b181_5, if_pos rfl, b181_8]
theorem r181_e1 (s : Rn (D, 182, 0, [.ref 121, .int (nI key), UN], [], I) (.int 1) I1) : E (D + 1, 181, 0, [.ref 121, .int (nI key), UN], [], I) Q ↔ E (D + 1, 181, 10, [.ref 121, .int (nI key), UN], [], I1) Q := by
  rw [b181_0, s, b181_5, if_neg (by decide)]
theorem r181_h1 (hk : k.1 ≤ 4) (hT : tokR I tp k.1 k.2.1 k.2.2) (hs : ¬ (k.1 = 3 ∧ lvl (tp k.2.1) = nI 2)) : E (D + 1, 181, 10, [.ref 121, .int (nI key), x], [], I) Q ↔ Q (.int 1) I := by
  rw [b181_10, k174 hk hT, b181_16, ite_b01, if_neg (fun z => hs ⟨z.1, (lvl_2 _).mpr (Or.inl z.2)⟩), b181_19, k174 hk hT, b181_25, ite_b01, if_neg (fun z => hs ⟨z.1, (lvl_2 _).mpr (Or.inr (Or.inl z.2))⟩), b181_28, k174 hk hT, b181_34, ite_b01, if_neg (fun z => hs ⟨z.1, (lvl_2 _).mpr (Or.inr (Or.inr z.2))⟩), b181_62]
theorem r181_go (hk : k.1 ≤ 4) (hT : tokR I tp k.1 k.2.1 k.2.2) (hs : k.1 = 3 ∧ lvl (tp k.2.1) = nI 2) : E (D + 1, 181, 10, [.ref 121, .int (nI key), x], [], I) Q ↔ E (D + 1, 181, 37, [.ref 121, .int (nI key), x], [], I) Q := by
  have z := (lvl_2 _).mp hs.2
  by_cases z0 : tp k.2.1 = 60
  · rw [b181_10, k174 hk hT, b181_16, ite_b01, if_pos ⟨hs.1, z0⟩]
  rw [b181_10, k174 hk hT, b181_16, ite_b01, if_neg (fun y => z0 y.2)]
  by_cases z1 : tp k.2.1 = 61
  · rw [b181_19, k174 hk hT, b181_25, ite_b01, if_pos ⟨hs.1, z1⟩]
  rw [b181_19, k174 hk hT, b181_25, ite_b01, if_neg (fun y => z1 y.2)]
  rw [b181_28, k174 hk hT, b181_34, ite_b01, if_pos ⟨hs.1, ((z.resolve_left z0).resolve_left z1)⟩]
theorem r181_h2 (hk : k.1 ≤ 4) (hT : tokR I tp k.1 k.2.1 k.2.2) (hs : k.1 = 3 ∧ lvl (tp k.2.1) = nI 2) (n : Rn (D, 173, 0, [.ref 121, UN, UN], [], I) .null I1) (s : Rn (D, 182, 0, [.ref 121, .int (nI key), UN], [], I1) (.int 0) I2) : E (D + 1, 181, 10, [.ref 121, .int (nI key), x], [], I) Q ↔ Q (.int 0) I2 := by
  rw [r181_go hk hT hs, b181_37, n, b181_46, s, b181_51, if_pos rfl, b181_54]
theorem r181_h3 (hk : k.1 ≤ 4) (hT : tokR I tp k.1 k.2.1 k.2.2) (hs : k.1 = 3 ∧ lvl (tp k.2.1) = nI 2) (n : Rn (D, 173, 0, [.ref 121, UN, UN], [], I) .null I1) (s : Rn (D, 182, 0, [.ref 121, .int (nI key), UN], [], I1) (.int 1) I2) (p : Rn (D, 178, 0, [.ref 121, .int 2, .int (tp k.2.1)], [], I2) .null I3) : E (D + 1, 181, 10, [.ref 121, .int (nI key), x], [], I) Q ↔ Q (.int 1) I3 := by
  rw [r181_go hk hT hs, b181_37, n, (hT.2.2.2.1 hs.1).2, b181_46, s, b181_51, if_neg (by decide), b181_56, p, b181_62]
theorem r182_e0 (s : Rn (D, 183, 0, [.ref 121, .int (nI key), UN], [], I) (.int 0) I1) : E (D + 1, 182, 0, [.ref 121, .int (nI key), UN], [], I) Q ↔ Q (.int 0) I1 := by
  rw [b182_0, s, b182_5, if_pos rfl, b182_8]
theorem r182_e1 (s : Rn (D, 183, 0, [.ref 121, .int (nI key), UN], [], I) (.int 1) I1) : E (D + 1, 182, 0, [.ref 121, .int (nI key), UN], [], I) Q ↔ E (D + 1, 182, 10, [.ref 121, .int (nI key), UN], [], I1) Q := by
  rw [b182_0, s, b182_5, if_neg (by decide)]
theorem r182_h1 (hk : k.1 ≤ 4) (hT : tokR I tp k.1 k.2.1 k.2.2) (hs : ¬ (k.1 = 3 ∧ lvl (tp k.2.1) = nI 3)) : E (D + 1, 182, 10, [.ref 121, .int (nI key), x], [], I) Q ↔ Q (.int 1) I := by
  rw [b182_10, k174 hk hT, b182_16, ite_b01, if_neg (fun z => hs ⟨z.1, (lvl_3 _).mpr (Or.inl z.2)⟩), b182_19, k174 hk hT, b182_25, ite_b01, if_neg (fun z => hs ⟨z.1, (lvl_3 _).mpr (Or.inr z.2)⟩), b182_56]
theorem r182_go (hk : k.1 ≤ 4) (hT : tokR I tp k.1 k.2.1 k.2.2) (hs : k.1 = 3 ∧ lvl (tp k.2.1) = nI 3) : E (D + 1, 182, 10, [.ref 121, .int (nI key), x], [], I) Q ↔ E (D + 1, 182, 28, [.ref 121, .int (nI key), x], [], I) Q := by
  have z := (lvl_3 _).mp hs.2
  by_cases z0 : tp k.2.1 = 43
  · rw [b182_10, k174 hk hT, b182_16, ite_b01, if_pos ⟨hs.1, z0⟩]
  rw [b182_10, k174 hk hT, b182_16, ite_b01, if_neg (fun y => z0 y.2)]
  rw [b182_19, k174 hk hT, b182_25, ite_b01, if_pos ⟨hs.1, (z.resolve_left z0)⟩]
theorem r182_h2 (hk : k.1 ≤ 4) (hT : tokR I tp k.1 k.2.1 k.2.2) (hs : k.1 = 3 ∧ lvl (tp k.2.1) = nI 3) (n : Rn (D, 173, 0, [.ref 121, UN, UN], [], I) .null I1) (s : Rn (D, 183, 0, [.ref 121, .int (nI key), UN], [], I1) (.int 0) I2) : E (D + 1, 182, 10, [.ref 121, .int (nI key), x], [], I) Q ↔ Q (.int 0) I2 := by
  rw [r182_go hk hT hs, b182_28, n, b182_37, s, b182_42, if_pos rfl, b182_45]
theorem r182_h3 (hk : k.1 ≤ 4) (hT : tokR I tp k.1 k.2.1 k.2.2) (hs : k.1 = 3 ∧ lvl (tp k.2.1) = nI 3) (n : Rn (D, 173, 0, [.ref 121, UN, UN], [], I) .null I1) (s : Rn (D, 183, 0, [.ref 121, .int (nI key), UN], [], I1) (.int 1) I2) (p : Rn (D, 178, 0, [.ref 121, .int 2, .int (tp k.2.1)], [], I2) .null I3) : E (D + 1, 182, 10, [.ref 121, .int (nI key), x], [], I) Q ↔ E (D + 1, 182, 10, [.ref 121, .int (nI key), .int (tp k.2.1)], [], I3) Q := by
  rw [r182_go hk hT hs, b182_28, n, (hT.2.2.2.1 hs.1).2, b182_37, s, b182_42, if_neg (by decide), b182_47, p, b182_53]
theorem r183_e0 (s : Rn (D, 184, 0, [.ref 121, .int (nI key)], [], I) (.int 0) I1) : E (D + 1, 183, 0, [.ref 121, .int (nI key), UN], [], I) Q ↔ Q (.int 0) I1 := by
  rw [b183_0, s, b183_5, if_pos rfl, b183_8]
theorem r183_e1 (s : Rn (D, 184, 0, [.ref 121, .int (nI key)], [], I) (.int 1) I1) : E (D + 1, 183, 0, [.ref 121, .int (nI key), UN], [], I) Q ↔ E (D + 1, 183, 10, [.ref 121, .int (nI key), UN], [], I1) Q := by
  rw [b183_0, s, b183_5, if_neg (by decide)]
theorem r183_h1 (hk : k.1 ≤ 4) (hT : tokR I tp k.1 k.2.1 k.2.2) (hs : ¬ (k.1 = 3 ∧ lvl (tp k.2.1) = nI 4)) : E (D + 1, 183, 10, [.ref 121, .int (nI key), x], [], I) Q ↔ Q (.int 1) I := by
  rw [b183_10, k174 hk hT, b183_16, ite_b01, if_neg (fun z => hs ⟨z.1, (lvl_4 _).mpr (Or.inl z.2)⟩), b183_19, k174 hk hT, b183_25, ite_b01, if_neg (fun z => hs ⟨z.1, (lvl_4 _).mpr (Or.inr z.2)⟩), b183_56]
theorem r183_go (hk : k.1 ≤ 4) (hT : tokR I tp k.1 k.2.1 k.2.2) (hs : k.1 = 3 ∧ lvl (tp k.2.1) = nI 4) : E (D + 1, 183, 10, [.ref 121, .int (nI key), x], [], I) Q ↔ E (D + 1, 183, 28, [.ref 121, .int (nI key), x], [], I) Q := by
  have z := (lvl_4 _).mp hs.2
  by_cases z0 : tp k.2.1 = 42
  · rw [b183_10, k174 hk hT, b183_16, ite_b01, if_pos ⟨hs.1, z0⟩]
  rw [b183_10, k174 hk hT, b183_16, ite_b01, if_neg (fun y => z0 y.2)]
  rw [b183_19, k174 hk hT, b183_25, ite_b01, if_pos ⟨hs.1, (z.resolve_left z0)⟩]
theorem r183_h2 (hk : k.1 ≤ 4) (hT : tokR I tp k.1 k.2.1 k.2.2) (hs : k.1 = 3 ∧ lvl (tp k.2.1) = nI 4) (n : Rn (D, 173, 0, [.ref 121, UN, UN], [], I) .null I1) (s : Rn (D, 184, 0, [.ref 121, .int (nI key)], [], I1) (.int 0) I2) : E (D + 1, 183, 10, [.ref 121, .int (nI key), x], [], I) Q ↔ Q (.int 0) I2 := by
  rw [r183_go hk hT hs, b183_28, n, b183_37, s, b183_42, if_pos rfl, b183_45]
theorem r183_h3 (hk : k.1 ≤ 4) (hT : tokR I tp k.1 k.2.1 k.2.2) (hs : k.1 = 3 ∧ lvl (tp k.2.1) = nI 4) (n : Rn (D, 173, 0, [.ref 121, UN, UN], [], I) .null I1) (s : Rn (D, 184, 0, [.ref 121, .int (nI key)], [], I1) (.int 1) I2) (p : Rn (D, 178, 0, [.ref 121, .int 2, .int (tp k.2.1)], [], I2) .null I3) : E (D + 1, 183, 10, [.ref 121, .int (nI key), x], [], I) Q ↔ E (D + 1, 183, 10, [.ref 121, .int (nI key), .int (tp k.2.1)], [], I3) Q := by
  rw [r183_go hk hT hs, b183_28, n, (hT.2.2.2.1 hs.1).2, b183_37, s, b183_42, if_neg (by decide), b183_47, p, b183_53]
end RW
/-! rows of readLevel -/
section CW
variable {tp : Nat → Int32} {n t key D L i ms dp tu : Nat} {M M1 M2 M3 : IM} {k : Tk} {o : List Sp} {Q : Po} {x : Value}
theorem c48_e (hL : L < 5) (s : Rn (D, 48, 0, [.ref 41, .int (nI (L + 1)), .ref (48 + 3 * t), UN, UN, UN], [], M) .null M1) : E (D + 1, 48, 0, [.ref 41, .int (nI L), .ref (48 + 3 * t), UN, UN, UN], [], M) Q ↔ E (D + 1, 48, 34, [.ref 41, .int (nI L), .ref (48 + 3 * t), .int (nI (if L = 2 then 1 else 96)), .int (nI 0), UN], [], M1) Q := by
  rw [b48_0, if_pos (show nI L < 5 from (show nI L < nI 5 from nI_lt hL (by decide))), b48_11, nI_1, s, b48_19]
  by_cases z : L = 2
  · rw [if_pos (by rw [z]; decide), b48_24, b48_30, if_pos z]; exact Iff.rfl
  · rw [if_neg (fun y => z ((eqN 2 (by decide) (by omega) (by decide)).mp y)), b48_28, b48_30, if_neg z]; exact Iff.rfl
theorem c48_5 (s : Rn (D, 50, 0, [.ref 41, .ref (48 + 3 * t), UN], [], M) .null M1) : E (D + 1, 48, 0, [.ref 41, .int (nI 5), .ref (48 + 3 * t), UN, UN, UN], [], M) Q ↔ Q .null M1 := by
  rw [b48_0, if_neg (by decide), b48_5, s, b48_10]
theorem c48_f {f : Nat} (h : M 41 1 = nI f) (hf : f ≤ 96) : E (D, 48, 34, [.ref 41, .int (nI L), .ref (48 + 3 * t), .int (nI ms), .int (nI i), x], [], M) Q ↔ Q .null M := by
  rw [b48_34]
  by_cases z : nI i < nI ms
  · rw [if_pos z, b48_40, h, if_neg (nI_pos (by omega)), b48_97]
  · rw [if_neg z, b48_97]
theorem c48_m (hm : ms ≤ i) (hi : i < 2 ^ 31) : E (D, 48, 34, [.ref 41, .int (nI L), .ref (48 + 3 * t), .int (nI ms), .int (nI i), x], [], M) Q ↔ Q .null M := by
  rw [b48_34, if_neg (nI_nlt hm hi), b48_97]
theorem k62c (hn : n ≤ 96) (h : cS tp n t key M k dp tu o) (K : okK tp n k) : E (D + 1, 62, 0, [.ref 42], [], M) Q ↔ Q (.int (if k.1 = 3 then tp k.2.1 else -1)) M :=
  k62 (tp := tp) (n := n) K.1 h.1.2.1 h.1.2.2.1 (fun z => by have := K.2.2.2.2.2.2 (by omega); have := K.2.2.1; omega) hn h.1.2.2.2.2
theorem c48_1 (hL : L < 5) (hn : n ≤ 96) (h : cS tp n t key M k dp tu o) (K : okK tp n k) (hs : ¬ (k.1 = 3 ∧ lvl (tp k.2.1) = nI L)) : E (D + 2, 48, 34, [.ref 41, .int (nI L), .ref (48 + 3 * t), .int (nI ms), .int (nI i), x], [], M) Q ↔ Q .null M := by
  rw [b48_34]
  by_cases z : nI i < nI ms
  · rw [if_pos z, b48_40, h.2.1.1, if_pos (by decide), b48_47, k62c hn h K, b48_54, k49, b48_57, b48_97]
    by_cases y : k.1 = 3
    · rw [if_pos y, if_neg (fun w => hs ⟨y, w⟩)]
    · rw [if_neg y, if_neg (lvl_m1 hL)]
  · rw [if_neg z, b48_97]
theorem c48_3 (ht : t < 15) (hn : n ≤ 96) (h : cS tp n t key M k dp tu o) (K : okK tp n k) (hs : k.1 = 3 ∧ lvl (tp k.2.1) = nI L) (hi : i < ms) (hm : ms < 2 ^ 31) (r1 : Rn (D + 1, 61, 0, [.ref 42, UN, UN], [], M) .null M1) (r2 : Rn (D + 1, 48, 0, [.ref 41, .int (nI (L + 1)), .ref (48 + 3 * t), UN, UN, UN], [], M1) .null M2) (r3 : Rn (D + 1, 38, 0, [.ref (48 + 3 * t), .int (tp k.2.1)], [], M2) .null M3) : E (D + 2, 48, 34, [.ref 41, .int (nI L), .ref (48 + 3 * t), .int (nI ms), .int (nI i), x], [], M) Q ↔ E (D + 2, 48, 34, [.ref 41, .int (nI L), .ref (48 + 3 * t), .int (nI ms), .int (nI (i + 1)), .int (tp k.2.1)], [], M3) Q := by
  rw [b48_34, if_pos (nI_lt hi hm), b48_40, h.2.1.1, if_pos (by decide), b48_47, k62c hn h K, b48_54, k49, b48_57, if_pos hs.1, if_pos hs.2, b48_61, k62c hn h K, b48_68, if_pos hs.1, r1, b48_77, nI_1, r2, b48_85 (lw0 ht).1, r3, b48_91, nI_1]
end CW
