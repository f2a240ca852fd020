/-! the whole tape -/
section TP
variable {tp : Nat → Int32} {n t at_ : Nat}
theorem wd_0 {so st sp : Nat} : wd tp so st sp 0 ↔ (so = 1 ∧ sp - st = (if (0 : Int32) = 0 then 3 else 4) ∧ tp st = 97 ∧ tp (st + 1) = 115 ∧ tp (st + 2) = 107 ∧ ((0 : Int32) = 0 ∨ tp (st + 3) = 0)) := by
  constructor
  · rintro ⟨h1, h2, h3⟩
    exact ⟨h1, by rw [if_pos rfl]; exact h2, h3 0 (by decide), h3 1 (by decide), h3 2 (by decide), Or.inl rfl⟩
  · rintro ⟨h1, h2, h3, h4, h5, -⟩
    rw [if_pos rfl] at h2
    refine ⟨h1, h2, fun i hi => ?_⟩
    have hi' : i < 3 := hi
    have : i = 0 ∨ i = 1 ∨ i = 2 := by omega
    rcases this with rfl | rfl | rfl
    · exact h3
    · exact h4
    · exact h5
theorem wd_1 {so st sp : Nat} : wd tp so st sp 1 ↔ (so = 1 ∧ sp - st = (if (0 : Int32) = 0 then 3 else 4) ∧ tp st = 102 ∧ tp (st + 1) = 101 ∧ tp (st + 2) = 101 ∧ ((0 : Int32) = 0 ∨ tp (st + 3) = 0)) := by
  constructor
  · rintro ⟨h1, h2, h3⟩
    exact ⟨h1, by rw [if_pos rfl]; exact h2, h3 0 (by decide), h3 1 (by decide), h3 2 (by decide), Or.inl rfl⟩
  · rintro ⟨h1, h2, h3, h4, h5, -⟩
    rw [if_pos rfl] at h2
    refine ⟨h1, h2, fun i hi => ?_⟩
    have hi' : i < 3 := hi
    have : i = 0 ∨ i = 1 ∨ i = 2 := by omega
    rcases this with rfl | rfl | rfl
    · exact h3
    · exact h4
    · exact h5
theorem wd_2 {so st sp : Nat} : wd tp so st sp 2 ↔ (so = 1 ∧ sp - st = (if (101 : Int32) = 0 then 3 else 4) ∧ tp st = 102 ∧ tp (st + 1) = 105 ∧ tp (st + 2) = 110 ∧ ((101 : Int32) = 0 ∨ tp (st + 3) = 101)) := by
  constructor
  · rintro ⟨h1, h2, h3⟩
    exact ⟨h1, by rw [if_neg (by decide)]; exact h2, h3 0 (by decide), h3 1 (by decide), h3 2 (by decide), Or.inr (h3 3 (by decide))⟩
  · rintro ⟨h1, h2, h3, h4, h5, h6⟩
    rw [if_neg (by decide)] at h2
    refine ⟨h1, h2, fun i hi => ?_⟩
    have hi' : i < 4 := hi
    have : i = 0 ∨ i = 1 ∨ i = 2 ∨ i = 3 := by omega
    rcases this with rfl | rfl | rfl | rfl
    · exact h3
    · exact h4
    · exact h5
    · exact h6.resolve_left (by decide)
/-- the key that a word is -/
def isKy (tp : Nat → Int32) (k : Tk) (j : Nat) : Prop := wd tp k.1 k.2.1 k.2.2 j ∧ ∀ i, i < j → ¬ wd tp k.1 k.2.1 k.2.2 i
theorem ky_or (tp : Nat → Int32) (k : Tk) : (∃ j, j < 3 ∧ isKy tp k j) ∨ ∀ j, j < 3 → ¬ wd tp k.1 k.2.1 k.2.2 j := by
  by_cases h0 : wd tp k.1 k.2.1 k.2.2 0
  · exact Or.inl ⟨0, by decide, h0, fun i hi => absurd hi (Nat.not_lt_zero i)⟩
  by_cases h1 : wd tp k.1 k.2.1 k.2.2 1
  · refine Or.inl ⟨1, by decide, h1, fun i hi => ?_⟩
    have e : i = 0 := by omega
    subst e
    exact h0
  by_cases h2 : wd tp k.1 k.2.1 k.2.2 2
  · refine Or.inl ⟨2, by decide, h2, fun i hi => ?_⟩
    have : i = 0 ∨ i = 1 := by omega
    rcases this with rfl | rfl
    · exact h0
    · exact h1
  · refine Or.inr (fun j hj => ?_)
    have : j = 0 ∨ j = 1 ∨ j = 2 := by omega
    rcases this with rfl | rfl | rfl
    · exact h0
    · exact h1
    · exact h2
/-- the class before the key -/
def cS0 (tp : Nat → Int32) (n : Nat) (M : IM) (k : Tk) : Prop := (M 42 1 = nI n ∧ M 42 2 = nI k.1 ∧ M 42 3 = nI k.2.1 ∧ M 42 4 = nI k.2.2 ∧ ∀ i, i < n → M 43 i = tp i) ∧ M 41 1 = -1 ∧ M 41 2 = nI 0 ∧ M 41 3 = nI 0
theorem k45s {D j : Nat} {M : IM} {k : Tk} {Q : Po} (hn : n ≤ 96) (K : okK tp n k) (C : cS0 tp n M k) (hj : j < 3) : (wd tp k.1 k.2.1 k.2.2 j → (E (D + 5, 45, 2, [.ref 41, .ref (48 + 3 * t), .int (nI j)], [], M) Q ↔ E (D + 5, 45, 21, [.ref 41, .ref (48 + 3 * t), .int (nI j)], [], M) Q)) ∧ (¬ wd tp k.1 k.2.1 k.2.2 j → (E (D + 5, 45, 2, [.ref 41, .ref (48 + 3 * t), .int (nI j)], [], M) Q ↔ E (D + 5, 45, 2, [.ref 41, .ref (48 + 3 * t), .int (nI (j + 1))], [], M) Q)) := by
  have w3 : nI j < 3 := show nI j < nI 3 from nI_lt hj (by decide)
  have st : ∀ Q : Po, E (D + 5, 45, 2, [.ref 41, .ref (48 + 3 * t), .int (nI j)], [], M) Q ↔ E (D + 4, 63, 0, [.ref 42, .ref (1010 + j), UN], [], M) (fun r I' => E (D + 5, 45, 18, [.ref 41, .ref (48 + 3 * t), .int (nI j)], [r], I') Q) := fun Q => by
    rw [b45_2, if_pos w3, b45_7, k46 hj, b45_15]
  refine ⟨fun w => ?_, fun w => ?_⟩
  · rw [st, (k63 (tp := tp) (n := n) (by omega) hn C.1.2.1 K.1 C.1.2.2.1 C.1.2.2.2.1 K.2.1 K.2.2.1 C.1.2.2.2.2).1 w, b45_18, if_neg (by decide)]
  · rw [st, (k63 (tp := tp) (n := n) (by omega) hn C.1.2.1 K.1 C.1.2.2.1 C.1.2.2.2.1 K.2.1 K.2.2.1 C.1.2.2.2.2).2 w, b45_18, if_pos rfl, b45_34, nI_1]
theorem k45t {D key : Nat} {M : IM} {k : Tk} (hn : n ≤ 96) (ht : t < 15) (K : okK tp n k) (C : cS0 tp n M k) (hk : key < 3) (w : isKy tp k key) {x : Value} : ∃ M', Rn (D + 5, 45, 0, [.ref 41, .ref (48 + 3 * t), x], [], M) .null M' ∧ cS tp n t key M' (nx tp n k) 0 0 [] ∧ fC t M M' := by
  obtain ⟨a, b1, b2, b3⟩ := C
  have to : ∀ Q : Po, E (D + 5, 45, 0, [.ref 41, .ref (48 + 3 * t), x], [], M) Q ↔ E (D + 5, 45, 21, [.ref 41, .ref (48 + 3 * t), .int (nI key)], [], M) Q := fun Q => by
    rw [b45_0, show (0 : Int32) = nI 0 by decide]
    have hC : cS0 tp n M k := ⟨a, b1, b2, b3⟩
    have : key = 0 ∨ key = 1 ∨ key = 2 := by omega
    rcases this with rfl | rfl | rfl
    · rw [(k45s hn K hC (by decide)).1 w.1]
    · rw [(k45s hn K hC (by decide)).2 (w.2 0 (by decide)), (k45s hn K hC (by decide)).1 w.1]
    · rw [(k45s hn K hC (by decide)).2 (w.2 0 (by decide)), (k45s hn K hC (by decide)).2 (w.2 1 (by decide)), (k45s hn K hC (by decide)).1 w.1]
  generalize hM1 : up (up (up M (48 + 3 * t) 3 (nI key)) (48 + 3 * t) 2 0) (48 + 3 * t) 4 0 = M1
  have g : ∀ c, c ≠ 48 + 3 * t → M1 c = M c := fun c h => by rw [← hM1, up_c h, up_c h, up_c h]
  have C1 : cS tp n t key M1 k 0 0 [] := by
    refine ⟨⟨by rw [g _ (by omega)]; exact a.1, by rw [g _ (by omega)]; exact a.2.1, by rw [g _ (by omega)]; exact a.2.2.1, by rw [g _ (by omega)]; exact a.2.2.2.1, fun i hi => by rw [g _ (by omega)]; exact a.2.2.2.2 i hi⟩, ⟨by rw [g _ (by omega)]; exact b1, by rw [g _ (by omega)]; exact b2, by rw [g _ (by omega)]; exact b3⟩, ?_, ?_, ?_, fun j q hq => absurd hq (by simp)⟩
    · rw [← hM1, up_k (by decide), up_k (by decide), up_s]
    · rw [← hM1, up_k (by decide), up_s]; rfl
    · rw [← hM1, up_s]; rfl
  obtain ⟨M2, r1, r2, r3⟩ := C1.next (d := D + 2) hn ht K (x := UN) (y := UN)
  exact ⟨M2, fun Q => by rw [to Q, b45_21 (lw0 ht).1, b35_0 (lw0 ht).1, hM1, b45_26, r1, b45_33], r2, fC.tr (fun c _ _ h3 _ => g c h3) r3⟩
theorem k45f {D : Nat} {M : IM} {k : Tk} (hn : n ≤ 96) (K : okK tp n k) (C : cS0 tp n M k) (w : ∀ j, j < 3 → ¬ wd tp k.1 k.2.1 k.2.2 j) {x : Value} : Rn (D + 5, 45, 0, [.ref 41, .ref (48 + 3 * t), x], [], M) .null (up M 41 1 (nI k.2.1)) := fun Q => by
  rw [b45_0, show (0 : Int32) = nI 0 by decide, (k45s hn K C (by decide)).2 (w 0 (by decide)), (k45s hn K C (by decide)).2 (w 1 (by decide)), (k45s hn K C (by decide)).2 (w 2 (by decide)), b45_2, if_neg (by decide), b45_40, k44 C.2.1, C.1.2.2.1, b45_44]
/-- the class, once a fault is found -/
theorem cFl {f : Nat} (hf : f ≤ 96) {M : IM} (h : M 41 1 = nI f) : ∀ (j D : Nat), j ≤ 5 → Rn (D + 1 + j, 48, 0, [.ref 41, .int (nI (5 - j)), .ref (48 + 3 * t), UN, UN, UN], [], M) .null M := by
  intro j
  induction j with
  | zero =>
    intro D _ Q
    exact c48_5 (fun Q => by rw [b50_0, h, if_neg (nI_pos (by omega)), b50_7])
  | succ j ih =>
    intro D hj Q
    have e : 5 - (j + 1) + 1 = 5 - j := by omega
    have s := ih D (by omega)
    rw [← e] at s
    rw [show D + 1 + (j + 1) = D + 1 + j + 1 by omega, c48_e (by omega) s, c48_f h hf]
theorem c43_a {D : Nat} {M : IM} (hn : n ≤ 96) (h1 : M 42 1 = nI n) (hb : ∀ i, i < n → M 43 i = tp i) : ∃ M', (∀ Q : Po, E (D + 5, 43, 0, [.ref 41, .ref (48 + 3 * t)], [], M) Q ↔ E (D + 5, 43, 22, [.ref 41, .ref (48 + 3 * t)], [], M') Q) ∧ cS0 tp n M' (nx tp n (0, 0, 0)) ∧ fC t M M' := by
  generalize hM0 : up (up (up (up (up M 41 1 (-1)) 41 2 0) 41 3 0) 42 2 0) 42 4 0 = M0
  have g : ∀ c, c ≠ 41 → c ≠ 42 → M0 c = M c := fun c z1 z2 => by rw [← hM0, up_c z2, up_c z2, up_c z1, up_c z1, up_c z1]
  have a1 : M0 42 1 = nI n := by rw [← hM0, up_k (by decide), up_k (by decide), up_c (by decide), up_c (by decide), up_c (by decide)]; exact h1
  have a2 : M0 42 2 = 0 := by rw [← hM0, up_k (by decide), up_s]
  have a4 : M0 42 4 = nI 0 := by rw [← hM0, up_s]; rfl
  have b1 : M0 41 1 = -1 := by rw [← hM0, up_c (by decide), up_c (by decide), up_k (by decide), up_k (by decide), up_s]
  have b2 : M0 41 2 = nI 0 := by rw [← hM0, up_c (by decide), up_c (by decide), up_k (by decide), up_s]; rfl
  have b3 : M0 41 3 = nI 0 := by rw [← hM0, up_c (by decide), up_c (by decide), up_s]; rfl
  obtain ⟨M', r, m1, m2, m3, m4, mc⟩ := k61 (d := D + 1) (M := M0) (tp := tp) (n := n) (p := 0) (tg := false) hn (Nat.zero_le _) a1 a4 (fun i hi => by rw [g 43 (by decide) (by decide)]; exact hb i hi) (by rw [a2]; decide) (x := UN) (y := UN)
  refine ⟨M', fun Q => by rw [b43_0, b60_0, hM0, r, b60_14], ⟨⟨m1, m2, m3, m4, fun i hi => by rw [mc 43 (by decide), g 43 (by decide) (by decide)]; exact hb i hi⟩, by rw [mc 41 (by decide)]; exact b1, by rw [mc 41 (by decide)]; exact b2, by rw [mc 41 (by decide)]; exact b3⟩, fun c z1 z2 _ _ => by rw [mc c z2]; exact g c z1 z2⟩
/-- the reference: the key -/
theorem k176t {D key : Nat} {I : IM} {k : Tk} {Q : Po} (hn : n ≤ 96) (K : okK tp n k) (hT : tokR I tp k.1 k.2.1 k.2.2) (h5 : I 121 15 = nI k.2.1) (h6 : I 121 16 = nI k.2.2) (hb : ∀ i, i < n → I 134 i = tp i) (hk : key < 3) (w : isKy tp k key) : E (D + 1, 176, 0, [.ref 121], [], I) Q ↔ Q (.int (nI key)) I := by
  have q := fun {a b c e : Int32} {Q : Po} => k175 (d := D) (I := I) (Q := Q) (a := a) (b := b) (c := c) (e := e) (x := UN) hn K.1 hT h5 h6 K.2.1 K.2.2.1 hb
  have : key = 0 ∨ key = 1 ∨ key = 2 := by omega
  rcases this with rfl | rfl | rfl
  · rw [b176_0, q, b01_t (wd_0.mp w.1), b176_11, if_neg (by decide), b176_14]; exact Iff.rfl
  · rw [b176_0, q, b01_f (fun z => w.2 0 (by decide) (wd_0.mpr z)), b176_11, if_pos rfl, b176_16, q, b01_t (wd_1.mp w.1), b176_27, if_neg (by decide), b176_30]; exact Iff.rfl
  · rw [b176_0, q, b01_f (fun z => w.2 0 (by decide) (wd_0.mpr z)), b176_11, if_pos rfl, b176_16, q, b01_f (fun z => w.2 1 (by decide) (wd_1.mpr z)), b176_27, if_pos rfl, b176_32, q, b01_t (wd_2.mp w.1), b176_44, if_neg (by decide), b176_47, b176_52]; exact Iff.rfl
theorem k176f {D : Nat} {I : IM} {k : Tk} {Q : Po} (hn : n ≤ 96) (K : okK tp n k) (hT : tokR I tp k.1 k.2.1 k.2.2) (h5 : I 121 15 = nI k.2.1) (h6 : I 121 16 = nI k.2.2) (hb : ∀ i, i < n → I 134 i = tp i) (w : ∀ j, j < 3 → ¬ wd tp k.1 k.2.1 k.2.2 j) : E (D + 1, 176, 0, [.ref 121], [], I) Q ↔ Q (.int (-1)) I := by
  have q := fun {a b c e : Int32} {Q : Po} => k175 (d := D) (I := I) (Q := Q) (a := a) (b := b) (c := c) (e := e) (x := UN) hn K.1 hT h5 h6 K.2.1 K.2.2.1 hb
  rw [b176_0, q, b01_f (fun z => w 0 (by decide) (wd_0.mpr z)), b176_11, if_pos rfl, b176_16, q, b01_f (fun z => w 1 (by decide) (wd_1.mpr z)), b176_27, if_pos rfl, b176_32, q, b01_f (fun z => w 2 (by decide) (wd_2.mpr z)), b176_44, if_pos rfl, b176_51, b176_52]
def fR2 (at_ : Nat) (I I' : IM) : Prop := (∀ s, s < 14 ∨ 24 < s → I' 121 s = I 121 s) ∧ (∀ i, i < at_ ∨ at_ + 192 ≤ i → I' 122 i = I 122 i) ∧ ∀ c, c ≠ 121 → c ≠ 122 → I' c = I c
theorem fR2.tr {a : Nat} {I I1 I2 : IM} (x : fR2 a I I1) (y : fR2 a I1 I2) : fR2 a I I2 := ⟨fun s h => (y.1 s h).trans (x.1 s h), fun i h => (y.2.1 i h).trans (x.2.1 i h), fun c h1 h2 => (y.2.2 c h1 h2).trans (x.2.2 c h1 h2)⟩
theorem fR2.of {a : Nat} {I I1 : IM} (x : fR a I I1) : fR2 a I I1 := ⟨fun s h => x.1 s (by omega), x.2.1, x.2.2⟩
theorem fR2.w1 {a k : Nat} {I : IM} {v : Int32} (h : 14 ≤ k ∧ k ≤ 24) : fR2 a I (up I 121 k v) := ⟨fun s hs => up_k (by omega), fun i _ => by rw [up_c (by decide)], fun c h1 _ => up_c h1⟩
theorem r185_a {D T : Nat} {I : IM} (hn : n ≤ 96) (h1 : I 121 14 = nI n) (hb : ∀ i, i < n → I 134 i = tp i) (hT : I 122 1 = nI T) (hat : (T < 14 ∧ at_ = 64 + 200 * T) ∨ (T = 14 ∧ at_ = 2860)) {x y : Value} : ∃ I', (∀ Q : Po, E (D + 3, 185, 0, [.ref 121, x, y], [], I) Q ↔ E (D + 3, 185, 67, [.ref 121, x, y], [], I') Q) ∧ rS tp n at_ I' (nx tp n (0, 0, 0)) 0 0 [] ∧ fR2 at_ I I' := by
  generalize hI0 : up (up (up (up (up (up I 121 16 0) 121 17 3) 121 20 0) 121 21 0) 121 22 0) 121 24 0 = I0
  have g : ∀ c, c ≠ 121 → I0 c = I c := fun c h => by rw [← hI0, up_c h, up_c h, up_c h, up_c h, up_c h, up_c h]
  have gs : ∀ s, s ≠ 16 → s ≠ 17 → s ≠ 20 → s ≠ 21 → s ≠ 22 → s ≠ 24 → I0 121 s = I 121 s := fun s z1 z2 z3 z4 z5 z6 => by rw [← hI0, up_k z6, up_k z5, up_k z4, up_k z3, up_k z2, up_k z1]
  have e16 : I0 121 16 = nI 0 := by rw [← hI0, up_k (by decide), up_k (by decide), up_k (by decide), up_k (by decide), up_k (by decide), up_s]; rfl
  have e17 : I0 121 17 = 3 := by rw [← hI0, up_k (by decide), up_k (by decide), up_k (by decide), up_k (by decide), up_s]
  have e20 : I0 121 20 = nI 0 := by rw [← hI0, up_k (by decide), up_k (by decide), up_k (by decide), up_s]; rfl
  have e21 : I0 121 21 = nI 0 := by rw [← hI0, up_k (by decide), up_k (by decide), up_s]; rfl
  have e22 : I0 121 22 = nI 0 := by rw [← hI0, up_k (by decide), up_s]; rfl
  have e24 : I0 121 24 = nI 0 := by rw [← hI0, up_s]; rfl
  have eT : I0 122 1 = nI T := by rw [g 122 (by decide)]; exact hT
  generalize hI1 : up I0 121 23 (nI at_) = I1
  have to : ∀ Q : Po, E (D + 3, 185, 0, [.ref 121, x, y], [], I) Q ↔ E (D + 3, 185, 60, [.ref 121, x, y], [.int (nI at_), .ref 121], I0) Q := fun Q => by
    rw [b185_0, hI0, eT]
    rcases hat with ⟨z1, z2⟩ | ⟨z1, z2⟩
    · rw [if_pos (show nI T < 14 from (show nI T < nI 14 from nI_lt z1 (by decide))), b185_42, eT, k125, b185_52, z2, show (4 : Int32) = nI 4 by decide, nI_add, show 60 + 200 * T + 4 = 64 + 200 * T by omega]
    · rw [z1, if_neg (by decide), b185_57, z2]; exact Iff.rfl
  have q : ∀ s, s ≠ 23 → I1 121 s = I0 121 s := fun s h => by rw [← hI1, up_k h]
  have qc : ∀ c, c ≠ 121 → I1 c = I c := fun c h => by rw [← hI1, up_c h]; exact g c h
  obtain ⟨I', r, m1, m2, m3, ms, mc⟩ := k173 (d := D) (I := I1) (tp := tp) (n := n) (p := 0) (tg := false) hn (Nat.zero_le _) (by rw [q 14 (by decide), gs 14 (by decide) (by decide) (by decide) (by decide) (by decide) (by decide)]; exact h1) (by rw [q 16 (by decide)]; exact e16) (fun i hi => by rw [qc 134 (by decide)]; exact hb i hi) ⟨fun z => absurd z (by decide), fun z => absurd z.1 (by decide)⟩ (x := UN) (y := UN)
  refine ⟨I', fun Q => by rw [to Q, b185_60, hI1, r], ⟨⟨by rw [ms 14 (by decide), q 14 (by decide), gs 14 (by decide) (by decide) (by decide) (by decide) (by decide) (by decide)]; exact h1, m1, m2, m3, fun i hi => by rw [mc 134 (by decide), qc 134 (by decide)]; exact hb i hi⟩, ⟨by rw [ms 20 (by decide), q 20 (by decide)]; exact e20, by rw [ms 21 (by decide), q 21 (by decide)]; exact e21⟩, by rw [ms 23 (by decide), ← hI1, up_s], by rw [ms 22 (by decide), q 22 (by decide)]; exact e22, by rw [ms 24 (by decide), q 24 (by decide)]; exact e24, fun j q hq => absurd hq (by simp)⟩, fun s hs => ?_, fun i _ => by rw [mc 122 (by decide), qc 122 (by decide)], fun c h1 _ => by rw [mc c h1]; exact qc c h1⟩
  rw [ms s (by omega), q s (by omega), gs s (by omega) (by omega) (by omega) (by omega) (by omega) (by omega)]
/-- class and reference read the tape alike -/
theorem tapeJ (hn : n ≤ 96) {T : Nat} (ht : T < 15) (hat : (T < 14 ∧ at_ = 64 + 200 * T) ∨ (T = 14 ∧ at_ = 2860)) :
    ∃ (ok : Bool) (f key : Nat) (o : List Sp), f ≤ 96 ∧ key < 3 ∧ (ok = true → o.length ≤ 96 ∧ (∀ q, q ∈ o → okE key q) ∧ gd (o.map (eS key)) 0 1) ∧
      (∀ (D : Nat) (M : IM), 100 ≤ D → M 42 1 = nI n → (∀ i, i < n → M 43 i = tp i) → ∃ M', Rn (D, 43, 0, [.ref 41, .ref (48 + 3 * T)], [], M) (.int (bif ok then -1 else nI f)) M' ∧ fC T M M' ∧ (ok = true → M' (48 + 3 * T) 3 = nI key ∧ M' (48 + 3 * T) 2 = nI o.length ∧ M' (48 + 3 * T) 4 = nI (lvs o) ∧ ∀ (j : Nat) (q : Sp), o[j]? = some q → M' (49 + 3 * T) j = eS key q)) ∧
      (∀ (D : Nat) (I : IM), 100 ≤ D → I 121 14 = nI n → (∀ i, i < n → I 134 i = tp i) → I 122 1 = nI T → ∃ I', Rn (D, 185, 0, [.ref 121, UN, UN], [], I) (.int (bif ok then nI key else -1)) I' ∧ I' 121 14 = 0 ∧ fR2 at_ I I' ∧ (ok = true → I' 121 22 = nI o.length ∧ I' 121 24 = nI (lvs o) ∧ ∀ (j : Nat) (q : Sp), o[j]? = some q → I' 122 (at_ + 2 * j) = q.1 ∧ I' 122 (at_ + 2 * j + 1) = q.2) ∧ (ok = false → I' 121 15 = nI f)) := by
  have ha : at_ + 200 ≤ 3060 := by omega
  obtain ⟨K1, -⟩ := nx_ok (tp := tp) (n := n) (k := (0, 0, 0)) (Nat.zero_le n)
  generalize hk1 : nx tp n (0, 0, 0) = k1 at K1
  have k1n : k1.2.1 ≤ 96 := by have := K1.2.1; have := K1.2.2.1; omega
  rcases ky_or tp k1 with ⟨key, hk, w⟩ | w
  rotate_left
  · refine ⟨false, k1.2.1, 0, [], k1n, by decide, fun z => absurd z (by decide), fun D M hD h1 hb => ?_, fun D I hD h1 hb hT => ?_⟩
    · obtain ⟨D', rfl⟩ : ∃ D', D = D' + 10 := ⟨D - 10, by omega⟩
      obtain ⟨M1, r1, r2, r3⟩ := c43_a (t := T) (D := D' + 5) (tp := tp) hn h1 hb
      rw [hk1] at r2
      have hF : (up M1 41 1 (nI k1.2.1)) 41 1 = nI k1.2.1 := up_s
      have s := cFl (t := T) k1n hF 5 (D' + 3) (by decide)
      refine ⟨up M1 41 1 (nI k1.2.1), fun Q => ?_, r3.tr (fC.wr (Or.inl rfl)), fun z => absurd z (by decide)⟩
      have s' : Rn (D' + 9, 48, 0, [.ref 41, .int 0, .ref (48 + 3 * T), UN, UN, UN], [], up M1 41 1 (nI k1.2.1)) .null (up M1 41 1 (nI k1.2.1)) := s
      rw [r1 Q, b43_22, k45f (D := D' + 4) hn K1 r2 w, b43_27, s', b43_33]
      by_cases z : (up M1 41 1 (nI k1.2.1)) 42 2 = 0
      · rw [if_pos z, b43_47, hF]; exact Iff.rfl
      · rw [if_neg z, b43_43, k44f hF k1n, b43_47, hF]; exact Iff.rfl
    · obtain ⟨D', rfl⟩ : ∃ D', D = D' + 3 := ⟨D - 3, by omega⟩
      obtain ⟨I1, r1, r2, r3⟩ := r185_a (D := D') (tp := tp) hn h1 hb hT hat (x := UN) (y := UN)
      rw [hk1] at r2
      refine ⟨up I1 121 14 0, fun Q => ?_, up_s, r3.tr (fR2.w1 (by decide)), fun z => absurd z (by decide), fun _ => by rw [up_k (by decide)]; exact r2.1.2.1⟩
      rw [r1 Q, b185_67, k176f hn K1 r2.1.2.2.2.1 r2.1.2.1 r2.1.2.2.1 r2.1.2.2.2.2 w, b185_71, if_pos (by decide), b185_80, b185_81, if_pos rfl, b185_111, if_pos rfl, b185_124, b185_125]
      exact Iff.rfl
  obtain ⟨K2, p2⟩ := nx_ok (tp := tp) (n := n) (k := k1) K1.2.2.1
  have k11 : k1.1 = 1 := w.1.1
  obtain ⟨ok, k3, e, ⟨K3, p3, P⟩, sC, sR⟩ := bodyJ (tp := tp) (n := n) (t := T) (key := key) (at_ := at_) hk hn ht ha (nx tp n k1) K2
  have k3n : k3.2.1 ≤ 96 := by have := K3.2.1; have := K3.2.2.1; omega
  rw [List.nil_append] at sC sR
  have cI : ∀ (D : Nat) (M : IM), 100 ≤ D → M 42 1 = nI n → (∀ i, i < n → M 43 i = tp i) → ∃ (D' : Nat) (M2 : IM), D = D' + 10 ∧ (∀ Q : Po, E (D, 43, 0, [.ref 41, .ref (48 + 3 * T)], [], M) Q ↔ E (D' + 10, 43, 33, [.ref 41, .ref (48 + 3 * T)], [], M2) Q) ∧ fC T M M2 ∧ (ok = true → cS tp n T key M2 k3 0 0 e) ∧ (ok = false → M2 41 1 = nI k3.2.1) := fun D M hD h1 hb => by
    obtain ⟨D', rfl⟩ : ∃ D', D = D' + 10 := ⟨D - 10, by omega⟩
    obtain ⟨M1, r1, r2, r3⟩ := c43_a (t := T) (D := D' + 5) (tp := tp) hn h1 hb
    rw [hk1] at r2
    obtain ⟨M2, s1, s2, s3⟩ := k45t (D := D' + 4) hn ht K1 r2 hk w (x := UN)
    obtain ⟨M3, u1, u2, u3, u4⟩ := sC (D' + 9) M2 (by omega) s2
    have u1' : Rn (D' + 9, 48, 0, [.ref 41, .int 0, .ref (48 + 3 * T), UN, UN, UN], [], M2) .null M3 := u1
    exact ⟨D', M3, rfl, fun Q => by rw [r1 Q, b43_22, s1, b43_27, u1'], (r3.tr s3).tr u2, u3, u4⟩
  have rI : ∀ (D : Nat) (I : IM), 100 ≤ D → I 121 14 = nI n → (∀ i, i < n → I 134 i = tp i) → I 122 1 = nI T → ∃ (D' : Nat) (I2 : IM), D = D' + 3 ∧ (∀ Q : Po, E (D, 185, 0, [.ref 121, UN, UN], [], I) Q ↔ E (D' + 3, 185, 95, [.ref 121, .int (nI key), .int 1], [.int (bif ok then 1 else 0)], I2) Q) ∧ fR2 at_ I I2 ∧ (ok = true → rS tp n at_ I2 k3 0 0 e) ∧ (ok = false → I2 121 15 = nI k3.2.1) := fun D I hD h1 hb hT => by
    obtain ⟨D', rfl⟩ : ∃ D', D = D' + 3 := ⟨D - 3, by omega⟩
    obtain ⟨I1, r1, r2, r3⟩ := r185_a (D := D') (tp := tp) hn h1 hb hT hat (x := UN) (y := UN)
    rw [hk1] at r2
    obtain ⟨I2, s1, s2, s3⟩ := r2.next (d := D') hn K1 (fun y => by omega) (x := UN) (y := UN)
    obtain ⟨I3, u1, u2, u3, u4⟩ := sR (D' + 2) I2 (by omega) s2
    have u1' : Rn (D' + 2, 179, 0, [.ref 121, .int (nI key)], [], I2) (.int (bif ok then 1 else 0)) I3 := u1
    refine ⟨D', I3, rfl, fun Q => ?_, (r3.tr (fR2.of s3)).tr (fR2.of u2), u3, u4⟩
    rw [r1 Q, b185_67, k176t hn K1 r2.1.2.2.2.1 r2.1.2.1 r2.1.2.2.1 r2.1.2.2.2.2 hk w, b185_71, if_neg (nI_pos (by omega)), b185_76, b185_81, if_neg (by decide), b185_86, s1, b185_90, u1']
  cases ok with
  | false =>
    refine ⟨false, k3.2.1, key, [], k3n, hk, fun z => absurd z (by decide), fun D M hD h1 hb => ?_, fun D I hD h1 hb hT => ?_⟩
    · obtain ⟨D', M2, rfl, f1, f2, -, f4⟩ := cI D M hD h1 hb
      refine ⟨M2, fun Q => ?_, f2, fun z => absurd z (by decide)⟩
      rw [f1 Q, b43_33]
      by_cases z : M2 42 2 = 0
      · rw [if_pos z, b43_47, f4 rfl]; exact Iff.rfl
      · rw [if_neg z, b43_43, k44f (f4 rfl) k3n, b43_47, f4 rfl]; exact Iff.rfl
    · obtain ⟨D', I2, rfl, f1, f2, -, f4⟩ := rI D I hD h1 hb hT
      refine ⟨up I2 121 14 0, fun Q => ?_, up_s, f2.tr (fR2.w1 (by decide)), fun z => absurd z (by decide), fun _ => by rw [up_k (by decide)]; exact f4 rfl⟩
      rw [f1 Q]
      show E (D' + 3, 185, 95, [.ref 121, .int (nI key), .int 1], [.int 0], I2) Q ↔ _
      rw [b185_95, if_pos rfl, b185_109, b185_110, b185_111, if_pos rfl, b185_124, b185_125]
      exact Iff.rfl
  | true =>
    obtain ⟨P1, P2, P3⟩ := P rfl
    by_cases z : k3.1 = 0
    · refine ⟨true, 0, key, e, by decide, hk, fun _ => ⟨by omega, P2, P3 0 (by decide)⟩, fun D M hD h1 hb => ?_, fun D I hD h1 hb hT => ?_⟩
      · obtain ⟨D', M2, rfl, f1, f2, f3, -⟩ := cI D M hD h1 hb
        refine ⟨M2, fun Q => ?_, f2, fun _ => (f3 rfl).2.2⟩
        rw [f1 Q, b43_33, (f3 rfl).1.2.1, if_pos (by rw [z]; decide), b43_47, (f3 rfl).2.1.1]
        exact Iff.rfl
      · obtain ⟨D', I2, rfl, f1, f2, f3, -⟩ := rI D I hD h1 hb hT
        have kk := tk K3.1 (f3 rfl).1.2.2.2.1
        refine ⟨up I2 121 14 0, fun Q => ?_, up_s, f2.tr (fR2.w1 (by decide)), fun _ => ⟨by rw [up_k (by decide)]; exact (f3 rfl).2.2.2.1, by rw [up_k (by decide)]; exact (f3 rfl).2.2.2.2.1, fun j q hq => by rw [up_c (by decide)]; exact (f3 rfl).2.2.2.2.2 j q hq⟩, fun z => absurd z (by decide)⟩
        rw [f1 Q]
        show E (D' + 3, 185, 95, [.ref 121, .int (nI key), .int 1], [.int 1], I2) Q ↔ _
        rw [b185_95, if_neg (by decide), b185_98, if_pos (kk.1.mpr z), b185_105, b185_110, b185_111, if_neg (by decide), b185_120, b185_125]
        exact Iff.rfl
    · refine ⟨false, k3.2.1, key, [], k3n, hk, fun z => absurd z (by decide), fun D M hD h1 hb => ?_, fun D I hD h1 hb hT => ?_⟩
      · obtain ⟨D', M2, rfl, f1, f2, f3, -⟩ := cI D M hD h1 hb
        have k34 := K3.1
        refine ⟨up M2 41 1 (nI k3.2.1), fun Q => ?_, f2.tr (fC.wr (Or.inl rfl)), fun z => absurd z (by decide)⟩
        rw [f1 Q, b43_33, (f3 rfl).1.2.1, if_neg (fun y => z ((eqN 0 (by decide) (by omega) (by decide)).mp y)), b43_43, k44 (f3 rfl).2.1.1, (f3 rfl).1.2.2.1, b43_47, up_s]
        exact Iff.rfl
      · obtain ⟨D', I2, rfl, f1, f2, f3, -⟩ := rI D I hD h1 hb hT
        have kk := tk K3.1 (f3 rfl).1.2.2.2.1
        refine ⟨up I2 121 14 0, fun Q => ?_, up_s, f2.tr (fR2.w1 (by decide)), fun z => absurd z (by decide), fun _ => by rw [up_k (by decide)]; exact (f3 rfl).1.2.1⟩
        rw [f1 Q]
        show E (D' + 3, 185, 95, [.ref 121, .int (nI key), .int 1], [.int 1], I2) Q ↔ _
        rw [b185_95, if_neg (by decide), b185_98, if_neg (fun y => z (kk.1.mp y)), b185_109, b185_110, b185_111, if_pos rfl, b185_124, b185_125]
        exact Iff.rfl
end TP
