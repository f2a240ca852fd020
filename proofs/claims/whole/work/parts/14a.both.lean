/-! the two sides together -/
def txOk (M : IM) (R : Nat → Int32) (t : Nat) : Prop := M (48 + 3 * t) 2 = R (62 + 200 * t) ∧ M (48 + 3 * t) 3 = R (60 + 200 * t) ∧ M (48 + 3 * t) 4 = R (61 + 200 * t) ∧ ∀ k, k < tN R t → M (49 + 3 * t) k = tSt R t k
def CpH (M : IM) (N T : Nat) : Prop := isH M 1 (M 122) N ∧ bd (M 122) N ∧ wfX (M 122) T ∧ (∀ t, t < T → txOk M (M 122) t) ∧ (∀ k, k < 3 → M 3 k = enc (cntR (M 122) (nI k) T)) ∧ ∃ e, e ≤ 9999 ∧ M 122 2 = nI e
theorem CpH.H {M : IM} {N T : Nat} (C : CpH M N T) : isH M 1 (M 122) N := C.1
theorem CpH.B {M : IM} {N T : Nat} (C : CpH M N T) : bd (M 122) N := C.2.1
theorem CpH.X {M : IM} {N T : Nat} (C : CpH M N T) : wfX (M 122) T := C.2.2.1
theorem CpH.tx {M : IM} {N T : Nat} (C : CpH M N T) : ∀ t, t < T → txOk M (M 122) t := C.2.2.2.1
theorem CpH.ct {M : IM} {N T : Nat} (C : CpH M N T) : ∀ k, k < 3 → M 3 k = enc (cntR (M 122) (nI k) T) := C.2.2.2.2.1
theorem CpH.ev {M : IM} {N T : Nat} (C : CpH M N T) : ∃ e, e ≤ 9999 ∧ M 122 2 = nI e := C.2.2.2.2.2
/-- the image, while the house of now has T texts -/
def CpI (M : IM) (T : Nat) : Prop := M 0 3 = M 121 3 ∧ (M 0 3 = 0 ∨ (M 0 3 = 1 ∧ ∃ Ni Ti : Nat, isH M 27 (M 123) Ni ∧ bd (M 123) Ni ∧ wfX (M 123) Ti ∧ Ti ≤ T ∧ (∀ i, 60 ≤ i → i < 60 + 200 * Ti → M 122 i = M 123 i) ∧ (∀ k, k < 3 → M 29 k = enc (cntR (M 123) (nI k) Ti)) ∧ ∃ e, e ≤ 9999 ∧ M 123 2 = nI e))
/-- the tape -/
def CpT (M : IM) : Prop := ∃ n : Nat, n ≤ 96 ∧ M 42 1 = nI n ∧ M 121 14 = nI n ∧ ∀ i, i < n → M 43 i = M 134 i ∧ ∃ b, b < 256 ∧ M 43 i = nI b
def okV (v : Int32) : Prop := v = -1000000005 ∨ (-99999 ≤ v ∧ v ≤ 99999)
/-- the sheets -/
def CpS (M : IM) : Prop := ∀ k, k < 4 → M (93 + 2 * k) 1 = M 125 k ∧ M (93 + 2 * k) 2 = M 126 k ∧ (M 125 k = -1 ∨ M 125 k = 0 ∨ M 125 k = 1) ∧ (∃ n, n ≤ 24 ∧ M 126 k = nI n) ∧ ∀ i, i < 24 → M (94 + 2 * k) i = M 127 (24 * k + i) ∧ okV (M 127 (24 * k + i))
/-- the slots -/
def CpL (M : IM) : Prop := ∀ j, j < 5 → M (101 + 4 * j) 2 = M 128 j ∧ (M 128 j = 0 ∨
  (M 128 j = 1 ∧ M (102 + 4 * j) 0 = M 129 j ∧ (∃ q, q ≤ 5 ∧ M 129 j = nI q) ∧ M 130 j = gWorth (M (102 + 4 * j) 0) (M (102 + 4 * j) 1) (M (102 + 4 * j) 2) (M (102 + 4 * j) 3) (M (102 + 4 * j) 4)) ∨
  (M 128 j = 2 ∧ M (103 + 4 * j) 2 = M 131 j ∧ (∃ n, n ≤ 24 ∧ M 131 j = nI n) ∧ ∀ i, i < 24 → M (104 + 4 * j) i = M 132 (24 * j + i)) ∨
  (M 128 j = 3 ∧ M (101 + 4 * j) 3 = M 129 j))
/-- the row in waiting -/
def CpW (M : IM) : Prop := ∃ n : Nat, n ≤ 60 ∧ M 0 9 = nI n ∧ M 121 29 = nI n ∧ ∀ i, i < n → M 46 i = M 138 i
def Cp (M : IM) (N T : Nat) : Prop := CpH M N T ∧ CpI M T ∧ CpT M ∧ CpS M ∧ CpL M ∧ CpW M
theorem Cp.h {M : IM} {N T : Nat} (C : Cp M N T) : CpH M N T := C.1
theorem Cp.i {M : IM} {N T : Nat} (C : Cp M N T) : CpI M T := C.2.1
theorem Cp.t {M : IM} {N T : Nat} (C : Cp M N T) : CpT M := C.2.2.1
theorem Cp.s {M : IM} {N T : Nat} (C : Cp M N T) : CpS M := C.2.2.2.1
theorem Cp.l {M : IM} {N T : Nat} (C : Cp M N T) : CpL M := C.2.2.2.2.1
theorem Cp.w {M : IM} {N T : Nat} (C : Cp M N T) : CpW M := C.2.2.2.2.2
/-- cells whose numbers nobody asks for -/
def jk (c : Nat) : Prop := (14 ≤ c ∧ c < 27) ∨ c = 47 ∨ scr c ∨ c = 124 ∨ c = 133 ∨ c = 135 ∨ c = 136 ∨ c = 137 ∨ c = 139
/-- cells of the house of now -/
def hk (c : Nat) : Prop := c = 1 ∨ (4 ≤ c ∧ c < 14) ∨ c = 122
theorem jk_no {c : Nat} (h : ¬ (14 ≤ c ∧ c < 27)) (h2 : c ≠ 47) (h3 : ¬ (50 ≤ c ∧ c < 93)) (h4 : c < 123 ∨ c = 123 ∨ (124 < c ∧ c < 133) ∨ c = 134 ∨ c = 138 ∨ 139 < c) : ¬ jk c := by
  rintro (z | z | ⟨t, z1, z2⟩ | z | z | z | z | z | z) <;> omega
theorem scr_lt {c : Nat} (h : scr c) : 50 ≤ c ∧ c < 93 := by obtain ⟨t, h1, h2⟩ := h; omega
section CP
variable {M M' : IM} {N T N' T' : Nat}
/-- what the house of now may become -/
theorem CpH.st (C : CpH M N T) (H : isH M' 1 (M' 122) N') (B : bd (M' 122) N') (hi : ∀ i, 60 ≤ i → M' 122 i = M 122 i) (h1 : M' 122 1 = M 122 1) (h3 : M' 3 = M 3) (hl : ∀ c, 48 ≤ c → c < 93 → ¬ scr c → M' c = M c) (ev : ∃ e, e ≤ 9999 ∧ M' 122 2 = nI e) : CpH M' N' T := by
  refine ⟨H, B, wfX_cg hi h1 C.X, fun t ht => ?_, fun k hk => ?_, ev⟩
  · have hT := C.X.2.1
    have e1 : M' (48 + 3 * t) = M (48 + 3 * t) := hl _ (by omega) (by omega) (by rintro ⟨q, _, z⟩; omega)
    have e2 : M' (49 + 3 * t) = M (49 + 3 * t) := hl _ (by omega) (by omega) (by rintro ⟨q, _, z⟩; omega)
    have := C.tx t ht
    unfold txOk at *
    rw [e1, e2, hi _ (by omega), hi _ (by omega), hi _ (by omega), tN_cg hi, tSt_cg hi]
    exact this
  · rw [h3, cntR_cg T hi]; exact C.ct k hk
theorem CpI.fr (C : CpI M T) (e1 : M' 0 3 = M 0 3) (e2 : M' 121 3 = M 121 3) (e3 : ∀ c, 27 ≤ c → c < 40 → M' c = M c) (e4 : M' 123 = M 123) (e5 : ∀ i, 60 ≤ i → i < 60 + 200 * T → M' 122 i = M 122 i) (hT : T ≤ T') : CpI M' T' := by
  unfold CpI
  rw [e1, e2, e4]
  refine ⟨C.1, C.2.imp_right ?_⟩
  rintro ⟨h1, Ni, Ti, a, b, c, e, f, g, i⟩
  refine ⟨h1, Ni, Ti, a.fr (fun c hc => e3 c (by omega) (by omega)), b, c, by omega, fun i h1 h2 => by rw [e5 i h1 (by omega)]; exact f i h1 h2, fun k hk => by rw [e3 29 (by decide) (by decide)]; exact g k hk, i⟩
theorem CpT.fr (C : CpT M) (e1 : M' 42 1 = M 42 1) (e2 : M' 121 14 = M 121 14) (e3 : M' 43 = M 43) (e4 : M' 134 = M 134) : CpT M' := by
  unfold CpT
  rw [e1, e2, e3, e4]; exact C
theorem CpS.fr (C : CpS M) (e : ∀ c, (93 ≤ c ∧ c < 101) ∨ (125 ≤ c ∧ c < 128) → M' c = M c) : CpS M' := by
  intro k hk
  rw [e (93 + 2 * k) (by omega), e (94 + 2 * k) (by omega), e 125 (by omega), e 126 (by omega), e 127 (by omega)]
  exact C k hk
theorem CpL.fr (C : CpL M) (e : ∀ c, (101 ≤ c ∧ c < 121) ∨ (128 ≤ c ∧ c < 133) → M' c = M c) : CpL M' := by
  intro k hk
  rw [e (101 + 4 * k) (by omega), e (102 + 4 * k) (by omega), e (103 + 4 * k) (by omega), e (104 + 4 * k) (by omega), e 128 (by omega), e 129 (by omega), e 130 (by omega), e 131 (by omega), e 132 (by omega)]
  exact C k hk
theorem CpW.fr (C : CpW M) (e1 : M' 0 9 = M 0 9) (e2 : M' 121 29 = M 121 29) (e3 : M' 46 = M 46) (e4 : M' 138 = M 138) : CpW M' := by
  unfold CpW
  rw [e1, e2, e3, e4]; exact C
/-- only junk and the house of now have changed -/
def frN (M M' : IM) : Prop := ∀ c, ¬ jk c → ¬ hk c → M' c = M c
theorem frN.rf : frN M M := fun _ _ _ => rfl
theorem frN.tr {M1 M2 : IM} (a : frN M M1) (b : frN M1 M2) : frN M M2 := fun c h1 h2 => (b c h1 h2).trans (a c h1 h2)
theorem frN.wr {c k : Nat} {v : Int32} (h : jk c ∨ hk c) : frN M (up M c k v) := by
  intro c' h1 h2
  refine up_c (fun e => ?_)
  subst e
  exact h.elim h1 h2
theorem frN.ofE (h : frE 1 M M') : frN M M' := fun c h1 h2 => h c (fun e => h2 (Or.inl e)) (fun e => h2 (Or.inr (Or.inl e))) (fun e => h1 (Or.inr (Or.inr (Or.inl e))))
theorem frN.ofE14 (h : frE 14 M M') : frN M M' := fun c h1 h2 => h c (fun e => h1 (Or.inl (by omega))) (fun e => h1 (Or.inl (by omega))) (fun e => h1 (Or.inr (Or.inr (Or.inl e))))
theorem frN.ofH (h : frH 1 M M') : frN M M' := frN.ofE (frE.ofH h)
theorem frN.ofS (h : frS M M') : frN M M' := frN.ofE (frE.ofS h)
theorem frN.ofM (h : frM M M') : frN M M' := fun c h1 h2 => h c (fun e => h2 (Or.inr (Or.inr e))) (fun e => h1 (by subst e; exact Or.inr (Or.inr (Or.inr (Or.inr (Or.inr (Or.inl rfl))))))) (fun e => h1 (by subst e; exact Or.inr (Or.inr (Or.inr (Or.inr (Or.inr (Or.inr (Or.inl rfl))))))))
def fz (M M' : IM) : Prop := ∀ c, 1000 ≤ c → M' c = M c
theorem fz.tr {M1 M2 : IM} (a : fz M M1) (b : fz M1 M2) : fz M M2 := fun c h => (b c h).trans (a c h)
theorem frN.fz (h : frN M M') : fz M M' := fun c hc => h c (jk_no (by omega) (by omega) (by omega) (by omega)) (by unfold hk; omega)
theorem frN.hl (h : frN M M') : ∀ c, 48 ≤ c → c < 93 → ¬ scr c → M' c = M c := fun c h1 h2 h3 => h c (by rintro (z | z | z | z | z | z | z | z | z) <;> first | omega | exact h3 z) (by unfold hk; omega)
/-- the house of now has changed, and junk -/
theorem Cp.st (C : Cp M N T) (f : frN M M') (H : isH M' 1 (M' 122) N') (B : bd (M' 122) N') (hi : ∀ i, 60 ≤ i → M' 122 i = M 122 i) (h1 : M' 122 1 = M 122 1) (ev : ∃ e, e ≤ 9999 ∧ M' 122 2 = nI e) : Cp M' N' T := by
  have e : ∀ c, ¬ (14 ≤ c ∧ c < 27) → c ≠ 47 → ¬ (50 ≤ c ∧ c < 93) → (c < 122 ∨ c = 123 ∨ (124 < c ∧ c < 133) ∨ c = 134 ∨ c = 138 ∨ 139 < c) → c ≠ 1 → ¬ (4 ≤ c ∧ c < 14) → M' c = M c := fun c a1 a2 a3 a4 a5 a6 => f c (jk_no a1 a2 a3 (by omega)) (by unfold hk; omega)
  refine ⟨C.h.st H B hi h1 (e 3 (by omega) (by omega) (by omega) (by omega) (by omega) (by omega)) f.hl ev, C.i.fr (by rw [e 0 (by omega) (by omega) (by omega) (by omega) (by omega) (by omega)]) (by rw [e 121 (by omega) (by omega) (by omega) (by omega) (by omega) (by omega)]) (fun c h1 h2 => e c (by omega) (by omega) (by omega) (by omega) (by omega) (by omega)) (e 123 (by omega) (by omega) (by omega) (by omega) (by omega) (by omega)) (fun i a _ => hi i a) (Nat.le_refl _), C.t.fr ?_ ?_ ?_ ?_, C.s.fr (fun c hc => e c (by omega) (by omega) (by omega) (by omega) (by omega) (by omega)), C.l.fr (fun c hc => e c (by omega) (by omega) (by omega) (by omega) (by omega) (by omega)), C.w.fr ?_ ?_ ?_ ?_⟩
  all_goals (rw [e _ (by omega) (by omega) (by omega) (by omega) (by omega) (by omega)])
/-- nothing but junk has changed -/
theorem Cp.jk (C : Cp M N T) (f : frN M M') (g : ∀ c, hk c → M' c = M c) : Cp M' N T := by
  have e : M' 122 = M 122 := g 122 (by unfold hk; omega)
  refine C.st f ?_ ?_ ?_ ?_ ?_
  · rw [e]; exact C.h.H.fr (fun c hc => g c (by unfold hk; omega))
  · rw [e]; exact C.h.B
  · intro i _; rw [e]
  · rw [e]
  · rw [e]; exact C.h.ev
end CP
/-- the class and the reference answer alike, and stay together -/
def Ok (d : Nat) (M : IM) (f : Nat) (l : List Value) (g : Nat) (m : List Value) : Prop := ∃ (r : Int32) (M1 M2 : IM), Rn (d, f, 0, l, [], M) (.int r) M1 ∧ Rn (d, g, 0, m, [], M1) (.int r) M2 ∧ (∃ N T : Nat, Cp M2 N T) ∧ fz M M2
theorem Ok.ret {d : Nat} {M : IM} {f g : Nat} {l m : List Value} {N T : Nat} (C : Cp M N T) (r : Int32) (h1 : Rn (d, f, 0, l, [], M) (.int r) M) (h2 : Rn (d, g, 0, m, [], M) (.int r) M) : Ok d M f l g m := ⟨r, M, M, h1, h2, ⟨N, T, C⟩, fun _ _ => rfl⟩
theorem le_nI {a b : Nat} (ha : a < 2 ^ 31) (hb : b < 2 ^ 31) : nI a ≤ nI b ↔ a ≤ b := by
  rw [Int32.le_iff_toInt_le, nI_toInt ha, nI_toInt hb]; omega
theorem wi0 {v w : Int32} (b : Nat) (hb : b < 2 ^ 31) (hw : w = nI b) (h : 0 ≤ v ∧ v ≤ w) : ∃ k, k ≤ b ∧ v = nI k := by
  subst hw
  have h1 := Int32.le_iff_toInt_le.mp h.1
  have h2 := Int32.le_iff_toInt_le.mp h.2
  rw [nI_toInt hb] at h2
  have h0 : (0 : Int32).toInt = 0 := by decide
  rw [h0] at h1
  refine ⟨v.toInt.toNat, by omega, Int32.toInt_inj.mp ?_⟩
  rw [nI_toInt (by omega)]
  omega
theorem wi1 {v w : Int32} (b : Nat) (hb : b < 2 ^ 31) (hw : w = nI b) (h : 1 ≤ v ∧ v ≤ w) : ∃ k, 1 ≤ k ∧ k ≤ b ∧ v = nI k := by
  obtain ⟨k, h1, h2⟩ := wi0 b hb hw ⟨Int32.le_trans (by decide) h.1, h.2⟩
  refine ⟨k, ?_, h1, h2⟩
  have := h.1
  rw [h2, show (1 : Int32) = nI 1 by decide, le_nI (by decide) (by omega)] at this
  exact this
theorem isP {v : Int32} {N : Nat} (hN : N ≤ 100) : (0 ≤ v ∧ v ≤ nI N - 1) ↔ ∃ k, k < N ∧ v = nI k := by
  cases N with
  | zero =>
    constructor
    · intro h
      have h1 := Int32.le_iff_toInt_le.mp h.1
      have h2 := Int32.le_iff_toInt_le.mp h.2
      rw [show (nI 0 - 1).toInt = -1 by decide] at h2
      rw [show (0 : Int32).toInt = 0 by decide] at h1
      omega
    · rintro ⟨k, hk, _⟩; omega
  | succ n =>
    rw [show nI (n + 1) - 1 = nI n by rw [show nI (n + 1) = nI n + 1 from (nI_1 n).symm, Int32.add_sub_cancel]]
    constructor
    · intro h
      obtain ⟨k, h1, h2⟩ := wi0 n (by omega) rfl h
      exact ⟨k, by omega, h2⟩
    · rintro ⟨k, hk, rfl⟩
      refine ⟨?_, (le_nI (by omega) (by omega)).mpr (by omega)⟩
      rw [show (0 : Int32) = nI 0 by decide, le_nI (by decide) (by omega)]; omega
theorem t64 {a b : Int32} : (Int32.toInt64 a ≤ Int32.toInt64 b) ↔ a ≤ b := by
  rw [Int64.le_iff_toInt_le, Int32.le_iff_toInt_le, Int32.toInt_toInt64, Int32.toInt_toInt64]
section K1
variable {d : Nat} {I : IM} {Q : Po} {v w : Int32}
theorem k119c {a b : Int32} {x y : Int64} (hx : x = a.toInt64) (hy : y = b.toInt64) : E (d, 119, 0, [.long v.toInt64, UN, .long x, UN, .long y, UN], [], I) Q ↔ Q (.int (b01 (a ≤ v ∧ v ≤ b))) I := by
  subst hx hy
  rw [k119]
  have : (a.toInt64 ≤ v.toInt64 ∧ v.toInt64 ≤ b.toInt64) = (a ≤ v ∧ v ≤ b) := by rw [t64, t64]
  unfold b01
  simp only [this]
theorem k119v : E (d, 119, 0, [.long v.toInt64, UN, .long 0, UN, .long w.toInt64, UN], [], I) Q ↔ Q (.int (b01 (0 ≤ v ∧ v ≤ w))) I := k119c (a := 0) (by decide) rfl
theorem k119_0_5 : E (d, 119, 0, [.long v.toInt64, UN, .long 0, UN, .long 5, UN], [], I) Q ↔ Q (.int (b01 (0 ≤ v ∧ v ≤ 5))) I := k119c (a := 0) (b := 5) (by decide) (by decide)
theorem k119_0_100 : E (d, 119, 0, [.long v.toInt64, UN, .long 0, UN, .long 100, UN], [], I) Q ↔ Q (.int (b01 (0 ≤ v ∧ v ≤ 100))) I := k119c (a := 0) (b := 100) (by decide) (by decide)
theorem k119_0_99 : E (d, 119, 0, [.long v.toInt64, UN, .long 0, UN, .long 99, UN], [], I) Q ↔ Q (.int (b01 (0 ≤ v ∧ v ≤ 99))) I := k119c (a := 0) (b := 99) (by decide) (by decide)
theorem k119_0_8 : E (d, 119, 0, [.long v.toInt64, UN, .long 0, UN, .long 8, UN], [], I) Q ↔ Q (.int (b01 (0 ≤ v ∧ v ≤ 8))) I := k119c (a := 0) (b := 8) (by decide) (by decide)
theorem k119_1_4 : E (d, 119, 0, [.long v.toInt64, UN, .long 1, UN, .long 4, UN], [], I) Q ↔ Q (.int (b01 (1 ≤ v ∧ v ≤ 4))) I := k119c (a := 1) (b := 4) (by decide) (by decide)
theorem k119_0_1 : E (d, 119, 0, [.long v.toInt64, UN, .long 0, UN, .long 1, UN], [], I) Q ↔ Q (.int (b01 (0 ≤ v ∧ v ≤ 1))) I := k119c (a := 0) (b := 1) (by decide) (by decide)
theorem k119_1_10 : E (d, 119, 0, [.long v.toInt64, UN, .long 1, UN, .long 10, UN], [], I) Q ↔ Q (.int (b01 (1 ≤ v ∧ v ≤ 10))) I := k119c (a := 1) (b := 10) (by decide) (by decide)
theorem k119_0_999 : E (d, 119, 0, [.long v.toInt64, UN, .long 0, UN, .long 999, UN], [], I) Q ↔ Q (.int (b01 (0 ≤ v ∧ v ≤ 999))) I := k119c (a := 0) (b := 999) (by decide) (by decide)
theorem k119_0_4 : E (d, 119, 0, [.long v.toInt64, UN, .long 0, UN, .long 4, UN], [], I) Q ↔ Q (.int (b01 (0 ≤ v ∧ v ≤ 4))) I := k119c (a := 0) (b := 4) (by decide) (by decide)
theorem k119_1_100 : E (d, 119, 0, [.long v.toInt64, UN, .long 1, UN, .long 100, UN], [], I) Q ↔ Q (.int (b01 (1 ≤ v ∧ v ≤ 100))) I := k119c (a := 1) (b := 100) (by decide) (by decide)
theorem k119_1_60 : E (d, 119, 0, [.long v.toInt64, UN, .long 1, UN, .long 60, UN], [], I) Q ↔ Q (.int (b01 (1 ≤ v ∧ v ≤ 60))) I := k119c (a := 1) (b := 60) (by decide) (by decide)
theorem k119_0_2 : E (d, 119, 0, [.long v.toInt64, UN, .long 0, UN, .long 2, UN], [], I) Q ↔ Q (.int (b01 (0 ≤ v ∧ v ≤ 2))) I := k119c (a := 0) (b := 2) (by decide) (by decide)
theorem k119_0_3 : E (d, 119, 0, [.long v.toInt64, UN, .long 0, UN, .long 3, UN], [], I) Q ↔ Q (.int (b01 (0 ≤ v ∧ v ≤ 3))) I := k119c (a := 0) (b := 3) (by decide) (by decide)
theorem k119_m1_1 : E (d, 119, 0, [.long v.toInt64, UN, .long (-1), UN, .long 1, UN], [], I) Q ↔ Q (.int (b01 ((-1) ≤ v ∧ v ≤ 1))) I := k119c (a := (-1)) (b := 1) (by decide) (by decide)
theorem k119_1_30 : E (d, 119, 0, [.long v.toInt64, UN, .long 1, UN, .long 30, UN], [], I) Q ↔ Q (.int (b01 (1 ≤ v ∧ v ≤ 30))) I := k119c (a := 1) (b := 30) (by decide) (by decide)
theorem k119_97_122 : E (d, 119, 0, [.long v.toInt64, UN, .long 97, UN, .long 122, UN], [], I) Q ↔ Q (.int (b01 (97 ≤ v ∧ v ≤ 122))) I := k119c (a := 97) (b := 122) (by decide) (by decide)
theorem k119_48_57 : E (d, 119, 0, [.long v.toInt64, UN, .long 48, UN, .long 57, UN], [], I) Q ↔ Q (.int (b01 (48 ≤ v ∧ v ≤ 57))) I := k119c (a := 48) (b := 57) (by decide) (by decide)
theorem k119_m99999_99999 : E (d, 119, 0, [.long v.toInt64, UN, .long (-99999), UN, .long 99999, UN], [], I) Q ↔ Q (.int (b01 ((-99999) ≤ v ∧ v ≤ 99999))) I := k119c (a := (-99999)) (b := 99999) (by decide) (by decide)
theorem k119_0_10 : E (d, 119, 0, [.long v.toInt64, UN, .long 0, UN, .long 10, UN], [], I) Q ↔ Q (.int (b01 (0 ≤ v ∧ v ≤ 10))) I := k119c (a := 0) (b := 10) (by decide) (by decide)
theorem k119_0_9999 : E (d, 119, 0, [.long v.toInt64, UN, .long 0, UN, .long 9999, UN], [], I) Q ↔ Q (.int (b01 (0 ≤ v ∧ v ≤ 9999))) I := k119c (a := 0) (b := 9999) (by decide) (by decide)
theorem k128 : E (d + 1, 128, 0, [.ref 121, .int v], [], I) Q ↔ Q (.int (b01 (0 ≤ v ∧ v ≤ I 122 0 - 1))) I := by
  simp only [b128_0, b128_15, k119v, aNarB, true_and]
theorem k129 : E (d + 1, 129, 0, [.ref 121, .int v], [], I) Q ↔ Q (.int (b01 (0 ≤ v ∧ v ≤ I 122 1 - 1))) I := by
  simp only [b129_0, b129_15, k119v, aNarB, true_and]
theorem k113 : E (d + 1, 113, 0, [.ref 0, .int v], [], I) Q ↔ Q (.int (b01 (0 ≤ v ∧ v ≤ I 1 2 - 1))) I := by
  simp only [b113_0, b113_14, k108, aNarB, true_and]
theorem k192 : E (d + 1, 192, 0, [.int v], [], I) Q ↔ Q (.int (b01 (0 ≤ v ∧ v ≤ 3))) I := by
  simp only [b192_0, b192_9, k119_0_3, aNarB, true_and]
theorem k200 : E (d + 1, 200, 0, [.int v], [], I) Q ↔ Q (.int (b01 (0 ≤ v ∧ v ≤ 4))) I := by
  simp only [b200_0, b200_9, k119_0_4, aNarB, true_and]
theorem k120 : E (d, 120, 0, [.int v], [], I) Q ↔ Q (.int (if v < 0 then -1000000005 else v)) I := by
  simp only [b120_0, b120_4, b120_9, b120_10, QI]
theorem k122 : E (d, 122, 0, [.int v, .int w], [], I) Q ↔ Q (.int (if v < w then w - v else v - w)) I := by
  simp only [b122_0, b122_5, b122_11, b122_14, QI]
theorem k162 : E (d + 1, 162, 0, [.int v, .int w], [], I) Q ↔ Q (.int (b01 ((1 ≤ v ∧ v ≤ 60) ∧ (0 ≤ w ∧ w ≤ 1)))) I := by
  simp only [b162_0, b162_9, b162_12, b162_19, b162_22, b162_26, b162_27, k119_1_60, k119_0_1, ite_b01, aNar0, aNar1, true_and]
  by_cases h1 : 1 ≤ v ∧ v ≤ 60
  · by_cases h2 : 0 ≤ w ∧ w ≤ 1
    · rw [if_pos h1, if_pos h2, b01_t ⟨h1, h2⟩]
    · rw [if_pos h1, if_neg h2, b01_f (fun q => h2 q.2)]
  · rw [if_neg h1, b01_f (fun q => h1 q.1)]
end K1
