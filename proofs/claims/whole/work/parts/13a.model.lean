/-! the reference: small methods, and an evening -/
theorem nx_or (a b : Nat) : nI a ||| nI b = nI (a ||| b) := by
  apply Int32.toBitVec_inj.1
  show BitVec.ofNat 32 a ||| BitVec.ofNat 32 b = BitVec.ofNat 32 (a ||| b)
  apply BitVec.eq_of_getLsbD_eq
  intro i hi
  simp [hi]
theorem shl1 : ∀ q, q < 10 → (1 : Int32) <<< (nI q &&& 31) = nI (2 ^ q) := by decide +kernel
theorem or_lt {a q : Nat} (ha : a < 1024) (hq : q < 10) : a ||| 2 ^ q < 1024 := by
  have h2 : 2 ^ q < 2 ^ 10 := Nat.pow_lt_pow_right (by decide) hq
  exact Nat.or_lt_two_pow (n := 10) ha h2
/-- a set of people -/
def isSet (x : Int32) : Prop := ∃ n, n < 1024 ∧ x = nI n
theorem isSet.or {x : Int32} {q : Nat} (h : isSet x) (hq : q < 10) : isSet (x ||| (1 <<< (nI q &&& 31))) := by
  obtain ⟨n, h1, rfl⟩ := h
  exact ⟨n ||| 2 ^ q, or_lt h1 hq, by rw [shl1 q hq, nx_or]⟩
theorem isSet0 : isSet 0 := ⟨0, by decide, nI_0.symm⟩
def jWi (v m : Int32) : Int32 := if v < 0 then 0 else if m < v then m else v
def jLe (a b : Int32) : Int32 := if a < b then a else b
theorem bitN : ∀ n, n < 1024 → n ≠ 0 → (nI n &&& (nI n - 1)).toNatClampNeg < n ∧ nI n &&& (nI n - 1) = nI (nI n &&& (nI n - 1)).toNatClampNeg ∧ jBit (nI n) = 1 + jBit (nI (nI n &&& (nI n - 1)).toNatClampNeg) := by decide +kernel
theorem ix5 (p j : Nat) : (10 + 5 * nI p) + nI j = nI (10 + 5 * p + j) := by
  rw [show (5 : Int32) = nI 5 by decide, show (10 : Int32) = nI 10 by decide, pk_mul, nI_add, nI_add]
/-- the numbers of a house are within their bounds -/
def bdG (S : Nat → Int32) (p : Nat) : Prop := (∃ k, k ≤ 5 ∧ gK S p = nI k) ∧ (∃ k, k ≤ 100 ∧ gO S p = nI k) ∧ (∃ k, k ≤ 99 ∧ gS S p = nI k) ∧ (∃ k, k ≤ 99 ∧ gW S p = nI k) ∧ ∃ k, k ≤ 9999 ∧ gT S p = nI k
def bd (S : Nat → Int32) (N : Nat) : Prop := S 0 = nI N ∧ N ≤ 10 ∧ isSet (S 5) ∧ (∃ k, k ≤ 99999 ∧ S 6 = nI k) ∧ ∀ p, p < N → bdG S p
section KM
variable {d : Nat} {I : IM} {Q : Po} {N : Nat}
theorem k121 {v m : Int32} : E (d, 121, 0, [.int v, .int m], [], I) Q ↔ Q (.int (jWi v m)) I := by
  simp only [b121_0, b121_4, b121_8, b121_13, b121_17, b121_18]
  unfold jWi
  simp only [QI]
theorem k123 {a b : Int32} : E (d, 123, 0, [.int a, .int b], [], I) Q ↔ Q (.int (jLe a b)) I := by
  simp only [b123_0, b123_5, b123_9, b123_10]
  unfold jLe
  simp only [QI]
theorem k132 {n : Nat} (hn : n < 1024) {x y : Value} : E (d, 132, 0, [.int (nI n), x, y], [], I) Q ↔ Q (.int (jBit (nI n))) I := by
  have loop : ∀ (k n : Nat) (a c : Int32), n < 1024 → n ≤ k → (E (d, 132, 4, [.int a, .int c, .int (nI n)], [], I) Q ↔ Q (.int (c + jBit (nI n))) I) := by
    intro k
    induction k with
    | zero =>
      intro n a c h1 h2
      have : n = 0 := by omega
      subst this
      rw [b132_4, if_pos nI_0, b132_20, show jBit (nI 0) = 0 by decide +kernel, Int32.add_zero]
    | succ k ih =>
      intro n a c h1 h2
      by_cases h0 : n = 0
      · subst h0
        rw [b132_4, if_pos nI_0, b132_20, show jBit (nI 0) = 0 by decide +kernel, Int32.add_zero]
      · obtain ⟨e1, e2, e3⟩ := bitN n h1 h0
        rw [b132_4, if_neg (nI_ne0 (by omega) (by omega)), b132_8, e2, ih _ a (c + 1) (by omega) (by omega), e3, Int32.add_assoc]
  rw [b132_0, loop n n _ 0 hn (Nat.le_refl n), Int32.zero_add]
theorem k132s {x : Int32} (h : isSet x) {a b : Value} : E (d, 132, 0, [.int x, a, b], [], I) Q ↔ Q (.int (jBit x)) I := by
  obtain ⟨n, h1, rfl⟩ := h
  exact k132 h1
theorem k126 {p j : Nat} {jv : Int32} (hp : p < 10) (hj : j < 5) (e : jv = nI j) : E (d, 126, 0, [.ref 121, .int (nI p), .int jv], [], I) Q ↔ Q (.int (I 122 (10 + 5 * p + j))) I := by
  subst e
  rw [b126_0, ix5, and_iff_right (vp_in_nI (by omega) (by decide)), nI_clamp (by omega)]
theorem k127 {p j : Nat} {jv v : Int32} (hp : p < 10) (hj : j < 5) (e : jv = nI j) : E (d, 127, 0, [.ref 121, .int (nI p), .int jv, .int v], [], I) Q ↔ Q .null (up I 122 (10 + 5 * p + j) v) := by
  subst e
  rw [b127_0, ix5, and_iff_right (vp_in_nI (by omega) (by decide)), nI_clamp (by omega)]
theorem k126_0 {p : Nat} (hp : p < 10) : E (d, 126, 0, [.ref 121, .int (nI p), .int 0], [], I) Q ↔ Q (.int (I 122 (10 + 5 * p))) I := k126 (j := 0) hp (by decide) (by decide)
theorem k126_1 {p : Nat} (hp : p < 10) : E (d, 126, 0, [.ref 121, .int (nI p), .int 1], [], I) Q ↔ Q (.int (I 122 (10 + 5 * p + 1))) I := k126 (j := 1) hp (by decide) (by decide)
theorem k126_2 {p : Nat} (hp : p < 10) : E (d, 126, 0, [.ref 121, .int (nI p), .int 2], [], I) Q ↔ Q (.int (I 122 (10 + 5 * p + 2))) I := k126 (j := 2) hp (by decide) (by decide)
theorem k126_3 {p : Nat} (hp : p < 10) : E (d, 126, 0, [.ref 121, .int (nI p), .int 3], [], I) Q ↔ Q (.int (I 122 (10 + 5 * p + 3))) I := k126 (j := 3) hp (by decide) (by decide)
theorem k126_4 {p : Nat} (hp : p < 10) : E (d, 126, 0, [.ref 121, .int (nI p), .int 4], [], I) Q ↔ Q (.int (I 122 (10 + 5 * p + 4))) I := k126 (j := 4) hp (by decide) (by decide)
theorem k127_0 {p : Nat} {v : Int32} (hp : p < 10) : E (d, 127, 0, [.ref 121, .int (nI p), .int 0, .int v], [], I) Q ↔ Q .null (up I 122 (10 + 5 * p) v) := k127 (j := 0) hp (by decide) (by decide)
theorem k127_1 {p : Nat} {v : Int32} (hp : p < 10) : E (d, 127, 0, [.ref 121, .int (nI p), .int 1, .int v], [], I) Q ↔ Q .null (up I 122 (10 + 5 * p + 1) v) := k127 (j := 1) hp (by decide) (by decide)
theorem k127_2 {p : Nat} {v : Int32} (hp : p < 10) : E (d, 127, 0, [.ref 121, .int (nI p), .int 2, .int v], [], I) Q ↔ Q .null (up I 122 (10 + 5 * p + 2) v) := k127 (j := 2) hp (by decide) (by decide)
theorem k127_3 {p : Nat} {v : Int32} (hp : p < 10) : E (d, 127, 0, [.ref 121, .int (nI p), .int 3, .int v], [], I) Q ↔ Q .null (up I 122 (10 + 5 * p + 3) v) := k127 (j := 3) hp (by decide) (by decide)
theorem k127_4 {p : Nat} {v : Int32} (hp : p < 10) : E (d, 127, 0, [.ref 121, .int (nI p), .int 4, .int v], [], I) Q ↔ Q .null (up I 122 (10 + 5 * p + 4) v) := k127 (j := 4) hp (by decide) (by decide)
theorem k130 : E (d, 130, 0, [.ref 121], [], I) Q ↔ Q (.int (jUshr (zN (I 122 9)) 8)) (up I 122 9 (zN (I 122 9))) := by
  rw [b130_0, up_s]
  exact Iff.rfl
theorem wi99 : ∀ k, k ≤ 99 → jWi (nI k - 10) 99 = (if nI k - 10 < 0 then 0 else nI k - 10) ∧ jWi (2 * nI k - 5) 198 = (if 2 * nI k - 5 < 0 then 0 else 2 * nI k - 5) ∧ jWi (nI k / 10 - 1) 99 = (if nI k / 10 - 1 < 0 then 0 else nI k / 10 - 1) := by decide +kernel
theorem k135 {p : Nat} (hp : p < 10) {x : Value} (hs : ∃ k, k ≤ 99 ∧ gS (I 122) p = nI k) : E (d + 1, 135, 0, [.ref 121, .int (nI p), x], [], I) Q ↔ Q (.int (gWa (I 122) p)) I := by
  obtain ⟨k, hk, ek⟩ := hs
  obtain ⟨w1, w2, -⟩ := wi99 k hk
  simp only [b135_0, b135_6, b135_13, b135_48, b135_52, b135_61, b135_62, b135_73, b135_74, b135_83, b135_86, b135_89, k126_2 (p := p) hp, k126_0 (p := p) hp, k121, n2, true_and]
  unfold gWa gWalks
  unfold gS at ek
  simp only [Nat.add_zero, ek, w1, w2, QI]
theorem k136 {p : Nat} (hp : p < 10) {x : Value} (hs : ∃ k, k ≤ 99 ∧ gW (I 122) p = nI k) : E (d + 1, 136, 0, [.ref 121, .int (nI p), x], [], I) Q ↔ Q (.int (gBr (I 122) p)) I := by
  obtain ⟨k, hk, ek⟩ := hs
  obtain ⟨-, -, w3⟩ := wi99 k hk
  simp only [b136_0, b136_6, b136_16, b136_52, b136_56, b136_64, b136_65, b136_71, b136_79, b136_82, b136_84, k126_3 (p := p) hp, k126_0 (p := p) hp, k121, n10, true_and]
  unfold gBr gBrings
  unfold gW at ek
  simp only [Nat.add_zero, ek, w3, QI]
theorem k137 {p : Nat} (hp : p < 10) {x : Value} : E (d + 1, 137, 0, [.ref 121, .int (nI p), x], [], I) Q ↔ Q (.int (gWorth (gK (I 122) p) (gO (I 122) p) (gS (I 122) p) (gW (I 122) p) (gT (I 122) p))) I := by
  simp only [b137_0, b137_6, b137_12, b137_20, b137_56, b137_58, b137_66, b137_68, b137_72, b137_80, b137_85, b137_91, b137_92, b137_98, k126_3 (p := p) hp, k126_4 (p := p) hp, k126_2 (p := p) hp, k126_1 (p := p) hp, k126_0 (p := p) hp, n2, true_and]
  unfold gWorth
  simp only [Nat.add_zero, QI]
theorem k147 (B : bd (I 122) N) {set : Int32} {x y : Value} : E (d + 2, 147, 0, [.ref 121, .int set, x, y], [], I) Q ↔ Q (.int (sBr (I 122) set N)) I := by
  obtain ⟨b0, b1, -, -, bg⟩ := B
  have loop : ∀ (k p : Nat), p + k = N → (E (d + 2, 147, 4, [.ref 121, .int set, .int (sBr (I 122) set p), .int (nI p)], [], I) Q ↔ Q (.int (sBr (I 122) set N)) I) := by
    intro k
    induction k with
    | zero =>
      intro p hp
      have : p = N := by omega
      subst this
      rw [b147_4, b0, if_neg (nI_nlt (Nat.le_refl _) (by omega)), b147_41]
    | succ k ih =>
      intro p hp
      have ih' := ih (p + 1) (by omega)
      rw [b147_4, b0, if_pos (nI_lt (by omega) (by omega)), b147_14]
      by_cases hb : bit set p = 1
      · rw [if_pos hb, b147_24, k136 (by omega) (bg p (by omega)).2.2.2.1, b147_29, b147_33, nI_1]
        have e : sBr (I 122) set (p + 1) = sBr (I 122) set p + gBr (I 122) p := by show _ + (if _ then _ else _) = _; rw [if_pos hb]
        rw [e] at ih'
        exact ih'
      · rw [if_neg hb, b147_32, b147_33, nI_1]
        have e : sBr (I 122) set (p + 1) = sBr (I 122) set p + 0 := by show _ + (if _ then _ else _) = _; rw [if_neg hb]
        rw [e] at ih'
        exact ih'
  rw [b147_0]
  exact loop N 0 (by omega)
theorem k149 (B : bd (I 122) N) {set : Int32} {x y : Value} : E (d + 2, 149, 0, [.ref 121, .int set, x, y], [], I) Q ↔ Q (.int (enc (sNr (I 122) set N))) I := by
  obtain ⟨b0, b1, -, -, bg⟩ := B
  have loop : ∀ (k p : Nat), p + k = N → (E (d + 2, 149, 4, [.ref 121, .int set, .int (enc (sNr (I 122) set p)), .int (nI p)], [], I) Q ↔ Q (.int (enc (sNr (I 122) set N))) I) := by
    intro k
    induction k with
    | zero =>
      intro p hp
      have : p = N := by omega
      subst this
      rw [b149_4, b0, if_neg (nI_nlt (Nat.le_refl _) (by omega)), b149_51]
    | succ k ih =>
      intro p hp
      have ih' := ih (p + 1) (by omega)
      have hst : ∀ q, sNr (I 122) set p = some q → q < p := fun q => sNr_lt (I 122) set p q
      rw [b149_4, b0, if_pos (nI_lt (by omega) (by omega)), b149_14]
      by_cases hb : bit set p = 0
      · rw [if_pos hb, b149_22]
        cases ho : sNr (I 122) set p with
        | none =>
          rw [if_pos (show enc none < 0 by decide), b149_39, b149_44, nI_1]
          have e : sNr (I 122) set (p + 1) = some p := by unfold sNr; rw [if_pos hb, ho]
          rw [e] at ih'
          exact ih'
        | some q =>
          have hq := hst q ho
          rw [if_neg (show ¬ enc (some q) < 0 from nI_pos (by omega)), b149_26, k135 (by omega) (bg p (by omega)).2.2.1, b149_31]
          rw [show enc (some q) = nI q from rfl, k135 (by omega) (bg q (by omega)).2.2.1, b149_36]
          by_cases hw : gWa (I 122) p < gWa (I 122) q
          · rw [if_pos hw, b149_39, b149_44, nI_1]
            have e : sNr (I 122) set (p + 1) = some p := by unfold sNr; rw [if_pos hb, ho]; dsimp only; rw [if_pos hw]
            rw [e] at ih'
            exact ih'
          · rw [if_neg hw, b149_43, b149_44, nI_1]
            have e : sNr (I 122) set (p + 1) = some q := by unfold sNr; rw [if_pos hb, ho]; dsimp only; rw [if_neg hw]
            rw [e] at ih'
            exact ih'
      · rw [if_neg hb, b149_43, b149_44, nI_1]
        have e : sNr (I 122) set (p + 1) = sNr (I 122) set p := by show (if _ then _ else _) = _; rw [if_neg hb]
        rw [e] at ih'
        exact ih'
  rw [b149_0]
  exact loop N 0 (by omega)
end KM
