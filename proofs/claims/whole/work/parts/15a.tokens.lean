/-! the tape: words, numbers, signs -/
theorem up2 {M : IM} {c k : Nat} {v w : Int32} : up (up M c k v) c k w = up M c k w := by
  funext c' 
  by_cases h : c' = c
  · subst h; rw [up_r, up_r, up_r, upd_up]
  · rw [up_c h, up_c h, up_c h]
def adv (f : Nat → Prop) [DecidablePred f] : Nat → Nat → Nat
  | 0, p => p
  | k + 1, p => if f p then adv f k (p + 1) else p
theorem adv_ge (f : Nat → Prop) [DecidablePred f] : ∀ k p, p ≤ adv f k p ∧ adv f k p ≤ p + k := by
  intro k
  induction k with
  | zero => intro p; exact ⟨Nat.le_refl _, Nat.le_refl _⟩
  | succ k ih =>
    intro p
    unfold adv
    by_cases h : f p
    · rw [if_pos h]; have := ih (p + 1); omega
    · rw [if_neg h]; omega
theorem adv_in (f : Nat → Prop) [DecidablePred f] : ∀ k p i, p ≤ i → i < adv f k p → f i := by
  intro k
  induction k with
  | zero => intro p i h1 h2; have : adv f 0 p = p := rfl; omega
  | succ k ih =>
    intro p i h1 h2
    unfold adv at h2
    by_cases h : f p
    · rw [if_pos h] at h2
      by_cases z : i = p
      · rw [z]; exact h
      · exact ih (p + 1) i (by omega) h2
    · rw [if_neg h] at h2; omega
theorem adv_nf (f : Nat → Prop) [DecidablePred f] : ∀ k p, adv f k p < p + k → ¬ f (adv f k p) := by
  intro k
  induction k with
  | zero => intro p h; have : adv f 0 p = p := rfl; omega
  | succ k ih =>
    intro p h
    unfold adv at h ⊢
    by_cases z : f p
    · rw [if_pos z] at h ⊢; exact ih (p + 1) (by omega)
    · rw [if_neg z]; exact z
def tyV (v : Int32) : Nat := if v < 97 then (if v < 48 then 3 else if 57 < v then 3 else 2) else if 122 < v then (if v < 48 then 3 else if 57 < v then 3 else 2) else 1
def tyA (tp : Nat → Int32) (n i : Nat) : Nat := if i < n then tyV (tp i) else 0
theorem tyV_r (v : Int32) : tyV v = 1 ∨ tyV v = 2 ∨ tyV v = 3 := by
  unfold tyV
  by_cases h1 : v < 97
  · rw [if_pos h1]
    by_cases h2 : v < 48
    · rw [if_pos h2]; exact Or.inr (Or.inr rfl)
    · rw [if_neg h2]
      by_cases h3 : 57 < v
      · rw [if_pos h3]; exact Or.inr (Or.inr rfl)
      · rw [if_neg h3]; exact Or.inr (Or.inl rfl)
  · rw [if_neg h1]
    by_cases h0 : 122 < v
    · rw [if_pos h0]
      by_cases h2 : v < 48
      · rw [if_pos h2]; exact Or.inr (Or.inr rfl)
      · rw [if_neg h2]
        by_cases h3 : 57 < v
        · rw [if_pos h3]; exact Or.inr (Or.inr rfl)
        · rw [if_neg h3]; exact Or.inr (Or.inl rfl)
    · rw [if_neg h0]; exact Or.inl rfl
theorem tyV_1 (v : Int32) : tyV v = 1 ↔ (97 ≤ v ∧ v ≤ 122) := by
  unfold tyV
  by_cases h1 : v < 97
  · rw [if_pos h1]
    refine ⟨fun z => ?_, fun z => absurd z.1 (Int32.not_le.mpr h1)⟩
    by_cases h2 : v < 48
    · rw [if_pos h2] at z; omega
    · rw [if_neg h2] at z
      by_cases h3 : 57 < v
      · rw [if_pos h3] at z; omega
      · rw [if_neg h3] at z; omega
  · rw [if_neg h1]
    by_cases h0 : 122 < v
    · rw [if_pos h0]
      refine ⟨fun z => ?_, fun z => absurd z.2 (Int32.not_le.mpr h0)⟩
      by_cases h2 : v < 48
      · rw [if_pos h2] at z; omega
      · rw [if_neg h2] at z
        by_cases h3 : 57 < v
        · rw [if_pos h3] at z; omega
        · rw [if_neg h3] at z; omega
    · rw [if_neg h0]; exact ⟨fun _ => ⟨Int32.not_lt.mp h1, Int32.not_lt.mp h0⟩, fun _ => rfl⟩
theorem tyV_2 (v : Int32) : tyV v = 2 ↔ (48 ≤ v ∧ v ≤ 57) := by
  unfold tyV
  by_cases h1 : v < 97
  · rw [if_pos h1]
    by_cases h2 : v < 48
    · rw [if_pos h2]; exact ⟨fun z => by omega, fun z => absurd z.1 (Int32.not_le.mpr h2)⟩
    · rw [if_neg h2]
      by_cases h3 : 57 < v
      · rw [if_pos h3]; exact ⟨fun z => by omega, fun z => absurd z.2 (Int32.not_le.mpr h3)⟩
      · rw [if_neg h3]; exact ⟨fun _ => ⟨Int32.not_lt.mp h2, Int32.not_lt.mp h3⟩, fun _ => rfl⟩
  · have no : ¬ (48 ≤ v ∧ v ≤ 57) := fun z => h1 (by
      rw [Int32.lt_iff_toInt_lt]
      have := Int32.le_iff_toInt_le.mp z.2
      rw [show (57 : Int32).toInt = 57 by decide] at this
      rw [show (97 : Int32).toInt = 97 by decide]
      omega)
    rw [if_neg h1]
    by_cases h0 : 122 < v
    · have h3 : 57 < v := by
        rw [Int32.lt_iff_toInt_lt] at *
        rw [show (122 : Int32).toInt = 122 by decide] at h0
        rw [show (57 : Int32).toInt = 57 by decide]
        omega
      rw [if_pos h0, if_pos h3]
      refine ⟨fun z => ?_, fun z => absurd z no⟩
      by_cases h2 : v < 48
      · rw [if_pos h2] at z; omega
      · rw [if_neg h2] at z; omega
    · rw [if_neg h0]; exact ⟨fun z => by omega, fun z => absurd z no⟩
/-- the next word, number or sign: its start, its end, its sort -/
def nSt (tp : Nat → Int32) (n p : Nat) : Nat := adv (fun i => tp i = 32) (n - p) p
def nTy (tp : Nat → Int32) (n p : Nat) : Nat := tyA tp n (nSt tp n p)
def nSp (tp : Nat → Int32) (n p : Nat) : Nat := if nTy tp n p = 0 then nSt tp n p else if nTy tp n p = 3 then nSt tp n p + 1 else adv (fun i => tyA tp n i = nTy tp n p) (n - (nSt tp n p + 1)) (nSt tp n p + 1)
def nSo (tp : Nat → Int32) (n : Nat) (tg : Bool) (p : Nat) : Nat := if (nTy tp n p = 1 ∨ nTy tp n p = 2) ∧ tg = true ∧ nSt tp n p = p then 4 else nTy tp n p
def num (tp : Nat → Int32) (st : Nat) : Nat → Int32
  | 0 => 0
  | k + 1 => 10 * num tp st k + tp (st + k) - 48
theorem nTy_r (tp : Nat → Int32) (n p : Nat) : nTy tp n p = 0 ∨ nTy tp n p = 1 ∨ nTy tp n p = 2 ∨ nTy tp n p = 3 := by
  unfold nTy tyA
  by_cases h : nSt tp n p < n
  · rw [if_pos h]; exact Or.inr (tyV_r _)
  · rw [if_neg h]; exact Or.inl rfl
theorem nSt_b (tp : Nat → Int32) {n p : Nat} (hp : p ≤ n) : p ≤ nSt tp n p ∧ nSt tp n p ≤ n := by
  have := adv_ge (fun i => tp i = 32) (n - p) p
  unfold nSt
  omega
theorem nTy_0 (tp : Nat → Int32) {n p : Nat} (hp : p ≤ n) : nTy tp n p = 0 ↔ nSt tp n p = n := by
  have hb := nSt_b tp hp
  unfold nTy tyA
  by_cases h : nSt tp n p < n
  · rw [if_pos h]
    have := tyV_r (tp (nSt tp n p))
    omega
  · rw [if_neg h]; omega
theorem nSp_b (tp : Nat → Int32) {n p : Nat} (hp : p ≤ n) : nSt tp n p ≤ nSp tp n p ∧ nSp tp n p ≤ n ∧ (nTy tp n p ≠ 0 → nSt tp n p < nSp tp n p) := by
  have hb := nSt_b tp hp
  have h0 := nTy_0 tp hp
  unfold nSp
  by_cases z0 : nTy tp n p = 0
  · rw [if_pos z0]; omega
  · have : nSt tp n p ≠ n := fun e => z0 (h0.mpr e)
    rw [if_neg z0]
    by_cases z3 : nTy tp n p = 3
    · rw [if_pos z3]; omega
    · rw [if_neg z3]
      have := adv_ge (fun i => tyA tp n i = nTy tp n p) (n - (nSt tp n p + 1)) (nSt tp n p + 1)
      omega
section TK
variable {d : Nat} {M I : IM} {Q : Po} {n : Nat} {tp : Nat → Int32}
theorem k67 {i : Nat} (hi : i < 96) : E (d, 67, 0, [.ref 42, .int (nI i)], [], I) Q ↔ Q (.int (I 43 i)) I := by
  rw [b67_0, if_neg (nI_pos (by omega)), b67_4, if_pos (show nI i < 96 from (show nI i < nI 96 from nI_lt hi (by decide))), b67_13, and_iff_right (vp_in_nI hi (by decide)), nI_clamp (by omega), b67_23]
theorem k68 {i : Nat} (hn : n ≤ 96) (hi : i ≤ 96) (h1 : I 42 1 = nI n) (hb : ∀ i, i < n → I 43 i = tp i) {x : Value} : E (d + 1, 68, 0, [.ref 42, .int (nI i), x], [], I) Q ↔ Q (.int (nI (tyA tp n i))) I := by
  rw [b68_0, h1]
  unfold tyA
  by_cases h : i < n
  · rw [if_pos (nI_lt h (by omega)), if_pos h, b68_10, k67 (by omega), hb i h]
    simp only [b68_15, b68_22, b68_28, b68_30, b68_36, b68_42, b68_46, b68_47]
    unfold tyV
    by_cases h1 : tp i < 97
    · simp only [h1, if_true]
      by_cases h2 : tp i < 48
      · simp only [h2, if_true]; exact Iff.rfl
      · simp only [h2, if_false]
        by_cases h3 : 57 < tp i
        · simp only [h3, if_true]; exact Iff.rfl
        · simp only [h3, if_false]; exact Iff.rfl
    · simp only [h1, if_false]
      by_cases h0 : 122 < tp i
      · simp only [h0, if_true]
        by_cases h2 : tp i < 48
        · simp only [h2, if_true]; exact Iff.rfl
        · simp only [h2, if_false]
          by_cases h3 : 57 < tp i
          · simp only [h3, if_true]; exact Iff.rfl
          · simp only [h3, if_false]; exact Iff.rfl
      · simp only [h0, if_false]; exact Iff.rfl
  · rw [if_neg (nI_nlt (by omega) (by omega)), if_neg h, b68_8]
    exact Iff.rfl
theorem k61_sk {l1 l2 : Int32} (hn : n ≤ 96) (h1 : M 42 1 = nI n) (hb : ∀ i, i < n → M 43 i = tp i) : ∀ (k p : Nat), p + k = n → ∀ Q : Po, E (d + 2, 61, 35, [.ref 42, .int l1, .int l2], [], up M 42 3 (nI p)) Q ↔ E (d + 2, 61, 72, [.ref 42, .int l1, .int l2], [], up M 42 3 (nI (adv (fun i => tp i = 32) k p))) Q := by
  intro k
  induction k with
  | zero =>
    intro p hp Q
    rw [b61_35, up_s, up_k (by decide), h1, if_neg (nI_nlt (by omega) (by omega))]
    exact Iff.rfl
  | succ k ih =>
    intro p hp Q
    unfold adv
    rw [b61_35, up_s, up_k (by decide), h1, if_pos (nI_lt (by omega) (by omega)), b61_46, up_s, k67 (by omega), up_c (by decide), hb p (by omega), b61_54]
    by_cases h : tp p = 32
    · rw [if_pos h, if_pos h, b61_59, up_s, nI_1, up2]
      exact ih (p + 1) (by omega) Q
    · rw [if_neg h, if_neg h]
theorem k61_st {l1 l2 : Int32} {s : Nat} (hn : n ≤ 96) (h1 : M 42 1 = nI n) (h2 : M 42 2 = nI s) (hs : s < 10) (hb : ∀ i, i < n → M 43 i = tp i) : ∀ (k p : Nat), p + k = n → ∀ Q : Po, E (d + 2, 61, 124, [.ref 42, .int l1, .int l2], [], up M 42 4 (nI p)) Q ↔ E (d + 2, 61, 163, [.ref 42, .int l1, .int l2], [], up M 42 4 (nI (adv (fun i => tyA tp n i = s) k p))) Q := by
  intro k
  induction k with
  | zero =>
    intro p hp Q
    rw [b61_124, up_s, up_k (by decide), h1, if_neg (nI_nlt (by omega) (by omega))]
    exact Iff.rfl
  | succ k ih =>
    intro p hp Q
    have ht : tyA tp n p < 10 := by unfold tyA; have := tyV_r (tp p); by_cases z : p < n; rw [if_pos z]; omega; rw [if_neg z]; omega
    unfold adv
    rw [b61_124, up_s, up_k (by decide), h1, if_pos (nI_lt (by omega) (by omega)), b61_135, up_s, k68 (tp := tp) hn (by omega) (by rw [up_k (by decide)]; exact h1) (fun i hi => by rw [up_c (by decide)]; exact hb i hi), b61_143, up_k (by decide), h2]
    by_cases h : tyA tp n p = s
    · rw [if_pos (by rw [h]), if_pos h, b61_150, up_s, nI_1, up2]
      exact ih (p + 1) (by omega) Q
    · rw [if_neg (fun z => h ((nI_eqI (by omega) (by omega)).mp z)), if_neg h]
/-- the class looks at the next -/
theorem k61 {p : Nat} {tg : Bool} (hn : n ≤ 96) (hp : p ≤ n) (h1 : M 42 1 = nI n) (h4 : M 42 4 = nI p) (hb : ∀ i, i < n → M 43 i = tp i) (ht : tg = true ↔ (M 42 2 = 1 ∨ M 42 2 = 2)) {x y : Value} :
    ∃ M', Rn (d + 2, 61, 0, [.ref 42, x, y], [], M) .null M' ∧ M' 42 1 = nI n ∧ M' 42 2 = nI (nSo tp n tg p) ∧ M' 42 3 = nI (nSt tp n p) ∧ M' 42 4 = nI (nSp tp n p) ∧ ∀ c, c ≠ 42 → M' c = M c := by
  have hst := nSt_b tp hp
  have hsp := nSp_b tp hp
  have hty := nTy_r tp n p
  -- up to the sort
  have pre : ∀ Q : Po, E (d + 2, 61, 0, [.ref 42, x, y], [], M) Q ↔ E (d + 2, 61, 81, [.ref 42, .int (if tg = true then 1 else 0), .int (nI p)], [.int (nI (nTy tp n p)), .ref 42], up M 42 3 (nI (nSt tp n p))) Q := by
    intro Q
    have s1 : E (d + 2, 61, 0, [.ref 42, x, y], [], M) Q ↔ E (d + 2, 61, 35, [.ref 42, .int (if tg = true then 1 else 0), .int (nI p)], [], up M 42 3 (nI p)) Q := by
      rw [b61_0, b61_8]
      by_cases z1 : M 42 2 = 1
      · rw [if_pos z1, b61_16, b61_21, h4, if_pos (ht.mpr (Or.inl z1))]
      · rw [if_neg z1]
        by_cases z2 : M 42 2 = 2
        · rw [if_pos z2, b61_16, b61_21, h4, if_pos (ht.mpr (Or.inr z2))]
        · rw [if_neg z2, b61_20, b61_21, h4, if_neg (fun z => (ht.mp z).elim z1 z2)]
    rw [s1, k61_sk hn h1 hb (n - p) p (by omega) Q, b61_72, up_s]
    rw [show adv (fun i => tp i = 32) (n - p) p = nSt tp n p from rfl, k68 (tp := tp) hn (by omega) (by rw [up_k (by decide)]; exact h1) (fun i hi => by rw [up_c (by decide)]; exact hb i hi)]
    exact Iff.rfl
  generalize hM1 : up (up M 42 3 (nI (nSt tp n p))) 42 2 (nI (nTy tp n p)) = M1
  have a1 : M1 42 1 = nI n := by rw [← hM1, up_k (by decide), up_k (by decide)]; exact h1
  have a2 : M1 42 2 = nI (nTy tp n p) := by rw [← hM1, up_s]
  have a3 : M1 42 3 = nI (nSt tp n p) := by rw [← hM1, up_k (by decide), up_s]
  have ac : ∀ c, c ≠ 42 → M1 c = M c := fun c hc => by rw [← hM1, up_c hc, up_c hc]
  have fin : ∀ s : Nat, s = nSp tp n p → nSo tp n tg p = nTy tp n p → (∀ Q : Po, E (d + 2, 61, 81, [.ref 42, .int (if tg = true then 1 else 0), .int (nI p)], [.int (nI (nTy tp n p)), .ref 42], up M 42 3 (nI (nSt tp n p))) Q ↔ Q .null (up M1 42 4 (nI s))) → ∃ M', Rn (d + 2, 61, 0, [.ref 42, x, y], [], M) .null M' ∧ M' 42 1 = nI n ∧ M' 42 2 = nI (nSo tp n tg p) ∧ M' 42 3 = nI (nSt tp n p) ∧ M' 42 4 = nI (nSp tp n p) ∧ ∀ c, c ≠ 42 → M' c = M c := by
    intro s e1 e2 e3
    refine ⟨up M1 42 4 (nI s), fun Q => by rw [pre Q, e3 Q], by rw [up_k (by decide)]; exact a1, by rw [up_k (by decide), e2]; exact a2, by rw [up_k (by decide)]; exact a3, by rw [up_s, e1], fun c hc => by rw [up_c hc]; exact ac c hc⟩
  have q81 : ∀ Q : Po, E (d + 2, 61, 81, [.ref 42, .int (if tg = true then 1 else 0), .int (nI p)], [.int (nI (nTy tp n p)), .ref 42], up M 42 3 (nI (nSt tp n p))) Q ↔ if nI (nTy tp n p) = 0 then E (d + 2, 61, 105, [.ref 42, .int (if tg = true then 1 else 0), .int (nI p)], [.int (nI (nSt tp n p)), .ref 42], M1) Q else E (d + 2, 61, 105, [.ref 42, .int (if tg = true then 1 else 0), .int (nI p)], [.int (nI (nSt tp n p + 1)), .ref 42], M1) Q := fun Q => by
    rw [b61_81, up_s, hM1, b61_92, b61_99, a3, nI_1]
  by_cases z0 : nTy tp n p = 0
  · refine fin (nSt tp n p) (by unfold nSp; rw [if_pos z0]) (by unfold nSo; rw [if_neg (by omega)]) (fun Q => ?_)
    rw [q81, z0, if_pos nI_0, b61_105, up_k (by decide), a2, z0, if_neg (by decide), b61_116, up_k (by decide), a2, z0, if_neg (by decide), b61_180]
  have z0' : ¬ nI (nTy tp n p) = 0 := fun z => z0 ((nI_eqI (b := 0) (by omega) (by decide)).mp z)
  by_cases z3 : nTy tp n p = 3
  · refine fin (nSt tp n p + 1) (by unfold nSp; rw [if_neg z0, if_pos z3]) (by unfold nSo; rw [if_neg (by omega)]) (fun Q => ?_)
    rw [q81, if_neg z0', b61_105, up_k (by decide), a2, z3, if_neg (by decide), b61_116, up_k (by decide), a2, z3, if_neg (by decide), b61_180]
  have z12 : nTy tp n p = 1 ∨ nTy tp n p = 2 := by omega
  have eS : nSp tp n p = adv (fun i => tyA tp n i = nTy tp n p) (n - (nSt tp n p + 1)) (nSt tp n p + 1) := by unfold nSp; rw [if_neg z0, if_neg z3]
  have hlt : nSt tp n p < n := by
    have := nTy_0 tp hp
    omega
  have q163 : ∀ Q : Po, E (d + 2, 61, 81, [.ref 42, .int (if tg = true then 1 else 0), .int (nI p)], [.int (nI (nTy tp n p)), .ref 42], up M 42 3 (nI (nSt tp n p))) Q ↔ E (d + 2, 61, 163, [.ref 42, .int (if tg = true then 1 else 0), .int (nI p)], [], up M1 42 4 (nI (nSp tp n p))) Q := fun Q => by
    have go := k61_st (d := d) (M := M1) (tp := tp) (l1 := if tg = true then 1 else 0) (l2 := nI p) (s := nTy tp n p) hn a1 a2 (by omega) (fun i hi => by rw [ac 43 (by decide)]; exact hb i hi) (n - (nSt tp n p + 1)) (nSt tp n p + 1) (by omega) Q
    rw [← eS] at go
    rw [q81, if_neg z0', b61_105, up_k (by decide), a2, ← go]
    rcases z12 with z | z
    · rw [z, if_pos (by decide)]
    · rw [z, if_neg (by decide), b61_116, up_k (by decide), a2, z, if_pos (by decide)]
  by_cases hg : tg = true ∧ nSt tp n p = p
  · refine ⟨up (up M1 42 4 (nI (nSp tp n p))) 42 2 4, fun Q => ?_, by rw [up_k (by decide), up_k (by decide)]; exact a1, ?_, by rw [up_k (by decide), up_k (by decide)]; exact a3, by rw [up_k (by decide), up_s], fun c hc => by rw [up_c hc, up_c hc]; exact ac c hc⟩
    · rw [pre Q, q163 Q, b61_163, if_pos hg.1, if_neg (by decide), b61_167, up_k (by decide), a3, if_pos (by rw [hg.2]), b61_175, b61_180]
    · unfold nSo
      rw [up_s, if_pos ⟨z12, hg⟩]
      decide
  · refine fin (nSp tp n p) rfl (by unfold nSo; rw [if_neg (fun z => hg z.2)]) (fun Q => ?_)
    rw [q163 Q, b61_163]
    by_cases h : tg = true
    · rw [if_pos h, if_neg (by decide), b61_167, up_k (by decide), a3, if_neg (fun z => hg ⟨h, (nI_eqI (by omega) (by omega)).mp z⟩), b61_180]
    · rw [if_neg h, if_pos rfl, b61_180]
theorem k65 {st sp : Nat} (hs : st ≤ sp) (hsp : sp ≤ n) (hn : n ≤ 96) (h3 : I 42 3 = nI st) (h4 : I 42 4 = nI sp) (hb : ∀ i, i < n → I 43 i = tp i) {x y : Value} : E (d + 1, 65, 0, [.ref 42, x, y], [], I) Q ↔ Q (.int (num tp st (sp - st))) I := by
  have loop : ∀ (k i : Nat), i + k = sp - st → (E (d + 1, 65, 7, [.ref 42, .int (num tp st i), .int (nI (st + i))], [], I) Q ↔ Q (.int (num tp st (sp - st))) I) := by
    intro k
    induction k with
    | zero =>
      intro i hi
      rw [b65_7, h4, if_neg (nI_nlt (by omega) (by omega)), b65_35, show i = sp - st by omega]
    | succ k ih =>
      intro i hi
      have e : num tp st i * 10 + tp (st + i) - 48 = num tp st (i + 1) := by
        show _ = 10 * num tp st i + tp (st + i) - 48
        rw [Int32.mul_comm]
      rw [b65_7, h4, if_pos (nI_lt (by omega) (by omega)), b65_15, k67 (by omega), hb _ (by omega), b65_24, e, nI_1]
      exact ih (i + 1) (by omega)
  rw [b65_0, h3]
  exact loop (sp - st) 0 (by omega)
theorem num_bd {st : Nat} : ∀ k, k ≤ 4 → (∀ i, i < k → tyV (tp (st + i)) = 2) → ∃ v, v < 10 ^ k ∧ num tp st k = nI v := by
  intro k
  induction k with
  | zero => intro _ _; exact ⟨0, by decide, nI_0.symm⟩
  | succ k ih =>
    intro hk h
    obtain ⟨v, v1, v2⟩ := ih (by omega) (fun i hi => h i (by omega))
    have hd := (tyV_2 _).mp (h k (by omega))
    have h1 := Int32.le_iff_toInt_le.mp hd.1
    have h2 := Int32.le_iff_toInt_le.mp hd.2
    rw [show (48 : Int32).toInt = 48 by decide] at h1
    rw [show (57 : Int32).toInt = 57 by decide] at h2
    obtain ⟨q, q1, q2⟩ : ∃ q : Nat, q < 10 ∧ tp (st + k) = nI (48 + q) := ⟨((tp (st + k)).toInt - 48).toNat, by omega, Int32.toInt_inj.mp (by rw [nI_toInt (by omega)]; omega)⟩
    refine ⟨10 * v + q, ?_, ?_⟩
    · have : 10 ^ (k + 1) = 10 * 10 ^ k := by rw [Nat.pow_succ, Nat.mul_comm]
      omega
    · show 10 * num tp st k + tp (st + k) - 48 = _
      rw [v2, q2, show (10 : Int32) = nI 10 by decide, pk_mul, nI_add, show (48 : Int32) = nI 48 by decide, nI_sub (by omega), show 10 * v + (48 + q) - 48 = 10 * v + q by omega]
/-- the reference goes on to the next -/
theorem k171 {i : Nat} (hn : n ≤ 96) (h1 : I 121 14 = nI n) (hi : i ≤ n) (hb : ∀ i, i < n → I 134 i = tp i) : E (d + 1, 171, 0, [.ref 121, .int (nI i)], [], I) Q ↔ Q (.int (b01 (tyA tp n i = 1))) I := by
  rw [b171_0, h1]
  unfold tyA
  by_cases h : i < n
  · rw [if_pos (nI_lt h (by omega)), b171_8, and_iff_right (vp_in_nI (by omega) (by decide)), nI_clamp (by omega), k119_97_122, b171_24, ite_b01, hb i h, b171_27, b171_31, b171_32, b171_32, aNar0, aNar1, true_and, true_and]
    by_cases z : 97 ≤ tp i ∧ tp i ≤ 122
    · rw [if_pos z, b01_t (by rw [if_pos h]; exact (tyV_1 _).mpr z)]
    · rw [if_neg z, b01_f (by rw [if_pos h]; exact fun y => z ((tyV_1 _).mp y))]
  · rw [if_neg (nI_nlt (by omega) (by omega)), b171_31, b171_32, aNar0, true_and, b01_f (by rw [if_neg h]; decide)]
theorem k172 {i : Nat} (hn : n ≤ 96) (h1 : I 121 14 = nI n) (hi : i ≤ n) (hb : ∀ i, i < n → I 134 i = tp i) : E (d + 1, 172, 0, [.ref 121, .int (nI i)], [], I) Q ↔ Q (.int (b01 (tyA tp n i = 2))) I := by
  rw [b172_0, h1]
  unfold tyA
  by_cases h : i < n
  · rw [if_pos (nI_lt h (by omega)), b172_8, and_iff_right (vp_in_nI (by omega) (by decide)), nI_clamp (by omega), k119_48_57, b172_24, ite_b01, hb i h, b172_27, b172_31, b172_32, b172_32, aNar0, aNar1, true_and, true_and]
    by_cases z : 48 ≤ tp i ∧ tp i ≤ 57
    · rw [if_pos z, b01_t (by rw [if_pos h]; exact (tyV_2 _).mpr z)]
    · rw [if_neg z, b01_f (by rw [if_pos h]; exact fun y => z ((tyV_2 _).mp y))]
  · rw [if_neg (nI_nlt (by omega) (by omega)), b172_31, b172_32, aNar0, true_and, b01_f (by rw [if_neg h]; decide)]
end TK
