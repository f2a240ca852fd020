/-! reading a text: what the class and the reference hold while they read -/
/-- sort, start and end of the word or sign that is looked at -/
abbrev Tk : Type := Nat × Nat × Nat
abbrev Sp : Type := Int32 × Int32
def nx (tp : Nat → Int32) (n : Nat) (k : Tk) : Tk := (nSo tp n (decide (k.1 = 1 ∨ k.1 = 2)) k.2.2, nSt tp n k.2.2, nSp tp n k.2.2)
def okK (tp : Nat → Int32) (n : Nat) (k : Tk) : Prop := k.1 ≤ 4 ∧ k.2.1 ≤ k.2.2 ∧ k.2.2 ≤ n ∧ (k.1 = 3 → k.2.2 = k.2.1 + 1) ∧ (k.1 = 1 → tyV (tp k.2.1) = 1) ∧ (k.1 = 2 → ∀ i, i < k.2.2 - k.2.1 → tyV (tp (k.2.1 + i)) = 2) ∧ (k.1 ≠ 0 → k.2.1 < k.2.2)
theorem nx_ok {tp : Nat → Int32} {n : Nat} {k : Tk} (h : k.2.2 ≤ n) : okK tp n (nx tp n k) ∧ k.2.2 ≤ (nx tp n k).2.1 := by
  obtain ⟨so, st, sp⟩ := k
  dsimp only at h
  have hst := nSt_b tp h
  have hsp := nSp_b tp h
  have hty := nTy_r tp n sp
  have h0 := nTy_0 tp h
  unfold nx okK
  dsimp only
  generalize decide (so = 1 ∨ so = 2) = tg
  have hso : nSo tp n tg sp = nTy tp n sp ∨ (nSo tp n tg sp = 4 ∧ nTy tp n sp ≠ 0) := by
    unfold nSo
    by_cases z : (nTy tp n sp = 1 ∨ nTy tp n sp = 2) ∧ tg = true ∧ nSt tp n sp = sp
    · rw [if_pos z]; exact Or.inr ⟨rfl, by omega⟩
    · rw [if_neg z]; exact Or.inl rfl
  have hv : nTy tp n sp ≠ 0 → tyV (tp (nSt tp n sp)) = nTy tp n sp := fun z => by
    have hlt : nSt tp n sp < n := by omega
    have : nTy tp n sp = tyA tp n (nSt tp n sp) := rfl
    rw [this]
    unfold tyA
    rw [if_pos hlt]
  refine ⟨⟨by omega, hsp.1, hsp.2.1, fun z => ?_, fun z => ?_, fun z => ?_, fun z => hsp.2.2 (by omega)⟩, hst.1⟩
  · have y : nTy tp n sp = 3 := by omega
    unfold nSp
    rw [if_neg (by omega), if_pos y]
  · have y : nTy tp n sp = 1 := by omega
    rw [hv (by omega), y]
  · have y : nTy tp n sp = 2 := by omega
    intro i hi
    have eS : nSp tp n sp = adv (fun i => tyA tp n i = nTy tp n sp) (n - (nSt tp n sp + 1)) (nSt tp n sp + 1) := by unfold nSp; rw [if_neg (by omega), if_neg (by omega)]
    by_cases z0 : i = 0
    · subst z0; rw [Nat.add_zero, hv (by omega), y]
    · have := adv_in (fun i => tyA tp n i = nTy tp n sp) (n - (nSt tp n sp + 1)) (nSt tp n sp + 1) (nSt tp n sp + i) (by omega) (by rw [← eS]; omega)
      unfold tyA at this
      rw [if_pos (by omega), y] at this
      exact this
/-- a step as the class writes it -/
def eS (key : Nat) (q : Sp) : Int32 := if q.1 = 0 then q.2 else if q.1 = 1 then -1 - nmIx (nI key) q.2 else -q.2
theorem eS0 {key : Nat} {v : Int32} : eS key (0, v) = v := if_pos rfl
theorem eS1 {key : Nat} {v : Int32} : eS key (1, v) = -1 - nmIx (nI key) v := by
  show (if (1 : Int32) = 0 then v else if (1 : Int32) = 1 then -1 - nmIx (nI key) v else -v) = _
  rw [if_neg (by decide), if_pos rfl]
theorem eS2 {key : Nat} {v : Int32} : eS key (2, v) = -v := by
  show (if (2 : Int32) = 0 then v else if (2 : Int32) = 1 then -1 - nmIx (nI key) v else -v) = _
  rw [if_neg (by decide), if_neg (by decide)]
/-- how many numbers and names -/
def lvs : List Sp → Nat
  | [] => 0
  | q :: r => (if q.1 = 2 then 0 else 1) + lvs r
theorem lvs_ap (a b : List Sp) : lvs (a ++ b) = lvs a + lvs b := by
  induction a with
  | nil => show lvs b = 0 + lvs b; omega
  | cons q r ih => show (if q.1 = 2 then 0 else 1) + lvs (r ++ b) = (if q.1 = 2 then 0 else 1) + lvs r + lvs b; omega
theorem lvs_le (a : List Sp) : lvs a ≤ a.length := by
  induction a with
  | nil => exact Nat.le_refl _
  | cons q r ih =>
    show (if q.1 = 2 then 0 else 1) + lvs r ≤ r.length + 1
    by_cases z : q.1 = 2
    · rw [if_pos z]; omega
    · rw [if_neg z]; omega
theorem snoc_at {o : List Sp} {q q' : Sp} {j : Nat} (h : (o ++ [q])[j]? = some q') : (j = o.length ∧ q' = q) ∨ (j < o.length ∧ o[j]? = some q') := by
  by_cases z : j < o.length
  · rw [List.getElem?_append_left z] at h; exact Or.inr ⟨z, h⟩
  · rw [List.getElem?_append_right (by omega)] at h
    cases hj : j - o.length with
    | zero =>
      rw [hj] at h
      have e : q = q' := Option.some.inj h
      exact Or.inl ⟨by omega, e.symm⟩
    | succ i =>
      rw [hj] at h
      exact absurd (show ([q] : List Sp)[i + 1]? = some q' from h) (by simp)
/-- the class reads: the tape, the counts, the law t with the steps o -/
def cS (tp : Nat → Int32) (n t key : Nat) (M : IM) (k : Tk) (dp tu : Nat) (o : List Sp) : Prop :=
  (M 42 1 = nI n ∧ M 42 2 = nI k.1 ∧ M 42 3 = nI k.2.1 ∧ M 42 4 = nI k.2.2 ∧ ∀ i, i < n → M 43 i = tp i) ∧ (M 41 1 = -1 ∧ M 41 2 = nI dp ∧ M 41 3 = nI tu) ∧
  M (48 + 3 * t) 3 = nI key ∧ M (48 + 3 * t) 2 = nI o.length ∧ M (48 + 3 * t) 4 = nI (lvs o) ∧ ∀ (j : Nat) (q : Sp), o[j]? = some q → M (49 + 3 * t) j = eS key q
/-- nothing but the reader and the law t has changed -/
def fC (t : Nat) (M M' : IM) : Prop := ∀ c, c ≠ 41 → c ≠ 42 → c ≠ 48 + 3 * t → c ≠ 49 + 3 * t → M' c = M c
theorem fC.rf {t : Nat} {M : IM} : fC t M M := fun _ _ _ _ _ => rfl
theorem fC.tr {t : Nat} {M M1 M2 : IM} (a : fC t M M1) (b : fC t M1 M2) : fC t M M2 := fun c h1 h2 h3 h4 => (b c h1 h2 h3 h4).trans (a c h1 h2 h3 h4)
theorem fC.wr {t c k : Nat} {M : IM} {v : Int32} (h : c = 41 ∨ c = 42 ∨ c = 48 + 3 * t ∨ c = 49 + 3 * t) : fC t M (up M c k v) := fun c' h1 h2 h3 h4 => up_c (fun e => by subst e; omega)
/-- the reference reads: the tape, the counts, the steps o from at_ on -/
def rS (tp : Nat → Int32) (n at_ : Nat) (I : IM) (k : Tk) (dp tu : Nat) (o : List Sp) : Prop :=
  (I 121 14 = nI n ∧ I 121 15 = nI k.2.1 ∧ I 121 16 = nI k.2.2 ∧ tokR I tp k.1 k.2.1 k.2.2 ∧ ∀ i, i < n → I 134 i = tp i) ∧ (I 121 20 = nI dp ∧ I 121 21 = nI tu) ∧
  I 121 23 = nI at_ ∧ I 121 22 = nI o.length ∧ I 121 24 = nI (lvs o) ∧ ∀ (j : Nat) (q : Sp), o[j]? = some q → I 122 (at_ + 2 * j) = q.1 ∧ I 122 (at_ + 2 * j + 1) = q.2
def fR (at_ : Nat) (I I' : IM) : Prop := (∀ s, s < 15 ∨ 24 < s → I' 121 s = I 121 s) ∧ (∀ i, i < at_ ∨ at_ + 192 ≤ i → I' 122 i = I 122 i) ∧ ∀ c, c ≠ 121 → c ≠ 122 → I' c = I c
theorem fR.rf {a : Nat} {I : IM} : fR a I I := ⟨fun _ _ => rfl, fun _ _ => rfl, fun _ _ _ => rfl⟩
theorem fR.tr {a : Nat} {I I1 I2 : IM} (x : fR a I I1) (y : fR a I1 I2) : fR a I I2 := ⟨fun s h => (y.1 s h).trans (x.1 s h), fun i h => (y.2.1 i h).trans (x.2.1 i h), fun c h1 h2 => (y.2.2 c h1 h2).trans (x.2.2 c h1 h2)⟩
theorem fR.w1 {a k : Nat} {I : IM} {v : Int32} (h : 15 ≤ k ∧ k ≤ 24) : fR a I (up I 121 k v) := ⟨fun s hs => up_k (by omega), fun i _ => by rw [up_c (by decide)], fun c h1 _ => up_c h1⟩
theorem fR.w2 {a i : Nat} {I : IM} {v : Int32} (h : a ≤ i ∧ i < a + 192) : fR a I (up I 122 i v) := ⟨fun s hs => by rw [up_c (by decide)], fun j hj => up_k (by omega), fun c _ h2 => up_c h2⟩
theorem tokR.cg {I I' : IM} {tp : Nat → Int32} {so st sp : Nat} (h : tokR I tp so st sp) (e : ∀ s, 17 ≤ s → s ≤ 19 → I' 121 s = I 121 s) : tokR I' tp so st sp := by
  unfold tokR at *
  rw [e 17 (by decide) (by decide), e 18 (by decide) (by decide), e 19 (by decide) (by decide)]
  exact h
section RD
variable {tp : Nat → Int32} {n t key at_ d dp tu : Nat} {M I : IM} {k : Tk} {o : List Sp}
theorem eqN {a : Nat} {v : Int32} (b : Nat) (hv : v = nI b) (ha : a < 2 ^ 31) (hb : b < 2 ^ 31) : (nI a = v) ↔ a = b := by subst hv; exact nI_eqI ha hb
/-- the class looks at the next -/
theorem cS.next (hn : n ≤ 96) (ht : t < 15) (h : cS tp n t key M k dp tu o) (K : okK tp n k) {x y : Value} : ∃ M', Rn (d + 2, 61, 0, [.ref 42, x, y], [], M) .null M' ∧ cS tp n t key M' (nx tp n k) dp tu o ∧ fC t M M' := by
  obtain ⟨⟨a1, a2, a3, a4, a5⟩, ⟨b1, b2, b3⟩, c1, c2, c3, c4⟩ := h
  obtain ⟨so, st, sp⟩ := k
  dsimp only at a2 a3 a4
  have k4 : so ≤ 4 := K.1
  obtain ⟨M', r, m1, m2, m3, m4, mc⟩ := k61 (d := d) (M := M) (tp := tp) (n := n) (p := sp) (tg := decide (so = 1 ∨ so = 2)) hn K.2.2.1 a1 a4 a5 (by
    rw [decide_eq_true_iff, a2, eqN 1 (by decide) (by omega) (by decide), eqN 2 (by decide) (by omega) (by decide)]) (x := x) (y := y)
  refine ⟨M', r, ⟨⟨m1, m2, m3, m4, fun i hi => by rw [mc 43 (by decide)]; exact a5 i hi⟩, ⟨by rw [mc 41 (by decide)]; exact b1, by rw [mc 41 (by decide)]; exact b2, by rw [mc 41 (by decide)]; exact b3⟩, by rw [mc _ (by omega)]; exact c1, by rw [mc _ (by omega)]; exact c2, by rw [mc _ (by omega)]; exact c3, fun j q hq => by rw [mc _ (by omega)]; exact c4 j q hq⟩, fun c h1 h2 h3 h4 => mc c h2⟩
/-- the reference goes on to the next -/
theorem rS.next (hn : n ≤ 96) (h : rS tp n at_ I k dp tu o) (K : okK tp n k) (hl : k.1 = 2 → k.2.2 - k.2.1 ≤ 4) {x y : Value} : ∃ I', Rn (d + 2, 173, 0, [.ref 121, x, y], [], I) .null I' ∧ rS tp n at_ I' (nx tp n k) dp tu o ∧ fR at_ I I' := by
  obtain ⟨⟨a1, a2, a3, a4, a5⟩, ⟨b1, b2⟩, c1, c2, c3, c4⟩ := h
  obtain ⟨so, st, sp⟩ := k
  dsimp only at a2 a3 a4 hl
  have k4 : so ≤ 4 := K.1
  have kk := tk k4 a4
  have kp : so ≠ 0 → st < sp := K.2.2.2.2.2.2
  obtain ⟨I', r, m1, m2, m3, ms, mc⟩ := k173 (d := d) (I := I) (tp := tp) (n := n) (p := sp) (tg := decide (so = 1 ∨ so = 2)) hn K.2.2.1 a1 a3 a5 (by
    rw [decide_eq_true_iff, kk.2.1, kk.2.2.2]
    constructor
    · rintro (z | z)
      · exact ⟨by have := kp (by omega); omega, Or.inl z⟩
      · exact ⟨by have := kp (by omega); omega, Or.inr ⟨z, hl z⟩⟩
    · rintro ⟨-, z | z⟩
      · exact Or.inl z
      · exact Or.inr z.1) (x := x) (y := y)
  refine ⟨I', r, ⟨⟨by rw [ms 14 (by decide)]; exact a1, m1, m2, m3, fun i hi => by rw [mc 134 (by decide)]; exact a5 i hi⟩, ⟨by rw [ms 20 (by decide)]; exact b1, by rw [ms 21 (by decide)]; exact b2⟩, by rw [ms 23 (by decide)]; exact c1, by rw [ms 22 (by decide)]; exact c2, by rw [ms 24 (by decide)]; exact c3, fun j q hq => by rw [mc 122 (by decide)]; exact c4 j q hq⟩, fun s hs => ms s (by omega), fun i _ => by rw [mc 122 (by decide)], fun c h1 _ => mc c h1⟩
/-- a sign is added -/
theorem cS.sg (ht : t < 15) (h : cS tp n t key M k dp tu o) (hm : o.length < 96) {c : Int32} : Rn (d + 2, 38, 0, [.ref (48 + 3 * t), .int c], [], M) .null (up (up M (49 + 3 * t) o.length (-c)) (48 + 3 * t) 2 (nI (o.length + 1))) ∧ cS tp n t key (up (up M (49 + 3 * t) o.length (-c)) (48 + 3 * t) 2 (nI (o.length + 1))) k dp tu (o ++ [(2, c)]) ∧ fC t M (up (up M (49 + 3 * t) o.length (-c)) (48 + 3 * t) 2 (nI (o.length + 1))) := by
  obtain ⟨⟨a1, a2, a3, a4, a5⟩, ⟨b1, b2, b3⟩, c1, c2, c3, c4⟩ := h
  have g : ∀ c', c' ≠ 48 + 3 * t → c' ≠ 49 + 3 * t → (up (up M (49 + 3 * t) o.length (-c)) (48 + 3 * t) 2 (nI (o.length + 1))) c' = M c' := fun c' h1 h2 => by rw [up_c h1, up_c h2]
  refine ⟨fun Q => by rw [b38_0 (lw0 ht).1, k39 ht hm c2, b38_6], ⟨⟨by rw [g _ (by omega) (by omega)]; exact a1, by rw [g _ (by omega) (by omega)]; exact a2, by rw [g _ (by omega) (by omega)]; exact a3, by rw [g _ (by omega) (by omega)]; exact a4, fun i hi => by rw [g _ (by omega) (by omega)]; exact a5 i hi⟩, ⟨by rw [g _ (by omega) (by omega)]; exact b1, by rw [g _ (by omega) (by omega)]; exact b2, by rw [g _ (by omega) (by omega)]; exact b3⟩, by rw [up_k (by decide), up_c (by omega)]; exact c1, by rw [up_s, List.length_append]; rfl, by rw [up_k (by decide), up_c (by omega), lvs_ap]; exact c3, fun j q hq => ?_⟩, (fC.wr (Or.inr (Or.inr (Or.inr rfl)))).tr (fC.wr (Or.inr (Or.inr (Or.inl rfl))))⟩
  rw [up_c (by omega)]
  rcases snoc_at hq with ⟨rfl, rfl⟩ | ⟨h1, h2⟩
  · rw [up_s, eS2]
  · rw [up_k (by omega)]; exact c4 j q h2
/-- a number is added -/
theorem cS.nu (ht : t < 15) (h : cS tp n t key M k dp tu o) (hm : o.length < 96) {v : Int32} : ∃ M', Rn (d + 2, 36, 0, [.ref (48 + 3 * t), .int v], [], M) .null M' ∧ cS tp n t key M' k dp tu (o ++ [(0, v)]) ∧ fC t M M' := by
  obtain ⟨⟨a1, a2, a3, a4, a5⟩, ⟨b1, b2, b3⟩, c1, c2, c3, c4⟩ := h
  have e4 : (up (up M (49 + 3 * t) o.length v) (48 + 3 * t) 2 (nI (o.length + 1))) (48 + 3 * t) 4 = nI (lvs o) := by rw [up_k (by decide), up_c (by omega)]; exact c3
  have g : ∀ c', c' ≠ 48 + 3 * t → c' ≠ 49 + 3 * t → (up (up (up M (49 + 3 * t) o.length v) (48 + 3 * t) 2 (nI (o.length + 1))) (48 + 3 * t) 4 (nI (lvs o + 1))) c' = M c' := fun c' h1 h2 => by rw [up_c h1, up_c h1, up_c h2]
  refine ⟨up (up (up M (49 + 3 * t) o.length v) (48 + 3 * t) 2 (nI (o.length + 1))) (48 + 3 * t) 4 (nI (lvs o + 1)), fun Q => by rw [b36_0 (lw0 ht).1, k39 ht hm c2, b36_5 (lw0 ht).1, e4, nI_1], ⟨⟨by rw [g _ (by omega) (by omega)]; exact a1, by rw [g _ (by omega) (by omega)]; exact a2, by rw [g _ (by omega) (by omega)]; exact a3, by rw [g _ (by omega) (by omega)]; exact a4, fun i hi => by rw [g _ (by omega) (by omega)]; exact a5 i hi⟩, ⟨by rw [g _ (by omega) (by omega)]; exact b1, by rw [g _ (by omega) (by omega)]; exact b2, by rw [g _ (by omega) (by omega)]; exact b3⟩, by rw [up_k (by decide), up_k (by decide), up_c (by omega)]; exact c1, by rw [up_k (by decide), up_s, List.length_append]; rfl, by rw [up_s, lvs_ap]; rfl, fun j q hq => ?_⟩, ((fC.wr (Or.inr (Or.inr (Or.inr rfl)))).tr (fC.wr (Or.inr (Or.inr (Or.inl rfl))))).tr (fC.wr (Or.inr (Or.inr (Or.inl rfl))))⟩
  rw [up_c (by omega), up_c (by omega)]
  rcases snoc_at hq with ⟨rfl, rfl⟩ | ⟨h1, h2⟩
  · rw [up_s, eS0]
  · rw [up_k (by omega)]; exact c4 j q h2
/-- a name is added -/
theorem cS.na (ht : t < 15) (h : cS tp n t key M k dp tu o) (hm : o.length < 96) {v w : Int32} (hw : w = nmIx (nI key) v) : ∃ M', Rn (d + 2, 37, 0, [.ref (48 + 3 * t), .int w], [], M) .null M' ∧ cS tp n t key M' k dp tu (o ++ [(1, v)]) ∧ fC t M M' := by
  subst hw
  obtain ⟨⟨a1, a2, a3, a4, a5⟩, ⟨b1, b2, b3⟩, c1, c2, c3, c4⟩ := h
  generalize hz : -1 - nmIx (nI key) v = z
  have e4 : (up (up M (49 + 3 * t) o.length z) (48 + 3 * t) 2 (nI (o.length + 1))) (48 + 3 * t) 4 = nI (lvs o) := by rw [up_k (by decide), up_c (by omega)]; exact c3
  have g : ∀ c', c' ≠ 48 + 3 * t → c' ≠ 49 + 3 * t → (up (up (up M (49 + 3 * t) o.length z) (48 + 3 * t) 2 (nI (o.length + 1))) (48 + 3 * t) 4 (nI (lvs o + 1))) c' = M c' := fun c' h1 h2 => by rw [up_c h1, up_c h1, up_c h2]
  refine ⟨up (up (up M (49 + 3 * t) o.length z) (48 + 3 * t) 2 (nI (o.length + 1))) (48 + 3 * t) 4 (nI (lvs o + 1)), fun Q => by rw [b37_0 (lw0 ht).1, hz, k39 ht hm c2, b37_7 (lw0 ht).1, e4, nI_1], ⟨⟨by rw [g _ (by omega) (by omega)]; exact a1, by rw [g _ (by omega) (by omega)]; exact a2, by rw [g _ (by omega) (by omega)]; exact a3, by rw [g _ (by omega) (by omega)]; exact a4, fun i hi => by rw [g _ (by omega) (by omega)]; exact a5 i hi⟩, ⟨by rw [g _ (by omega) (by omega)]; exact b1, by rw [g _ (by omega) (by omega)]; exact b2, by rw [g _ (by omega) (by omega)]; exact b3⟩, by rw [up_k (by decide), up_k (by decide), up_c (by omega)]; exact c1, by rw [up_k (by decide), up_s, List.length_append]; rfl, by rw [up_s, lvs_ap]; rfl, fun j q hq => ?_⟩, ((fC.wr (Or.inr (Or.inr (Or.inr rfl)))).tr (fC.wr (Or.inr (Or.inr (Or.inl rfl))))).tr (fC.wr (Or.inr (Or.inr (Or.inl rfl))))⟩
  rw [up_c (by omega), up_c (by omega)]
  rcases snoc_at hq with ⟨rfl, rfl⟩ | ⟨h1, h2⟩
  · rw [up_s, ← hz, eS1]
  · rw [up_k (by omega)]; exact c4 j q h2
/-- a step is added, or not: whatever stands there -/
theorem k38a (ht : t < 15) {c : Int32} : ∃ M', Rn (d + 2, 38, 0, [.ref (48 + 3 * t), .int c], [], M) .null M' ∧ ∀ c', c' ≠ 48 + 3 * t → c' ≠ 49 + 3 * t → M' c' = M c' := by
  obtain ⟨s1, s2, s3, s4, s5, s6, s7⟩ := lw0 ht
  by_cases z : 0 ≤ M (48 + 3 * t) 2 ∧ M (48 + 3 * t) 2 ≤ 95
  · obtain ⟨m, m1, m2⟩ := wi0 95 (by decide) (by decide) z
    exact ⟨_, fun Q => by rw [b38_0 s1, k39 ht (by omega) m2, b38_6], fun c' h1 h2 => by rw [up_c h1, up_c h2]⟩
  · refine ⟨M, fun Q => ?_, fun _ _ _ => rfl⟩
    rw [b38_0 s1, b39_0 s1 (by rw [s2]; exact s4), k108, s2, s6, show nI 96 - 1 = 95 by decide, b01_f z, b39_15, if_pos rfl, b39_38, b38_6]
/-- a step is added by the reference -/
theorem rS.st (h : rS tp n at_ I k dp tu o) (hm : o.length < 96) (ha : at_ + 200 ≤ 3060) {q : Sp} {w v : Int32} (hw : w = q.1) (hv : v = q.2) : ∃ I', Rn (d, 178, 0, [.ref 121, .int w, .int v], [], I) .null I' ∧ (∀ lv : Nat, lv = lvs (o ++ [q]) → rS tp n at_ (up I' 121 24 (nI lv)) k dp tu (o ++ [q])) ∧ I' 121 24 = nI (lvs o) ∧ fR at_ I I' := by
  subst hw hv
  obtain ⟨⟨a1, a2, a3, a4, a5⟩, ⟨b1, b2⟩, c1, c2, c3, c4⟩ := h
  generalize hI : up (up (up I 122 (at_ + 2 * o.length) q.1) 122 (at_ + 2 * o.length + 1) q.2) 121 22 (nI (o.length + 1)) = J
  have gs : ∀ s, s ≠ 22 → J 121 s = I 121 s := fun s hs => by rw [← hI, up_k hs, up_c (by decide), up_c (by decide)]
  have gc : ∀ c, c ≠ 121 → c ≠ 122 → J c = I c := fun c h1 h2 => by rw [← hI, up_c h1, up_c h2, up_c h2]
  have g22 : J 121 22 = nI (o.length + 1) := by rw [← hI, up_s]
  have gr : ∀ i, i ≠ at_ + 2 * o.length → i ≠ at_ + 2 * o.length + 1 → J 122 i = I 122 i := fun i h1 h2 => by rw [← hI, up_c (by decide), up_k h2, up_k h1]
  have gr1 : J 122 (at_ + 2 * o.length) = q.1 := by rw [← hI, up_c (by decide), up_k (by omega), up_s]
  have gr2 : J 122 (at_ + 2 * o.length + 1) = q.2 := by rw [← hI, up_c (by decide), up_s]
  refine ⟨J, fun Q => by rw [k178 (by omega) c1 c2, hI], fun lv hl => ?_, by rw [gs 24 (by decide)]; exact c3, ⟨fun s hs => gs s (by omega), fun i hi => gr i (by omega) (by omega), gc⟩⟩
  have us : ∀ s, s ≠ 24 → s ≠ 22 → (up J 121 24 (nI lv)) 121 s = I 121 s := fun s h1 h2 => by rw [up_k h1]; exact gs s h2
  refine ⟨⟨by rw [us _ (by decide) (by decide)]; exact a1, by rw [us _ (by decide) (by decide)]; exact a2, by rw [us _ (by decide) (by decide)]; exact a3, a4.cg (fun s h1 h2 => us s (by omega) (by omega)), fun i hi => by rw [up_c (by decide), gc _ (by decide) (by decide)]; exact a5 i hi⟩, ⟨by rw [us _ (by decide) (by decide)]; exact b1, by rw [us _ (by decide) (by decide)]; exact b2⟩, by rw [us _ (by decide) (by decide)]; exact c1, by rw [up_k (by decide), g22, List.length_append]; rfl, by rw [up_s, hl], fun j q' hq => ?_⟩
  rw [up_c (by decide)]
  rcases snoc_at hq with ⟨rfl, rfl⟩ | ⟨h1, h2⟩
  · exact ⟨gr1, gr2⟩
  · rw [gr _ (by omega) (by omega), gr _ (by omega) (by omega)]
    exact c4 j q' h2
theorem up_idv {M : IM} {c k : Nat} {v : Int32} (h : M c k = v) : up M c k v = M := by
  funext c'
  by_cases z : c' = c
  · subst z; rw [up_r, upd_idv h]
  · rw [up_c z]
theorem rS.sg (h : rS tp n at_ I k dp tu o) (hm : o.length < 96) (ha : at_ + 200 ≤ 3060) {c : Int32} : ∃ I', Rn (d, 178, 0, [.ref 121, .int 2, .int c], [], I) .null I' ∧ rS tp n at_ I' k dp tu (o ++ [(2, c)]) ∧ fR at_ I I' := by
  obtain ⟨I', r, h1, h2, h3⟩ := h.st (d := d) hm ha (q := (2, c)) rfl rfl
  have := h1 (lvs o) (by rw [lvs_ap]; rfl)
  rw [up_idv h2] at this
  exact ⟨I', r, this, h3⟩
/-- counts that the class and the reference keep -/
theorem cS.dp' (ht : t < 15) (h : cS tp n t key M k dp tu o) {v : Int32} {x : Nat} (hv : v = nI x) : cS tp n t key (up M 41 2 v) k x tu o := by
  subst hv
  obtain ⟨⟨a1, a2, a3, a4, a5⟩, ⟨b1, b2, b3⟩, c1, c2, c3, c4⟩ := h
  have g : ∀ c', c' ≠ 41 → (up M 41 2 (nI x)) c' = M c' := fun c' h1 => up_c h1
  exact ⟨⟨by rw [g _ (by omega)]; exact a1, by rw [g _ (by omega)]; exact a2, by rw [g _ (by omega)]; exact a3, by rw [g _ (by omega)]; exact a4, fun i hi => by rw [g _ (by omega)]; exact a5 i hi⟩, ⟨by rw [up_k (by decide)]; exact b1, up_s, by rw [up_k (by decide)]; exact b3⟩, by rw [g _ (by omega)]; exact c1, by rw [g _ (by omega)]; exact c2, by rw [g _ (by omega)]; exact c3, fun j q hq => by rw [g _ (by omega)]; exact c4 j q hq⟩
theorem cS.tu' (ht : t < 15) (h : cS tp n t key M k dp tu o) {v : Int32} {x : Nat} (hv : v = nI x) : cS tp n t key (up M 41 3 v) k dp x o := by
  subst hv
  obtain ⟨⟨a1, a2, a3, a4, a5⟩, ⟨b1, b2, b3⟩, c1, c2, c3, c4⟩ := h
  have g : ∀ c', c' ≠ 41 → (up M 41 3 (nI x)) c' = M c' := fun c' h1 => up_c h1
  exact ⟨⟨by rw [g _ (by omega)]; exact a1, by rw [g _ (by omega)]; exact a2, by rw [g _ (by omega)]; exact a3, by rw [g _ (by omega)]; exact a4, fun i hi => by rw [g _ (by omega)]; exact a5 i hi⟩, ⟨by rw [up_k (by decide)]; exact b1, by rw [up_k (by decide)]; exact b2, up_s⟩, by rw [g _ (by omega)]; exact c1, by rw [g _ (by omega)]; exact c2, by rw [g _ (by omega)]; exact c3, fun j q hq => by rw [g _ (by omega)]; exact c4 j q hq⟩
theorem rS.dp' (h : rS tp n at_ I k dp tu o) {v : Int32} {x : Nat} (hv : v = nI x) : rS tp n at_ (up I 121 20 v) k x tu o := by
  subst hv
  obtain ⟨⟨a1, a2, a3, a4, a5⟩, ⟨b1, b2⟩, c1, c2, c3, c4⟩ := h
  have us : ∀ s, s ≠ 20 → (up I 121 20 (nI x)) 121 s = I 121 s := fun s h1 => up_k h1
  exact ⟨⟨by rw [us _ (by decide)]; exact a1, by rw [us _ (by decide)]; exact a2, by rw [us _ (by decide)]; exact a3, a4.cg (fun s h1 h2 => us s (by omega)), fun i hi => by rw [up_c (by decide)]; exact a5 i hi⟩, ⟨up_s, by rw [us _ (by decide)]; exact b2⟩, by rw [us _ (by decide)]; exact c1, by rw [us _ (by decide)]; exact c2, by rw [us _ (by decide)]; exact c3, fun j q hq => by rw [up_c (by decide)]; exact c4 j q hq⟩
theorem rS.tu' (h : rS tp n at_ I k dp tu o) {v : Int32} {x : Nat} (hv : v = nI x) : rS tp n at_ (up I 121 21 v) k dp x o := by
  subst hv
  obtain ⟨⟨a1, a2, a3, a4, a5⟩, ⟨b1, b2⟩, c1, c2, c3, c4⟩ := h
  have us : ∀ s, s ≠ 21 → (up I 121 21 (nI x)) 121 s = I 121 s := fun s h1 => up_k h1
  exact ⟨⟨by rw [us _ (by decide)]; exact a1, by rw [us _ (by decide)]; exact a2, by rw [us _ (by decide)]; exact a3, a4.cg (fun s h1 h2 => us s (by omega)), fun i hi => by rw [up_c (by decide)]; exact a5 i hi⟩, ⟨by rw [us _ (by decide)]; exact b1, up_s⟩, by rw [us _ (by decide)]; exact c1, by rw [us _ (by decide)]; exact c2, by rw [us _ (by decide)]; exact c3, fun j q hq => by rw [up_c (by decide)]; exact c4 j q hq⟩
end RD
/-- the level of a sign -/
def lvl (c : Int32) : Int32 := if c = 38 then 1 else if c = 42 then 4 else if c = 43 then 3 else if c = 45 then 3 else if c = 47 then 4 else if c = 60 then 2 else if c = 61 then 2 else if c = 62 then 2 else if c = 124 then 0 else -1
theorem k49 {d : Nat} {I : IM} {Q : Po} {c : Int32} : E (d, 49, 0, [.int c], [], I) Q ↔ Q (.int (lvl c)) I := by
  simp only [b49_0, b49_84, b49_86, b49_88, b49_90, b49_92, b49_94]
  unfold lvl
  simp only [QI]
theorem k64 {d : Nat} {I : IM} {Q : Po} {so st sp : Nat} (h2 : I 42 2 = nI so) (hso : so ≤ 4) (h3 : I 42 3 = nI st) (h4 : I 42 4 = nI sp) (hs : st ≤ sp) (hsp : sp ≤ 96) : E (d, 64, 0, [.ref 42], [], I) Q ↔ Q (.int (b01 (so = 2 ∧ sp - st ≤ 4))) I := by
  rw [b64_0, h2]
  by_cases z : so = 2
  · rw [if_pos (by rw [z]; decide), b64_8, h3, h4, nI_sub hs]
    by_cases y : sp - st ≤ 4
    · rw [if_neg (show ¬ (4 : Int32) < nI (sp - st) from (show ¬ nI 4 < nI (sp - st) from nI_nlt y (by decide))), b64_21, b64_26, aNar1, true_and, b01_t ⟨z, y⟩]
    · rw [if_pos (show (4 : Int32) < nI (sp - st) from (show nI 4 < nI (sp - st) from nI_lt (by omega) (by omega))), b64_25, b64_26, aNar0, true_and, b01_f (fun w => y w.2)]
  · rw [if_neg (fun w => z ((eqN 2 (by decide) (by omega) (by decide)).mp w)), b64_25, b64_26, aNar0, true_and, b01_f (fun w => z w.1)]
/-- the pile: from height h, through these steps, to height h' -/
def gd : List Int32 → Nat → Nat → Prop
  | [], h, h' => h' = h
  | s :: r, h, h' => (s < -4 → s = -33 → 1 ≤ h) ∧ (s < -4 → ¬ s = -33 → 2 ≤ h) ∧ (¬ s < -4 → h < 48) ∧ gd r (if s < -4 then (if s = -33 then h else h - 1) else h + 1) h'
theorem gd_ap : ∀ (a b : List Int32) (h h1 h2 : Nat), gd a h h1 → gd b h1 h2 → gd (a ++ b) h h2 := by
  intro a
  induction a with
  | nil => intro b h h1 h2 x y; have e : h1 = h := x; subst e; exact y
  | cons s r ih => intro b h h1 h2 x y; exact ⟨x.1, x.2.1, x.2.2.1, ih b _ h1 h2 x.2.2.2 y⟩
theorem gdH : ∀ (l : List Int32) (st : Nat → Int32) (i h' : Nat), (∀ (j : Nat) (q : Int32), l[j]? = some q → st (i + j) = q) → gd l (hgt st i) h' → hgt st (i + l.length) = h' ∧ ∀ j, j < l.length → okH st (i + j) := by
  intro l
  induction l with
  | nil => intro st i h' _ g; exact ⟨g.symm, fun j hj => absurd hj (Nat.not_lt_zero j)⟩
  | cons s r ih =>
    intro st i h' hs g
    have e0 : st i = s := hs 0 s rfl
    obtain ⟨g1, g2, g3, g4⟩ := g
    rw [← e0] at g1 g2 g3 g4
    have := ih st (i + 1) h' (fun j q hq => by rw [show i + 1 + j = i + (j + 1) by omega]; exact hs (j + 1) q hq) g4
    refine ⟨by rw [show i + (s :: r).length = i + 1 + r.length by show i + (r.length + 1) = _; omega]; exact this.1, fun j hj => ?_⟩
    cases j with
    | zero => exact ⟨g1, g2, g3⟩
    | succ j => rw [show i + (j + 1) = i + 1 + j by omega]; exact this.2 j (by have : j + 1 < r.length + 1 := hj; omega)
/-- what a step may be -/
def okE (key : Nat) (q : Sp) : Prop := (q.1 = 0 ∧ ∃ v, v ≤ 9999 ∧ q.2 = nI v) ∨ (q.1 = 1 ∧ okNm (nI key) q.2) ∨ (q.1 = 2 ∧ okSg q.2)
theorem nm_ge {key c : Int32} (h : okNm key c) : ¬ (-1 - nmIx key c) < -4 := by
  rcases h with ⟨rfl, rfl | rfl | rfl | rfl⟩ | ⟨rfl, rfl | rfl⟩ | ⟨rfl, rfl | rfl⟩ <;> decide +kernel
