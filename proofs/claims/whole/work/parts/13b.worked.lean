/-! the reference's texts: what one gives -/
def cntR (R : Nat → Int32) (key : Int32) : Nat → Option Nat
  | 0 => none
  | t + 1 => if R (60 + 200 * t) = key then some t else cntR R key t
theorem cntR_lt {R : Nat → Int32} {key : Int32} : ∀ (T t : Nat), cntR R key T = some t → t < T ∧ R (60 + 200 * t) = key := by
  intro T
  induction T with
  | zero => intro t h; cases h
  | succ T ih =>
    intro t h
    unfold cntR at h
    by_cases hk : R (60 + 200 * T) = key
    · rw [if_pos hk] at h; cases h; exact ⟨by omega, hk⟩
    · rw [if_neg hk] at h
      have := ih t h
      exact ⟨by omega, this.2⟩
theorem cntR_cg {R R' : Nat → Int32} {key : Int32} : ∀ T, (∀ i, 60 ≤ i → R' i = R i) → cntR R' key T = cntR R key T := by
  intro T h
  induction T with
  | zero => rfl
  | succ T ih => unfold cntR; rw [ih, h _ (by omega)]
def nmIx (key c : Int32) : Int32 := if key = 0 then (if c = 111 then 0 else if c = 119 then 1 else if c = 116 then 2 else 3) else if key = 1 then (if c = 115 then 0 else 1) else if c = 111 then 0 else 1
/-- step k of text t, as the class writes steps -/
def tSt (R : Nat → Int32) (t k : Nat) : Int32 :=
  if R (64 + 200 * t + 2 * k) = 0 then R (65 + 200 * t + 2 * k) else if R (64 + 200 * t + 2 * k) = 1 then -1 - nmIx (R (60 + 200 * t)) (R (65 + 200 * t + 2 * k)) else -(R (65 + 200 * t + 2 * k))
def tN (R : Nat → Int32) (t : Nat) : Nat := (R (62 + 200 * t)).toNatClampNeg
def mA (R : Nat → Int32) (key : Int32) (T : Nat) : Fn4 := match cntR R key T with
  | none => none
  | some t => some (fun a b c e => lGive (tSt R t) (tN R t) a b c e)
theorem tSt_cg {R R' : Nat → Int32} (h : ∀ i, 60 ≤ i → R' i = R i) (t : Nat) : tSt R' t = tSt R t := by
  funext k
  unfold tSt
  rw [h (64 + 200 * t + 2 * k) (by omega), h (65 + 200 * t + 2 * k) (by omega), h (60 + 200 * t) (by omega)]
theorem tN_cg {R R' : Nat → Int32} (h : ∀ i, 60 ≤ i → R' i = R i) (t : Nat) : tN R' t = tN R t := by unfold tN; rw [h _ (by omega)]
theorem mA_cg {R R' : Nat → Int32} (h : ∀ i, 60 ≤ i → R' i = R i) (key : Int32) (T : Nat) : mA R' key T = mA R key T := by
  unfold mA
  rw [cntR_cg T h]
  cases cntR R key T with
  | none => rfl
  | some t => dsimp only; rw [tSt_cg h t, tN_cg h t]
/-- the height of the pile behind k steps -/
def hgt (st : Nat → Int32) : Nat → Nat
  | 0 => 0
  | k + 1 => if st k < -4 then (if st k = -33 then hgt st k else hgt st k - 1) else hgt st k + 1
/-- the steps never take from an empty pile, nor pile up more than 48 -/
def okH (st : Nat → Int32) (k : Nat) : Prop := (st k < -4 → st k = -33 → 1 ≤ hgt st k) ∧ (st k < -4 → ¬ st k = -33 → 2 ≤ hgt st k) ∧ (¬ st k < -4 → hgt st k < 48)
def okNm (key c : Int32) : Prop := (key = 0 ∧ (c = 111 ∨ c = 119 ∨ c = 116 ∨ c = 110)) ∨ (key = 1 ∧ (c = 115 ∨ c = 102)) ∨ (key = 2 ∧ (c = 111 ∨ c = 119))
def okSg (c : Int32) : Prop := c = 33 ∨ c = 38 ∨ c = 42 ∨ c = 43 ∨ c = 45 ∨ c = 47 ∨ c = 60 ∨ c = 61 ∨ c = 62 ∨ c = 124
/-- a text that a tape gave -/
def wfT (R : Nat → Int32) (t : Nat) : Prop := (∃ n, n ≤ 96 ∧ R (62 + 200 * t) = nI n) ∧ (∃ q, q < 3 ∧ R (60 + 200 * t) = nI q) ∧ hgt (tSt R t) (tN R t) = 1 ∧ ∀ k, k < tN R t → okH (tSt R t) k ∧
  ((R (64 + 200 * t + 2 * k) = 0 ∧ ∃ v, v ≤ 9999 ∧ R (65 + 200 * t + 2 * k) = nI v) ∨ (R (64 + 200 * t + 2 * k) = 1 ∧ okNm (R (60 + 200 * t)) (R (65 + 200 * t + 2 * k))) ∨ (R (64 + 200 * t + 2 * k) = 2 ∧ okSg (R (65 + 200 * t + 2 * k))))
theorem wfT_cg {R R' : Nat → Int32} (h : ∀ i, 60 ≤ i → R' i = R i) {t : Nat} (w : wfT R t) : wfT R' t := by
  unfold wfT at *
  rw [tSt_cg h, tN_cg h, h _ (by omega : 60 ≤ 62 + 200 * t), h _ (by omega : 60 ≤ 60 + 200 * t)]
  refine ⟨w.1, w.2.1, w.2.2.1, fun k hk => ?_⟩
  rw [h _ (by omega : 60 ≤ 64 + 200 * t + 2 * k), h _ (by omega : 60 ≤ 65 + 200 * t + 2 * k)]
  exact w.2.2.2 k hk
/-- the texts of the reference -/
def wfX (R : Nat → Int32) (T : Nat) : Prop := R 1 = nI T ∧ T ≤ 14 ∧ ∀ t, t < T → wfT R t
theorem wfX_cg {R R' : Nat → Int32} (h : ∀ i, 60 ≤ i → R' i = R i) (h1 : R' 1 = R 1) {T : Nat} (w : wfX R T) : wfX R' T := ⟨h1.trans w.1, w.2.1, fun t ht => wfT_cg h (w.2.2 t ht)⟩
theorem lRun_h {a b c e : Int32} {st f : Nat → Int32} : ∀ n, (∀ k, k < n → okH st k) → (lRun a b c e st f n).1 = hgt st n := by
  intro n
  induction n with
  | zero => intro _; rfl
  | succ n ih =>
    intro h
    have i1 := ih (fun k hk => h k (by omega))
    obtain ⟨o1, o2, o3⟩ := h n (by omega)
    unfold lRun lStep hgt
    rw [i1]
    by_cases h1 : st n < -4
    · rw [if_pos h1, if_pos h1]
      by_cases h2 : st n = -33
      · rw [if_pos h2, if_pos h2, if_neg (by have := o1 h1 h2; omega)]
      · rw [if_neg h2, if_neg h2, if_neg (by have := o2 h1 h2; omega)]
    · rw [if_neg h1, if_neg h1, if_pos (o3 h1)]
/-- what the names say -/
def nms (R135 : Nat → Int32) (key a b c e : Int32) : Prop := (key = 0 ∧ R135 111 = a ∧ R135 119 = b ∧ R135 116 = c ∧ R135 110 = e) ∨ (key = 1 ∧ R135 115 = a ∧ R135 102 = b) ∨ (key = 2 ∧ R135 111 = a ∧ R135 119 = b)
theorem nms_at {R135 : Nat → Int32} {key a b c e v : Int32} (h : nms R135 key a b c e) (hv : okNm key v) : vp_in v 128 ∧ R135 v.toNatClampNeg = jNam (-1 - nmIx key v) a b c e ∧ (-1 - nmIx key v) < 0 ∧ ¬ (-1 - nmIx key v) < -4 := by
  rcases h with ⟨rfl, h1, h2, h3, h4⟩ | ⟨rfl, h1, h2⟩ | ⟨rfl, h1, h2⟩
  · rcases hv with ⟨-, rfl | rfl | rfl | rfl⟩ | ⟨z, -⟩ | ⟨z, -⟩
    · exact ⟨vp_in_nI (n := 111) (by decide) (by decide), h1, by decide, by decide⟩
    · exact ⟨vp_in_nI (n := 119) (by decide) (by decide), h2, by decide, by decide⟩
    · exact ⟨vp_in_nI (n := 116) (by decide) (by decide), h3, by decide, by decide⟩
    · exact ⟨vp_in_nI (n := 110) (by decide) (by decide), h4, by decide, by decide⟩
    · exact absurd z (by decide)
    · exact absurd z (by decide)
  · rcases hv with ⟨z, -⟩ | ⟨-, rfl | rfl⟩ | ⟨z, -⟩
    · exact absurd z (by decide)
    · exact ⟨vp_in_nI (n := 115) (by decide) (by decide), h1, by decide, by decide⟩
    · exact ⟨vp_in_nI (n := 102) (by decide) (by decide), h2, by decide, by decide⟩
    · exact absurd z (by decide)
  · rcases hv with ⟨z, -⟩ | ⟨z, -⟩ | ⟨-, rfl | rfl⟩
    · exact absurd z (by decide)
    · exact absurd z (by decide)
    · exact ⟨vp_in_nI (n := 111) (by decide) (by decide), h1, by decide, by decide⟩
    · exact ⟨vp_in_nI (n := 119) (by decide) (by decide), h2, by decide, by decide⟩
theorem okSg_at {v : Int32} (h : okSg v) : -v < -4 ∧ (-v = -33 ↔ v = 33) ∧ -(-v) = v := by
  rcases h with rfl | rfl | rfl | rfl | rfl | rfl | rfl | rfl | rfl | rfl <;> exact ⟨by decide, by decide, by decide⟩
section KW
variable {d : Nat} {I : IM} {Q : Po}
theorem div_m1 (x : Int32) : x / -1 = -x := by
  apply Int32.toBitVec_inj.mp
  have h : x.toBitVec.sdiv (-(1#32)) = -x.toBitVec := by rw [BitVec.sdiv_neg (by decide), BitVec.sdiv_one]
  exact h
def okBn (c : Int32) : Prop := c = 38 ∨ c = 42 ∨ c = 43 ∨ c = 45 ∨ c = 47 ∨ c = 60 ∨ c = 61 ∨ c = 62 ∨ c = 124
theorem k190 {c x y : Int32} (hc : okBn c) : E (d, 190, 0, [.int c, .int x, .int y], [], I) Q ↔ Q (.int (jWork c x y)) I := by
  simp only [b190_0, b190_116, b190_120, b190_124, b190_128, b190_132, b190_136, b190_141, b190_146, b190_149, b190_150, b190_155, b190_159, b190_160, b190_161, b190_166, b190_170, b190_171, b190_172, b190_177, b190_181, b190_182, b190_183, b190_187, b190_191, b190_195, b190_196, b190_197, b190_201, b190_205, b190_209, b190_210]
  unfold jWork
  simp only [QI]
  rcases hc with rfl | rfl | rfl | rfl | rfl | rfl | rfl | rfl | rfl
  · simp (decide := true) only [if_true, if_false]
  · simp (decide := true) only [if_true, if_false]
  · simp (decide := true) only [if_true, if_false]
  · simp (decide := true) only [if_true, if_false]
  · simp (decide := true) only [if_true, if_false]
    by_cases h0 : y = 0
    · simp only [h0, if_true]
    · by_cases h1 : y = -1
      · subst h1
        simp (decide := true) only [if_true, if_false, div_m1]
      · simp only [h0, h1, if_false, not_false_eq_true, true_and]
  · simp (decide := true) only [if_true, if_false]
  · simp (decide := true) only [if_true, if_false]
  · simp (decide := true) only [if_true, if_false]
  · simp (decide := true) only [if_true, if_false]
theorem k125 {t : Nat} : E (d, 125, 0, [.ref 121, .int (nI t)], [], I) Q ↔ Q (.int (nI (60 + 200 * t))) I := by
  rw [b125_0, show (60 : Int32) = nI 60 by decide, show (200 : Int32) = nI 200 by decide, pk_mul, nI_add]
theorem k188 {T : Nat} {key : Int32} (hT : I 122 1 = nI T) (h14 : T ≤ 14) {x y : Value} : E (d + 1, 188, 0, [.ref 121, .int key, x, y], [], I) Q ↔ Q (.int (enc (cntR (I 122) key T))) I := by
  have loop : ∀ (k t : Nat), t + k = T → (E (d + 1, 188, 4, [.ref 121, .int key, .int (enc (cntR (I 122) key t)), .int (nI t)], [], I) Q ↔ Q (.int (enc (cntR (I 122) key T))) I) := by
    intro k
    induction k with
    | zero =>
      intro t ht
      have : t = T := by omega
      subst this
      rw [b188_4, hT, if_neg (nI_nlt (Nat.le_refl _) (by omega)), b188_40]
    | succ k ih =>
      intro t ht
      have ih' := ih (t + 1) (by omega)
      rw [b188_4, hT, if_pos (nI_lt (by omega) (by omega)), b188_14, k125, b188_23, and_iff_right (vp_in_nI (by omega) (by decide)), nI_clamp (by omega)]
      by_cases hk : I 122 (60 + 200 * t) = key
      · rw [if_pos hk, b188_28, b188_33, nI_1]
        have e : cntR (I 122) key (t + 1) = some t := by show (if _ then _ else _) = _; rw [if_pos hk]
        rw [e] at ih'
        exact ih'
      · rw [if_neg hk, b188_32, b188_33, nI_1]
        have e : cntR (I 122) key (t + 1) = cntR (I 122) key t := by show (if _ then _ else _) = _; rw [if_neg hk]
        rw [e] at ih'
        exact ih'
  rw [b188_0]
  exact loop T 0 (by omega)
theorem nI_k (a b : Nat) (v : Int32) (h : v = nI b) : nI a + v = nI (a + b) := by subst h; exact nI_add a b
theorem k191_loop {t : Nat} (ht : t < 14) {R nm : Nat → Int32} (w : wfT R t) {a b c e : Int32} (hn : nms nm (R (60 + 200 * t)) a b c e) : ∀ (j k : Nat) (I : IM) (f0 : Nat → Int32) (x y : Value), k + j = tN R t → I 122 = R → I 135 = nm → I 136 = (lRun a b c e (tSt R t) f0 k).2 →
    ∃ I', (∀ Q : Po, E (d + 1, 191, 4, [.ref 121, .int (nI t), .int (nI (hgt (tSt R t) k)), .int (nI k), x, y], [], I) Q ↔ Q (.int (lRes (lRun a b c e (tSt R t) f0 (tN R t)))) I') ∧ ∀ c', c' ≠ 136 → I' c' = I c' := by
  obtain ⟨⟨n, n96, hsz⟩, -, h1, hall⟩ := w
  have etn : tN R t = n := by unfold tN; rw [hsz, nI_clamp (by omega)]
  intro j
  induction j with
  | zero =>
    intro k I f0 x y hk r1 r2 r3
    refine ⟨I, fun Q => ?_, fun _ _ => rfl⟩
    have e1 := lRun_h (a := a) (b := b) (c := c) (e := e) (f := f0) (tN R t) (fun i hi => (hall i hi).1)
    rw [b191_4, k125, b191_14, nI_k _ 2 2 (by decide), and_iff_right (vp_in_nI (by omega) (by decide)), nI_clamp (by omega), r1, show 60 + 200 * t + 2 = 62 + 200 * t by omega, hsz, if_neg (nI_nlt (by omega) (by omega)), b191_163, r3]
    unfold lRes
    rw [e1, h1, show k = tN R t by omega]
    exact Iff.rfl
  | succ j ih =>
    intro k I f0 x y hk r1 r2 r3
    obtain ⟨⟨o1, o2, o3⟩, hw⟩ := hall k (by omega)
    have eh := lRun_h (a := a) (b := b) (c := c) (e := e) (f := f0) k (fun i hi => (hall i (by omega)).1)
    have st : ∀ Q : Po, E (d + 1, 191, 4, [.ref 121, .int (nI t), .int (nI (hgt (tSt R t) k)), .int (nI k), x, y], [], I) Q ↔ if R (64 + 200 * t + 2 * k) = 2 then E (d + 1, 191, 93, [.ref 121, .int (nI t), .int (nI (hgt (tSt R t) k)), .int (nI k), .int (R (64 + 200 * t + 2 * k)), .int (R (65 + 200 * t + 2 * k))], [], I) Q else E (d + 1, 191, 64, [.ref 121, .int (nI t), .int (nI (hgt (tSt R t) k)), .int (nI k), .int (R (64 + 200 * t + 2 * k)), .int (R (65 + 200 * t + 2 * k))], [], I) Q := by
      intro Q
      have e2 : (2 : Int32) * nI k = nI (2 * k) := by rw [show (2 : Int32) = nI 2 by decide, pk_mul]
      rw [b191_4, k125, b191_14, nI_k _ 2 2 (by decide), and_iff_right (vp_in_nI (by omega) (by decide)), nI_clamp (by omega), r1, show 60 + 200 * t + 2 = 62 + 200 * t by omega, hsz, if_pos (nI_lt (by omega) (by omega)), b191_20, k125, b191_29, k125, b191_47, nI_k _ 4 4 (by decide), e2, nI_add, nI_1, and_iff_right (vp_in_nI (by omega) (by decide)), and_iff_right (vp_in_nI (by omega) (by decide)), nI_clamp (by omega), nI_clamp (by omega), r1, show 60 + 200 * t + 4 + 2 * k = 64 + 200 * t + 2 * k by omega, show 64 + 200 * t + 2 * k + 1 = 65 + 200 * t + 2 * k by omega]
    have go : ∀ (I1 : IM) (x1 y1 : Int32), (∀ c', c' ≠ 136 → I1 c' = I c') → I1 136 = (lStep a b c e (tSt R t k) (lRun a b c e (tSt R t) f0 k)).2 →
        (∀ Q : Po, E (d + 1, 191, 4, [.ref 121, .int (nI t), .int (nI (hgt (tSt R t) k)), .int (nI k), x, y], [], I) Q ↔ E (d + 1, 191, 157, [.ref 121, .int (nI t), .int (nI (hgt (tSt R t) (k + 1))), .int (nI k), .int x1, .int y1], [], I1) Q) →
        ∃ I', (∀ Q : Po, E (d + 1, 191, 4, [.ref 121, .int (nI t), .int (nI (hgt (tSt R t) k)), .int (nI k), x, y], [], I) Q ↔ Q (.int (lRes (lRun a b c e (tSt R t) f0 (tN R t)))) I') ∧ ∀ c', c' ≠ 136 → I' c' = I c' := by
      intro I1 x1 y1 hfr hp hgo
      obtain ⟨I', q1, q2⟩ := ih (k + 1) I1 f0 (.int x1) (.int y1) (by omega) ((hfr 122 (by decide)).trans r1) ((hfr 135 (by decide)).trans r2) hp
      refine ⟨I', fun Q => ?_, fun c' hc => (q2 c' hc).trans (hfr c' hc)⟩
      rw [hgo Q, b191_157, nI_1]
      exact q1 Q
    generalize hq : lRun a b c e (tSt R t) f0 k = q at *
    rcases hw with ⟨w1, v, hv, w2⟩ | ⟨w1, w2⟩ | ⟨w1, w2⟩
    · -- a number
      have es : tSt R t k = nI v := by unfold tSt; rw [if_pos w1, w2]
      have h4 : ¬ tSt R t k < -4 := by rw [es]; exact fun z => nI_pos (n := v) (by omega) (Int32.lt_trans z (by decide))
      have h0 : ¬ tSt R t k < 0 := by rw [es]; exact nI_pos (by omega)
      have eg : hgt (tSt R t) (k + 1) = hgt (tSt R t) k + 1 := by show (if _ then _ else _) = _; rw [if_neg h4]
      have h48 := o3 h4
      have e1 : lStep a b c e (tSt R t k) q = (q.1 + 1, upd q.2 q.1 (nI v)) := by unfold lStep; rw [if_neg h4, if_pos (by omega), if_neg h0, es]
      refine go (up I 136 (hgt (tSt R t) k) (nI v)) (R (64 + 200 * t + 2 * k)) (R (65 + 200 * t + 2 * k)) (fun c' hc => up_c hc) (by rw [e1, up_r, r3, eh]) (fun Q => ?_)
      rw [st Q, if_neg (by rw [w1]; decide), b191_64, if_pos w1, b191_74, b191_86, and_iff_right (vp_in_nI (by omega) (by decide)), nI_clamp (by omega), nI_1, eg, w2]
    · -- a name
      obtain ⟨m1, m2, m3, m4⟩ := nms_at hn w2
      have es : tSt R t k = -1 - nmIx (R (60 + 200 * t)) (R (65 + 200 * t + 2 * k)) := by unfold tSt; rw [if_neg (by rw [w1]; decide), if_pos w1]
      rw [← es] at m2 m3 m4
      have eg : hgt (tSt R t) (k + 1) = hgt (tSt R t) k + 1 := by show (if _ then _ else _) = _; rw [if_neg m4]
      have h48 := o3 m4
      have e1 : lStep a b c e (tSt R t k) q = (q.1 + 1, upd q.2 q.1 (jNam (tSt R t k) a b c e)) := by unfold lStep; rw [if_neg m4, if_pos (by omega), if_pos m3]
      refine go (up I 136 (hgt (tSt R t) k) (jNam (tSt R t k) a b c e)) (R (64 + 200 * t + 2 * k)) (R (65 + 200 * t + 2 * k)) (fun c' hc => up_c hc) (by rw [e1, up_r, r3, eh]) (fun Q => ?_)
      rw [st Q, if_neg (by rw [w1]; decide), b191_64, if_neg (by rw [w1]; decide), b191_79, and_iff_right m1, r2, m2, b191_86, and_iff_right (vp_in_nI (by omega) (by decide)), nI_clamp (by omega), nI_1, eg]
    · -- a sign
      obtain ⟨m1, m2, m3⟩ := okSg_at w2
      have es : tSt R t k = -(R (65 + 200 * t + 2 * k)) := by unfold tSt; rw [if_neg (by rw [w1]; decide), if_neg (by rw [w1]; decide)]
      rw [← es] at m1 m2
      by_cases h33 : R (65 + 200 * t + 2 * k) = 33
      · have h33' := m2.mpr h33
        have eg : hgt (tSt R t) (k + 1) = hgt (tSt R t) k := by show (if _ then _ else _) = _; rw [if_pos m1, if_pos h33']
        have hg := o1 m1 h33'
        obtain ⟨m, hm⟩ : ∃ m, hgt (tSt R t) k = m + 1 := ⟨hgt (tSt R t) k - 1, by omega⟩
        have hle : hgt (tSt R t) k ≤ 48 := by rw [← eh, ← hq]; exact lRun_le _ _ _ _ _ _ _
        have e1 : lStep a b c e (tSt R t k) q = (q.1, upd q.2 m (if q.2 m = 0 then 1 else 0)) := by
          unfold lStep; rw [if_pos m1, if_pos h33', if_neg (by omega), show q.1 - 1 = m by omega]
        refine go (up I 136 m (if q.2 m = 0 then 1 else 0)) (R (64 + 200 * t + 2 * k)) (R (65 + 200 * t + 2 * k)) (fun c' hc => up_c hc) (by rw [e1, up_r, r3]) (fun Q => ?_)
        have ep : nI (m + 1) - 1 = nI m := nI_pred m
        rw [st Q, if_pos w1, b191_93, if_pos h33, b191_100, eg, hm, ep, and_iff_right (vp_in_nI (by omega) (by decide)), nI_clamp (by omega), r3]
        by_cases hz : q.2 m = 0
        · rw [if_pos hz, if_pos hz, b191_118, b191_123, and_iff_right (vp_in_nI (by omega) (by decide)), nI_clamp (by omega)]
        · rw [if_neg hz, if_neg hz, b191_122, b191_123, and_iff_right (vp_in_nI (by omega) (by decide)), nI_clamp (by omega)]
      · have h33' : ¬ tSt R t k = -33 := fun z => h33 (m2.mp z)
        have hbn : okBn (R (65 + 200 * t + 2 * k)) := by
          rcases w2 with z | z
          · exact absurd z h33
          · exact z
        have eg : hgt (tSt R t) (k + 1) = hgt (tSt R t) k - 1 := by show (if _ then _ else _) = _; rw [if_pos m1, if_neg h33']
        have hg := o2 m1 h33'
        obtain ⟨m, hm⟩ : ∃ m, hgt (tSt R t) k = m + 2 := ⟨hgt (tSt R t) k - 2, by omega⟩
        have hle : hgt (tSt R t) k ≤ 48 := by rw [← eh, ← hq]; exact lRun_le _ _ _ _ _ _ _
        have e1 : lStep a b c e (tSt R t k) q = (m + 1, upd q.2 m (jWork (R (65 + 200 * t + 2 * k)) (q.2 m) (q.2 (m + 1)))) := by
          unfold lStep; rw [if_pos m1, if_neg h33', if_neg (by omega), show q.1 - 1 = m + 1 by omega, show q.1 - 2 = m by omega, es, m3]
        refine go (up I 136 m (jWork (R (65 + 200 * t + 2 * k)) (q.2 m) (q.2 (m + 1)))) (R (64 + 200 * t + 2 * k)) (R (65 + 200 * t + 2 * k)) (fun c' hc => up_c hc) (by rw [e1, up_r, r3]) (fun Q => ?_)
        have ep1 : nI (m + 2) + (-1) = nI (m + 1) := pk_m1 (m + 1)
        have ep2 : nI (m + 1) - 1 = nI m := nI_pred m
        rw [st Q, if_pos w1, b191_93, if_neg h33, b191_127, eg, hm, ep1, ep2, and_iff_right (vp_in_nI (by omega) (by decide)), and_iff_right (vp_in_nI (by omega) (by decide)), nI_clamp (by omega), nI_clamp (by omega), r3, k190 hbn, b191_156, and_iff_right (vp_in_nI (by omega) (by decide)), nI_clamp (by omega), show m + 2 - 1 = m + 1 by omega]
/-- what a text gives -/
theorem k191 {t : Nat} (ht : t < 14) (w : wfT (I 122) t) {a b c e : Int32} (hn : nms (I 135) (I 122 (60 + 200 * t)) a b c e) {x y z u : Value} :
    ∃ I', Rn (d + 1, 191, 0, [.ref 121, .int (nI t), x, y, z, u], [], I) (.int (lGive (tSt (I 122) t) (tN (I 122) t) a b c e)) I' ∧ ∀ c', c' ≠ 136 → I' c' = I c' := by
  obtain ⟨I', q1, q2⟩ := k191_loop (d := d) ht w hn (tN (I 122) t) 0 I (I 136) z u (by omega) rfl rfl rfl
  refine ⟨I', fun Q => ?_, q2⟩
  rw [b191_0, ← lGive_f0 (f := I 136)]
  exact q1 Q
end KW
