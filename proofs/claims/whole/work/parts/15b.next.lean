/-! the reference's next token; signs, names, words -/
/-- what the reference says of the token that is looked at -/
def tokR (I : IM) (tp : Nat → Int32) (so st sp : Nat) : Prop := (so = 0 → I 121 17 = 0) ∧ (so = 1 → I 121 17 = 1 ∧ I 121 19 = if sp - st = 1 then tp st else 0) ∧ (so = 2 → (sp - st ≤ 4 → I 121 17 = 2 ∧ I 121 18 = num tp st (sp - st)) ∧ (4 < sp - st → I 121 17 = 4)) ∧ (so = 3 → I 121 17 = 3 ∧ I 121 19 = tp st) ∧ (so = 4 → I 121 17 = 4)
section NX
variable {d : Nat} {M I : IM} {Q : Po} {n : Nat} {tp : Nat → Int32}
theorem k173_sk {l1 l2 : Int32} (hn : n ≤ 96) (h1 : I 121 14 = nI n) (hb : ∀ i, i < n → I 134 i = tp i) : ∀ (k p : Nat), p + k = n → ∀ Q : Po, E (d, 173, 34, [.ref 121, .int l1, .int l2], [], up I 121 16 (nI p)) Q ↔ E (d, 173, 72, [.ref 121, .int l1, .int l2], [], up I 121 16 (nI (adv (fun i => tp i = 32) k p))) Q := by
  intro k
  induction k with
  | zero =>
    intro p hp Q
    rw [b173_34, up_s, up_k (by decide), h1, if_neg (nI_nlt (by omega) (by omega))]
    exact Iff.rfl
  | succ k ih =>
    intro p hp Q
    unfold adv
    rw [b173_34, up_s, up_k (by decide), h1, if_pos (nI_lt (by omega) (by omega)), b173_45, up_s, and_iff_right (vp_in_nI (by omega) (by decide)), nI_clamp (by omega), up_c (by decide), hb p (by omega)]
    by_cases h : tp p = 32
    · rw [if_pos h, if_pos h, b173_59, up_s, nI_1, up2]
      exact ih (p + 1) (by omega) Q
    · rw [if_neg h, if_neg h]
theorem k173_le {l1 l2 : Int32} (hn : n ≤ 96) (h1 : I 121 14 = nI n) (hb : ∀ i, i < n → I 134 i = tp i) : ∀ (k p : Nat), p + k = n → ∀ Q : Po, E (d + 2, 173, 128, [.ref 121, .int l1, .int l2], [], up I 121 16 (nI p)) Q ↔ E (d + 2, 173, 152, [.ref 121, .int l1, .int l2], [], up I 121 16 (nI (adv (fun i => tyA tp n i = 1) k p))) Q := by
  intro k
  induction k with
  | zero =>
    intro p hp Q
    rw [b173_128, up_s, k171 (tp := tp) hn (by rw [up_k (by decide)]; exact h1) (by omega) (fun i hi => by rw [up_c (by decide)]; exact hb i hi), b173_136, ite_b01, if_neg (by unfold tyA; rw [if_neg (by omega)]; decide)]
    exact Iff.rfl
  | succ k ih =>
    intro p hp Q
    unfold adv
    rw [b173_128, up_s, k171 (tp := tp) hn (by rw [up_k (by decide)]; exact h1) (by omega) (fun i hi => by rw [up_c (by decide)]; exact hb i hi), b173_136, ite_b01]
    by_cases h : tyA tp n p = 1
    · rw [if_pos h, if_pos h, b173_139, up_s, nI_1, up2]
      exact ih (p + 1) (by omega) Q
    · rw [if_neg h, if_neg h]
theorem k173_di {l1 l2 : Int32} {q : Nat} (hn : n ≤ 96) : ∀ (k p : Nat) (J : IM), p + k = n → q ≤ p → J 121 14 = nI n → J 121 15 = nI q → J 121 16 = nI p → J 121 18 = num tp q (min 4 (p - q)) → (∀ i, i < n → J 134 i = tp i) →
    ∃ J', (∀ Q : Po, E (d + 2, 173, 214, [.ref 121, .int l1, .int l2], [], J) Q ↔ E (d + 2, 173, 282, [.ref 121, .int l1, .int l2], [], J') Q) ∧ J' 121 16 = nI (adv (fun i => tyA tp n i = 2) k p) ∧ J' 121 18 = num tp q (min 4 (adv (fun i => tyA tp n i = 2) k p - q)) ∧ (∀ s, s ≠ 16 → s ≠ 18 → J' 121 s = J 121 s) ∧ ∀ c, c ≠ 121 → J' c = J c := by
  intro k
  induction k with
  | zero =>
    intro p J hp hq h1 h5 h6 h8 hb
    refine ⟨J, fun Q => ?_, h6, h8, fun _ _ _ => rfl, fun _ _ => rfl⟩
    rw [b173_214, h6, k172 (tp := tp) hn h1 (by omega) hb, b173_222, ite_b01, if_neg (by unfold tyA; rw [if_neg (by omega)]; decide)]
  | succ k ih =>
    intro p J hp hq h1 h5 h6 h8 hb
    unfold adv
    by_cases h : tyA tp n p = 2
    · simp only [h, if_true]
      have nx : ∀ v : Int32, v = num tp q (min 4 (p + 1 - q)) → (∀ Q : Po, E (d + 2, 173, 214, [.ref 121, .int l1, .int l2], [], J) Q ↔ E (d + 2, 173, 266, [.ref 121, .int l1, .int l2], [.int v, .ref 121], J) Q) → ∃ J', (∀ Q : Po, E (d + 2, 173, 214, [.ref 121, .int l1, .int l2], [], J) Q ↔ E (d + 2, 173, 282, [.ref 121, .int l1, .int l2], [], J') Q) ∧ J' 121 16 = nI (adv (fun i => tyA tp n i = 2) k (p + 1)) ∧ J' 121 18 = num tp q (min 4 (adv (fun i => tyA tp n i = 2) k (p + 1) - q)) ∧ (∀ s, s ≠ 16 → s ≠ 18 → J' 121 s = J 121 s) ∧ ∀ c, c ≠ 121 → J' c = J c := by
        intro v hv st
        obtain ⟨J', r1, r2, r3, r4, r5⟩ := ih (p + 1) (up (up J 121 18 v) 121 16 (nI (p + 1))) (by omega) (by omega) (by rw [up_k (by decide), up_k (by decide)]; exact h1) (by rw [up_k (by decide), up_k (by decide)]; exact h5) up_s (by rw [up_k (by decide), up_s, hv]) (fun i hi => by rw [up_c (by decide), up_c (by decide)]; exact hb i hi)
        refine ⟨J', fun Q => ?_, r2, r3, fun s s1 s2 => by rw [r4 s s1 s2, up_k s1, up_k s2], fun c hc => by rw [r5 c hc, up_c hc, up_c hc]⟩
        rw [st Q, b173_266, up_k (by decide), h6, nI_1]
        exact r1 Q
      have st0 : ∀ Q : Po, E (d + 2, 173, 214, [.ref 121, .int l1, .int l2], [], J) Q ↔ if nI (p - q) < 4 then E (d + 2, 173, 239, [.ref 121, .int l1, .int l2], [.ref 121], J) Q else E (d + 2, 173, 262, [.ref 121, .int l1, .int l2], [.ref 121], J) Q := fun Q => by
        rw [b173_214, h6, k172 (tp := tp) hn h1 (by omega) hb, b173_222, ite_b01, if_pos h, b173_225, h6, h5, nI_sub hq]
      by_cases h4 : p - q < 4
      · refine nx (10 * num tp q (p - q) + tp p - 48) ?_ (fun Q => ?_)
        · rw [show min 4 (p + 1 - q) = (p - q) + 1 by omega]
          show _ = 10 * num tp q (p - q) + tp (q + (p - q)) - 48
          rw [show q + (p - q) = p by omega]
        · rw [st0, if_pos (show nI (p - q) < 4 from (show nI (p - q) < nI 4 from nI_lt h4 (by decide))), b173_239, h6, and_iff_right (vp_in_nI (by omega) (by decide)), nI_clamp (by omega), h8, hb p (by omega), show min 4 (p - q) = p - q by omega]
      · refine nx (num tp q (min 4 (p - q))) ?_ (fun Q => ?_)
        · rw [show min 4 (p + 1 - q) = min 4 (p - q) by omega]
        · rw [st0, if_neg (show ¬ nI (p - q) < 4 from (show ¬ nI (p - q) < nI 4 from nI_nlt (by omega) (by omega))), b173_262, h8]
    · simp only [h, if_false]
      refine ⟨J, fun Q => ?_, h6, h8, fun _ _ _ => rfl, fun _ _ => rfl⟩
      rw [b173_214, h6, k172 (tp := tp) hn h1 (by omega) hb, b173_222, ite_b01, if_neg h]
theorem k173 {p : Nat} {tg : Bool} (hn : n ≤ 96) (hp : p ≤ n) (h1 : I 121 14 = nI n) (h4 : I 121 16 = nI p) (hb : ∀ i, i < n → I 134 i = tp i) (ht : tg = true ↔ (0 < p ∧ (I 121 17 = 1 ∨ I 121 17 = 2))) {x y : Value} :
    ∃ I', Rn (d + 2, 173, 0, [.ref 121, x, y], [], I) .null I' ∧ I' 121 15 = nI (nSt tp n p) ∧ I' 121 16 = nI (nSp tp n p) ∧ tokR I' tp (nSo tp n tg p) (nSt tp n p) (nSp tp n p) ∧ (∀ s, s < 15 ∨ 19 < s → I' 121 s = I 121 s) ∧ ∀ c, c ≠ 121 → I' c = I c := by
  have hst := nSt_b tp hp
  have hsp := nSp_b tp hp
  have hty := nTy_r tp n p
  have upI : up I 121 16 (nI p) = I := by
    funext c
    by_cases z : c = 121
    · subst z; rw [up_r, upd_idv h4]
    · rw [up_c z]
  generalize hL : (if tg = true ∧ nSt tp n p = p then (1 : Int32) else 0) = L
  generalize hJ : up (up I 121 16 (nI (nSt tp n p))) 121 15 (nI (nSt tp n p)) = J
  have j14 : J 121 14 = nI n := by rw [← hJ, up_k (by decide), up_k (by decide)]; exact h1
  have j15 : J 121 15 = nI (nSt tp n p) := by rw [← hJ, up_s]
  have j16 : J 121 16 = nI (nSt tp n p) := by rw [← hJ, up_k (by decide), up_s]
  have js : ∀ s, s ≠ 15 → s ≠ 16 → J 121 s = I 121 s := fun s s1 s2 => by rw [← hJ, up_k s1, up_k s2]
  have jc : ∀ c, c ≠ 121 → J c = I c := fun c hc => by rw [← hJ, up_c hc, up_c hc]
  have pre : ∀ Q : Po, E (d + 2, 173, 0, [.ref 121, x, y], [], I) Q ↔ if nI (nSt tp n p) = nI n then E (d + 2, 173, 109, [.ref 121, .int L, .int (nI p)], [], J) Q else E (d + 2, 173, 117, [.ref 121, .int L, .int (nI p)], [], J) Q := by
    intro Q
    have s1 : E (d + 2, 173, 0, [.ref 121, x, y], [], I) Q ↔ E (d + 2, 173, 34, [.ref 121, .int (if tg = true then 1 else 0), .int (nI p)], [], up I 121 16 (nI p)) Q := by
      rw [upI, b173_0, b173_7, b173_15, h4]
      by_cases z0 : 0 < p
      · rw [if_pos (show (0 : Int32) < nI p from (show nI 0 < nI p from nI_lt z0 (by omega)))]
        by_cases z1 : I 121 17 = 1
        · rw [if_pos z1, b173_23, b173_28, h4, if_pos (ht.mpr ⟨z0, Or.inl z1⟩)]
        · rw [if_neg z1]
          by_cases z2 : I 121 17 = 2
          · rw [if_pos z2, b173_23, b173_28, h4, if_pos (ht.mpr ⟨z0, Or.inr z2⟩)]
          · rw [if_neg z2, b173_27, b173_28, h4, if_neg (fun z => (ht.mp z).2.elim z1 z2)]
      · rw [if_neg (show ¬ (0 : Int32) < nI p from (show ¬ nI 0 < nI p from nI_nlt (by omega) (by decide))), b173_27, b173_28, h4, if_neg (fun z => z0 (ht.mp z).1)]
    rw [s1, k173_sk hn h1 hb (n - p) p (by omega) Q, show adv (fun i => tp i = 32) (n - p) p = nSt tp n p from rfl, b173_72]
    have tail : ∀ (l : Int32), l = L → (E (d + 2, 173, 89, [.ref 121, .int (if tg = true then 1 else 0), .int (nI p)], [.int l], up I 121 16 (nI (nSt tp n p))) Q ↔ if nI (nSt tp n p) = nI n then E (d + 2, 173, 109, [.ref 121, .int L, .int (nI p)], [], J) Q else E (d + 2, 173, 117, [.ref 121, .int L, .int (nI p)], [], J) Q) := fun l e => by
      subst e
      have e16 : (up I 121 16 (nI (nSt tp n p))) 121 16 = nI (nSt tp n p) := up_s
      rw [b173_89, e16, hJ, j15, j14]
    by_cases z : tg = true
    · rw [if_pos z, if_neg (by decide), b173_76, up_s]
      rw [if_pos z] at tail
      by_cases z2 : nSt tp n p = p
      · rw [if_pos (by rw [z2]), b173_84]
        exact tail 1 (by rw [← hL, if_pos ⟨z, z2⟩])
      · rw [if_neg (fun y => z2 ((nI_eqI (by omega) (by omega)).mp y).symm), b173_88]
        exact tail 0 (by rw [← hL, if_neg (fun y => z2 y.2)])
    · rw [if_neg z, if_pos rfl, b173_88]
      rw [if_neg z] at tail
      exact tail 0 (by rw [← hL, if_neg (fun y => z y.1)])
  by_cases z0 : nTy tp n p = 0
  · have e0 := (nTy_0 tp hp).mp z0
    have eso : nSo tp n tg p = 0 := by unfold nSo; rw [if_neg (by omega)]; exact z0
    have esp : nSp tp n p = nSt tp n p := by unfold nSp; rw [if_pos z0]
    refine ⟨up J 121 17 0, fun Q => ?_, by rw [up_k (by decide)]; exact j15, by rw [up_k (by decide), esp]; exact j16, ?_, fun s hs => by rw [up_k (by omega)]; exact js s (by omega) (by omega), fun c hc => by rw [up_c hc]; exact jc c hc⟩
    · rw [pre Q, if_pos (by rw [e0]), b173_109, b173_339]
    · rw [eso]
      exact ⟨fun _ => up_s, fun h => by omega, fun h => by omega, fun h => by omega, fun h => by omega⟩
  have hlt : nSt tp n p < n := by
    have := nTy_0 tp hp
    omega
  have et : tyA tp n (nSt tp n p) = nTy tp n p := rfl
  have jb : ∀ i, i < n → J 134 i = tp i := fun i hi => by rw [jc 134 (by decide)]; exact hb i hi
  have p117 : ∀ Q : Po, E (d + 2, 173, 0, [.ref 121, x, y], [], I) Q ↔ if nTy tp n p = 1 then E (d + 2, 173, 128, [.ref 121, .int L, .int (nI p)], [], J) Q else if nTy tp n p = 2 then E (d + 2, 173, 209, [.ref 121, .int L, .int (nI p)], [], J) Q else E (d + 2, 173, 311, [.ref 121, .int L, .int (nI p)], [], J) Q := fun Q => by
    rw [pre Q, if_neg (fun z => by have := (nI_eqI (by omega) (by omega)).mp z; omega), b173_117, j15, k171 (tp := tp) hn j14 (by omega) jb, b173_125, ite_b01, et, b173_198, j15, k172 (tp := tp) hn j14 (by omega) jb, b173_206, ite_b01, et]
  by_cases z3 : nTy tp n p = 3
  · have eso : nSo tp n tg p = 3 := by unfold nSo; rw [if_neg (by omega)]; exact z3
    have esp : nSp tp n p = nSt tp n p + 1 := by unfold nSp; rw [if_neg z0, if_pos z3]
    have q19 : (up J 121 17 3) 134 = I 134 := by rw [up_c (by decide)]; exact jc 134 (by decide)
    refine ⟨up (up (up J 121 17 3) 121 19 (tp (nSt tp n p))) 121 16 (nI (nSt tp n p + 1)), fun Q => ?_, by rw [up_k (by decide), up_k (by decide), up_k (by decide)]; exact j15, by rw [up_s, esp], ?_, fun s hs => by rw [up_k (by omega), up_k (by omega), up_k (by omega)]; exact js s (by omega) (by omega), fun c hc => by rw [up_c hc, up_c hc, up_c hc]; exact jc c hc⟩
    · rw [p117 Q, if_neg (by omega), if_neg (by omega), b173_311, up_k (by decide), j15, and_iff_right (vp_in_nI (by omega) (by decide)), nI_clamp (by omega), q19, hb _ hlt, up_k (by decide), up_k (by decide), j16, nI_1, b173_339]
    · rw [eso]
      exact ⟨fun h => by omega, fun h => by omega, fun h => by omega, fun _ => ⟨by rw [up_k (by decide), up_k (by decide), up_s], by rw [up_k (by decide), up_s]⟩, fun h => by omega⟩
  have eS : nSp tp n p = adv (fun i => tyA tp n i = nTy tp n p) (n - (nSt tp n p + 1)) (nSt tp n p + 1) := by unfold nSp; rw [if_neg z0, if_neg z3]
  have eA : adv (fun i => tyA tp n i = nTy tp n p) (n - nSt tp n p) (nSt tp n p) = nSp tp n p := by
    rw [eS, show n - nSt tp n p = (n - (nSt tp n p + 1)) + 1 by omega]
    show (if tyA tp n (nSt tp n p) = nTy tp n p then _ else _) = _
    rw [if_pos et]
  have hL1 : ∀ h : tg = true ∧ nSt tp n p = p, L = 1 := fun h => by rw [← hL, if_pos h]
  have hL0 : ∀ h : ¬ (tg = true ∧ nSt tp n p = p), L = 0 := fun h => by rw [← hL, if_neg h]
  rcases (show nTy tp n p = 1 ∨ nTy tp n p = 2 by omega) with z | z
  · -- a word
    rw [z] at eA
    generalize hK : up J 121 16 (nI (nSp tp n p)) = K
    have k15 : K 121 15 = nI (nSt tp n p) := by rw [← hK, up_k (by decide)]; exact j15
    have k16 : K 121 16 = nI (nSp tp n p) := by rw [← hK, up_s]
    have upJ : up J 121 16 (nI (nSt tp n p)) = J := by
      funext c
      by_cases z : c = 121
      · subst z; rw [up_r, upd_idv j16]
      · rw [up_c z]
    have st : ∀ Q : Po, E (d + 2, 173, 0, [.ref 121, x, y], [], I) Q ↔ E (d + 2, 173, 152, [.ref 121, .int L, .int (nI p)], [], K) Q := fun Q => by
      have := k173_le (d := d) (I := J) (tp := tp) (l1 := L) (l2 := nI p) hn j14 jb (n - nSt tp n p) (nSt tp n p) (by omega) Q
      rw [upJ, eA, hK] at this
      rw [p117 Q, if_pos z, this]
    have fin : ∀ (v : Int32) (w : Nat), v = nI w → nSo tp n tg p = w → (w = 4 ∨ w = 1) → (∀ Q : Po, E (d + 2, 173, 0, [.ref 121, x, y], [], I) Q ↔ E (d + 2, 173, 162, [.ref 121, .int L, .int (nI p)], [.int v, .ref 121], K) Q) → ∃ I', Rn (d + 2, 173, 0, [.ref 121, x, y], [], I) .null I' ∧ I' 121 15 = nI (nSt tp n p) ∧ I' 121 16 = nI (nSp tp n p) ∧ tokR I' tp (nSo tp n tg p) (nSt tp n p) (nSp tp n p) ∧ (∀ s, s < 15 ∨ 19 < s → I' 121 s = I 121 s) ∧ ∀ c, c ≠ 121 → I' c = I c := by
      intro v w hv ew hw st2
      have u15 : (up K 121 17 v) 121 15 = nI (nSt tp n p) := by rw [up_k (by decide)]; exact k15
      have u16 : (up K 121 17 v) 121 16 = nI (nSp tp n p) := by rw [up_k (by decide)]; exact k16
      have ub : (up K 121 17 v) 134 = I 134 := by rw [up_c (by decide), ← hK, up_c (by decide)]; exact jc 134 (by decide)
      refine ⟨up (up K 121 17 v) 121 19 (if nSp tp n p - nSt tp n p = 1 then tp (nSt tp n p) else 0), fun Q => ?_, by rw [up_k (by decide)]; exact u15, by rw [up_k (by decide)]; exact u16, ?_, fun s hs => by rw [up_k (by omega), up_k (by omega), ← hK, up_k (by omega)]; exact js s (by omega) (by omega), fun c hc => by rw [up_c hc, up_c hc, ← hK, up_c hc]; exact jc c hc⟩
      · rw [st2 Q, b173_162, u16, u15, nI_sub (by omega)]
        by_cases y1 : nSp tp n p - nSt tp n p = 1
        · rw [y1, if_pos (by decide), b173_179, u15, and_iff_right (vp_in_nI (by omega) (by decide)), nI_clamp (by omega), ub, hb _ hlt, b173_192, b173_339, if_pos rfl]
        · rw [if_neg (show ¬ nI (nSp tp n p - nSt tp n p) = 1 from fun e => y1 ((nI_eqI (b := 1) (by omega) (by decide)).mp e)), b173_191, b173_192, b173_339, if_neg y1]
      · rw [ew]
        have e17 : (up (up K 121 17 v) 121 19 (if nSp tp n p - nSt tp n p = 1 then tp (nSt tp n p) else 0)) 121 17 = v := by rw [up_k (by decide), up_s]
        rcases hw with rfl | rfl
        · exact ⟨fun h => by omega, fun h => by omega, fun h => by omega, fun h => by omega, fun _ => by rw [e17, hv]; decide⟩
        · exact ⟨fun h => by omega, fun _ => ⟨by rw [e17, hv]; decide, by rw [up_s]⟩, fun h => by omega, fun h => by omega, fun h => by omega⟩
    by_cases hg : tg = true ∧ nSt tp n p = p
    · refine fin 4 4 (by decide) (by unfold nSo; rw [if_pos ⟨Or.inl z, hg⟩]) (Or.inl rfl) (fun Q => ?_)
      rw [st Q, b173_152, hL1 hg, if_neg (by decide), b173_157]
    · refine fin 1 1 (by decide) (by unfold nSo; rw [if_neg (fun y => hg y.2)]; exact z) (Or.inr rfl) (fun Q => ?_)
      rw [st Q, b173_152, hL0 hg, if_pos rfl, b173_161]
  · -- a number
    rw [z] at eA
    obtain ⟨K, r1, r2, r3, r4, r5⟩ := k173_di (d := d) (tp := tp) (l1 := L) (l2 := nI p) (q := nSt tp n p) hn (n - nSt tp n p) (nSt tp n p) (up J 121 18 0) (by omega) (Nat.le_refl _) (by rw [up_k (by decide)]; exact j14) (by rw [up_k (by decide)]; exact j15) (by rw [up_k (by decide)]; exact j16) (by rw [up_s, Nat.sub_self]; rfl) (fun i hi => by rw [up_c (by decide)]; exact jb i hi)
    rw [eA] at r2 r3
    have k15 : K 121 15 = nI (nSt tp n p) := by rw [r4 15 (by decide) (by decide), up_k (by decide)]; exact j15
    have st : ∀ Q : Po, E (d + 2, 173, 0, [.ref 121, x, y], [], I) Q ↔ E (d + 2, 173, 282, [.ref 121, .int L, .int (nI p)], [], K) Q := fun Q => by
      rw [p117 Q, if_neg (by omega), if_pos z, b173_209, r1 Q]
    have fin : ∀ (v : Int32), (∀ Q : Po, E (d + 2, 173, 0, [.ref 121, x, y], [], I) Q ↔ E (d + 2, 173, 305, [.ref 121, .int L, .int (nI p)], [.int v, .ref 121], K) Q) → (nSo tp n tg p = 4 ∧ v = 4 ∨ nSo tp n tg p = 2 ∧ (nSp tp n p - nSt tp n p ≤ 4 → v = 2) ∧ (4 < nSp tp n p - nSt tp n p → v = 4)) → ∃ I', Rn (d + 2, 173, 0, [.ref 121, x, y], [], I) .null I' ∧ I' 121 15 = nI (nSt tp n p) ∧ I' 121 16 = nI (nSp tp n p) ∧ tokR I' tp (nSo tp n tg p) (nSt tp n p) (nSp tp n p) ∧ (∀ s, s < 15 ∨ 19 < s → I' 121 s = I 121 s) ∧ ∀ c, c ≠ 121 → I' c = I c := by
      intro v st2 hv
      refine ⟨up K 121 17 v, fun Q => by rw [st2 Q, b173_305, b173_339], by rw [up_k (by decide)]; exact k15, by rw [up_k (by decide)]; exact r2, ?_, fun s hs => by rw [up_k (by omega), r4 s (by omega) (by omega), up_k (by omega)]; exact js s (by omega) (by omega), fun c hc => by rw [up_c hc, r5 c hc, up_c hc]; exact jc c hc⟩
      rcases hv with ⟨e, hv⟩ | ⟨e, hv1, hv2⟩
      · rw [e]
        exact ⟨fun h => by omega, fun h => by omega, fun h => by omega, fun h => by omega, fun _ => by rw [up_s]; exact hv⟩
      · rw [e]
        refine ⟨fun h => by omega, fun h => by omega, fun _ => ⟨fun h4 => ⟨by rw [up_s]; exact hv1 h4, ?_⟩, fun h4 => by rw [up_s]; exact hv2 h4⟩, fun h => by omega, fun h => by omega⟩
        rw [up_k (by decide), r3, show min 4 (nSp tp n p - nSt tp n p) = nSp tp n p - nSt tp n p by omega]
    by_cases hg : tg = true ∧ nSt tp n p = p
    · refine fin 4 (fun Q => ?_) (Or.inl ⟨by unfold nSo; rw [if_pos ⟨Or.inr z, hg⟩], rfl⟩)
      rw [st Q, b173_282, hL1 hg, if_neg (by decide), b173_300]
    · have eso : nSo tp n tg p = 2 := by unfold nSo; rw [if_neg (fun y => hg y.2)]; exact z
      by_cases h4' : 4 < nSp tp n p - nSt tp n p
      · refine fin 4 (fun Q => ?_) (Or.inr ⟨eso, fun y => by omega, fun _ => rfl⟩)
        rw [st Q, b173_282, hL0 hg, if_pos rfl, b173_287, r2, k15, nI_sub (by omega), if_pos (show (4 : Int32) < nI (nSp tp n p - nSt tp n p) from (show nI 4 < nI (nSp tp n p - nSt tp n p) from nI_lt h4' (by omega))), b173_300]
      · refine fin 2 (fun Q => ?_) (Or.inr ⟨eso, fun _ => rfl, fun y => by omega⟩)
        rw [st Q, b173_282, hL0 hg, if_pos rfl, b173_287, r2, k15, nI_sub (by omega), if_neg (show ¬ (4 : Int32) < nI (nSp tp n p - nSt tp n p) from (show ¬ nI 4 < nI (nSp tp n p - nSt tp n p) from nI_nlt (by omega) (by decide))), b173_304]
end NX
