/-! what is thought: behind, meets -/
/-- nothing but the thought and piles of laws has changed -/
def frK (M M' : IM) : Prop := ∀ c, ¬ (14 ≤ c ∧ c < 27) → ¬ scr c → M' c = M c
theorem frK.rf {M : IM} : frK M M := fun _ _ _ => rfl
theorem frK.tr {M M1 M2 : IM} (a : frK M M1) (b : frK M1 M2) : frK M M2 := fun c h1 h2 => (b c h1 h2).trans (a c h1 h2)
theorem frK.ofE {M M' : IM} (h : frE 14 M M') : frK M M' := fun c h1 h2 => h c (by omega) (by omega) h2
theorem frK.wr {M : IM} {c k : Nat} {v : Int32} (h : 14 ≤ c ∧ c < 27) : frK M (up M c k v) := fun c' h1 _ => up_c (fun e => h1 (e ▸ h))
theorem frK.H {M M' : IM} {S : Nat → Int32} {N : Nat} (f : frK M M') (H : isH M 1 S N) : isH M' 1 S N := H.fr (fun c hc => f c (by omega) (fun z => by have := scr_lt z; omega))
theorem frK.L {M M' : IM} {lv : Value} {A : Fn4} (f : frK M M') (L : Lw M lv A) : Lw M' lv A := L.fr (fun c h1 h2 h3 => f c (by omega) h3)
theorem frN.ofK {M M' : IM} (f : frK M M') : frN M M' := fun c h1 h2 => f c (fun e => h1 (Or.inl e)) (fun e => h1 (Or.inr (Or.inr (Or.inl e))))
theorem Cp.K {M M' : IM} {N T : Nat} (C : Cp M N T) (f : frK M M') : Cp M' N T := C.jk (frN.ofK f) (fun c hc => f c (by unfold hk at hc; omega) (fun z => by have := scr_lt z; unfold hk at hc; omega))
/-- the reference thinks -/
def frT (M M' : IM) : Prop := ∀ c, c ≠ 122 → c ≠ 133 → c ≠ 135 → c ≠ 136 → M' c = M c
theorem frT.rf {M : IM} : frT M M := fun _ _ _ _ _ => rfl
theorem frT.tr {M M1 M2 : IM} (a : frT M M1) (b : frT M1 M2) : frT M M2 := fun c h1 h2 h3 h4 => (b c h1 h2 h3 h4).trans (a c h1 h2 h3 h4)
theorem frT.ofM {M M' : IM} (h : frM M M') : frT M M' := fun c h1 _ h3 h4 => h c h1 h3 h4
theorem frN.ofT {M M' : IM} (f : frT M M') : frN M M' := fun c h1 h2 => f c (fun e => h2 (Or.inr (Or.inr e))) (fun e => h1 (by subst e; exact Or.inr (Or.inr (Or.inr (Or.inr (Or.inl rfl)))))) (fun e => h1 (by subst e; exact Or.inr (Or.inr (Or.inr (Or.inr (Or.inr (Or.inl rfl))))))) (fun e => h1 (by subst e; exact Or.inr (Or.inr (Or.inr (Or.inr (Or.inr (Or.inr (Or.inl rfl))))))))
theorem Cp.T {M M' : IM} {N T : Nat} (C : Cp M N T) (f : frT M M') (e : M' 122 = M 122) : Cp M' N T := C.jk (frN.ofT f) (fun c hc => by
  unfold hk at hc
  by_cases z : c = 122
  · rw [z]; exact e
  · exact f c z (by omega) (by omega) (by omega))
section K5
variable {d : Nat} {M I : IM} {N T : Nat} {Q : Po} {S : Nat → Int32} {A : Fn4} {lv : Value}
theorem k13 {a b : Nat} (ha : aShp a = 0) (hb : aShp b = 0) (hne : b ≠ a) : E (d, 13, 0, [.ref a, .ref b], [], I) Q ↔ Q .null (up (up (up (up (up I a 0 (I b 0)) a 1 (I b 1)) a 2 (I b 2)) a 3 (I b 3)) a 4 (I b 4)) := by
  rw [b13_0 hb ha]
  simp only [up_c hne]
theorem cp5_at {a j : Nat} {v : Nat → Int32} (hj : j < 5) : (up (up (up (up (up I a 0 (v 0)) a 1 (v 1)) a 2 (v 2)) a 3 (v 3)) a 4 (v 4)) a j = v j := by
  have : j = 0 ∨ j = 1 ∨ j = 2 ∨ j = 3 ∨ j = 4 := by omega
  rcases this with rfl | rfl | rfl | rfl | rfl
  · rw [up_k (by decide), up_k (by decide), up_k (by decide), up_k (by decide), up_s]
  · rw [up_k (by decide), up_k (by decide), up_k (by decide), up_s]
  · rw [up_k (by decide), up_k (by decide), up_s]
  · rw [up_k (by decide), up_s]
  · rw [up_s]
/-- nothing but a copied house has changed -/
def frC (h : Nat) (M M' : IM) : Prop := ∀ c, c ≠ h → c ≠ h + 2 → ¬ (h + 3 ≤ c ∧ c < h + 13) → M' c = M c
theorem hs_ne {h g p q : Nat} (hh : isHs h) (hg : isHs g) (hne : h ≠ g) (hp : p < 10) (hq : q < 10) : h + 3 + p ≠ g ∧ h + 3 + p ≠ g + 2 ∧ h + 3 + p ≠ g + 3 + q ∧ h + 2 ≠ g ∧ h + 2 ≠ g + 3 + q ∧ h ≠ g + 2 ∧ h ≠ g + 3 + q := by
  rcases hh with e | e | e <;> rcases hg with f | f | f <;> omega
theorem k19 {h g : Nat} (hh : isHs h) (hg : isHs g) (hne : h ≠ g) (H : isH I g S N) {x : Value} : ∃ I', Rn (d + 1, 19, 0, [.ref h, .ref g, x], [], I) .null I' ∧ isH I' h S N ∧ (∀ k, k < 3 → I' (h + 2) k = I (g + 2) k) ∧ frC h I I' := by
  have hN := H.2.1
  have loop : ∀ (k p : Nat) (I1 : IM), p + k = N → frC h I I1 → (∀ q, q < p → ∀ j, j < 5 → I1 (h + 3 + q) j = S (10 + 5 * q + j)) →
      ∃ I2, (∀ Q : Po, E (d + 1, 19, 2, [.ref h, .ref g, .int (nI p)], [], I1) Q ↔ E (d + 1, 19, 31, [.ref h, .ref g, .int (nI N)], [], I2) Q) ∧ frC h I I2 ∧ ∀ q, q < N → ∀ j, j < 5 → I2 (h + 3 + q) j = S (10 + 5 * q + j) := by
    intro k
    induction k with
    | zero =>
      intro p I1 hp f1 f2
      have : p = N := by omega
      subst this
      refine ⟨I1, fun Q => ?_, f1, f2⟩
      obtain ⟨z1, z2, z3, z4, z5, z6, z7⟩ := hs_ne (p := 0) (q := 0) hg hh (Ne.symm hne) (by decide) (by decide)
      rw [b19_2 (hs0 hg), f1 g (Ne.symm hne) z6 (fun z => by rcases hh with e | e | e <;> rcases hg with f | f | f <;> omega), H.ppl, if_neg (nI_nlt (Nat.le_refl _) (by omega))]
    | succ k ih =>
      intro p I1 hp f1 f2
      obtain ⟨y1, y2, y3, y4, y5, y6, y7⟩ := hs_ne (p := p) (q := p) hg hh (Ne.symm hne) (by omega) (by omega)
      have eg : I1 g = I g := f1 g (Ne.symm hne) y6 (fun z => by rcases hh with e | e | e <;> rcases hg with f | f | f <;> omega)
      have ep : I1 (g + 3 + p) = I (g + 3 + p) := f1 _ y1 y2 (fun z => by rcases hh with e | e | e <;> rcases hg with f | f | f <;> omega)
      have go : ∀ I3 : IM, I3 = up (up (up (up (up I1 (h + 3 + p) 0 (I1 (g + 3 + p) 0)) (h + 3 + p) 1 (I1 (g + 3 + p) 1)) (h + 3 + p) 2 (I1 (g + 3 + p) 2)) (h + 3 + p) 3 (I1 (g + 3 + p) 3)) (h + 3 + p) 4 (I1 (g + 3 + p) 4) → ∃ I2, (∀ Q : Po, E (d + 1, 19, 2, [.ref h, .ref g, .int (nI p)], [], I1) Q ↔ E (d + 1, 19, 31, [.ref h, .ref g, .int (nI N)], [], I2) Q) ∧ frC h I I2 ∧ ∀ q, q < N → ∀ j, j < 5 → I2 (h + 3 + q) j = S (10 + 5 * q + j) := by
        intro I3 e3
        obtain ⟨I2, r1, r2, r3⟩ := ih (p + 1) I3 (by omega) (fun c h1 h2 h3 => by rw [e3, up_c (by omega), up_c (by omega), up_c (by omega), up_c (by omega), up_c (by omega)]; exact f1 c h1 h2 h3) (fun q hq j hj => by
          by_cases hz : q = p
          · subst hz
            rw [e3, cp5_at (v := I1 (g + 3 + q)) hj, ep]
            exact H.g (by omega) hj
          · rw [e3, up_c (by omega), up_c (by omega), up_c (by omega), up_c (by omega), up_c (by omega)]
            exact f2 q (by omega) j hj)
        refine ⟨I2, fun Q => ?_, r2, r3⟩
        rw [b19_2 (hs0 hg), eg, H.ppl, if_pos (nI_lt (by omega) (by omega)), b19_10 (hs0 hh) (hs1 hh) (hs0 hg) (hs1 hg) (hs2 hh (by omega)), and_iff_right (hs4 hh (by omega)), and_iff_right (hs4 hg (by omega)), hse hh (by omega), hse hg (by omega)]
        rw [k13 (hsp hh (by omega)) (hsp hg (by omega)) y3, b19_25, nI_1, ← e3]
        exact r1 Q
      exact go _ rfl
  obtain ⟨I2, r1, r2, r3⟩ := loop N 0 I (by omega) (fun _ _ _ _ => rfl) (fun q hq => by omega)
  obtain ⟨y1, y2, y3, y4, y5, y6, y7⟩ := hs_ne (p := 0) (q := 0) hg hh (Ne.symm hne) (by decide) (by decide)
  have ng : ¬ (h + 3 ≤ g ∧ g < h + 13) := by intro z; rcases hh with e | e | e <;> rcases hg with f | f | f <;> omega
  have ng2 : ¬ (h + 3 ≤ g + 2 ∧ g + 2 < h + 13) := by intro z; rcases hh with e | e | e <;> rcases hg with f | f | f <;> omega
  have ng3 : g + 2 ≠ h := by rcases hh with e | e | e <;> rcases hg with f | f | f <;> omega
  have ng4 : g + 2 ≠ h + 2 := by omega
  have e2 : I2 g = I g := r2 g (Ne.symm hne) y6 ng
  have ec : I2 (g + 2) = I (g + 2) := r2 _ ng3 ng4 ng2
  generalize hI3 : up (up (up I2 (h + 2) 0 (I (g + 2) 0)) (h + 2) 1 (I (g + 2) 1)) (h + 2) 2 (I (g + 2) 2) = I3
  have p3 : ∀ Q : Po, E (d + 1, 19, 0, [.ref h, .ref g, x], [], I) Q ↔ E (d + 1, 19, 56, [.ref h, .ref g, .int 3], [], I3) Q := by
    intro Q
    have h1 := r1 Q
    rw [nI_0] at h1
    rw [b19_0]
    refine h1.trans ?_
    rw [b19_31, b19_33, if_pos (by decide), b19_38 (hs0 hh) (hs0 hg) (hsc20 hg) (hsc20 hh), hsc3 hg, hsc3 hh, hsc hh, hsc hg, and_iff_right (show vp_in 0 3 from vp_in_nI (n := 0) (by decide) (by decide)), and_iff_right (show vp_in 0 3 from vp_in_nI (n := 0) (by decide) (by decide)), ec, b19_33, if_pos (by decide), b19_38 (hs0 hh) (hs0 hg) (hsc20 hg) (hsc20 hh), hsc3 hg, hsc3 hh, hsc hh, hsc hg, and_iff_right (show vp_in (0 + 1) 3 from vp_in_nI (n := 1) (by decide) (by decide)), and_iff_right (show vp_in (0 + 1) 3 from vp_in_nI (n := 1) (by decide) (by decide)), up_c ng4, ec, b19_33, if_pos (by decide), b19_38 (hs0 hh) (hs0 hg) (hsc20 hg) (hsc20 hh), hsc3 hg, hsc3 hh, hsc hh, hsc hg, and_iff_right (show vp_in (0 + 1 + 1) 3 from vp_in_nI (n := 2) (by decide) (by decide)), and_iff_right (show vp_in (0 + 1 + 1) 3 from vp_in_nI (n := 2) (by decide) (by decide)), up_c ng4, up_c ng4, ec, b19_33, if_neg (by decide), ← hI3]
    exact Iff.rfl
  have e3 : I3 g = I g := by rw [← hI3, up_c y6, up_c y6, up_c y6]; exact e2
  have f3 : ∀ q, q < N → ∀ j, j < 5 → I3 (h + 3 + q) j = S (10 + 5 * q + j) := fun q hq j hj => by
    rw [← hI3, up_c (by omega), up_c (by omega), up_c (by omega)]; exact r3 q hq j hj
  have c3 : ∀ k, k < 3 → I3 (h + 2) k = I (g + 2) k := fun k hk => by
    have : k = 0 ∨ k = 1 ∨ k = 2 := by omega
    rw [← hI3]
    rcases this with rfl | rfl | rfl
    · rw [up_k (by decide), up_k (by decide), up_s]
    · rw [up_k (by decide), up_s]
    · rw [up_s]
  have fr3 : frC h I I3 := fun c h1 h2 h3 => by rw [← hI3, up_c h2, up_c h2, up_c h2]; exact r2 c h1 h2 h3
  generalize hI4 : up (up (up (up (up (up (up (up (up (up I3 h 2 (I g 2)) h 3 (I g 3)) h 4 (I g 4)) h 5 (I g 5)) h 6 (I g 6)) h 7 (I g 7)) h 8 (I g 8)) h 9 (I g 9)) h 10 (I g 10)) h 11 (I g 11) = I4
  refine ⟨I4, fun Q => ?_, ⟨H.1, hN, fun i hi => ?_, fun q hq j hj => ?_⟩, fun k hk => ?_, fun c h1 h2 h3 => ?_⟩
  · rw [p3 Q, b19_56 (hs0 hg) (hs0 hh)]
    simp only [up_c (Ne.symm hne), e3, hI4]
  · have hi' : i = 0 ∨ i = 1 ∨ i = 2 ∨ i = 3 ∨ i = 4 ∨ i = 5 ∨ i = 6 ∨ i = 7 ∨ i = 8 ∨ i = 9 := by omega
    rw [← H.f hi, ← hI4]
    rcases hi' with rfl | rfl | rfl | rfl | rfl | rfl | rfl | rfl | rfl | rfl <;> simp (decide := true) only [hSl, up_s, up_k, ne_eq, not_false_eq_true]
  · rw [← hI4, up_c (by omega), up_c (by omega), up_c (by omega), up_c (by omega), up_c (by omega), up_c (by omega), up_c (by omega), up_c (by omega), up_c (by omega), up_c (by omega)]
    exact f3 q hq j hj
  · rw [← hI4, up_c (by omega), up_c (by omega), up_c (by omega), up_c (by omega), up_c (by omega), up_c (by omega), up_c (by omega), up_c (by omega), up_c (by omega), up_c (by omega)]
    exact c3 k hk
  · rw [← hI4, up_c h1, up_c h1, up_c h1, up_c h1, up_c h1, up_c h1, up_c h1, up_c h1, up_c h1, up_c h1]
    exact fr3 c h1 h2 h3
theorem think (H : isH I 1 S N) {x : Value} : ∃ I', Rn (d + 1, 19, 0, [.ref 14, .ref 1, x], [], I) .null I' ∧ isH I' 14 S N ∧ frK I I' := by
  obtain ⟨I', r1, r2, -, r3⟩ := k19 (d := d) (h := 14) (g := 1) (x := x) (Or.inr (Or.inl rfl)) (Or.inl rfl) (by decide) H
  exact ⟨I', r1, r2, fun c h1 _ => r3 c (by omega) (by omega) (by omega)⟩
theorem k158 {x : Value} : ∃ I', Rn (d, 158, 0, [.ref 121, x], [], I) .null I' ∧ (∀ i, i < 60 → I' 133 i = I 122 i) ∧ ∀ c, c ≠ 133 → I' c = I c := by
  have loop : ∀ (k p : Nat) (I1 : IM), p + k = 60 → (∀ i, i < p → I1 133 i = I 122 i) → (∀ c, c ≠ 133 → I1 c = I c) → ∃ I', Rn (d, 158, 2, [.ref 121, .int (nI p)], [], I1) .null I' ∧ (∀ i, i < 60 → I' 133 i = I 122 i) ∧ ∀ c, c ≠ 133 → I' c = I c := by
    intro k
    induction k with
    | zero =>
      intro p I1 hp f1 f2
      refine ⟨I1, fun Q => ?_, fun i hi => f1 i (by omega), f2⟩
      rw [b158_2, if_neg (show ¬ nI p < 60 from (show ¬ nI p < nI 60 from nI_nlt (by omega) (by omega))), b158_26]
    | succ k ih =>
      intro p I1 hp f1 f2
      obtain ⟨I', r1, r2, r3⟩ := ih (p + 1) (up I1 133 p (I1 122 p)) (by omega) (fun i hi => by
        by_cases hz : i = p
        · rw [hz, up_s, f2 122 (by decide)]
        · rw [up_k hz]; exact f1 i (by omega)) (fun c hc => by rw [up_c hc]; exact f2 c hc)
      refine ⟨I', fun Q => ?_, r2, r3⟩
      rw [b158_2, if_pos (show nI p < 60 from (show nI p < nI 60 from nI_lt (by omega) (by decide))), b158_8, and_iff_right (vp_in_nI (by omega) (by decide)), and_iff_right (vp_in_nI (by omega) (by decide)), nI_clamp (by omega), nI_1]
      exact r1 Q
  obtain ⟨I', r1, r2, r3⟩ := loop 60 0 I (by omega) (fun i hi => by omega) (fun _ _ => rfl)
  refine ⟨I', fun Q => ?_, r2, r3⟩
  rw [b158_0]
  exact r1 Q
theorem k159 {x : Value} {S : Nat → Int32} (h1 : ∀ i, i < 60 → I 133 i = S i) (h2 : ∀ i, 60 ≤ i → I 122 i = S i) : ∃ I', Rn (d, 159, 0, [.ref 121, x], [], I) .null I' ∧ I' 122 = S ∧ ∀ c, c ≠ 122 → I' c = I c := by
  have loop : ∀ (k p : Nat) (I1 : IM), p + k = 60 → (∀ i, i < p → I1 122 i = S i) → (∀ i, 60 ≤ i → I1 122 i = S i) → (∀ c, c ≠ 122 → I1 c = I c) → ∃ I', Rn (d, 159, 2, [.ref 121, .int (nI p)], [], I1) .null I' ∧ I' 122 = S ∧ ∀ c, c ≠ 122 → I' c = I c := by
    intro k
    induction k with
    | zero =>
      intro p I1 hp f1 f3 f2
      refine ⟨I1, fun Q => ?_, ?_, f2⟩
      · rw [b159_2, if_neg (show ¬ nI p < 60 from (show ¬ nI p < nI 60 from nI_nlt (by omega) (by omega))), b159_26]
      · funext i
        rcases Nat.lt_or_ge i 60 with z | z
        · exact f1 i (by omega)
        · exact f3 i z
    | succ k ih =>
      intro p I1 hp f1 f3 f2
      obtain ⟨I', r1, r2, r3⟩ := ih (p + 1) (up I1 122 p (I1 133 p)) (by omega) (fun i hi => by
        by_cases hz : i = p
        · rw [hz, up_s, f2 133 (by decide)]; exact h1 p (by omega)
        · rw [up_k hz]; exact f1 i (by omega)) (fun i hi => by rw [up_k (by omega)]; exact f3 i hi) (fun c hc => by rw [up_c hc]; exact f2 c hc)
      refine ⟨I', fun Q => ?_, r2, r3⟩
      rw [b159_2, if_pos (show nI p < 60 from (show nI p < nI 60 from nI_lt (by omega) (by decide))), b159_8, and_iff_right (vp_in_nI (by omega) (by decide)), and_iff_right (vp_in_nI (by omega) (by decide)), nI_clamp (by omega), nI_1]
      exact r1 Q
  obtain ⟨I', r1, r2, r3⟩ := loop 60 0 I (by omega) (fun i hi => by omega) h2 (fun _ _ => rfl)
  refine ⟨I', fun Q => ?_, r2, r3⟩
  rw [b159_0]
  exact r1 Q
theorem g15 {p : Nat} (hp : p < 10) : aRf 15 (Int32.toNatClampNeg (nI p)) = 17 + p := hse (h := 14) (Or.inr (Or.inl rfl)) hp
theorem s17 {p : Nat} (hp : p < 10) : aShp (17 + p) = 0 := hsp (h := 14) (Or.inr (Or.inl rfl)) hp
theorem is14 : isHs 14 := Or.inr (Or.inl rfl)
theorem is1 : isHs 1 := Or.inl rfl
/-- promise 14 -/
theorem m81 (C : Cp M N T) {a b : Int32} : Ok (d + 200) M 81 [.ref 0, .int a, .int b] 160 [.ref 121, .int a, .int b, UN] := by
  have hN := C.le
  by_cases h1 : 0 ≤ a ∧ a ≤ 100
  rotate_left
  · exact Ok.ret C (-1000000001) (fun Q => by rw [b81_0, k108, b81_7, ite_b01, if_neg h1, b81_27]) (fun Q => by rw [b160_0, k119_0_100, b160_9, ite_b01, if_neg h1, b160_31])
  have e4 : (4 : Int32) + nI N = nI (4 + N) := by rw [show (4 : Int32) = nI 4 by decide, nI_add]
  by_cases h2 : 0 ≤ b ∧ b ≤ 4 + nI N
  rotate_left
  · refine Ok.ret C (-1000000001) (fun Q => by rw [b81_0, k108, b81_7, ite_b01, if_pos h1, b81_10, k108, b81_24, C.n1, ite_b01, if_neg h2, b81_27]) (fun Q => ?_)
    rw [b160_0, k119_0_100, b160_9, ite_b01, if_pos h1, b160_12]
    by_cases h0 : b < 0
    · rw [if_pos h0, b160_31]
    · have h0' := Int32.not_lt.mp h0
      have h4 : 4 < b := by
        refine Int32.not_le.mp (fun z => h2 ⟨h0', Int32.le_trans z ?_⟩)
        rw [e4]
        exact (le_nI (a := 4) (by decide) (by omega)).mpr (by omega)
      have h5 : ¬ (0 ≤ b - 5 ∧ b - 5 ≤ nI N - 1) := fun z => by
        obtain ⟨k, hk, ek⟩ := (isP (by omega)).mp z
        have eb : b = nI (k + 5) := by
          rw [← nI_add, ← ek, show nI 5 = 5 by decide, Int32.sub_add_cancel]
        refine h2 ⟨h0', ?_⟩
        rw [eb, e4]
        exact (le_nI (by omega) (by omega)).mpr (by omega)
      rw [if_neg h0, b160_16, if_pos h4, b160_21, k128, b160_28, C.n2, ite_b01, if_neg h5, b160_31]
  obtain ⟨k, hk, rfl⟩ := wi0 (4 + N) (by omega) e4 h2
  obtain ⟨n, hn, rfl⟩ := wi0 100 (by decide) (by decide) h1
  have b0 : ¬ nI k < 0 := nI_pos (by omega)
  have e5 : 5 ≤ k → nI k - 5 = nI (k - 5) := fun z => nI_sub (b := 5) z
  have p2 : ∀ (I : IM) (Q : Po), I 122 0 = nI N → (E (d + 200, 160, 0, [.ref 121, .int (nI n), .int (nI k), UN], [], I) Q ↔ E (d + 200, 160, 34, [.ref 121, .int (nI n), .int (nI k), UN], [], I) Q) := fun I Q hI => by
    rw [b160_0, k119_0_100, b160_9, ite_b01, if_pos h1, b160_12, if_neg b0, b160_16]
    by_cases h5 : 4 < k
    · rw [if_pos (show (4 : Int32) < nI k from (show nI 4 < nI k from nI_lt h5 (by omega))), b160_21, k128, b160_28, hI, ite_b01, e5 h5, if_pos ((isP (by omega)).mpr ⟨k - 5, by omega, rfl⟩)]
    · rw [if_neg (show ¬ (4 : Int32) < nI k from (show ¬ nI 4 < nI k from nI_nlt (by omega) (by decide)))]
  -- the class
  obtain ⟨I1, a1, a2, a3⟩ := think (d := d + 198) (x := UN) C.h.H
  have C1 := C.K a3
  have r1 : I1 122 = M 122 := a3 122 (by omega) (fun z => by have := scr_lt z; omega)
  obtain ⟨lv, l1, l2⟩ := k115 (d := d + 198) (x := UN) C1 (k := 0) (v := 0) (by decide) (by decide)
  obtain ⟨M1, c1, c2, c3⟩ := k27 (d := d + 194) (ev := nI n) (x := UN) is14 a2 l2
  have hn' : (nI n).toNatClampNeg = n := nI_clamp (by omega)
  rw [hn', r1] at c2
  have fK : frK M M1 := a3.tr (frK.ofE c3)
  have e122 : M1 122 = M 122 := fK 122 (by omega) (fun z => by have := scr_lt z; omega)
  -- the reference
  obtain ⟨I2, d1, d2, d3⟩ := k158 (d := d + 199) (I := M1) (x := UN)
  have r2 : I2 122 = M 122 := (d3 122 (by decide)).trans e122
  obtain ⟨I3, f1, f2, f3⟩ := k153 (d := d + 193) (I := I2) (N := N) (T := T) (ev := nI n) (x := UN) (by rw [r2]; exact C.h.B) (by rw [r2]; exact C.h.X)
  rw [hn', r2] at f2
  obtain ⟨M2, g1, g2, g3⟩ := k159 (d := d + 199) (I := I3) (x := UN) (S := M 122) (fun i hi => by rw [f3 133 (by decide) (by decide) (by decide), d2 i hi, e122]) (fun i hi => by rw [f2]; exact pass_hi hN (Or.inl hi) n)
  have fT : frT M1 M2 := fun c q1 q2 q3 q4 => by rw [g3 c q1, f3 c q1 q3 q4, d3 c q2]
  have C2 : Cp M2 N T := (C.K fK).T fT (by rw [g2, e122])
  have n3 : I3 122 0 = nI N := by rw [f2]; exact (bd_pass C.h.B n).1
  have fin : ∀ r : Int32, (∀ Q : Po, E (d + 200, 81, 58, [.ref 0, .int (nI n), .int (nI k)], [], M1) Q ↔ Q (.int r) M1) → (∀ Q : Po, E (d + 200, 160, 43, [.ref 121, .int (nI n), .int (nI k), UN], [], I3) Q ↔ E (d + 200, 160, 64, [.ref 121, .int (nI n), .int (nI k), UN], [.int r], I3) Q) → Ok (d + 200) M 81 [.ref 0, .int (nI n), .int (nI k)] 160 [.ref 121, .int (nI n), .int (nI k), UN] := by
    intro r q1 q2
    refine ⟨r, M1, M2, fun Q => ?_, fun Q => ?_, ⟨N, T, C2⟩, ((frN.ofK fK).tr (frN.ofT fT)).fz⟩
    · rw [b81_0, k108, b81_7, ite_b01, if_pos h1, b81_10, k108, b81_24, C.n1, ite_b01, if_pos h2, b81_30, a1, b81_41, l1, b81_55m l2.lv, c1, q1]
    · rw [p2 M1 Q (by rw [e122]; exact C.n2), b160_34, d1, b160_38, f1, q2, b160_64, g1, b160_69]
  by_cases h5 : k < 5
  · refine fin (sTot (sPass (mA (M 122) 0 T) N (M 122) n) N (nI k)) (fun Q => ?_) (fun Q => ?_)
    · rw [b81_58, if_pos (show nI k < 5 from (show nI k < nI 5 from nI_lt h5 (by decide))), b81_63, k30 is14 c2, b81_71, b81_88]
    · rw [b160_43, if_pos (show nI k < 5 from (show nI k < nI 5 from nI_lt h5 (by decide))), b160_48, k156 n3 hN, b160_53, f2]
  · have hk5 : k - 5 < N := by omega
    refine fin (sPass (mA (M 122) 0 T) N (M 122) n (10 + 5 * (k - 5) + 4)) (fun Q => ?_) (fun Q => ?_)
    · rw [b81_58, if_neg (show ¬ nI k < 5 from (show ¬ nI k < nI 5 from nI_nlt (by omega) (by omega))), b81_74 (by rw [e5 (by omega), g15 (by omega)]; exact s17 (by omega)), e5 (by omega), g15 (by omega), and_iff_right (vp10 (by omega)), b81_88, show M1 (17 + (k - 5)) 4 = _ from c2.g hk5 (by decide)]
    · rw [b160_43, if_neg (show ¬ nI k < 5 from (show ¬ nI k < nI 5 from nI_nlt (by omega) (by omega))), b160_56, e5 (by omega), k126_4 (by omega), f2]
/-- the first evening of these at which it is so -/
def sMt (f : Nat → Int32) (b : Int32) : Nat → Nat → Option Nat
  | 0, _ => none
  | k + 1, i => if f (i + 1) &&& b = b then some (i + 1) else sMt f b k (i + 1)
def encN (o : Option Nat) : Int32 := match o with
  | none => -1000000005
  | some q => nI q
theorem k82_loop {p q b : Int32} (C : CpH M N T) (L : Lw M lv A) : ∀ (k i : Nat) (I : IM), i + k = 200 → frK M I → isH I 14 (sPass A N S i) N →
    ∃ I', Rn (d + 6, 82, 57, [.ref 0, .int p, .int q, .int b, lv, .int (nI (i + 1))], [], I) (.int (encN (sMt (fun n => sPass A N S n 5) b k i))) I' ∧ frK M I' := by
  intro k
  induction k with
  | zero =>
    intro i I hi f H
    refine ⟨I, fun Q => ?_, f⟩
    rw [b82_57m L.lv, if_pos (show (200 : Int32) < nI (i + 1) from (show nI 200 < nI (i + 1) from nI_lt (by omega) (by omega))), b82_97m L.lv]
    exact Iff.rfl
  | succ k ih =>
    intro i I hi f H
    obtain ⟨I1, a1, a2, a3⟩ := k27 (d := d) (ev := 1) (x := UN) is14 H (f.L L)
    have e1 : Int32.toNatClampNeg 1 = 1 := by decide
    rw [e1] at a2
    have H1 : isH I1 14 (sPass A N S (i + 1)) N := a2
    have f1 := f.tr (frK.ofE a3)
    have e5 : I1 14 5 = sPass A N S (i + 1) 5 := H1.f (i := 5) (by decide)
    have st : ∀ Q : Po, E (d + 6, 82, 57, [.ref 0, .int p, .int q, .int b, lv, .int (nI (i + 1))], [], I) Q ↔ if sPass A N S (i + 1) 5 &&& b = b then Q (.int (nI (i + 1))) I1 else E (d + 6, 82, 57, [.ref 0, .int p, .int q, .int b, lv, .int (nI (i + 2))], [], I1) Q := fun Q => by
      rw [b82_57m L.lv, if_neg (show ¬ (200 : Int32) < nI (i + 1) from (show ¬ nI 200 < nI (i + 1) from nI_nlt (by omega) (by omega))), b82_65m L.lv, a1, b82_75m L.lv, e5, b82_88m L.lv, b82_91m L.lv, nI_1]
    by_cases hb : sPass A N S (i + 1) 5 &&& b = b
    · refine ⟨I1, fun Q => ?_, f1⟩
      rw [st Q, if_pos hb]
      unfold sMt
      rw [if_pos hb]
      exact Iff.rfl
    · obtain ⟨I', r1, r2⟩ := ih (i + 1) I1 (by omega) f1 H1
      refine ⟨I', fun Q => ?_, r2⟩
      rw [st Q, if_neg hb, r1 Q]
      have e : sMt (fun n => sPass A N S n 5) b (k + 1) i = sMt (fun n => sPass A N S n 5) b k (i + 1) := by
        show (if _ then _ else _) = _
        rw [if_neg hb]
      rw [e]
theorem k161_loop {p q b : Int32} (B : bd S N) (X : wfX S T) : ∀ (k i : Nat) (I : IM), i + k = 200 → I 122 = sPass (mA S 0 T) N S i →
    ∃ (I' : IM) (l4 l5 : Int32), (∀ Q : Po, E (d + 6, 161, 42, [.ref 121, .int p, .int q, .int b, .int (nI i), .int 0], [], I) Q ↔ E (d + 6, 161, 84, [.ref 121, .int p, .int q, .int b, .int l4, .int l5], [], I') Q) ∧ (∀ i, 60 ≤ i → I' 122 i = S i) ∧ frM I I' ∧ (if l5 = 0 then -1000000005 else l4) = encN (sMt (fun n => sPass (mA S 0 T) N S n 5) b k i) := by
  have hN := B.2.1
  intro k
  induction k with
  | zero =>
    intro i I hi r
    refine ⟨I, nI i, 0, fun Q => ?_, fun j hj => by rw [r]; exact pass_hi hN (Or.inl hj) i, frM.rf, rfl⟩
    rw [b161_42, if_neg (show ¬ nI i < 200 from (show ¬ nI i < nI 200 from nI_nlt (by omega) (by omega)))]
  | succ k ih =>
    intro i I hi r
    have cg : ∀ j, 60 ≤ j → I 122 j = S j := fun j hj => by rw [r]; exact pass_hi hN (Or.inl hj) i
    have B1 : bd (I 122) N := by rw [r]; exact bd_pass B i
    have X1 : wfX (I 122) T := wfX_cg cg (by rw [r]; exact pass_hi hN (by omega) i) X
    obtain ⟨I1, q1, q2, q3⟩ := k152 (d := d) (a := UN) (b := UN) (c := UN) (e := UN) B1 X1
    rw [mA_cg cg, r] at q2
    have q2' : I1 122 = sPass (mA S 0 T) N S (i + 1) := q2
    have st : ∀ Q : Po, E (d + 6, 161, 42, [.ref 121, .int p, .int q, .int b, .int (nI i), .int 0], [], I) Q ↔ if sPass (mA S 0 T) N S (i + 1) 5 &&& b = b then E (d + 6, 161, 42, [.ref 121, .int p, .int q, .int b, .int (nI (i + 1)), .int 1], [], I1) Q else E (d + 6, 161, 42, [.ref 121, .int p, .int q, .int b, .int (nI (i + 1)), .int 0], [], I1) Q := fun Q => by
      rw [b161_42, if_pos (show nI i < 200 from (show nI i < nI 200 from nI_lt (by omega) (by decide))), b161_50, if_pos rfl, b161_55, q1, b161_59, q2', b161_71, b161_75, b161_76, b161_76, nI_1]
    by_cases hb : sPass (mA S 0 T) N S (i + 1) 5 &&& b = b
    · refine ⟨I1, nI (i + 1), 1, fun Q => ?_, fun j hj => by rw [q2']; exact pass_hi hN (Or.inl hj) (i + 1), q3, ?_⟩
      · rw [st Q, if_pos hb, b161_42, b161_50, if_neg (show ¬ (1 : Int32) = 0 by decide), ite_self]
      · unfold sMt
        rw [if_pos hb]
        rfl
    · obtain ⟨I', l4, l5, r1, r2, r3, r4⟩ := ih (i + 1) I1 (by omega) q2'
      refine ⟨I', l4, l5, fun Q => ?_, r2, q3.tr r3, ?_⟩
      · rw [st Q, if_neg hb, r1 Q]
      · rw [r4]
        have e : sMt (fun n => sPass (mA S 0 T) N S n 5) b (k + 1) i = sMt (fun n => sPass (mA S 0 T) N S n 5) b k (i + 1) := by
          show (if _ then _ else _) = _
          rw [if_neg hb]
        rw [e]
/-- promise 15 -/
theorem m82 (C : Cp M N T) {a b : Int32} : Ok (d + 200) M 82 [.ref 0, .int a, .int b, UN, UN, UN] 161 [.ref 121, .int a, .int b, UN, UN, UN] := by
  have hN := C.le
  by_cases h1 : 0 ≤ a ∧ a ≤ nI N - 1
  rotate_left
  · exact Ok.ret C (-1000000001) (fun Q => by rw [b82_0, k113, b82_5, C.n1, ite_b01, if_neg h1, b82_21]) (fun Q => by rw [b161_0, k128, b161_5, C.n2, ite_b01, if_neg h1, b161_21])
  by_cases h2 : 0 ≤ b ∧ b ≤ nI N - 1
  rotate_left
  · exact Ok.ret C (-1000000001) (fun Q => by rw [b82_0, k113, b82_5, C.n1, ite_b01, if_pos h1, b82_8, k113, b82_13, C.n1, ite_b01, if_neg h2, b82_21]) (fun Q => by rw [b161_0, k128, b161_5, C.n2, ite_b01, if_pos h1, b161_8, k128, b161_13, C.n2, ite_b01, if_neg h2, b161_21])
  by_cases h3 : a = b
  · exact Ok.ret C (-1000000001) (fun Q => by rw [b82_0, k113, b82_5, C.n1, ite_b01, if_pos h1, b82_8, k113, b82_13, C.n1, ite_b01, if_pos h2, b82_16, if_pos h3, b82_21]) (fun Q => by rw [b161_0, k128, b161_5, C.n2, ite_b01, if_pos h1, b161_8, k128, b161_13, C.n2, ite_b01, if_pos h2, b161_16, if_pos h3, b161_21])
  obtain ⟨lv, l1, l2⟩ := k115 (d := d + 198) (x := UN) C (k := 0) (v := 0) (by decide) (by decide)
  obtain ⟨I1, a1, a2, a3⟩ := think (d := d + 198) (x := UN) C.h.H
  obtain ⟨M1, c1, c2⟩ := k82_loop (d := d + 194) (S := M 122) (p := a) (q := b) (b := (1 <<< (a &&& 31)) ||| (1 <<< (b &&& 31))) C.h l2 200 0 I1 (by omega) a3 a2
  have e122 : M1 122 = M 122 := c2 122 (by omega) (fun z => by have := scr_lt z; omega)
  obtain ⟨I2, d1, d2, d3⟩ := k158 (d := d + 199) (I := M1) (x := UN)
  have r2 : I2 122 = M 122 := (d3 122 (by decide)).trans e122
  obtain ⟨I3, l4, l5, f1, f2, f3, f4⟩ := k161_loop (d := d + 194) (S := M 122) (N := N) (T := T) (p := a) (q := b) (b := (1 <<< (a &&& 31)) ||| (1 <<< (b &&& 31))) C.h.B C.h.X 200 0 I2 (by omega) r2
  obtain ⟨M2, g1, g2, g3⟩ := k159 (d := d + 199) (I := I3) (x := UN) (S := M 122) (fun i hi => by rw [f3 133 (by decide) (by decide) (by decide), d2 i hi, e122]) f2
  have fT : frT M1 M2 := fun c q1 q2 q3 q4 => by rw [g3 c q1, f3 c q1 q3 q4, d3 c q2]
  refine ⟨encN (sMt (fun n => sPass (mA (M 122) 0 T) N (M 122) n 5) ((1 <<< (a &&& 31)) ||| (1 <<< (b &&& 31))) 200 0), M1, M2, fun Q => ?_, fun Q => ?_, ⟨N, T, (C.K c2).T fT (by rw [g2, e122])⟩, ((frN.ofK c2).tr (frN.ofT fT)).fz⟩
  · rw [b82_0, k113, b82_5, C.n1, ite_b01, if_pos h1, b82_8, k113, b82_13, C.n1, ite_b01, if_pos h2, b82_16, if_neg h3, b82_24, l1, b82_41m l2.lv, a1, b82_54m l2.lv]
    exact c1 Q
  · rw [b161_0, k128, b161_5, e122, C.n2, ite_b01, if_pos h1, b161_8, k128, b161_13, e122, C.n2, ite_b01, if_pos h2, b161_16, if_neg h3, b161_24, d1, b161_28]
    refine (f1 Q).trans ?_
    rw [b161_84, g1, b161_88, b161_93, b161_98, b161_100, b161_100, ← f4, QI (Q := Q)]
end K5
