/-! deal, fewest, sits, evenings, house -/
theorem shl10 : ∀ q, q ≤ 10 → (1 : Int32) <<< (nI q &&& 31) = nI (2 ^ q) := by decide +kernel
theorem two_le : ∀ q, q ≤ 10 → 1 ≤ 2 ^ q ∧ 2 ^ q ≤ 1024 := by decide +kernel
theorem bit11 : ∀ n, n < 1024 → jBit (nI n) < 11 := by decide +kernel
theorem bitI : ∀ n, n < 1024 → ¬ jBit (nI n) < 0 := by decide +kernel
theorem dine_at {S : Nat → Int32} {N : Nat} {set : Int32} (hN : N ≤ 10) {i : Nat} (hi : 60 ≤ i ∨ i = 0 ∨ i = 1 ∨ i = 2 ∨ i = 3 ∨ i = 4 ∨ i = 9) : sDine S N set i = S i := by
  unfold sDine
  rw [upd_n (by omega), upd_n (by omega)]
  rcases Nat.lt_or_ge i 10 with z | z
  · rw [sAft_lo z]; exact sCnt_at (by omega) (by omega)
  · rw [sAft_hi N (by omega)]; exact sCnt_at (by omega) (by omega)
theorem fog_at {S : Nat → Int32} {N : Nat} {i : Nat} (hi : i < 9) : sFog S N i = S i := by
  unfold sFog
  by_cases h : jRem (jUshr (zN (S 9)) 8) 100 < S 4 ∧ 0 < N
  · rw [if_pos h, upd_n (by omega), upd_n (by omega)]
  · rw [if_neg h, upd_n (by omega)]
theorem eve_2 {A : Fn4} {S : Nat → Int32} {N : Nat} (hN : N ≤ 10) : sEve A N S 2 = S 2 + 1 := by
  unfold sEve
  rw [upd_s, fog_at (by decide), dine_at hN (by omega), upd_n (by decide)]
theorem pass_2 {A : Fn4} {S : Nat → Int32} {N : Nat} (hN : N ≤ 10) : ∀ n, sPass A N S n 2 = S 2 + nI n := by
  intro n
  induction n with
  | zero => rw [nI_0, Int32.add_zero]; rfl
  | succ n ih => show sEve A N _ 2 = _; rw [eve_2 hN, ih, Int32.add_assoc, nI_1]
/-- what the guests have of a thing, together -/
def sSum (S : Nat → Int32) (j : Nat) : Nat → Int32
  | 0 => 0
  | p + 1 => sSum S j p + S (10 + 5 * p + j)
def sTot (S : Nat → Int32) (N : Nat) (w : Int32) : Int32 := if w = 0 then S 6 else if w = 1 then S 7 else if w = 2 then S 8 else if w = 3 then S 5 else sSum S 1 N
/-- the fewest that bring so much, of the sets below n -/
def sFw (S : Nat → Int32) (N : Nat) (v : Int32) : Nat → Option Nat
  | 0 => none
  | n + 1 => match sFw S N v n with
    | none => if sBr S (nI n) N < v then none else some n
    | some q => if jBit (nI n) < jBit (nI q) then (if sBr S (nI n) N < v then some q else some n) else some q
theorem sFw_lt {S : Nat → Int32} {N : Nat} {v : Int32} : ∀ (n q : Nat), sFw S N v n = some q → q < n := by
  intro n
  induction n with
  | zero => intro q h; cases h
  | succ n ih =>
    intro q h
    unfold sFw at h
    cases ho : sFw S N v n with
    | none =>
      rw [ho] at h
      dsimp only at h
      by_cases h1 : sBr S (nI n) N < v
      · rw [if_pos h1] at h; cases h
      · rw [if_neg h1] at h; cases h; omega
    | some q' =>
      rw [ho] at h
      dsimp only at h
      have := ih q' ho
      by_cases h0 : jBit (nI n) < jBit (nI q')
      · rw [if_pos h0] at h
        by_cases h1 : sBr S (nI n) N < v
        · rw [if_pos h1] at h; cases h; omega
        · rw [if_neg h1] at h; cases h; omega
      · rw [if_neg h0] at h; cases h; omega
/-- one is dealt -/
def sDl1 (S : Nat → Int32) (N : Nat) : Nat → Int32 := sJn (upd S 9 (zIt (S 9) 4)) N (jRem (jUshr (zIt (S 9) 1) 8) 6) (jRem (jUshr (zIt (S 9) 2) 8) 101) (jRem (jUshr (zIt (S 9) 3) 8) 100) (jRem (jUshr (zIt (S 9) 4) 8) 100)
def sDl (S : Nat → Int32) (N : Nat) : Nat → (Nat → Int32)
  | 0 => S
  | k + 1 => sDl1 (sDl S N k) (N + k)
theorem dvk (z : Int32) {n : Nat} {w : Int32} (hw : w = nI (n + 1)) (hn : n < 1000) : ∃ k, k ≤ n ∧ jRem (jUshr z 8) w = nI k := by
  subst hw
  obtain ⟨h1, h2⟩ := dv_eq z
  have := Nat.mod_lt (dvN z) (show 0 < n + 1 by omega)
  refine ⟨dvN z % (n + 1), by omega, ?_⟩
  rw [h1]
  exact jRem_nI (by omega) (by omega) (by omega)
theorem bd_dl1 {S : Nat → Int32} {N : Nat} (B : bd S N) (hN : N < 10) : bd (sDl1 S N) (N + 1) :=
  bd_jn (bd_z B (by omega)) hN (dvk _ (n := 5) (by decide) (by decide)) (dvk _ (n := 100) (by decide) (by decide)) (dvk _ (n := 99) (by decide) (by decide)) (dvk _ (n := 99) (by decide) (by decide))
theorem bd_dl {S : Nat → Int32} {N : Nat} (B : bd S N) : ∀ k, N + k ≤ 10 → bd (sDl S N k) (N + k) := by
  intro k
  induction k with
  | zero => intro _; exact B
  | succ k ih => intro h; exact bd_dl1 (ih (by omega)) (by omega)
theorem dl_hi {S : Nat → Int32} {N : Nat} {i : Nat} (hi : 60 ≤ i ∨ (0 < i ∧ i < 9)) : ∀ k, N + k ≤ 10 → sDl S N k i = S i := by
  intro k
  induction k with
  | zero => intro _; rfl
  | succ k ih => intro h; show sDl1 _ _ i = _; unfold sDl1; rw [sJn_hi (by omega) (by omega), upd_n (by omega)]; exact ih (by omega)
section K4
variable {d : Nat} {M I : IM} {N T : Nat} {Q : Po} {h : Nat} {S : Nat → Int32}
theorem Cp.both (C : Cp M N T) {M1 M2 : IM} {N' : Nat} (H : isH M1 1 S N') (f1 : frE 1 M M1) (e : M2 122 = S) (f2 : frM M1 M2) (B : bd S N') (hi : ∀ i, 60 ≤ i → S i = M 122 i) (h1 : S 1 = M 122 1) (ev : ∃ k, k ≤ 9999 ∧ S 2 = nI k) : Cp M2 N' T := by
  subst e
  refine C.st ((frN.ofE f1).tr (frN.ofM f2)) (H.fr (fun c hc => f2 c (by omega) (by omega) (by omega))) B hi h1 ev
theorem k31 (hh : isHs h) (H : isH I h S N) {x y : Value} : E (d, 31, 0, [.ref h, x, y], [], I) Q ↔ Q (.int (sSum S 1 N)) I := by
  have hN := H.2.1
  have loop : ∀ (k p : Nat), p + k = N → (E (d, 31, 4, [.ref h, .int (sSum S 1 p), .int (nI p)], [], I) Q ↔ Q (.int (sSum S 1 N)) I) := by
    intro k
    induction k with
    | zero =>
      intro p hp
      have : p = N := by omega
      subst this
      rw [b31_4 (hs0 hh), H.ppl, if_neg (nI_nlt (Nat.le_refl _) (by omega)), b31_30]
    | succ k ih =>
      intro p hp
      rw [b31_4 (hs0 hh), H.ppl, if_pos (nI_lt (by omega) (by omega)), b31_12 (hs0 hh) (hs1 hh) (hs2 hh (by omega)), and_iff_right (hs4 hh (by omega)), hse hh (by omega), H.g (by omega) (by decide), nI_1]
      exact ih (p + 1) (by omega)
  rw [b31_0]
  exact loop N 0 (by omega)
theorem k32 (hh : isHs h) (H : isH I h S N) {x y : Value} : E (d, 32, 0, [.ref h, x, y], [], I) Q ↔ Q (.int (sSum S 3 N)) I := by
  have hN := H.2.1
  have loop : ∀ (k p : Nat), p + k = N → (E (d, 32, 4, [.ref h, .int (sSum S 3 p), .int (nI p)], [], I) Q ↔ Q (.int (sSum S 3 N)) I) := by
    intro k
    induction k with
    | zero =>
      intro p hp
      have : p = N := by omega
      subst this
      rw [b32_4 (hs0 hh), H.ppl, if_neg (nI_nlt (Nat.le_refl _) (by omega)), b32_30]
    | succ k ih =>
      intro p hp
      rw [b32_4 (hs0 hh), H.ppl, if_pos (nI_lt (by omega) (by omega)), b32_12 (hs0 hh) (hs1 hh) (hs2 hh (by omega)), and_iff_right (hs4 hh (by omega)), hse hh (by omega), H.g (by omega) (by decide), nI_1]
      exact ih (p + 1) (by omega)
  rw [b32_0]
  exact loop N 0 (by omega)
theorem k155 {j : Nat} {jv : Int32} (hj : j < 5) (e : jv = nI j) (h0 : I 122 0 = nI N) (hN : N ≤ 10) {x y : Value} : E (d + 1, 155, 0, [.ref 121, .int jv, x, y], [], I) Q ↔ Q (.int (sSum (I 122) j N)) I := by
  have loop : ∀ (k p : Nat), p + k = N → (E (d + 1, 155, 4, [.ref 121, .int jv, .int (sSum (I 122) j p), .int (nI p)], [], I) Q ↔ Q (.int (sSum (I 122) j N)) I) := by
    intro k
    induction k with
    | zero =>
      intro p hp
      have : p = N := by omega
      subst this
      rw [b155_4, h0, if_neg (nI_nlt (Nat.le_refl _) (by omega)), b155_29]
    | succ k ih =>
      intro p hp
      rw [b155_4, h0, if_pos (nI_lt (by omega) (by omega)), b155_14, k126 (by omega) hj e, b155_21, nI_1]
      exact ih (p + 1) (by omega)
  rw [b155_0]
  exact loop N 0 (by omega)
theorem k30 (hh : isHs h) (H : isH I h S N) {w : Int32} : E (d + 1, 30, 0, [.ref h, .int w], [], I) Q ↔ Q (.int (sTot S N w)) I := by
  rw [b30_0, b30_32 (hs0 hh), b30_37 (hs0 hh), b30_42 (hs0 hh), b30_47 (hs0 hh), b30_52 (hs0 hh), k31 hh H, b30_56, show I h 6 = S 6 from H.f (i := 6) (by decide), show I h 7 = S 7 from H.f (i := 7) (by decide), show I h 8 = S 8 from H.f (i := 8) (by decide), show I h 5 = S 5 from H.f (i := 5) (by decide)]
  unfold sTot
  simp only [QI]
theorem k156 (h0 : I 122 0 = nI N) (hN : N ≤ 10) {w : Int32} : E (d + 2, 156, 0, [.ref 121, .int w], [], I) Q ↔ Q (.int (sTot (I 122) N w)) I := by
  rw [b156_0, b156_32, b156_40, b156_48, b156_56, b156_63, k155 (j := 1) (by decide) (by decide) h0 hN, b156_68]
  unfold sTot
  simp only [QI]
/-- promise 11 -/
theorem m78 (C : Cp M N T) {a : Int32} : Ok (d + 200) M 78 [.ref 0, .int a] 151 [.ref 121, .int a] := by
  have hN := C.le
  by_cases h1 : 0 ≤ a ∧ a ≤ (1 <<< (nI N &&& 31)) - 1
  rotate_left
  · exact Ok.ret C (-1000000001) (fun Q => by rw [b78_0, k108, b78_16, C.n1, ite_b01, if_neg h1, b78_19]) (fun Q => by rw [b151_0, k119v, b151_17, C.n2, ite_b01, if_neg h1, b151_28, b151_30])
  have hs : isSet a := by
    have h2 := h1
    obtain ⟨t1, t2⟩ := two_le N hN
    rw [shl10 N hN, show nI (2 ^ N) - 1 = nI (2 ^ N - 1) by rw [show (2 : Nat) ^ N = (2 ^ N - 1) + 1 by omega, ← nI_1, Int32.add_sub_cancel, Nat.add_sub_cancel]] at h2
    obtain ⟨k, k1, k2⟩ := wi0 (2 ^ N - 1) (by omega) rfl h2
    exact ⟨k, by omega, k2⟩
  obtain ⟨M1, a1, a2, a3⟩ := k25 (d := d + 195) (set := a) (a := UN) (b := UN) (c := UN) (h := 1) (Or.inl rfl) C.h.H
  have e1 : M1 122 = M 122 := a3 122 (by decide) (by decide)
  obtain ⟨M2, b1, b2, b3⟩ := k150 (d := d + 195) (I := M1) (N := N) (set := a) (x := UN) (y := UN) (z := UN) (w := UN) (by rw [e1]; exact C.h.B) hs
  have fM : frM M1 M2 := fun c h1 _ _ => b3 c h1
  refine ⟨sBr (M 122) (sSit (M 122) N a) N, M1, M2, fun Q => ?_, fun Q => ?_, ⟨N, T, C.both a2 (frE.ofH a3) (by rw [b2, e1]) fM (bd_dine C.h.B hs) (fun i hi => dine_at hN (by omega)) (dine_at hN (by omega)) (by rw [dine_at hN (by omega)]; exact C.h.ev)⟩, ((frN.ofH a3).tr (frN.ofM fM)).fz⟩
  · rw [b78_0, k108, b78_16, C.n1, ite_b01, if_pos h1, b78_22, a1, b78_30]
  · rw [b151_0, k119v, b151_17, e1, C.n2, ite_b01, if_pos h1, b151_20, b1, b151_25, b151_30, e1]
theorem nI_sub {a b : Nat} (h : b ≤ a) : nI a - nI b = nI (a - b) := by
  have : nI a = nI (a - b) + nI b := by rw [nI_add, Nat.sub_add_cancel h]
  rw [this, Int32.add_sub_cancel]
/-- promise 12 -/
theorem m79 (C : Cp M N T) {a : Int32} : Ok (d + 200) M 79 [.ref 0, .int a, UN] 154 [.ref 121, .int a, UN] := by
  have hN := C.le
  by_cases h1 : 1 ≤ a ∧ a ≤ 100
  rotate_left
  · exact Ok.ret C (-1000000001) (fun Q => by rw [b79_0, k108, b79_7, ite_b01, if_neg h1, b79_10]) (fun Q => by rw [b154_0, k119_1_100, b154_9, ite_b01, if_neg h1, b154_12])
  obtain ⟨n, n1, n2, rfl⟩ := wi1 100 (by decide) (by decide) h1
  obtain ⟨e, e1, e2⟩ := C.h.ev
  have e9 : M 1 9 = nI e := (C.f (i := 2) (by decide)).trans e2
  have e7 : M 1 7 = M 122 7 := C.f (i := 7) (by decide)
  have es : (9999 : Int32) - nI e = nI (9999 - e) := nI_sub (a := 9999) e1
  have mc : (if nI (9999 - e) < nI n then nI (9999 - e) else nI n) = nI (min n (9999 - e)) := by
    rcases Nat.lt_or_ge (9999 - e) n with z | z
    · rw [if_pos (nI_lt z (by omega)), Nat.min_eq_right (by omega)]
    · rw [if_neg (nI_nlt z (by omega)), Nat.min_eq_left z]
  have mr : jLe (nI n) (nI (9999 - e)) = nI (min n (9999 - e)) := by
    unfold jLe
    rcases Nat.lt_or_ge n (9999 - e) with z | z
    · rw [if_pos (nI_lt z (by omega)), Nat.min_eq_left (by omega)]
    · rw [if_neg (nI_nlt z (by omega)), Nat.min_eq_right z]
  obtain ⟨lv, l1, l2⟩ := k115 (d := d + 198) (x := UN) C (k := 0) (v := 0) (by decide) (by decide)
  obtain ⟨M1, a1, a2, a3⟩ := k27 (d := d + 194) (ev := nI (min n (9999 - e))) (x := UN) (h := 1) (Or.inl rfl) C.h.H l2
  have e122 : M1 122 = M 122 := a3 122 (by decide) (by decide) (fun z => by have := scr_lt z; omega)
  obtain ⟨M2, b1, b2, b3⟩ := k153 (d := d + 193) (I := M1) (N := N) (T := T) (ev := nI (min n (9999 - e))) (x := UN) (by rw [e122]; exact C.h.B) (by rw [e122]; exact C.h.X)
  have hm : (nI (min n (9999 - e))).toNatClampNeg = min n (9999 - e) := nI_clamp (by omega)
  rw [hm] at a2
  rw [hm, e122] at b2
  have s7 : M1 1 7 = sPass (mA (M 122) 0 T) N (M 122) (min n (9999 - e)) 7 := a2.f (i := 7) (by decide)
  refine ⟨sPass (mA (M 122) 0 T) N (M 122) (min n (9999 - e)) 7 - M 122 7, M1, M2, fun Q => ?_, fun Q => ?_, ⟨N, T, C.both a2 a3 b2 b3 (bd_pass C.h.B _) (fun i hi => pass_hi hN (Or.inl hi) _) (pass_hi hN (by omega) _) ⟨e + min n (9999 - e), by omega, by rw [pass_2 hN, e2, nI_add]⟩⟩, ((frN.ofE a3).tr (frN.ofM b3)).fz⟩
  · rw [b79_0, k108, b79_7, ite_b01, if_pos h1, b79_13, e9, es, mc, e7, l1, b79_49m l2.lv, a1, b79_52, s7]
  · rw [b154_0, k119_1_100, b154_9, ite_b01, if_pos h1, b154_15, e122, e2, es, k123, mr, b154_38, b1, b154_41, b2]
/-- promise 13 -/
theorem m80 (C : Cp M N T) {a : Int32} : Ok (d + 200) M 80 [.ref 0, .int a, UN] 157 [.ref 121, .int a] := by
  have hN := C.le
  have e5 : M 1 5 = M 122 5 := C.f (i := 5) (by decide)
  by_cases h1 : 0 ≤ a ∧ a ≤ 4
  · refine Ok.ret C (sTot (M 122) N a) (fun Q => ?_) (fun Q => ?_)
    · rw [b80_0, k108, b80_6, ite_b01, if_pos h1, b80_9, k30 (h := 1) (Or.inl rfl) C.h.H, b80_17]
    · rw [b157_0, k119_0_4, b157_9, ite_b01, if_pos h1, b157_12, k156 C.n2 hN, b157_17, b157_57]
  by_cases h5 : a = 5
  · refine Ok.ret C (sSum (M 122) 3 N) (fun Q => ?_) (fun Q => ?_)
    · rw [b80_0, k108, b80_6, ite_b01, if_neg h1, b80_18, if_pos h5, b80_23, k32 (h := 1) (Or.inl rfl) C.h.H, b80_30]
    · rw [b157_0, k119_0_4, b157_9, ite_b01, if_neg h1, b157_20, if_pos h5, b157_25, k155 (j := 3) (by decide) (by decide) C.n2 hN, b157_30, b157_57]
  by_cases h6 : a = 6
  · refine Ok.ret C (if enc (sNr (M 122) (M 122 5) N) < 0 then -1000000005 else enc (sNr (M 122) (M 122 5) N)) (fun Q => ?_) (fun Q => ?_)
    · rw [b80_0, k108, b80_6, ite_b01, if_neg h1, b80_18, if_neg h5, b80_31, if_pos h6, b80_40, e5, k24 (h := 1) (Or.inl rfl) C.h.H, b80_54, b80_59, b80_64, b80_65, b80_65, QI (Q := Q)]
    · rw [b157_0, k119_0_4, b157_9, ite_b01, if_neg h1, b157_20, if_neg h5, b157_33, if_pos h6, b157_39, k149 C.h.B, b157_49, k120, b157_52, b157_57]
  refine Ok.ret C (-1000000001) (fun Q => ?_) (fun Q => ?_)
  · rw [b80_0, k108, b80_6, ite_b01, if_neg h1, b80_18, if_neg h5, b80_31, if_neg h6, b80_37]
  · rw [b157_0, k119_0_4, b157_9, ite_b01, if_neg h1, b157_20, if_neg h5, b157_33, if_neg h6, b157_55, b157_57]
/-- promise 10 -/
theorem k33 (hh : isHs h) (H : isH I h S N) {v : Int32} {x y z w : Value} : E (d + 3, 33, 0, [.ref h, .int v, x, y, z, w], [], I) Q ↔ Q (.int (enc (sFw S N v (2 ^ N)))) I := by
  have hN := H.2.1
  obtain ⟨t1, t2⟩ := two_le N hN
  have loop : ∀ (k n : Nat) (f : Int32) (u : Value), n + k = 2 ^ N → (sFw S N v n = none → f = 11) → (∀ q, sFw S N v n = some q → f = jBit (nI q)) → (E (d + 3, 33, 8, [.ref h, .int v, .int (enc (sFw S N v n)), .int f, .int (nI n), u], [], I) Q ↔ Q (.int (enc (sFw S N v (2 ^ N)))) I) := by
    intro k
    induction k with
    | zero =>
      intro n f u hn _ _
      rw [b33_8 (hs0 hh), H.ppl, shl10 N hN, if_neg (nI_nlt (by omega) (by omega)), b33_54, show n = 2 ^ N by omega]
    | succ k ih =>
      intro n f u hn f1 f2
      rw [b33_8 (hs0 hh), H.ppl, shl10 N hN, if_pos (nI_lt (by omega) (by omega)), b33_19, k0, b33_24]
      cases ho : sFw S N v n with
      | none =>
        rw [f1 ho, if_pos (bit11 n (by omega)), b33_32 (hs0 hh), k34 hh H, b33_38]
        by_cases hb : sBr S (nI n) N < v
        · have e : sFw S N v (n + 1) = none := by unfold sFw; rw [ho]; exact if_pos hb
          have := ih (n + 1) 11 (.int (jBit (nI n))) (by omega) (fun _ => rfl) (fun q hq => by rw [e] at hq; cases hq)
          rw [e] at this
          rw [if_pos hb, b33_48, nI_1]
          exact this
        · have e : sFw S N v (n + 1) = some n := by unfold sFw; rw [ho]; exact if_neg hb
          have := ih (n + 1) (jBit (nI n)) (.int (jBit (nI n))) (by omega) (fun z => by rw [e] at z; cases z) (fun q hq => by rw [e] at hq; cases hq; rfl)
          rw [e] at this
          rw [if_neg hb, b33_42, b33_48, nI_1]
          exact this
      | some q =>
        rw [f2 q ho]
        by_cases hj : jBit (nI n) < jBit (nI q)
        · rw [if_pos hj, b33_32 (hs0 hh), k34 hh H, b33_38]
          by_cases hb : sBr S (nI n) N < v
          · have e : sFw S N v (n + 1) = some q := by unfold sFw; rw [ho]; dsimp only; rw [if_pos hj, if_pos hb]
            have := ih (n + 1) (jBit (nI q)) (.int (jBit (nI n))) (by omega) (fun z => by rw [e] at z; cases z) (fun q hq => by rw [e] at hq; cases hq; rfl)
            rw [e] at this
            rw [if_pos hb, b33_48, nI_1]
            exact this
          · have e : sFw S N v (n + 1) = some n := by unfold sFw; rw [ho]; dsimp only; rw [if_pos hj, if_neg hb]
            have := ih (n + 1) (jBit (nI n)) (.int (jBit (nI n))) (by omega) (fun z => by rw [e] at z; cases z) (fun q hq => by rw [e] at hq; cases hq; rfl)
            rw [e] at this
            rw [if_neg hb, b33_42, b33_48, nI_1]
            exact this
        · have e : sFw S N v (n + 1) = some q := by unfold sFw; rw [ho]; dsimp only; rw [if_neg hj]
          have := ih (n + 1) (jBit (nI q)) (.int (jBit (nI n))) (by omega) (fun z => by rw [e] at z; cases z) (fun q hq => by rw [e] at hq; cases hq; rfl)
          rw [e] at this
          rw [if_neg hj, b33_48, nI_1]
          exact this
  rw [b33_0]
  exact loop (2 ^ N) 0 11 w (by omega) (fun _ => rfl) (fun q hq => by cases hq)
theorem k148 (B : bd (I 122) N) {v w : Int32} : ∀ (k n : Nat), n + k = 2 ^ N → (E (d + 3, 148, 30, [.ref 121, .int v, .int w, .int (enc (sFw (I 122) N v n)), .int (nI n)], [], I) Q ↔ E (d + 3, 148, 82, [.ref 121, .int v, .int w, .int (enc (sFw (I 122) N v (2 ^ N))), .int (nI (2 ^ N))], [], I) Q) := by
  have hN := B.2.1
  obtain ⟨t1, t2⟩ := two_le N hN
  intro k
  induction k with
  | zero =>
    intro n hn
    rw [b148_30, B.1, shl10 N hN, if_neg (nI_nlt (by omega) (by omega)), show n = 2 ^ N by omega]
  | succ k ih =>
    intro n hn
    have := ih (n + 1) (by omega)
    rw [b148_30, B.1, shl10 N hN, if_pos (nI_lt (by omega) (by omega)), b148_43]
    cases ho : sFw (I 122) N v n with
    | none =>
      rw [if_pos (show enc none < 0 by decide), b148_59, k147 B, b148_65]
      by_cases hb : sBr (I 122) (nI n) N < v
      · have e : sFw (I 122) N v (n + 1) = none := by unfold sFw; rw [ho]; exact if_pos hb
        rw [e] at this
        rw [if_pos hb, b148_74, b148_75, nI_1]
        exact this
      · have e : sFw (I 122) N v (n + 1) = some n := by unfold sFw; rw [ho]; exact if_neg hb
        rw [e] at this
        rw [if_neg hb, b148_69, b148_75, nI_1]
        exact this
    | some q =>
      have hq := sFw_lt n q ho
      rw [if_neg (show ¬ enc (some q) < 0 from nI_pos (by omega)), b148_47, k132 (by omega), b148_52, show enc (some q) = nI q from rfl, k132 (by omega), b148_56]
      by_cases hj : jBit (nI n) < jBit (nI q)
      · rw [if_pos hj, b148_59, k147 B, b148_65]
        by_cases hb : sBr (I 122) (nI n) N < v
        · have e : sFw (I 122) N v (n + 1) = some q := by unfold sFw; rw [ho]; dsimp only; rw [if_pos hj, if_pos hb]
          rw [e] at this
          rw [if_pos hb, b148_74, b148_75, nI_1]
          exact this
        · have e : sFw (I 122) N v (n + 1) = some n := by unfold sFw; rw [ho]; dsimp only; rw [if_pos hj, if_neg hb]
          rw [e] at this
          rw [if_neg hb, b148_69, b148_75, nI_1]
          exact this
      · have e : sFw (I 122) N v (n + 1) = some q := by unfold sFw; rw [ho]; dsimp only; rw [if_neg hj]
        rw [e] at this
        rw [if_neg hj, b148_74, b148_75, nI_1]
        exact this
theorem m77 (C : Cp M N T) {a b : Int32} : Ok (d + 200) M 77 [.ref 0, .int a, .int b, UN] 148 [.ref 121, .int a, .int b, UN, UN] := by
  have hN := C.le
  obtain ⟨t1, t2⟩ := two_le N hN
  by_cases h1 : 0 ≤ a ∧ a ≤ 999
  rotate_left
  · exact Ok.ret C (-1000000001) (fun Q => by rw [b77_0, k108, b77_8, ite_b01, if_neg h1, b77_20]) (fun Q => by rw [b148_0, k119_0_999, b148_9, ite_b01, if_neg h1, b148_22])
  by_cases h2 : 0 ≤ b ∧ b ≤ 1
  rotate_left
  · exact Ok.ret C (-1000000001) (fun Q => by rw [b77_0, k108, b77_8, ite_b01, if_pos h1, b77_11, k108, b77_17, ite_b01, if_neg h2, b77_20]) (fun Q => by rw [b148_0, k119_0_999, b148_9, ite_b01, if_pos h1, b148_12, k119_0_1, b148_19, ite_b01, if_neg h2, b148_22])
  have p1 : ∀ Q : Po, E (d + 200, 77, 0, [.ref 0, .int a, .int b, UN], [], M) Q ↔ E (d + 200, 77, 31, [.ref 0, .int a, .int b, UN], [.int (enc (sFw (M 122) N a (2 ^ N)))], M) Q := fun Q => by
    rw [b77_0, k108, b77_8, ite_b01, if_pos h1, b77_11, k108, b77_17, ite_b01, if_pos h2, b77_23, k33 (h := 1) (Or.inl rfl) C.h.H]
  have p2 : ∀ Q : Po, E (d + 200, 148, 0, [.ref 121, .int a, .int b, UN, UN], [], M) Q ↔ E (d + 200, 148, 82, [.ref 121, .int a, .int b, .int (enc (sFw (M 122) N a (2 ^ N))), .int (nI (2 ^ N))], [], M) Q := fun Q => by
    rw [b148_0, k119_0_999, b148_9, ite_b01, if_pos h1, b148_12, k119_0_1, b148_19, ite_b01, if_pos h2, b148_25]
    exact k148 (d := d + 197) (Q := Q) (v := a) (w := b) C.h.B (2 ^ N) 0 (by omega)
  cases ho : sFw (M 122) N a (2 ^ N) with
  | none =>
    rw [ho] at p1 p2
    exact Ok.ret C (-1000000005) (fun Q => by rw [p1, b77_31, if_pos (show enc none < 0 by decide), b77_36]) (fun Q => by rw [p2, b148_82, if_pos (show enc none < 0 by decide), b148_86, b148_103])
  | some q =>
    have hq := sFw_lt _ q ho
    rw [ho] at p1 p2
    refine Ok.ret C (if b = 0 then nI q else jBit (nI q)) (fun Q => ?_) (fun Q => ?_)
    · rw [p1, b77_31, if_neg (show ¬ enc (some q) < 0 from nI_pos (by omega)), b77_39, b77_43, b77_47, k0, b77_51, b77_51, QI (Q := Q)]
      exact Iff.rfl
    · rw [p2, b148_82, if_neg (show ¬ enc (some q) < 0 from nI_pos (by omega)), b148_91, b148_95, b148_99, show enc (some q) = nI q from rfl, k132 (by omega), b148_103, b148_103, QI (Q := Q)]
/-- promise 8 -/
def jm (I : IM) (N : Nat) (a b c e : Int32) : IM := up (up (up (up (up (up I 122 0 (nI (N + 1))) 122 (10 + 5 * N) a) 122 (10 + 5 * N + 1) b) 122 (10 + 5 * N + 2) c) 122 (10 + 5 * N + 3) e) 122 (10 + 5 * N + 4) 0
theorem k21 (hh : isHs h) (H : isH I h S N) (hN : N < 10) {x y z w : Value} : ∃ I', Rn (d + 2, 21, 0, [.ref h, x, y, z, w], [], I) .null I' ∧ isH I' h (sDl1 S N) (N + 1) ∧ frH h I I' := by
  have H1 : isH (up I h 10 (zN (S 9))) h (upd S 9 (zN (S 9))) N := H.fld (i := 9) (by decide) (by decide) _
  have H2 : isH (up (up I h 10 (zN (S 9))) h 10 (zN (zN (S 9)))) h (upd (upd S 9 (zN (S 9))) 9 (zN (zN (S 9)))) N := H1.fld (i := 9) (by decide) (by decide) _
  rw [upd_up] at H2
  have H3 : isH (up (up (up I h 10 (zN (S 9))) h 10 (zN (zN (S 9)))) h 10 (zN (zN (zN (S 9))))) h (upd (upd S 9 (zN (zN (S 9)))) 9 (zN (zN (zN (S 9))))) N := H2.fld (i := 9) (by decide) (by decide) _
  rw [upd_up] at H3
  have H4 : isH (up (up (up (up I h 10 (zN (S 9))) h 10 (zN (zN (S 9)))) h 10 (zN (zN (zN (S 9))))) h 10 (zN (zN (zN (zN (S 9)))))) h (upd (upd S 9 (zN (zN (zN (S 9))))) 9 (zN (zN (zN (zN (S 9)))))) N := H3.fld (i := 9) (by decide) (by decide) _
  rw [upd_up] at H4
  refine ⟨_, fun Q => ?_, H4.jn hN, ?_⟩
  · rw [b21_0 (hs0 hh), k22 hh H, b21_4 (hs0 hh), and_iff_right (by decide), k22 hh H1, upd_s, b21_12 (hs0 hh), and_iff_right (by decide), k22 hh H2, upd_s, b21_20 (hs0 hh), and_iff_right (by decide), k22 hh H3, upd_s, b21_28 (hs0 hh), and_iff_right (by decide), k20 hh H4 hN, b21_42]
    exact Iff.rfl
  · intro c h1 h2
    unfold wl
    rw [up_c (by omega), up_c (by omega), up_c (by omega), up_c (by omega), up_c (by omega), up_c (by omega), up_c (by omega), up_c (by omega), up_c (by omega), up_c (by omega)]
theorem k75_loop {n c : Nat} (hc : N + c ≤ 10) : ∀ (k i : Nat) (I : IM), i + k = c → isH I 1 (sDl S N i) (N + i) →
    ∃ I', Rn (d + 3, 75, 30, [.ref 0, .int (nI n), .int (nI c), .int (nI i)], [], I) (.int (nI c)) I' ∧ isH I' 1 (sDl S N c) (N + c) ∧ frH 1 I I' := by
  intro k
  induction k with
  | zero =>
    intro i I hi H
    refine ⟨I, fun Q => ?_, by rw [← show i = c by omega]; exact H, frH.rf⟩
    rw [b75_30, if_neg (nI_nlt (by omega) (by omega)), b75_48]
  | succ k ih =>
    intro i I hi H
    obtain ⟨I1, a1, a2, a3⟩ := k21 (d := d) (x := UN) (y := UN) (z := UN) (w := UN) (h := 1) (Or.inl rfl) H (by omega)
    obtain ⟨I', r1, r2, r3⟩ := ih (i + 1) I1 (by omega) a2
    refine ⟨I', fun Q => ?_, r2, a3.tr r3⟩
    rw [b75_30, if_pos (nI_lt (by omega) (by omega)), b75_35, a1, b75_42, nI_1]
    exact r1 Q
theorem k145_loop {n c : Nat} (hc : N + c ≤ 10) (hn : c ≤ n) (hn' : n ≤ 10) (hs : c = n ∨ N + c = 10) (B : bd S N) : ∀ (k i : Nat) (I : IM) (x y z : Value), i + k = c → I 122 = sDl S N i →
    ∃ I', Rn (d + 2, 145, 17, [.ref 121, .int (nI n), .int (nI i), x, y, z], [], I) (.int (nI c)) I' ∧ I' 122 = sDl S N c ∧ ∀ c', c' ≠ 122 → I' c' = I c' := by
  intro k
  induction k with
  | zero =>
    intro i I x y z hi r
    have : i = c := by omega
    subst this
    refine ⟨I, fun Q => ?_, r, fun _ _ => rfl⟩
    rw [b145_17]
    by_cases hlt : i < n
    · rw [if_pos (nI_lt hlt (by omega)), b145_22, r, (bd_dl B i hc).1, show N + i = 10 by omega, if_neg (by decide), b145_81]
    · rw [if_neg (nI_nlt (by omega) (by omega)), b145_81]
  | succ k ih =>
    intro i I x y z hi r
    have r0 : I 122 0 = nI (N + i) := by rw [r]; exact (bd_dl B i (by omega)).1
    generalize hz0 : I 122 9 = z0
    have q1 : (up I 122 9 (zN z0)) 122 9 = zN z0 := up_s
    have q2 : (up (up I 122 9 (zN z0)) 122 9 (zN (zN z0))) 122 9 = zN (zN z0) := up_s
    have q3 : (up (up (up I 122 9 (zN z0)) 122 9 (zN (zN z0))) 122 9 (zN (zN (zN z0)))) 122 9 = zN (zN (zN z0)) := up_s
    have q4 : (up (up (up (up I 122 9 (zN z0)) 122 9 (zN (zN z0))) 122 9 (zN (zN (zN z0)))) 122 9 (zN (zN (zN (zN z0))))) 122 = upd (I 122) 9 (zN (zN (zN (zN z0)))) := by rw [up_r, up_r, up_r, up_r, upd_up, upd_up, upd_up]
    have q0 : (up (up (up (up I 122 9 (zN z0)) 122 9 (zN (zN z0))) 122 9 (zN (zN (zN z0)))) 122 9 (zN (zN (zN (zN z0))))) 122 0 = nI (N + i) := by rw [q4, upd_n (by decide)]; exact r0
    have go : ∀ I1 : IM, I1 122 = sJn (upd (I 122) 9 (zN (zN (zN (zN z0))))) (N + i) (jRem (jUshr (zN z0) 8) 6) (jRem (jUshr (zN (zN z0)) 8) 101) (jRem (jUshr (zN (zN (zN z0))) 8) 100) (jRem (jUshr (zN (zN (zN (zN z0)))) 8) 100) → (∀ c', c' ≠ 122 → I1 c' = I c') → (∀ Q : Po, E (d + 2, 145, 17, [.ref 121, .int (nI n), .int (nI i), x, y, z], [], I) Q ↔ E (d + 2, 145, 75, [.ref 121, .int (nI n), .int (nI i), .int (jRem (jUshr (zN z0) 8) 6), .int (jRem (jUshr (zN (zN z0)) 8) 101), .int (jRem (jUshr (zN (zN (zN z0))) 8) 100)], [], I1) Q) →
        ∃ I', Rn (d + 2, 145, 17, [.ref 121, .int (nI n), .int (nI i), x, y, z], [], I) (.int (nI c)) I' ∧ I' 122 = sDl S N c ∧ ∀ c', c' ≠ 122 → I' c' = I c' := by
      intro I1 h1 h2 h3
      have e : I1 122 = sDl S N (i + 1) := by
        rw [h1]
        show _ = sDl1 (sDl S N i) (N + i)
        unfold sDl1
        rw [← r, hz0]
        rfl
      obtain ⟨I', s1, s2, s3⟩ := ih (i + 1) I1 (.int (jRem (jUshr (zN z0) 8) 6)) (.int (jRem (jUshr (zN (zN z0)) 8) 101)) (.int (jRem (jUshr (zN (zN (zN z0))) 8) 100)) (by omega) e
      refine ⟨I', fun Q => ?_, s2, fun c' hc => (s3 c' hc).trans (h2 c' hc)⟩
      rw [h3 Q, b145_75, nI_1]
      exact s1 Q
    refine go (jm (up (up (up (up I 122 9 (zN z0)) 122 9 (zN (zN z0))) 122 9 (zN (zN (zN z0)))) 122 9 (zN (zN (zN (zN z0))))) (N + i) (jRem (jUshr (zN z0) 8) 6) (jRem (jUshr (zN (zN z0)) 8) 101) (jRem (jUshr (zN (zN (zN z0))) 8) 100) (jRem (jUshr (zN (zN (zN (zN z0)))) 8) 100)) (by unfold jm; rw [jn_at, q4]) ?_ (fun Q => ?_)
    · intro c' hc'
      unfold jm
      rw [up_c hc', up_c hc', up_c hc', up_c hc', up_c hc', up_c hc', up_c hc', up_c hc', up_c hc', up_c hc']
    · rw [b145_17, if_pos (nI_lt (by omega) (by omega)), b145_22, r0, if_pos (show nI (N + i) < 10 from (show nI (N + i) < nI 10 from nI_lt (by omega) (by decide))), b145_33, k130, hz0, b145_37, and_iff_right (by decide), k130, q1, b145_45, and_iff_right (by decide), k130, q2, b145_54, and_iff_right (by decide), k130, q3, b145_69, and_iff_right (by decide), k138 q0 (by omega)]
      exact Iff.rfl
theorem m75 (C : Cp M N T) {a : Int32} : Ok (d + 200) M 75 [.ref 0, .int a, UN, UN] 145 [.ref 121, .int a, UN, UN, UN, UN] := by
  have hN := C.le
  by_cases h1 : 1 ≤ a ∧ a ≤ 10
  rotate_left
  · exact Ok.ret C (-1000000001) (fun Q => by rw [b75_0, k108, b75_7, ite_b01, if_neg h1, b75_10]) (fun Q => by rw [b145_0, k119_1_10, b145_9, ite_b01, if_neg h1, b145_12])
  obtain ⟨n, n1, n2, rfl⟩ := wi1 10 (by decide) (by decide) h1
  have es : (10 : Int32) - nI N = nI (10 - N) := nI_sub (a := 10) hN
  have mc : (if nI (10 - N) < nI n then nI (10 - N) else nI n) = nI (min n (10 - N)) := by
    rcases Nat.lt_or_ge (10 - N) n with z | z
    · rw [if_pos (nI_lt z (by omega)), Nat.min_eq_right (by omega)]
    · rw [if_neg (nI_nlt z (by omega)), Nat.min_eq_left z]
  obtain ⟨M1, a1, a2, a3⟩ := k75_loop (d := d + 197) (n := n) (c := min n (10 - N)) (S := M 122) (N := N) (by omega) (min n (10 - N)) 0 M (by omega) C.h.H
  have e1 : M1 122 = M 122 := a3 122 (by decide) (by decide)
  obtain ⟨M2, b1, b2, b3⟩ := k145_loop (d := d + 198) (n := n) (c := min n (10 - N)) (S := M 122) (N := N) (by omega) (by omega) n2 (by omega) C.h.B (min n (10 - N)) 0 M1 UN UN UN (by omega) e1
  have fM : frM M1 M2 := fun c h1 _ _ => b3 c h1
  refine ⟨nI (min n (10 - N)), M1, M2, fun Q => ?_, fun Q => ?_, ⟨N + min n (10 - N), T, C.both a2 (frE.ofH a3) b2 fM (bd_dl C.h.B _ (by omega)) (fun i hi => dl_hi (Or.inl hi) _ (by omega)) (dl_hi (Or.inr (by omega)) _ (by omega)) (by rw [dl_hi (Or.inr (by omega)) _ (by omega)]; exact C.h.ev)⟩, ((frN.ofH a3).tr (frN.ofM fM)).fz⟩
  · rw [b75_0, k108, b75_7, ite_b01, if_pos h1, b75_13, C.n1, es, mc]
    exact a1 Q
  · rw [b145_0, k119_1_10, b145_9, ite_b01, if_pos h1, b145_15]
    exact b1 Q
end K4
