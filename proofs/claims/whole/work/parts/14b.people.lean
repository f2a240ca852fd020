/-! people: person, told, as, turns, set, rule, seed, count -/
theorem g4 {p : Nat} (hp : p < 10) : aRf 2 (Int32.toNatClampNeg (nI p)) = 4 + p := hse (h := 1) (Or.inl rfl) hp
theorem s4 {p : Nat} (hp : p < 10) : aShp (4 + p) = 0 := hsp (h := 1) (Or.inl rfl) hp
theorem vp10 {p : Nat} (hp : p < 10) : vp_in (nI p) 10 := vp_in_nI hp (by decide)
theorem vpE {p : Nat} (hp : p < 10) : vp_in (nI p) 10 = True := eq_true (vp10 hp)
theorem nI_eqI {a b : Nat} (ha : a < 2 ^ 31) (hb : b < 2 ^ 31) : nI a = nI b ↔ a = b := by
  rw [← Int32.toInt_inj, nI_toInt ha, nI_toInt hb]; omega
section MU
variable {M : IM} {N T : Nat}
theorem Cp.fld (C : Cp M N T) {i : Nat} (hi : i = 3 ∨ i = 4 ∨ i = 7 ∨ i = 8 ∨ i = 9) (v : Int32) : Cp (up (up M 1 (hSl i) v) 122 i v) N T := by
  have e : (up (up M 1 (hSl i) v) 122 i v) 122 = upd (M 122) i v := by rw [up_r, up_c (by decide)]
  refine C.st ((frN.wr (Or.inr (Or.inl rfl))).tr (frN.wr (Or.inr (Or.inr (Or.inr rfl))))) ?_ ?_ ?_ ?_ ?_
  · rw [e]; exact (C.h.H.fld (i := i) (by omega) (by omega) v).fr (fun c hc => up_c (by omega))
  · rw [e]; exact bd_z C.h.B (by omega)
  · intro j hj; rw [e, upd_n (by omega)]
  · rw [e, upd_n (by omega)]
  · rw [e, upd_n (by omega)]; exact C.h.ev
theorem Cp.gst (C : Cp M N T) {p j : Nat} (hp : p < N) (hj : j < 5) (v : Int32) (h : (j = 0 ∧ ∃ k, k ≤ 5 ∧ v = nI k) ∨ (j = 1 ∧ ∃ k, k ≤ 100 ∧ v = nI k) ∨ (j = 2 ∧ ∃ k, k ≤ 99 ∧ v = nI k) ∨ (j = 3 ∧ ∃ k, k ≤ 99 ∧ v = nI k) ∨ (j = 4 ∧ ∃ k, k ≤ 9999 ∧ v = nI k)) : Cp (up (up M (4 + p) j v) 122 (10 + 5 * p + j) v) N T := by
  have hN := C.h.H.2.1
  have e : (up (up M (4 + p) j v) 122 (10 + 5 * p + j) v) 122 = upd (M 122) (10 + 5 * p + j) v := by rw [up_r, up_c (by omega)]
  refine C.st ((frN.wr (Or.inr (Or.inr (Or.inl (by omega))))).tr (frN.wr (Or.inr (Or.inr (Or.inr rfl))))) ?_ ?_ ?_ ?_ ?_
  · rw [e]; exact (C.h.H.gst hp hj v).fr (fun c hc => up_c (by omega))
  · rw [e]; exact bd_g C.h.B hj h
  · intro i hi; rw [e, upd_n (by omega)]
  · rw [e, upd_n (by omega)]
  · rw [e, upd_n (by omega)]; exact C.h.ev
theorem Cp.n1 (C : Cp M N T) : M 1 2 = nI N := C.h.H.ppl
theorem Cp.n2 (C : Cp M N T) : M 122 0 = nI N := C.h.H.1
theorem Cp.le (C : Cp M N T) : N ≤ 10 := C.h.H.2.1
theorem Cp.g (C : Cp M N T) {p j : Nat} (hp : p < N) (hj : j < 5) : M (4 + p) j = M 122 (10 + 5 * p + j) := C.h.H.g hp hj
theorem Cp.f (C : Cp M N T) {i : Nat} (hi : i < 10) : M 1 (hSl i) = M 122 i := C.h.H.f hi
/-- the law that counts for a key -/
theorem law_of {R : Nat → Int32} {c k : Nat} (hT : T ≤ 14) (hw : ∀ t, t < T → wfT R t) (tx : ∀ t, t < T → txOk M R t) (ct : M c k = enc (cntR R (nI k) T)) : ∃ lv, (lv = .null ∧ M c k = -1 ∨ ∃ t : Nat, t < 14 ∧ lv = .ref (48 + 3 * t) ∧ M c k = nI t) ∧ Lw M lv (mA R (nI k) T) := by
  cases ho : cntR R (nI k) T with
  | none => exact ⟨.null, Or.inl ⟨rfl, by rw [ct, ho]; rfl⟩, Or.inl ⟨rfl, by unfold mA; rw [ho]⟩⟩
  | some t =>
    obtain ⟨h1, h2⟩ := cntR_lt T t ho
    obtain ⟨⟨n, n1, n2⟩, -⟩ := hw t h1
    obtain ⟨x1, x2, x3, x4⟩ := tx t h1
    refine ⟨.ref (48 + 3 * t), Or.inr ⟨t, by omega, rfl, by rw [ct, ho]; rfl⟩, Or.inr ⟨t, n, by omega, n1, rfl, by rw [x1, n2], ?_⟩⟩
    have e : tN R t = n := by unfold tN; rw [n2, nI_clamp (by omega)]
    unfold mA
    rw [ho]
    dsimp only
    rw [e] at x4 ⊢
    congr 1
    funext a b c e
    unfold lGive
    rw [lRun_st n x4]
end MU
theorem rf40 : ∀ t, t < 15 → aRf 40 t = 48 + 3 * t := by decide +kernel
section K2
variable {d : Nat} {M : IM} {N T : Nat}
theorem k115g {h k : Nat} {v : Int32} (hh : isHs h) (hv : v = nI k) (hk : k < 3) {R : Nat → Int32} (hT : T ≤ 14) (hw : ∀ t, t < T → wfT R t) (tx : ∀ t, t < T → txOk M R t) (ct : M (h + 2) k = enc (cntR R (nI k) T)) {x : Value} :
    ∃ lv, (∀ Q : Po, E (d + 1, 115, 0, [.ref 0, .ref h, .int v, x], [], M) Q ↔ Q lv M) ∧ Lw M lv (mA R v T) := by
  subst hv
  obtain ⟨lv, h1, h2⟩ := law_of hT hw tx ct
  refine ⟨lv, fun Q => ?_, h2⟩
  rw [b115_0 (hs0 hh) (hsc20 hh), hsc3 hh, and_iff_right (vp_in_nI hk (by decide)), k108, nI_clamp (by omega), hsc hh, b115_14]
  rcases h1 with ⟨rfl, e⟩ | ⟨t, ht, rfl, e⟩
  · rw [e, b01_f (by decide), if_pos rfl, b115_26, b115_27n]
  · rw [e, b01_t ⟨by rw [← nI_0, le_nI (by decide) (by omega)]; omega, by rw [show (13 : Int32) = nI 13 by decide, le_nI (by omega) (by decide)]; omega⟩, if_neg (by decide), b115_17, and_iff_right (vp_in_nI (by omega) (by decide)), nI_clamp (by omega), rf40 t (by omega), b115_27r]
theorem k115 (C : Cp M N T) {k : Nat} {v : Int32} (hv : v = nI k) (hk : k < 3) {x : Value} :
    ∃ lv, (∀ Q : Po, E (d + 1, 115, 0, [.ref 0, .ref 1, .int v, x], [], M) Q ↔ Q lv M) ∧ Lw M lv (mA (M 122) v T) :=
  k115g (h := 1) (Or.inl rfl) hv hk C.h.X.2.1 C.h.X.2.2 C.h.tx (C.h.ct k hk)
/-- a new one -/
def wl (I : IM) (h N : Nat) (a b c e : Int32) : IM := up (up (up (up (up (up I (h + 3 + N) 0 a) (h + 3 + N) 1 b) (h + 3 + N) 2 c) (h + 3 + N) 3 e) (h + 3 + N) 4 0) h 2 (nI (N + 1))
def sJn (S : Nat → Int32) (N : Nat) (a b c e : Int32) : Nat → Int32 := upd (upd (upd (upd (upd (upd S 0 (nI (N + 1))) (10 + 5 * N) a) (10 + 5 * N + 1) b) (10 + 5 * N + 2) c) (10 + 5 * N + 3) e) (10 + 5 * N + 4) 0
theorem k20 {I : IM} {Q : Po} {h : Nat} {S : Nat → Int32} (hh : isHs h) (H : isH I h S N) (hN : N < 10) {a b c e : Int32} {x : Value} : E (d + 1, 20, 0, [.ref h, .int a, .int b, .int c, .int e, x], [], I) Q ↔ Q (.int (nI N)) (wl I h N a b c e) := by
  have hne : h ≠ h + 3 + N := by omega
  rw [b20_0 (hs0 hh) (hs1 hh), hs10 hh, H.ppl, k108, b20_15, show nI 10 - 1 = 9 by decide, b01_t ⟨by rw [← nI_0, le_nI (by decide) (by omega)]; omega, by rw [show (9 : Int32) = nI 9 by decide, le_nI (by omega) (by decide)]; omega⟩, if_neg (by decide), b20_21 (hs0 hh) (hs1 hh) (by rw [H.ppl]; exact hs2 hh hN), H.ppl, and_iff_right (hs4 hh hN), hse hh hN]
  simp only [up_s, up_c hne, H.ppl, nI_1]
  rw [show nI (N + 1) - 1 = nI N by rw [show nI (N + 1) = nI N + 1 from (nI_1 N).symm, Int32.add_sub_cancel]]
  exact Iff.rfl
theorem isH.jn {I : IM} {h : Nat} {S : Nat → Int32} (H : isH I h S N) (hN : N < 10) {a b c e : Int32} : isH (wl I h N a b c e) h (sJn S N a b c e) (N + 1) := by
  obtain ⟨h1, h2, h3, h4⟩ := H
  have hne : h ≠ h + 3 + N := by omega
  refine ⟨?_, by omega, fun i hi => ?_, fun p hp j hj => ?_⟩
  · unfold sJn
    rw [upd_n (by omega), upd_n (by omega), upd_n (by omega), upd_n (by omega), upd_n (by omega), upd_s]
  · unfold wl sJn
    rw [upd_n (by omega), upd_n (by omega), upd_n (by omega), upd_n (by omega), upd_n (by omega)]
    by_cases h0 : i = 0
    · subst h0
      rw [upd_s]
      exact up_s
    · rw [upd_n h0, up_k (show hSl i ≠ 2 from fun z => h0 (hSl_inj i hi 0 (by decide) z)), up_c hne, up_c hne, up_c hne, up_c hne, up_c hne]
      exact h3 i hi
  · unfold wl sJn
    rw [up_c (by omega)]
    by_cases hq : p = N
    · subst hq
      have hj' : j = 0 ∨ j = 1 ∨ j = 2 ∨ j = 3 ∨ j = 4 := by omega
      rcases hj' with rfl | rfl | rfl | rfl | rfl
      · rw [up_k (by decide), up_k (by decide), up_k (by decide), up_k (by decide), up_s, upd_n (by omega), upd_n (by omega), upd_n (by omega), upd_n (by omega), show 10 + 5 * p + 0 = 10 + 5 * p from rfl, upd_s]
      · rw [up_k (by decide), up_k (by decide), up_k (by decide), up_s, upd_n (by omega), upd_n (by omega), upd_n (by omega), upd_s]
      · rw [up_k (by decide), up_k (by decide), up_s, upd_n (by omega), upd_n (by omega), upd_s]
      · rw [up_k (by decide), up_s, upd_n (by omega), upd_s]
      · rw [up_s, upd_s]
    · have hc : h + 3 + p ≠ h + 3 + N := by omega
      rw [up_c hc, up_c hc, up_c hc, up_c hc, up_c hc, upd_n (by omega), upd_n (by omega), upd_n (by omega), upd_n (by omega), upd_n (by omega), upd_n (by omega)]
      exact h4 p (by omega) j hj
theorem bd_jn {S : Nat → Int32} (B : bd S N) (hN : N < 10) {a b c e : Int32} (ha : ∃ k, k ≤ 5 ∧ a = nI k) (hb : ∃ k, k ≤ 100 ∧ b = nI k) (hc : ∃ k, k ≤ 99 ∧ c = nI k) (he : ∃ k, k ≤ 99 ∧ e = nI k) : bd (sJn S N a b c e) (N + 1) := by
  obtain ⟨b0, b1, b2, b3, bg⟩ := B
  have lo : ∀ i, i < 10 → i ≠ 0 → sJn S N a b c e i = S i := fun i h1 h2 => by
    unfold sJn
    rw [upd_n (by omega), upd_n (by omega), upd_n (by omega), upd_n (by omega), upd_n (by omega), upd_n h2]
  refine ⟨?_, by omega, by rw [lo 5 (by decide) (by decide)]; exact b2, by rw [lo 6 (by decide) (by decide)]; exact b3, fun p hp => ?_⟩
  · unfold sJn
    rw [upd_n (by omega), upd_n (by omega), upd_n (by omega), upd_n (by omega), upd_n (by omega), upd_s]
  · by_cases hq : p = N
    · subst hq
      unfold bdG gK gO gS gW gT sJn
      refine ⟨?_, ?_, ?_, ?_, ?_⟩
      · rw [upd_n (by omega), upd_n (by omega), upd_n (by omega), upd_n (by omega), upd_s]; exact ha
      · rw [upd_n (by omega), upd_n (by omega), upd_n (by omega), upd_s]; exact hb
      · rw [upd_n (by omega), upd_n (by omega), upd_s]; exact hc
      · rw [upd_n (by omega), upd_s]; exact he
      · rw [upd_s]; exact ⟨0, by decide, nI_0.symm⟩
    · have g := bg p (by omega)
      have at_ : ∀ j, j < 5 → sJn S N a b c e (10 + 5 * p + j) = S (10 + 5 * p + j) := fun j hj => by
        unfold sJn
        rw [upd_n (by omega), upd_n (by omega), upd_n (by omega), upd_n (by omega), upd_n (by omega), upd_n (by omega)]
      unfold bdG gK gO gS gW gT at *
      rw [show 10 + 5 * p = 10 + 5 * p + 0 from rfl, at_ 0 (by decide), at_ 1 (by decide), at_ 2 (by decide), at_ 3 (by decide), at_ 4 (by decide)]
      exact g
theorem sJn_hi {S : Nat → Int32} (hN : N < 10) {a b c e : Int32} {i : Nat} (hi : 60 ≤ i ∨ (0 < i ∧ i < 10)) : sJn S N a b c e i = S i := by
  unfold sJn
  rw [upd_n (by omega), upd_n (by omega), upd_n (by omega), upd_n (by omega), upd_n (by omega), upd_n (by omega)]
theorem k138 {I : IM} {Q : Po} (h0 : I 122 0 = nI N) (hN : N < 10) {a b c e : Int32} {x : Value} : E (d + 1, 138, 0, [.ref 121, .int a, .int b, .int c, .int e, x], [], I) Q ↔ Q .null (up (up (up (up (up (up I 122 0 (nI (N + 1))) 122 (10 + 5 * N) a) 122 (10 + 5 * N + 1) b) 122 (10 + 5 * N + 2) c) 122 (10 + 5 * N + 3) e) 122 (10 + 5 * N + 4) 0) := by
  rw [b138_0, h0, nI_1, k127_0 hN, b138_26, k127_1 hN, b138_34, k127_2 hN, b138_42, k127_3 hN, b138_51, k127_4 hN, b138_59]
theorem jn_at {I : IM} {a b c e : Int32} : (up (up (up (up (up (up I 122 0 (nI (N + 1))) 122 (10 + 5 * N) a) 122 (10 + 5 * N + 1) b) 122 (10 + 5 * N + 2) c) 122 (10 + 5 * N + 3) e) 122 (10 + 5 * N + 4) 0) 122 = sJn (I 122) N a b c e := by
  rw [up_r, up_r, up_r, up_r, up_r, up_r]
  rfl
/-- promise 2 -/
theorem m69 (C : Cp M N T) {a b c e : Int32} : Ok (d + 200) M 69 [.ref 0, .int a, .int b, .int c, .int e] 139 [.ref 121, .int a, .int b, .int c, .int e] := by
  by_cases h1 : 0 ≤ a ∧ a ≤ 5
  rotate_left
  · exact Ok.ret C (-1000000001) (fun Q => by simp only [b69_0, b69_4, b69_17, k110, ite_b01, h1, if_false]) (fun Q => by simp only [b139_0, b139_9, b139_49, k119_0_5, ite_b01, h1, if_false])
  by_cases h2 : 0 ≤ b ∧ b ≤ 100
  rotate_left
  · exact Ok.ret C (-1000000001) (fun Q => by rw [b69_0, k110, b69_4, ite_b01, if_pos h1, b69_7, k108, b69_14, ite_b01, if_neg h2, b69_17]) (fun Q => by rw [b139_0, k119_0_5, b139_9, ite_b01, if_pos h1, b139_12, k119_0_100, b139_21, ite_b01, if_neg h2, b139_49])
  by_cases h3 : 0 ≤ c ∧ c ≤ 99
  rotate_left
  · exact Ok.ret C (-1000000001) (fun Q => by rw [b69_0, k110, b69_4, ite_b01, if_pos h1, b69_7, k108, b69_14, ite_b01, if_pos h2, b69_20, k108, b69_27, ite_b01, if_neg h3, b69_41]) (fun Q => by rw [b139_0, k119_0_5, b139_9, ite_b01, if_pos h1, b139_12, k119_0_100, b139_21, ite_b01, if_pos h2, b139_24, k119_0_99, b139_33, ite_b01, if_neg h3, b139_49])
  by_cases h4 : 0 ≤ e ∧ e ≤ 99
  rotate_left
  · exact Ok.ret C (-1000000001) (fun Q => by rw [b69_0, k110, b69_4, ite_b01, if_pos h1, b69_7, k108, b69_14, ite_b01, if_pos h2, b69_20, k108, b69_27, ite_b01, if_pos h3, b69_30, k108, b69_38, ite_b01, if_neg h4, b69_41]) (fun Q => by rw [b139_0, k119_0_5, b139_9, ite_b01, if_pos h1, b139_12, k119_0_100, b139_21, ite_b01, if_pos h2, b139_24, k119_0_99, b139_33, ite_b01, if_pos h3, b139_36, k119_0_99, b139_46, ite_b01, if_neg h4, b139_49])
  have p1 : ∀ Q : Po, E (d + 200, 69, 0, [.ref 0, .int a, .int b, .int c, .int e], [], M) Q ↔ E (d + 200, 69, 44, [.ref 0, .int a, .int b, .int c, .int e], [], M) Q := fun Q => by rw [b69_0, k110, b69_4, ite_b01, if_pos h1, b69_7, k108, b69_14, ite_b01, if_pos h2, b69_20, k108, b69_27, ite_b01, if_pos h3, b69_30, k108, b69_38, ite_b01, if_pos h4]
  have p2 : ∀ (I : IM) (Q : Po), E (d + 200, 139, 0, [.ref 121, .int a, .int b, .int c, .int e], [], I) Q ↔ E (d + 200, 139, 52, [.ref 121, .int a, .int b, .int c, .int e], [], I) Q := fun I Q => by rw [b139_0, k119_0_5, b139_9, ite_b01, if_pos h1, b139_12, k119_0_100, b139_21, ite_b01, if_pos h2, b139_24, k119_0_99, b139_33, ite_b01, if_pos h3, b139_36, k119_0_99, b139_46, ite_b01, if_pos h4]
  have hN := C.le
  by_cases h10 : N = 10
  · refine Ok.ret C (-1000000003) (fun Q => ?_) (fun Q => ?_)
    · rw [p1, b69_44, C.n1, h10, if_neg (by decide), b69_56]
    · rw [p2, b139_52, C.n2, h10, if_pos (by decide), b139_63]
  · have hN' : N < 10 := by omega
    have e1 : (wl M 1 N a b c e) 122 = M 122 := by
      unfold wl
      rw [up_c (by decide), up_c (by omega), up_c (by omega), up_c (by omega), up_c (by omega), up_c (by omega)]
    refine ⟨nI N, wl M 1 N a b c e, _, fun Q => ?_, fun Q => ?_, ⟨N + 1, T, C.st (M' := up (up (up (up (up (up (wl M 1 N a b c e) 122 0 (nI (N + 1))) 122 (10 + 5 * N) a) 122 (10 + 5 * N + 1) b) 122 (10 + 5 * N + 2) c) 122 (10 + 5 * N + 3) e) 122 (10 + 5 * N + 4) 0) ?_ ?_ ?_ ?_ ?_ ?_⟩, ?_⟩
    · rw [p1, b69_44, C.n1, if_pos (show nI N < 10 from nI_lt hN' (by decide)), b69_59, k20 (Or.inl rfl) C.h.H hN', b69_71]
    · rw [p2, b139_52, e1, C.n2, if_neg (show ¬ nI N = 10 from fun z => h10 ((nI_eqI (by omega) (by decide)).mp z)), b139_66, k138 (by rw [e1]; exact C.n2) hN', b139_75, jn_at, e1]
      have : sJn (M 122) N a b c e 0 = nI (N + 1) := by unfold sJn; rw [upd_n (by omega), upd_n (by omega), upd_n (by omega), upd_n (by omega), upd_n (by omega), upd_s]
      rw [this, show nI (N + 1) - 1 = nI N by rw [show nI (N + 1) = nI N + 1 from (nI_1 N).symm, Int32.add_sub_cancel]]
    · intro c h1 h2
      unfold hk at h2
      rw [up_c (by omega), up_c (by omega), up_c (by omega), up_c (by omega), up_c (by omega), up_c (by omega)]
      unfold wl
      rw [up_c (by omega), up_c (by omega), up_c (by omega), up_c (by omega), up_c (by omega), up_c (by omega)]
    · rw [jn_at, e1]
      exact (C.h.H.jn hN').fr (fun c hc => by rw [up_c (by omega), up_c (by omega), up_c (by omega), up_c (by omega), up_c (by omega), up_c (by omega)])
    · rw [jn_at, e1]
      exact bd_jn C.h.B hN' (wi0 5 (by decide) (by decide) h1) (wi0 100 (by decide) (by decide) h2) (wi0 99 (by decide) (by decide) h3) (wi0 99 (by decide) (by decide) h4)
    · intro i hi; rw [jn_at, e1, sJn_hi hN' (Or.inl hi)]
    · rw [jn_at, e1, sJn_hi hN' (Or.inr (by omega))]
    · rw [jn_at, e1, sJn_hi hN' (Or.inr (by omega))]; exact C.h.ev
    · intro c hc
      rw [up_c (by omega), up_c (by omega), up_c (by omega), up_c (by omega), up_c (by omega), up_c (by omega)]
      unfold wl
      rw [up_c (by omega), up_c (by omega), up_c (by omega), up_c (by omega), up_c (by omega), up_c (by omega)]
end K2
