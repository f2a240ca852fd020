/-! the law's loop. Written by wip/gen/gen17b.py -/
section LP
variable {d i L N T : Nat} {M : IM}
/-- a call of the law: both sides answer alike, and stay together -/
def lwC (d i pc : Nat) (M : IM) : Prop := ∃ M2, (∀ Q : Po, E (d + 201, 211, pc, [.ref 1000, .ref 0, .ref 121, .int (nI i)], [], M) Q ↔ E (d + 201, 211, 1391, [.ref 1000, .ref 0, .ref 121, .int (nI i)], [], M2) Q) ∧ (∃ N T : Nat, Cp M2 N T) ∧ fz M M2
theorem lc0 (C : Cp M N T) (hL : M 1002 0 = nI L) (h6 : i + 6 ≤ L) (h3 : L ≤ 3072) : lwC d i 204 M := by
  obtain ⟨r, M1, M2, r1, r2, hC, f⟩ := m69 (d := d) C (a := M 1000 (i + 1)) (b := M 1000 (i + 2)) (c := M 1000 (i + 3)) (e := M 1000 (i + 4))
  have f1 : fz M M1 := r1.fz
  have e1 : M1 1000 = M 1000 := f1 1000 (by decide)
  have e2 : M1 1002 0 = nI L := by rw [f1 1002 (by decide)]; exact hL
  have v1 : nI i + 1 = nI (i + 1) := nI_k i 1 1 (by decide)
  have v2 : nI i + 2 = nI (i + 2) := nI_k i 2 2 (by decide)
  have v3 : nI i + 3 = nI (i + 3) := nI_k i 3 3 (by decide)
  have v4 : nI i + 4 = nI (i + 4) := nI_k i 4 4 (by decide)
  have cL : (nI L).toNatClampNeg = L := nI_clamp (by omega)
  have c1 : (nI (i + 1)).toNatClampNeg = i + 1 := nI_clamp (by omega)
  have c2 : (nI (i + 2)).toNatClampNeg = i + 2 := nI_clamp (by omega)
  have c3 : (nI (i + 3)).toNatClampNeg = i + 3 := nI_clamp (by omega)
  have c4 : (nI (i + 4)).toNatClampNeg = i + 4 := nI_clamp (by omega)
  exact ⟨M2, fun Q => by rw [b211_204, hL, cL, v1, v2, v3, v4, c1, c2, c3, c4, and_iff_right (vp_in_nI (show i + 1 < L by omega) (by omega)), and_iff_right (vp_in_nI (show i + 2 < L by omega) (by omega)), and_iff_right (vp_in_nI (show i + 3 < L by omega) (by omega)), and_iff_right (vp_in_nI (show i + 4 < L by omega) (by omega)), r1, b211_228, e2, e1, cL, v1, v2, v3, v4, c1, c2, c3, c4, and_iff_right (vp_in_nI (show i + 1 < L by omega) (by omega)), and_iff_right (vp_in_nI (show i + 2 < L by omega) (by omega)), and_iff_right (vp_in_nI (show i + 3 < L by omega) (by omega)), and_iff_right (vp_in_nI (show i + 4 < L by omega) (by omega)), r2, b211_252, if_pos rfl], hC, f⟩
theorem lc1 (C : Cp M N T) (hL : M 1002 0 = nI L) (h6 : i + 6 ≤ L) (h3 : L ≤ 3072) : lwC d i 257 M := by
  obtain ⟨r, M1, M2, r1, r2, hC, f⟩ := m70 (d := d) C (a := M 1000 (i + 1)) (b := M 1000 (i + 2))
  have f1 : fz M M1 := r1.fz
  have e1 : M1 1000 = M 1000 := f1 1000 (by decide)
  have e2 : M1 1002 0 = nI L := by rw [f1 1002 (by decide)]; exact hL
  have v1 : nI i + 1 = nI (i + 1) := nI_k i 1 1 (by decide)
  have v2 : nI i + 2 = nI (i + 2) := nI_k i 2 2 (by decide)
  have cL : (nI L).toNatClampNeg = L := nI_clamp (by omega)
  have c1 : (nI (i + 1)).toNatClampNeg = i + 1 := nI_clamp (by omega)
  have c2 : (nI (i + 2)).toNatClampNeg = i + 2 := nI_clamp (by omega)
  exact ⟨M2, fun Q => by rw [b211_257, hL, cL, v1, v2, c1, c2, and_iff_right (vp_in_nI (show i + 1 < L by omega) (by omega)), and_iff_right (vp_in_nI (show i + 2 < L by omega) (by omega)), r1, b211_271, e2, e1, cL, v1, v2, c1, c2, and_iff_right (vp_in_nI (show i + 1 < L by omega) (by omega)), and_iff_right (vp_in_nI (show i + 2 < L by omega) (by omega)), r2, b211_285, if_pos rfl], hC, f⟩
theorem lc2 (C : Cp M N T) (hL : M 1002 0 = nI L) (h6 : i + 6 ≤ L) (h3 : L ≤ 3072) : lwC d i 290 M := by
  obtain ⟨r, M1, M2, r1, r2, hC, f⟩ := m71 (d := d) C (a := M 1000 (i + 1)) (b := M 1000 (i + 2))
  have f1 : fz M M1 := r1.fz
  have e1 : M1 1000 = M 1000 := f1 1000 (by decide)
  have e2 : M1 1002 0 = nI L := by rw [f1 1002 (by decide)]; exact hL
  have v1 : nI i + 1 = nI (i + 1) := nI_k i 1 1 (by decide)
  have v2 : nI i + 2 = nI (i + 2) := nI_k i 2 2 (by decide)
  have cL : (nI L).toNatClampNeg = L := nI_clamp (by omega)
  have c1 : (nI (i + 1)).toNatClampNeg = i + 1 := nI_clamp (by omega)
  have c2 : (nI (i + 2)).toNatClampNeg = i + 2 := nI_clamp (by omega)
  exact ⟨M2, fun Q => by rw [b211_290, hL, cL, v1, v2, c1, c2, and_iff_right (vp_in_nI (show i + 1 < L by omega) (by omega)), and_iff_right (vp_in_nI (show i + 2 < L by omega) (by omega)), r1, b211_304, e2, e1, cL, v1, v2, c1, c2, and_iff_right (vp_in_nI (show i + 1 < L by omega) (by omega)), and_iff_right (vp_in_nI (show i + 2 < L by omega) (by omega)), r2, b211_318, if_pos rfl], hC, f⟩
theorem lc3 (C : Cp M N T) (hL : M 1002 0 = nI L) (h6 : i + 6 ≤ L) (h3 : L ≤ 3072) : lwC d i 323 M := by
  obtain ⟨r, M1, M2, r1, r2, hC, f⟩ := m72 (d := d) C (a := M 1000 (i + 1)) (b := M 1000 (i + 2))
  have f1 : fz M M1 := r1.fz
  have e1 : M1 1000 = M 1000 := f1 1000 (by decide)
  have e2 : M1 1002 0 = nI L := by rw [f1 1002 (by decide)]; exact hL
  have v1 : nI i + 1 = nI (i + 1) := nI_k i 1 1 (by decide)
  have v2 : nI i + 2 = nI (i + 2) := nI_k i 2 2 (by decide)
  have cL : (nI L).toNatClampNeg = L := nI_clamp (by omega)
  have c1 : (nI (i + 1)).toNatClampNeg = i + 1 := nI_clamp (by omega)
  have c2 : (nI (i + 2)).toNatClampNeg = i + 2 := nI_clamp (by omega)
  exact ⟨M2, fun Q => by rw [b211_323, hL, cL, v1, v2, c1, c2, and_iff_right (vp_in_nI (show i + 1 < L by omega) (by omega)), and_iff_right (vp_in_nI (show i + 2 < L by omega) (by omega)), r1, b211_337, e2, e1, cL, v1, v2, c1, c2, and_iff_right (vp_in_nI (show i + 1 < L by omega) (by omega)), and_iff_right (vp_in_nI (show i + 2 < L by omega) (by omega)), r2, b211_351, if_pos rfl], hC, f⟩
theorem lc4 (C : Cp M N T) (hL : M 1002 0 = nI L) (h6 : i + 6 ≤ L) (h3 : L ≤ 3072) : lwC d i 356 M := by
  obtain ⟨r, M1, M2, r1, r2, hC, f⟩ := m73 (d := d) C (a := M 1000 (i + 1)) (b := M 1000 (i + 2)) (c := M 1000 (i + 3))
  have f1 : fz M M1 := r1.fz
  have e1 : M1 1000 = M 1000 := f1 1000 (by decide)
  have e2 : M1 1002 0 = nI L := by rw [f1 1002 (by decide)]; exact hL
  have v1 : nI i + 1 = nI (i + 1) := nI_k i 1 1 (by decide)
  have v2 : nI i + 2 = nI (i + 2) := nI_k i 2 2 (by decide)
  have v3 : nI i + 3 = nI (i + 3) := nI_k i 3 3 (by decide)
  have cL : (nI L).toNatClampNeg = L := nI_clamp (by omega)
  have c1 : (nI (i + 1)).toNatClampNeg = i + 1 := nI_clamp (by omega)
  have c2 : (nI (i + 2)).toNatClampNeg = i + 2 := nI_clamp (by omega)
  have c3 : (nI (i + 3)).toNatClampNeg = i + 3 := nI_clamp (by omega)
  exact ⟨M2, fun Q => by rw [b211_356, hL, cL, v1, v2, v3, c1, c2, c3, and_iff_right (vp_in_nI (show i + 1 < L by omega) (by omega)), and_iff_right (vp_in_nI (show i + 2 < L by omega) (by omega)), and_iff_right (vp_in_nI (show i + 3 < L by omega) (by omega)), r1, b211_375, e2, e1, cL, v1, v2, v3, c1, c2, c3, and_iff_right (vp_in_nI (show i + 1 < L by omega) (by omega)), and_iff_right (vp_in_nI (show i + 2 < L by omega) (by omega)), and_iff_right (vp_in_nI (show i + 3 < L by omega) (by omega)), r2, b211_394, if_pos rfl], hC, f⟩
theorem lc5 (C : Cp M N T) (hL : M 1002 0 = nI L) (h6 : i + 6 ≤ L) (h3 : L ≤ 3072) : lwC d i 399 M := by
  obtain ⟨r, M1, M2, r1, r2, hC, f⟩ := m74 (d := d) C (a := M 1000 (i + 1)) (b := M 1000 (i + 2))
  have f1 : fz M M1 := r1.fz
  have e1 : M1 1000 = M 1000 := f1 1000 (by decide)
  have e2 : M1 1002 0 = nI L := by rw [f1 1002 (by decide)]; exact hL
  have v1 : nI i + 1 = nI (i + 1) := nI_k i 1 1 (by decide)
  have v2 : nI i + 2 = nI (i + 2) := nI_k i 2 2 (by decide)
  have cL : (nI L).toNatClampNeg = L := nI_clamp (by omega)
  have c1 : (nI (i + 1)).toNatClampNeg = i + 1 := nI_clamp (by omega)
  have c2 : (nI (i + 2)).toNatClampNeg = i + 2 := nI_clamp (by omega)
  exact ⟨M2, fun Q => by rw [b211_399, hL, cL, v1, v2, c1, c2, and_iff_right (vp_in_nI (show i + 1 < L by omega) (by omega)), and_iff_right (vp_in_nI (show i + 2 < L by omega) (by omega)), r1, b211_413, e2, e1, cL, v1, v2, c1, c2, and_iff_right (vp_in_nI (show i + 1 < L by omega) (by omega)), and_iff_right (vp_in_nI (show i + 2 < L by omega) (by omega)), r2, b211_427, if_pos rfl], hC, f⟩
theorem lc6 (C : Cp M N T) (hL : M 1002 0 = nI L) (h6 : i + 6 ≤ L) (h3 : L ≤ 3072) : lwC d i 432 M := by
  obtain ⟨r, M1, M2, r1, r2, hC, f⟩ := m75 (d := d) C (a := M 1000 (i + 1))
  have f1 : fz M M1 := r1.fz
  have e1 : M1 1000 = M 1000 := f1 1000 (by decide)
  have e2 : M1 1002 0 = nI L := by rw [f1 1002 (by decide)]; exact hL
  have v1 : nI i + 1 = nI (i + 1) := nI_k i 1 1 (by decide)
  have cL : (nI L).toNatClampNeg = L := nI_clamp (by omega)
  have c1 : (nI (i + 1)).toNatClampNeg = i + 1 := nI_clamp (by omega)
  exact ⟨M2, fun Q => by rw [b211_432, hL, cL, v1, c1, and_iff_right (vp_in_nI (show i + 1 < L by omega) (by omega)), r1, b211_441, e2, e1, cL, v1, c1, and_iff_right (vp_in_nI (show i + 1 < L by omega) (by omega)), r2, b211_450, if_pos rfl], hC, f⟩
theorem lc7 (C : Cp M N T) (hL : M 1002 0 = nI L) (h6 : i + 6 ≤ L) (h3 : L ≤ 3072) : lwC d i 455 M := by
  obtain ⟨r, M1, M2, r1, r2, hC, f⟩ := m76 (d := d) C (a := M 1000 (i + 1))
  have f1 : fz M M1 := r1.fz
  have e1 : M1 1000 = M 1000 := f1 1000 (by decide)
  have e2 : M1 1002 0 = nI L := by rw [f1 1002 (by decide)]; exact hL
  have v1 : nI i + 1 = nI (i + 1) := nI_k i 1 1 (by decide)
  have cL : (nI L).toNatClampNeg = L := nI_clamp (by omega)
  have c1 : (nI (i + 1)).toNatClampNeg = i + 1 := nI_clamp (by omega)
  exact ⟨M2, fun Q => by rw [b211_455, hL, cL, v1, c1, and_iff_right (vp_in_nI (show i + 1 < L by omega) (by omega)), r1, b211_464, e2, e1, cL, v1, c1, and_iff_right (vp_in_nI (show i + 1 < L by omega) (by omega)), r2, b211_473, if_pos rfl], hC, f⟩
theorem lc8 (C : Cp M N T) (hL : M 1002 0 = nI L) (h6 : i + 6 ≤ L) (h3 : L ≤ 3072) : lwC d i 478 M := by
  obtain ⟨r, M1, M2, r1, r2, hC, f⟩ := m77 (d := d) C (a := M 1000 (i + 1)) (b := M 1000 (i + 2))
  have f1 : fz M M1 := r1.fz
  have e1 : M1 1000 = M 1000 := f1 1000 (by decide)
  have e2 : M1 1002 0 = nI L := by rw [f1 1002 (by decide)]; exact hL
  have v1 : nI i + 1 = nI (i + 1) := nI_k i 1 1 (by decide)
  have v2 : nI i + 2 = nI (i + 2) := nI_k i 2 2 (by decide)
  have cL : (nI L).toNatClampNeg = L := nI_clamp (by omega)
  have c1 : (nI (i + 1)).toNatClampNeg = i + 1 := nI_clamp (by omega)
  have c2 : (nI (i + 2)).toNatClampNeg = i + 2 := nI_clamp (by omega)
  exact ⟨M2, fun Q => by rw [b211_478, hL, cL, v1, v2, c1, c2, and_iff_right (vp_in_nI (show i + 1 < L by omega) (by omega)), and_iff_right (vp_in_nI (show i + 2 < L by omega) (by omega)), r1, b211_492, e2, e1, cL, v1, v2, c1, c2, and_iff_right (vp_in_nI (show i + 1 < L by omega) (by omega)), and_iff_right (vp_in_nI (show i + 2 < L by omega) (by omega)), r2, b211_506, if_pos rfl], hC, f⟩
theorem lc9 (C : Cp M N T) (hL : M 1002 0 = nI L) (h6 : i + 6 ≤ L) (h3 : L ≤ 3072) : lwC d i 511 M := by
  obtain ⟨r, M1, M2, r1, r2, hC, f⟩ := m78 (d := d) C (a := M 1000 (i + 1))
  have f1 : fz M M1 := r1.fz
  have e1 : M1 1000 = M 1000 := f1 1000 (by decide)
  have e2 : M1 1002 0 = nI L := by rw [f1 1002 (by decide)]; exact hL
  have v1 : nI i + 1 = nI (i + 1) := nI_k i 1 1 (by decide)
  have cL : (nI L).toNatClampNeg = L := nI_clamp (by omega)
  have c1 : (nI (i + 1)).toNatClampNeg = i + 1 := nI_clamp (by omega)
  exact ⟨M2, fun Q => by rw [b211_511, hL, cL, v1, c1, and_iff_right (vp_in_nI (show i + 1 < L by omega) (by omega)), r1, b211_520, e2, e1, cL, v1, c1, and_iff_right (vp_in_nI (show i + 1 < L by omega) (by omega)), r2, b211_529, if_pos rfl], hC, f⟩
theorem lc10 (C : Cp M N T) (hL : M 1002 0 = nI L) (h6 : i + 6 ≤ L) (h3 : L ≤ 3072) : lwC d i 534 M := by
  obtain ⟨r, M1, M2, r1, r2, hC, f⟩ := m79 (d := d) C (a := M 1000 (i + 1))
  have f1 : fz M M1 := r1.fz
  have e1 : M1 1000 = M 1000 := f1 1000 (by decide)
  have e2 : M1 1002 0 = nI L := by rw [f1 1002 (by decide)]; exact hL
  have v1 : nI i + 1 = nI (i + 1) := nI_k i 1 1 (by decide)
  have cL : (nI L).toNatClampNeg = L := nI_clamp (by omega)
  have c1 : (nI (i + 1)).toNatClampNeg = i + 1 := nI_clamp (by omega)
  exact ⟨M2, fun Q => by rw [b211_534, hL, cL, v1, c1, and_iff_right (vp_in_nI (show i + 1 < L by omega) (by omega)), r1, b211_543, e2, e1, cL, v1, c1, and_iff_right (vp_in_nI (show i + 1 < L by omega) (by omega)), r2, b211_552, if_pos rfl], hC, f⟩
theorem lc11 (C : Cp M N T) (hL : M 1002 0 = nI L) (h6 : i + 6 ≤ L) (h3 : L ≤ 3072) : lwC d i 557 M := by
  obtain ⟨r, M1, M2, r1, r2, hC, f⟩ := m80 (d := d) C (a := M 1000 (i + 1))
  have f1 : fz M M1 := r1.fz
  have e1 : M1 1000 = M 1000 := f1 1000 (by decide)
  have e2 : M1 1002 0 = nI L := by rw [f1 1002 (by decide)]; exact hL
  have v1 : nI i + 1 = nI (i + 1) := nI_k i 1 1 (by decide)
  have cL : (nI L).toNatClampNeg = L := nI_clamp (by omega)
  have c1 : (nI (i + 1)).toNatClampNeg = i + 1 := nI_clamp (by omega)
  exact ⟨M2, fun Q => by rw [b211_557, hL, cL, v1, c1, and_iff_right (vp_in_nI (show i + 1 < L by omega) (by omega)), r1, b211_566, e2, e1, cL, v1, c1, and_iff_right (vp_in_nI (show i + 1 < L by omega) (by omega)), r2, b211_575, if_pos rfl], hC, f⟩
theorem lc12 (C : Cp M N T) (hL : M 1002 0 = nI L) (h6 : i + 6 ≤ L) (h3 : L ≤ 3072) : lwC d i 580 M := by
  obtain ⟨r, M1, M2, r1, r2, hC, f⟩ := m81 (d := d) C (a := M 1000 (i + 1)) (b := M 1000 (i + 2))
  have f1 : fz M M1 := r1.fz
  have e1 : M1 1000 = M 1000 := f1 1000 (by decide)
  have e2 : M1 1002 0 = nI L := by rw [f1 1002 (by decide)]; exact hL
  have v1 : nI i + 1 = nI (i + 1) := nI_k i 1 1 (by decide)
  have v2 : nI i + 2 = nI (i + 2) := nI_k i 2 2 (by decide)
  have cL : (nI L).toNatClampNeg = L := nI_clamp (by omega)
  have c1 : (nI (i + 1)).toNatClampNeg = i + 1 := nI_clamp (by omega)
  have c2 : (nI (i + 2)).toNatClampNeg = i + 2 := nI_clamp (by omega)
  exact ⟨M2, fun Q => by rw [b211_580, hL, cL, v1, v2, c1, c2, and_iff_right (vp_in_nI (show i + 1 < L by omega) (by omega)), and_iff_right (vp_in_nI (show i + 2 < L by omega) (by omega)), r1, b211_594, e2, e1, cL, v1, v2, c1, c2, and_iff_right (vp_in_nI (show i + 1 < L by omega) (by omega)), and_iff_right (vp_in_nI (show i + 2 < L by omega) (by omega)), r2, b211_608, if_pos rfl], hC, f⟩
theorem lc13 (C : Cp M N T) (hL : M 1002 0 = nI L) (h6 : i + 6 ≤ L) (h3 : L ≤ 3072) : lwC d i 613 M := by
  obtain ⟨r, M1, M2, r1, r2, hC, f⟩ := m82 (d := d) C (a := M 1000 (i + 1)) (b := M 1000 (i + 2))
  have f1 : fz M M1 := r1.fz
  have e1 : M1 1000 = M 1000 := f1 1000 (by decide)
  have e2 : M1 1002 0 = nI L := by rw [f1 1002 (by decide)]; exact hL
  have v1 : nI i + 1 = nI (i + 1) := nI_k i 1 1 (by decide)
  have v2 : nI i + 2 = nI (i + 2) := nI_k i 2 2 (by decide)
  have cL : (nI L).toNatClampNeg = L := nI_clamp (by omega)
  have c1 : (nI (i + 1)).toNatClampNeg = i + 1 := nI_clamp (by omega)
  have c2 : (nI (i + 2)).toNatClampNeg = i + 2 := nI_clamp (by omega)
  exact ⟨M2, fun Q => by rw [b211_613, hL, cL, v1, v2, c1, c2, and_iff_right (vp_in_nI (show i + 1 < L by omega) (by omega)), and_iff_right (vp_in_nI (show i + 2 < L by omega) (by omega)), r1, b211_627, e2, e1, cL, v1, v2, c1, c2, and_iff_right (vp_in_nI (show i + 1 < L by omega) (by omega)), and_iff_right (vp_in_nI (show i + 2 < L by omega) (by omega)), r2, b211_641, if_pos rfl], hC, f⟩
theorem lc14 (C : Cp M N T) (hL : M 1002 0 = nI L) (h6 : i + 6 ≤ L) (h3 : L ≤ 3072) : lwC d i 646 M := by
  obtain ⟨r, M1, M2, r1, r2, hC, f⟩ := m83 (d := d) C (a := M 1000 (i + 1)) (b := M 1000 (i + 2))
  have f1 : fz M M1 := r1.fz
  have e1 : M1 1000 = M 1000 := f1 1000 (by decide)
  have e2 : M1 1002 0 = nI L := by rw [f1 1002 (by decide)]; exact hL
  have v1 : nI i + 1 = nI (i + 1) := nI_k i 1 1 (by decide)
  have v2 : nI i + 2 = nI (i + 2) := nI_k i 2 2 (by decide)
  have cL : (nI L).toNatClampNeg = L := nI_clamp (by omega)
  have c1 : (nI (i + 1)).toNatClampNeg = i + 1 := nI_clamp (by omega)
  have c2 : (nI (i + 2)).toNatClampNeg = i + 2 := nI_clamp (by omega)
  exact ⟨M2, fun Q => by rw [b211_646, hL, cL, v1, v2, c1, c2, and_iff_right (vp_in_nI (show i + 1 < L by omega) (by omega)), and_iff_right (vp_in_nI (show i + 2 < L by omega) (by omega)), r1, b211_660, e2, e1, cL, v1, v2, c1, c2, and_iff_right (vp_in_nI (show i + 1 < L by omega) (by omega)), and_iff_right (vp_in_nI (show i + 2 < L by omega) (by omega)), r2, b211_674, if_pos rfl], hC, f⟩
theorem lc15 (C : Cp M N T) (hL : M 1002 0 = nI L) (h6 : i + 6 ≤ L) (h3 : L ≤ 3072) : lwC d i 679 M := by
  obtain ⟨r, M1, M2, r1, r2, hC, f⟩ := m84 (d := d) C (a := M 1000 (i + 1)) (b := M 1000 (i + 2))
  have f1 : fz M M1 := r1.fz
  have e1 : M1 1000 = M 1000 := f1 1000 (by decide)
  have e2 : M1 1002 0 = nI L := by rw [f1 1002 (by decide)]; exact hL
  have v1 : nI i + 1 = nI (i + 1) := nI_k i 1 1 (by decide)
  have v2 : nI i + 2 = nI (i + 2) := nI_k i 2 2 (by decide)
  have cL : (nI L).toNatClampNeg = L := nI_clamp (by omega)
  have c1 : (nI (i + 1)).toNatClampNeg = i + 1 := nI_clamp (by omega)
  have c2 : (nI (i + 2)).toNatClampNeg = i + 2 := nI_clamp (by omega)
  exact ⟨M2, fun Q => by rw [b211_679, hL, cL, v1, v2, c1, c2, and_iff_right (vp_in_nI (show i + 1 < L by omega) (by omega)), and_iff_right (vp_in_nI (show i + 2 < L by omega) (by omega)), r1, b211_693, e2, e1, cL, v1, v2, c1, c2, and_iff_right (vp_in_nI (show i + 1 < L by omega) (by omega)), and_iff_right (vp_in_nI (show i + 2 < L by omega) (by omega)), r2, b211_707, if_pos rfl], hC, f⟩
theorem lc16 (C : Cp M N T) (hL : M 1002 0 = nI L) (h6 : i + 6 ≤ L) (h3 : L ≤ 3072) : lwC d i 712 M := by
  obtain ⟨r, M1, M2, r1, r2, hC, f⟩ := m85 (d := d) C (p := M 1000 (i + 1)) (a := M 1000 (i + 2)) (b := M 1000 (i + 3))
  have f1 : fz M M1 := r1.fz
  have e1 : M1 1000 = M 1000 := f1 1000 (by decide)
  have e2 : M1 1002 0 = nI L := by rw [f1 1002 (by decide)]; exact hL
  have v1 : nI i + 1 = nI (i + 1) := nI_k i 1 1 (by decide)
  have v2 : nI i + 2 = nI (i + 2) := nI_k i 2 2 (by decide)
  have v3 : nI i + 3 = nI (i + 3) := nI_k i 3 3 (by decide)
  have cL : (nI L).toNatClampNeg = L := nI_clamp (by omega)
  have c1 : (nI (i + 1)).toNatClampNeg = i + 1 := nI_clamp (by omega)
  have c2 : (nI (i + 2)).toNatClampNeg = i + 2 := nI_clamp (by omega)
  have c3 : (nI (i + 3)).toNatClampNeg = i + 3 := nI_clamp (by omega)
  exact ⟨M2, fun Q => by rw [b211_712, hL, cL, v1, v2, v3, c1, c2, c3, and_iff_right (vp_in_nI (show i + 1 < L by omega) (by omega)), and_iff_right (vp_in_nI (show i + 2 < L by omega) (by omega)), and_iff_right (vp_in_nI (show i + 3 < L by omega) (by omega)), r1, b211_731, e2, e1, cL, v1, v2, v3, c1, c2, c3, and_iff_right (vp_in_nI (show i + 1 < L by omega) (by omega)), and_iff_right (vp_in_nI (show i + 2 < L by omega) (by omega)), and_iff_right (vp_in_nI (show i + 3 < L by omega) (by omega)), r2, b211_750, if_pos rfl], hC, f⟩
theorem lc17 (C : Cp M N T) (hL : M 1002 0 = nI L) (h6 : i + 6 ≤ L) (h3 : L ≤ 3072) : lwC d i 755 M := by
  obtain ⟨r, M1, M2, r1, r2, hC, f⟩ := m86 (d := d) C (a := M 1000 (i + 1)) (b := M 1000 (i + 2))
  have f1 : fz M M1 := r1.fz
  have e1 : M1 1000 = M 1000 := f1 1000 (by decide)
  have e2 : M1 1002 0 = nI L := by rw [f1 1002 (by decide)]; exact hL
  have v1 : nI i + 1 = nI (i + 1) := nI_k i 1 1 (by decide)
  have v2 : nI i + 2 = nI (i + 2) := nI_k i 2 2 (by decide)
  have cL : (nI L).toNatClampNeg = L := nI_clamp (by omega)
  have c1 : (nI (i + 1)).toNatClampNeg = i + 1 := nI_clamp (by omega)
  have c2 : (nI (i + 2)).toNatClampNeg = i + 2 := nI_clamp (by omega)
  exact ⟨M2, fun Q => by rw [b211_755, hL, cL, v1, v2, c1, c2, and_iff_right (vp_in_nI (show i + 1 < L by omega) (by omega)), and_iff_right (vp_in_nI (show i + 2 < L by omega) (by omega)), r1, b211_769, e2, e1, cL, v1, v2, c1, c2, and_iff_right (vp_in_nI (show i + 1 < L by omega) (by omega)), and_iff_right (vp_in_nI (show i + 2 < L by omega) (by omega)), r2, b211_783, if_pos rfl], hC, f⟩
theorem lc18 (C : Cp M N T) (hL : M 1002 0 = nI L) (h6 : i + 6 ≤ L) (h3 : L ≤ 3072) : lwC d i 788 M := by
  obtain ⟨r, M1, M2, r1, r2, hC, f⟩ := m87 (d := d) C 
  exact ⟨M2, fun Q => by rw [b211_788, r1, b211_792, r2, b211_796, if_pos rfl], hC, f⟩
theorem lc19 (C : Cp M N T) (hL : M 1002 0 = nI L) (h6 : i + 6 ≤ L) (h3 : L ≤ 3072) : lwC d i 801 M := by
  obtain ⟨r, M1, M2, r1, r2, hC, f⟩ := m88 (d := d) C (a := M 1000 (i + 1))
  have f1 : fz M M1 := r1.fz
  have e1 : M1 1000 = M 1000 := f1 1000 (by decide)
  have e2 : M1 1002 0 = nI L := by rw [f1 1002 (by decide)]; exact hL
  have v1 : nI i + 1 = nI (i + 1) := nI_k i 1 1 (by decide)
  have cL : (nI L).toNatClampNeg = L := nI_clamp (by omega)
  have c1 : (nI (i + 1)).toNatClampNeg = i + 1 := nI_clamp (by omega)
  exact ⟨M2, fun Q => by rw [b211_801, hL, cL, v1, c1, and_iff_right (vp_in_nI (show i + 1 < L by omega) (by omega)), r1, b211_810, e2, e1, cL, v1, c1, and_iff_right (vp_in_nI (show i + 1 < L by omega) (by omega)), r2, b211_819, if_pos rfl], hC, f⟩
theorem lc20 (C : Cp M N T) (hL : M 1002 0 = nI L) (h6 : i + 6 ≤ L) (h3 : L ≤ 3072) : lwC d i 824 M := by
  obtain ⟨r, M1, M2, r1, r2, hC, f⟩ := m89 (d := d) C (a := M 1000 (i + 1)) (b := M 1000 (i + 2)) (c := M 1000 (i + 3))
  have f1 : fz M M1 := r1.fz
  have e1 : M1 1000 = M 1000 := f1 1000 (by decide)
  have e2 : M1 1002 0 = nI L := by rw [f1 1002 (by decide)]; exact hL
  have v1 : nI i + 1 = nI (i + 1) := nI_k i 1 1 (by decide)
  have v2 : nI i + 2 = nI (i + 2) := nI_k i 2 2 (by decide)
  have v3 : nI i + 3 = nI (i + 3) := nI_k i 3 3 (by decide)
  have cL : (nI L).toNatClampNeg = L := nI_clamp (by omega)
  have c1 : (nI (i + 1)).toNatClampNeg = i + 1 := nI_clamp (by omega)
  have c2 : (nI (i + 2)).toNatClampNeg = i + 2 := nI_clamp (by omega)
  have c3 : (nI (i + 3)).toNatClampNeg = i + 3 := nI_clamp (by omega)
  exact ⟨M2, fun Q => by rw [b211_824, hL, cL, v1, v2, v3, c1, c2, c3, and_iff_right (vp_in_nI (show i + 1 < L by omega) (by omega)), and_iff_right (vp_in_nI (show i + 2 < L by omega) (by omega)), and_iff_right (vp_in_nI (show i + 3 < L by omega) (by omega)), r1, b211_843, e2, e1, cL, v1, v2, v3, c1, c2, c3, and_iff_right (vp_in_nI (show i + 1 < L by omega) (by omega)), and_iff_right (vp_in_nI (show i + 2 < L by omega) (by omega)), and_iff_right (vp_in_nI (show i + 3 < L by omega) (by omega)), r2, b211_862, if_pos rfl], hC, f⟩
theorem lc21 (C : Cp M N T) (hL : M 1002 0 = nI L) (h6 : i + 6 ≤ L) (h3 : L ≤ 3072) : lwC d i 867 M := by
  obtain ⟨r, M1, M2, r1, r2, hC, f⟩ := m90 (d := d) C (a := M 1000 (i + 1))
  have f1 : fz M M1 := r1.fz
  have e1 : M1 1000 = M 1000 := f1 1000 (by decide)
  have e2 : M1 1002 0 = nI L := by rw [f1 1002 (by decide)]; exact hL
  have v1 : nI i + 1 = nI (i + 1) := nI_k i 1 1 (by decide)
  have cL : (nI L).toNatClampNeg = L := nI_clamp (by omega)
  have c1 : (nI (i + 1)).toNatClampNeg = i + 1 := nI_clamp (by omega)
  exact ⟨M2, fun Q => by rw [b211_867, hL, cL, v1, c1, and_iff_right (vp_in_nI (show i + 1 < L by omega) (by omega)), r1, b211_876, e2, e1, cL, v1, c1, and_iff_right (vp_in_nI (show i + 1 < L by omega) (by omega)), r2, b211_885, if_pos rfl], hC, f⟩
theorem lc22 (C : Cp M N T) (hL : M 1002 0 = nI L) (h6 : i + 6 ≤ L) (h3 : L ≤ 3072) : lwC d i 890 M := by
  obtain ⟨r, M1, M2, r1, r2, hC, f⟩ := m91 (d := d) C 
  exact ⟨M2, fun Q => by rw [b211_890, r1, b211_894, r2, b211_898, if_pos rfl], hC, f⟩
theorem lc23 (C : Cp M N T) (hL : M 1002 0 = nI L) (h6 : i + 6 ≤ L) (h3 : L ≤ 3072) : lwC d i 903 M := by
  obtain ⟨r, M1, M2, r1, r2, hC, f⟩ := m92 (d := d) C (a := M 1000 (i + 1)) (b := M 1000 (i + 2))
  have f1 : fz M M1 := r1.fz
  have e1 : M1 1000 = M 1000 := f1 1000 (by decide)
  have e2 : M1 1002 0 = nI L := by rw [f1 1002 (by decide)]; exact hL
  have v1 : nI i + 1 = nI (i + 1) := nI_k i 1 1 (by decide)
  have v2 : nI i + 2 = nI (i + 2) := nI_k i 2 2 (by decide)
  have cL : (nI L).toNatClampNeg = L := nI_clamp (by omega)
  have c1 : (nI (i + 1)).toNatClampNeg = i + 1 := nI_clamp (by omega)
  have c2 : (nI (i + 2)).toNatClampNeg = i + 2 := nI_clamp (by omega)
  exact ⟨M2, fun Q => by rw [b211_903, hL, cL, v1, v2, c1, c2, and_iff_right (vp_in_nI (show i + 1 < L by omega) (by omega)), and_iff_right (vp_in_nI (show i + 2 < L by omega) (by omega)), r1, b211_917, e2, e1, cL, v1, v2, c1, c2, and_iff_right (vp_in_nI (show i + 1 < L by omega) (by omega)), and_iff_right (vp_in_nI (show i + 2 < L by omega) (by omega)), r2, b211_931, if_pos rfl], hC, f⟩
theorem lc24 (C : Cp M N T) (hL : M 1002 0 = nI L) (h6 : i + 6 ≤ L) (h3 : L ≤ 3072) : lwC d i 936 M := by
  obtain ⟨r, M1, M2, r1, r2, hC, f⟩ := m93 (d := d) C (a := M 1000 (i + 1))
  have f1 : fz M M1 := r1.fz
  have e1 : M1 1000 = M 1000 := f1 1000 (by decide)
  have e2 : M1 1002 0 = nI L := by rw [f1 1002 (by decide)]; exact hL
  have v1 : nI i + 1 = nI (i + 1) := nI_k i 1 1 (by decide)
  have cL : (nI L).toNatClampNeg = L := nI_clamp (by omega)
  have c1 : (nI (i + 1)).toNatClampNeg = i + 1 := nI_clamp (by omega)
  exact ⟨M2, fun Q => by rw [b211_936, hL, cL, v1, c1, and_iff_right (vp_in_nI (show i + 1 < L by omega) (by omega)), r1, b211_945, e2, e1, cL, v1, c1, and_iff_right (vp_in_nI (show i + 1 < L by omega) (by omega)), r2, b211_954, if_pos rfl], hC, f⟩
theorem lc25 (C : Cp M N T) (hL : M 1002 0 = nI L) (h6 : i + 6 ≤ L) (h3 : L ≤ 3072) : lwC d i 959 M := by
  obtain ⟨r, M1, M2, r1, r2, hC, f⟩ := m94 (d := d) C (a := M 1000 (i + 1)) (b := M 1000 (i + 2)) (c := M 1000 (i + 3))
  have f1 : fz M M1 := r1.fz
  have e1 : M1 1000 = M 1000 := f1 1000 (by decide)
  have e2 : M1 1002 0 = nI L := by rw [f1 1002 (by decide)]; exact hL
  have v1 : nI i + 1 = nI (i + 1) := nI_k i 1 1 (by decide)
  have v2 : nI i + 2 = nI (i + 2) := nI_k i 2 2 (by decide)
  have v3 : nI i + 3 = nI (i + 3) := nI_k i 3 3 (by decide)
  have cL : (nI L).toNatClampNeg = L := nI_clamp (by omega)
  have c1 : (nI (i + 1)).toNatClampNeg = i + 1 := nI_clamp (by omega)
  have c2 : (nI (i + 2)).toNatClampNeg = i + 2 := nI_clamp (by omega)
  have c3 : (nI (i + 3)).toNatClampNeg = i + 3 := nI_clamp (by omega)
  exact ⟨M2, fun Q => by rw [b211_959, hL, cL, v1, v2, v3, c1, c2, c3, and_iff_right (vp_in_nI (show i + 1 < L by omega) (by omega)), and_iff_right (vp_in_nI (show i + 2 < L by omega) (by omega)), and_iff_right (vp_in_nI (show i + 3 < L by omega) (by omega)), r1, b211_978, e2, e1, cL, v1, v2, v3, c1, c2, c3, and_iff_right (vp_in_nI (show i + 1 < L by omega) (by omega)), and_iff_right (vp_in_nI (show i + 2 < L by omega) (by omega)), and_iff_right (vp_in_nI (show i + 3 < L by omega) (by omega)), r2, b211_997, if_pos rfl], hC, f⟩
theorem lc26 (C : Cp M N T) (hL : M 1002 0 = nI L) (h6 : i + 6 ≤ L) (h3 : L ≤ 3072) : lwC d i 1002 M := by
  obtain ⟨r, M1, M2, r1, r2, hC, f⟩ := m95 (d := d) C (a := M 1000 (i + 1)) (b := M 1000 (i + 2)) (c := M 1000 (i + 3))
  have f1 : fz M M1 := r1.fz
  have e1 : M1 1000 = M 1000 := f1 1000 (by decide)
  have e2 : M1 1002 0 = nI L := by rw [f1 1002 (by decide)]; exact hL
  have v1 : nI i + 1 = nI (i + 1) := nI_k i 1 1 (by decide)
  have v2 : nI i + 2 = nI (i + 2) := nI_k i 2 2 (by decide)
  have v3 : nI i + 3 = nI (i + 3) := nI_k i 3 3 (by decide)
  have cL : (nI L).toNatClampNeg = L := nI_clamp (by omega)
  have c1 : (nI (i + 1)).toNatClampNeg = i + 1 := nI_clamp (by omega)
  have c2 : (nI (i + 2)).toNatClampNeg = i + 2 := nI_clamp (by omega)
  have c3 : (nI (i + 3)).toNatClampNeg = i + 3 := nI_clamp (by omega)
  exact ⟨M2, fun Q => by rw [b211_1002, hL, cL, v1, v2, v3, c1, c2, c3, and_iff_right (vp_in_nI (show i + 1 < L by omega) (by omega)), and_iff_right (vp_in_nI (show i + 2 < L by omega) (by omega)), and_iff_right (vp_in_nI (show i + 3 < L by omega) (by omega)), r1, b211_1021, e2, e1, cL, v1, v2, v3, c1, c2, c3, and_iff_right (vp_in_nI (show i + 1 < L by omega) (by omega)), and_iff_right (vp_in_nI (show i + 2 < L by omega) (by omega)), and_iff_right (vp_in_nI (show i + 3 < L by omega) (by omega)), r2, b211_1040, if_pos rfl], hC, f⟩
theorem lc27 (C : Cp M N T) (hL : M 1002 0 = nI L) (h6 : i + 6 ≤ L) (h3 : L ≤ 3072) : lwC d i 1045 M := by
  obtain ⟨r, M1, M2, r1, r2, hC, f⟩ := m96 (d := d) C (a := M 1000 (i + 1))
  have f1 : fz M M1 := r1.fz
  have e1 : M1 1000 = M 1000 := f1 1000 (by decide)
  have e2 : M1 1002 0 = nI L := by rw [f1 1002 (by decide)]; exact hL
  have v1 : nI i + 1 = nI (i + 1) := nI_k i 1 1 (by decide)
  have cL : (nI L).toNatClampNeg = L := nI_clamp (by omega)
  have c1 : (nI (i + 1)).toNatClampNeg = i + 1 := nI_clamp (by omega)
  exact ⟨M2, fun Q => by rw [b211_1045, hL, cL, v1, c1, and_iff_right (vp_in_nI (show i + 1 < L by omega) (by omega)), r1, b211_1054, e2, e1, cL, v1, c1, and_iff_right (vp_in_nI (show i + 1 < L by omega) (by omega)), r2, b211_1063, if_pos rfl], hC, f⟩
theorem lc28 (C : Cp M N T) (hL : M 1002 0 = nI L) (h6 : i + 6 ≤ L) (h3 : L ≤ 3072) : lwC d i 1068 M := by
  obtain ⟨r, M1, M2, r1, r2, hC, f⟩ := m97 (d := d) C (a := M 1000 (i + 1))
  have f1 : fz M M1 := r1.fz
  have e1 : M1 1000 = M 1000 := f1 1000 (by decide)
  have e2 : M1 1002 0 = nI L := by rw [f1 1002 (by decide)]; exact hL
  have v1 : nI i + 1 = nI (i + 1) := nI_k i 1 1 (by decide)
  have cL : (nI L).toNatClampNeg = L := nI_clamp (by omega)
  have c1 : (nI (i + 1)).toNatClampNeg = i + 1 := nI_clamp (by omega)
  exact ⟨M2, fun Q => by rw [b211_1068, hL, cL, v1, c1, and_iff_right (vp_in_nI (show i + 1 < L by omega) (by omega)), r1, b211_1077, e2, e1, cL, v1, c1, and_iff_right (vp_in_nI (show i + 1 < L by omega) (by omega)), r2, b211_1086, if_pos rfl], hC, f⟩
theorem lc29 (C : Cp M N T) (hL : M 1002 0 = nI L) (h6 : i + 6 ≤ L) (h3 : L ≤ 3072) : lwC d i 1091 M := by
  obtain ⟨r, M1, M2, r1, r2, hC, f⟩ := m98 (d := d) C (a := M 1000 (i + 1)) (b := M 1000 (i + 2)) (c := M 1000 (i + 3)) (e := M 1000 (i + 4)) (g := M 1000 (i + 5))
  have f1 : fz M M1 := r1.fz
  have e1 : M1 1000 = M 1000 := f1 1000 (by decide)
  have e2 : M1 1002 0 = nI L := by rw [f1 1002 (by decide)]; exact hL
  have v1 : nI i + 1 = nI (i + 1) := nI_k i 1 1 (by decide)
  have v2 : nI i + 2 = nI (i + 2) := nI_k i 2 2 (by decide)
  have v3 : nI i + 3 = nI (i + 3) := nI_k i 3 3 (by decide)
  have v4 : nI i + 4 = nI (i + 4) := nI_k i 4 4 (by decide)
  have v5 : nI i + 5 = nI (i + 5) := nI_k i 5 5 (by decide)
  have cL : (nI L).toNatClampNeg = L := nI_clamp (by omega)
  have c1 : (nI (i + 1)).toNatClampNeg = i + 1 := nI_clamp (by omega)
  have c2 : (nI (i + 2)).toNatClampNeg = i + 2 := nI_clamp (by omega)
  have c3 : (nI (i + 3)).toNatClampNeg = i + 3 := nI_clamp (by omega)
  have c4 : (nI (i + 4)).toNatClampNeg = i + 4 := nI_clamp (by omega)
  have c5 : (nI (i + 5)).toNatClampNeg = i + 5 := nI_clamp (by omega)
  exact ⟨M2, fun Q => by rw [b211_1091, hL, cL, v1, v2, v3, v4, v5, c1, c2, c3, c4, c5, and_iff_right (vp_in_nI (show i + 1 < L by omega) (by omega)), and_iff_right (vp_in_nI (show i + 2 < L by omega) (by omega)), and_iff_right (vp_in_nI (show i + 3 < L by omega) (by omega)), and_iff_right (vp_in_nI (show i + 4 < L by omega) (by omega)), and_iff_right (vp_in_nI (show i + 5 < L by omega) (by omega)), r1, b211_1120, e2, e1, cL, v1, v2, v3, v4, v5, c1, c2, c3, c4, c5, and_iff_right (vp_in_nI (show i + 1 < L by omega) (by omega)), and_iff_right (vp_in_nI (show i + 2 < L by omega) (by omega)), and_iff_right (vp_in_nI (show i + 3 < L by omega) (by omega)), and_iff_right (vp_in_nI (show i + 4 < L by omega) (by omega)), and_iff_right (vp_in_nI (show i + 5 < L by omega) (by omega)), r2, b211_1149, if_pos rfl], hC, f⟩
theorem lc30 (C : Cp M N T) (hL : M 1002 0 = nI L) (h6 : i + 6 ≤ L) (h3 : L ≤ 3072) : lwC d i 1154 M := by
  obtain ⟨r, M1, M2, r1, r2, hC, f⟩ := m99 (d := d) C (a := M 1000 (i + 1)) (b := M 1000 (i + 2)) (c := M 1000 (i + 3))
  have f1 : fz M M1 := r1.fz
  have e1 : M1 1000 = M 1000 := f1 1000 (by decide)
  have e2 : M1 1002 0 = nI L := by rw [f1 1002 (by decide)]; exact hL
  have v1 : nI i + 1 = nI (i + 1) := nI_k i 1 1 (by decide)
  have v2 : nI i + 2 = nI (i + 2) := nI_k i 2 2 (by decide)
  have v3 : nI i + 3 = nI (i + 3) := nI_k i 3 3 (by decide)
  have cL : (nI L).toNatClampNeg = L := nI_clamp (by omega)
  have c1 : (nI (i + 1)).toNatClampNeg = i + 1 := nI_clamp (by omega)
  have c2 : (nI (i + 2)).toNatClampNeg = i + 2 := nI_clamp (by omega)
  have c3 : (nI (i + 3)).toNatClampNeg = i + 3 := nI_clamp (by omega)
  exact ⟨M2, fun Q => by rw [b211_1154, hL, cL, v1, v2, v3, c1, c2, c3, and_iff_right (vp_in_nI (show i + 1 < L by omega) (by omega)), and_iff_right (vp_in_nI (show i + 2 < L by omega) (by omega)), and_iff_right (vp_in_nI (show i + 3 < L by omega) (by omega)), r1, b211_1173, e2, e1, cL, v1, v2, v3, c1, c2, c3, and_iff_right (vp_in_nI (show i + 1 < L by omega) (by omega)), and_iff_right (vp_in_nI (show i + 2 < L by omega) (by omega)), and_iff_right (vp_in_nI (show i + 3 < L by omega) (by omega)), r2, b211_1192, if_pos rfl], hC, f⟩
theorem lc31 (C : Cp M N T) (hL : M 1002 0 = nI L) (h6 : i + 6 ≤ L) (h3 : L ≤ 3072) : lwC d i 1197 M := by
  obtain ⟨r, M1, M2, r1, r2, hC, f⟩ := m100 (d := d) C (a := M 1000 (i + 1)) (b := M 1000 (i + 2))
  have f1 : fz M M1 := r1.fz
  have e1 : M1 1000 = M 1000 := f1 1000 (by decide)
  have e2 : M1 1002 0 = nI L := by rw [f1 1002 (by decide)]; exact hL
  have v1 : nI i + 1 = nI (i + 1) := nI_k i 1 1 (by decide)
  have v2 : nI i + 2 = nI (i + 2) := nI_k i 2 2 (by decide)
  have cL : (nI L).toNatClampNeg = L := nI_clamp (by omega)
  have c1 : (nI (i + 1)).toNatClampNeg = i + 1 := nI_clamp (by omega)
  have c2 : (nI (i + 2)).toNatClampNeg = i + 2 := nI_clamp (by omega)
  exact ⟨M2, fun Q => by rw [b211_1197, hL, cL, v1, v2, c1, c2, and_iff_right (vp_in_nI (show i + 1 < L by omega) (by omega)), and_iff_right (vp_in_nI (show i + 2 < L by omega) (by omega)), r1, b211_1211, e2, e1, cL, v1, v2, c1, c2, and_iff_right (vp_in_nI (show i + 1 < L by omega) (by omega)), and_iff_right (vp_in_nI (show i + 2 < L by omega) (by omega)), r2, b211_1225, if_pos rfl], hC, f⟩
theorem lc32 (C : Cp M N T) (hL : M 1002 0 = nI L) (h6 : i + 6 ≤ L) (h3 : L ≤ 3072) : lwC d i 1230 M := by
  obtain ⟨r, M1, M2, r1, r2, hC, f⟩ := m101 (d := d) C (a := M 1000 (i + 1)) (b := M 1000 (i + 2))
  have f1 : fz M M1 := r1.fz
  have e1 : M1 1000 = M 1000 := f1 1000 (by decide)
  have e2 : M1 1002 0 = nI L := by rw [f1 1002 (by decide)]; exact hL
  have v1 : nI i + 1 = nI (i + 1) := nI_k i 1 1 (by decide)
  have v2 : nI i + 2 = nI (i + 2) := nI_k i 2 2 (by decide)
  have cL : (nI L).toNatClampNeg = L := nI_clamp (by omega)
  have c1 : (nI (i + 1)).toNatClampNeg = i + 1 := nI_clamp (by omega)
  have c2 : (nI (i + 2)).toNatClampNeg = i + 2 := nI_clamp (by omega)
  exact ⟨M2, fun Q => by rw [b211_1230, hL, cL, v1, v2, c1, c2, and_iff_right (vp_in_nI (show i + 1 < L by omega) (by omega)), and_iff_right (vp_in_nI (show i + 2 < L by omega) (by omega)), r1, b211_1244, e2, e1, cL, v1, v2, c1, c2, and_iff_right (vp_in_nI (show i + 1 < L by omega) (by omega)), and_iff_right (vp_in_nI (show i + 2 < L by omega) (by omega)), r2, b211_1258, if_pos rfl], hC, f⟩
theorem lc33 (C : Cp M N T) (hL : M 1002 0 = nI L) (h6 : i + 6 ≤ L) (h3 : L ≤ 3072) : lwC d i 1263 M := by
  obtain ⟨r, M1, M2, r1, r2, hC, f⟩ := m102 (d := d) C (a := M 1000 (i + 1)) (b := M 1000 (i + 2))
  have f1 : fz M M1 := r1.fz
  have e1 : M1 1000 = M 1000 := f1 1000 (by decide)
  have e2 : M1 1002 0 = nI L := by rw [f1 1002 (by decide)]; exact hL
  have v1 : nI i + 1 = nI (i + 1) := nI_k i 1 1 (by decide)
  have v2 : nI i + 2 = nI (i + 2) := nI_k i 2 2 (by decide)
  have cL : (nI L).toNatClampNeg = L := nI_clamp (by omega)
  have c1 : (nI (i + 1)).toNatClampNeg = i + 1 := nI_clamp (by omega)
  have c2 : (nI (i + 2)).toNatClampNeg = i + 2 := nI_clamp (by omega)
  exact ⟨M2, fun Q => by rw [b211_1263, hL, cL, v1, v2, c1, c2, and_iff_right (vp_in_nI (show i + 1 < L by omega) (by omega)), and_iff_right (vp_in_nI (show i + 2 < L by omega) (by omega)), r1, b211_1277, e2, e1, cL, v1, v2, c1, c2, and_iff_right (vp_in_nI (show i + 1 < L by omega) (by omega)), and_iff_right (vp_in_nI (show i + 2 < L by omega) (by omega)), r2, b211_1291, if_pos rfl], hC, f⟩
theorem lc34 (C : Cp M N T) (hL : M 1002 0 = nI L) (h6 : i + 6 ≤ L) (h3 : L ≤ 3072) : lwC d i 1296 M := by
  obtain ⟨r, M1, M2, r1, r2, hC, f⟩ := m103 (d := d) C (a := M 1000 (i + 1))
  have f1 : fz M M1 := r1.fz
  have e1 : M1 1000 = M 1000 := f1 1000 (by decide)
  have e2 : M1 1002 0 = nI L := by rw [f1 1002 (by decide)]; exact hL
  have v1 : nI i + 1 = nI (i + 1) := nI_k i 1 1 (by decide)
  have cL : (nI L).toNatClampNeg = L := nI_clamp (by omega)
  have c1 : (nI (i + 1)).toNatClampNeg = i + 1 := nI_clamp (by omega)
  exact ⟨M2, fun Q => by rw [b211_1296, hL, cL, v1, c1, and_iff_right (vp_in_nI (show i + 1 < L by omega) (by omega)), r1, b211_1305, e2, e1, cL, v1, c1, and_iff_right (vp_in_nI (show i + 1 < L by omega) (by omega)), r2, b211_1314, if_pos rfl], hC, f⟩
theorem lc35 (C : Cp M N T) (hL : M 1002 0 = nI L) (h6 : i + 6 ≤ L) (h3 : L ≤ 3072) : lwC d i 1319 M := by
  obtain ⟨r, M1, M2, r1, r2, hC, f⟩ := m104 (d := d) C (a := M 1000 (i + 1))
  have f1 : fz M M1 := r1.fz
  have e1 : M1 1000 = M 1000 := f1 1000 (by decide)
  have e2 : M1 1002 0 = nI L := by rw [f1 1002 (by decide)]; exact hL
  have v1 : nI i + 1 = nI (i + 1) := nI_k i 1 1 (by decide)
  have cL : (nI L).toNatClampNeg = L := nI_clamp (by omega)
  have c1 : (nI (i + 1)).toNatClampNeg = i + 1 := nI_clamp (by omega)
  exact ⟨M2, fun Q => by rw [b211_1319, hL, cL, v1, c1, and_iff_right (vp_in_nI (show i + 1 < L by omega) (by omega)), r1, b211_1328, e2, e1, cL, v1, c1, and_iff_right (vp_in_nI (show i + 1 < L by omega) (by omega)), r2, b211_1337, if_pos rfl], hC, f⟩
theorem lc36 (C : Cp M N T) (hL : M 1002 0 = nI L) (h6 : i + 6 ≤ L) (h3 : L ≤ 3072) : lwC d i 1342 M := by
  obtain ⟨r, M1, M2, r1, r2, hC, f⟩ := m105 (d := d) C 
  exact ⟨M2, fun Q => by rw [b211_1342, r1, b211_1346, r2, b211_1350, if_pos rfl], hC, f⟩
theorem lc37 (C : Cp M N T) (hL : M 1002 0 = nI L) (h6 : i + 6 ≤ L) (h3 : L ≤ 3072) : lwC d i 1355 M := by
  obtain ⟨r, M1, M2, r1, r2, hC, f⟩ := m106 (d := d) C 
  exact ⟨M2, fun Q => by rw [b211_1355, r1, b211_1359, r2, b211_1363, if_pos rfl], hC, f⟩
theorem lc38 (C : Cp M N T) (hL : M 1002 0 = nI L) (h6 : i + 6 ≤ L) (h3 : L ≤ 3072) : lwC d i 1368 M := by
  obtain ⟨r, M1, M2, r1, r2, hC, f⟩ := m107 (d := d) C (a := M 1000 (i + 1))
  have f1 : fz M M1 := r1.fz
  have e1 : M1 1000 = M 1000 := f1 1000 (by decide)
  have e2 : M1 1002 0 = nI L := by rw [f1 1002 (by decide)]; exact hL
  have v1 : nI i + 1 = nI (i + 1) := nI_k i 1 1 (by decide)
  have cL : (nI L).toNatClampNeg = L := nI_clamp (by omega)
  have c1 : (nI (i + 1)).toNatClampNeg = i + 1 := nI_clamp (by omega)
  exact ⟨M2, fun Q => by rw [b211_1368, hL, cL, v1, c1, and_iff_right (vp_in_nI (show i + 1 < L by omega) (by omega)), r1, b211_1377, e2, e1, cL, v1, c1, and_iff_right (vp_in_nI (show i + 1 < L by omega) (by omega)), r2, b211_1386, if_pos rfl], hC, f⟩
theorem lw_ex (hL : L ≤ 3072) (hi : i ≤ 4000) : (nI L - 6 < nI i) ↔ L < i + 6 := by
  by_cases z : 6 ≤ L
  · rw [show (6 : Int32) = nI 6 by decide, nI_sub z, nI_ltI (by omega) (by omega)]; omega
  · have h0 : ∀ L, L < 6 → nI L - 6 < 0 := by decide
    refine ⟨fun _ => by omega, fun _ => Int32.lt_of_lt_of_le (h0 L (by omega)) (nI_pos' (by omega))⟩
/-- the loop -/
theorem lawLoop (h3 : L ≤ 3072) : ∀ (w i : Nat) (M : IM) (N T : Nat), L ≤ i + w → i ≤ 4000 → Cp M N T → M 1002 0 = nI L → E (d + 201, 211, 18, [.ref 1000, .ref 0, .ref 121, .int (nI i)], [], M) (fun r _ => r = .int 1) := by
  intro w
  induction w with
  | zero =>
    intro i M N T hw hi C hL
    have h0 : ¬ M 1002 0 < 0 := by rw [hL]; exact nI_pos (by omega)
    rw [b211_18 h0, hL, nI_clamp (by omega), if_pos ((lw_ex h3 hi).mpr (by omega)), b211_1397]
  | succ w ih =>
    intro i M N T hw hi C hL
    have h0 : ¬ M 1002 0 < 0 := by rw [hL]; exact nI_pos (by omega)
    rw [b211_18 h0, hL, nI_clamp (by omega)]
    by_cases z : L < i + 6
    · rw [if_pos ((lw_ex h3 hi).mpr z), b211_1397]
    rw [if_neg (fun y => z ((lw_ex h3 hi).mp y)), b211_27, hL, nI_clamp (by omega), and_iff_right (vp_in_nI (by omega) (by omega))]
    have fin : ∀ M2 : IM, (∃ N T : Nat, Cp M2 N T) → fz M M2 → E (d + 201, 211, 1391, [.ref 1000, .ref 0, .ref 121, .int (nI i)], [], M2) (fun r _ => r = .int 1) := fun M2 ⟨N', T', C'⟩ f => by
      rw [b211_1391, nI_k i 6 6 (by decide)]
      exact ih (i + 6) M2 N' T' (by omega) (by omega) C' (by rw [f 1002 (by decide)]; exact hL)
    have go : ∀ pc : Nat, lwC d i pc M → E (d + 201, 211, pc, [.ref 1000, .ref 0, .ref 121, .int (nI i)], [], M) (fun r _ => r = .int 1) := fun pc ⟨M2, g1, g2, g3⟩ => (g1 _).mpr (fin M2 g2 g3)
    have h6 : i + 6 ≤ L := by omega
    generalize M 1000 (Int32.toNatClampNeg (nI i)) &&& 63 = v
    by_cases v0 : v = 0
    · rw [if_pos v0]; exact go 204 (lc0 C hL h6 h3)
    rw [if_neg v0]
    by_cases v1 : v = 1
    · rw [if_pos v1]; exact go 257 (lc1 C hL h6 h3)
    rw [if_neg v1]
    by_cases v2 : v = 2
    · rw [if_pos v2]; exact go 290 (lc2 C hL h6 h3)
    rw [if_neg v2]
    by_cases v3 : v = 3
    · rw [if_pos v3]; exact go 323 (lc3 C hL h6 h3)
    rw [if_neg v3]
    by_cases v4 : v = 4
    · rw [if_pos v4]; exact go 356 (lc4 C hL h6 h3)
    rw [if_neg v4]
    by_cases v5 : v = 5
    · rw [if_pos v5]; exact go 399 (lc5 C hL h6 h3)
    rw [if_neg v5]
    by_cases v6 : v = 6
    · rw [if_pos v6]; exact go 432 (lc6 C hL h6 h3)
    rw [if_neg v6]
    by_cases v7 : v = 7
    · rw [if_pos v7]; exact go 455 (lc7 C hL h6 h3)
    rw [if_neg v7]
    by_cases v8 : v = 8
    · rw [if_pos v8]; exact go 478 (lc8 C hL h6 h3)
    rw [if_neg v8]
    by_cases v9 : v = 9
    · rw [if_pos v9]; exact go 511 (lc9 C hL h6 h3)
    rw [if_neg v9]
    by_cases v10 : v = 10
    · rw [if_pos v10]; exact go 534 (lc10 C hL h6 h3)
    rw [if_neg v10]
    by_cases v11 : v = 11
    · rw [if_pos v11]; exact go 557 (lc11 C hL h6 h3)
    rw [if_neg v11]
    by_cases v12 : v = 12
    · rw [if_pos v12]; exact go 580 (lc12 C hL h6 h3)
    rw [if_neg v12]
    by_cases v13 : v = 13
    · rw [if_pos v13]; exact go 613 (lc13 C hL h6 h3)
    rw [if_neg v13]
    by_cases v14 : v = 14
    · rw [if_pos v14]; exact go 646 (lc14 C hL h6 h3)
    rw [if_neg v14]
    by_cases v15 : v = 15
    · rw [if_pos v15]; exact go 679 (lc15 C hL h6 h3)
    rw [if_neg v15]
    by_cases v16 : v = 16
    · rw [if_pos v16]; exact go 712 (lc16 C hL h6 h3)
    rw [if_neg v16]
    by_cases v17 : v = 17
    · rw [if_pos v17]; exact go 755 (lc17 C hL h6 h3)
    rw [if_neg v17]
    by_cases v18 : v = 18
    · rw [if_pos v18]; exact go 788 (lc18 C hL h6 h3)
    rw [if_neg v18]
    by_cases v19 : v = 19
    · rw [if_pos v19]; exact go 801 (lc19 C hL h6 h3)
    rw [if_neg v19]
    by_cases v20 : v = 20
    · rw [if_pos v20]; exact go 824 (lc20 C hL h6 h3)
    rw [if_neg v20]
    by_cases v21 : v = 21
    · rw [if_pos v21]; exact go 867 (lc21 C hL h6 h3)
    rw [if_neg v21]
    by_cases v22 : v = 22
    · rw [if_pos v22]; exact go 890 (lc22 C hL h6 h3)
    rw [if_neg v22]
    by_cases v23 : v = 23
    · rw [if_pos v23]; exact go 903 (lc23 C hL h6 h3)
    rw [if_neg v23]
    by_cases v24 : v = 24
    · rw [if_pos v24]; exact go 936 (lc24 C hL h6 h3)
    rw [if_neg v24]
    by_cases v25 : v = 25
    · rw [if_pos v25]; exact go 959 (lc25 C hL h6 h3)
    rw [if_neg v25]
    by_cases v26 : v = 26
    · rw [if_pos v26]; exact go 1002 (lc26 C hL h6 h3)
    rw [if_neg v26]
    by_cases v27 : v = 27
    · rw [if_pos v27]; exact go 1045 (lc27 C hL h6 h3)
    rw [if_neg v27]
    by_cases v28 : v = 28
    · rw [if_pos v28]; exact go 1068 (lc28 C hL h6 h3)
    rw [if_neg v28]
    by_cases v29 : v = 29
    · rw [if_pos v29]; exact go 1091 (lc29 C hL h6 h3)
    rw [if_neg v29]
    by_cases v30 : v = 30
    · rw [if_pos v30]; exact go 1154 (lc30 C hL h6 h3)
    rw [if_neg v30]
    by_cases v31 : v = 31
    · rw [if_pos v31]; exact go 1197 (lc31 C hL h6 h3)
    rw [if_neg v31]
    by_cases v32 : v = 32
    · rw [if_pos v32]; exact go 1230 (lc32 C hL h6 h3)
    rw [if_neg v32]
    by_cases v33 : v = 33
    · rw [if_pos v33]; exact go 1263 (lc33 C hL h6 h3)
    rw [if_neg v33]
    by_cases v34 : v = 34
    · rw [if_pos v34]; exact go 1296 (lc34 C hL h6 h3)
    rw [if_neg v34]
    by_cases v35 : v = 35
    · rw [if_pos v35]; exact go 1319 (lc35 C hL h6 h3)
    rw [if_neg v35]
    by_cases v36 : v = 36
    · rw [if_pos v36]; exact go 1342 (lc36 C hL h6 h3)
    rw [if_neg v36]
    by_cases v37 : v = 37
    · rw [if_pos v37]; exact go 1355 (lc37 C hL h6 h3)
    rw [if_neg v37]
    by_cases v38 : v = 38
    · rw [if_pos v38]; exact go 1368 (lc38 C hL h6 h3)
    rw [if_neg v38]
    exact fin M ⟨N, T, C⟩ (fun _ _ => rfl)
/-- the law's body, behind the constructors -/
theorem lawE (h3 : L ≤ 3072) (C : Cp M N T) (hL : M 1002 0 = nI L) {x : Value} : E (d + 201, 211, 16, [.ref 1000, .ref 0, .ref 121, x], [], M) (fun r _ => r = .int 1) := by
  rw [b211_16, show (0 : Int32) = nI 0 by decide]
  exact lawLoop h3 L 0 M N T (by omega) (by decide) C hL
end LP
