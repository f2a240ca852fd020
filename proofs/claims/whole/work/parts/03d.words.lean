/-- the words that every method of the machine takes: those of the tables that can be carried -/
def aTG : List Cond := lw_tbl.filter goodWord
def aInT (ix : Nat) (w : Cond) : Bool := decide (lw_tbl[ix]? = some w) && goodWord w
theorem aInT_mem {ix : Nat} {w : Cond} (h : aInT ix w = true) : w ∈ aTG := by
  unfold aInT at h
  simp only [Bool.and_eq_true, decide_eq_true_eq] at h
  exact List.mem_filter.mpr ⟨List.mem_of_getElem? h.1, h.2⟩
theorem aTG_good : GoodIn aTG aTG := fun w hw => ⟨hw, good_of_word (List.mem_filter.mp hw).2⟩
def aMck (m : Nat) : Bool := aInT (aCodeIxL.getD m 0) (.code (aName m) (aBytes m) (aML m) (aRet m)) && aInT (aIniIxL.getD m 0) (.initialized (aName m).cls) && decide ((aName m).cls ≠ "java/lang/invoke/MethodHandle" ∧ (aName m).cls ≠ "java/lang/invoke/VarHandle") && decide ((parseMethodDescriptor (aName m).desc).map (fun d => d.parameters.length) = some (aNp m)) && plainName (aName m).cls && decide ((aName m).cls = aCls m) && decide (aML m ≤ 40)
set_option maxRecDepth 100000 in
theorem aMckAll : (List.range (aN - 1)).all aMck = true := by decide +kernel
