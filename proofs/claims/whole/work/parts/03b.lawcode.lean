set_option maxRecDepth 100000 in
theorem ckL_law_0 : aCkm cdL_law_0 cL_law = true := by decide +kernel
set_option maxRecDepth 100000 in
theorem ckL_law_1 : aCkm cdL_law_1 cL_law = true := by decide +kernel
set_option maxRecDepth 100000 in
theorem ckL_law_2 : aCkm cdL_law_2 cL_law = true := by decide +kernel
set_option maxRecDepth 100000 in
theorem ckL_law_3 : aCkm cdL_law_3 cL_law = true := by decide +kernel
set_option maxRecDepth 100000 in
theorem ckL_law_4 : aCkm cdL_law_4 cL_law = true := by decide +kernel
set_option maxRecDepth 100000 in
theorem ckL_law_5 : aCkm cdL_law_5 cL_law = true := by decide +kernel
set_option maxRecDepth 100000 in
theorem ckL_law_6 : aCkm cdL_law_6 cL_law = true := by decide +kernel
set_option maxRecDepth 100000 in
theorem ckL_law_7 : aCkm cdL_law_7 cL_law = true := by decide +kernel
set_option maxRecDepth 100000 in
theorem ckL_law_8 : aCkm cdL_law_8 cL_law = true := by decide +kernel
set_option maxRecDepth 100000 in
theorem ckL_law_9 : aCkm cdL_law_9 cL_law = true := by decide +kernel
set_option maxRecDepth 100000 in
theorem ckL_law_10 : aCkm cdL_law_10 cL_law = true := by decide +kernel
set_option maxRecDepth 100000 in
theorem ckL_law_11 : aCkm cdL_law_11 cL_law = true := by decide +kernel
set_option maxRecDepth 100000 in
theorem ckL_law_12 : aCkm cdL_law_12 cL_law = true := by decide +kernel
set_option maxRecDepth 100000 in
theorem ckL_law_13 : aCkm cdL_law_13 cL_law = true := by decide +kernel
set_option maxRecDepth 100000 in
theorem ckL_law_14 : aCkm cdL_law_14 cL_law = true := by decide +kernel
set_option maxRecDepth 100000 in
theorem ckL_law_15 : aCkm cdL_law_15 cL_law = true := by decide +kernel
set_option maxRecDepth 100000 in
theorem ckL_law_16 : aCkm cdL_law_16 cL_law = true := by decide +kernel
set_option maxRecDepth 100000 in
theorem ckL_law_17 : aCkm cdL_law_17 cL_law = true := by decide +kernel
set_option maxRecDepth 100000 in
theorem ckL_law_18 : aCkm cdL_law_18 cL_law = true := by decide +kernel
set_option maxRecDepth 100000 in
theorem ckL_law_19 : aCkm cdL_law_19 cL_law = true := by decide +kernel
set_option maxRecDepth 100000 in
theorem ckL_law_20 : aCkm cdL_law_20 cL_law = true := by decide +kernel
set_option maxRecDepth 100000 in
theorem ckL_law_21 : aCkm cdL_law_21 cL_law = true := by decide +kernel
theorem aCkm_app {l1 l2 : List (Nat × Instr × Nat)} {b : ByteArray} (h1 : aCkm l1 b = true) (h2 : aCkm l2 b = true) : aCkm (l1 ++ l2) b = true := by
  unfold aCkm at *
  rw [List.all_append, h1, h2]
  rfl
theorem ckL_law : aCkm cdL_law cL_law = true := aCkm_app ckL_law_0 (aCkm_app ckL_law_1 (aCkm_app ckL_law_2 (aCkm_app ckL_law_3 (aCkm_app ckL_law_4 (aCkm_app ckL_law_5 (aCkm_app ckL_law_6 (aCkm_app ckL_law_7 (aCkm_app ckL_law_8 (aCkm_app ckL_law_9 (aCkm_app ckL_law_10 (aCkm_app ckL_law_11 (aCkm_app ckL_law_12 (aCkm_app ckL_law_13 (aCkm_app ckL_law_14 (aCkm_app ckL_law_15 (aCkm_app ckL_law_16 (aCkm_app ckL_law_17 (aCkm_app ckL_law_18 (aCkm_app ckL_law_19 (aCkm_app ckL_law_20 (ckL_law_21)))))))))))))))))))))
