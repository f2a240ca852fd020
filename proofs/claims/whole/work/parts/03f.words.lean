def aMathN (k : Nat) : MethodName := if k = 3 then Lib.Math.max.name else if k = 4 then Lib.Math.min.name else Lib.Math.abs.name
def aMathC (k : Nat) : ByteArray := if k = 3 then Lib.Math.max.code else if k = 4 then Lib.Math.min.code else Lib.Math.abs.code
def aCallCk (q : Nat × Nat × Nat × Nat × Nat × Nat) : Bool := match q with
  | (key, kind, m, i1, i2, i3) => match kind with
    | 0 => aInT i1 (.methodLink (aOwn key) (key % 10000) (aName m)) && aInT i2 (.static (aName m)) && decide (m < aN - 1)
    | 1 => decide (lw_tbl[i1]? = some (.methodLinkNest (aOwn key) (key % 10000) (aName m) "TwelveShort")) && aInT i2 (.static (aName m)) && decide (m < aN - 1)
    | 2 => aInT i1 (.methodLink (aOwn key) (key % 10000) (aName m)) && aInT i2 (.instanceMethod (aName m)) && aInT i3 (.selects (aName m).cls (aName m) (aName m)) && decide (m < aN - 1)
    | k => aInT i1 (.methodLink (aOwn key) (key % 10000) (aMathN k)) && aInT i2 (.static (aMathN k)) && aInT i3 (.code (aMathN k) (aMathC k) (if k = 5 then 1 else 2) (some .int)) && decide (k = 3 ∨ k = 4 ∨ k = 5)
set_option maxRecDepth 100000 in
theorem aCallAll : aCallL.all aCallCk = true := by decide +kernel
theorem aStrV : aInT 1392 (.fieldLink "java/lang/String" 9 "java/lang/String" "value" "[B") = true := by decide +kernel
theorem aStrC : aInT 1393 (.fieldLink "java/lang/String" 15 "java/lang/String" "coder" "B") = true := by decide +kernel
theorem aStrS : aInT 645 (.fieldLink "java/lang/String" 38 "java/lang/String" "COMPACT_STRINGS" "Z") = true := by decide +kernel
theorem aStrF : aInT 661 (.fieldLink "java/lang/String" 1053 "jdk/internal/util/Preconditions" "SIOOBE_FORMATTER" "Ljava/util/function/BiFunction;") = true := by decide +kernel
theorem aMathI : aInT 70 (.initialized "java/lang/Math") = true := by decide +kernel
