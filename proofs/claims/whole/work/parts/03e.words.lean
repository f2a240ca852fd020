def aFck (q : Nat × Nat × Nat × Nat) : Bool := match vwCl9[q.2.1]? with
  | some r => decide (q.2.2.1 < r.2.2) && aInT (59 + q.2.2.2) (.fieldLink (aOwn q.1) (q.1 % 10000) r.1 (r.2.1 q.2.2.1).2.1 (r.2.1 q.2.2.1).2.2.1) && decide ((r.2.1 q.2.2.1).1 = r.1)
  | none => false
set_option maxRecDepth 100000 in
theorem aFckAll : aFldL.all aFck = true := by decide +kernel
set_option maxRecDepth 100000 in
theorem aCstAll : aCstL.all (fun q => aInT (59 + q.2.2) (.constant (aOwn q.1) (q.1 % 10000) q.2.1)) = true := by decide +kernel
set_option maxRecDepth 100000 in
theorem aCslAll : aCslL.all (fun q => aInT (59 + q.2.2) (.constantLong (aOwn q.1) (q.1 % 10000) q.2.1)) = true := by decide +kernel
