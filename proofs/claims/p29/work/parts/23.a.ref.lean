/-! PURE: the reference by equations -/
theorem lt_of_le_nI {x : Int32} {n : Nat} (hn : n + 1 < 2 ^ 31) : nI n < x ↔ nI (n + 1) ≤ x := by
  rw [Int32.lt_iff_toInt_lt, Int32.le_iff_toInt_le, nI_toInt (by omega), nI_toInt (by omega)]
  omega
theorem z_m1 : nI 0 - nI 1 = nm 1 := by decide
