theorem xall_of {mi : Nat} (h : mi < 221) : xall mi = true := sorry
theorem xokM_of {mi : Nat} (h : mi < 221) : xokM mi = true := sorry
