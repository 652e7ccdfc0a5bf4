/-! ===== the fresh pair is of the cells' kinds ===== -/
theorem am_cX : (am_callc true 100000 19 118 [.ref 0] [.inr (11, am_def 11)]).isSome = true := by decide +kernel
theorem am_cM : (am_callc true 100000 19 149 [.ref 64] (am_hXx ++ [.inr (12, am_def 12)])).isSome = true := by decide +kernel
