def am_lwc (pc : Nat) : Bool := match am_tr am_rL pc with
  | some i => am_dec (am_b am_rL) pc i
  | none => true
theorem am_lwf : am_fl (am_tr am_rL) (am_b am_rL) 0 (am_b am_rL).data.toList = true := by decide +kernel
theorem am_lwn : (am_b am_rL).data.toList.length = 1062 := by decide +kernel
