def am_lwc (pc : Nat) : Bool := match am_tr am_rL pc with
  | some i => am_dec (am_b am_rL) pc i
  | none => true
theorem am_lw0 : (List.range' 0 60).all am_lwc = true := by decide +kernel
theorem am_lw1 : (List.range' 60 60).all am_lwc = true := by decide +kernel
theorem am_lw2 : (List.range' 120 60).all am_lwc = true := by decide +kernel
theorem am_lw3 : (List.range' 180 60).all am_lwc = true := by decide +kernel
theorem am_lw4 : (List.range' 240 60).all am_lwc = true := by decide +kernel
