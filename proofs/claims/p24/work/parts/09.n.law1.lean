theorem am_lw5 : (List.range' 300 60).all am_lwc = true := by decide +kernel
theorem am_lw6 : (List.range' 360 60).all am_lwc = true := by decide +kernel
theorem am_lw7 : (List.range' 420 60).all am_lwc = true := by decide +kernel
theorem am_lw8 : (List.range' 480 60).all am_lwc = true := by decide +kernel
theorem am_lw9 : (List.range' 540 60).all am_lwc = true := by decide +kernel
