theorem am_lw15 : (List.range' 900 60).all am_lwc = true := by decide +kernel
theorem am_lw16 : (List.range' 960 60).all am_lwc = true := by decide +kernel
theorem am_lw17 : (List.range' 1020 60).all am_lwc = true := by decide +kernel
