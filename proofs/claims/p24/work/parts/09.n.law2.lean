theorem am_lw10 : (List.range' 600 60).all am_lwc = true := by decide +kernel
theorem am_lw11 : (List.range' 660 60).all am_lwc = true := by decide +kernel
theorem am_lw12 : (List.range' 720 60).all am_lwc = true := by decide +kernel
theorem am_lw13 : (List.range' 780 60).all am_lwc = true := by decide +kernel
theorem am_lw14 : (List.range' 840 60).all am_lwc = true := by decide +kernel
