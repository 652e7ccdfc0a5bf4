theorem am_lwr {a n pc : Nat} (h : (List.range' a n).all am_lwc = true) (h1 : a ≤ pc) (h2 : pc < a + n) : am_lwc pc = true := List.all_eq_true.mp h pc (List.mem_range'_1.mpr ⟨h1, h2⟩)
theorem am_lwa (pc : Nat) (h : pc < 1062) : am_lwc pc = true := by
  by_cases h0 : pc < 60
  · exact am_lwr am_lw0 (by omega) (by omega)
  by_cases h1 : pc < 120
  · exact am_lwr am_lw1 (by omega) (by omega)
  by_cases h2 : pc < 180
  · exact am_lwr am_lw2 (by omega) (by omega)
  by_cases h3 : pc < 240
  · exact am_lwr am_lw3 (by omega) (by omega)
  by_cases h4 : pc < 300
  · exact am_lwr am_lw4 (by omega) (by omega)
  by_cases h5 : pc < 360
  · exact am_lwr am_lw5 (by omega) (by omega)
  by_cases h6 : pc < 420
  · exact am_lwr am_lw6 (by omega) (by omega)
  by_cases h7 : pc < 480
  · exact am_lwr am_lw7 (by omega) (by omega)
  by_cases h8 : pc < 540
  · exact am_lwr am_lw8 (by omega) (by omega)
  by_cases h9 : pc < 600
  · exact am_lwr am_lw9 (by omega) (by omega)
  by_cases h10 : pc < 660
  · exact am_lwr am_lw10 (by omega) (by omega)
  by_cases h11 : pc < 720
  · exact am_lwr am_lw11 (by omega) (by omega)
  by_cases h12 : pc < 780
  · exact am_lwr am_lw12 (by omega) (by omega)
  by_cases h13 : pc < 840
  · exact am_lwr am_lw13 (by omega) (by omega)
  by_cases h14 : pc < 900
  · exact am_lwr am_lw14 (by omega) (by omega)
  by_cases h15 : pc < 960
  · exact am_lwr am_lw15 (by omega) (by omega)
  by_cases h16 : pc < 1020
  · exact am_lwr am_lw16 (by omega) (by omega)
  by_cases h17 : pc < 1080
  · exact am_lwr am_lw17 (by omega) (by omega)
  omega
