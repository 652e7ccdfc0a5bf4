theorem am_lwa (pc : Nat) (h : pc < 1062) : am_lwc pc = true := am_fl_ok _ 0 (fun j => by rw [Nat.zero_add]) am_lwf pc (Nat.zero_le _) (by rw [am_lwn]; omega)
