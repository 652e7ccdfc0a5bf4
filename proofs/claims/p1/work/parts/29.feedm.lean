set_option maxHeartbeats 20000000 in
set_option maxRecDepth 100000 in
theorem am_fm0 (A B C : Int64) (n m : Int32) (f g : Nat → Int32) (o8 o10 : Option Value) (h0 : 0 ≤ m.toInt) (h1 : m.toInt < 500) : ∃ g2 o2, am_Go true 18 (0, fun _ => 0) am_r151 (3, [some (.ref 64), some (.long A), none, some (.long B), none, some (.long C), none, some (.int 0), o8, none, o10], [], am_hF n f m g, 0, 0) (3, [some (.ref 64), some (.long A), none, some (.long B), none, some (.long C), none, some (.int 1), some (.long A), none, o2], [], am_hF n f (am_stp (am_cmp .eq (am_bm 56 A) 0) m) g2, 0, 0) := by
  cases hz : am_cmp .eq (am_bm 56 A) 0 with
  | true =>
    refine ⟨g, some (.int (am_bm 56 A)), ?_⟩
    refine am_Go.bl 23 (y := (bif am_cmp .eq (am_bm 56 A) 0 then 93 else 59, [some (.ref 64), some (.long A), none, some (.long B), none, some (.long C), none, some (.int 0), some (.long A), none, some (.int (am_bm 56 A))], [], am_hF n f m g, 0, 0)) (fun _ => rfl) ?_
    refine am_Go.brT hz ?_
    exact am_Go.bl 2 (fun _ => rfl) am_Go.rf
  | false =>
    refine ⟨upd g m.toNatClampNeg (vp_nar .byte (am_bm 56 A)), some (.int (am_bm 56 A)), ?_⟩
    refine am_Go.bl 23 (y := (bif am_cmp .eq (am_bm 56 A) 0 then 93 else 59, [some (.ref 64), some (.long A), none, some (.long B), none, some (.long C), none, some (.int 0), some (.long A), none, some (.int (am_bm 56 A))], [], am_hF n f m g, 0, 0)) (fun _ => rfl) ?_
    refine am_Go.brF hz ?_
    refine am_Go.bl 4 (y := (bif am_cmp .ne m 600 then 72 else 69, [some (.ref 64), some (.long A), none, some (.long B), none, some (.long C), none, some (.int 0), some (.long A), none, some (.int (am_bm 56 A))], [], am_hF n f m g, 0, 0)) (fun _ => rfl) ?_
    refine am_Go.brT ((am_cne_t (k := 600) rfl).mpr (by omega)) ?_
    refine am_Go.bl 5 (y := (82, [some (.ref 64), some (.long A), none, some (.long B), none, some (.long C), none, some (.int 0), some (.long A), none, some (.int (am_bm 56 A))], [.int (am_bm 56 A), .int m, .ref 65], am_hF n f m g, 0, 0)) (fun _ => rfl) ?_
    refine am_Go.bast (n := 600) (f := g) rfl rfl (am_in_of h0 (by omega)) ?_
    exact am_Go.bl 8 (y := (3, [some (.ref 64), some (.long A), none, some (.long B), none, some (.long C), none, some (.int 1), some (.long A), none, some (.int (am_bm 56 A))], [], am_hF n f (m + 1) (upd g m.toNatClampNeg (vp_nar .byte (am_bm 56 A))), 0, 0)) (fun _ => rfl) am_Go.rf
set_option maxHeartbeats 20000000 in
set_option maxRecDepth 100000 in
theorem am_fm1 (A B C : Int64) (n m : Int32) (f g : Nat → Int32) (o8 o10 : Option Value) (h0 : 0 ≤ m.toInt) (h1 : m.toInt < 500) : ∃ g2 o2, am_Go true 18 (0, fun _ => 0) am_r151 (3, [some (.ref 64), some (.long A), none, some (.long B), none, some (.long C), none, some (.int 1), o8, none, o10], [], am_hF n f m g, 0, 0) (3, [some (.ref 64), some (.long A), none, some (.long B), none, some (.long C), none, some (.int 2), some (.long A), none, o2], [], am_hF n f (am_stp (am_cmp .eq (am_bm 48 A) 0) m) g2, 0, 0) := by
  cases hz : am_cmp .eq (am_bm 48 A) 0 with
  | true =>
    refine ⟨g, some (.int (am_bm 48 A)), ?_⟩
    refine am_Go.bl 23 (y := (bif am_cmp .eq (am_bm 48 A) 0 then 93 else 59, [some (.ref 64), some (.long A), none, some (.long B), none, some (.long C), none, some (.int 1), some (.long A), none, some (.int (am_bm 48 A))], [], am_hF n f m g, 0, 0)) (fun _ => rfl) ?_
    refine am_Go.brT hz ?_
    exact am_Go.bl 2 (fun _ => rfl) am_Go.rf
  | false =>
    refine ⟨upd g m.toNatClampNeg (vp_nar .byte (am_bm 48 A)), some (.int (am_bm 48 A)), ?_⟩
    refine am_Go.bl 23 (y := (bif am_cmp .eq (am_bm 48 A) 0 then 93 else 59, [some (.ref 64), some (.long A), none, some (.long B), none, some (.long C), none, some (.int 1), some (.long A), none, some (.int (am_bm 48 A))], [], am_hF n f m g, 0, 0)) (fun _ => rfl) ?_
    refine am_Go.brF hz ?_
    refine am_Go.bl 4 (y := (bif am_cmp .ne m 600 then 72 else 69, [some (.ref 64), some (.long A), none, some (.long B), none, some (.long C), none, some (.int 1), some (.long A), none, some (.int (am_bm 48 A))], [], am_hF n f m g, 0, 0)) (fun _ => rfl) ?_
    refine am_Go.brT ((am_cne_t (k := 600) rfl).mpr (by omega)) ?_
    refine am_Go.bl 5 (y := (82, [some (.ref 64), some (.long A), none, some (.long B), none, some (.long C), none, some (.int 1), some (.long A), none, some (.int (am_bm 48 A))], [.int (am_bm 48 A), .int m, .ref 65], am_hF n f m g, 0, 0)) (fun _ => rfl) ?_
    refine am_Go.bast (n := 600) (f := g) rfl rfl (am_in_of h0 (by omega)) ?_
    exact am_Go.bl 8 (y := (3, [some (.ref 64), some (.long A), none, some (.long B), none, some (.long C), none, some (.int 2), some (.long A), none, some (.int (am_bm 48 A))], [], am_hF n f (m + 1) (upd g m.toNatClampNeg (vp_nar .byte (am_bm 48 A))), 0, 0)) (fun _ => rfl) am_Go.rf
set_option maxHeartbeats 20000000 in
set_option maxRecDepth 100000 in
theorem am_fm2 (A B C : Int64) (n m : Int32) (f g : Nat → Int32) (o8 o10 : Option Value) (h0 : 0 ≤ m.toInt) (h1 : m.toInt < 500) : ∃ g2 o2, am_Go true 18 (0, fun _ => 0) am_r151 (3, [some (.ref 64), some (.long A), none, some (.long B), none, some (.long C), none, some (.int 2), o8, none, o10], [], am_hF n f m g, 0, 0) (3, [some (.ref 64), some (.long A), none, some (.long B), none, some (.long C), none, some (.int 3), some (.long A), none, o2], [], am_hF n f (am_stp (am_cmp .eq (am_bm 40 A) 0) m) g2, 0, 0) := by
  cases hz : am_cmp .eq (am_bm 40 A) 0 with
  | true =>
    refine ⟨g, some (.int (am_bm 40 A)), ?_⟩
    refine am_Go.bl 23 (y := (bif am_cmp .eq (am_bm 40 A) 0 then 93 else 59, [some (.ref 64), some (.long A), none, some (.long B), none, some (.long C), none, some (.int 2), some (.long A), none, some (.int (am_bm 40 A))], [], am_hF n f m g, 0, 0)) (fun _ => rfl) ?_
    refine am_Go.brT hz ?_
    exact am_Go.bl 2 (fun _ => rfl) am_Go.rf
  | false =>
    refine ⟨upd g m.toNatClampNeg (vp_nar .byte (am_bm 40 A)), some (.int (am_bm 40 A)), ?_⟩
    refine am_Go.bl 23 (y := (bif am_cmp .eq (am_bm 40 A) 0 then 93 else 59, [some (.ref 64), some (.long A), none, some (.long B), none, some (.long C), none, some (.int 2), some (.long A), none, some (.int (am_bm 40 A))], [], am_hF n f m g, 0, 0)) (fun _ => rfl) ?_
    refine am_Go.brF hz ?_
    refine am_Go.bl 4 (y := (bif am_cmp .ne m 600 then 72 else 69, [some (.ref 64), some (.long A), none, some (.long B), none, some (.long C), none, some (.int 2), some (.long A), none, some (.int (am_bm 40 A))], [], am_hF n f m g, 0, 0)) (fun _ => rfl) ?_
    refine am_Go.brT ((am_cne_t (k := 600) rfl).mpr (by omega)) ?_
    refine am_Go.bl 5 (y := (82, [some (.ref 64), some (.long A), none, some (.long B), none, some (.long C), none, some (.int 2), some (.long A), none, some (.int (am_bm 40 A))], [.int (am_bm 40 A), .int m, .ref 65], am_hF n f m g, 0, 0)) (fun _ => rfl) ?_
    refine am_Go.bast (n := 600) (f := g) rfl rfl (am_in_of h0 (by omega)) ?_
    exact am_Go.bl 8 (y := (3, [some (.ref 64), some (.long A), none, some (.long B), none, some (.long C), none, some (.int 3), some (.long A), none, some (.int (am_bm 40 A))], [], am_hF n f (m + 1) (upd g m.toNatClampNeg (vp_nar .byte (am_bm 40 A))), 0, 0)) (fun _ => rfl) am_Go.rf
set_option maxHeartbeats 20000000 in
set_option maxRecDepth 100000 in
theorem am_fm3 (A B C : Int64) (n m : Int32) (f g : Nat → Int32) (o8 o10 : Option Value) (h0 : 0 ≤ m.toInt) (h1 : m.toInt < 500) : ∃ g2 o2, am_Go true 18 (0, fun _ => 0) am_r151 (3, [some (.ref 64), some (.long A), none, some (.long B), none, some (.long C), none, some (.int 3), o8, none, o10], [], am_hF n f m g, 0, 0) (3, [some (.ref 64), some (.long A), none, some (.long B), none, some (.long C), none, some (.int 4), some (.long A), none, o2], [], am_hF n f (am_stp (am_cmp .eq (am_bm 32 A) 0) m) g2, 0, 0) := by
  cases hz : am_cmp .eq (am_bm 32 A) 0 with
  | true =>
    refine ⟨g, some (.int (am_bm 32 A)), ?_⟩
    refine am_Go.bl 23 (y := (bif am_cmp .eq (am_bm 32 A) 0 then 93 else 59, [some (.ref 64), some (.long A), none, some (.long B), none, some (.long C), none, some (.int 3), some (.long A), none, some (.int (am_bm 32 A))], [], am_hF n f m g, 0, 0)) (fun _ => rfl) ?_
    refine am_Go.brT hz ?_
    exact am_Go.bl 2 (fun _ => rfl) am_Go.rf
  | false =>
    refine ⟨upd g m.toNatClampNeg (vp_nar .byte (am_bm 32 A)), some (.int (am_bm 32 A)), ?_⟩
    refine am_Go.bl 23 (y := (bif am_cmp .eq (am_bm 32 A) 0 then 93 else 59, [some (.ref 64), some (.long A), none, some (.long B), none, some (.long C), none, some (.int 3), some (.long A), none, some (.int (am_bm 32 A))], [], am_hF n f m g, 0, 0)) (fun _ => rfl) ?_
    refine am_Go.brF hz ?_
    refine am_Go.bl 4 (y := (bif am_cmp .ne m 600 then 72 else 69, [some (.ref 64), some (.long A), none, some (.long B), none, some (.long C), none, some (.int 3), some (.long A), none, some (.int (am_bm 32 A))], [], am_hF n f m g, 0, 0)) (fun _ => rfl) ?_
    refine am_Go.brT ((am_cne_t (k := 600) rfl).mpr (by omega)) ?_
    refine am_Go.bl 5 (y := (82, [some (.ref 64), some (.long A), none, some (.long B), none, some (.long C), none, some (.int 3), some (.long A), none, some (.int (am_bm 32 A))], [.int (am_bm 32 A), .int m, .ref 65], am_hF n f m g, 0, 0)) (fun _ => rfl) ?_
    refine am_Go.bast (n := 600) (f := g) rfl rfl (am_in_of h0 (by omega)) ?_
    exact am_Go.bl 8 (y := (3, [some (.ref 64), some (.long A), none, some (.long B), none, some (.long C), none, some (.int 4), some (.long A), none, some (.int (am_bm 32 A))], [], am_hF n f (m + 1) (upd g m.toNatClampNeg (vp_nar .byte (am_bm 32 A))), 0, 0)) (fun _ => rfl) am_Go.rf
set_option maxHeartbeats 20000000 in
set_option maxRecDepth 100000 in
theorem am_fm4 (A B C : Int64) (n m : Int32) (f g : Nat → Int32) (o8 o10 : Option Value) (h0 : 0 ≤ m.toInt) (h1 : m.toInt < 500) : ∃ g2 o2, am_Go true 18 (0, fun _ => 0) am_r151 (3, [some (.ref 64), some (.long A), none, some (.long B), none, some (.long C), none, some (.int 4), o8, none, o10], [], am_hF n f m g, 0, 0) (3, [some (.ref 64), some (.long A), none, some (.long B), none, some (.long C), none, some (.int 5), some (.long A), none, o2], [], am_hF n f (am_stp (am_cmp .eq (am_bm 24 A) 0) m) g2, 0, 0) := by
  cases hz : am_cmp .eq (am_bm 24 A) 0 with
  | true =>
    refine ⟨g, some (.int (am_bm 24 A)), ?_⟩
    refine am_Go.bl 23 (y := (bif am_cmp .eq (am_bm 24 A) 0 then 93 else 59, [some (.ref 64), some (.long A), none, some (.long B), none, some (.long C), none, some (.int 4), some (.long A), none, some (.int (am_bm 24 A))], [], am_hF n f m g, 0, 0)) (fun _ => rfl) ?_
    refine am_Go.brT hz ?_
    exact am_Go.bl 2 (fun _ => rfl) am_Go.rf
  | false =>
    refine ⟨upd g m.toNatClampNeg (vp_nar .byte (am_bm 24 A)), some (.int (am_bm 24 A)), ?_⟩
    refine am_Go.bl 23 (y := (bif am_cmp .eq (am_bm 24 A) 0 then 93 else 59, [some (.ref 64), some (.long A), none, some (.long B), none, some (.long C), none, some (.int 4), some (.long A), none, some (.int (am_bm 24 A))], [], am_hF n f m g, 0, 0)) (fun _ => rfl) ?_
    refine am_Go.brF hz ?_
    refine am_Go.bl 4 (y := (bif am_cmp .ne m 600 then 72 else 69, [some (.ref 64), some (.long A), none, some (.long B), none, some (.long C), none, some (.int 4), some (.long A), none, some (.int (am_bm 24 A))], [], am_hF n f m g, 0, 0)) (fun _ => rfl) ?_
    refine am_Go.brT ((am_cne_t (k := 600) rfl).mpr (by omega)) ?_
    refine am_Go.bl 5 (y := (82, [some (.ref 64), some (.long A), none, some (.long B), none, some (.long C), none, some (.int 4), some (.long A), none, some (.int (am_bm 24 A))], [.int (am_bm 24 A), .int m, .ref 65], am_hF n f m g, 0, 0)) (fun _ => rfl) ?_
    refine am_Go.bast (n := 600) (f := g) rfl rfl (am_in_of h0 (by omega)) ?_
    exact am_Go.bl 8 (y := (3, [some (.ref 64), some (.long A), none, some (.long B), none, some (.long C), none, some (.int 5), some (.long A), none, some (.int (am_bm 24 A))], [], am_hF n f (m + 1) (upd g m.toNatClampNeg (vp_nar .byte (am_bm 24 A))), 0, 0)) (fun _ => rfl) am_Go.rf
set_option maxHeartbeats 20000000 in
set_option maxRecDepth 100000 in
theorem am_fm5 (A B C : Int64) (n m : Int32) (f g : Nat → Int32) (o8 o10 : Option Value) (h0 : 0 ≤ m.toInt) (h1 : m.toInt < 500) : ∃ g2 o2, am_Go true 18 (0, fun _ => 0) am_r151 (3, [some (.ref 64), some (.long A), none, some (.long B), none, some (.long C), none, some (.int 5), o8, none, o10], [], am_hF n f m g, 0, 0) (3, [some (.ref 64), some (.long A), none, some (.long B), none, some (.long C), none, some (.int 6), some (.long A), none, o2], [], am_hF n f (am_stp (am_cmp .eq (am_bm 16 A) 0) m) g2, 0, 0) := by
  cases hz : am_cmp .eq (am_bm 16 A) 0 with
  | true =>
    refine ⟨g, some (.int (am_bm 16 A)), ?_⟩
    refine am_Go.bl 23 (y := (bif am_cmp .eq (am_bm 16 A) 0 then 93 else 59, [some (.ref 64), some (.long A), none, some (.long B), none, some (.long C), none, some (.int 5), some (.long A), none, some (.int (am_bm 16 A))], [], am_hF n f m g, 0, 0)) (fun _ => rfl) ?_
    refine am_Go.brT hz ?_
    exact am_Go.bl 2 (fun _ => rfl) am_Go.rf
  | false =>
    refine ⟨upd g m.toNatClampNeg (vp_nar .byte (am_bm 16 A)), some (.int (am_bm 16 A)), ?_⟩
    refine am_Go.bl 23 (y := (bif am_cmp .eq (am_bm 16 A) 0 then 93 else 59, [some (.ref 64), some (.long A), none, some (.long B), none, some (.long C), none, some (.int 5), some (.long A), none, some (.int (am_bm 16 A))], [], am_hF n f m g, 0, 0)) (fun _ => rfl) ?_
    refine am_Go.brF hz ?_
    refine am_Go.bl 4 (y := (bif am_cmp .ne m 600 then 72 else 69, [some (.ref 64), some (.long A), none, some (.long B), none, some (.long C), none, some (.int 5), some (.long A), none, some (.int (am_bm 16 A))], [], am_hF n f m g, 0, 0)) (fun _ => rfl) ?_
    refine am_Go.brT ((am_cne_t (k := 600) rfl).mpr (by omega)) ?_
    refine am_Go.bl 5 (y := (82, [some (.ref 64), some (.long A), none, some (.long B), none, some (.long C), none, some (.int 5), some (.long A), none, some (.int (am_bm 16 A))], [.int (am_bm 16 A), .int m, .ref 65], am_hF n f m g, 0, 0)) (fun _ => rfl) ?_
    refine am_Go.bast (n := 600) (f := g) rfl rfl (am_in_of h0 (by omega)) ?_
    exact am_Go.bl 8 (y := (3, [some (.ref 64), some (.long A), none, some (.long B), none, some (.long C), none, some (.int 6), some (.long A), none, some (.int (am_bm 16 A))], [], am_hF n f (m + 1) (upd g m.toNatClampNeg (vp_nar .byte (am_bm 16 A))), 0, 0)) (fun _ => rfl) am_Go.rf
set_option maxHeartbeats 20000000 in
set_option maxRecDepth 100000 in
theorem am_fm6 (A B C : Int64) (n m : Int32) (f g : Nat → Int32) (o8 o10 : Option Value) (h0 : 0 ≤ m.toInt) (h1 : m.toInt < 500) : ∃ g2 o2, am_Go true 18 (0, fun _ => 0) am_r151 (3, [some (.ref 64), some (.long A), none, some (.long B), none, some (.long C), none, some (.int 6), o8, none, o10], [], am_hF n f m g, 0, 0) (3, [some (.ref 64), some (.long A), none, some (.long B), none, some (.long C), none, some (.int 7), some (.long A), none, o2], [], am_hF n f (am_stp (am_cmp .eq (am_bm 8 A) 0) m) g2, 0, 0) := by
  cases hz : am_cmp .eq (am_bm 8 A) 0 with
  | true =>
    refine ⟨g, some (.int (am_bm 8 A)), ?_⟩
    refine am_Go.bl 23 (y := (bif am_cmp .eq (am_bm 8 A) 0 then 93 else 59, [some (.ref 64), some (.long A), none, some (.long B), none, some (.long C), none, some (.int 6), some (.long A), none, some (.int (am_bm 8 A))], [], am_hF n f m g, 0, 0)) (fun _ => rfl) ?_
    refine am_Go.brT hz ?_
    exact am_Go.bl 2 (fun _ => rfl) am_Go.rf
  | false =>
    refine ⟨upd g m.toNatClampNeg (vp_nar .byte (am_bm 8 A)), some (.int (am_bm 8 A)), ?_⟩
    refine am_Go.bl 23 (y := (bif am_cmp .eq (am_bm 8 A) 0 then 93 else 59, [some (.ref 64), some (.long A), none, some (.long B), none, some (.long C), none, some (.int 6), some (.long A), none, some (.int (am_bm 8 A))], [], am_hF n f m g, 0, 0)) (fun _ => rfl) ?_
    refine am_Go.brF hz ?_
    refine am_Go.bl 4 (y := (bif am_cmp .ne m 600 then 72 else 69, [some (.ref 64), some (.long A), none, some (.long B), none, some (.long C), none, some (.int 6), some (.long A), none, some (.int (am_bm 8 A))], [], am_hF n f m g, 0, 0)) (fun _ => rfl) ?_
    refine am_Go.brT ((am_cne_t (k := 600) rfl).mpr (by omega)) ?_
    refine am_Go.bl 5 (y := (82, [some (.ref 64), some (.long A), none, some (.long B), none, some (.long C), none, some (.int 6), some (.long A), none, some (.int (am_bm 8 A))], [.int (am_bm 8 A), .int m, .ref 65], am_hF n f m g, 0, 0)) (fun _ => rfl) ?_
    refine am_Go.bast (n := 600) (f := g) rfl rfl (am_in_of h0 (by omega)) ?_
    exact am_Go.bl 8 (y := (3, [some (.ref 64), some (.long A), none, some (.long B), none, some (.long C), none, some (.int 7), some (.long A), none, some (.int (am_bm 8 A))], [], am_hF n f (m + 1) (upd g m.toNatClampNeg (vp_nar .byte (am_bm 8 A))), 0, 0)) (fun _ => rfl) am_Go.rf
set_option maxHeartbeats 20000000 in
set_option maxRecDepth 100000 in
theorem am_fm7 (A B C : Int64) (n m : Int32) (f g : Nat → Int32) (o8 o10 : Option Value) (h0 : 0 ≤ m.toInt) (h1 : m.toInt < 500) : ∃ g2 o2, am_Go true 18 (0, fun _ => 0) am_r151 (3, [some (.ref 64), some (.long A), none, some (.long B), none, some (.long C), none, some (.int 7), o8, none, o10], [], am_hF n f m g, 0, 0) (3, [some (.ref 64), some (.long A), none, some (.long B), none, some (.long C), none, some (.int 8), some (.long A), none, o2], [], am_hF n f (am_stp (am_cmp .eq (am_bm 0 A) 0) m) g2, 0, 0) := by
  cases hz : am_cmp .eq (am_bm 0 A) 0 with
  | true =>
    refine ⟨g, some (.int (am_bm 0 A)), ?_⟩
    refine am_Go.bl 23 (y := (bif am_cmp .eq (am_bm 0 A) 0 then 93 else 59, [some (.ref 64), some (.long A), none, some (.long B), none, some (.long C), none, some (.int 7), some (.long A), none, some (.int (am_bm 0 A))], [], am_hF n f m g, 0, 0)) (fun _ => rfl) ?_
    refine am_Go.brT hz ?_
    exact am_Go.bl 2 (fun _ => rfl) am_Go.rf
  | false =>
    refine ⟨upd g m.toNatClampNeg (vp_nar .byte (am_bm 0 A)), some (.int (am_bm 0 A)), ?_⟩
    refine am_Go.bl 23 (y := (bif am_cmp .eq (am_bm 0 A) 0 then 93 else 59, [some (.ref 64), some (.long A), none, some (.long B), none, some (.long C), none, some (.int 7), some (.long A), none, some (.int (am_bm 0 A))], [], am_hF n f m g, 0, 0)) (fun _ => rfl) ?_
    refine am_Go.brF hz ?_
    refine am_Go.bl 4 (y := (bif am_cmp .ne m 600 then 72 else 69, [some (.ref 64), some (.long A), none, some (.long B), none, some (.long C), none, some (.int 7), some (.long A), none, some (.int (am_bm 0 A))], [], am_hF n f m g, 0, 0)) (fun _ => rfl) ?_
    refine am_Go.brT ((am_cne_t (k := 600) rfl).mpr (by omega)) ?_
    refine am_Go.bl 5 (y := (82, [some (.ref 64), some (.long A), none, some (.long B), none, some (.long C), none, some (.int 7), some (.long A), none, some (.int (am_bm 0 A))], [.int (am_bm 0 A), .int m, .ref 65], am_hF n f m g, 0, 0)) (fun _ => rfl) ?_
    refine am_Go.bast (n := 600) (f := g) rfl rfl (am_in_of h0 (by omega)) ?_
    exact am_Go.bl 8 (y := (3, [some (.ref 64), some (.long A), none, some (.long B), none, some (.long C), none, some (.int 8), some (.long A), none, some (.int (am_bm 0 A))], [], am_hF n f (m + 1) (upd g m.toNatClampNeg (vp_nar .byte (am_bm 0 A))), 0, 0)) (fun _ => rfl) am_Go.rf
set_option maxHeartbeats 20000000 in
set_option maxRecDepth 100000 in
theorem am_fm8 (A B C : Int64) (n m : Int32) (f g : Nat → Int32) (o8 o10 : Option Value) (h0 : 0 ≤ m.toInt) (h1 : m.toInt < 500) : ∃ g2 o2, am_Go true 18 (0, fun _ => 0) am_r151 (3, [some (.ref 64), some (.long A), none, some (.long B), none, some (.long C), none, some (.int 8), o8, none, o10], [], am_hF n f m g, 0, 0) (3, [some (.ref 64), some (.long A), none, some (.long B), none, some (.long C), none, some (.int 9), some (.long B), none, o2], [], am_hF n f (am_stp (am_cmp .eq (am_bm 56 B) 0) m) g2, 0, 0) := by
  cases hz : am_cmp .eq (am_bm 56 B) 0 with
  | true =>
    refine ⟨g, some (.int (am_bm 56 B)), ?_⟩
    refine am_Go.bl 26 (y := (bif am_cmp .eq (am_bm 56 B) 0 then 93 else 59, [some (.ref 64), some (.long A), none, some (.long B), none, some (.long C), none, some (.int 8), some (.long B), none, some (.int (am_bm 56 B))], [], am_hF n f m g, 0, 0)) (fun _ => rfl) ?_
    refine am_Go.brT hz ?_
    exact am_Go.bl 2 (fun _ => rfl) am_Go.rf
  | false =>
    refine ⟨upd g m.toNatClampNeg (vp_nar .byte (am_bm 56 B)), some (.int (am_bm 56 B)), ?_⟩
    refine am_Go.bl 26 (y := (bif am_cmp .eq (am_bm 56 B) 0 then 93 else 59, [some (.ref 64), some (.long A), none, some (.long B), none, some (.long C), none, some (.int 8), some (.long B), none, some (.int (am_bm 56 B))], [], am_hF n f m g, 0, 0)) (fun _ => rfl) ?_
    refine am_Go.brF hz ?_
    refine am_Go.bl 4 (y := (bif am_cmp .ne m 600 then 72 else 69, [some (.ref 64), some (.long A), none, some (.long B), none, some (.long C), none, some (.int 8), some (.long B), none, some (.int (am_bm 56 B))], [], am_hF n f m g, 0, 0)) (fun _ => rfl) ?_
    refine am_Go.brT ((am_cne_t (k := 600) rfl).mpr (by omega)) ?_
    refine am_Go.bl 5 (y := (82, [some (.ref 64), some (.long A), none, some (.long B), none, some (.long C), none, some (.int 8), some (.long B), none, some (.int (am_bm 56 B))], [.int (am_bm 56 B), .int m, .ref 65], am_hF n f m g, 0, 0)) (fun _ => rfl) ?_
    refine am_Go.bast (n := 600) (f := g) rfl rfl (am_in_of h0 (by omega)) ?_
    exact am_Go.bl 8 (y := (3, [some (.ref 64), some (.long A), none, some (.long B), none, some (.long C), none, some (.int 9), some (.long B), none, some (.int (am_bm 56 B))], [], am_hF n f (m + 1) (upd g m.toNatClampNeg (vp_nar .byte (am_bm 56 B))), 0, 0)) (fun _ => rfl) am_Go.rf
set_option maxHeartbeats 20000000 in
set_option maxRecDepth 100000 in
theorem am_fm9 (A B C : Int64) (n m : Int32) (f g : Nat → Int32) (o8 o10 : Option Value) (h0 : 0 ≤ m.toInt) (h1 : m.toInt < 500) : ∃ g2 o2, am_Go true 18 (0, fun _ => 0) am_r151 (3, [some (.ref 64), some (.long A), none, some (.long B), none, some (.long C), none, some (.int 9), o8, none, o10], [], am_hF n f m g, 0, 0) (3, [some (.ref 64), some (.long A), none, some (.long B), none, some (.long C), none, some (.int 10), some (.long B), none, o2], [], am_hF n f (am_stp (am_cmp .eq (am_bm 48 B) 0) m) g2, 0, 0) := by
  cases hz : am_cmp .eq (am_bm 48 B) 0 with
  | true =>
    refine ⟨g, some (.int (am_bm 48 B)), ?_⟩
    refine am_Go.bl 26 (y := (bif am_cmp .eq (am_bm 48 B) 0 then 93 else 59, [some (.ref 64), some (.long A), none, some (.long B), none, some (.long C), none, some (.int 9), some (.long B), none, some (.int (am_bm 48 B))], [], am_hF n f m g, 0, 0)) (fun _ => rfl) ?_
    refine am_Go.brT hz ?_
    exact am_Go.bl 2 (fun _ => rfl) am_Go.rf
  | false =>
    refine ⟨upd g m.toNatClampNeg (vp_nar .byte (am_bm 48 B)), some (.int (am_bm 48 B)), ?_⟩
    refine am_Go.bl 26 (y := (bif am_cmp .eq (am_bm 48 B) 0 then 93 else 59, [some (.ref 64), some (.long A), none, some (.long B), none, some (.long C), none, some (.int 9), some (.long B), none, some (.int (am_bm 48 B))], [], am_hF n f m g, 0, 0)) (fun _ => rfl) ?_
    refine am_Go.brF hz ?_
    refine am_Go.bl 4 (y := (bif am_cmp .ne m 600 then 72 else 69, [some (.ref 64), some (.long A), none, some (.long B), none, some (.long C), none, some (.int 9), some (.long B), none, some (.int (am_bm 48 B))], [], am_hF n f m g, 0, 0)) (fun _ => rfl) ?_
    refine am_Go.brT ((am_cne_t (k := 600) rfl).mpr (by omega)) ?_
    refine am_Go.bl 5 (y := (82, [some (.ref 64), some (.long A), none, some (.long B), none, some (.long C), none, some (.int 9), some (.long B), none, some (.int (am_bm 48 B))], [.int (am_bm 48 B), .int m, .ref 65], am_hF n f m g, 0, 0)) (fun _ => rfl) ?_
    refine am_Go.bast (n := 600) (f := g) rfl rfl (am_in_of h0 (by omega)) ?_
    exact am_Go.bl 8 (y := (3, [some (.ref 64), some (.long A), none, some (.long B), none, some (.long C), none, some (.int 10), some (.long B), none, some (.int (am_bm 48 B))], [], am_hF n f (m + 1) (upd g m.toNatClampNeg (vp_nar .byte (am_bm 48 B))), 0, 0)) (fun _ => rfl) am_Go.rf
set_option maxHeartbeats 20000000 in
set_option maxRecDepth 100000 in
theorem am_fm10 (A B C : Int64) (n m : Int32) (f g : Nat → Int32) (o8 o10 : Option Value) (h0 : 0 ≤ m.toInt) (h1 : m.toInt < 500) : ∃ g2 o2, am_Go true 18 (0, fun _ => 0) am_r151 (3, [some (.ref 64), some (.long A), none, some (.long B), none, some (.long C), none, some (.int 10), o8, none, o10], [], am_hF n f m g, 0, 0) (3, [some (.ref 64), some (.long A), none, some (.long B), none, some (.long C), none, some (.int 11), some (.long B), none, o2], [], am_hF n f (am_stp (am_cmp .eq (am_bm 40 B) 0) m) g2, 0, 0) := by
  cases hz : am_cmp .eq (am_bm 40 B) 0 with
  | true =>
    refine ⟨g, some (.int (am_bm 40 B)), ?_⟩
    refine am_Go.bl 26 (y := (bif am_cmp .eq (am_bm 40 B) 0 then 93 else 59, [some (.ref 64), some (.long A), none, some (.long B), none, some (.long C), none, some (.int 10), some (.long B), none, some (.int (am_bm 40 B))], [], am_hF n f m g, 0, 0)) (fun _ => rfl) ?_
    refine am_Go.brT hz ?_
    exact am_Go.bl 2 (fun _ => rfl) am_Go.rf
  | false =>
    refine ⟨upd g m.toNatClampNeg (vp_nar .byte (am_bm 40 B)), some (.int (am_bm 40 B)), ?_⟩
    refine am_Go.bl 26 (y := (bif am_cmp .eq (am_bm 40 B) 0 then 93 else 59, [some (.ref 64), some (.long A), none, some (.long B), none, some (.long C), none, some (.int 10), some (.long B), none, some (.int (am_bm 40 B))], [], am_hF n f m g, 0, 0)) (fun _ => rfl) ?_
    refine am_Go.brF hz ?_
    refine am_Go.bl 4 (y := (bif am_cmp .ne m 600 then 72 else 69, [some (.ref 64), some (.long A), none, some (.long B), none, some (.long C), none, some (.int 10), some (.long B), none, some (.int (am_bm 40 B))], [], am_hF n f m g, 0, 0)) (fun _ => rfl) ?_
    refine am_Go.brT ((am_cne_t (k := 600) rfl).mpr (by omega)) ?_
    refine am_Go.bl 5 (y := (82, [some (.ref 64), some (.long A), none, some (.long B), none, some (.long C), none, some (.int 10), some (.long B), none, some (.int (am_bm 40 B))], [.int (am_bm 40 B), .int m, .ref 65], am_hF n f m g, 0, 0)) (fun _ => rfl) ?_
    refine am_Go.bast (n := 600) (f := g) rfl rfl (am_in_of h0 (by omega)) ?_
    exact am_Go.bl 8 (y := (3, [some (.ref 64), some (.long A), none, some (.long B), none, some (.long C), none, some (.int 11), some (.long B), none, some (.int (am_bm 40 B))], [], am_hF n f (m + 1) (upd g m.toNatClampNeg (vp_nar .byte (am_bm 40 B))), 0, 0)) (fun _ => rfl) am_Go.rf
set_option maxHeartbeats 20000000 in
set_option maxRecDepth 100000 in
theorem am_fm11 (A B C : Int64) (n m : Int32) (f g : Nat → Int32) (o8 o10 : Option Value) (h0 : 0 ≤ m.toInt) (h1 : m.toInt < 500) : ∃ g2 o2, am_Go true 18 (0, fun _ => 0) am_r151 (3, [some (.ref 64), some (.long A), none, some (.long B), none, some (.long C), none, some (.int 11), o8, none, o10], [], am_hF n f m g, 0, 0) (3, [some (.ref 64), some (.long A), none, some (.long B), none, some (.long C), none, some (.int 12), some (.long B), none, o2], [], am_hF n f (am_stp (am_cmp .eq (am_bm 32 B) 0) m) g2, 0, 0) := by
  cases hz : am_cmp .eq (am_bm 32 B) 0 with
  | true =>
    refine ⟨g, some (.int (am_bm 32 B)), ?_⟩
    refine am_Go.bl 26 (y := (bif am_cmp .eq (am_bm 32 B) 0 then 93 else 59, [some (.ref 64), some (.long A), none, some (.long B), none, some (.long C), none, some (.int 11), some (.long B), none, some (.int (am_bm 32 B))], [], am_hF n f m g, 0, 0)) (fun _ => rfl) ?_
    refine am_Go.brT hz ?_
    exact am_Go.bl 2 (fun _ => rfl) am_Go.rf
  | false =>
    refine ⟨upd g m.toNatClampNeg (vp_nar .byte (am_bm 32 B)), some (.int (am_bm 32 B)), ?_⟩
    refine am_Go.bl 26 (y := (bif am_cmp .eq (am_bm 32 B) 0 then 93 else 59, [some (.ref 64), some (.long A), none, some (.long B), none, some (.long C), none, some (.int 11), some (.long B), none, some (.int (am_bm 32 B))], [], am_hF n f m g, 0, 0)) (fun _ => rfl) ?_
    refine am_Go.brF hz ?_
    refine am_Go.bl 4 (y := (bif am_cmp .ne m 600 then 72 else 69, [some (.ref 64), some (.long A), none, some (.long B), none, some (.long C), none, some (.int 11), some (.long B), none, some (.int (am_bm 32 B))], [], am_hF n f m g, 0, 0)) (fun _ => rfl) ?_
    refine am_Go.brT ((am_cne_t (k := 600) rfl).mpr (by omega)) ?_
    refine am_Go.bl 5 (y := (82, [some (.ref 64), some (.long A), none, some (.long B), none, some (.long C), none, some (.int 11), some (.long B), none, some (.int (am_bm 32 B))], [.int (am_bm 32 B), .int m, .ref 65], am_hF n f m g, 0, 0)) (fun _ => rfl) ?_
    refine am_Go.bast (n := 600) (f := g) rfl rfl (am_in_of h0 (by omega)) ?_
    exact am_Go.bl 8 (y := (3, [some (.ref 64), some (.long A), none, some (.long B), none, some (.long C), none, some (.int 12), some (.long B), none, some (.int (am_bm 32 B))], [], am_hF n f (m + 1) (upd g m.toNatClampNeg (vp_nar .byte (am_bm 32 B))), 0, 0)) (fun _ => rfl) am_Go.rf
set_option maxHeartbeats 20000000 in
set_option maxRecDepth 100000 in
theorem am_fm12 (A B C : Int64) (n m : Int32) (f g : Nat → Int32) (o8 o10 : Option Value) (h0 : 0 ≤ m.toInt) (h1 : m.toInt < 500) : ∃ g2 o2, am_Go true 18 (0, fun _ => 0) am_r151 (3, [some (.ref 64), some (.long A), none, some (.long B), none, some (.long C), none, some (.int 12), o8, none, o10], [], am_hF n f m g, 0, 0) (3, [some (.ref 64), some (.long A), none, some (.long B), none, some (.long C), none, some (.int 13), some (.long B), none, o2], [], am_hF n f (am_stp (am_cmp .eq (am_bm 24 B) 0) m) g2, 0, 0) := by
  cases hz : am_cmp .eq (am_bm 24 B) 0 with
  | true =>
    refine ⟨g, some (.int (am_bm 24 B)), ?_⟩
    refine am_Go.bl 26 (y := (bif am_cmp .eq (am_bm 24 B) 0 then 93 else 59, [some (.ref 64), some (.long A), none, some (.long B), none, some (.long C), none, some (.int 12), some (.long B), none, some (.int (am_bm 24 B))], [], am_hF n f m g, 0, 0)) (fun _ => rfl) ?_
    refine am_Go.brT hz ?_
    exact am_Go.bl 2 (fun _ => rfl) am_Go.rf
  | false =>
    refine ⟨upd g m.toNatClampNeg (vp_nar .byte (am_bm 24 B)), some (.int (am_bm 24 B)), ?_⟩
    refine am_Go.bl 26 (y := (bif am_cmp .eq (am_bm 24 B) 0 then 93 else 59, [some (.ref 64), some (.long A), none, some (.long B), none, some (.long C), none, some (.int 12), some (.long B), none, some (.int (am_bm 24 B))], [], am_hF n f m g, 0, 0)) (fun _ => rfl) ?_
    refine am_Go.brF hz ?_
    refine am_Go.bl 4 (y := (bif am_cmp .ne m 600 then 72 else 69, [some (.ref 64), some (.long A), none, some (.long B), none, some (.long C), none, some (.int 12), some (.long B), none, some (.int (am_bm 24 B))], [], am_hF n f m g, 0, 0)) (fun _ => rfl) ?_
    refine am_Go.brT ((am_cne_t (k := 600) rfl).mpr (by omega)) ?_
    refine am_Go.bl 5 (y := (82, [some (.ref 64), some (.long A), none, some (.long B), none, some (.long C), none, some (.int 12), some (.long B), none, some (.int (am_bm 24 B))], [.int (am_bm 24 B), .int m, .ref 65], am_hF n f m g, 0, 0)) (fun _ => rfl) ?_
    refine am_Go.bast (n := 600) (f := g) rfl rfl (am_in_of h0 (by omega)) ?_
    exact am_Go.bl 8 (y := (3, [some (.ref 64), some (.long A), none, some (.long B), none, some (.long C), none, some (.int 13), some (.long B), none, some (.int (am_bm 24 B))], [], am_hF n f (m + 1) (upd g m.toNatClampNeg (vp_nar .byte (am_bm 24 B))), 0, 0)) (fun _ => rfl) am_Go.rf
set_option maxHeartbeats 20000000 in
set_option maxRecDepth 100000 in
theorem am_fm13 (A B C : Int64) (n m : Int32) (f g : Nat → Int32) (o8 o10 : Option Value) (h0 : 0 ≤ m.toInt) (h1 : m.toInt < 500) : ∃ g2 o2, am_Go true 18 (0, fun _ => 0) am_r151 (3, [some (.ref 64), some (.long A), none, some (.long B), none, some (.long C), none, some (.int 13), o8, none, o10], [], am_hF n f m g, 0, 0) (3, [some (.ref 64), some (.long A), none, some (.long B), none, some (.long C), none, some (.int 14), some (.long B), none, o2], [], am_hF n f (am_stp (am_cmp .eq (am_bm 16 B) 0) m) g2, 0, 0) := by
  cases hz : am_cmp .eq (am_bm 16 B) 0 with
  | true =>
    refine ⟨g, some (.int (am_bm 16 B)), ?_⟩
    refine am_Go.bl 26 (y := (bif am_cmp .eq (am_bm 16 B) 0 then 93 else 59, [some (.ref 64), some (.long A), none, some (.long B), none, some (.long C), none, some (.int 13), some (.long B), none, some (.int (am_bm 16 B))], [], am_hF n f m g, 0, 0)) (fun _ => rfl) ?_
    refine am_Go.brT hz ?_
    exact am_Go.bl 2 (fun _ => rfl) am_Go.rf
  | false =>
    refine ⟨upd g m.toNatClampNeg (vp_nar .byte (am_bm 16 B)), some (.int (am_bm 16 B)), ?_⟩
    refine am_Go.bl 26 (y := (bif am_cmp .eq (am_bm 16 B) 0 then 93 else 59, [some (.ref 64), some (.long A), none, some (.long B), none, some (.long C), none, some (.int 13), some (.long B), none, some (.int (am_bm 16 B))], [], am_hF n f m g, 0, 0)) (fun _ => rfl) ?_
    refine am_Go.brF hz ?_
    refine am_Go.bl 4 (y := (bif am_cmp .ne m 600 then 72 else 69, [some (.ref 64), some (.long A), none, some (.long B), none, some (.long C), none, some (.int 13), some (.long B), none, some (.int (am_bm 16 B))], [], am_hF n f m g, 0, 0)) (fun _ => rfl) ?_
    refine am_Go.brT ((am_cne_t (k := 600) rfl).mpr (by omega)) ?_
    refine am_Go.bl 5 (y := (82, [some (.ref 64), some (.long A), none, some (.long B), none, some (.long C), none, some (.int 13), some (.long B), none, some (.int (am_bm 16 B))], [.int (am_bm 16 B), .int m, .ref 65], am_hF n f m g, 0, 0)) (fun _ => rfl) ?_
    refine am_Go.bast (n := 600) (f := g) rfl rfl (am_in_of h0 (by omega)) ?_
    exact am_Go.bl 8 (y := (3, [some (.ref 64), some (.long A), none, some (.long B), none, some (.long C), none, some (.int 14), some (.long B), none, some (.int (am_bm 16 B))], [], am_hF n f (m + 1) (upd g m.toNatClampNeg (vp_nar .byte (am_bm 16 B))), 0, 0)) (fun _ => rfl) am_Go.rf
set_option maxHeartbeats 20000000 in
set_option maxRecDepth 100000 in
theorem am_fm14 (A B C : Int64) (n m : Int32) (f g : Nat → Int32) (o8 o10 : Option Value) (h0 : 0 ≤ m.toInt) (h1 : m.toInt < 500) : ∃ g2 o2, am_Go true 18 (0, fun _ => 0) am_r151 (3, [some (.ref 64), some (.long A), none, some (.long B), none, some (.long C), none, some (.int 14), o8, none, o10], [], am_hF n f m g, 0, 0) (3, [some (.ref 64), some (.long A), none, some (.long B), none, some (.long C), none, some (.int 15), some (.long B), none, o2], [], am_hF n f (am_stp (am_cmp .eq (am_bm 8 B) 0) m) g2, 0, 0) := by
  cases hz : am_cmp .eq (am_bm 8 B) 0 with
  | true =>
    refine ⟨g, some (.int (am_bm 8 B)), ?_⟩
    refine am_Go.bl 26 (y := (bif am_cmp .eq (am_bm 8 B) 0 then 93 else 59, [some (.ref 64), some (.long A), none, some (.long B), none, some (.long C), none, some (.int 14), some (.long B), none, some (.int (am_bm 8 B))], [], am_hF n f m g, 0, 0)) (fun _ => rfl) ?_
    refine am_Go.brT hz ?_
    exact am_Go.bl 2 (fun _ => rfl) am_Go.rf
  | false =>
    refine ⟨upd g m.toNatClampNeg (vp_nar .byte (am_bm 8 B)), some (.int (am_bm 8 B)), ?_⟩
    refine am_Go.bl 26 (y := (bif am_cmp .eq (am_bm 8 B) 0 then 93 else 59, [some (.ref 64), some (.long A), none, some (.long B), none, some (.long C), none, some (.int 14), some (.long B), none, some (.int (am_bm 8 B))], [], am_hF n f m g, 0, 0)) (fun _ => rfl) ?_
    refine am_Go.brF hz ?_
    refine am_Go.bl 4 (y := (bif am_cmp .ne m 600 then 72 else 69, [some (.ref 64), some (.long A), none, some (.long B), none, some (.long C), none, some (.int 14), some (.long B), none, some (.int (am_bm 8 B))], [], am_hF n f m g, 0, 0)) (fun _ => rfl) ?_
    refine am_Go.brT ((am_cne_t (k := 600) rfl).mpr (by omega)) ?_
    refine am_Go.bl 5 (y := (82, [some (.ref 64), some (.long A), none, some (.long B), none, some (.long C), none, some (.int 14), some (.long B), none, some (.int (am_bm 8 B))], [.int (am_bm 8 B), .int m, .ref 65], am_hF n f m g, 0, 0)) (fun _ => rfl) ?_
    refine am_Go.bast (n := 600) (f := g) rfl rfl (am_in_of h0 (by omega)) ?_
    exact am_Go.bl 8 (y := (3, [some (.ref 64), some (.long A), none, some (.long B), none, some (.long C), none, some (.int 15), some (.long B), none, some (.int (am_bm 8 B))], [], am_hF n f (m + 1) (upd g m.toNatClampNeg (vp_nar .byte (am_bm 8 B))), 0, 0)) (fun _ => rfl) am_Go.rf
set_option maxHeartbeats 20000000 in
set_option maxRecDepth 100000 in
theorem am_fm15 (A B C : Int64) (n m : Int32) (f g : Nat → Int32) (o8 o10 : Option Value) (h0 : 0 ≤ m.toInt) (h1 : m.toInt < 500) : ∃ g2 o2, am_Go true 18 (0, fun _ => 0) am_r151 (3, [some (.ref 64), some (.long A), none, some (.long B), none, some (.long C), none, some (.int 15), o8, none, o10], [], am_hF n f m g, 0, 0) (3, [some (.ref 64), some (.long A), none, some (.long B), none, some (.long C), none, some (.int 16), some (.long B), none, o2], [], am_hF n f (am_stp (am_cmp .eq (am_bm 0 B) 0) m) g2, 0, 0) := by
  cases hz : am_cmp .eq (am_bm 0 B) 0 with
  | true =>
    refine ⟨g, some (.int (am_bm 0 B)), ?_⟩
    refine am_Go.bl 26 (y := (bif am_cmp .eq (am_bm 0 B) 0 then 93 else 59, [some (.ref 64), some (.long A), none, some (.long B), none, some (.long C), none, some (.int 15), some (.long B), none, some (.int (am_bm 0 B))], [], am_hF n f m g, 0, 0)) (fun _ => rfl) ?_
    refine am_Go.brT hz ?_
    exact am_Go.bl 2 (fun _ => rfl) am_Go.rf
  | false =>
    refine ⟨upd g m.toNatClampNeg (vp_nar .byte (am_bm 0 B)), some (.int (am_bm 0 B)), ?_⟩
    refine am_Go.bl 26 (y := (bif am_cmp .eq (am_bm 0 B) 0 then 93 else 59, [some (.ref 64), some (.long A), none, some (.long B), none, some (.long C), none, some (.int 15), some (.long B), none, some (.int (am_bm 0 B))], [], am_hF n f m g, 0, 0)) (fun _ => rfl) ?_
    refine am_Go.brF hz ?_
    refine am_Go.bl 4 (y := (bif am_cmp .ne m 600 then 72 else 69, [some (.ref 64), some (.long A), none, some (.long B), none, some (.long C), none, some (.int 15), some (.long B), none, some (.int (am_bm 0 B))], [], am_hF n f m g, 0, 0)) (fun _ => rfl) ?_
    refine am_Go.brT ((am_cne_t (k := 600) rfl).mpr (by omega)) ?_
    refine am_Go.bl 5 (y := (82, [some (.ref 64), some (.long A), none, some (.long B), none, some (.long C), none, some (.int 15), some (.long B), none, some (.int (am_bm 0 B))], [.int (am_bm 0 B), .int m, .ref 65], am_hF n f m g, 0, 0)) (fun _ => rfl) ?_
    refine am_Go.bast (n := 600) (f := g) rfl rfl (am_in_of h0 (by omega)) ?_
    exact am_Go.bl 8 (y := (3, [some (.ref 64), some (.long A), none, some (.long B), none, some (.long C), none, some (.int 16), some (.long B), none, some (.int (am_bm 0 B))], [], am_hF n f (m + 1) (upd g m.toNatClampNeg (vp_nar .byte (am_bm 0 B))), 0, 0)) (fun _ => rfl) am_Go.rf
set_option maxHeartbeats 20000000 in
set_option maxRecDepth 100000 in
theorem am_fm16 (A B C : Int64) (n m : Int32) (f g : Nat → Int32) (o8 o10 : Option Value) (h0 : 0 ≤ m.toInt) (h1 : m.toInt < 500) : ∃ g2 o2, am_Go true 18 (0, fun _ => 0) am_r151 (3, [some (.ref 64), some (.long A), none, some (.long B), none, some (.long C), none, some (.int 16), o8, none, o10], [], am_hF n f m g, 0, 0) (3, [some (.ref 64), some (.long A), none, some (.long B), none, some (.long C), none, some (.int 17), some (.long C), none, o2], [], am_hF n f (am_stp (am_cmp .eq (am_bm 56 C) 0) m) g2, 0, 0) := by
  cases hz : am_cmp .eq (am_bm 56 C) 0 with
  | true =>
    refine ⟨g, some (.int (am_bm 56 C)), ?_⟩
    refine am_Go.bl 25 (y := (bif am_cmp .eq (am_bm 56 C) 0 then 93 else 59, [some (.ref 64), some (.long A), none, some (.long B), none, some (.long C), none, some (.int 16), some (.long C), none, some (.int (am_bm 56 C))], [], am_hF n f m g, 0, 0)) (fun _ => rfl) ?_
    refine am_Go.brT hz ?_
    exact am_Go.bl 2 (fun _ => rfl) am_Go.rf
  | false =>
    refine ⟨upd g m.toNatClampNeg (vp_nar .byte (am_bm 56 C)), some (.int (am_bm 56 C)), ?_⟩
    refine am_Go.bl 25 (y := (bif am_cmp .eq (am_bm 56 C) 0 then 93 else 59, [some (.ref 64), some (.long A), none, some (.long B), none, some (.long C), none, some (.int 16), some (.long C), none, some (.int (am_bm 56 C))], [], am_hF n f m g, 0, 0)) (fun _ => rfl) ?_
    refine am_Go.brF hz ?_
    refine am_Go.bl 4 (y := (bif am_cmp .ne m 600 then 72 else 69, [some (.ref 64), some (.long A), none, some (.long B), none, some (.long C), none, some (.int 16), some (.long C), none, some (.int (am_bm 56 C))], [], am_hF n f m g, 0, 0)) (fun _ => rfl) ?_
    refine am_Go.brT ((am_cne_t (k := 600) rfl).mpr (by omega)) ?_
    refine am_Go.bl 5 (y := (82, [some (.ref 64), some (.long A), none, some (.long B), none, some (.long C), none, some (.int 16), some (.long C), none, some (.int (am_bm 56 C))], [.int (am_bm 56 C), .int m, .ref 65], am_hF n f m g, 0, 0)) (fun _ => rfl) ?_
    refine am_Go.bast (n := 600) (f := g) rfl rfl (am_in_of h0 (by omega)) ?_
    exact am_Go.bl 8 (y := (3, [some (.ref 64), some (.long A), none, some (.long B), none, some (.long C), none, some (.int 17), some (.long C), none, some (.int (am_bm 56 C))], [], am_hF n f (m + 1) (upd g m.toNatClampNeg (vp_nar .byte (am_bm 56 C))), 0, 0)) (fun _ => rfl) am_Go.rf
set_option maxHeartbeats 20000000 in
set_option maxRecDepth 100000 in
theorem am_fm17 (A B C : Int64) (n m : Int32) (f g : Nat → Int32) (o8 o10 : Option Value) (h0 : 0 ≤ m.toInt) (h1 : m.toInt < 500) : ∃ g2 o2, am_Go true 18 (0, fun _ => 0) am_r151 (3, [some (.ref 64), some (.long A), none, some (.long B), none, some (.long C), none, some (.int 17), o8, none, o10], [], am_hF n f m g, 0, 0) (3, [some (.ref 64), some (.long A), none, some (.long B), none, some (.long C), none, some (.int 18), some (.long C), none, o2], [], am_hF n f (am_stp (am_cmp .eq (am_bm 48 C) 0) m) g2, 0, 0) := by
  cases hz : am_cmp .eq (am_bm 48 C) 0 with
  | true =>
    refine ⟨g, some (.int (am_bm 48 C)), ?_⟩
    refine am_Go.bl 25 (y := (bif am_cmp .eq (am_bm 48 C) 0 then 93 else 59, [some (.ref 64), some (.long A), none, some (.long B), none, some (.long C), none, some (.int 17), some (.long C), none, some (.int (am_bm 48 C))], [], am_hF n f m g, 0, 0)) (fun _ => rfl) ?_
    refine am_Go.brT hz ?_
    exact am_Go.bl 2 (fun _ => rfl) am_Go.rf
  | false =>
    refine ⟨upd g m.toNatClampNeg (vp_nar .byte (am_bm 48 C)), some (.int (am_bm 48 C)), ?_⟩
    refine am_Go.bl 25 (y := (bif am_cmp .eq (am_bm 48 C) 0 then 93 else 59, [some (.ref 64), some (.long A), none, some (.long B), none, some (.long C), none, some (.int 17), some (.long C), none, some (.int (am_bm 48 C))], [], am_hF n f m g, 0, 0)) (fun _ => rfl) ?_
    refine am_Go.brF hz ?_
    refine am_Go.bl 4 (y := (bif am_cmp .ne m 600 then 72 else 69, [some (.ref 64), some (.long A), none, some (.long B), none, some (.long C), none, some (.int 17), some (.long C), none, some (.int (am_bm 48 C))], [], am_hF n f m g, 0, 0)) (fun _ => rfl) ?_
    refine am_Go.brT ((am_cne_t (k := 600) rfl).mpr (by omega)) ?_
    refine am_Go.bl 5 (y := (82, [some (.ref 64), some (.long A), none, some (.long B), none, some (.long C), none, some (.int 17), some (.long C), none, some (.int (am_bm 48 C))], [.int (am_bm 48 C), .int m, .ref 65], am_hF n f m g, 0, 0)) (fun _ => rfl) ?_
    refine am_Go.bast (n := 600) (f := g) rfl rfl (am_in_of h0 (by omega)) ?_
    exact am_Go.bl 8 (y := (3, [some (.ref 64), some (.long A), none, some (.long B), none, some (.long C), none, some (.int 18), some (.long C), none, some (.int (am_bm 48 C))], [], am_hF n f (m + 1) (upd g m.toNatClampNeg (vp_nar .byte (am_bm 48 C))), 0, 0)) (fun _ => rfl) am_Go.rf
set_option maxHeartbeats 20000000 in
set_option maxRecDepth 100000 in
theorem am_fm18 (A B C : Int64) (n m : Int32) (f g : Nat → Int32) (o8 o10 : Option Value) (h0 : 0 ≤ m.toInt) (h1 : m.toInt < 500) : ∃ g2 o2, am_Go true 18 (0, fun _ => 0) am_r151 (3, [some (.ref 64), some (.long A), none, some (.long B), none, some (.long C), none, some (.int 18), o8, none, o10], [], am_hF n f m g, 0, 0) (3, [some (.ref 64), some (.long A), none, some (.long B), none, some (.long C), none, some (.int 19), some (.long C), none, o2], [], am_hF n f (am_stp (am_cmp .eq (am_bm 40 C) 0) m) g2, 0, 0) := by
  cases hz : am_cmp .eq (am_bm 40 C) 0 with
  | true =>
    refine ⟨g, some (.int (am_bm 40 C)), ?_⟩
    refine am_Go.bl 25 (y := (bif am_cmp .eq (am_bm 40 C) 0 then 93 else 59, [some (.ref 64), some (.long A), none, some (.long B), none, some (.long C), none, some (.int 18), some (.long C), none, some (.int (am_bm 40 C))], [], am_hF n f m g, 0, 0)) (fun _ => rfl) ?_
    refine am_Go.brT hz ?_
    exact am_Go.bl 2 (fun _ => rfl) am_Go.rf
  | false =>
    refine ⟨upd g m.toNatClampNeg (vp_nar .byte (am_bm 40 C)), some (.int (am_bm 40 C)), ?_⟩
    refine am_Go.bl 25 (y := (bif am_cmp .eq (am_bm 40 C) 0 then 93 else 59, [some (.ref 64), some (.long A), none, some (.long B), none, some (.long C), none, some (.int 18), some (.long C), none, some (.int (am_bm 40 C))], [], am_hF n f m g, 0, 0)) (fun _ => rfl) ?_
    refine am_Go.brF hz ?_
    refine am_Go.bl 4 (y := (bif am_cmp .ne m 600 then 72 else 69, [some (.ref 64), some (.long A), none, some (.long B), none, some (.long C), none, some (.int 18), some (.long C), none, some (.int (am_bm 40 C))], [], am_hF n f m g, 0, 0)) (fun _ => rfl) ?_
    refine am_Go.brT ((am_cne_t (k := 600) rfl).mpr (by omega)) ?_
    refine am_Go.bl 5 (y := (82, [some (.ref 64), some (.long A), none, some (.long B), none, some (.long C), none, some (.int 18), some (.long C), none, some (.int (am_bm 40 C))], [.int (am_bm 40 C), .int m, .ref 65], am_hF n f m g, 0, 0)) (fun _ => rfl) ?_
    refine am_Go.bast (n := 600) (f := g) rfl rfl (am_in_of h0 (by omega)) ?_
    exact am_Go.bl 8 (y := (3, [some (.ref 64), some (.long A), none, some (.long B), none, some (.long C), none, some (.int 19), some (.long C), none, some (.int (am_bm 40 C))], [], am_hF n f (m + 1) (upd g m.toNatClampNeg (vp_nar .byte (am_bm 40 C))), 0, 0)) (fun _ => rfl) am_Go.rf
set_option maxHeartbeats 20000000 in
set_option maxRecDepth 100000 in
theorem am_fm19 (A B C : Int64) (n m : Int32) (f g : Nat → Int32) (o8 o10 : Option Value) (h0 : 0 ≤ m.toInt) (h1 : m.toInt < 500) : ∃ g2 o2, am_Go true 18 (0, fun _ => 0) am_r151 (3, [some (.ref 64), some (.long A), none, some (.long B), none, some (.long C), none, some (.int 19), o8, none, o10], [], am_hF n f m g, 0, 0) (3, [some (.ref 64), some (.long A), none, some (.long B), none, some (.long C), none, some (.int 20), some (.long C), none, o2], [], am_hF n f (am_stp (am_cmp .eq (am_bm 32 C) 0) m) g2, 0, 0) := by
  cases hz : am_cmp .eq (am_bm 32 C) 0 with
  | true =>
    refine ⟨g, some (.int (am_bm 32 C)), ?_⟩
    refine am_Go.bl 25 (y := (bif am_cmp .eq (am_bm 32 C) 0 then 93 else 59, [some (.ref 64), some (.long A), none, some (.long B), none, some (.long C), none, some (.int 19), some (.long C), none, some (.int (am_bm 32 C))], [], am_hF n f m g, 0, 0)) (fun _ => rfl) ?_
    refine am_Go.brT hz ?_
    exact am_Go.bl 2 (fun _ => rfl) am_Go.rf
  | false =>
    refine ⟨upd g m.toNatClampNeg (vp_nar .byte (am_bm 32 C)), some (.int (am_bm 32 C)), ?_⟩
    refine am_Go.bl 25 (y := (bif am_cmp .eq (am_bm 32 C) 0 then 93 else 59, [some (.ref 64), some (.long A), none, some (.long B), none, some (.long C), none, some (.int 19), some (.long C), none, some (.int (am_bm 32 C))], [], am_hF n f m g, 0, 0)) (fun _ => rfl) ?_
    refine am_Go.brF hz ?_
    refine am_Go.bl 4 (y := (bif am_cmp .ne m 600 then 72 else 69, [some (.ref 64), some (.long A), none, some (.long B), none, some (.long C), none, some (.int 19), some (.long C), none, some (.int (am_bm 32 C))], [], am_hF n f m g, 0, 0)) (fun _ => rfl) ?_
    refine am_Go.brT ((am_cne_t (k := 600) rfl).mpr (by omega)) ?_
    refine am_Go.bl 5 (y := (82, [some (.ref 64), some (.long A), none, some (.long B), none, some (.long C), none, some (.int 19), some (.long C), none, some (.int (am_bm 32 C))], [.int (am_bm 32 C), .int m, .ref 65], am_hF n f m g, 0, 0)) (fun _ => rfl) ?_
    refine am_Go.bast (n := 600) (f := g) rfl rfl (am_in_of h0 (by omega)) ?_
    exact am_Go.bl 8 (y := (3, [some (.ref 64), some (.long A), none, some (.long B), none, some (.long C), none, some (.int 20), some (.long C), none, some (.int (am_bm 32 C))], [], am_hF n f (m + 1) (upd g m.toNatClampNeg (vp_nar .byte (am_bm 32 C))), 0, 0)) (fun _ => rfl) am_Go.rf
set_option maxHeartbeats 20000000 in
set_option maxRecDepth 100000 in
theorem am_fm20 (A B C : Int64) (n m : Int32) (f g : Nat → Int32) (o8 o10 : Option Value) (h0 : 0 ≤ m.toInt) (h1 : m.toInt < 500) : ∃ g2 o2, am_Go true 18 (0, fun _ => 0) am_r151 (3, [some (.ref 64), some (.long A), none, some (.long B), none, some (.long C), none, some (.int 20), o8, none, o10], [], am_hF n f m g, 0, 0) (3, [some (.ref 64), some (.long A), none, some (.long B), none, some (.long C), none, some (.int 21), some (.long C), none, o2], [], am_hF n f (am_stp (am_cmp .eq (am_bm 24 C) 0) m) g2, 0, 0) := by
  cases hz : am_cmp .eq (am_bm 24 C) 0 with
  | true =>
    refine ⟨g, some (.int (am_bm 24 C)), ?_⟩
    refine am_Go.bl 25 (y := (bif am_cmp .eq (am_bm 24 C) 0 then 93 else 59, [some (.ref 64), some (.long A), none, some (.long B), none, some (.long C), none, some (.int 20), some (.long C), none, some (.int (am_bm 24 C))], [], am_hF n f m g, 0, 0)) (fun _ => rfl) ?_
    refine am_Go.brT hz ?_
    exact am_Go.bl 2 (fun _ => rfl) am_Go.rf
  | false =>
    refine ⟨upd g m.toNatClampNeg (vp_nar .byte (am_bm 24 C)), some (.int (am_bm 24 C)), ?_⟩
    refine am_Go.bl 25 (y := (bif am_cmp .eq (am_bm 24 C) 0 then 93 else 59, [some (.ref 64), some (.long A), none, some (.long B), none, some (.long C), none, some (.int 20), some (.long C), none, some (.int (am_bm 24 C))], [], am_hF n f m g, 0, 0)) (fun _ => rfl) ?_
    refine am_Go.brF hz ?_
    refine am_Go.bl 4 (y := (bif am_cmp .ne m 600 then 72 else 69, [some (.ref 64), some (.long A), none, some (.long B), none, some (.long C), none, some (.int 20), some (.long C), none, some (.int (am_bm 24 C))], [], am_hF n f m g, 0, 0)) (fun _ => rfl) ?_
    refine am_Go.brT ((am_cne_t (k := 600) rfl).mpr (by omega)) ?_
    refine am_Go.bl 5 (y := (82, [some (.ref 64), some (.long A), none, some (.long B), none, some (.long C), none, some (.int 20), some (.long C), none, some (.int (am_bm 24 C))], [.int (am_bm 24 C), .int m, .ref 65], am_hF n f m g, 0, 0)) (fun _ => rfl) ?_
    refine am_Go.bast (n := 600) (f := g) rfl rfl (am_in_of h0 (by omega)) ?_
    exact am_Go.bl 8 (y := (3, [some (.ref 64), some (.long A), none, some (.long B), none, some (.long C), none, some (.int 21), some (.long C), none, some (.int (am_bm 24 C))], [], am_hF n f (m + 1) (upd g m.toNatClampNeg (vp_nar .byte (am_bm 24 C))), 0, 0)) (fun _ => rfl) am_Go.rf
set_option maxHeartbeats 20000000 in
set_option maxRecDepth 100000 in
theorem am_fm21 (A B C : Int64) (n m : Int32) (f g : Nat → Int32) (o8 o10 : Option Value) (h0 : 0 ≤ m.toInt) (h1 : m.toInt < 500) : ∃ g2 o2, am_Go true 18 (0, fun _ => 0) am_r151 (3, [some (.ref 64), some (.long A), none, some (.long B), none, some (.long C), none, some (.int 21), o8, none, o10], [], am_hF n f m g, 0, 0) (3, [some (.ref 64), some (.long A), none, some (.long B), none, some (.long C), none, some (.int 22), some (.long C), none, o2], [], am_hF n f (am_stp (am_cmp .eq (am_bm 16 C) 0) m) g2, 0, 0) := by
  cases hz : am_cmp .eq (am_bm 16 C) 0 with
  | true =>
    refine ⟨g, some (.int (am_bm 16 C)), ?_⟩
    refine am_Go.bl 25 (y := (bif am_cmp .eq (am_bm 16 C) 0 then 93 else 59, [some (.ref 64), some (.long A), none, some (.long B), none, some (.long C), none, some (.int 21), some (.long C), none, some (.int (am_bm 16 C))], [], am_hF n f m g, 0, 0)) (fun _ => rfl) ?_
    refine am_Go.brT hz ?_
    exact am_Go.bl 2 (fun _ => rfl) am_Go.rf
  | false =>
    refine ⟨upd g m.toNatClampNeg (vp_nar .byte (am_bm 16 C)), some (.int (am_bm 16 C)), ?_⟩
    refine am_Go.bl 25 (y := (bif am_cmp .eq (am_bm 16 C) 0 then 93 else 59, [some (.ref 64), some (.long A), none, some (.long B), none, some (.long C), none, some (.int 21), some (.long C), none, some (.int (am_bm 16 C))], [], am_hF n f m g, 0, 0)) (fun _ => rfl) ?_
    refine am_Go.brF hz ?_
    refine am_Go.bl 4 (y := (bif am_cmp .ne m 600 then 72 else 69, [some (.ref 64), some (.long A), none, some (.long B), none, some (.long C), none, some (.int 21), some (.long C), none, some (.int (am_bm 16 C))], [], am_hF n f m g, 0, 0)) (fun _ => rfl) ?_
    refine am_Go.brT ((am_cne_t (k := 600) rfl).mpr (by omega)) ?_
    refine am_Go.bl 5 (y := (82, [some (.ref 64), some (.long A), none, some (.long B), none, some (.long C), none, some (.int 21), some (.long C), none, some (.int (am_bm 16 C))], [.int (am_bm 16 C), .int m, .ref 65], am_hF n f m g, 0, 0)) (fun _ => rfl) ?_
    refine am_Go.bast (n := 600) (f := g) rfl rfl (am_in_of h0 (by omega)) ?_
    exact am_Go.bl 8 (y := (3, [some (.ref 64), some (.long A), none, some (.long B), none, some (.long C), none, some (.int 22), some (.long C), none, some (.int (am_bm 16 C))], [], am_hF n f (m + 1) (upd g m.toNatClampNeg (vp_nar .byte (am_bm 16 C))), 0, 0)) (fun _ => rfl) am_Go.rf
set_option maxHeartbeats 20000000 in
set_option maxRecDepth 100000 in
theorem am_fm22 (A B C : Int64) (n m : Int32) (f g : Nat → Int32) (o8 o10 : Option Value) (h0 : 0 ≤ m.toInt) (h1 : m.toInt < 500) : ∃ g2 o2, am_Go true 18 (0, fun _ => 0) am_r151 (3, [some (.ref 64), some (.long A), none, some (.long B), none, some (.long C), none, some (.int 22), o8, none, o10], [], am_hF n f m g, 0, 0) (3, [some (.ref 64), some (.long A), none, some (.long B), none, some (.long C), none, some (.int 23), some (.long C), none, o2], [], am_hF n f (am_stp (am_cmp .eq (am_bm 8 C) 0) m) g2, 0, 0) := by
  cases hz : am_cmp .eq (am_bm 8 C) 0 with
  | true =>
    refine ⟨g, some (.int (am_bm 8 C)), ?_⟩
    refine am_Go.bl 25 (y := (bif am_cmp .eq (am_bm 8 C) 0 then 93 else 59, [some (.ref 64), some (.long A), none, some (.long B), none, some (.long C), none, some (.int 22), some (.long C), none, some (.int (am_bm 8 C))], [], am_hF n f m g, 0, 0)) (fun _ => rfl) ?_
    refine am_Go.brT hz ?_
    exact am_Go.bl 2 (fun _ => rfl) am_Go.rf
  | false =>
    refine ⟨upd g m.toNatClampNeg (vp_nar .byte (am_bm 8 C)), some (.int (am_bm 8 C)), ?_⟩
    refine am_Go.bl 25 (y := (bif am_cmp .eq (am_bm 8 C) 0 then 93 else 59, [some (.ref 64), some (.long A), none, some (.long B), none, some (.long C), none, some (.int 22), some (.long C), none, some (.int (am_bm 8 C))], [], am_hF n f m g, 0, 0)) (fun _ => rfl) ?_
    refine am_Go.brF hz ?_
    refine am_Go.bl 4 (y := (bif am_cmp .ne m 600 then 72 else 69, [some (.ref 64), some (.long A), none, some (.long B), none, some (.long C), none, some (.int 22), some (.long C), none, some (.int (am_bm 8 C))], [], am_hF n f m g, 0, 0)) (fun _ => rfl) ?_
    refine am_Go.brT ((am_cne_t (k := 600) rfl).mpr (by omega)) ?_
    refine am_Go.bl 5 (y := (82, [some (.ref 64), some (.long A), none, some (.long B), none, some (.long C), none, some (.int 22), some (.long C), none, some (.int (am_bm 8 C))], [.int (am_bm 8 C), .int m, .ref 65], am_hF n f m g, 0, 0)) (fun _ => rfl) ?_
    refine am_Go.bast (n := 600) (f := g) rfl rfl (am_in_of h0 (by omega)) ?_
    exact am_Go.bl 8 (y := (3, [some (.ref 64), some (.long A), none, some (.long B), none, some (.long C), none, some (.int 23), some (.long C), none, some (.int (am_bm 8 C))], [], am_hF n f (m + 1) (upd g m.toNatClampNeg (vp_nar .byte (am_bm 8 C))), 0, 0)) (fun _ => rfl) am_Go.rf
set_option maxHeartbeats 20000000 in
set_option maxRecDepth 100000 in
theorem am_fm23 (A B C : Int64) (n m : Int32) (f g : Nat → Int32) (o8 o10 : Option Value) (h0 : 0 ≤ m.toInt) (h1 : m.toInt < 500) : ∃ g2 o2, am_Go true 18 (0, fun _ => 0) am_r151 (3, [some (.ref 64), some (.long A), none, some (.long B), none, some (.long C), none, some (.int 23), o8, none, o10], [], am_hF n f m g, 0, 0) (3, [some (.ref 64), some (.long A), none, some (.long B), none, some (.long C), none, some (.int 24), some (.long C), none, o2], [], am_hF n f (am_stp (am_cmp .eq (am_bm 0 C) 0) m) g2, 0, 0) := by
  cases hz : am_cmp .eq (am_bm 0 C) 0 with
  | true =>
    refine ⟨g, some (.int (am_bm 0 C)), ?_⟩
    refine am_Go.bl 25 (y := (bif am_cmp .eq (am_bm 0 C) 0 then 93 else 59, [some (.ref 64), some (.long A), none, some (.long B), none, some (.long C), none, some (.int 23), some (.long C), none, some (.int (am_bm 0 C))], [], am_hF n f m g, 0, 0)) (fun _ => rfl) ?_
    refine am_Go.brT hz ?_
    exact am_Go.bl 2 (fun _ => rfl) am_Go.rf
  | false =>
    refine ⟨upd g m.toNatClampNeg (vp_nar .byte (am_bm 0 C)), some (.int (am_bm 0 C)), ?_⟩
    refine am_Go.bl 25 (y := (bif am_cmp .eq (am_bm 0 C) 0 then 93 else 59, [some (.ref 64), some (.long A), none, some (.long B), none, some (.long C), none, some (.int 23), some (.long C), none, some (.int (am_bm 0 C))], [], am_hF n f m g, 0, 0)) (fun _ => rfl) ?_
    refine am_Go.brF hz ?_
    refine am_Go.bl 4 (y := (bif am_cmp .ne m 600 then 72 else 69, [some (.ref 64), some (.long A), none, some (.long B), none, some (.long C), none, some (.int 23), some (.long C), none, some (.int (am_bm 0 C))], [], am_hF n f m g, 0, 0)) (fun _ => rfl) ?_
    refine am_Go.brT ((am_cne_t (k := 600) rfl).mpr (by omega)) ?_
    refine am_Go.bl 5 (y := (82, [some (.ref 64), some (.long A), none, some (.long B), none, some (.long C), none, some (.int 23), some (.long C), none, some (.int (am_bm 0 C))], [.int (am_bm 0 C), .int m, .ref 65], am_hF n f m g, 0, 0)) (fun _ => rfl) ?_
    refine am_Go.bast (n := 600) (f := g) rfl rfl (am_in_of h0 (by omega)) ?_
    exact am_Go.bl 8 (y := (3, [some (.ref 64), some (.long A), none, some (.long B), none, some (.long C), none, some (.int 24), some (.long C), none, some (.int (am_bm 0 C))], [], am_hF n f (m + 1) (upd g m.toNatClampNeg (vp_nar .byte (am_bm 0 C))), 0, 0)) (fun _ => rfl) am_Go.rf
set_option maxHeartbeats 20000000 in
set_option maxRecDepth 100000 in
theorem am_fM (A B C : Int64) (n : Int32) (f g : Nat → Int32) : ∃ g2, am_Do true 19 151 [.ref 64, .long A, .long B, .long C] (am_hF n f 0 g) (some (.int (am_cn (am_zm C) (am_cn (am_zm B) (am_cn (am_zm A) 0)))), am_hF n f (am_cn (am_zm C) (am_cn (am_zm B) (am_cn (am_zm A) 0))) g2) := by
  have q0 : 0 ≤ (0 : Int32).toInt ∧ (0 : Int32).toInt ≤ 0 := by decide
  obtain ⟨g1, p1, r1⟩ := am_fm0 A B C n (0) f g (none) none q0.1 (by have := q0.2; omega)
  have q1 := am_stp_b (z := am_cmp .eq (am_bm 56 A) 0) (b := 0) q0.1 q0.2 (by decide)
  obtain ⟨g2, p2, r2⟩ := am_fm1 A B C n (am_stp (am_cmp .eq (am_bm 56 A) 0) (0)) f g1 (some (.long A)) p1 q1.1 (by have := q1.2; omega)
  have q2 := am_stp_b (z := am_cmp .eq (am_bm 48 A) 0) (b := 1) q1.1 q1.2 (by decide)
  obtain ⟨g3, p3, r3⟩ := am_fm2 A B C n (am_stp (am_cmp .eq (am_bm 48 A) 0) (am_stp (am_cmp .eq (am_bm 56 A) 0) (0))) f g2 (some (.long A)) p2 q2.1 (by have := q2.2; omega)
  have q3 := am_stp_b (z := am_cmp .eq (am_bm 40 A) 0) (b := 2) q2.1 q2.2 (by decide)
  obtain ⟨g4, p4, r4⟩ := am_fm3 A B C n (am_stp (am_cmp .eq (am_bm 40 A) 0) (am_stp (am_cmp .eq (am_bm 48 A) 0) (am_stp (am_cmp .eq (am_bm 56 A) 0) (0)))) f g3 (some (.long A)) p3 q3.1 (by have := q3.2; omega)
  have q4 := am_stp_b (z := am_cmp .eq (am_bm 32 A) 0) (b := 3) q3.1 q3.2 (by decide)
  obtain ⟨g5, p5, r5⟩ := am_fm4 A B C n (am_stp (am_cmp .eq (am_bm 32 A) 0) (am_stp (am_cmp .eq (am_bm 40 A) 0) (am_stp (am_cmp .eq (am_bm 48 A) 0) (am_stp (am_cmp .eq (am_bm 56 A) 0) (0))))) f g4 (some (.long A)) p4 q4.1 (by have := q4.2; omega)
  have q5 := am_stp_b (z := am_cmp .eq (am_bm 24 A) 0) (b := 4) q4.1 q4.2 (by decide)
  obtain ⟨g6, p6, r6⟩ := am_fm5 A B C n (am_stp (am_cmp .eq (am_bm 24 A) 0) (am_stp (am_cmp .eq (am_bm 32 A) 0) (am_stp (am_cmp .eq (am_bm 40 A) 0) (am_stp (am_cmp .eq (am_bm 48 A) 0) (am_stp (am_cmp .eq (am_bm 56 A) 0) (0)))))) f g5 (some (.long A)) p5 q5.1 (by have := q5.2; omega)
  have q6 := am_stp_b (z := am_cmp .eq (am_bm 16 A) 0) (b := 5) q5.1 q5.2 (by decide)
  obtain ⟨g7, p7, r7⟩ := am_fm6 A B C n (am_stp (am_cmp .eq (am_bm 16 A) 0) (am_stp (am_cmp .eq (am_bm 24 A) 0) (am_stp (am_cmp .eq (am_bm 32 A) 0) (am_stp (am_cmp .eq (am_bm 40 A) 0) (am_stp (am_cmp .eq (am_bm 48 A) 0) (am_stp (am_cmp .eq (am_bm 56 A) 0) (0))))))) f g6 (some (.long A)) p6 q6.1 (by have := q6.2; omega)
  have q7 := am_stp_b (z := am_cmp .eq (am_bm 8 A) 0) (b := 6) q6.1 q6.2 (by decide)
  obtain ⟨g8, p8, r8⟩ := am_fm7 A B C n (am_stp (am_cmp .eq (am_bm 8 A) 0) (am_stp (am_cmp .eq (am_bm 16 A) 0) (am_stp (am_cmp .eq (am_bm 24 A) 0) (am_stp (am_cmp .eq (am_bm 32 A) 0) (am_stp (am_cmp .eq (am_bm 40 A) 0) (am_stp (am_cmp .eq (am_bm 48 A) 0) (am_stp (am_cmp .eq (am_bm 56 A) 0) (0)))))))) f g7 (some (.long A)) p7 q7.1 (by have := q7.2; omega)
  have q8 := am_stp_b (z := am_cmp .eq (am_bm 0 A) 0) (b := 7) q7.1 q7.2 (by decide)
  obtain ⟨g9, p9, r9⟩ := am_fm8 A B C n (am_stp (am_cmp .eq (am_bm 0 A) 0) (am_stp (am_cmp .eq (am_bm 8 A) 0) (am_stp (am_cmp .eq (am_bm 16 A) 0) (am_stp (am_cmp .eq (am_bm 24 A) 0) (am_stp (am_cmp .eq (am_bm 32 A) 0) (am_stp (am_cmp .eq (am_bm 40 A) 0) (am_stp (am_cmp .eq (am_bm 48 A) 0) (am_stp (am_cmp .eq (am_bm 56 A) 0) (0))))))))) f g8 (some (.long A)) p8 q8.1 (by have := q8.2; omega)
  have q9 := am_stp_b (z := am_cmp .eq (am_bm 56 B) 0) (b := 8) q8.1 q8.2 (by decide)
  obtain ⟨g10, p10, r10⟩ := am_fm9 A B C n (am_stp (am_cmp .eq (am_bm 56 B) 0) (am_stp (am_cmp .eq (am_bm 0 A) 0) (am_stp (am_cmp .eq (am_bm 8 A) 0) (am_stp (am_cmp .eq (am_bm 16 A) 0) (am_stp (am_cmp .eq (am_bm 24 A) 0) (am_stp (am_cmp .eq (am_bm 32 A) 0) (am_stp (am_cmp .eq (am_bm 40 A) 0) (am_stp (am_cmp .eq (am_bm 48 A) 0) (am_stp (am_cmp .eq (am_bm 56 A) 0) (0)))))))))) f g9 (some (.long B)) p9 q9.1 (by have := q9.2; omega)
  have q10 := am_stp_b (z := am_cmp .eq (am_bm 48 B) 0) (b := 9) q9.1 q9.2 (by decide)
  obtain ⟨g11, p11, r11⟩ := am_fm10 A B C n (am_stp (am_cmp .eq (am_bm 48 B) 0) (am_stp (am_cmp .eq (am_bm 56 B) 0) (am_stp (am_cmp .eq (am_bm 0 A) 0) (am_stp (am_cmp .eq (am_bm 8 A) 0) (am_stp (am_cmp .eq (am_bm 16 A) 0) (am_stp (am_cmp .eq (am_bm 24 A) 0) (am_stp (am_cmp .eq (am_bm 32 A) 0) (am_stp (am_cmp .eq (am_bm 40 A) 0) (am_stp (am_cmp .eq (am_bm 48 A) 0) (am_stp (am_cmp .eq (am_bm 56 A) 0) (0))))))))))) f g10 (some (.long B)) p10 q10.1 (by have := q10.2; omega)
  have q11 := am_stp_b (z := am_cmp .eq (am_bm 40 B) 0) (b := 10) q10.1 q10.2 (by decide)
  obtain ⟨g12, p12, r12⟩ := am_fm11 A B C n (am_stp (am_cmp .eq (am_bm 40 B) 0) (am_stp (am_cmp .eq (am_bm 48 B) 0) (am_stp (am_cmp .eq (am_bm 56 B) 0) (am_stp (am_cmp .eq (am_bm 0 A) 0) (am_stp (am_cmp .eq (am_bm 8 A) 0) (am_stp (am_cmp .eq (am_bm 16 A) 0) (am_stp (am_cmp .eq (am_bm 24 A) 0) (am_stp (am_cmp .eq (am_bm 32 A) 0) (am_stp (am_cmp .eq (am_bm 40 A) 0) (am_stp (am_cmp .eq (am_bm 48 A) 0) (am_stp (am_cmp .eq (am_bm 56 A) 0) (0)))))))))))) f g11 (some (.long B)) p11 q11.1 (by have := q11.2; omega)
  have q12 := am_stp_b (z := am_cmp .eq (am_bm 32 B) 0) (b := 11) q11.1 q11.2 (by decide)
  obtain ⟨g13, p13, r13⟩ := am_fm12 A B C n (am_stp (am_cmp .eq (am_bm 32 B) 0) (am_stp (am_cmp .eq (am_bm 40 B) 0) (am_stp (am_cmp .eq (am_bm 48 B) 0) (am_stp (am_cmp .eq (am_bm 56 B) 0) (am_stp (am_cmp .eq (am_bm 0 A) 0) (am_stp (am_cmp .eq (am_bm 8 A) 0) (am_stp (am_cmp .eq (am_bm 16 A) 0) (am_stp (am_cmp .eq (am_bm 24 A) 0) (am_stp (am_cmp .eq (am_bm 32 A) 0) (am_stp (am_cmp .eq (am_bm 40 A) 0) (am_stp (am_cmp .eq (am_bm 48 A) 0) (am_stp (am_cmp .eq (am_bm 56 A) 0) (0))))))))))))) f g12 (some (.long B)) p12 q12.1 (by have := q12.2; omega)
  have q13 := am_stp_b (z := am_cmp .eq (am_bm 24 B) 0) (b := 12) q12.1 q12.2 (by decide)
  obtain ⟨g14, p14, r14⟩ := am_fm13 A B C n (am_stp (am_cmp .eq (am_bm 24 B) 0) (am_stp (am_cmp .eq (am_bm 32 B) 0) (am_stp (am_cmp .eq (am_bm 40 B) 0) (am_stp (am_cmp .eq (am_bm 48 B) 0) (am_stp (am_cmp .eq (am_bm 56 B) 0) (am_stp (am_cmp .eq (am_bm 0 A) 0) (am_stp (am_cmp .eq (am_bm 8 A) 0) (am_stp (am_cmp .eq (am_bm 16 A) 0) (am_stp (am_cmp .eq (am_bm 24 A) 0) (am_stp (am_cmp .eq (am_bm 32 A) 0) (am_stp (am_cmp .eq (am_bm 40 A) 0) (am_stp (am_cmp .eq (am_bm 48 A) 0) (am_stp (am_cmp .eq (am_bm 56 A) 0) (0)))))))))))))) f g13 (some (.long B)) p13 q13.1 (by have := q13.2; omega)
  have q14 := am_stp_b (z := am_cmp .eq (am_bm 16 B) 0) (b := 13) q13.1 q13.2 (by decide)
  obtain ⟨g15, p15, r15⟩ := am_fm14 A B C n (am_stp (am_cmp .eq (am_bm 16 B) 0) (am_stp (am_cmp .eq (am_bm 24 B) 0) (am_stp (am_cmp .eq (am_bm 32 B) 0) (am_stp (am_cmp .eq (am_bm 40 B) 0) (am_stp (am_cmp .eq (am_bm 48 B) 0) (am_stp (am_cmp .eq (am_bm 56 B) 0) (am_stp (am_cmp .eq (am_bm 0 A) 0) (am_stp (am_cmp .eq (am_bm 8 A) 0) (am_stp (am_cmp .eq (am_bm 16 A) 0) (am_stp (am_cmp .eq (am_bm 24 A) 0) (am_stp (am_cmp .eq (am_bm 32 A) 0) (am_stp (am_cmp .eq (am_bm 40 A) 0) (am_stp (am_cmp .eq (am_bm 48 A) 0) (am_stp (am_cmp .eq (am_bm 56 A) 0) (0))))))))))))))) f g14 (some (.long B)) p14 q14.1 (by have := q14.2; omega)
  have q15 := am_stp_b (z := am_cmp .eq (am_bm 8 B) 0) (b := 14) q14.1 q14.2 (by decide)
  obtain ⟨g16, p16, r16⟩ := am_fm15 A B C n (am_stp (am_cmp .eq (am_bm 8 B) 0) (am_stp (am_cmp .eq (am_bm 16 B) 0) (am_stp (am_cmp .eq (am_bm 24 B) 0) (am_stp (am_cmp .eq (am_bm 32 B) 0) (am_stp (am_cmp .eq (am_bm 40 B) 0) (am_stp (am_cmp .eq (am_bm 48 B) 0) (am_stp (am_cmp .eq (am_bm 56 B) 0) (am_stp (am_cmp .eq (am_bm 0 A) 0) (am_stp (am_cmp .eq (am_bm 8 A) 0) (am_stp (am_cmp .eq (am_bm 16 A) 0) (am_stp (am_cmp .eq (am_bm 24 A) 0) (am_stp (am_cmp .eq (am_bm 32 A) 0) (am_stp (am_cmp .eq (am_bm 40 A) 0) (am_stp (am_cmp .eq (am_bm 48 A) 0) (am_stp (am_cmp .eq (am_bm 56 A) 0) (0)))))))))))))))) f g15 (some (.long B)) p15 q15.1 (by have := q15.2; omega)
  have q16 := am_stp_b (z := am_cmp .eq (am_bm 0 B) 0) (b := 15) q15.1 q15.2 (by decide)
  obtain ⟨g17, p17, r17⟩ := am_fm16 A B C n (am_stp (am_cmp .eq (am_bm 0 B) 0) (am_stp (am_cmp .eq (am_bm 8 B) 0) (am_stp (am_cmp .eq (am_bm 16 B) 0) (am_stp (am_cmp .eq (am_bm 24 B) 0) (am_stp (am_cmp .eq (am_bm 32 B) 0) (am_stp (am_cmp .eq (am_bm 40 B) 0) (am_stp (am_cmp .eq (am_bm 48 B) 0) (am_stp (am_cmp .eq (am_bm 56 B) 0) (am_stp (am_cmp .eq (am_bm 0 A) 0) (am_stp (am_cmp .eq (am_bm 8 A) 0) (am_stp (am_cmp .eq (am_bm 16 A) 0) (am_stp (am_cmp .eq (am_bm 24 A) 0) (am_stp (am_cmp .eq (am_bm 32 A) 0) (am_stp (am_cmp .eq (am_bm 40 A) 0) (am_stp (am_cmp .eq (am_bm 48 A) 0) (am_stp (am_cmp .eq (am_bm 56 A) 0) (0))))))))))))))))) f g16 (some (.long B)) p16 q16.1 (by have := q16.2; omega)
  have q17 := am_stp_b (z := am_cmp .eq (am_bm 56 C) 0) (b := 16) q16.1 q16.2 (by decide)
  obtain ⟨g18, p18, r18⟩ := am_fm17 A B C n (am_stp (am_cmp .eq (am_bm 56 C) 0) (am_stp (am_cmp .eq (am_bm 0 B) 0) (am_stp (am_cmp .eq (am_bm 8 B) 0) (am_stp (am_cmp .eq (am_bm 16 B) 0) (am_stp (am_cmp .eq (am_bm 24 B) 0) (am_stp (am_cmp .eq (am_bm 32 B) 0) (am_stp (am_cmp .eq (am_bm 40 B) 0) (am_stp (am_cmp .eq (am_bm 48 B) 0) (am_stp (am_cmp .eq (am_bm 56 B) 0) (am_stp (am_cmp .eq (am_bm 0 A) 0) (am_stp (am_cmp .eq (am_bm 8 A) 0) (am_stp (am_cmp .eq (am_bm 16 A) 0) (am_stp (am_cmp .eq (am_bm 24 A) 0) (am_stp (am_cmp .eq (am_bm 32 A) 0) (am_stp (am_cmp .eq (am_bm 40 A) 0) (am_stp (am_cmp .eq (am_bm 48 A) 0) (am_stp (am_cmp .eq (am_bm 56 A) 0) (0)))))))))))))))))) f g17 (some (.long C)) p17 q17.1 (by have := q17.2; omega)
  have q18 := am_stp_b (z := am_cmp .eq (am_bm 48 C) 0) (b := 17) q17.1 q17.2 (by decide)
  obtain ⟨g19, p19, r19⟩ := am_fm18 A B C n (am_stp (am_cmp .eq (am_bm 48 C) 0) (am_stp (am_cmp .eq (am_bm 56 C) 0) (am_stp (am_cmp .eq (am_bm 0 B) 0) (am_stp (am_cmp .eq (am_bm 8 B) 0) (am_stp (am_cmp .eq (am_bm 16 B) 0) (am_stp (am_cmp .eq (am_bm 24 B) 0) (am_stp (am_cmp .eq (am_bm 32 B) 0) (am_stp (am_cmp .eq (am_bm 40 B) 0) (am_stp (am_cmp .eq (am_bm 48 B) 0) (am_stp (am_cmp .eq (am_bm 56 B) 0) (am_stp (am_cmp .eq (am_bm 0 A) 0) (am_stp (am_cmp .eq (am_bm 8 A) 0) (am_stp (am_cmp .eq (am_bm 16 A) 0) (am_stp (am_cmp .eq (am_bm 24 A) 0) (am_stp (am_cmp .eq (am_bm 32 A) 0) (am_stp (am_cmp .eq (am_bm 40 A) 0) (am_stp (am_cmp .eq (am_bm 48 A) 0) (am_stp (am_cmp .eq (am_bm 56 A) 0) (0))))))))))))))))))) f g18 (some (.long C)) p18 q18.1 (by have := q18.2; omega)
  have q19 := am_stp_b (z := am_cmp .eq (am_bm 40 C) 0) (b := 18) q18.1 q18.2 (by decide)
  obtain ⟨g20, p20, r20⟩ := am_fm19 A B C n (am_stp (am_cmp .eq (am_bm 40 C) 0) (am_stp (am_cmp .eq (am_bm 48 C) 0) (am_stp (am_cmp .eq (am_bm 56 C) 0) (am_stp (am_cmp .eq (am_bm 0 B) 0) (am_stp (am_cmp .eq (am_bm 8 B) 0) (am_stp (am_cmp .eq (am_bm 16 B) 0) (am_stp (am_cmp .eq (am_bm 24 B) 0) (am_stp (am_cmp .eq (am_bm 32 B) 0) (am_stp (am_cmp .eq (am_bm 40 B) 0) (am_stp (am_cmp .eq (am_bm 48 B) 0) (am_stp (am_cmp .eq (am_bm 56 B) 0) (am_stp (am_cmp .eq (am_bm 0 A) 0) (am_stp (am_cmp .eq (am_bm 8 A) 0) (am_stp (am_cmp .eq (am_bm 16 A) 0) (am_stp (am_cmp .eq (am_bm 24 A) 0) (am_stp (am_cmp .eq (am_bm 32 A) 0) (am_stp (am_cmp .eq (am_bm 40 A) 0) (am_stp (am_cmp .eq (am_bm 48 A) 0) (am_stp (am_cmp .eq (am_bm 56 A) 0) (0)))))))))))))))))))) f g19 (some (.long C)) p19 q19.1 (by have := q19.2; omega)
  have q20 := am_stp_b (z := am_cmp .eq (am_bm 32 C) 0) (b := 19) q19.1 q19.2 (by decide)
  obtain ⟨g21, p21, r21⟩ := am_fm20 A B C n (am_stp (am_cmp .eq (am_bm 32 C) 0) (am_stp (am_cmp .eq (am_bm 40 C) 0) (am_stp (am_cmp .eq (am_bm 48 C) 0) (am_stp (am_cmp .eq (am_bm 56 C) 0) (am_stp (am_cmp .eq (am_bm 0 B) 0) (am_stp (am_cmp .eq (am_bm 8 B) 0) (am_stp (am_cmp .eq (am_bm 16 B) 0) (am_stp (am_cmp .eq (am_bm 24 B) 0) (am_stp (am_cmp .eq (am_bm 32 B) 0) (am_stp (am_cmp .eq (am_bm 40 B) 0) (am_stp (am_cmp .eq (am_bm 48 B) 0) (am_stp (am_cmp .eq (am_bm 56 B) 0) (am_stp (am_cmp .eq (am_bm 0 A) 0) (am_stp (am_cmp .eq (am_bm 8 A) 0) (am_stp (am_cmp .eq (am_bm 16 A) 0) (am_stp (am_cmp .eq (am_bm 24 A) 0) (am_stp (am_cmp .eq (am_bm 32 A) 0) (am_stp (am_cmp .eq (am_bm 40 A) 0) (am_stp (am_cmp .eq (am_bm 48 A) 0) (am_stp (am_cmp .eq (am_bm 56 A) 0) (0))))))))))))))))))))) f g20 (some (.long C)) p20 q20.1 (by have := q20.2; omega)
  have q21 := am_stp_b (z := am_cmp .eq (am_bm 24 C) 0) (b := 20) q20.1 q20.2 (by decide)
  obtain ⟨g22, p22, r22⟩ := am_fm21 A B C n (am_stp (am_cmp .eq (am_bm 24 C) 0) (am_stp (am_cmp .eq (am_bm 32 C) 0) (am_stp (am_cmp .eq (am_bm 40 C) 0) (am_stp (am_cmp .eq (am_bm 48 C) 0) (am_stp (am_cmp .eq (am_bm 56 C) 0) (am_stp (am_cmp .eq (am_bm 0 B) 0) (am_stp (am_cmp .eq (am_bm 8 B) 0) (am_stp (am_cmp .eq (am_bm 16 B) 0) (am_stp (am_cmp .eq (am_bm 24 B) 0) (am_stp (am_cmp .eq (am_bm 32 B) 0) (am_stp (am_cmp .eq (am_bm 40 B) 0) (am_stp (am_cmp .eq (am_bm 48 B) 0) (am_stp (am_cmp .eq (am_bm 56 B) 0) (am_stp (am_cmp .eq (am_bm 0 A) 0) (am_stp (am_cmp .eq (am_bm 8 A) 0) (am_stp (am_cmp .eq (am_bm 16 A) 0) (am_stp (am_cmp .eq (am_bm 24 A) 0) (am_stp (am_cmp .eq (am_bm 32 A) 0) (am_stp (am_cmp .eq (am_bm 40 A) 0) (am_stp (am_cmp .eq (am_bm 48 A) 0) (am_stp (am_cmp .eq (am_bm 56 A) 0) (0)))))))))))))))))))))) f g21 (some (.long C)) p21 q21.1 (by have := q21.2; omega)
  have q22 := am_stp_b (z := am_cmp .eq (am_bm 16 C) 0) (b := 21) q21.1 q21.2 (by decide)
  obtain ⟨g23, p23, r23⟩ := am_fm22 A B C n (am_stp (am_cmp .eq (am_bm 16 C) 0) (am_stp (am_cmp .eq (am_bm 24 C) 0) (am_stp (am_cmp .eq (am_bm 32 C) 0) (am_stp (am_cmp .eq (am_bm 40 C) 0) (am_stp (am_cmp .eq (am_bm 48 C) 0) (am_stp (am_cmp .eq (am_bm 56 C) 0) (am_stp (am_cmp .eq (am_bm 0 B) 0) (am_stp (am_cmp .eq (am_bm 8 B) 0) (am_stp (am_cmp .eq (am_bm 16 B) 0) (am_stp (am_cmp .eq (am_bm 24 B) 0) (am_stp (am_cmp .eq (am_bm 32 B) 0) (am_stp (am_cmp .eq (am_bm 40 B) 0) (am_stp (am_cmp .eq (am_bm 48 B) 0) (am_stp (am_cmp .eq (am_bm 56 B) 0) (am_stp (am_cmp .eq (am_bm 0 A) 0) (am_stp (am_cmp .eq (am_bm 8 A) 0) (am_stp (am_cmp .eq (am_bm 16 A) 0) (am_stp (am_cmp .eq (am_bm 24 A) 0) (am_stp (am_cmp .eq (am_bm 32 A) 0) (am_stp (am_cmp .eq (am_bm 40 A) 0) (am_stp (am_cmp .eq (am_bm 48 A) 0) (am_stp (am_cmp .eq (am_bm 56 A) 0) (0))))))))))))))))))))))) f g22 (some (.long C)) p22 q22.1 (by have := q22.2; omega)
  have q23 := am_stp_b (z := am_cmp .eq (am_bm 8 C) 0) (b := 22) q22.1 q22.2 (by decide)
  obtain ⟨g24, p24, r24⟩ := am_fm23 A B C n (am_stp (am_cmp .eq (am_bm 8 C) 0) (am_stp (am_cmp .eq (am_bm 16 C) 0) (am_stp (am_cmp .eq (am_bm 24 C) 0) (am_stp (am_cmp .eq (am_bm 32 C) 0) (am_stp (am_cmp .eq (am_bm 40 C) 0) (am_stp (am_cmp .eq (am_bm 48 C) 0) (am_stp (am_cmp .eq (am_bm 56 C) 0) (am_stp (am_cmp .eq (am_bm 0 B) 0) (am_stp (am_cmp .eq (am_bm 8 B) 0) (am_stp (am_cmp .eq (am_bm 16 B) 0) (am_stp (am_cmp .eq (am_bm 24 B) 0) (am_stp (am_cmp .eq (am_bm 32 B) 0) (am_stp (am_cmp .eq (am_bm 40 B) 0) (am_stp (am_cmp .eq (am_bm 48 B) 0) (am_stp (am_cmp .eq (am_bm 56 B) 0) (am_stp (am_cmp .eq (am_bm 0 A) 0) (am_stp (am_cmp .eq (am_bm 8 A) 0) (am_stp (am_cmp .eq (am_bm 16 A) 0) (am_stp (am_cmp .eq (am_bm 24 A) 0) (am_stp (am_cmp .eq (am_bm 32 A) 0) (am_stp (am_cmp .eq (am_bm 40 A) 0) (am_stp (am_cmp .eq (am_bm 48 A) 0) (am_stp (am_cmp .eq (am_bm 56 A) 0) (0)))))))))))))))))))))))) f g23 (some (.long C)) p23 q23.1 (by have := q23.2; omega)
  have q24 := am_stp_b (z := am_cmp .eq (am_bm 0 C) 0) (b := 23) q23.1 q23.2 (by decide)
  refine ⟨g24, am_Do.of (r := am_r151) (y := (103, [some (.ref 64), some (.long A), none, some (.long B), none, some (.long C), none, some (.int 24), some (.long C), none, p24], [.int (am_cn (am_zm C) (am_cn (am_zm B) (am_cn (am_zm A) 0)))], am_hF n f (am_cn (am_zm C) (am_cn (am_zm B) (am_cn (am_zm A) 0))) g24, 0, 0)) rfl rfl ?_ rfl rfl rfl⟩
  refine am_Go.bl 2 (y := (3, [some (.ref 64), some (.long A), none, some (.long B), none, some (.long C), none, some (.int 0), none, none, none], [], am_hF n f 0 g, 0, 0)) (fun _ => rfl) ?_
  refine am_Go.tr r1 ?_
  refine am_Go.tr r2 ?_
  refine am_Go.tr r3 ?_
  refine am_Go.tr r4 ?_
  refine am_Go.tr r5 ?_
  refine am_Go.tr r6 ?_
  refine am_Go.tr r7 ?_
  refine am_Go.tr r8 ?_
  refine am_Go.tr r9 ?_
  refine am_Go.tr r10 ?_
  refine am_Go.tr r11 ?_
  refine am_Go.tr r12 ?_
  refine am_Go.tr r13 ?_
  refine am_Go.tr r14 ?_
  refine am_Go.tr r15 ?_
  refine am_Go.tr r16 ?_
  refine am_Go.tr r17 ?_
  refine am_Go.tr r18 ?_
  refine am_Go.tr r19 ?_
  refine am_Go.tr r20 ?_
  refine am_Go.tr r21 ?_
  refine am_Go.tr r22 ?_
  refine am_Go.tr r23 ?_
  refine am_Go.tr r24 ?_
  exact am_Go.bl 5 (fun _ => rfl) am_Go.rf
