/-! ===== the law's one turn ===== -/
def am_End (xs : Nat → Int32) (k : Int32) : Prop := ∃ y, am_Go true 19 (7, xs) am_rL (40, am_lvA 0, [.int k], am_h0, 101, 936303) y ∧ am_at am_rL y.1 = some .ireturn ∧ y.2.2.1 = [.int 1]
theorem am_sw (x : Int32) : ∃ k : Nat, k < 32 ∧ x &&& 31 = Int32.ofNat k := by
  refine ⟨(x &&& 31).toBitVec.toNat, ?_, ?_⟩
  · rw [Int32.toBitVec_and, BitVec.toNat_and]
    exact Nat.lt_of_le_of_lt Nat.and_le_right (by decide)
  · apply Int32.toBitVec_inj.mp
    show _ = BitVec.ofNat 32 _
    rw [BitVec.ofNat_toNat, BitVec.setWidth_eq]
set_option maxRecDepth 100000 in
theorem am_head (xs : Nat → Int32) : am_Go true 19 (7, xs) am_rL am_st0 (40, am_lvA 0, [.int (xs 0 &&& 31)], am_h0, 101, 936303) := by
  refine am_Go.tr (am_phA (7, xs)) ?_
  refine am_Go.bl 5 (y := (30, am_lvA 0, [.int (Int32.ofNat 7 - 7), .int 0], am_h0, 101, 936303)) (fun _ => rfl) ?_
  refine am_Go.bl 1 (y := (bif am_cmp .gt 0 (Int32.ofNat 7 - 7) then 1088 else 33, am_lvA 0, [], am_h0, 101, 936303)) (fun _ => rfl) ?_
  refine am_Go.brF (by decide) ?_
  exact am_Go.bl 5 (fun _ => rfl) am_Go.rf
set_option maxRecDepth 100000 in
theorem am_tailL (xs : Nat → Int32) (h : am_H) : am_Go true 19 (7, xs) am_rL (1082, am_lvA 0, [], h, 101, 936303) (1089, am_lvA 7, [.int 1], h, 101, 936303) := by
  refine am_Go.bl 7 (y := (30, am_lvA 7, [.int (Int32.ofNat 7 - 7), .int 7], h, 101, 936303)) (fun _ => rfl) ?_
  refine am_Go.bl 1 (y := (bif am_cmp .gt 7 (Int32.ofNat 7 - 7) then 1088 else 33, am_lvA 7, [], h, 101, 936303)) (fun _ => rfl) ?_
  refine am_Go.brT (by decide) ?_
  exact am_Go.bl 1 (fun _ => rfl) am_Go.rf
set_option maxRecDepth 100000 in
theorem am_e0 (xs : Nat → Int32) (hp : am_PairOK 119 151 [.long ((((xs 1).toInt64) <<< ((32 : Int32).toInt64 &&& 63)) ||| (((xs 2).toInt64) &&& 4294967295)), .long ((((xs 3).toInt64) <<< ((32 : Int32).toInt64 &&& 63)) ||| (((xs 4).toInt64) &&& 4294967295)), .long ((((xs 5).toInt64) <<< ((32 : Int32).toInt64 &&& 63)) ||| (((xs 6).toInt64) &&& 4294967295))]) : am_End xs 0 := by
  obtain ⟨r, h1, h2, d1, ⟨fs, o1⟩, l1, d2, l2⟩ := hp
  refine ⟨(1089, am_lvA 7, [.int 1], h2, 101, 936303), ?_, rfl, rfl⟩
  refine am_Go.bl 53 (y := (224, am_lvA 0, [.long ((((xs 5).toInt64) <<< ((32 : Int32).toInt64 &&& 63)) ||| (((xs 6).toInt64) &&& 4294967295)), .long ((((xs 3).toInt64) <<< ((32 : Int32).toInt64 &&& 63)) ||| (((xs 4).toInt64) &&& 4294967295)), .long ((((xs 1).toInt64) <<< ((32 : Int32).toInt64 &&& 63)) ||| (((xs 2).toInt64) &&& 4294967295)), .ref 0], am_h0, 101, 936303)) (fun _ => rfl) ?_
  refine am_Go.cV d1 rfl rfl rfl rfl rfl rfl (by show Nat.beq h1.length _ = true; rw [l1]; rfl) ?_
  refine am_Go.bl 52 (y := (295, am_lvA 0, [.long ((((xs 5).toInt64) <<< ((32 : Int32).toInt64 &&& 63)) ||| (((xs 6).toInt64) &&& 4294967295)), .long ((((xs 3).toInt64) <<< ((32 : Int32).toInt64 &&& 63)) ||| (((xs 4).toInt64) &&& 4294967295)), .long ((((xs 1).toInt64) <<< ((32 : Int32).toInt64 &&& 63)) ||| (((xs 2).toInt64) &&& 4294967295)), .ref 64, .int (r)], h1, 101, 936303)) (fun _ => rfl) ?_
  refine am_Go.cV d2 rfl rfl rfl rfl o1 rfl (by show Nat.beq h2.length (h1.length + _) = true; rw [l1, l2]; rfl) ?_
  refine am_Go.bl 1 (y := (bif am_cmp .eq r r then 1082 else 301, am_lvA 0, [], h2, 101, 936303)) (fun _ => rfl) ?_
  refine am_Go.brT (decide_eq_true rfl) ?_
  exact am_tailL xs h2
set_option maxRecDepth 100000 in
theorem am_e1 (xs : Nat → Int32) (hp : am_PairOK 120 152 []) : am_End xs 1 := by
  obtain ⟨r, h1, h2, d1, ⟨fs, o1⟩, l1, d2, l2⟩ := hp
  refine ⟨(1089, am_lvA 7, [.int 1], h2, 101, 936303), ?_, rfl, rfl⟩
  refine am_Go.bl 2 (y := (304, am_lvA 0, [.ref 0], am_h0, 101, 936303)) (fun _ => rfl) ?_
  refine am_Go.cV d1 rfl rfl rfl rfl rfl rfl (by show Nat.beq h1.length _ = true; rw [l1]; rfl) ?_
  refine am_Go.bl 1 (y := (308, am_lvA 0, [.ref 64, .int (r)], h1, 101, 936303)) (fun _ => rfl) ?_
  refine am_Go.cV d2 rfl rfl rfl rfl o1 rfl (by show Nat.beq h2.length (h1.length + _) = true; rw [l1, l2]; rfl) ?_
  refine am_Go.bl 1 (y := (bif am_cmp .eq r r then 1082 else 314, am_lvA 0, [], h2, 101, 936303)) (fun _ => rfl) ?_
  refine am_Go.brT (decide_eq_true rfl) ?_
  exact am_tailL xs h2
set_option maxRecDepth 100000 in
theorem am_e2 (xs : Nat → Int32) (hp : am_PairOK 122 168 [.int (xs 1)]) : am_End xs 2 := by
  obtain ⟨r, h1, h2, d1, ⟨fs, o1⟩, l1, d2, l2⟩ := hp
  refine ⟨(1089, am_lvA 7, [.int 1], h2, 101, 936303), ?_, rfl, rfl⟩
  refine am_Go.bl 7 (y := (323, am_lvA 0, [.int (xs 1), .ref 0], am_h0, 101, 936303)) (fun _ => rfl) ?_
  refine am_Go.cV d1 rfl rfl rfl rfl rfl rfl (by show Nat.beq h1.length _ = true; rw [l1]; rfl) ?_
  refine am_Go.bl 6 (y := (333, am_lvA 0, [.int (xs 1), .ref 64, .int (r)], h1, 101, 936303)) (fun _ => rfl) ?_
  refine am_Go.cV d2 rfl rfl rfl rfl o1 rfl (by show Nat.beq h2.length (h1.length + _) = true; rw [l1, l2]; rfl) ?_
  refine am_Go.bl 1 (y := (bif am_cmp .eq r r then 1082 else 339, am_lvA 0, [], h2, 101, 936303)) (fun _ => rfl) ?_
  refine am_Go.brT (decide_eq_true rfl) ?_
  exact am_tailL xs h2
set_option maxRecDepth 100000 in
theorem am_e3 (xs : Nat → Int32) (hp : am_PairOK 123 170 []) : am_End xs 3 := by
  obtain ⟨r, h1, h2, d1, ⟨fs, o1⟩, l1, d2, l2⟩ := hp
  refine ⟨(1089, am_lvA 7, [.int 1], h2, 101, 936303), ?_, rfl, rfl⟩
  refine am_Go.bl 2 (y := (342, am_lvA 0, [.ref 0], am_h0, 101, 936303)) (fun _ => rfl) ?_
  refine am_Go.cV d1 rfl rfl rfl rfl rfl rfl (by show Nat.beq h1.length _ = true; rw [l1]; rfl) ?_
  refine am_Go.bl 1 (y := (346, am_lvA 0, [.ref 64, .int (r)], h1, 101, 936303)) (fun _ => rfl) ?_
  refine am_Go.cV d2 rfl rfl rfl rfl o1 rfl (by show Nat.beq h2.length (h1.length + _) = true; rw [l1, l2]; rfl) ?_
  refine am_Go.bl 1 (y := (bif am_cmp .eq r r then 1082 else 352, am_lvA 0, [], h2, 101, 936303)) (fun _ => rfl) ?_
  refine am_Go.brT (decide_eq_true rfl) ?_
  exact am_tailL xs h2
set_option maxRecDepth 100000 in
theorem am_e4 (xs : Nat → Int32) (hp : am_PairOK 124 172 []) : am_End xs 4 := by
  obtain ⟨r, h1, h2, d1, ⟨fs, o1⟩, l1, d2, l2⟩ := hp
  refine ⟨(1089, am_lvA 7, [.int 1], h2, 101, 936303), ?_, rfl, rfl⟩
  refine am_Go.bl 2 (y := (355, am_lvA 0, [.ref 0], am_h0, 101, 936303)) (fun _ => rfl) ?_
  refine am_Go.cV d1 rfl rfl rfl rfl rfl rfl (by show Nat.beq h1.length _ = true; rw [l1]; rfl) ?_
  refine am_Go.bl 1 (y := (359, am_lvA 0, [.ref 64, .int (r)], h1, 101, 936303)) (fun _ => rfl) ?_
  refine am_Go.cV d2 rfl rfl rfl rfl o1 rfl (by show Nat.beq h2.length (h1.length + _) = true; rw [l1, l2]; rfl) ?_
  refine am_Go.bl 1 (y := (bif am_cmp .eq r r then 1082 else 365, am_lvA 0, [], h2, 101, 936303)) (fun _ => rfl) ?_
  refine am_Go.brT (decide_eq_true rfl) ?_
  exact am_tailL xs h2
set_option maxRecDepth 100000 in
theorem am_e5 (xs : Nat → Int32) (hp : am_PairOK 125 174 [.int (xs 1)]) : am_End xs 5 := by
  obtain ⟨r, h1, h2, d1, ⟨fs, o1⟩, l1, d2, l2⟩ := hp
  refine ⟨(1089, am_lvA 7, [.int 1], h2, 101, 936303), ?_, rfl, rfl⟩
  refine am_Go.bl 7 (y := (374, am_lvA 0, [.int (xs 1), .ref 0], am_h0, 101, 936303)) (fun _ => rfl) ?_
  refine am_Go.cV d1 rfl rfl rfl rfl rfl rfl (by show Nat.beq h1.length _ = true; rw [l1]; rfl) ?_
  refine am_Go.bl 6 (y := (384, am_lvA 0, [.int (xs 1), .ref 64, .int (r)], h1, 101, 936303)) (fun _ => rfl) ?_
  refine am_Go.cV d2 rfl rfl rfl rfl o1 rfl (by show Nat.beq h2.length (h1.length + _) = true; rw [l1, l2]; rfl) ?_
  refine am_Go.bl 1 (y := (bif am_cmp .eq r r then 1082 else 390, am_lvA 0, [], h2, 101, 936303)) (fun _ => rfl) ?_
  refine am_Go.brT (decide_eq_true rfl) ?_
  exact am_tailL xs h2
set_option maxRecDepth 100000 in
theorem am_e6 (xs : Nat → Int32) (hp : am_PairOK 127 175 [.int (xs 1), .int (xs 2), .int (xs 3)]) : am_End xs 6 := by
  obtain ⟨r, h1, h2, d1, ⟨fs, o1⟩, l1, d2, l2⟩ := hp
  refine ⟨(1089, am_lvA 7, [.int 1], h2, 101, 936303), ?_, rfl, rfl⟩
  refine am_Go.bl 17 (y := (411, am_lvA 0, [.int (xs 3), .int (xs 2), .int (xs 1), .ref 0], am_h0, 101, 936303)) (fun _ => rfl) ?_
  refine am_Go.cV d1 rfl rfl rfl rfl rfl rfl (by show Nat.beq h1.length _ = true; rw [l1]; rfl) ?_
  refine am_Go.bl 16 (y := (433, am_lvA 0, [.int (xs 3), .int (xs 2), .int (xs 1), .ref 64, .int (r)], h1, 101, 936303)) (fun _ => rfl) ?_
  refine am_Go.cV d2 rfl rfl rfl rfl o1 rfl (by show Nat.beq h2.length (h1.length + _) = true; rw [l1, l2]; rfl) ?_
  refine am_Go.bl 1 (y := (bif am_cmp .eq r r then 1082 else 439, am_lvA 0, [], h2, 101, 936303)) (fun _ => rfl) ?_
  refine am_Go.brT (decide_eq_true rfl) ?_
  exact am_tailL xs h2
set_option maxRecDepth 100000 in
theorem am_e7 (xs : Nat → Int32) (hp : am_PairOK 129 177 [.int (xs 1)]) : am_End xs 7 := by
  obtain ⟨r, h1, h2, d1, ⟨fs, o1⟩, l1, d2, l2⟩ := hp
  refine ⟨(1089, am_lvA 7, [.int 1], h2, 101, 936303), ?_, rfl, rfl⟩
  refine am_Go.bl 7 (y := (448, am_lvA 0, [.int (xs 1), .ref 0], am_h0, 101, 936303)) (fun _ => rfl) ?_
  refine am_Go.cV d1 rfl rfl rfl rfl rfl rfl (by show Nat.beq h1.length _ = true; rw [l1]; rfl) ?_
  refine am_Go.bl 6 (y := (458, am_lvA 0, [.int (xs 1), .ref 64, .int (r)], h1, 101, 936303)) (fun _ => rfl) ?_
  refine am_Go.cV d2 rfl rfl rfl rfl o1 rfl (by show Nat.beq h2.length (h1.length + _) = true; rw [l1, l2]; rfl) ?_
  refine am_Go.bl 1 (y := (bif am_cmp .eq r r then 1082 else 464, am_lvA 0, [], h2, 101, 936303)) (fun _ => rfl) ?_
  refine am_Go.brT (decide_eq_true rfl) ?_
  exact am_tailL xs h2
set_option maxRecDepth 100000 in
theorem am_e8 (xs : Nat → Int32) (hp : am_PairOK 130 179 [.int (xs 1), .int (xs 2), .int (xs 3)]) : am_End xs 8 := by
  obtain ⟨r, h1, h2, d1, ⟨fs, o1⟩, l1, d2, l2⟩ := hp
  refine ⟨(1089, am_lvA 7, [.int 1], h2, 101, 936303), ?_, rfl, rfl⟩
  refine am_Go.bl 17 (y := (485, am_lvA 0, [.int (xs 3), .int (xs 2), .int (xs 1), .ref 0], am_h0, 101, 936303)) (fun _ => rfl) ?_
  refine am_Go.cV d1 rfl rfl rfl rfl rfl rfl (by show Nat.beq h1.length _ = true; rw [l1]; rfl) ?_
  refine am_Go.bl 16 (y := (507, am_lvA 0, [.int (xs 3), .int (xs 2), .int (xs 1), .ref 64, .int (r)], h1, 101, 936303)) (fun _ => rfl) ?_
  refine am_Go.cV d2 rfl rfl rfl rfl o1 rfl (by show Nat.beq h2.length (h1.length + _) = true; rw [l1, l2]; rfl) ?_
  refine am_Go.bl 1 (y := (bif am_cmp .eq r r then 1082 else 513, am_lvA 0, [], h2, 101, 936303)) (fun _ => rfl) ?_
  refine am_Go.brT (decide_eq_true rfl) ?_
  exact am_tailL xs h2
set_option maxRecDepth 100000 in
theorem am_e10 (xs : Nat → Int32) (hp : am_PairOK 131 182 [.int (xs 1), .int (xs 2), .int (xs 3), .int (xs 4)]) : am_End xs 10 := by
  obtain ⟨r, h1, h2, d1, ⟨fs, o1⟩, l1, d2, l2⟩ := hp
  refine ⟨(1089, am_lvA 7, [.int 1], h2, 101, 936303), ?_, rfl, rfl⟩
  refine am_Go.bl 22 (y := (608, am_lvA 0, [.int (xs 4), .int (xs 3), .int (xs 2), .int (xs 1), .ref 0], am_h0, 101, 936303)) (fun _ => rfl) ?_
  refine am_Go.cV d1 rfl rfl rfl rfl rfl rfl (by show Nat.beq h1.length _ = true; rw [l1]; rfl) ?_
  refine am_Go.bl 21 (y := (636, am_lvA 0, [.int (xs 4), .int (xs 3), .int (xs 2), .int (xs 1), .ref 64, .int (r)], h1, 101, 936303)) (fun _ => rfl) ?_
  refine am_Go.cV d2 rfl rfl rfl rfl o1 rfl (by show Nat.beq h2.length (h1.length + _) = true; rw [l1, l2]; rfl) ?_
  refine am_Go.bl 1 (y := (bif am_cmp .eq r r then 1082 else 642, am_lvA 0, [], h2, 101, 936303)) (fun _ => rfl) ?_
  refine am_Go.brT (decide_eq_true rfl) ?_
  exact am_tailL xs h2
set_option maxRecDepth 100000 in
theorem am_e11 (xs : Nat → Int32) (hp : am_PairOK 134 194 [.int (xs 1), .int (xs 2), .int (xs 3)]) : am_End xs 11 := by
  obtain ⟨r, h1, h2, d1, ⟨fs, o1⟩, l1, d2, l2⟩ := hp
  refine ⟨(1089, am_lvA 7, [.int 1], h2, 101, 936303), ?_, rfl, rfl⟩
  refine am_Go.bl 17 (y := (663, am_lvA 0, [.int (xs 3), .int (xs 2), .int (xs 1), .ref 0], am_h0, 101, 936303)) (fun _ => rfl) ?_
  refine am_Go.cV d1 rfl rfl rfl rfl rfl rfl (by show Nat.beq h1.length _ = true; rw [l1]; rfl) ?_
  refine am_Go.bl 16 (y := (685, am_lvA 0, [.int (xs 3), .int (xs 2), .int (xs 1), .ref 64, .int (r)], h1, 101, 936303)) (fun _ => rfl) ?_
  refine am_Go.cV d2 rfl rfl rfl rfl o1 rfl (by show Nat.beq h2.length (h1.length + _) = true; rw [l1, l2]; rfl) ?_
  refine am_Go.bl 1 (y := (bif am_cmp .eq r r then 1082 else 691, am_lvA 0, [], h2, 101, 936303)) (fun _ => rfl) ?_
  refine am_Go.brT (decide_eq_true rfl) ?_
  exact am_tailL xs h2
set_option maxRecDepth 100000 in
theorem am_e12 (xs : Nat → Int32) (hp : am_PairOK 135 195 []) : am_End xs 12 := by
  obtain ⟨r, h1, h2, d1, ⟨fs, o1⟩, l1, d2, l2⟩ := hp
  refine ⟨(1089, am_lvA 7, [.int 1], h2, 101, 936303), ?_, rfl, rfl⟩
  refine am_Go.bl 2 (y := (694, am_lvA 0, [.ref 0], am_h0, 101, 936303)) (fun _ => rfl) ?_
  refine am_Go.cV d1 rfl rfl rfl rfl rfl rfl (by show Nat.beq h1.length _ = true; rw [l1]; rfl) ?_
  refine am_Go.bl 1 (y := (698, am_lvA 0, [.ref 64, .int (r)], h1, 101, 936303)) (fun _ => rfl) ?_
  refine am_Go.cV d2 rfl rfl rfl rfl o1 rfl (by show Nat.beq h2.length (h1.length + _) = true; rw [l1, l2]; rfl) ?_
  refine am_Go.bl 1 (y := (bif am_cmp .eq r r then 1082 else 704, am_lvA 0, [], h2, 101, 936303)) (fun _ => rfl) ?_
  refine am_Go.brT (decide_eq_true rfl) ?_
  exact am_tailL xs h2
set_option maxRecDepth 100000 in
theorem am_e13a (xs : Nat → Int32) (hw : am_cmp .eq (xs 2) 0 = true) (hp : am_PairOK 136 196 [.int (xs 1), .int 0]) : am_End xs 13 := by
  obtain ⟨r, h1, h2, d1, ⟨fs, o1⟩, l1, d2, l2⟩ := hp
  refine ⟨(1089, am_lvA 7, [.int 1], h2, 101, 936303), ?_, rfl, rfl⟩
  refine am_Go.bl 13 (y := (bif am_cmp .eq (xs 2) 0 then 726 else 722, am_lvA 0, [.int (xs 1), .ref 0], am_h0, 101, 936303)) (fun _ => rfl) ?_
  refine am_Go.brT hw ?_
  refine am_Go.bl 1 (y := (727, am_lvA 0, [.int 0, .int (xs 1), .ref 0], am_h0, 101, 936303)) (fun _ => rfl) ?_
  refine am_Go.cV d1 rfl rfl rfl rfl rfl rfl (by show Nat.beq h1.length _ = true; rw [l1]; rfl) ?_
  refine am_Go.bl 12 (y := (bif am_cmp .eq (xs 2) 0 then 750 else 746, am_lvA 0, [.int (xs 1), .ref 64, .int (r)], h1, 101, 936303)) (fun _ => rfl) ?_
  refine am_Go.brT hw ?_
  refine am_Go.bl 1 (y := (751, am_lvA 0, [.int 0, .int (xs 1), .ref 64, .int (r)], h1, 101, 936303)) (fun _ => rfl) ?_
  refine am_Go.cV d2 rfl rfl rfl rfl o1 rfl (by show Nat.beq h2.length (h1.length + _) = true; rw [l1, l2]; rfl) ?_
  refine am_Go.bl 1 (y := (bif am_cmp .eq r r then 1082 else 757, am_lvA 0, [], h2, 101, 936303)) (fun _ => rfl) ?_
  refine am_Go.brT (decide_eq_true rfl) ?_
  exact am_tailL xs h2
set_option maxRecDepth 100000 in
theorem am_e13b (xs : Nat → Int32) (hw : am_cmp .eq (xs 2) 0 = false) (hp : am_PairOK 136 196 [.int (xs 1), .int 1]) : am_End xs 13 := by
  obtain ⟨r, h1, h2, d1, ⟨fs, o1⟩, l1, d2, l2⟩ := hp
  refine ⟨(1089, am_lvA 7, [.int 1], h2, 101, 936303), ?_, rfl, rfl⟩
  refine am_Go.bl 13 (y := (bif am_cmp .eq (xs 2) 0 then 726 else 722, am_lvA 0, [.int (xs 1), .ref 0], am_h0, 101, 936303)) (fun _ => rfl) ?_
  refine am_Go.brF hw ?_
  refine am_Go.bl 2 (y := (727, am_lvA 0, [.int 1, .int (xs 1), .ref 0], am_h0, 101, 936303)) (fun _ => rfl) ?_
  refine am_Go.cV d1 rfl rfl rfl rfl rfl rfl (by show Nat.beq h1.length _ = true; rw [l1]; rfl) ?_
  refine am_Go.bl 12 (y := (bif am_cmp .eq (xs 2) 0 then 750 else 746, am_lvA 0, [.int (xs 1), .ref 64, .int (r)], h1, 101, 936303)) (fun _ => rfl) ?_
  refine am_Go.brF hw ?_
  refine am_Go.bl 2 (y := (751, am_lvA 0, [.int 1, .int (xs 1), .ref 64, .int (r)], h1, 101, 936303)) (fun _ => rfl) ?_
  refine am_Go.cV d2 rfl rfl rfl rfl o1 rfl (by show Nat.beq h2.length (h1.length + _) = true; rw [l1, l2]; rfl) ?_
  refine am_Go.bl 1 (y := (bif am_cmp .eq r r then 1082 else 757, am_lvA 0, [], h2, 101, 936303)) (fun _ => rfl) ?_
  refine am_Go.brT (decide_eq_true rfl) ?_
  exact am_tailL xs h2
set_option maxRecDepth 100000 in
theorem am_e14 (xs : Nat → Int32) (hp : am_PairOK 137 197 [.int (xs 1)]) : am_End xs 14 := by
  obtain ⟨r, h1, h2, d1, ⟨fs, o1⟩, l1, d2, l2⟩ := hp
  refine ⟨(1089, am_lvA 7, [.int 1], h2, 101, 936303), ?_, rfl, rfl⟩
  refine am_Go.bl 7 (y := (766, am_lvA 0, [.int (xs 1), .ref 0], am_h0, 101, 936303)) (fun _ => rfl) ?_
  refine am_Go.cV d1 rfl rfl rfl rfl rfl rfl (by show Nat.beq h1.length _ = true; rw [l1]; rfl) ?_
  refine am_Go.bl 6 (y := (776, am_lvA 0, [.int (xs 1), .ref 64, .int (r)], h1, 101, 936303)) (fun _ => rfl) ?_
  refine am_Go.cV d2 rfl rfl rfl rfl o1 rfl (by show Nat.beq h2.length (h1.length + _) = true; rw [l1, l2]; rfl) ?_
  refine am_Go.bl 1 (y := (bif am_cmp .eq r r then 1082 else 782, am_lvA 0, [], h2, 101, 936303)) (fun _ => rfl) ?_
  refine am_Go.brT (decide_eq_true rfl) ?_
  exact am_tailL xs h2
set_option maxRecDepth 100000 in
theorem am_e15 (xs : Nat → Int32) (hp : am_PairOK 138 198 []) : am_End xs 15 := by
  obtain ⟨r, h1, h2, d1, ⟨fs, o1⟩, l1, d2, l2⟩ := hp
  refine ⟨(1089, am_lvA 7, [.int 1], h2, 101, 936303), ?_, rfl, rfl⟩
  refine am_Go.bl 2 (y := (785, am_lvA 0, [.ref 0], am_h0, 101, 936303)) (fun _ => rfl) ?_
  refine am_Go.cV d1 rfl rfl rfl rfl rfl rfl (by show Nat.beq h1.length _ = true; rw [l1]; rfl) ?_
  refine am_Go.bl 1 (y := (789, am_lvA 0, [.ref 64, .int (r)], h1, 101, 936303)) (fun _ => rfl) ?_
  refine am_Go.cV d2 rfl rfl rfl rfl o1 rfl (by show Nat.beq h2.length (h1.length + _) = true; rw [l1, l2]; rfl) ?_
  refine am_Go.bl 1 (y := (bif am_cmp .eq r r then 1082 else 795, am_lvA 0, [], h2, 101, 936303)) (fun _ => rfl) ?_
  refine am_Go.brT (decide_eq_true rfl) ?_
  exact am_tailL xs h2
set_option maxRecDepth 100000 in
theorem am_e16 (xs : Nat → Int32) (hp : am_PairOK 139 203 [.int (xs 1)]) : am_End xs 16 := by
  obtain ⟨r, h1, h2, d1, ⟨fs, o1⟩, l1, d2, l2⟩ := hp
  refine ⟨(1089, am_lvA 7, [.int 1], h2, 101, 936303), ?_, rfl, rfl⟩
  refine am_Go.bl 7 (y := (804, am_lvA 0, [.int (xs 1), .ref 0], am_h0, 101, 936303)) (fun _ => rfl) ?_
  refine am_Go.cV d1 rfl rfl rfl rfl rfl rfl (by show Nat.beq h1.length _ = true; rw [l1]; rfl) ?_
  refine am_Go.bl 6 (y := (814, am_lvA 0, [.int (xs 1), .ref 64, .int (r)], h1, 101, 936303)) (fun _ => rfl) ?_
  refine am_Go.cV d2 rfl rfl rfl rfl o1 rfl (by show Nat.beq h2.length (h1.length + _) = true; rw [l1, l2]; rfl) ?_
  refine am_Go.bl 1 (y := (bif am_cmp .eq r r then 1082 else 820, am_lvA 0, [], h2, 101, 936303)) (fun _ => rfl) ?_
  refine am_Go.brT (decide_eq_true rfl) ?_
  exact am_tailL xs h2
set_option maxRecDepth 100000 in
theorem am_e17 (xs : Nat → Int32) (hp : am_PairOK 140 205 [.int (xs 1)]) : am_End xs 17 := by
  obtain ⟨r, h1, h2, d1, ⟨fs, o1⟩, l1, d2, l2⟩ := hp
  refine ⟨(1089, am_lvA 7, [.int 1], h2, 101, 936303), ?_, rfl, rfl⟩
  refine am_Go.bl 7 (y := (829, am_lvA 0, [.int (xs 1), .ref 0], am_h0, 101, 936303)) (fun _ => rfl) ?_
  refine am_Go.cV d1 rfl rfl rfl rfl rfl rfl (by show Nat.beq h1.length _ = true; rw [l1]; rfl) ?_
  refine am_Go.bl 6 (y := (839, am_lvA 0, [.int (xs 1), .ref 64, .int (r)], h1, 101, 936303)) (fun _ => rfl) ?_
  refine am_Go.cV d2 rfl rfl rfl rfl o1 rfl (by show Nat.beq h2.length (h1.length + _) = true; rw [l1, l2]; rfl) ?_
  refine am_Go.bl 1 (y := (bif am_cmp .eq r r then 1082 else 845, am_lvA 0, [], h2, 101, 936303)) (fun _ => rfl) ?_
  refine am_Go.brT (decide_eq_true rfl) ?_
  exact am_tailL xs h2
set_option maxRecDepth 100000 in
theorem am_e18 (xs : Nat → Int32) (hp : am_PairOK 141 206 [.int (xs 1), .int (xs 2), .int (xs 3)]) : am_End xs 18 := by
  obtain ⟨r, h1, h2, d1, ⟨fs, o1⟩, l1, d2, l2⟩ := hp
  refine ⟨(1089, am_lvA 7, [.int 1], h2, 101, 936303), ?_, rfl, rfl⟩
  refine am_Go.bl 17 (y := (866, am_lvA 0, [.int (xs 3), .int (xs 2), .int (xs 1), .ref 0], am_h0, 101, 936303)) (fun _ => rfl) ?_
  refine am_Go.cV d1 rfl rfl rfl rfl rfl rfl (by show Nat.beq h1.length _ = true; rw [l1]; rfl) ?_
  refine am_Go.bl 16 (y := (888, am_lvA 0, [.int (xs 3), .int (xs 2), .int (xs 1), .ref 64, .int (r)], h1, 101, 936303)) (fun _ => rfl) ?_
  refine am_Go.cV d2 rfl rfl rfl rfl o1 rfl (by show Nat.beq h2.length (h1.length + _) = true; rw [l1, l2]; rfl) ?_
  refine am_Go.bl 1 (y := (bif am_cmp .eq r r then 1082 else 894, am_lvA 0, [], h2, 101, 936303)) (fun _ => rfl) ?_
  refine am_Go.brT (decide_eq_true rfl) ?_
  exact am_tailL xs h2
set_option maxRecDepth 100000 in
theorem am_e19 (xs : Nat → Int32) (hp : am_PairOK 142 207 [.int (xs 1)]) : am_End xs 19 := by
  obtain ⟨r, h1, h2, d1, ⟨fs, o1⟩, l1, d2, l2⟩ := hp
  refine ⟨(1089, am_lvA 7, [.int 1], h2, 101, 936303), ?_, rfl, rfl⟩
  refine am_Go.bl 7 (y := (903, am_lvA 0, [.int (xs 1), .ref 0], am_h0, 101, 936303)) (fun _ => rfl) ?_
  refine am_Go.cV d1 rfl rfl rfl rfl rfl rfl (by show Nat.beq h1.length _ = true; rw [l1]; rfl) ?_
  refine am_Go.bl 6 (y := (913, am_lvA 0, [.int (xs 1), .ref 64, .int (r)], h1, 101, 936303)) (fun _ => rfl) ?_
  refine am_Go.cV d2 rfl rfl rfl rfl o1 rfl (by show Nat.beq h2.length (h1.length + _) = true; rw [l1, l2]; rfl) ?_
  refine am_Go.bl 1 (y := (bif am_cmp .eq r r then 1082 else 919, am_lvA 0, [], h2, 101, 936303)) (fun _ => rfl) ?_
  refine am_Go.brT (decide_eq_true rfl) ?_
  exact am_tailL xs h2
set_option maxRecDepth 100000 in
theorem am_e20 (xs : Nat → Int32) (hp : am_PairOK 143 209 [.int (xs 1)]) : am_End xs 20 := by
  obtain ⟨r, h1, h2, d1, ⟨fs, o1⟩, l1, d2, l2⟩ := hp
  refine ⟨(1089, am_lvA 7, [.int 1], h2, 101, 936303), ?_, rfl, rfl⟩
  refine am_Go.bl 7 (y := (928, am_lvA 0, [.int (xs 1), .ref 0], am_h0, 101, 936303)) (fun _ => rfl) ?_
  refine am_Go.cV d1 rfl rfl rfl rfl rfl rfl (by show Nat.beq h1.length _ = true; rw [l1]; rfl) ?_
  refine am_Go.bl 6 (y := (938, am_lvA 0, [.int (xs 1), .ref 64, .int (r)], h1, 101, 936303)) (fun _ => rfl) ?_
  refine am_Go.cV d2 rfl rfl rfl rfl o1 rfl (by show Nat.beq h2.length (h1.length + _) = true; rw [l1, l2]; rfl) ?_
  refine am_Go.bl 1 (y := (bif am_cmp .eq r r then 1082 else 944, am_lvA 0, [], h2, 101, 936303)) (fun _ => rfl) ?_
  refine am_Go.brT (decide_eq_true rfl) ?_
  exact am_tailL xs h2
set_option maxRecDepth 100000 in
theorem am_e21 (xs : Nat → Int32) (hp : am_PairOK 144 210 [.int (xs 1), .int (xs 2)]) : am_End xs 21 := by
  obtain ⟨r, h1, h2, d1, ⟨fs, o1⟩, l1, d2, l2⟩ := hp
  refine ⟨(1089, am_lvA 7, [.int 1], h2, 101, 936303), ?_, rfl, rfl⟩
  refine am_Go.bl 12 (y := (959, am_lvA 0, [.int (xs 2), .int (xs 1), .ref 0], am_h0, 101, 936303)) (fun _ => rfl) ?_
  refine am_Go.cV d1 rfl rfl rfl rfl rfl rfl (by show Nat.beq h1.length _ = true; rw [l1]; rfl) ?_
  refine am_Go.bl 11 (y := (975, am_lvA 0, [.int (xs 2), .int (xs 1), .ref 64, .int (r)], h1, 101, 936303)) (fun _ => rfl) ?_
  refine am_Go.cV d2 rfl rfl rfl rfl o1 rfl (by show Nat.beq h2.length (h1.length + _) = true; rw [l1, l2]; rfl) ?_
  refine am_Go.bl 1 (y := (bif am_cmp .eq r r then 1082 else 981, am_lvA 0, [], h2, 101, 936303)) (fun _ => rfl) ?_
  refine am_Go.brT (decide_eq_true rfl) ?_
  exact am_tailL xs h2
set_option maxRecDepth 100000 in
theorem am_e22 (xs : Nat → Int32) (hp : am_PairOK 145 211 [.int (xs 1), .int (xs 2)]) : am_End xs 22 := by
  obtain ⟨r, h1, h2, d1, ⟨fs, o1⟩, l1, d2, l2⟩ := hp
  refine ⟨(1089, am_lvA 7, [.int 1], h2, 101, 936303), ?_, rfl, rfl⟩
  refine am_Go.bl 12 (y := (996, am_lvA 0, [.int (xs 2), .int (xs 1), .ref 0], am_h0, 101, 936303)) (fun _ => rfl) ?_
  refine am_Go.cV d1 rfl rfl rfl rfl rfl rfl (by show Nat.beq h1.length _ = true; rw [l1]; rfl) ?_
  refine am_Go.bl 11 (y := (1012, am_lvA 0, [.int (xs 2), .int (xs 1), .ref 64, .int (r)], h1, 101, 936303)) (fun _ => rfl) ?_
  refine am_Go.cV d2 rfl rfl rfl rfl o1 rfl (by show Nat.beq h2.length (h1.length + _) = true; rw [l1, l2]; rfl) ?_
  refine am_Go.bl 1 (y := (bif am_cmp .eq r r then 1082 else 1018, am_lvA 0, [], h2, 101, 936303)) (fun _ => rfl) ?_
  refine am_Go.brT (decide_eq_true rfl) ?_
  exact am_tailL xs h2
set_option maxRecDepth 100000 in
theorem am_e23 (xs : Nat → Int32) (hp : am_PairOK 146 212 [.int (xs 1), .int (xs 2)]) : am_End xs 23 := by
  obtain ⟨r, h1, h2, d1, ⟨fs, o1⟩, l1, d2, l2⟩ := hp
  refine ⟨(1089, am_lvA 7, [.int 1], h2, 101, 936303), ?_, rfl, rfl⟩
  refine am_Go.bl 12 (y := (1033, am_lvA 0, [.int (xs 2), .int (xs 1), .ref 0], am_h0, 101, 936303)) (fun _ => rfl) ?_
  refine am_Go.cV d1 rfl rfl rfl rfl rfl rfl (by show Nat.beq h1.length _ = true; rw [l1]; rfl) ?_
  refine am_Go.bl 11 (y := (1049, am_lvA 0, [.int (xs 2), .int (xs 1), .ref 64, .int (r)], h1, 101, 936303)) (fun _ => rfl) ?_
  refine am_Go.cV d2 rfl rfl rfl rfl o1 rfl (by show Nat.beq h2.length (h1.length + _) = true; rw [l1, l2]; rfl) ?_
  refine am_Go.bl 1 (y := (bif am_cmp .eq r r then 1082 else 1055, am_lvA 0, [], h2, 101, 936303)) (fun _ => rfl) ?_
  refine am_Go.brT (decide_eq_true rfl) ?_
  exact am_tailL xs h2
set_option maxRecDepth 100000 in
theorem am_e24 (xs : Nat → Int32) (hp : am_PairOK 147 213 [.int (xs 1)]) : am_End xs 24 := by
  obtain ⟨r, h1, h2, d1, ⟨fs, o1⟩, l1, d2, l2⟩ := hp
  refine ⟨(1089, am_lvA 7, [.int 1], h2, 101, 936303), ?_, rfl, rfl⟩
  refine am_Go.bl 7 (y := (1064, am_lvA 0, [.int (xs 1), .ref 0], am_h0, 101, 936303)) (fun _ => rfl) ?_
  refine am_Go.cV d1 rfl rfl rfl rfl rfl rfl (by show Nat.beq h1.length _ = true; rw [l1]; rfl) ?_
  refine am_Go.bl 6 (y := (1074, am_lvA 0, [.int (xs 1), .ref 64, .int (r)], h1, 101, 936303)) (fun _ => rfl) ?_
  refine am_Go.cV d2 rfl rfl rfl rfl o1 rfl (by show Nat.beq h2.length (h1.length + _) = true; rw [l1, l2]; rfl) ?_
  refine am_Go.bl 1 (y := (bif am_cmp .eq r r then 1082 else 1080, am_lvA 0, [], h2, 101, 936303)) (fun _ => rfl) ?_
  refine am_Go.brT (decide_eq_true rfl) ?_
  exact am_tailL xs h2
set_option maxRecDepth 100000 in
theorem am_e25 (xs : Nat → Int32) : am_End xs 25 := ⟨_, am_Go.bl 1 (y := (1082, am_lvA 0, [], am_h0, 101, 936303)) (fun _ => rfl) (am_tailL xs am_h0), rfl, rfl⟩
set_option maxRecDepth 100000 in
theorem am_e26 (xs : Nat → Int32) : am_End xs 26 := ⟨_, am_Go.bl 1 (y := (1082, am_lvA 0, [], am_h0, 101, 936303)) (fun _ => rfl) (am_tailL xs am_h0), rfl, rfl⟩
set_option maxRecDepth 100000 in
theorem am_e27 (xs : Nat → Int32) : am_End xs 27 := ⟨_, am_Go.bl 1 (y := (1082, am_lvA 0, [], am_h0, 101, 936303)) (fun _ => rfl) (am_tailL xs am_h0), rfl, rfl⟩
set_option maxRecDepth 100000 in
theorem am_e28 (xs : Nat → Int32) : am_End xs 28 := ⟨_, am_Go.bl 1 (y := (1082, am_lvA 0, [], am_h0, 101, 936303)) (fun _ => rfl) (am_tailL xs am_h0), rfl, rfl⟩
set_option maxRecDepth 100000 in
theorem am_e29 (xs : Nat → Int32) : am_End xs 29 := ⟨_, am_Go.bl 1 (y := (1082, am_lvA 0, [], am_h0, 101, 936303)) (fun _ => rfl) (am_tailL xs am_h0), rfl, rfl⟩
set_option maxRecDepth 100000 in
theorem am_e30 (xs : Nat → Int32) : am_End xs 30 := ⟨_, am_Go.bl 1 (y := (1082, am_lvA 0, [], am_h0, 101, 936303)) (fun _ => rfl) (am_tailL xs am_h0), rfl, rfl⟩
set_option maxRecDepth 100000 in
theorem am_e31 (xs : Nat → Int32) : am_End xs 31 := ⟨_, am_Go.bl 1 (y := (1082, am_lvA 0, [], am_h0, 101, 936303)) (fun _ => rfl) (am_tailL xs am_h0), rfl, rfl⟩
