/-! ===== the law's turn with liking ===== -/
theorem am_Lg : ∀ w ∈ [Cond.methodLink "LinkedVerseLaw" 62 am_yK, .static am_yK, .initialized "LinkedVerseLaw"], w ∈ lw_tbl ∧ goodWord w = true := by decide +kernel
theorem am_LT : GoodIn lw_tbl (va_wsS "LinkedVerseLaw" 62 am_yK am_wK) := by
  intro w hw
  unfold va_wsS at hw
  rcases List.mem_append.mp hw with hw | hw
  · exact am_good_in w (List.mem_filter.mpr (am_Lg w hw))
  · rcases List.mem_cons.mp hw with rfl | hw
    · exact am_good_in _ (List.mem_filter.mpr ⟨am_xl, am_Kgood⟩)
    · exact am_good_in w hw
theorem am_Ld : decode code 529 = .ok (.invokestatic 62, 3) := am_dl (am_lawok2 529 (.invokestatic 62) rfl) rfl
theorem am_Ly : am_yok am_yK 4 = true := by decide +kernel
abbrev am_lvB (i k r : Int32) : List (Option Value) := [some (.ref 1000000), some (.ref 0), some (.ref 64), some (.ref 100), some (.int i), some (.int k), some (.int r)]
abbrev am_lvC (i k : Int32) : List (Option Value) := [some (.ref 1000000), some (.ref 0), some (.ref 64), some (.ref 100), some (.int i), some (.int k), none]
theorem am_Go.lald {al : Bool} {d : Nat} {S : am_S} {r : am_M} {pc : Nat} {lv : List (Option Value)} {i : Int32} {a : Nat} {rest : List Value} {h : am_H} {nc ns n : Nat} {f : Nat → Int64} {z : am_C} (hi : am_at r pc = some .laload) (ha : am_arl h a 2 = some (n, f)) (hin : am_in i n = true) (k : am_Go al d S r (pc + 1, lv, .long (f i.toNatClampNeg) :: rest, h, nc, ns) z) : am_Go al d S r (pc, lv, .int i :: .ref a :: rest, h, nc, ns) z := by
  refine am_Go.st1 hi (fun call => ?_) k
  have e1 : am_s3 S (am_o r) .laload h pc (.int i :: .ref a :: rest) = some (pc + 1, .long (f i.toNatClampNeg) :: rest) := by
    show am_lld h pc (.int i :: .ref a :: rest) 2 = _
    unfold am_lld
    simp only [ha, hin, cond_true]
  show (match am_s3 S (am_o r) .laload h pc (.int i :: .ref a :: rest) with
    | some x => some (x.1, lv, x.2, h, nc, ns)
    | none => _) = _
  rw [e1]
set_option maxRecDepth 100000 in
theorem am_L1 (xs : Nat → Int32) : am_Go true 19 (7, xs) am_rL (40, am_lvA 0, [.int (Int32.ofNat 9)], am_h0, 101, 936303) (529, am_lvA 0, [.ref 100, .int (xs 2), .int (xs 1), .ref 0], am_h0, 101, 936303) :=
  am_Go.bl 13 (fun _ => rfl) am_Go.rf
set_option maxRecDepth 100000 in
theorem am_tailF (xs : Nat → Int32) (h : am_H) (k r : Int32) : am_Go false 19 (7, xs) am_rL (1082, am_lvB 0 k r, [], h, 102, 936309) (1089, am_lvB 7 k r, [.int 1], h, 102, 936309) := by
  refine am_Go.bl 7 (y := (30, am_lvB 7 k r, [.int (Int32.ofNat 7 - 7), .int 7], h, 102, 936309)) (fun _ => rfl) ?_
  refine am_Go.bl 1 (y := (bif am_cmp .gt 7 (Int32.ofNat 7 - 7) then 1088 else 33, am_lvB 7 k r, [], h, 102, 936309)) (fun _ => rfl) ?_
  refine am_Go.brT (by decide) ?_
  exact am_Go.bl 1 (fun _ => rfl) am_Go.rf
set_option maxRecDepth 100000 in
theorem am_L3 (xs : Nat → Int32) {h2 : am_H} (d1 : am_Do false 19 180 [.ref 64, .int (xs 1), .int (xs 2)] am_h0 (some (.int 0), h2)) (l2 : h2.length = 101) (o2 : ∃ fs, am_obj h2 64 12 = some fs) (d2 : am_Do false 19 150 [.ref 64] h2 (some (.int 1), h2)) : am_Go false 19 (7, xs) am_rL (532, am_lvA 0, [.int 1], am_h0, 102, 936309) (1089, am_lvB 7 1 0, [.int 1], h2, 102, 936309) := by
  obtain ⟨fs, o2⟩ := o2
  refine am_Go.bl 12 (y := (547, am_lvC 0 1, [.int (xs 2), .int (xs 1), .ref 64], am_h0, 102, 936309)) (fun _ => rfl) ?_
  refine am_Go.cV d1 rfl rfl rfl rfl rfl rfl (by show Nat.beq h2.length _ = true; rw [l2]; rfl) ?_
  refine am_Go.bl 2 (y := (553, am_lvB 0 1 0, [.ref 64], h2, 102, 936309)) (fun _ => rfl) ?_
  refine am_Go.cV d2 rfl rfl rfl rfl o2 rfl (by show Nat.beq h2.length (h2.length + _) = true; rw [l2]; rfl) ?_
  refine am_Go.bl 2 (y := (bif am_cmp .eq 1 1 then 563 else 561, am_lvB 0 1 0, [], h2, 102, 936309)) (fun _ => rfl) ?_
  refine am_Go.brT (by decide) ?_
  refine am_Go.bl 2 (y := (bif am_cmp .ne 1 0 then 580 else 568, am_lvB 0 1 0, [], h2, 102, 936309)) (fun _ => rfl) ?_
  refine am_Go.brT (by decide) ?_
  refine am_Go.bl 1 (y := (1082, am_lvB 0 1 0, [], h2, 102, 936309)) (fun _ => rfl) ?_
  exact am_tailF xs h2 1 0
abbrev am_h0o : am_H := am_h0.set 100 (.inl (2, 1, .inr (.inl (vp_updL (fun _ => 0) 0 0))))
set_option maxRecDepth 100000 in
theorem am_L0 (xs : Nat → Int32) (x1 : xs 1 = 0) (x2 : xs 2 = 0) : ∃ h2, am_Go false 19 (7, xs) am_rL (532, am_lvA 0, [.int 0], am_h0o, 102, 936309) (1089, am_lvB 7 0 0, [.int 1], h2, 102, 936309) := by
  obtain ⟨h2, d1, l2, ⟨fs, o2⟩, d2, ar⟩ := am_ml0
  refine ⟨h2, ?_⟩
  refine am_Go.bl 12 (y := (547, am_lvC 0 0, [.int (xs 2), .int (xs 1), .ref 64], am_h0o, 102, 936309)) (fun _ => rfl) ?_
  rw [x1, x2]
  refine am_Go.cV d1 rfl rfl rfl rfl rfl rfl (by show Nat.beq h2.length _ = true; rw [l2]; rfl) ?_
  refine am_Go.bl 2 (y := (553, am_lvB 0 0 0, [.ref 64], h2, 102, 936309)) (fun _ => rfl) ?_
  refine am_Go.cV d2 rfl rfl rfl rfl o2 rfl (by show Nat.beq h2.length (h2.length + _) = true; rw [l2]; rfl) ?_
  refine am_Go.bl 2 (y := (bif am_cmp .eq 0 0 then 563 else 561, am_lvB 0 0 0, [], h2, 102, 936309)) (fun _ => rfl) ?_
  refine am_Go.brT (by decide) ?_
  refine am_Go.bl 2 (y := (bif am_cmp .ne 0 0 then 580 else 568, am_lvB 0 0 0, [], h2, 102, 936309)) (fun _ => rfl) ?_
  refine am_Go.brF (by decide) ?_
  refine am_Go.bl 2 (y := (570, am_lvB 0 0 0, [.int 0, .ref 100], h2, 102, 936309)) (fun _ => rfl) ?_
  refine am_Go.lald rfl ar (by decide) ?_
  refine am_Go.bl 5 (y := (1082, am_lvB 0 0 0, [], h2, 102, 936309)) (fun _ => rfl) ?_
  exact am_tailF xs h2 0 0
