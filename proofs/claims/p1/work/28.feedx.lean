/-! ===== feed on the fresh pair ===== -/
def am_hF (n : Int32) (f : Nat → Int32) (m : Int32) (g : Nat → Int32) : am_H := [.inr (11, [.ref 8, .ref 1, .ref 18, .ref 22, .ref 24, .ref 28, .ref 35, .ref 58]), .inr (6, [.int 0, .int 0, .int 0, .int 36, .int 99, .int 0, .ref 2, .ref 3, .ref 4, .ref 5, .ref 6, .ref 7]), .inl (2, 16, .inr (.inl (am_ctL am_hM 2))), .inl (1, 16, .inl (am_ctI am_hM 3)), .inl (1, 12, .inl (am_ctI am_hM 4)), .inl (1, 12, .inl (am_ctI am_hM 5)), .inl (1, 12, .inl (am_ctI am_hM 6)), .inl (1, 12, .inl (am_ctI am_hM 7)), .inr (5, [.ref 9, .ref 16, .int (n), .ref 17, .int 0, .int 0, .int 0, .int 0, .int 0, .long 0]), .inr (6, [.int 0, .int 0, .int 0, .int 36, .int 99, .int 0, .ref 10, .ref 11, .ref 12, .ref 13, .ref 14, .ref 15]), .inl (2, 16, .inr (.inl (am_ctL am_hM 10))), .inl (1, 16, .inl (am_ctI am_hM 11)), .inl (1, 12, .inl (am_ctI am_hM 12)), .inl (1, 12, .inl (am_ctI am_hM 13)), .inl (1, 12, .inl (am_ctI am_hM 14)), .inl (1, 12, .inl (am_ctI am_hM 15)), .inl (1, 600, .inl f), .inl (2, 13, .inr (.inl (am_ctL am_hM 17))), .inr (0, [.int 0, .int 0, .ref 19, .ref 20, .ref 21]), .inl (1, 100, .inl (am_ctI am_hM 19)), .inl (1, 100, .inl (am_ctI am_hM 20)), .inl (1, 100, .inl (am_ctI am_hM 21)), .inr (10, [.ref 23]), .inl (1, 64, .inl (am_ctI am_hM 23)), .inr (4, [.int 0, .ref 25, .ref 26, .ref 27]), .inl (1, 12, .inl (am_ctI am_hM 25)), .inl (1, 12, .inl (am_ctI am_hM 26)), .inl (4, 12, .inl (am_ctI am_hM 27)), .inr (7, [.ref 1, .ref 22, .int 0, .int 0, .ref 29, .ref 30, .ref 31, .ref 32, .ref 33, .ref 34]), .inl (1, 49, .inl (am_ctI am_hM 29)), .inl (1, 49, .inl (am_ctI am_hM 30)), .inl (1, 49, .inl (am_ctI am_hM 31)), .inl (1, 147, .inl (am_ctI am_hM 32)), .inl (4, 49, .inl (am_ctI am_hM 33)), .inl (1, 588, .inl (am_ctI am_hM 34)), .inr (2, [.ref 1, .ref 28, .ref 36, .int 0, .int 0, .ref 37, .ref 38, .ref 50, .int 0, .ref 54, .ref 39, .ref 43, .ref 47, .ref 48, .ref 49]), .inl (1, 16, .inl (am_ctI am_hM 36)), .inl (1, 49, .inl (am_ctI am_hM 37)), .inl (1, 49, .inl (am_ctI am_hM 38)), .inr (8, [.ref 40, .ref 41, .int 0, .ref 42, .int 0]), .inl (2, 400, .inr (.inl (am_ctL am_hM 40))), .inl (2, 400, .inr (.inl (am_ctL am_hM 41))), .inl (1, 1024, .inl (am_ctI am_hM 42)), .inr (8, [.ref 44, .ref 45, .int 0, .ref 46, .int 0]), .inl (2, 400, .inr (.inl (am_ctL am_hM 44))), .inl (2, 400, .inr (.inl (am_ctL am_hM 45))), .inl (1, 1024, .inl (am_ctI am_hM 46)), .inl (1, 49, .inl (am_ctI am_hM 47)), .inl (3, 307200, .inl (am_ctI am_hM 48)), .inl (0, 19600, .inl (am_ctI am_hM 49)), .inr (1, [.ref 1, .ref 22, .ref 51, .ref 52, .int 0, .ref 53]), .inl (1, 16, .inl (am_ctI am_hM 51)), .inl (1, 16, .inl (am_ctI am_hM 52)), .inl (1, 256, .inl (am_ctI am_hM 53)), .inr (3, [.ref 1, .ref 55, .int 0, .int 0, .int 0, .int 0, .int 0, .int 0, .long 0, .long 0, .ref 56, .ref 57]), .inl (1, 12, .inl (am_ctI am_hM 55)), .inl (2, 12, .inr (.inl (am_ctL am_hM 56))), .inl (2, 12, .inr (.inl (am_ctL am_hM 57))), .inr (9, [.ref 1, .ref 22, .ref 28, .ref 18, .int 0, .ref 59, .ref 60, .int 0, .int 0, .ref 61, .ref 62, .ref 63]), .inl (1, 60, .inl (am_ctI am_hM 59)), .inl (1, 20, .inl (am_ctI am_hM 60)), .inl (1, 3, .inl (am_ctI am_hM 61)), .inl (1, 3, .inl (am_ctI am_hM 62)), .inl (1, 3, .inl (am_ctI am_hM 63)), .inr (12, [.int 0, .ref 65, .int (m), .int 0, .int 0, .int 0, .int 0, .int 0, .long 0, .int 0, .int 0, .int 0, .int 0, .int 0, .ref 66, .ref 67, .int 0, .ref 68, .ref 69, .ref 70, .ref 71, .int 0, .int 0, .int 0, .int 36, .int 99, .ref 72, .ref 73, .ref 74, .ref 75, .int 0, .ref 76, .ref 77, .int 0, .int 0, .ref 78, .ref 79, .ref 80, .ref 81, .ref 82, .int 0, .ref 83, .ref 84, .ref 85, .ref 86, .ref 87, .int 0, .ref 88, .ref 89, .ref 90, .ref 91, .ref 92, .ref 93, .ref 94, .ref 95, .int 0, .int 0, .int 0, .int 0, .ref 96, .int 0, .int 0, .ref 97, .ref 98, .ref 99]), .inl (0, 600, .inl g), .inl (2, 16, .inr (.inl (am_ctL am_hM 66))), .inl (1, 16, .inl (am_ctI am_hM 67)), .inl (1, 12, .inl (am_ctI am_hM 68)), .inl (1, 12, .inl (am_ctI am_hM 69)), .inl (1, 12, .inl (am_ctI am_hM 70)), .inl (1, 12, .inl (am_ctI am_hM 71)), .inl (1, 12, .inl (am_ctI am_hM 72)), .inl (1, 12, .inl (am_ctI am_hM 73)), .inl (1, 12, .inl (am_ctI am_hM 74)), .inl (1, 12, .inl (am_ctI am_hM 75)), .inl (1, 12, .inl (am_ctI am_hM 76)), .inl (4, 12, .inl (am_ctI am_hM 77)), .inl (1, 100, .inl (am_ctI am_hM 78)), .inl (1, 100, .inl (am_ctI am_hM 79)), .inl (1, 100, .inl (am_ctI am_hM 80)), .inl (1, 64, .inl (am_ctI am_hM 81)), .inl (1, 14, .inl (am_ctI am_hM 82)), .inl (1, 48, .inl (am_ctI am_hM 83)), .inl (1, 48, .inl (am_ctI am_hM 84)), .inl (1, 153, .inl (am_ctI am_hM 85)), .inl (4, 48, .inl (am_ctI am_hM 86)), .inl (1, 48, .inl (am_ctI am_hM 87)), .inl (1, 16, .inl (am_ctI am_hM 88)), .inl (1, 274400, .inl (am_ctI am_hM 89)), .inl (1, 49, .inl (am_ctI am_hM 90)), .inl (1, 307200, .inl (am_ctI am_hM 91)), .inl (4, 19600, .inl (am_ctI am_hM 92)), .inl (4, 48, .inl (am_ctI am_hM 93)), .inl (1, 48, .inl (am_ctI am_hM 94)), .inl (1, 48, .inl (am_ctI am_hM 95)), .inl (1, 60, .inl (am_ctI am_hM 96)), .inl (1, 3, .inl (am_ctI am_hM 97)), .inl (1, 3, .inl (am_ctI am_hM 98)), .inl (1, 42, .inl (am_ctI am_hM 99)), .inl (2, 1, .inr (.inl (fun _ => 0)))]
set_option maxRecDepth 100000 in
theorem am_hF0 : am_h0 = am_hF 0 (am_ctI am_hM 16) 0 (am_ctI am_hM 65) := rfl
theorem am_Go.iast {al : Bool} {d : Nat} {S : am_S} {r : am_M} {pc : Nat} {lv : List (Option Value)} {v i : Int32} {a : Nat} {rest : List Value} {h : am_H} {nc ns n : Nat} {f : Nat → Int32} {z : am_C} (hi : am_at r pc = some .iastore) (ha : am_ari h a 1 = some (n, f)) (hin : am_in i n = true) (k : am_Go al d S r (pc + 1, lv, rest, h.set a (.inl (1, n, .inl (upd f i.toNatClampNeg v))), nc, ns) z) : am_Go al d S r (pc, lv, .int v :: .int i :: .ref a :: rest, h, nc, ns) z := by
  refine am_Go.st1 hi (fun call => ?_) k
  have e1 : am_s4 (am_o r) (am_i r) .iastore h pc (.int v :: .int i :: .ref a :: rest) = some (pc + 1, rest, h.set a (.inl (1, n, .inl (upd f i.toNatClampNeg v)))) := by
    show am_ast h pc (.int v :: .int i :: .ref a :: rest) 1 (fun v => v) = _
    unfold am_ast
    simp only [ha, hin, cond_true]
  show (match am_s4 (am_o r) (am_i r) .iastore h pc (.int v :: .int i :: .ref a :: rest) with
    | some x => some (x.1, lv, x.2.1, x.2.2, nc, ns)
    | none => _) = _
  rw [e1]
theorem am_Go.bast {al : Bool} {d : Nat} {S : am_S} {r : am_M} {pc : Nat} {lv : List (Option Value)} {v i : Int32} {a : Nat} {rest : List Value} {h : am_H} {nc ns n : Nat} {f : Nat → Int32} {z : am_C} (hi : am_at r pc = some .bastore) (ha : am_ari h a 0 = some (n, f)) (hin : am_in i n = true) (k : am_Go al d S r (pc + 1, lv, rest, h.set a (.inl (0, n, .inl (upd f i.toNatClampNeg (vp_nar .byte v)))), nc, ns) z) : am_Go al d S r (pc, lv, .int v :: .int i :: .ref a :: rest, h, nc, ns) z := by
  refine am_Go.st1 hi (fun call => ?_) k
  have e1 : am_s4 (am_o r) (am_i r) .bastore h pc (.int v :: .int i :: .ref a :: rest) = some (pc + 1, rest, h.set a (.inl (0, n, .inl (upd f i.toNatClampNeg (vp_nar .byte v))))) := by
    show am_or (am_ast h pc (.int v :: .int i :: .ref a :: rest) 0 (vp_nar .byte)) _ = _
    have e2 : am_ast h pc (.int v :: .int i :: .ref a :: rest) 0 (vp_nar .byte) = some (pc + 1, rest, h.set a (.inl (0, n, .inl (upd f i.toNatClampNeg (vp_nar .byte v))))) := by
      unfold am_ast
      simp only [ha, hin, cond_true]
    rw [e2]
    rfl
  show (match am_s4 (am_o r) (am_i r) .bastore h pc (.int v :: .int i :: .ref a :: rest) with
    | some x => some (x.1, lv, x.2.1, x.2.2, nc, ns)
    | none => _) = _
  rw [e1]
def am_bx (s : Int32) (A : Int64) : Int32 := (A.toUInt64 >>> (s.toInt64.toUInt64 &&& Int64.toUInt64 63)).toInt64.toInt32 &&& 255
def am_bm (s : Int32) (A : Int64) : Int32 := (A >>> (s.toInt64 &&& 63)).toInt32.toInt8.toInt32
def am_stp (z : Bool) (n : Int32) : Int32 := bif z then n else n + 1
def am_cn : List Bool → Int32 → Int32
  | [], n => n
  | z :: zs, n => am_cn zs (am_stp z n)
theorem am_add1 {n : Int32} (h0 : 0 ≤ n.toInt) (h1 : n.toInt < 1000) : (n + 1).toInt = n.toInt + 1 := by
  rw [Int32.toInt_add]
  have : (1 : Int32).toInt = 1 := rfl
  rw [this]
  apply Int.bmod_eq_of_le <;> omega
theorem am_stp_b {z : Bool} {n : Int32} {b : Int} (h0 : 0 ≤ n.toInt) (h1 : n.toInt ≤ b) (hb : b < 900) : 0 ≤ (am_stp z n).toInt ∧ (am_stp z n).toInt ≤ b + 1 := by
  cases z with
  | true => exact ⟨h0, by show n.toInt ≤ b + 1; omega⟩
  | false =>
    show 0 ≤ (n + 1).toInt ∧ (n + 1).toInt ≤ b + 1
    rw [am_add1 h0 (by omega)]
    omega
set_option maxHeartbeats 20000000 in
set_option maxRecDepth 100000 in
theorem am_fx56 (A : Int64) (n m : Int32) (f g : Nat → Int32) (o : Option Value) (h0 : 0 ≤ n.toInt) (h1 : n.toInt < 500) : ∃ f2 o2, am_Go true 17 (0, fun _ => 0) am_r44 (3, [some (.ref 8), some (.long A), none, some (.int 56), o], [], am_hF n f m g, 0, 0) (3, [some (.ref 8), some (.long A), none, some (.int 48), o2], [], am_hF (am_stp (am_cmp .eq (am_bx 56 A) 0) n) f2 m g, 0, 0) := by
  cases hz : am_cmp .eq (am_bx 56 A) 0 with
  | true =>
    refine ⟨f, some (.int (am_bx 56 A)), ?_⟩
    refine am_Go.bl 11 (y := (bif am_cmp .eq (am_bx 56 A) 0 then 53 else 22, [some (.ref 8), some (.long A), none, some (.int 56), some (.int (am_bx 56 A))], [], am_hF n f m g, 0, 0)) (fun _ => rfl) ?_
    refine am_Go.brT hz ?_
    exact am_Go.bl 2 (fun _ => rfl) am_Go.rf
  | false =>
    refine ⟨upd f n.toNatClampNeg (am_bx 56 A), some (.int (am_bx 56 A)), ?_⟩
    refine am_Go.bl 11 (y := (bif am_cmp .eq (am_bx 56 A) 0 then 53 else 22, [some (.ref 8), some (.long A), none, some (.int 56), some (.int (am_bx 56 A))], [], am_hF n f m g, 0, 0)) (fun _ => rfl) ?_
    refine am_Go.brF hz ?_
    refine am_Go.bl 4 (y := (bif am_cmp .ge n 600 then 53 else 32, [some (.ref 8), some (.long A), none, some (.int 56), some (.int (am_bx 56 A))], [], am_hF n f m g, 0, 0)) (fun _ => rfl) ?_
    refine am_Go.brF ((am_cge_f (k := 600) rfl).mpr (by omega)) ?_
    refine am_Go.bl 5 (y := (42, [some (.ref 8), some (.long A), none, some (.int 56), some (.int (am_bx 56 A))], [.int (am_bx 56 A), .int n, .ref 16], am_hF n f m g, 0, 0)) (fun _ => rfl) ?_
    refine am_Go.iast (n := 600) (f := f) rfl rfl (am_in_of h0 (by omega)) ?_
    exact am_Go.bl 8 (y := (3, [some (.ref 8), some (.long A), none, some (.int 48), some (.int (am_bx 56 A))], [], am_hF (n + 1) (upd f n.toNatClampNeg (am_bx 56 A)) m g, 0, 0)) (fun _ => rfl) am_Go.rf
set_option maxHeartbeats 20000000 in
set_option maxRecDepth 100000 in
theorem am_fx48 (A : Int64) (n m : Int32) (f g : Nat → Int32) (o : Option Value) (h0 : 0 ≤ n.toInt) (h1 : n.toInt < 500) : ∃ f2 o2, am_Go true 17 (0, fun _ => 0) am_r44 (3, [some (.ref 8), some (.long A), none, some (.int 48), o], [], am_hF n f m g, 0, 0) (3, [some (.ref 8), some (.long A), none, some (.int 40), o2], [], am_hF (am_stp (am_cmp .eq (am_bx 48 A) 0) n) f2 m g, 0, 0) := by
  cases hz : am_cmp .eq (am_bx 48 A) 0 with
  | true =>
    refine ⟨f, some (.int (am_bx 48 A)), ?_⟩
    refine am_Go.bl 11 (y := (bif am_cmp .eq (am_bx 48 A) 0 then 53 else 22, [some (.ref 8), some (.long A), none, some (.int 48), some (.int (am_bx 48 A))], [], am_hF n f m g, 0, 0)) (fun _ => rfl) ?_
    refine am_Go.brT hz ?_
    exact am_Go.bl 2 (fun _ => rfl) am_Go.rf
  | false =>
    refine ⟨upd f n.toNatClampNeg (am_bx 48 A), some (.int (am_bx 48 A)), ?_⟩
    refine am_Go.bl 11 (y := (bif am_cmp .eq (am_bx 48 A) 0 then 53 else 22, [some (.ref 8), some (.long A), none, some (.int 48), some (.int (am_bx 48 A))], [], am_hF n f m g, 0, 0)) (fun _ => rfl) ?_
    refine am_Go.brF hz ?_
    refine am_Go.bl 4 (y := (bif am_cmp .ge n 600 then 53 else 32, [some (.ref 8), some (.long A), none, some (.int 48), some (.int (am_bx 48 A))], [], am_hF n f m g, 0, 0)) (fun _ => rfl) ?_
    refine am_Go.brF ((am_cge_f (k := 600) rfl).mpr (by omega)) ?_
    refine am_Go.bl 5 (y := (42, [some (.ref 8), some (.long A), none, some (.int 48), some (.int (am_bx 48 A))], [.int (am_bx 48 A), .int n, .ref 16], am_hF n f m g, 0, 0)) (fun _ => rfl) ?_
    refine am_Go.iast (n := 600) (f := f) rfl rfl (am_in_of h0 (by omega)) ?_
    exact am_Go.bl 8 (y := (3, [some (.ref 8), some (.long A), none, some (.int 40), some (.int (am_bx 48 A))], [], am_hF (n + 1) (upd f n.toNatClampNeg (am_bx 48 A)) m g, 0, 0)) (fun _ => rfl) am_Go.rf
set_option maxHeartbeats 20000000 in
set_option maxRecDepth 100000 in
theorem am_fx40 (A : Int64) (n m : Int32) (f g : Nat → Int32) (o : Option Value) (h0 : 0 ≤ n.toInt) (h1 : n.toInt < 500) : ∃ f2 o2, am_Go true 17 (0, fun _ => 0) am_r44 (3, [some (.ref 8), some (.long A), none, some (.int 40), o], [], am_hF n f m g, 0, 0) (3, [some (.ref 8), some (.long A), none, some (.int 32), o2], [], am_hF (am_stp (am_cmp .eq (am_bx 40 A) 0) n) f2 m g, 0, 0) := by
  cases hz : am_cmp .eq (am_bx 40 A) 0 with
  | true =>
    refine ⟨f, some (.int (am_bx 40 A)), ?_⟩
    refine am_Go.bl 11 (y := (bif am_cmp .eq (am_bx 40 A) 0 then 53 else 22, [some (.ref 8), some (.long A), none, some (.int 40), some (.int (am_bx 40 A))], [], am_hF n f m g, 0, 0)) (fun _ => rfl) ?_
    refine am_Go.brT hz ?_
    exact am_Go.bl 2 (fun _ => rfl) am_Go.rf
  | false =>
    refine ⟨upd f n.toNatClampNeg (am_bx 40 A), some (.int (am_bx 40 A)), ?_⟩
    refine am_Go.bl 11 (y := (bif am_cmp .eq (am_bx 40 A) 0 then 53 else 22, [some (.ref 8), some (.long A), none, some (.int 40), some (.int (am_bx 40 A))], [], am_hF n f m g, 0, 0)) (fun _ => rfl) ?_
    refine am_Go.brF hz ?_
    refine am_Go.bl 4 (y := (bif am_cmp .ge n 600 then 53 else 32, [some (.ref 8), some (.long A), none, some (.int 40), some (.int (am_bx 40 A))], [], am_hF n f m g, 0, 0)) (fun _ => rfl) ?_
    refine am_Go.brF ((am_cge_f (k := 600) rfl).mpr (by omega)) ?_
    refine am_Go.bl 5 (y := (42, [some (.ref 8), some (.long A), none, some (.int 40), some (.int (am_bx 40 A))], [.int (am_bx 40 A), .int n, .ref 16], am_hF n f m g, 0, 0)) (fun _ => rfl) ?_
    refine am_Go.iast (n := 600) (f := f) rfl rfl (am_in_of h0 (by omega)) ?_
    exact am_Go.bl 8 (y := (3, [some (.ref 8), some (.long A), none, some (.int 32), some (.int (am_bx 40 A))], [], am_hF (n + 1) (upd f n.toNatClampNeg (am_bx 40 A)) m g, 0, 0)) (fun _ => rfl) am_Go.rf
set_option maxHeartbeats 20000000 in
set_option maxRecDepth 100000 in
theorem am_fx32 (A : Int64) (n m : Int32) (f g : Nat → Int32) (o : Option Value) (h0 : 0 ≤ n.toInt) (h1 : n.toInt < 500) : ∃ f2 o2, am_Go true 17 (0, fun _ => 0) am_r44 (3, [some (.ref 8), some (.long A), none, some (.int 32), o], [], am_hF n f m g, 0, 0) (3, [some (.ref 8), some (.long A), none, some (.int 24), o2], [], am_hF (am_stp (am_cmp .eq (am_bx 32 A) 0) n) f2 m g, 0, 0) := by
  cases hz : am_cmp .eq (am_bx 32 A) 0 with
  | true =>
    refine ⟨f, some (.int (am_bx 32 A)), ?_⟩
    refine am_Go.bl 11 (y := (bif am_cmp .eq (am_bx 32 A) 0 then 53 else 22, [some (.ref 8), some (.long A), none, some (.int 32), some (.int (am_bx 32 A))], [], am_hF n f m g, 0, 0)) (fun _ => rfl) ?_
    refine am_Go.brT hz ?_
    exact am_Go.bl 2 (fun _ => rfl) am_Go.rf
  | false =>
    refine ⟨upd f n.toNatClampNeg (am_bx 32 A), some (.int (am_bx 32 A)), ?_⟩
    refine am_Go.bl 11 (y := (bif am_cmp .eq (am_bx 32 A) 0 then 53 else 22, [some (.ref 8), some (.long A), none, some (.int 32), some (.int (am_bx 32 A))], [], am_hF n f m g, 0, 0)) (fun _ => rfl) ?_
    refine am_Go.brF hz ?_
    refine am_Go.bl 4 (y := (bif am_cmp .ge n 600 then 53 else 32, [some (.ref 8), some (.long A), none, some (.int 32), some (.int (am_bx 32 A))], [], am_hF n f m g, 0, 0)) (fun _ => rfl) ?_
    refine am_Go.brF ((am_cge_f (k := 600) rfl).mpr (by omega)) ?_
    refine am_Go.bl 5 (y := (42, [some (.ref 8), some (.long A), none, some (.int 32), some (.int (am_bx 32 A))], [.int (am_bx 32 A), .int n, .ref 16], am_hF n f m g, 0, 0)) (fun _ => rfl) ?_
    refine am_Go.iast (n := 600) (f := f) rfl rfl (am_in_of h0 (by omega)) ?_
    exact am_Go.bl 8 (y := (3, [some (.ref 8), some (.long A), none, some (.int 24), some (.int (am_bx 32 A))], [], am_hF (n + 1) (upd f n.toNatClampNeg (am_bx 32 A)) m g, 0, 0)) (fun _ => rfl) am_Go.rf
set_option maxHeartbeats 20000000 in
set_option maxRecDepth 100000 in
theorem am_fx24 (A : Int64) (n m : Int32) (f g : Nat → Int32) (o : Option Value) (h0 : 0 ≤ n.toInt) (h1 : n.toInt < 500) : ∃ f2 o2, am_Go true 17 (0, fun _ => 0) am_r44 (3, [some (.ref 8), some (.long A), none, some (.int 24), o], [], am_hF n f m g, 0, 0) (3, [some (.ref 8), some (.long A), none, some (.int 16), o2], [], am_hF (am_stp (am_cmp .eq (am_bx 24 A) 0) n) f2 m g, 0, 0) := by
  cases hz : am_cmp .eq (am_bx 24 A) 0 with
  | true =>
    refine ⟨f, some (.int (am_bx 24 A)), ?_⟩
    refine am_Go.bl 11 (y := (bif am_cmp .eq (am_bx 24 A) 0 then 53 else 22, [some (.ref 8), some (.long A), none, some (.int 24), some (.int (am_bx 24 A))], [], am_hF n f m g, 0, 0)) (fun _ => rfl) ?_
    refine am_Go.brT hz ?_
    exact am_Go.bl 2 (fun _ => rfl) am_Go.rf
  | false =>
    refine ⟨upd f n.toNatClampNeg (am_bx 24 A), some (.int (am_bx 24 A)), ?_⟩
    refine am_Go.bl 11 (y := (bif am_cmp .eq (am_bx 24 A) 0 then 53 else 22, [some (.ref 8), some (.long A), none, some (.int 24), some (.int (am_bx 24 A))], [], am_hF n f m g, 0, 0)) (fun _ => rfl) ?_
    refine am_Go.brF hz ?_
    refine am_Go.bl 4 (y := (bif am_cmp .ge n 600 then 53 else 32, [some (.ref 8), some (.long A), none, some (.int 24), some (.int (am_bx 24 A))], [], am_hF n f m g, 0, 0)) (fun _ => rfl) ?_
    refine am_Go.brF ((am_cge_f (k := 600) rfl).mpr (by omega)) ?_
    refine am_Go.bl 5 (y := (42, [some (.ref 8), some (.long A), none, some (.int 24), some (.int (am_bx 24 A))], [.int (am_bx 24 A), .int n, .ref 16], am_hF n f m g, 0, 0)) (fun _ => rfl) ?_
    refine am_Go.iast (n := 600) (f := f) rfl rfl (am_in_of h0 (by omega)) ?_
    exact am_Go.bl 8 (y := (3, [some (.ref 8), some (.long A), none, some (.int 16), some (.int (am_bx 24 A))], [], am_hF (n + 1) (upd f n.toNatClampNeg (am_bx 24 A)) m g, 0, 0)) (fun _ => rfl) am_Go.rf
set_option maxHeartbeats 20000000 in
set_option maxRecDepth 100000 in
theorem am_fx16 (A : Int64) (n m : Int32) (f g : Nat → Int32) (o : Option Value) (h0 : 0 ≤ n.toInt) (h1 : n.toInt < 500) : ∃ f2 o2, am_Go true 17 (0, fun _ => 0) am_r44 (3, [some (.ref 8), some (.long A), none, some (.int 16), o], [], am_hF n f m g, 0, 0) (3, [some (.ref 8), some (.long A), none, some (.int 8), o2], [], am_hF (am_stp (am_cmp .eq (am_bx 16 A) 0) n) f2 m g, 0, 0) := by
  cases hz : am_cmp .eq (am_bx 16 A) 0 with
  | true =>
    refine ⟨f, some (.int (am_bx 16 A)), ?_⟩
    refine am_Go.bl 11 (y := (bif am_cmp .eq (am_bx 16 A) 0 then 53 else 22, [some (.ref 8), some (.long A), none, some (.int 16), some (.int (am_bx 16 A))], [], am_hF n f m g, 0, 0)) (fun _ => rfl) ?_
    refine am_Go.brT hz ?_
    exact am_Go.bl 2 (fun _ => rfl) am_Go.rf
  | false =>
    refine ⟨upd f n.toNatClampNeg (am_bx 16 A), some (.int (am_bx 16 A)), ?_⟩
    refine am_Go.bl 11 (y := (bif am_cmp .eq (am_bx 16 A) 0 then 53 else 22, [some (.ref 8), some (.long A), none, some (.int 16), some (.int (am_bx 16 A))], [], am_hF n f m g, 0, 0)) (fun _ => rfl) ?_
    refine am_Go.brF hz ?_
    refine am_Go.bl 4 (y := (bif am_cmp .ge n 600 then 53 else 32, [some (.ref 8), some (.long A), none, some (.int 16), some (.int (am_bx 16 A))], [], am_hF n f m g, 0, 0)) (fun _ => rfl) ?_
    refine am_Go.brF ((am_cge_f (k := 600) rfl).mpr (by omega)) ?_
    refine am_Go.bl 5 (y := (42, [some (.ref 8), some (.long A), none, some (.int 16), some (.int (am_bx 16 A))], [.int (am_bx 16 A), .int n, .ref 16], am_hF n f m g, 0, 0)) (fun _ => rfl) ?_
    refine am_Go.iast (n := 600) (f := f) rfl rfl (am_in_of h0 (by omega)) ?_
    exact am_Go.bl 8 (y := (3, [some (.ref 8), some (.long A), none, some (.int 8), some (.int (am_bx 16 A))], [], am_hF (n + 1) (upd f n.toNatClampNeg (am_bx 16 A)) m g, 0, 0)) (fun _ => rfl) am_Go.rf
set_option maxHeartbeats 20000000 in
set_option maxRecDepth 100000 in
theorem am_fx8 (A : Int64) (n m : Int32) (f g : Nat → Int32) (o : Option Value) (h0 : 0 ≤ n.toInt) (h1 : n.toInt < 500) : ∃ f2 o2, am_Go true 17 (0, fun _ => 0) am_r44 (3, [some (.ref 8), some (.long A), none, some (.int 8), o], [], am_hF n f m g, 0, 0) (3, [some (.ref 8), some (.long A), none, some (.int 0), o2], [], am_hF (am_stp (am_cmp .eq (am_bx 8 A) 0) n) f2 m g, 0, 0) := by
  cases hz : am_cmp .eq (am_bx 8 A) 0 with
  | true =>
    refine ⟨f, some (.int (am_bx 8 A)), ?_⟩
    refine am_Go.bl 11 (y := (bif am_cmp .eq (am_bx 8 A) 0 then 53 else 22, [some (.ref 8), some (.long A), none, some (.int 8), some (.int (am_bx 8 A))], [], am_hF n f m g, 0, 0)) (fun _ => rfl) ?_
    refine am_Go.brT hz ?_
    exact am_Go.bl 2 (fun _ => rfl) am_Go.rf
  | false =>
    refine ⟨upd f n.toNatClampNeg (am_bx 8 A), some (.int (am_bx 8 A)), ?_⟩
    refine am_Go.bl 11 (y := (bif am_cmp .eq (am_bx 8 A) 0 then 53 else 22, [some (.ref 8), some (.long A), none, some (.int 8), some (.int (am_bx 8 A))], [], am_hF n f m g, 0, 0)) (fun _ => rfl) ?_
    refine am_Go.brF hz ?_
    refine am_Go.bl 4 (y := (bif am_cmp .ge n 600 then 53 else 32, [some (.ref 8), some (.long A), none, some (.int 8), some (.int (am_bx 8 A))], [], am_hF n f m g, 0, 0)) (fun _ => rfl) ?_
    refine am_Go.brF ((am_cge_f (k := 600) rfl).mpr (by omega)) ?_
    refine am_Go.bl 5 (y := (42, [some (.ref 8), some (.long A), none, some (.int 8), some (.int (am_bx 8 A))], [.int (am_bx 8 A), .int n, .ref 16], am_hF n f m g, 0, 0)) (fun _ => rfl) ?_
    refine am_Go.iast (n := 600) (f := f) rfl rfl (am_in_of h0 (by omega)) ?_
    exact am_Go.bl 8 (y := (3, [some (.ref 8), some (.long A), none, some (.int 0), some (.int (am_bx 8 A))], [], am_hF (n + 1) (upd f n.toNatClampNeg (am_bx 8 A)) m g, 0, 0)) (fun _ => rfl) am_Go.rf
set_option maxHeartbeats 20000000 in
set_option maxRecDepth 100000 in
theorem am_fx0 (A : Int64) (n m : Int32) (f g : Nat → Int32) (o : Option Value) (h0 : 0 ≤ n.toInt) (h1 : n.toInt < 500) : ∃ f2 o2, am_Go true 17 (0, fun _ => 0) am_r44 (3, [some (.ref 8), some (.long A), none, some (.int 0), o], [], am_hF n f m g, 0, 0) (3, [some (.ref 8), some (.long A), none, some (.int (-8)), o2], [], am_hF (am_stp (am_cmp .eq (am_bx 0 A) 0) n) f2 m g, 0, 0) := by
  cases hz : am_cmp .eq (am_bx 0 A) 0 with
  | true =>
    refine ⟨f, some (.int (am_bx 0 A)), ?_⟩
    refine am_Go.bl 11 (y := (bif am_cmp .eq (am_bx 0 A) 0 then 53 else 22, [some (.ref 8), some (.long A), none, some (.int 0), some (.int (am_bx 0 A))], [], am_hF n f m g, 0, 0)) (fun _ => rfl) ?_
    refine am_Go.brT hz ?_
    exact am_Go.bl 2 (fun _ => rfl) am_Go.rf
  | false =>
    refine ⟨upd f n.toNatClampNeg (am_bx 0 A), some (.int (am_bx 0 A)), ?_⟩
    refine am_Go.bl 11 (y := (bif am_cmp .eq (am_bx 0 A) 0 then 53 else 22, [some (.ref 8), some (.long A), none, some (.int 0), some (.int (am_bx 0 A))], [], am_hF n f m g, 0, 0)) (fun _ => rfl) ?_
    refine am_Go.brF hz ?_
    refine am_Go.bl 4 (y := (bif am_cmp .ge n 600 then 53 else 32, [some (.ref 8), some (.long A), none, some (.int 0), some (.int (am_bx 0 A))], [], am_hF n f m g, 0, 0)) (fun _ => rfl) ?_
    refine am_Go.brF ((am_cge_f (k := 600) rfl).mpr (by omega)) ?_
    refine am_Go.bl 5 (y := (42, [some (.ref 8), some (.long A), none, some (.int 0), some (.int (am_bx 0 A))], [.int (am_bx 0 A), .int n, .ref 16], am_hF n f m g, 0, 0)) (fun _ => rfl) ?_
    refine am_Go.iast (n := 600) (f := f) rfl rfl (am_in_of h0 (by omega)) ?_
    exact am_Go.bl 8 (y := (3, [some (.ref 8), some (.long A), none, some (.int (-8)), some (.int (am_bx 0 A))], [], am_hF (n + 1) (upd f n.toNatClampNeg (am_bx 0 A)) m g, 0, 0)) (fun _ => rfl) am_Go.rf
def am_zx (A : Int64) : List Bool := [am_cmp .eq (am_bx 56 A) 0, am_cmp .eq (am_bx 48 A) 0, am_cmp .eq (am_bx 40 A) 0, am_cmp .eq (am_bx 32 A) 0, am_cmp .eq (am_bx 24 A) 0, am_cmp .eq (am_bx 16 A) 0, am_cmp .eq (am_bx 8 A) 0, am_cmp .eq (am_bx 0 A) 0]
def am_zm (A : Int64) : List Bool := [am_cmp .eq (am_bm 56 A) 0, am_cmp .eq (am_bm 48 A) 0, am_cmp .eq (am_bm 40 A) 0, am_cmp .eq (am_bm 32 A) 0, am_cmp .eq (am_bm 24 A) 0, am_cmp .eq (am_bm 16 A) 0, am_cmp .eq (am_bm 8 A) 0, am_cmp .eq (am_bm 0 A) 0]
set_option maxRecDepth 100000 in
theorem am_fx (A : Int64) (n m : Int32) (f g : Nat → Int32) (h0 : 0 ≤ n.toInt) (h1 : n.toInt ≤ 100) : ∃ f2, am_Do true 18 44 [.ref 8, .long A] (am_hF n f m g) (none, am_hF (am_cn (am_zx A) n) f2 m g) := by
  have q0 : 0 ≤ n.toInt ∧ n.toInt ≤ 100 := ⟨h0, h1⟩
  obtain ⟨f1, o1, g1⟩ := am_fx56 A (n) m f g none q0.1 (by have := q0.2; omega)
  have q1 := am_stp_b (z := am_cmp .eq (am_bx 56 A) 0) (b := 100) q0.1 q0.2 (by decide)
  obtain ⟨f2, o2, g2⟩ := am_fx48 A (am_stp (am_cmp .eq (am_bx 56 A) 0) (n)) m f1 g o1 q1.1 (by have := q1.2; omega)
  have q2 := am_stp_b (z := am_cmp .eq (am_bx 48 A) 0) (b := 101) q1.1 q1.2 (by decide)
  obtain ⟨f3, o3, g3⟩ := am_fx40 A (am_stp (am_cmp .eq (am_bx 48 A) 0) (am_stp (am_cmp .eq (am_bx 56 A) 0) (n))) m f2 g o2 q2.1 (by have := q2.2; omega)
  have q3 := am_stp_b (z := am_cmp .eq (am_bx 40 A) 0) (b := 102) q2.1 q2.2 (by decide)
  obtain ⟨f4, o4, g4⟩ := am_fx32 A (am_stp (am_cmp .eq (am_bx 40 A) 0) (am_stp (am_cmp .eq (am_bx 48 A) 0) (am_stp (am_cmp .eq (am_bx 56 A) 0) (n)))) m f3 g o3 q3.1 (by have := q3.2; omega)
  have q4 := am_stp_b (z := am_cmp .eq (am_bx 32 A) 0) (b := 103) q3.1 q3.2 (by decide)
  obtain ⟨f5, o5, g5⟩ := am_fx24 A (am_stp (am_cmp .eq (am_bx 32 A) 0) (am_stp (am_cmp .eq (am_bx 40 A) 0) (am_stp (am_cmp .eq (am_bx 48 A) 0) (am_stp (am_cmp .eq (am_bx 56 A) 0) (n))))) m f4 g o4 q4.1 (by have := q4.2; omega)
  have q5 := am_stp_b (z := am_cmp .eq (am_bx 24 A) 0) (b := 104) q4.1 q4.2 (by decide)
  obtain ⟨f6, o6, g6⟩ := am_fx16 A (am_stp (am_cmp .eq (am_bx 24 A) 0) (am_stp (am_cmp .eq (am_bx 32 A) 0) (am_stp (am_cmp .eq (am_bx 40 A) 0) (am_stp (am_cmp .eq (am_bx 48 A) 0) (am_stp (am_cmp .eq (am_bx 56 A) 0) (n)))))) m f5 g o5 q5.1 (by have := q5.2; omega)
  have q6 := am_stp_b (z := am_cmp .eq (am_bx 16 A) 0) (b := 105) q5.1 q5.2 (by decide)
  obtain ⟨f7, o7, g7⟩ := am_fx8 A (am_stp (am_cmp .eq (am_bx 16 A) 0) (am_stp (am_cmp .eq (am_bx 24 A) 0) (am_stp (am_cmp .eq (am_bx 32 A) 0) (am_stp (am_cmp .eq (am_bx 40 A) 0) (am_stp (am_cmp .eq (am_bx 48 A) 0) (am_stp (am_cmp .eq (am_bx 56 A) 0) (n))))))) m f6 g o6 q6.1 (by have := q6.2; omega)
  have q7 := am_stp_b (z := am_cmp .eq (am_bx 8 A) 0) (b := 106) q6.1 q6.2 (by decide)
  obtain ⟨f8, o8, g8⟩ := am_fx0 A (am_stp (am_cmp .eq (am_bx 8 A) 0) (am_stp (am_cmp .eq (am_bx 16 A) 0) (am_stp (am_cmp .eq (am_bx 24 A) 0) (am_stp (am_cmp .eq (am_bx 32 A) 0) (am_stp (am_cmp .eq (am_bx 40 A) 0) (am_stp (am_cmp .eq (am_bx 48 A) 0) (am_stp (am_cmp .eq (am_bx 56 A) 0) (n)))))))) m f7 g o7 q7.1 (by have := q7.2; omega)
  have q8 := am_stp_b (z := am_cmp .eq (am_bx 0 A) 0) (b := 107) q7.1 q7.2 (by decide)
  refine ⟨f8, am_Do.of (r := am_r44) (y := (59, [some (.ref 8), some (.long A), none, some (.int (-8)), o8], [], am_hF (am_cn (am_zx A) n) f8 m g, 0, 0)) rfl rfl ?_ rfl rfl rfl⟩
  refine am_Go.bl 2 (y := (3, [some (.ref 8), some (.long A), none, some (.int 56), none], [], am_hF n f m g, 0, 0)) (fun _ => rfl) ?_
  refine am_Go.tr g1 ?_
  refine am_Go.tr g2 ?_
  refine am_Go.tr g3 ?_
  refine am_Go.tr g4 ?_
  refine am_Go.tr g5 ?_
  refine am_Go.tr g6 ?_
  refine am_Go.tr g7 ?_
  refine am_Go.tr g8 ?_
  exact am_Go.bl 2 (fun _ => rfl) am_Go.rf
theorem am_cn_b (b : Int) : ∀ (zs : List Bool) (n : Int32), 0 ≤ n.toInt → n.toInt ≤ b → b + zs.length < 900 → 0 ≤ (am_cn zs n).toInt ∧ (am_cn zs n).toInt ≤ b + zs.length := by
  intro zs
  induction zs generalizing b with
  | nil => intro n h0 h1 _; exact ⟨h0, by simp only [am_cn, List.length_nil]; omega⟩
  | cons z zs ih =>
    intro n h0 h1 h2
    simp only [List.length_cons] at h2 ⊢
    obtain ⟨q1, q2⟩ := am_stp_b (z := z) h0 h1 (by omega)
    obtain ⟨q3, q4⟩ := ih (b + 1) (am_stp z n) q1 q2 (by omega)
    exact ⟨q3, by show (am_cn zs (am_stp z n)).toInt ≤ _; omega⟩
set_option maxHeartbeats 20000000 in
set_option maxRecDepth 100000 in
theorem am_fX (A B C : Int64) (f g : Nat → Int32) : ∃ f2, am_Do true 19 119 [.ref 0, .long A, .long B, .long C] (am_hF 0 f 0 g) (some (.int (am_cn (am_zx C) (am_cn (am_zx B) (am_cn (am_zx A) 0)))), am_hF (am_cn (am_zx C) (am_cn (am_zx B) (am_cn (am_zx A) 0))) f2 0 g) := by
  have zl : ∀ D : Int64, (am_zx D).length = 8 := fun _ => rfl
  have b1 := am_cn_b 0 (am_zx A) 0 (by decide) (by decide) (by rw [zl]; decide)
  have c1 : (am_cn (am_zx A) 0).toInt ≤ 8 := by have := b1.2; rw [zl] at this; omega
  have b2 := am_cn_b 8 (am_zx B) (am_cn (am_zx A) 0) b1.1 c1 (by rw [zl]; decide)
  have c2 : (am_cn (am_zx B) (am_cn (am_zx A) 0)).toInt ≤ 16 := by have := b2.2; rw [zl] at this; omega
  obtain ⟨f1, d1⟩ := am_fx A 0 0 f g (by decide) (by decide)
  obtain ⟨f2, d2⟩ := am_fx B (am_cn (am_zx A) 0) 0 f1 g b1.1 (by omega)
  obtain ⟨f3, d3⟩ := am_fx C (am_cn (am_zx B) (am_cn (am_zx A) 0)) 0 f2 g b2.1 (by omega)
  refine ⟨f3, am_Do.of (r := am_r119) (y := (32, [some (.ref 0), some (.long A), none, some (.long B), none, some (.long C), none], [.int (am_cn (am_zx C) (am_cn (am_zx B) (am_cn (am_zx A) 0)))], am_hF (am_cn (am_zx C) (am_cn (am_zx B) (am_cn (am_zx A) 0))) f3 0 g, 0, 0)) rfl rfl ?_ rfl rfl rfl⟩
  refine am_Go.bl 3 (y := (5, [some (.ref 0), some (.long A), none, some (.long B), none, some (.long C), none], [.long A, .ref 8], am_hF 0 f 0 g, 0, 0)) (fun _ => rfl) ?_
  refine am_Go.cV d1 rfl rfl rfl rfl rfl rfl rfl ?_
  refine am_Go.bl 3 (y := (13, [some (.ref 0), some (.long A), none, some (.long B), none, some (.long C), none], [.long B, .ref 8], am_hF (am_cn (am_zx A) 0) f1 0 g, 0, 0)) (fun _ => rfl) ?_
  refine am_Go.cV d2 rfl rfl rfl rfl rfl rfl rfl ?_
  refine am_Go.bl 3 (y := (22, [some (.ref 0), some (.long A), none, some (.long B), none, some (.long C), none], [.long C, .ref 8], am_hF (am_cn (am_zx B) (am_cn (am_zx A) 0)) f2 0 g, 0, 0)) (fun _ => rfl) ?_
  refine am_Go.cV d3 rfl rfl rfl rfl rfl rfl rfl ?_
  exact am_Go.bl 3 (fun _ => rfl) am_Go.rf
