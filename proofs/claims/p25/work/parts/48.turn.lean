/-! ===== one turn of the law, from any state ===== -/
theorem am_sw (x : Int32) : ∃ k : Nat, k < 32 ∧ x &&& 31 = Int32.ofNat k := by
  refine ⟨(x &&& 31).toBitVec.toNat, ?_, ?_⟩
  · rw [Int32.toBitVec_and, BitVec.toNat_and]
    exact Nat.lt_of_le_of_lt Nat.and_le_right (by decide)
  · apply Int32.toBitVec_inj.mp
    show _ = BitVec.ofNat 32 _
    rw [BitVec.ofNat_toNat, BitVec.setWidth_eq]
abbrev am_lvL (i : Int) (o5 o6 : Option Value) : List (Option Value) := [some (.ref 1000000), some (.ref 0), some (.ref 64), some (.ref 100), some (.int (Int32.ofInt i)), o5, o6]
section AML
variable {al : Bool} {d : Nat} {r : am_M} {Φ : am_C → Prop} {pc : Nat} {lv : List (Option Value)} {st : List Value} {h : am_H} {nc ns : Nat}
/-- an int of the script -/
theorem am_Wp.sc {L : Nat} {xs : Nat → Int32} {z : Int} (h0 : 0 ≤ z) (h1 : z < (L : Int)) (hL : L ≤ 3584) (hi : am_at r pc = some .iaload) (ho : Nat.beq (am_o r) 13 = true) (kk : am_Wp al d (L, xs) r Φ (pc + 1, lv, .int (xs z.toNat) :: st, h, nc, ns)) : am_Wp al d (L, xs) r Φ (pc, lv, .int (Int32.ofInt z) :: .ref 1000000 :: st, h, nc, ns) := by
  refine am_Wp.one hi (fun call => ?_) kk
  have e3 : am_s3 (L, xs) (am_o r) .iaload h pc (.int (Int32.ofInt z) :: .ref 1000000 :: st) = some (pc + 1, .int (xs z.toNat) :: st) := by
    have e1 : am_ald h pc (.int (Int32.ofInt z) :: .ref 1000000 :: st) 1 = none := rfl
    have e2 : am_scl (L, xs) pc (.int (Int32.ofInt z) :: .ref 1000000 :: st) = some (pc + 1, .int (xs z.toNat) :: st) := by
      unfold am_scl
      simp only [am_oin h0 h1 (show L < 2147483648 by omega), Nat.beq_refl, Bool.and_self, cond_true, am_onat h0 (show z ≤ 2147483647 by omega)]
    show am_or (am_ald h pc (.int (Int32.ofInt z) :: .ref 1000000 :: st) 1) (bif Nat.beq (am_o r) 13 then am_scl (L, xs) pc (.int (Int32.ofInt z) :: .ref 1000000 :: st) else none) = _
    rw [e1, ho, e2]
    rfl
  show (match am_s3 (L, xs) (am_o r) .iaload h pc (.int (Int32.ofInt z) :: .ref 1000000 :: st) with
    | some x => some (x.1, lv, x.2, h, nc, ns)
    | none => _) = _
  rw [e3]
theorem am_Wp.callN {S : am_S} {h2 : am_H} {idx mi n pl b c : Nat} {as rest : List Value} {rv : Option Value} {r2 : am_M} {ws : List ab_W} (hdo : am_Do al d mi (.ref b :: as) h (rv, h2)) (hok : ab_hok ab_D0 h) (hok2 : ab_hok ab_D0 h2) (hnc : nc ≤ (am_k r).1) (hns : ns ≤ (am_k r).2) (hi : am_at r pc = some (.invokevirtual idx)) (hinf : am_inf (am_o r) idx = some (0, mi, n, pl)) (hpop : am_pop n st = some (as, .ref b :: rest)) (hr2 : am_T[mi]? = some r2) (hd : ab_D0[b]? = some (.inr (c, ws))) (hb : Nat.blt b 1000000 = true) (ho : am_o r2 = c) (hk : am_k r2 = (0, 0)) (hrs : am_rsm rest = true) (kk : am_Wp al d S r Φ (pc + 3, lv, rv.toList ++ rest, h2, nc, ns)) : am_Wp al d S r Φ (pc, lv, st, h, nc, ns) := by
  obtain ⟨fs, f1, f2, -, -⟩ := ab_hok_obj hok hd hb
  refine am_Wp.go (am_Go.cV (fs := fs) hdo hi hinf hpop hr2 (by rw [ho]; exact f2) ?_ ?_ am_Go.rf) ?_
  · rw [hk, hrs]
    have e1 : Nat.ble (nc + 0) (am_k r).1 = true := by rw [Nat.ble_eq]; exact hnc
    have e2 : Nat.ble (ns + 0) (am_k r).2 = true := by rw [Nat.ble_eq]; exact hns
    simp only [e1, e2, Bool.and_self]
  · rw [hk]
    show Nat.beq h2.length (h.length + 0) = true
    rw [hok.1, hok2.1]
    rfl
  · rw [hk]
    exact kk
theorem am_Wp.ibr {S : am_S} {c : Jvm.ClassFile.Cond} {off : Int} {t : Nat} {x y : Int32} (hi : am_at r pc = some (.if_icmp c off)) (ht : am_tg pc off = some t) (hc : am_cmp c x y = true) (kk : am_Wp al d S r Φ (t, lv, st, h, nc, ns)) : am_Wp al d S r Φ (pc, lv, .int y :: .int x :: st, h, nc, ns) := by
  refine am_Wp.one hi (fun call => ?_) kk
  have e2 : am_s2 (.if_icmp c off) pc (.int y :: .int x :: st) = some (t, st) := by
    simp only [am_s2, ht, hc, cond_true]
    rfl
  show (match am_s2 (.if_icmp c off) pc (.int y :: .int x :: st) with
    | some x => some (x.1, lv, x.2, h, nc, ns)
    | none => _) = _
  rw [e2]
theorem am_Wp.zbr {S : am_S} {c : Jvm.ClassFile.Cond} {off : Int} {t : Nat} {x : Int32} (b : Bool) (hi : am_at r pc = some (.ifCond c off)) (ht : am_tg pc off = some t) (hc : am_cmp c x 0 = b) (kk : am_Wp al d S r Φ (bif b then t else pc + 3, lv, st, h, nc, ns)) : am_Wp al d S r Φ (pc, lv, .int x :: st, h, nc, ns) := by
  refine am_Wp.one hi (fun call => ?_) kk
  have e2 : am_s2 (.ifCond c off) pc (.int x :: st) = some (bif b then t else pc + 3, st) := by
    simp only [am_s2, ht, hc]
    rfl
  show (match am_s2 (.ifCond c off) pc (.int x :: st) with
    | some x => some (x.1, lv, x.2, h, nc, ns)
    | none => _) = _
  rw [e2]
end AML
theorem am_d0 : ab_D0[0]? = some (.inr (11, [.inr (.inr [8]), .inr (.inr [1]), .inr (.inr [18]), .inr (.inr [22]), .inr (.inr [24]), .inr (.inr [28]), .inr (.inr [35]), .inr (.inr [58])])) := rfl
set_option maxRecDepth 100000 in
theorem am_t0 {L : Nat} {xs : Nat → Int32} {Inv : am_H → Prop} {Φ : am_C → Prop} {h : am_H} {nc ns : Nat} {i : Int} {o5 o6 : Option Value} (hi : 0 ≤ i ∧ i + 7 ≤ (L : Int)) (hL : L ≤ 3584) (hok : ab_hok ab_D0 h) (hnc : nc ≤ (am_k am_rL).1) (hns : ns ≤ (am_k am_rL).2) (hp : ∃ r1 r2 h1 h2, am_Do false 19 119 [.ref 0, .long ((((xs ((i) + (1)).toNat).toInt64) <<< ((Int32.ofInt (32)).toInt64 &&& 63)) ||| (((xs ((i) + (2)).toNat).toInt64) &&& (4294967295))), .long ((((xs ((i) + (3)).toNat).toInt64) <<< ((Int32.ofInt (32)).toInt64 &&& 63)) ||| (((xs ((i) + (4)).toNat).toInt64) &&& (4294967295))), .long ((((xs ((i) + (5)).toNat).toInt64) <<< ((Int32.ofInt (32)).toInt64 &&& 63)) ||| (((xs ((i) + (6)).toNat).toInt64) &&& (4294967295)))] h (some (.int r1), h1) ∧ ab_hok ab_D0 h1 ∧ am_Do false 19 150 [.ref 64, .long ((((xs ((i) + (1)).toNat).toInt64) <<< ((Int32.ofInt (32)).toInt64 &&& 63)) ||| (((xs ((i) + (2)).toNat).toInt64) &&& (4294967295))), .long ((((xs ((i) + (3)).toNat).toInt64) <<< ((Int32.ofInt (32)).toInt64 &&& 63)) ||| (((xs ((i) + (4)).toNat).toInt64) &&& (4294967295))), .long ((((xs ((i) + (5)).toNat).toInt64) <<< ((Int32.ofInt (32)).toInt64 &&& 63)) ||| (((xs ((i) + (6)).toNat).toInt64) &&& (4294967295)))] h1 (some (.int r2), h2) ∧ ab_hok ab_D0 h2 ∧ Inv h2) (K : ∀ h2, Inv h2 → am_Wp false 19 (L, xs) am_rL Φ (23, am_lvL (i + 7) o5 o6, [], h2, nc, ns)) : am_Wp false 19 (L, xs) am_rL Φ (40, am_lvL i o5 o6, [.int (Int32.ofNat 0)], h, nc, ns) := by
  obtain ⟨r1, r2, h1, h2, d1, ok1, d2, ok2, hi2⟩ := hp
  refine am_Wp.bl 6 (y := (162, am_lvL i o5 o6, [.int (Int32.ofInt (i) + Int32.ofInt (1)), .ref 1000000, .ref 0], h, nc, ns)) (fun _ => rfl) ?_
  simp only [am_oa]
  refine am_Wp.sc (by omega) (by omega) hL rfl rfl ?_
  refine am_Wp.bl 7 (y := (172, am_lvL i o5 o6, [.int (Int32.ofInt (i) + Int32.ofInt (2)), .ref 1000000, .long (((xs ((i) + (1)).toNat).toInt64) <<< ((Int32.ofInt (32)).toInt64 &&& 63)), .ref 0], h, nc, ns)) (fun _ => rfl) ?_
  simp only [am_oa]
  refine am_Wp.sc (by omega) (by omega) hL rfl rfl ?_
  refine am_Wp.bl 8 (y := (184, am_lvL i o5 o6, [.int (Int32.ofInt (i) + Int32.ofInt (3)), .ref 1000000, .long ((((xs ((i) + (1)).toNat).toInt64) <<< ((Int32.ofInt (32)).toInt64 &&& 63)) ||| (((xs ((i) + (2)).toNat).toInt64) &&& (4294967295))), .ref 0], h, nc, ns)) (fun _ => rfl) ?_
  simp only [am_oa]
  refine am_Wp.sc (by omega) (by omega) hL rfl rfl ?_
  refine am_Wp.bl 7 (y := (194, am_lvL i o5 o6, [.int (Int32.ofInt (i) + Int32.ofInt (4)), .ref 1000000, .long (((xs ((i) + (3)).toNat).toInt64) <<< ((Int32.ofInt (32)).toInt64 &&& 63)), .long ((((xs ((i) + (1)).toNat).toInt64) <<< ((Int32.ofInt (32)).toInt64 &&& 63)) ||| (((xs ((i) + (2)).toNat).toInt64) &&& (4294967295))), .ref 0], h, nc, ns)) (fun _ => rfl) ?_
  simp only [am_oa]
  refine am_Wp.sc (by omega) (by omega) hL rfl rfl ?_
  refine am_Wp.bl 8 (y := (206, am_lvL i o5 o6, [.int (Int32.ofInt (i) + Int32.ofInt (5)), .ref 1000000, .long ((((xs ((i) + (3)).toNat).toInt64) <<< ((Int32.ofInt (32)).toInt64 &&& 63)) ||| (((xs ((i) + (4)).toNat).toInt64) &&& (4294967295))), .long ((((xs ((i) + (1)).toNat).toInt64) <<< ((Int32.ofInt (32)).toInt64 &&& 63)) ||| (((xs ((i) + (2)).toNat).toInt64) &&& (4294967295))), .ref 0], h, nc, ns)) (fun _ => rfl) ?_
  simp only [am_oa]
  refine am_Wp.sc (by omega) (by omega) hL rfl rfl ?_
  refine am_Wp.bl 7 (y := (217, am_lvL i o5 o6, [.int (Int32.ofInt (i) + Int32.ofInt (6)), .ref 1000000, .long (((xs ((i) + (5)).toNat).toInt64) <<< ((Int32.ofInt (32)).toInt64 &&& 63)), .long ((((xs ((i) + (3)).toNat).toInt64) <<< ((Int32.ofInt (32)).toInt64 &&& 63)) ||| (((xs ((i) + (4)).toNat).toInt64) &&& (4294967295))), .long ((((xs ((i) + (1)).toNat).toInt64) <<< ((Int32.ofInt (32)).toInt64 &&& 63)) ||| (((xs ((i) + (2)).toNat).toInt64) &&& (4294967295))), .ref 0], h, nc, ns)) (fun _ => rfl) ?_
  simp only [am_oa]
  refine am_Wp.sc (by omega) (by omega) hL rfl rfl ?_
  refine am_Wp.bl 4 (y := (224, am_lvL i o5 o6, [.long ((((xs ((i) + (5)).toNat).toInt64) <<< ((Int32.ofInt (32)).toInt64 &&& 63)) ||| (((xs ((i) + (6)).toNat).toInt64) &&& (4294967295))), .long ((((xs ((i) + (3)).toNat).toInt64) <<< ((Int32.ofInt (32)).toInt64 &&& 63)) ||| (((xs ((i) + (4)).toNat).toInt64) &&& (4294967295))), .long ((((xs ((i) + (1)).toNat).toInt64) <<< ((Int32.ofInt (32)).toInt64 &&& 63)) ||| (((xs ((i) + (2)).toNat).toInt64) &&& (4294967295))), .ref 0], h, nc, ns)) (fun _ => rfl) ?_
  refine am_Wp.callN d1 hok ok1 hnc hns rfl rfl rfl rfl am_d0 rfl rfl rfl rfl ?_
  refine am_Wp.bl 6 (y := (234, am_lvL i o5 o6, [.int (Int32.ofInt (i) + Int32.ofInt (1)), .ref 1000000, .ref 64], h1, nc, ns)) (fun _ => rfl) ?_
  simp only [am_oa]
  refine am_Wp.sc (by omega) (by omega) hL rfl rfl ?_
  refine am_Wp.bl 7 (y := (244, am_lvL i o5 o6, [.int (Int32.ofInt (i) + Int32.ofInt (2)), .ref 1000000, .long (((xs ((i) + (1)).toNat).toInt64) <<< ((Int32.ofInt (32)).toInt64 &&& 63)), .ref 64], h1, nc, ns)) (fun _ => rfl) ?_
  simp only [am_oa]
  refine am_Wp.sc (by omega) (by omega) hL rfl rfl ?_
  refine am_Wp.bl 8 (y := (256, am_lvL i o5 o6, [.int (Int32.ofInt (i) + Int32.ofInt (3)), .ref 1000000, .long ((((xs ((i) + (1)).toNat).toInt64) <<< ((Int32.ofInt (32)).toInt64 &&& 63)) ||| (((xs ((i) + (2)).toNat).toInt64) &&& (4294967295))), .ref 64], h1, nc, ns)) (fun _ => rfl) ?_
  simp only [am_oa]
  refine am_Wp.sc (by omega) (by omega) hL rfl rfl ?_
  refine am_Wp.bl 7 (y := (266, am_lvL i o5 o6, [.int (Int32.ofInt (i) + Int32.ofInt (4)), .ref 1000000, .long (((xs ((i) + (3)).toNat).toInt64) <<< ((Int32.ofInt (32)).toInt64 &&& 63)), .long ((((xs ((i) + (1)).toNat).toInt64) <<< ((Int32.ofInt (32)).toInt64 &&& 63)) ||| (((xs ((i) + (2)).toNat).toInt64) &&& (4294967295))), .ref 64], h1, nc, ns)) (fun _ => rfl) ?_
  simp only [am_oa]
  refine am_Wp.sc (by omega) (by omega) hL rfl rfl ?_
  refine am_Wp.bl 8 (y := (278, am_lvL i o5 o6, [.int (Int32.ofInt (i) + Int32.ofInt (5)), .ref 1000000, .long ((((xs ((i) + (3)).toNat).toInt64) <<< ((Int32.ofInt (32)).toInt64 &&& 63)) ||| (((xs ((i) + (4)).toNat).toInt64) &&& (4294967295))), .long ((((xs ((i) + (1)).toNat).toInt64) <<< ((Int32.ofInt (32)).toInt64 &&& 63)) ||| (((xs ((i) + (2)).toNat).toInt64) &&& (4294967295))), .ref 64], h1, nc, ns)) (fun _ => rfl) ?_
  simp only [am_oa]
  refine am_Wp.sc (by omega) (by omega) hL rfl rfl ?_
  refine am_Wp.bl 7 (y := (289, am_lvL i o5 o6, [.int (Int32.ofInt (i) + Int32.ofInt (6)), .ref 1000000, .long (((xs ((i) + (5)).toNat).toInt64) <<< ((Int32.ofInt (32)).toInt64 &&& 63)), .long ((((xs ((i) + (3)).toNat).toInt64) <<< ((Int32.ofInt (32)).toInt64 &&& 63)) ||| (((xs ((i) + (4)).toNat).toInt64) &&& (4294967295))), .long ((((xs ((i) + (1)).toNat).toInt64) <<< ((Int32.ofInt (32)).toInt64 &&& 63)) ||| (((xs ((i) + (2)).toNat).toInt64) &&& (4294967295))), .ref 64], h1, nc, ns)) (fun _ => rfl) ?_
  simp only [am_oa]
  refine am_Wp.sc (by omega) (by omega) hL rfl rfl ?_
  refine am_Wp.bl 4 (y := (296, am_lvL i o5 o6, [.long ((((xs ((i) + (5)).toNat).toInt64) <<< ((Int32.ofInt (32)).toInt64 &&& 63)) ||| (((xs ((i) + (6)).toNat).toInt64) &&& (4294967295))), .long ((((xs ((i) + (3)).toNat).toInt64) <<< ((Int32.ofInt (32)).toInt64 &&& 63)) ||| (((xs ((i) + (4)).toNat).toInt64) &&& (4294967295))), .long ((((xs ((i) + (1)).toNat).toInt64) <<< ((Int32.ofInt (32)).toInt64 &&& 63)) ||| (((xs ((i) + (2)).toNat).toInt64) &&& (4294967295))), .ref 64], h1, nc, ns)) (fun _ => rfl) ?_
  refine am_Wp.callN d2 ok1 ok2 hnc hns rfl rfl rfl rfl am_d64 rfl rfl rfl rfl ?_
  refine am_Wp.bl 4 (y := (23, [some (.ref 1000000), some (.ref 0), some (.ref 64), some (.ref 100), some (.int (Int32.ofInt i + Int32.ofInt 7)), o5, o6], [], h2, nc, ns)) (fun _ => rfl) ?_
  simp only [am_oa]
  exact K h2 hi2
set_option maxRecDepth 100000 in
theorem am_t1 {L : Nat} {xs : Nat → Int32} {Inv : am_H → Prop} {Φ : am_C → Prop} {h : am_H} {nc ns : Nat} {i : Int} {o5 o6 : Option Value} (hi : 0 ≤ i ∧ i + 7 ≤ (L : Int)) (hL : L ≤ 3584) (hok : ab_hok ab_D0 h) (hnc : nc ≤ (am_k am_rL).1) (hns : ns ≤ (am_k am_rL).2) (hp : ∃ r1 r2 h1 h2, am_Do false 19 120 [.ref 0] h (some (.int r1), h1) ∧ ab_hok ab_D0 h1 ∧ am_Do false 19 151 [.ref 64] h1 (some (.int r2), h2) ∧ ab_hok ab_D0 h2 ∧ Inv h2) (K : ∀ h2, Inv h2 → am_Wp false 19 (L, xs) am_rL Φ (23, am_lvL (i + 7) o5 o6, [], h2, nc, ns)) : am_Wp false 19 (L, xs) am_rL Φ (40, am_lvL i o5 o6, [.int (Int32.ofNat 1)], h, nc, ns) := by
  obtain ⟨r1, r2, h1, h2, d1, ok1, d2, ok2, hi2⟩ := hp
  refine am_Wp.bl 2 (y := (304, am_lvL i o5 o6, [.ref 0], h, nc, ns)) (fun _ => rfl) ?_
  refine am_Wp.callN d1 hok ok1 hnc hns rfl rfl rfl rfl am_d0 rfl rfl rfl rfl ?_
  refine am_Wp.bl 2 (y := (309, am_lvL i o5 o6, [.ref 64], h1, nc, ns)) (fun _ => rfl) ?_
  refine am_Wp.callN d2 ok1 ok2 hnc hns rfl rfl rfl rfl am_d64 rfl rfl rfl rfl ?_
  refine am_Wp.bl 4 (y := (23, [some (.ref 1000000), some (.ref 0), some (.ref 64), some (.ref 100), some (.int (Int32.ofInt i + Int32.ofInt 7)), o5, o6], [], h2, nc, ns)) (fun _ => rfl) ?_
  simp only [am_oa]
  exact K h2 hi2
set_option maxRecDepth 100000 in
theorem am_t2 {L : Nat} {xs : Nat → Int32} {Inv : am_H → Prop} {Φ : am_C → Prop} {h : am_H} {nc ns : Nat} {i : Int} {o5 o6 : Option Value} (hi : 0 ≤ i ∧ i + 7 ≤ (L : Int)) (hL : L ≤ 3584) (hok : ab_hok ab_D0 h) (hnc : nc ≤ (am_k am_rL).1) (hns : ns ≤ (am_k am_rL).2) (hp : ∃ r1 r2 h1 h2, am_Do false 19 122 [.ref 0, .int (xs ((i) + (1)).toNat)] h (some (.int r1), h1) ∧ ab_hok ab_D0 h1 ∧ am_Do false 19 167 [.ref 64, .int (xs ((i) + (1)).toNat)] h1 (some (.int r2), h2) ∧ ab_hok ab_D0 h2 ∧ Inv h2) (K : ∀ h2, Inv h2 → am_Wp false 19 (L, xs) am_rL Φ (23, am_lvL (i + 7) o5 o6, [], h2, nc, ns)) : am_Wp false 19 (L, xs) am_rL Φ (40, am_lvL i o5 o6, [.int (Int32.ofNat 2)], h, nc, ns) := by
  obtain ⟨r1, r2, h1, h2, d1, ok1, d2, ok2, hi2⟩ := hp
  refine am_Wp.bl 6 (y := (322, am_lvL i o5 o6, [.int (Int32.ofInt (i) + Int32.ofInt (1)), .ref 1000000, .ref 0], h, nc, ns)) (fun _ => rfl) ?_
  simp only [am_oa]
  refine am_Wp.sc (by omega) (by omega) hL rfl rfl ?_
  refine am_Wp.callN d1 hok ok1 hnc hns rfl rfl rfl rfl am_d0 rfl rfl rfl rfl ?_
  refine am_Wp.bl 6 (y := (333, am_lvL i o5 o6, [.int (Int32.ofInt (i) + Int32.ofInt (1)), .ref 1000000, .ref 64], h1, nc, ns)) (fun _ => rfl) ?_
  simp only [am_oa]
  refine am_Wp.sc (by omega) (by omega) hL rfl rfl ?_
  refine am_Wp.callN d2 ok1 ok2 hnc hns rfl rfl rfl rfl am_d64 rfl rfl rfl rfl ?_
  refine am_Wp.bl 4 (y := (23, [some (.ref 1000000), some (.ref 0), some (.ref 64), some (.ref 100), some (.int (Int32.ofInt i + Int32.ofInt 7)), o5, o6], [], h2, nc, ns)) (fun _ => rfl) ?_
  simp only [am_oa]
  exact K h2 hi2
set_option maxRecDepth 100000 in
theorem am_t3 {L : Nat} {xs : Nat → Int32} {Inv : am_H → Prop} {Φ : am_C → Prop} {h : am_H} {nc ns : Nat} {i : Int} {o5 o6 : Option Value} (hi : 0 ≤ i ∧ i + 7 ≤ (L : Int)) (hL : L ≤ 3584) (hok : ab_hok ab_D0 h) (hnc : nc ≤ (am_k am_rL).1) (hns : ns ≤ (am_k am_rL).2) (hp : ∃ r1 r2 h1 h2, am_Do false 19 123 [.ref 0] h (some (.int r1), h1) ∧ ab_hok ab_D0 h1 ∧ am_Do false 19 169 [.ref 64] h1 (some (.int r2), h2) ∧ ab_hok ab_D0 h2 ∧ Inv h2) (K : ∀ h2, Inv h2 → am_Wp false 19 (L, xs) am_rL Φ (23, am_lvL (i + 7) o5 o6, [], h2, nc, ns)) : am_Wp false 19 (L, xs) am_rL Φ (40, am_lvL i o5 o6, [.int (Int32.ofNat 3)], h, nc, ns) := by
  obtain ⟨r1, r2, h1, h2, d1, ok1, d2, ok2, hi2⟩ := hp
  refine am_Wp.bl 2 (y := (342, am_lvL i o5 o6, [.ref 0], h, nc, ns)) (fun _ => rfl) ?_
  refine am_Wp.callN d1 hok ok1 hnc hns rfl rfl rfl rfl am_d0 rfl rfl rfl rfl ?_
  refine am_Wp.bl 2 (y := (347, am_lvL i o5 o6, [.ref 64], h1, nc, ns)) (fun _ => rfl) ?_
  refine am_Wp.callN d2 ok1 ok2 hnc hns rfl rfl rfl rfl am_d64 rfl rfl rfl rfl ?_
  refine am_Wp.bl 4 (y := (23, [some (.ref 1000000), some (.ref 0), some (.ref 64), some (.ref 100), some (.int (Int32.ofInt i + Int32.ofInt 7)), o5, o6], [], h2, nc, ns)) (fun _ => rfl) ?_
  simp only [am_oa]
  exact K h2 hi2
set_option maxRecDepth 100000 in
theorem am_t4 {L : Nat} {xs : Nat → Int32} {Inv : am_H → Prop} {Φ : am_C → Prop} {h : am_H} {nc ns : Nat} {i : Int} {o5 o6 : Option Value} (hi : 0 ≤ i ∧ i + 7 ≤ (L : Int)) (hL : L ≤ 3584) (hok : ab_hok ab_D0 h) (hnc : nc ≤ (am_k am_rL).1) (hns : ns ≤ (am_k am_rL).2) (hp : ∃ r1 r2 h1 h2, am_Do false 19 124 [.ref 0] h (some (.int r1), h1) ∧ ab_hok ab_D0 h1 ∧ am_Do false 19 171 [.ref 64] h1 (some (.int r2), h2) ∧ ab_hok ab_D0 h2 ∧ Inv h2) (K : ∀ h2, Inv h2 → am_Wp false 19 (L, xs) am_rL Φ (23, am_lvL (i + 7) o5 o6, [], h2, nc, ns)) : am_Wp false 19 (L, xs) am_rL Φ (40, am_lvL i o5 o6, [.int (Int32.ofNat 4)], h, nc, ns) := by
  obtain ⟨r1, r2, h1, h2, d1, ok1, d2, ok2, hi2⟩ := hp
  refine am_Wp.bl 2 (y := (355, am_lvL i o5 o6, [.ref 0], h, nc, ns)) (fun _ => rfl) ?_
  refine am_Wp.callN d1 hok ok1 hnc hns rfl rfl rfl rfl am_d0 rfl rfl rfl rfl ?_
  refine am_Wp.bl 2 (y := (360, am_lvL i o5 o6, [.ref 64], h1, nc, ns)) (fun _ => rfl) ?_
  refine am_Wp.callN d2 ok1 ok2 hnc hns rfl rfl rfl rfl am_d64 rfl rfl rfl rfl ?_
  refine am_Wp.bl 4 (y := (23, [some (.ref 1000000), some (.ref 0), some (.ref 64), some (.ref 100), some (.int (Int32.ofInt i + Int32.ofInt 7)), o5, o6], [], h2, nc, ns)) (fun _ => rfl) ?_
  simp only [am_oa]
  exact K h2 hi2
set_option maxRecDepth 100000 in
theorem am_t5 {L : Nat} {xs : Nat → Int32} {Inv : am_H → Prop} {Φ : am_C → Prop} {h : am_H} {nc ns : Nat} {i : Int} {o5 o6 : Option Value} (hi : 0 ≤ i ∧ i + 7 ≤ (L : Int)) (hL : L ≤ 3584) (hok : ab_hok ab_D0 h) (hnc : nc ≤ (am_k am_rL).1) (hns : ns ≤ (am_k am_rL).2) (hp : ∃ r1 r2 h1 h2, am_Do false 19 125 [.ref 0, .int (xs ((i) + (1)).toNat)] h (some (.int r1), h1) ∧ ab_hok ab_D0 h1 ∧ am_Do false 19 173 [.ref 64, .int (xs ((i) + (1)).toNat)] h1 (some (.int r2), h2) ∧ ab_hok ab_D0 h2 ∧ Inv h2) (K : ∀ h2, Inv h2 → am_Wp false 19 (L, xs) am_rL Φ (23, am_lvL (i + 7) o5 o6, [], h2, nc, ns)) : am_Wp false 19 (L, xs) am_rL Φ (40, am_lvL i o5 o6, [.int (Int32.ofNat 5)], h, nc, ns) := by
  obtain ⟨r1, r2, h1, h2, d1, ok1, d2, ok2, hi2⟩ := hp
  refine am_Wp.bl 6 (y := (373, am_lvL i o5 o6, [.int (Int32.ofInt (i) + Int32.ofInt (1)), .ref 1000000, .ref 0], h, nc, ns)) (fun _ => rfl) ?_
  simp only [am_oa]
  refine am_Wp.sc (by omega) (by omega) hL rfl rfl ?_
  refine am_Wp.callN d1 hok ok1 hnc hns rfl rfl rfl rfl am_d0 rfl rfl rfl rfl ?_
  refine am_Wp.bl 6 (y := (384, am_lvL i o5 o6, [.int (Int32.ofInt (i) + Int32.ofInt (1)), .ref 1000000, .ref 64], h1, nc, ns)) (fun _ => rfl) ?_
  simp only [am_oa]
  refine am_Wp.sc (by omega) (by omega) hL rfl rfl ?_
  refine am_Wp.callN d2 ok1 ok2 hnc hns rfl rfl rfl rfl am_d64 rfl rfl rfl rfl ?_
  refine am_Wp.bl 4 (y := (23, [some (.ref 1000000), some (.ref 0), some (.ref 64), some (.ref 100), some (.int (Int32.ofInt i + Int32.ofInt 7)), o5, o6], [], h2, nc, ns)) (fun _ => rfl) ?_
  simp only [am_oa]
  exact K h2 hi2
set_option maxRecDepth 100000 in
theorem am_t6 {L : Nat} {xs : Nat → Int32} {Inv : am_H → Prop} {Φ : am_C → Prop} {h : am_H} {nc ns : Nat} {i : Int} {o5 o6 : Option Value} (hi : 0 ≤ i ∧ i + 7 ≤ (L : Int)) (hL : L ≤ 3584) (hok : ab_hok ab_D0 h) (hnc : nc ≤ (am_k am_rL).1) (hns : ns ≤ (am_k am_rL).2) (hp : ∃ r1 r2 h1 h2, am_Do false 19 127 [.ref 0, .int (xs ((i) + (1)).toNat), .int (xs ((i) + (2)).toNat), .int (xs ((i) + (3)).toNat)] h (some (.int r1), h1) ∧ ab_hok ab_D0 h1 ∧ am_Do false 19 174 [.ref 64, .int (xs ((i) + (1)).toNat), .int (xs ((i) + (2)).toNat), .int (xs ((i) + (3)).toNat)] h1 (some (.int r2), h2) ∧ ab_hok ab_D0 h2 ∧ Inv h2) (K : ∀ h2, Inv h2 → am_Wp false 19 (L, xs) am_rL Φ (23, am_lvL (i + 7) o5 o6, [], h2, nc, ns)) : am_Wp false 19 (L, xs) am_rL Φ (40, am_lvL i o5 o6, [.int (Int32.ofNat 6)], h, nc, ns) := by
  obtain ⟨r1, r2, h1, h2, d1, ok1, d2, ok2, hi2⟩ := hp
  refine am_Wp.bl 6 (y := (398, am_lvL i o5 o6, [.int (Int32.ofInt (i) + Int32.ofInt (1)), .ref 1000000, .ref 0], h, nc, ns)) (fun _ => rfl) ?_
  simp only [am_oa]
  refine am_Wp.sc (by omega) (by omega) hL rfl rfl ?_
  refine am_Wp.bl 4 (y := (404, am_lvL i o5 o6, [.int (Int32.ofInt (i) + Int32.ofInt (2)), .ref 1000000, .int (xs ((i) + (1)).toNat), .ref 0], h, nc, ns)) (fun _ => rfl) ?_
  simp only [am_oa]
  refine am_Wp.sc (by omega) (by omega) hL rfl rfl ?_
  refine am_Wp.bl 4 (y := (410, am_lvL i o5 o6, [.int (Int32.ofInt (i) + Int32.ofInt (3)), .ref 1000000, .int (xs ((i) + (2)).toNat), .int (xs ((i) + (1)).toNat), .ref 0], h, nc, ns)) (fun _ => rfl) ?_
  simp only [am_oa]
  refine am_Wp.sc (by omega) (by omega) hL rfl rfl ?_
  refine am_Wp.callN d1 hok ok1 hnc hns rfl rfl rfl rfl am_d0 rfl rfl rfl rfl ?_
  refine am_Wp.bl 6 (y := (421, am_lvL i o5 o6, [.int (Int32.ofInt (i) + Int32.ofInt (1)), .ref 1000000, .ref 64], h1, nc, ns)) (fun _ => rfl) ?_
  simp only [am_oa]
  refine am_Wp.sc (by omega) (by omega) hL rfl rfl ?_
  refine am_Wp.bl 4 (y := (427, am_lvL i o5 o6, [.int (Int32.ofInt (i) + Int32.ofInt (2)), .ref 1000000, .int (xs ((i) + (1)).toNat), .ref 64], h1, nc, ns)) (fun _ => rfl) ?_
  simp only [am_oa]
  refine am_Wp.sc (by omega) (by omega) hL rfl rfl ?_
  refine am_Wp.bl 4 (y := (433, am_lvL i o5 o6, [.int (Int32.ofInt (i) + Int32.ofInt (3)), .ref 1000000, .int (xs ((i) + (2)).toNat), .int (xs ((i) + (1)).toNat), .ref 64], h1, nc, ns)) (fun _ => rfl) ?_
  simp only [am_oa]
  refine am_Wp.sc (by omega) (by omega) hL rfl rfl ?_
  refine am_Wp.callN d2 ok1 ok2 hnc hns rfl rfl rfl rfl am_d64 rfl rfl rfl rfl ?_
  refine am_Wp.bl 4 (y := (23, [some (.ref 1000000), some (.ref 0), some (.ref 64), some (.ref 100), some (.int (Int32.ofInt i + Int32.ofInt 7)), o5, o6], [], h2, nc, ns)) (fun _ => rfl) ?_
  simp only [am_oa]
  exact K h2 hi2
set_option maxRecDepth 100000 in
theorem am_t7 {L : Nat} {xs : Nat → Int32} {Inv : am_H → Prop} {Φ : am_C → Prop} {h : am_H} {nc ns : Nat} {i : Int} {o5 o6 : Option Value} (hi : 0 ≤ i ∧ i + 7 ≤ (L : Int)) (hL : L ≤ 3584) (hok : ab_hok ab_D0 h) (hnc : nc ≤ (am_k am_rL).1) (hns : ns ≤ (am_k am_rL).2) (hp : ∃ r1 r2 h1 h2, am_Do false 19 129 [.ref 0, .int (xs ((i) + (1)).toNat)] h (some (.int r1), h1) ∧ ab_hok ab_D0 h1 ∧ am_Do false 19 176 [.ref 64, .int (xs ((i) + (1)).toNat)] h1 (some (.int r2), h2) ∧ ab_hok ab_D0 h2 ∧ Inv h2) (K : ∀ h2, Inv h2 → am_Wp false 19 (L, xs) am_rL Φ (23, am_lvL (i + 7) o5 o6, [], h2, nc, ns)) : am_Wp false 19 (L, xs) am_rL Φ (40, am_lvL i o5 o6, [.int (Int32.ofNat 7)], h, nc, ns) := by
  obtain ⟨r1, r2, h1, h2, d1, ok1, d2, ok2, hi2⟩ := hp
  refine am_Wp.bl 6 (y := (447, am_lvL i o5 o6, [.int (Int32.ofInt (i) + Int32.ofInt (1)), .ref 1000000, .ref 0], h, nc, ns)) (fun _ => rfl) ?_
  simp only [am_oa]
  refine am_Wp.sc (by omega) (by omega) hL rfl rfl ?_
  refine am_Wp.callN d1 hok ok1 hnc hns rfl rfl rfl rfl am_d0 rfl rfl rfl rfl ?_
  refine am_Wp.bl 6 (y := (458, am_lvL i o5 o6, [.int (Int32.ofInt (i) + Int32.ofInt (1)), .ref 1000000, .ref 64], h1, nc, ns)) (fun _ => rfl) ?_
  simp only [am_oa]
  refine am_Wp.sc (by omega) (by omega) hL rfl rfl ?_
  refine am_Wp.callN d2 ok1 ok2 hnc hns rfl rfl rfl rfl am_d64 rfl rfl rfl rfl ?_
  refine am_Wp.bl 4 (y := (23, [some (.ref 1000000), some (.ref 0), some (.ref 64), some (.ref 100), some (.int (Int32.ofInt i + Int32.ofInt 7)), o5, o6], [], h2, nc, ns)) (fun _ => rfl) ?_
  simp only [am_oa]
  exact K h2 hi2
set_option maxRecDepth 100000 in
theorem am_t8 {L : Nat} {xs : Nat → Int32} {Inv : am_H → Prop} {Φ : am_C → Prop} {h : am_H} {nc ns : Nat} {i : Int} {o5 o6 : Option Value} (hi : 0 ≤ i ∧ i + 7 ≤ (L : Int)) (hL : L ≤ 3584) (hok : ab_hok ab_D0 h) (hnc : nc ≤ (am_k am_rL).1) (hns : ns ≤ (am_k am_rL).2) (hp : ∃ r1 r2 h1 h2, am_Do false 19 130 [.ref 0, .int (xs ((i) + (1)).toNat), .int (xs ((i) + (2)).toNat), .int (xs ((i) + (3)).toNat)] h (some (.int r1), h1) ∧ ab_hok ab_D0 h1 ∧ am_Do false 19 178 [.ref 64, .int (xs ((i) + (1)).toNat), .int (xs ((i) + (2)).toNat), .int (xs ((i) + (3)).toNat)] h1 (some (.int r2), h2) ∧ ab_hok ab_D0 h2 ∧ Inv h2) (K : ∀ h2, Inv h2 → am_Wp false 19 (L, xs) am_rL Φ (23, am_lvL (i + 7) o5 o6, [], h2, nc, ns)) : am_Wp false 19 (L, xs) am_rL Φ (40, am_lvL i o5 o6, [.int (Int32.ofNat 8)], h, nc, ns) := by
  obtain ⟨r1, r2, h1, h2, d1, ok1, d2, ok2, hi2⟩ := hp
  refine am_Wp.bl 6 (y := (472, am_lvL i o5 o6, [.int (Int32.ofInt (i) + Int32.ofInt (1)), .ref 1000000, .ref 0], h, nc, ns)) (fun _ => rfl) ?_
  simp only [am_oa]
  refine am_Wp.sc (by omega) (by omega) hL rfl rfl ?_
  refine am_Wp.bl 4 (y := (478, am_lvL i o5 o6, [.int (Int32.ofInt (i) + Int32.ofInt (2)), .ref 1000000, .int (xs ((i) + (1)).toNat), .ref 0], h, nc, ns)) (fun _ => rfl) ?_
  simp only [am_oa]
  refine am_Wp.sc (by omega) (by omega) hL rfl rfl ?_
  refine am_Wp.bl 4 (y := (484, am_lvL i o5 o6, [.int (Int32.ofInt (i) + Int32.ofInt (3)), .ref 1000000, .int (xs ((i) + (2)).toNat), .int (xs ((i) + (1)).toNat), .ref 0], h, nc, ns)) (fun _ => rfl) ?_
  simp only [am_oa]
  refine am_Wp.sc (by omega) (by omega) hL rfl rfl ?_
  refine am_Wp.callN d1 hok ok1 hnc hns rfl rfl rfl rfl am_d0 rfl rfl rfl rfl ?_
  refine am_Wp.bl 6 (y := (495, am_lvL i o5 o6, [.int (Int32.ofInt (i) + Int32.ofInt (1)), .ref 1000000, .ref 64], h1, nc, ns)) (fun _ => rfl) ?_
  simp only [am_oa]
  refine am_Wp.sc (by omega) (by omega) hL rfl rfl ?_
  refine am_Wp.bl 4 (y := (501, am_lvL i o5 o6, [.int (Int32.ofInt (i) + Int32.ofInt (2)), .ref 1000000, .int (xs ((i) + (1)).toNat), .ref 64], h1, nc, ns)) (fun _ => rfl) ?_
  simp only [am_oa]
  refine am_Wp.sc (by omega) (by omega) hL rfl rfl ?_
  refine am_Wp.bl 4 (y := (507, am_lvL i o5 o6, [.int (Int32.ofInt (i) + Int32.ofInt (3)), .ref 1000000, .int (xs ((i) + (2)).toNat), .int (xs ((i) + (1)).toNat), .ref 64], h1, nc, ns)) (fun _ => rfl) ?_
  simp only [am_oa]
  refine am_Wp.sc (by omega) (by omega) hL rfl rfl ?_
  refine am_Wp.callN d2 ok1 ok2 hnc hns rfl rfl rfl rfl am_d64 rfl rfl rfl rfl ?_
  refine am_Wp.bl 4 (y := (23, [some (.ref 1000000), some (.ref 0), some (.ref 64), some (.ref 100), some (.int (Int32.ofInt i + Int32.ofInt 7)), o5, o6], [], h2, nc, ns)) (fun _ => rfl) ?_
  simp only [am_oa]
  exact K h2 hi2
set_option maxRecDepth 100000 in
theorem am_t10 {L : Nat} {xs : Nat → Int32} {Inv : am_H → Prop} {Φ : am_C → Prop} {h : am_H} {nc ns : Nat} {i : Int} {o5 o6 : Option Value} (hi : 0 ≤ i ∧ i + 7 ≤ (L : Int)) (hL : L ≤ 3584) (hok : ab_hok ab_D0 h) (hnc : nc ≤ (am_k am_rL).1) (hns : ns ≤ (am_k am_rL).2) (hp : ∃ r1 r2 h1 h2, am_Do false 19 131 [.ref 0, .int (xs ((i) + (1)).toNat), .int (xs ((i) + (2)).toNat), .int (xs ((i) + (3)).toNat), .int (xs ((i) + (4)).toNat)] h (some (.int r1), h1) ∧ ab_hok ab_D0 h1 ∧ am_Do false 19 181 [.ref 64, .int (xs ((i) + (1)).toNat), .int (xs ((i) + (2)).toNat), .int (xs ((i) + (3)).toNat), .int (xs ((i) + (4)).toNat)] h1 (some (.int r2), h2) ∧ ab_hok ab_D0 h2 ∧ Inv h2) (K : ∀ h2, Inv h2 → am_Wp false 19 (L, xs) am_rL Φ (23, am_lvL (i + 7) o5 o6, [], h2, nc, ns)) : am_Wp false 19 (L, xs) am_rL Φ (40, am_lvL i o5 o6, [.int (Int32.ofNat 10)], h, nc, ns) := by
  obtain ⟨r1, r2, h1, h2, d1, ok1, d2, ok2, hi2⟩ := hp
  refine am_Wp.bl 6 (y := (561, am_lvL i o5 o6, [.int (Int32.ofInt (i) + Int32.ofInt (1)), .ref 1000000, .ref 0], h, nc, ns)) (fun _ => rfl) ?_
  simp only [am_oa]
  refine am_Wp.sc (by omega) (by omega) hL rfl rfl ?_
  refine am_Wp.bl 4 (y := (567, am_lvL i o5 o6, [.int (Int32.ofInt (i) + Int32.ofInt (2)), .ref 1000000, .int (xs ((i) + (1)).toNat), .ref 0], h, nc, ns)) (fun _ => rfl) ?_
  simp only [am_oa]
  refine am_Wp.sc (by omega) (by omega) hL rfl rfl ?_
  refine am_Wp.bl 4 (y := (573, am_lvL i o5 o6, [.int (Int32.ofInt (i) + Int32.ofInt (3)), .ref 1000000, .int (xs ((i) + (2)).toNat), .int (xs ((i) + (1)).toNat), .ref 0], h, nc, ns)) (fun _ => rfl) ?_
  simp only [am_oa]
  refine am_Wp.sc (by omega) (by omega) hL rfl rfl ?_
  refine am_Wp.bl 4 (y := (579, am_lvL i o5 o6, [.int (Int32.ofInt (i) + Int32.ofInt (4)), .ref 1000000, .int (xs ((i) + (3)).toNat), .int (xs ((i) + (2)).toNat), .int (xs ((i) + (1)).toNat), .ref 0], h, nc, ns)) (fun _ => rfl) ?_
  simp only [am_oa]
  refine am_Wp.sc (by omega) (by omega) hL rfl rfl ?_
  refine am_Wp.callN d1 hok ok1 hnc hns rfl rfl rfl rfl am_d0 rfl rfl rfl rfl ?_
  refine am_Wp.bl 6 (y := (590, am_lvL i o5 o6, [.int (Int32.ofInt (i) + Int32.ofInt (1)), .ref 1000000, .ref 64], h1, nc, ns)) (fun _ => rfl) ?_
  simp only [am_oa]
  refine am_Wp.sc (by omega) (by omega) hL rfl rfl ?_
  refine am_Wp.bl 4 (y := (596, am_lvL i o5 o6, [.int (Int32.ofInt (i) + Int32.ofInt (2)), .ref 1000000, .int (xs ((i) + (1)).toNat), .ref 64], h1, nc, ns)) (fun _ => rfl) ?_
  simp only [am_oa]
  refine am_Wp.sc (by omega) (by omega) hL rfl rfl ?_
  refine am_Wp.bl 4 (y := (602, am_lvL i o5 o6, [.int (Int32.ofInt (i) + Int32.ofInt (3)), .ref 1000000, .int (xs ((i) + (2)).toNat), .int (xs ((i) + (1)).toNat), .ref 64], h1, nc, ns)) (fun _ => rfl) ?_
  simp only [am_oa]
  refine am_Wp.sc (by omega) (by omega) hL rfl rfl ?_
  refine am_Wp.bl 4 (y := (608, am_lvL i o5 o6, [.int (Int32.ofInt (i) + Int32.ofInt (4)), .ref 1000000, .int (xs ((i) + (3)).toNat), .int (xs ((i) + (2)).toNat), .int (xs ((i) + (1)).toNat), .ref 64], h1, nc, ns)) (fun _ => rfl) ?_
  simp only [am_oa]
  refine am_Wp.sc (by omega) (by omega) hL rfl rfl ?_
  refine am_Wp.callN d2 ok1 ok2 hnc hns rfl rfl rfl rfl am_d64 rfl rfl rfl rfl ?_
  refine am_Wp.bl 4 (y := (23, [some (.ref 1000000), some (.ref 0), some (.ref 64), some (.ref 100), some (.int (Int32.ofInt i + Int32.ofInt 7)), o5, o6], [], h2, nc, ns)) (fun _ => rfl) ?_
  simp only [am_oa]
  exact K h2 hi2
set_option maxRecDepth 100000 in
theorem am_t11 {L : Nat} {xs : Nat → Int32} {Inv : am_H → Prop} {Φ : am_C → Prop} {h : am_H} {nc ns : Nat} {i : Int} {o5 o6 : Option Value} (hi : 0 ≤ i ∧ i + 7 ≤ (L : Int)) (hL : L ≤ 3584) (hok : ab_hok ab_D0 h) (hnc : nc ≤ (am_k am_rL).1) (hns : ns ≤ (am_k am_rL).2) (hp : ∃ r1 r2 h1 h2, am_Do false 19 134 [.ref 0, .int (xs ((i) + (1)).toNat), .int (xs ((i) + (2)).toNat), .int (xs ((i) + (3)).toNat)] h (some (.int r1), h1) ∧ ab_hok ab_D0 h1 ∧ am_Do false 19 193 [.ref 64, .int (xs ((i) + (1)).toNat), .int (xs ((i) + (2)).toNat), .int (xs ((i) + (3)).toNat)] h1 (some (.int r2), h2) ∧ ab_hok ab_D0 h2 ∧ Inv h2) (K : ∀ h2, Inv h2 → am_Wp false 19 (L, xs) am_rL Φ (23, am_lvL (i + 7) o5 o6, [], h2, nc, ns)) : am_Wp false 19 (L, xs) am_rL Φ (40, am_lvL i o5 o6, [.int (Int32.ofNat 11)], h, nc, ns) := by
  obtain ⟨r1, r2, h1, h2, d1, ok1, d2, ok2, hi2⟩ := hp
  refine am_Wp.bl 6 (y := (622, am_lvL i o5 o6, [.int (Int32.ofInt (i) + Int32.ofInt (1)), .ref 1000000, .ref 0], h, nc, ns)) (fun _ => rfl) ?_
  simp only [am_oa]
  refine am_Wp.sc (by omega) (by omega) hL rfl rfl ?_
  refine am_Wp.bl 4 (y := (628, am_lvL i o5 o6, [.int (Int32.ofInt (i) + Int32.ofInt (2)), .ref 1000000, .int (xs ((i) + (1)).toNat), .ref 0], h, nc, ns)) (fun _ => rfl) ?_
  simp only [am_oa]
  refine am_Wp.sc (by omega) (by omega) hL rfl rfl ?_
  refine am_Wp.bl 4 (y := (634, am_lvL i o5 o6, [.int (Int32.ofInt (i) + Int32.ofInt (3)), .ref 1000000, .int (xs ((i) + (2)).toNat), .int (xs ((i) + (1)).toNat), .ref 0], h, nc, ns)) (fun _ => rfl) ?_
  simp only [am_oa]
  refine am_Wp.sc (by omega) (by omega) hL rfl rfl ?_
  refine am_Wp.callN d1 hok ok1 hnc hns rfl rfl rfl rfl am_d0 rfl rfl rfl rfl ?_
  refine am_Wp.bl 6 (y := (645, am_lvL i o5 o6, [.int (Int32.ofInt (i) + Int32.ofInt (1)), .ref 1000000, .ref 64], h1, nc, ns)) (fun _ => rfl) ?_
  simp only [am_oa]
  refine am_Wp.sc (by omega) (by omega) hL rfl rfl ?_
  refine am_Wp.bl 4 (y := (651, am_lvL i o5 o6, [.int (Int32.ofInt (i) + Int32.ofInt (2)), .ref 1000000, .int (xs ((i) + (1)).toNat), .ref 64], h1, nc, ns)) (fun _ => rfl) ?_
  simp only [am_oa]
  refine am_Wp.sc (by omega) (by omega) hL rfl rfl ?_
  refine am_Wp.bl 4 (y := (657, am_lvL i o5 o6, [.int (Int32.ofInt (i) + Int32.ofInt (3)), .ref 1000000, .int (xs ((i) + (2)).toNat), .int (xs ((i) + (1)).toNat), .ref 64], h1, nc, ns)) (fun _ => rfl) ?_
  simp only [am_oa]
  refine am_Wp.sc (by omega) (by omega) hL rfl rfl ?_
  refine am_Wp.callN d2 ok1 ok2 hnc hns rfl rfl rfl rfl am_d64 rfl rfl rfl rfl ?_
  refine am_Wp.bl 4 (y := (23, [some (.ref 1000000), some (.ref 0), some (.ref 64), some (.ref 100), some (.int (Int32.ofInt i + Int32.ofInt 7)), o5, o6], [], h2, nc, ns)) (fun _ => rfl) ?_
  simp only [am_oa]
  exact K h2 hi2
set_option maxRecDepth 100000 in
theorem am_t12 {L : Nat} {xs : Nat → Int32} {Inv : am_H → Prop} {Φ : am_C → Prop} {h : am_H} {nc ns : Nat} {i : Int} {o5 o6 : Option Value} (hi : 0 ≤ i ∧ i + 7 ≤ (L : Int)) (hL : L ≤ 3584) (hok : ab_hok ab_D0 h) (hnc : nc ≤ (am_k am_rL).1) (hns : ns ≤ (am_k am_rL).2) (hp : ∃ r1 r2 h1 h2, am_Do false 19 135 [.ref 0] h (some (.int r1), h1) ∧ ab_hok ab_D0 h1 ∧ am_Do false 19 194 [.ref 64] h1 (some (.int r2), h2) ∧ ab_hok ab_D0 h2 ∧ Inv h2) (K : ∀ h2, Inv h2 → am_Wp false 19 (L, xs) am_rL Φ (23, am_lvL (i + 7) o5 o6, [], h2, nc, ns)) : am_Wp false 19 (L, xs) am_rL Φ (40, am_lvL i o5 o6, [.int (Int32.ofNat 12)], h, nc, ns) := by
  obtain ⟨r1, r2, h1, h2, d1, ok1, d2, ok2, hi2⟩ := hp
  refine am_Wp.bl 2 (y := (666, am_lvL i o5 o6, [.ref 0], h, nc, ns)) (fun _ => rfl) ?_
  refine am_Wp.callN d1 hok ok1 hnc hns rfl rfl rfl rfl am_d0 rfl rfl rfl rfl ?_
  refine am_Wp.bl 2 (y := (671, am_lvL i o5 o6, [.ref 64], h1, nc, ns)) (fun _ => rfl) ?_
  refine am_Wp.callN d2 ok1 ok2 hnc hns rfl rfl rfl rfl am_d64 rfl rfl rfl rfl ?_
  refine am_Wp.bl 4 (y := (23, [some (.ref 1000000), some (.ref 0), some (.ref 64), some (.ref 100), some (.int (Int32.ofInt i + Int32.ofInt 7)), o5, o6], [], h2, nc, ns)) (fun _ => rfl) ?_
  simp only [am_oa]
  exact K h2 hi2
set_option maxRecDepth 100000 in
theorem am_t13a {L : Nat} {xs : Nat → Int32} {Inv : am_H → Prop} {Φ : am_C → Prop} {h : am_H} {nc ns : Nat} {i : Int} {o5 o6 : Option Value} (hi : 0 ≤ i ∧ i + 7 ≤ (L : Int)) (hL : L ≤ 3584) (hok : ab_hok ab_D0 h) (hnc : nc ≤ (am_k am_rL).1) (hns : ns ≤ (am_k am_rL).2) (hw : am_cmp .eq (xs ((i) + (2)).toNat) 0 = true) (hp : ∃ r1 r2 h1 h2, am_Do false 19 136 [.ref 0, .int (xs ((i) + (1)).toNat), .int (Int32.ofInt (0))] h (some (.int r1), h1) ∧ ab_hok ab_D0 h1 ∧ am_Do false 19 195 [.ref 64, .int (xs ((i) + (1)).toNat), .int (Int32.ofInt (0))] h1 (some (.int r2), h2) ∧ ab_hok ab_D0 h2 ∧ Inv h2) (K : ∀ h2, Inv h2 → am_Wp false 19 (L, xs) am_rL Φ (23, am_lvL (i + 7) o5 o6, [], h2, nc, ns)) : am_Wp false 19 (L, xs) am_rL Φ (40, am_lvL i o5 o6, [.int (Int32.ofNat 13)], h, nc, ns) := by
  obtain ⟨r1, r2, h1, h2, d1, ok1, d2, ok2, hi2⟩ := hp
  refine am_Wp.bl 6 (y := (684, am_lvL i o5 o6, [.int (Int32.ofInt (i) + Int32.ofInt (1)), .ref 1000000, .ref 0], h, nc, ns)) (fun _ => rfl) ?_
  simp only [am_oa]
  refine am_Wp.sc (by omega) (by omega) hL rfl rfl ?_
  refine am_Wp.bl 4 (y := (690, am_lvL i o5 o6, [.int (Int32.ofInt (i) + Int32.ofInt (2)), .ref 1000000, .int (xs ((i) + (1)).toNat), .ref 0], h, nc, ns)) (fun _ => rfl) ?_
  simp only [am_oa]
  refine am_Wp.sc (by omega) (by omega) hL rfl rfl ?_
  refine am_Wp.zbr true rfl rfl hw ?_
  refine am_Wp.bl 1 (y := (699, am_lvL i o5 o6, [.int (Int32.ofInt (0)), .int (xs ((i) + (1)).toNat), .ref 0], h, nc, ns)) (fun _ => rfl) ?_
  refine am_Wp.callN d1 hok ok1 hnc hns rfl rfl rfl rfl am_d0 rfl rfl rfl rfl ?_
  refine am_Wp.bl 6 (y := (709, am_lvL i o5 o6, [.int (Int32.ofInt (i) + Int32.ofInt (1)), .ref 1000000, .ref 64], h1, nc, ns)) (fun _ => rfl) ?_
  simp only [am_oa]
  refine am_Wp.sc (by omega) (by omega) hL rfl rfl ?_
  refine am_Wp.bl 4 (y := (715, am_lvL i o5 o6, [.int (Int32.ofInt (i) + Int32.ofInt (2)), .ref 1000000, .int (xs ((i) + (1)).toNat), .ref 64], h1, nc, ns)) (fun _ => rfl) ?_
  simp only [am_oa]
  refine am_Wp.sc (by omega) (by omega) hL rfl rfl ?_
  refine am_Wp.zbr true rfl rfl hw ?_
  refine am_Wp.bl 1 (y := (724, am_lvL i o5 o6, [.int (Int32.ofInt (0)), .int (xs ((i) + (1)).toNat), .ref 64], h1, nc, ns)) (fun _ => rfl) ?_
  refine am_Wp.callN d2 ok1 ok2 hnc hns rfl rfl rfl rfl am_d64 rfl rfl rfl rfl ?_
  refine am_Wp.bl 4 (y := (23, [some (.ref 1000000), some (.ref 0), some (.ref 64), some (.ref 100), some (.int (Int32.ofInt i + Int32.ofInt 7)), o5, o6], [], h2, nc, ns)) (fun _ => rfl) ?_
  simp only [am_oa]
  exact K h2 hi2
set_option maxRecDepth 100000 in
theorem am_t13b {L : Nat} {xs : Nat → Int32} {Inv : am_H → Prop} {Φ : am_C → Prop} {h : am_H} {nc ns : Nat} {i : Int} {o5 o6 : Option Value} (hi : 0 ≤ i ∧ i + 7 ≤ (L : Int)) (hL : L ≤ 3584) (hok : ab_hok ab_D0 h) (hnc : nc ≤ (am_k am_rL).1) (hns : ns ≤ (am_k am_rL).2) (hw : am_cmp .eq (xs ((i) + (2)).toNat) 0 = false) (hp : ∃ r1 r2 h1 h2, am_Do false 19 136 [.ref 0, .int (xs ((i) + (1)).toNat), .int (Int32.ofInt (1))] h (some (.int r1), h1) ∧ ab_hok ab_D0 h1 ∧ am_Do false 19 195 [.ref 64, .int (xs ((i) + (1)).toNat), .int (Int32.ofInt (1))] h1 (some (.int r2), h2) ∧ ab_hok ab_D0 h2 ∧ Inv h2) (K : ∀ h2, Inv h2 → am_Wp false 19 (L, xs) am_rL Φ (23, am_lvL (i + 7) o5 o6, [], h2, nc, ns)) : am_Wp false 19 (L, xs) am_rL Φ (40, am_lvL i o5 o6, [.int (Int32.ofNat 13)], h, nc, ns) := by
  obtain ⟨r1, r2, h1, h2, d1, ok1, d2, ok2, hi2⟩ := hp
  refine am_Wp.bl 6 (y := (684, am_lvL i o5 o6, [.int (Int32.ofInt (i) + Int32.ofInt (1)), .ref 1000000, .ref 0], h, nc, ns)) (fun _ => rfl) ?_
  simp only [am_oa]
  refine am_Wp.sc (by omega) (by omega) hL rfl rfl ?_
  refine am_Wp.bl 4 (y := (690, am_lvL i o5 o6, [.int (Int32.ofInt (i) + Int32.ofInt (2)), .ref 1000000, .int (xs ((i) + (1)).toNat), .ref 0], h, nc, ns)) (fun _ => rfl) ?_
  simp only [am_oa]
  refine am_Wp.sc (by omega) (by omega) hL rfl rfl ?_
  refine am_Wp.zbr false rfl rfl hw ?_
  refine am_Wp.bl 2 (y := (699, am_lvL i o5 o6, [.int (Int32.ofInt (1)), .int (xs ((i) + (1)).toNat), .ref 0], h, nc, ns)) (fun _ => rfl) ?_
  refine am_Wp.callN d1 hok ok1 hnc hns rfl rfl rfl rfl am_d0 rfl rfl rfl rfl ?_
  refine am_Wp.bl 6 (y := (709, am_lvL i o5 o6, [.int (Int32.ofInt (i) + Int32.ofInt (1)), .ref 1000000, .ref 64], h1, nc, ns)) (fun _ => rfl) ?_
  simp only [am_oa]
  refine am_Wp.sc (by omega) (by omega) hL rfl rfl ?_
  refine am_Wp.bl 4 (y := (715, am_lvL i o5 o6, [.int (Int32.ofInt (i) + Int32.ofInt (2)), .ref 1000000, .int (xs ((i) + (1)).toNat), .ref 64], h1, nc, ns)) (fun _ => rfl) ?_
  simp only [am_oa]
  refine am_Wp.sc (by omega) (by omega) hL rfl rfl ?_
  refine am_Wp.zbr false rfl rfl hw ?_
  refine am_Wp.bl 2 (y := (724, am_lvL i o5 o6, [.int (Int32.ofInt (1)), .int (xs ((i) + (1)).toNat), .ref 64], h1, nc, ns)) (fun _ => rfl) ?_
  refine am_Wp.callN d2 ok1 ok2 hnc hns rfl rfl rfl rfl am_d64 rfl rfl rfl rfl ?_
  refine am_Wp.bl 4 (y := (23, [some (.ref 1000000), some (.ref 0), some (.ref 64), some (.ref 100), some (.int (Int32.ofInt i + Int32.ofInt 7)), o5, o6], [], h2, nc, ns)) (fun _ => rfl) ?_
  simp only [am_oa]
  exact K h2 hi2
set_option maxRecDepth 100000 in
theorem am_t14 {L : Nat} {xs : Nat → Int32} {Inv : am_H → Prop} {Φ : am_C → Prop} {h : am_H} {nc ns : Nat} {i : Int} {o5 o6 : Option Value} (hi : 0 ≤ i ∧ i + 7 ≤ (L : Int)) (hL : L ≤ 3584) (hok : ab_hok ab_D0 h) (hnc : nc ≤ (am_k am_rL).1) (hns : ns ≤ (am_k am_rL).2) (hp : ∃ r1 r2 h1 h2, am_Do false 19 137 [.ref 0, .int (xs ((i) + (1)).toNat)] h (some (.int r1), h1) ∧ ab_hok ab_D0 h1 ∧ am_Do false 19 196 [.ref 64, .int (xs ((i) + (1)).toNat)] h1 (some (.int r2), h2) ∧ ab_hok ab_D0 h2 ∧ Inv h2) (K : ∀ h2, Inv h2 → am_Wp false 19 (L, xs) am_rL Φ (23, am_lvL (i + 7) o5 o6, [], h2, nc, ns)) : am_Wp false 19 (L, xs) am_rL Φ (40, am_lvL i o5 o6, [.int (Int32.ofNat 14)], h, nc, ns) := by
  obtain ⟨r1, r2, h1, h2, d1, ok1, d2, ok2, hi2⟩ := hp
  refine am_Wp.bl 6 (y := (737, am_lvL i o5 o6, [.int (Int32.ofInt (i) + Int32.ofInt (1)), .ref 1000000, .ref 0], h, nc, ns)) (fun _ => rfl) ?_
  simp only [am_oa]
  refine am_Wp.sc (by omega) (by omega) hL rfl rfl ?_
  refine am_Wp.callN d1 hok ok1 hnc hns rfl rfl rfl rfl am_d0 rfl rfl rfl rfl ?_
  refine am_Wp.bl 6 (y := (748, am_lvL i o5 o6, [.int (Int32.ofInt (i) + Int32.ofInt (1)), .ref 1000000, .ref 64], h1, nc, ns)) (fun _ => rfl) ?_
  simp only [am_oa]
  refine am_Wp.sc (by omega) (by omega) hL rfl rfl ?_
  refine am_Wp.callN d2 ok1 ok2 hnc hns rfl rfl rfl rfl am_d64 rfl rfl rfl rfl ?_
  refine am_Wp.bl 4 (y := (23, [some (.ref 1000000), some (.ref 0), some (.ref 64), some (.ref 100), some (.int (Int32.ofInt i + Int32.ofInt 7)), o5, o6], [], h2, nc, ns)) (fun _ => rfl) ?_
  simp only [am_oa]
  exact K h2 hi2
set_option maxRecDepth 100000 in
theorem am_t15 {L : Nat} {xs : Nat → Int32} {Inv : am_H → Prop} {Φ : am_C → Prop} {h : am_H} {nc ns : Nat} {i : Int} {o5 o6 : Option Value} (hi : 0 ≤ i ∧ i + 7 ≤ (L : Int)) (hL : L ≤ 3584) (hok : ab_hok ab_D0 h) (hnc : nc ≤ (am_k am_rL).1) (hns : ns ≤ (am_k am_rL).2) (hp : ∃ r1 r2 h1 h2, am_Do false 19 138 [.ref 0] h (some (.int r1), h1) ∧ ab_hok ab_D0 h1 ∧ am_Do false 19 197 [.ref 64] h1 (some (.int r2), h2) ∧ ab_hok ab_D0 h2 ∧ Inv h2) (K : ∀ h2, Inv h2 → am_Wp false 19 (L, xs) am_rL Φ (23, am_lvL (i + 7) o5 o6, [], h2, nc, ns)) : am_Wp false 19 (L, xs) am_rL Φ (40, am_lvL i o5 o6, [.int (Int32.ofNat 15)], h, nc, ns) := by
  obtain ⟨r1, r2, h1, h2, d1, ok1, d2, ok2, hi2⟩ := hp
  refine am_Wp.bl 2 (y := (757, am_lvL i o5 o6, [.ref 0], h, nc, ns)) (fun _ => rfl) ?_
  refine am_Wp.callN d1 hok ok1 hnc hns rfl rfl rfl rfl am_d0 rfl rfl rfl rfl ?_
  refine am_Wp.bl 2 (y := (762, am_lvL i o5 o6, [.ref 64], h1, nc, ns)) (fun _ => rfl) ?_
  refine am_Wp.callN d2 ok1 ok2 hnc hns rfl rfl rfl rfl am_d64 rfl rfl rfl rfl ?_
  refine am_Wp.bl 4 (y := (23, [some (.ref 1000000), some (.ref 0), some (.ref 64), some (.ref 100), some (.int (Int32.ofInt i + Int32.ofInt 7)), o5, o6], [], h2, nc, ns)) (fun _ => rfl) ?_
  simp only [am_oa]
  exact K h2 hi2
set_option maxRecDepth 100000 in
theorem am_t16 {L : Nat} {xs : Nat → Int32} {Inv : am_H → Prop} {Φ : am_C → Prop} {h : am_H} {nc ns : Nat} {i : Int} {o5 o6 : Option Value} (hi : 0 ≤ i ∧ i + 7 ≤ (L : Int)) (hL : L ≤ 3584) (hok : ab_hok ab_D0 h) (hnc : nc ≤ (am_k am_rL).1) (hns : ns ≤ (am_k am_rL).2) (hp : ∃ r1 r2 h1 h2, am_Do false 19 139 [.ref 0, .int (xs ((i) + (1)).toNat)] h (some (.int r1), h1) ∧ ab_hok ab_D0 h1 ∧ am_Do false 19 202 [.ref 64, .int (xs ((i) + (1)).toNat)] h1 (some (.int r2), h2) ∧ ab_hok ab_D0 h2 ∧ Inv h2) (K : ∀ h2, Inv h2 → am_Wp false 19 (L, xs) am_rL Φ (23, am_lvL (i + 7) o5 o6, [], h2, nc, ns)) : am_Wp false 19 (L, xs) am_rL Φ (40, am_lvL i o5 o6, [.int (Int32.ofNat 16)], h, nc, ns) := by
  obtain ⟨r1, r2, h1, h2, d1, ok1, d2, ok2, hi2⟩ := hp
  refine am_Wp.bl 6 (y := (775, am_lvL i o5 o6, [.int (Int32.ofInt (i) + Int32.ofInt (1)), .ref 1000000, .ref 0], h, nc, ns)) (fun _ => rfl) ?_
  simp only [am_oa]
  refine am_Wp.sc (by omega) (by omega) hL rfl rfl ?_
  refine am_Wp.callN d1 hok ok1 hnc hns rfl rfl rfl rfl am_d0 rfl rfl rfl rfl ?_
  refine am_Wp.bl 6 (y := (786, am_lvL i o5 o6, [.int (Int32.ofInt (i) + Int32.ofInt (1)), .ref 1000000, .ref 64], h1, nc, ns)) (fun _ => rfl) ?_
  simp only [am_oa]
  refine am_Wp.sc (by omega) (by omega) hL rfl rfl ?_
  refine am_Wp.callN d2 ok1 ok2 hnc hns rfl rfl rfl rfl am_d64 rfl rfl rfl rfl ?_
  refine am_Wp.bl 4 (y := (23, [some (.ref 1000000), some (.ref 0), some (.ref 64), some (.ref 100), some (.int (Int32.ofInt i + Int32.ofInt 7)), o5, o6], [], h2, nc, ns)) (fun _ => rfl) ?_
  simp only [am_oa]
  exact K h2 hi2
set_option maxRecDepth 100000 in
theorem am_t17 {L : Nat} {xs : Nat → Int32} {Inv : am_H → Prop} {Φ : am_C → Prop} {h : am_H} {nc ns : Nat} {i : Int} {o5 o6 : Option Value} (hi : 0 ≤ i ∧ i + 7 ≤ (L : Int)) (hL : L ≤ 3584) (hok : ab_hok ab_D0 h) (hnc : nc ≤ (am_k am_rL).1) (hns : ns ≤ (am_k am_rL).2) (hp : ∃ r1 r2 h1 h2, am_Do false 19 140 [.ref 0, .int (xs ((i) + (1)).toNat)] h (some (.int r1), h1) ∧ ab_hok ab_D0 h1 ∧ am_Do false 19 204 [.ref 64, .int (xs ((i) + (1)).toNat)] h1 (some (.int r2), h2) ∧ ab_hok ab_D0 h2 ∧ Inv h2) (K : ∀ h2, Inv h2 → am_Wp false 19 (L, xs) am_rL Φ (23, am_lvL (i + 7) o5 o6, [], h2, nc, ns)) : am_Wp false 19 (L, xs) am_rL Φ (40, am_lvL i o5 o6, [.int (Int32.ofNat 17)], h, nc, ns) := by
  obtain ⟨r1, r2, h1, h2, d1, ok1, d2, ok2, hi2⟩ := hp
  refine am_Wp.bl 6 (y := (800, am_lvL i o5 o6, [.int (Int32.ofInt (i) + Int32.ofInt (1)), .ref 1000000, .ref 0], h, nc, ns)) (fun _ => rfl) ?_
  simp only [am_oa]
  refine am_Wp.sc (by omega) (by omega) hL rfl rfl ?_
  refine am_Wp.callN d1 hok ok1 hnc hns rfl rfl rfl rfl am_d0 rfl rfl rfl rfl ?_
  refine am_Wp.bl 6 (y := (811, am_lvL i o5 o6, [.int (Int32.ofInt (i) + Int32.ofInt (1)), .ref 1000000, .ref 64], h1, nc, ns)) (fun _ => rfl) ?_
  simp only [am_oa]
  refine am_Wp.sc (by omega) (by omega) hL rfl rfl ?_
  refine am_Wp.callN d2 ok1 ok2 hnc hns rfl rfl rfl rfl am_d64 rfl rfl rfl rfl ?_
  refine am_Wp.bl 4 (y := (23, [some (.ref 1000000), some (.ref 0), some (.ref 64), some (.ref 100), some (.int (Int32.ofInt i + Int32.ofInt 7)), o5, o6], [], h2, nc, ns)) (fun _ => rfl) ?_
  simp only [am_oa]
  exact K h2 hi2
set_option maxRecDepth 100000 in
theorem am_t18 {L : Nat} {xs : Nat → Int32} {Inv : am_H → Prop} {Φ : am_C → Prop} {h : am_H} {nc ns : Nat} {i : Int} {o5 o6 : Option Value} (hi : 0 ≤ i ∧ i + 7 ≤ (L : Int)) (hL : L ≤ 3584) (hok : ab_hok ab_D0 h) (hnc : nc ≤ (am_k am_rL).1) (hns : ns ≤ (am_k am_rL).2) (hp : ∃ r1 r2 h1 h2, am_Do false 19 141 [.ref 0, .int (xs ((i) + (1)).toNat), .int (xs ((i) + (2)).toNat), .int (xs ((i) + (3)).toNat)] h (some (.int r1), h1) ∧ ab_hok ab_D0 h1 ∧ am_Do false 19 205 [.ref 64, .int (xs ((i) + (1)).toNat), .int (xs ((i) + (2)).toNat), .int (xs ((i) + (3)).toNat)] h1 (some (.int r2), h2) ∧ ab_hok ab_D0 h2 ∧ Inv h2) (K : ∀ h2, Inv h2 → am_Wp false 19 (L, xs) am_rL Φ (23, am_lvL (i + 7) o5 o6, [], h2, nc, ns)) : am_Wp false 19 (L, xs) am_rL Φ (40, am_lvL i o5 o6, [.int (Int32.ofNat 18)], h, nc, ns) := by
  obtain ⟨r1, r2, h1, h2, d1, ok1, d2, ok2, hi2⟩ := hp
  refine am_Wp.bl 6 (y := (825, am_lvL i o5 o6, [.int (Int32.ofInt (i) + Int32.ofInt (1)), .ref 1000000, .ref 0], h, nc, ns)) (fun _ => rfl) ?_
  simp only [am_oa]
  refine am_Wp.sc (by omega) (by omega) hL rfl rfl ?_
  refine am_Wp.bl 4 (y := (831, am_lvL i o5 o6, [.int (Int32.ofInt (i) + Int32.ofInt (2)), .ref 1000000, .int (xs ((i) + (1)).toNat), .ref 0], h, nc, ns)) (fun _ => rfl) ?_
  simp only [am_oa]
  refine am_Wp.sc (by omega) (by omega) hL rfl rfl ?_
  refine am_Wp.bl 4 (y := (837, am_lvL i o5 o6, [.int (Int32.ofInt (i) + Int32.ofInt (3)), .ref 1000000, .int (xs ((i) + (2)).toNat), .int (xs ((i) + (1)).toNat), .ref 0], h, nc, ns)) (fun _ => rfl) ?_
  simp only [am_oa]
  refine am_Wp.sc (by omega) (by omega) hL rfl rfl ?_
  refine am_Wp.callN d1 hok ok1 hnc hns rfl rfl rfl rfl am_d0 rfl rfl rfl rfl ?_
  refine am_Wp.bl 6 (y := (848, am_lvL i o5 o6, [.int (Int32.ofInt (i) + Int32.ofInt (1)), .ref 1000000, .ref 64], h1, nc, ns)) (fun _ => rfl) ?_
  simp only [am_oa]
  refine am_Wp.sc (by omega) (by omega) hL rfl rfl ?_
  refine am_Wp.bl 4 (y := (854, am_lvL i o5 o6, [.int (Int32.ofInt (i) + Int32.ofInt (2)), .ref 1000000, .int (xs ((i) + (1)).toNat), .ref 64], h1, nc, ns)) (fun _ => rfl) ?_
  simp only [am_oa]
  refine am_Wp.sc (by omega) (by omega) hL rfl rfl ?_
  refine am_Wp.bl 4 (y := (860, am_lvL i o5 o6, [.int (Int32.ofInt (i) + Int32.ofInt (3)), .ref 1000000, .int (xs ((i) + (2)).toNat), .int (xs ((i) + (1)).toNat), .ref 64], h1, nc, ns)) (fun _ => rfl) ?_
  simp only [am_oa]
  refine am_Wp.sc (by omega) (by omega) hL rfl rfl ?_
  refine am_Wp.callN d2 ok1 ok2 hnc hns rfl rfl rfl rfl am_d64 rfl rfl rfl rfl ?_
  refine am_Wp.bl 4 (y := (23, [some (.ref 1000000), some (.ref 0), some (.ref 64), some (.ref 100), some (.int (Int32.ofInt i + Int32.ofInt 7)), o5, o6], [], h2, nc, ns)) (fun _ => rfl) ?_
  simp only [am_oa]
  exact K h2 hi2
set_option maxRecDepth 100000 in
theorem am_t19 {L : Nat} {xs : Nat → Int32} {Inv : am_H → Prop} {Φ : am_C → Prop} {h : am_H} {nc ns : Nat} {i : Int} {o5 o6 : Option Value} (hi : 0 ≤ i ∧ i + 7 ≤ (L : Int)) (hL : L ≤ 3584) (hok : ab_hok ab_D0 h) (hnc : nc ≤ (am_k am_rL).1) (hns : ns ≤ (am_k am_rL).2) (hp : ∃ r1 r2 h1 h2, am_Do false 19 142 [.ref 0, .int (xs ((i) + (1)).toNat)] h (some (.int r1), h1) ∧ ab_hok ab_D0 h1 ∧ am_Do false 19 206 [.ref 64, .int (xs ((i) + (1)).toNat)] h1 (some (.int r2), h2) ∧ ab_hok ab_D0 h2 ∧ Inv h2) (K : ∀ h2, Inv h2 → am_Wp false 19 (L, xs) am_rL Φ (23, am_lvL (i + 7) o5 o6, [], h2, nc, ns)) : am_Wp false 19 (L, xs) am_rL Φ (40, am_lvL i o5 o6, [.int (Int32.ofNat 19)], h, nc, ns) := by
  obtain ⟨r1, r2, h1, h2, d1, ok1, d2, ok2, hi2⟩ := hp
  refine am_Wp.bl 6 (y := (874, am_lvL i o5 o6, [.int (Int32.ofInt (i) + Int32.ofInt (1)), .ref 1000000, .ref 0], h, nc, ns)) (fun _ => rfl) ?_
  simp only [am_oa]
  refine am_Wp.sc (by omega) (by omega) hL rfl rfl ?_
  refine am_Wp.callN d1 hok ok1 hnc hns rfl rfl rfl rfl am_d0 rfl rfl rfl rfl ?_
  refine am_Wp.bl 6 (y := (885, am_lvL i o5 o6, [.int (Int32.ofInt (i) + Int32.ofInt (1)), .ref 1000000, .ref 64], h1, nc, ns)) (fun _ => rfl) ?_
  simp only [am_oa]
  refine am_Wp.sc (by omega) (by omega) hL rfl rfl ?_
  refine am_Wp.callN d2 ok1 ok2 hnc hns rfl rfl rfl rfl am_d64 rfl rfl rfl rfl ?_
  refine am_Wp.bl 4 (y := (23, [some (.ref 1000000), some (.ref 0), some (.ref 64), some (.ref 100), some (.int (Int32.ofInt i + Int32.ofInt 7)), o5, o6], [], h2, nc, ns)) (fun _ => rfl) ?_
  simp only [am_oa]
  exact K h2 hi2
set_option maxRecDepth 100000 in
theorem am_t20 {L : Nat} {xs : Nat → Int32} {Inv : am_H → Prop} {Φ : am_C → Prop} {h : am_H} {nc ns : Nat} {i : Int} {o5 o6 : Option Value} (hi : 0 ≤ i ∧ i + 7 ≤ (L : Int)) (hL : L ≤ 3584) (hok : ab_hok ab_D0 h) (hnc : nc ≤ (am_k am_rL).1) (hns : ns ≤ (am_k am_rL).2) (hp : ∃ r1 r2 h1 h2, am_Do false 19 143 [.ref 0, .int (xs ((i) + (1)).toNat)] h (some (.int r1), h1) ∧ ab_hok ab_D0 h1 ∧ am_Do false 19 208 [.ref 64, .int (xs ((i) + (1)).toNat)] h1 (some (.int r2), h2) ∧ ab_hok ab_D0 h2 ∧ Inv h2) (K : ∀ h2, Inv h2 → am_Wp false 19 (L, xs) am_rL Φ (23, am_lvL (i + 7) o5 o6, [], h2, nc, ns)) : am_Wp false 19 (L, xs) am_rL Φ (40, am_lvL i o5 o6, [.int (Int32.ofNat 20)], h, nc, ns) := by
  obtain ⟨r1, r2, h1, h2, d1, ok1, d2, ok2, hi2⟩ := hp
  refine am_Wp.bl 6 (y := (899, am_lvL i o5 o6, [.int (Int32.ofInt (i) + Int32.ofInt (1)), .ref 1000000, .ref 0], h, nc, ns)) (fun _ => rfl) ?_
  simp only [am_oa]
  refine am_Wp.sc (by omega) (by omega) hL rfl rfl ?_
  refine am_Wp.callN d1 hok ok1 hnc hns rfl rfl rfl rfl am_d0 rfl rfl rfl rfl ?_
  refine am_Wp.bl 6 (y := (910, am_lvL i o5 o6, [.int (Int32.ofInt (i) + Int32.ofInt (1)), .ref 1000000, .ref 64], h1, nc, ns)) (fun _ => rfl) ?_
  simp only [am_oa]
  refine am_Wp.sc (by omega) (by omega) hL rfl rfl ?_
  refine am_Wp.callN d2 ok1 ok2 hnc hns rfl rfl rfl rfl am_d64 rfl rfl rfl rfl ?_
  refine am_Wp.bl 4 (y := (23, [some (.ref 1000000), some (.ref 0), some (.ref 64), some (.ref 100), some (.int (Int32.ofInt i + Int32.ofInt 7)), o5, o6], [], h2, nc, ns)) (fun _ => rfl) ?_
  simp only [am_oa]
  exact K h2 hi2
set_option maxRecDepth 100000 in
theorem am_t21 {L : Nat} {xs : Nat → Int32} {Inv : am_H → Prop} {Φ : am_C → Prop} {h : am_H} {nc ns : Nat} {i : Int} {o5 o6 : Option Value} (hi : 0 ≤ i ∧ i + 7 ≤ (L : Int)) (hL : L ≤ 3584) (hok : ab_hok ab_D0 h) (hnc : nc ≤ (am_k am_rL).1) (hns : ns ≤ (am_k am_rL).2) (hp : ∃ r1 r2 h1 h2, am_Do false 19 144 [.ref 0, .int (xs ((i) + (1)).toNat), .int (xs ((i) + (2)).toNat)] h (some (.int r1), h1) ∧ ab_hok ab_D0 h1 ∧ am_Do false 19 209 [.ref 64, .int (xs ((i) + (1)).toNat), .int (xs ((i) + (2)).toNat)] h1 (some (.int r2), h2) ∧ ab_hok ab_D0 h2 ∧ Inv h2) (K : ∀ h2, Inv h2 → am_Wp false 19 (L, xs) am_rL Φ (23, am_lvL (i + 7) o5 o6, [], h2, nc, ns)) : am_Wp false 19 (L, xs) am_rL Φ (40, am_lvL i o5 o6, [.int (Int32.ofNat 21)], h, nc, ns) := by
  obtain ⟨r1, r2, h1, h2, d1, ok1, d2, ok2, hi2⟩ := hp
  refine am_Wp.bl 6 (y := (924, am_lvL i o5 o6, [.int (Int32.ofInt (i) + Int32.ofInt (1)), .ref 1000000, .ref 0], h, nc, ns)) (fun _ => rfl) ?_
  simp only [am_oa]
  refine am_Wp.sc (by omega) (by omega) hL rfl rfl ?_
  refine am_Wp.bl 4 (y := (930, am_lvL i o5 o6, [.int (Int32.ofInt (i) + Int32.ofInt (2)), .ref 1000000, .int (xs ((i) + (1)).toNat), .ref 0], h, nc, ns)) (fun _ => rfl) ?_
  simp only [am_oa]
  refine am_Wp.sc (by omega) (by omega) hL rfl rfl ?_
  refine am_Wp.callN d1 hok ok1 hnc hns rfl rfl rfl rfl am_d0 rfl rfl rfl rfl ?_
  refine am_Wp.bl 6 (y := (941, am_lvL i o5 o6, [.int (Int32.ofInt (i) + Int32.ofInt (1)), .ref 1000000, .ref 64], h1, nc, ns)) (fun _ => rfl) ?_
  simp only [am_oa]
  refine am_Wp.sc (by omega) (by omega) hL rfl rfl ?_
  refine am_Wp.bl 4 (y := (947, am_lvL i o5 o6, [.int (Int32.ofInt (i) + Int32.ofInt (2)), .ref 1000000, .int (xs ((i) + (1)).toNat), .ref 64], h1, nc, ns)) (fun _ => rfl) ?_
  simp only [am_oa]
  refine am_Wp.sc (by omega) (by omega) hL rfl rfl ?_
  refine am_Wp.callN d2 ok1 ok2 hnc hns rfl rfl rfl rfl am_d64 rfl rfl rfl rfl ?_
  refine am_Wp.bl 4 (y := (23, [some (.ref 1000000), some (.ref 0), some (.ref 64), some (.ref 100), some (.int (Int32.ofInt i + Int32.ofInt 7)), o5, o6], [], h2, nc, ns)) (fun _ => rfl) ?_
  simp only [am_oa]
  exact K h2 hi2
set_option maxRecDepth 100000 in
theorem am_t22 {L : Nat} {xs : Nat → Int32} {Inv : am_H → Prop} {Φ : am_C → Prop} {h : am_H} {nc ns : Nat} {i : Int} {o5 o6 : Option Value} (hi : 0 ≤ i ∧ i + 7 ≤ (L : Int)) (hL : L ≤ 3584) (hok : ab_hok ab_D0 h) (hnc : nc ≤ (am_k am_rL).1) (hns : ns ≤ (am_k am_rL).2) (hp : ∃ r1 r2 h1 h2, am_Do false 19 145 [.ref 0, .int (xs ((i) + (1)).toNat), .int (xs ((i) + (2)).toNat)] h (some (.int r1), h1) ∧ ab_hok ab_D0 h1 ∧ am_Do false 19 210 [.ref 64, .int (xs ((i) + (1)).toNat), .int (xs ((i) + (2)).toNat)] h1 (some (.int r2), h2) ∧ ab_hok ab_D0 h2 ∧ Inv h2) (K : ∀ h2, Inv h2 → am_Wp false 19 (L, xs) am_rL Φ (23, am_lvL (i + 7) o5 o6, [], h2, nc, ns)) : am_Wp false 19 (L, xs) am_rL Φ (40, am_lvL i o5 o6, [.int (Int32.ofNat 22)], h, nc, ns) := by
  obtain ⟨r1, r2, h1, h2, d1, ok1, d2, ok2, hi2⟩ := hp
  refine am_Wp.bl 6 (y := (961, am_lvL i o5 o6, [.int (Int32.ofInt (i) + Int32.ofInt (1)), .ref 1000000, .ref 0], h, nc, ns)) (fun _ => rfl) ?_
  simp only [am_oa]
  refine am_Wp.sc (by omega) (by omega) hL rfl rfl ?_
  refine am_Wp.bl 4 (y := (967, am_lvL i o5 o6, [.int (Int32.ofInt (i) + Int32.ofInt (2)), .ref 1000000, .int (xs ((i) + (1)).toNat), .ref 0], h, nc, ns)) (fun _ => rfl) ?_
  simp only [am_oa]
  refine am_Wp.sc (by omega) (by omega) hL rfl rfl ?_
  refine am_Wp.callN d1 hok ok1 hnc hns rfl rfl rfl rfl am_d0 rfl rfl rfl rfl ?_
  refine am_Wp.bl 6 (y := (978, am_lvL i o5 o6, [.int (Int32.ofInt (i) + Int32.ofInt (1)), .ref 1000000, .ref 64], h1, nc, ns)) (fun _ => rfl) ?_
  simp only [am_oa]
  refine am_Wp.sc (by omega) (by omega) hL rfl rfl ?_
  refine am_Wp.bl 4 (y := (984, am_lvL i o5 o6, [.int (Int32.ofInt (i) + Int32.ofInt (2)), .ref 1000000, .int (xs ((i) + (1)).toNat), .ref 64], h1, nc, ns)) (fun _ => rfl) ?_
  simp only [am_oa]
  refine am_Wp.sc (by omega) (by omega) hL rfl rfl ?_
  refine am_Wp.callN d2 ok1 ok2 hnc hns rfl rfl rfl rfl am_d64 rfl rfl rfl rfl ?_
  refine am_Wp.bl 4 (y := (23, [some (.ref 1000000), some (.ref 0), some (.ref 64), some (.ref 100), some (.int (Int32.ofInt i + Int32.ofInt 7)), o5, o6], [], h2, nc, ns)) (fun _ => rfl) ?_
  simp only [am_oa]
  exact K h2 hi2
set_option maxRecDepth 100000 in
theorem am_t23 {L : Nat} {xs : Nat → Int32} {Inv : am_H → Prop} {Φ : am_C → Prop} {h : am_H} {nc ns : Nat} {i : Int} {o5 o6 : Option Value} (hi : 0 ≤ i ∧ i + 7 ≤ (L : Int)) (hL : L ≤ 3584) (hok : ab_hok ab_D0 h) (hnc : nc ≤ (am_k am_rL).1) (hns : ns ≤ (am_k am_rL).2) (hp : ∃ r1 r2 h1 h2, am_Do false 19 146 [.ref 0, .int (xs ((i) + (1)).toNat), .int (xs ((i) + (2)).toNat)] h (some (.int r1), h1) ∧ ab_hok ab_D0 h1 ∧ am_Do false 19 211 [.ref 64, .int (xs ((i) + (1)).toNat), .int (xs ((i) + (2)).toNat)] h1 (some (.int r2), h2) ∧ ab_hok ab_D0 h2 ∧ Inv h2 ∧ r1 = r2) (K : ∀ h2, Inv h2 → am_Wp false 19 (L, xs) am_rL Φ (23, am_lvL (i + 7) o5 o6, [], h2, nc, ns)) : am_Wp false 19 (L, xs) am_rL Φ (40, am_lvL i o5 o6, [.int (Int32.ofNat 23)], h, nc, ns) := by
  obtain ⟨r1, r2, h1, h2, d1, ok1, d2, ok2, hi2, hr⟩ := hp
  refine am_Wp.bl 6 (y := (998, am_lvL i o5 o6, [.int (Int32.ofInt (i) + Int32.ofInt (1)), .ref 1000000, .ref 0], h, nc, ns)) (fun _ => rfl) ?_
  simp only [am_oa]
  refine am_Wp.sc (by omega) (by omega) hL rfl rfl ?_
  refine am_Wp.bl 4 (y := (1004, am_lvL i o5 o6, [.int (Int32.ofInt (i) + Int32.ofInt (2)), .ref 1000000, .int (xs ((i) + (1)).toNat), .ref 0], h, nc, ns)) (fun _ => rfl) ?_
  simp only [am_oa]
  refine am_Wp.sc (by omega) (by omega) hL rfl rfl ?_
  refine am_Wp.callN d1 hok ok1 hnc hns rfl rfl rfl rfl am_d0 rfl rfl rfl rfl ?_
  refine am_Wp.bl 5 (y := (1014, am_lvL i o5 o6, [.int (Int32.ofInt (i) + Int32.ofInt (1)), .ref 1000000, .ref 64, .int (r1)], h1, nc, ns)) (fun _ => rfl) ?_
  simp only [am_oa]
  refine am_Wp.sc (by omega) (by omega) hL rfl rfl ?_
  refine am_Wp.bl 4 (y := (1020, am_lvL i o5 o6, [.int (Int32.ofInt (i) + Int32.ofInt (2)), .ref 1000000, .int (xs ((i) + (1)).toNat), .ref 64, .int (r1)], h1, nc, ns)) (fun _ => rfl) ?_
  simp only [am_oa]
  refine am_Wp.sc (by omega) (by omega) hL rfl rfl ?_
  refine am_Wp.callN d2 ok1 ok2 hnc hns rfl rfl rfl rfl am_d64 rfl rfl rfl rfl ?_
  refine am_Wp.ibr rfl rfl (decide_eq_true hr) ?_
  refine am_Wp.bl 2 (y := (23, [some (.ref 1000000), some (.ref 0), some (.ref 64), some (.ref 100), some (.int (Int32.ofInt i + Int32.ofInt 7)), o5, o6], [], h2, nc, ns)) (fun _ => rfl) ?_
  simp only [am_oa]
  exact K h2 hi2
set_option maxRecDepth 100000 in
theorem am_t24 {L : Nat} {xs : Nat → Int32} {Inv : am_H → Prop} {Φ : am_C → Prop} {h : am_H} {nc ns : Nat} {i : Int} {o5 o6 : Option Value} (hi : 0 ≤ i ∧ i + 7 ≤ (L : Int)) (hL : L ≤ 3584) (hok : ab_hok ab_D0 h) (hnc : nc ≤ (am_k am_rL).1) (hns : ns ≤ (am_k am_rL).2) (hp : ∃ r1 r2 h1 h2, am_Do false 19 147 [.ref 0, .int (xs ((i) + (1)).toNat)] h (some (.int r1), h1) ∧ ab_hok ab_D0 h1 ∧ am_Do false 19 212 [.ref 64, .int (xs ((i) + (1)).toNat)] h1 (some (.int r2), h2) ∧ ab_hok ab_D0 h2 ∧ Inv h2) (K : ∀ h2, Inv h2 → am_Wp false 19 (L, xs) am_rL Φ (23, am_lvL (i + 7) o5 o6, [], h2, nc, ns)) : am_Wp false 19 (L, xs) am_rL Φ (40, am_lvL i o5 o6, [.int (Int32.ofNat 24)], h, nc, ns) := by
  obtain ⟨r1, r2, h1, h2, d1, ok1, d2, ok2, hi2⟩ := hp
  refine am_Wp.bl 6 (y := (1035, am_lvL i o5 o6, [.int (Int32.ofInt (i) + Int32.ofInt (1)), .ref 1000000, .ref 0], h, nc, ns)) (fun _ => rfl) ?_
  simp only [am_oa]
  refine am_Wp.sc (by omega) (by omega) hL rfl rfl ?_
  refine am_Wp.callN d1 hok ok1 hnc hns rfl rfl rfl rfl am_d0 rfl rfl rfl rfl ?_
  refine am_Wp.bl 6 (y := (1046, am_lvL i o5 o6, [.int (Int32.ofInt (i) + Int32.ofInt (1)), .ref 1000000, .ref 64], h1, nc, ns)) (fun _ => rfl) ?_
  simp only [am_oa]
  refine am_Wp.sc (by omega) (by omega) hL rfl rfl ?_
  refine am_Wp.callN d2 ok1 ok2 hnc hns rfl rfl rfl rfl am_d64 rfl rfl rfl rfl ?_
  refine am_Wp.bl 4 (y := (23, [some (.ref 1000000), some (.ref 0), some (.ref 64), some (.ref 100), some (.int (Int32.ofInt i + Int32.ofInt 7)), o5, o6], [], h2, nc, ns)) (fun _ => rfl) ?_
  simp only [am_oa]
  exact K h2 hi2
set_option maxRecDepth 100000 in
theorem am_t25 {L : Nat} {xs : Nat → Int32} {Inv : am_H → Prop} {Φ : am_C → Prop} {h : am_H} {nc ns : Nat} {i : Int} {o5 o6 : Option Value} (hi : 0 ≤ i ∧ i + 7 ≤ (L : Int)) (hL : L ≤ 3584) (hok : ab_hok ab_D0 h) (hnc : nc ≤ (am_k am_rL).1) (hns : ns ≤ (am_k am_rL).2) (hi0 : Inv h) (K : ∀ h2, Inv h2 → am_Wp false 19 (L, xs) am_rL Φ (23, am_lvL (i + 7) o5 o6, [], h2, nc, ns)) : am_Wp false 19 (L, xs) am_rL Φ (40, am_lvL i o5 o6, [.int (Int32.ofNat 25)], h, nc, ns) := by
  refine am_Wp.bl 3 (y := (23, [some (.ref 1000000), some (.ref 0), some (.ref 64), some (.ref 100), some (.int (Int32.ofInt i + Int32.ofInt 7)), o5, o6], [], h, nc, ns)) (fun _ => rfl) ?_
  simp only [am_oa]
  exact K h hi0
set_option maxRecDepth 100000 in
theorem am_t26 {L : Nat} {xs : Nat → Int32} {Inv : am_H → Prop} {Φ : am_C → Prop} {h : am_H} {nc ns : Nat} {i : Int} {o5 o6 : Option Value} (hi : 0 ≤ i ∧ i + 7 ≤ (L : Int)) (hL : L ≤ 3584) (hok : ab_hok ab_D0 h) (hnc : nc ≤ (am_k am_rL).1) (hns : ns ≤ (am_k am_rL).2) (hi0 : Inv h) (K : ∀ h2, Inv h2 → am_Wp false 19 (L, xs) am_rL Φ (23, am_lvL (i + 7) o5 o6, [], h2, nc, ns)) : am_Wp false 19 (L, xs) am_rL Φ (40, am_lvL i o5 o6, [.int (Int32.ofNat 26)], h, nc, ns) := by
  refine am_Wp.bl 3 (y := (23, [some (.ref 1000000), some (.ref 0), some (.ref 64), some (.ref 100), some (.int (Int32.ofInt i + Int32.ofInt 7)), o5, o6], [], h, nc, ns)) (fun _ => rfl) ?_
  simp only [am_oa]
  exact K h hi0
set_option maxRecDepth 100000 in
theorem am_t27 {L : Nat} {xs : Nat → Int32} {Inv : am_H → Prop} {Φ : am_C → Prop} {h : am_H} {nc ns : Nat} {i : Int} {o5 o6 : Option Value} (hi : 0 ≤ i ∧ i + 7 ≤ (L : Int)) (hL : L ≤ 3584) (hok : ab_hok ab_D0 h) (hnc : nc ≤ (am_k am_rL).1) (hns : ns ≤ (am_k am_rL).2) (hi0 : Inv h) (K : ∀ h2, Inv h2 → am_Wp false 19 (L, xs) am_rL Φ (23, am_lvL (i + 7) o5 o6, [], h2, nc, ns)) : am_Wp false 19 (L, xs) am_rL Φ (40, am_lvL i o5 o6, [.int (Int32.ofNat 27)], h, nc, ns) := by
  refine am_Wp.bl 3 (y := (23, [some (.ref 1000000), some (.ref 0), some (.ref 64), some (.ref 100), some (.int (Int32.ofInt i + Int32.ofInt 7)), o5, o6], [], h, nc, ns)) (fun _ => rfl) ?_
  simp only [am_oa]
  exact K h hi0
set_option maxRecDepth 100000 in
theorem am_t28 {L : Nat} {xs : Nat → Int32} {Inv : am_H → Prop} {Φ : am_C → Prop} {h : am_H} {nc ns : Nat} {i : Int} {o5 o6 : Option Value} (hi : 0 ≤ i ∧ i + 7 ≤ (L : Int)) (hL : L ≤ 3584) (hok : ab_hok ab_D0 h) (hnc : nc ≤ (am_k am_rL).1) (hns : ns ≤ (am_k am_rL).2) (hi0 : Inv h) (K : ∀ h2, Inv h2 → am_Wp false 19 (L, xs) am_rL Φ (23, am_lvL (i + 7) o5 o6, [], h2, nc, ns)) : am_Wp false 19 (L, xs) am_rL Φ (40, am_lvL i o5 o6, [.int (Int32.ofNat 28)], h, nc, ns) := by
  refine am_Wp.bl 3 (y := (23, [some (.ref 1000000), some (.ref 0), some (.ref 64), some (.ref 100), some (.int (Int32.ofInt i + Int32.ofInt 7)), o5, o6], [], h, nc, ns)) (fun _ => rfl) ?_
  simp only [am_oa]
  exact K h hi0
set_option maxRecDepth 100000 in
theorem am_t29 {L : Nat} {xs : Nat → Int32} {Inv : am_H → Prop} {Φ : am_C → Prop} {h : am_H} {nc ns : Nat} {i : Int} {o5 o6 : Option Value} (hi : 0 ≤ i ∧ i + 7 ≤ (L : Int)) (hL : L ≤ 3584) (hok : ab_hok ab_D0 h) (hnc : nc ≤ (am_k am_rL).1) (hns : ns ≤ (am_k am_rL).2) (hi0 : Inv h) (K : ∀ h2, Inv h2 → am_Wp false 19 (L, xs) am_rL Φ (23, am_lvL (i + 7) o5 o6, [], h2, nc, ns)) : am_Wp false 19 (L, xs) am_rL Φ (40, am_lvL i o5 o6, [.int (Int32.ofNat 29)], h, nc, ns) := by
  refine am_Wp.bl 3 (y := (23, [some (.ref 1000000), some (.ref 0), some (.ref 64), some (.ref 100), some (.int (Int32.ofInt i + Int32.ofInt 7)), o5, o6], [], h, nc, ns)) (fun _ => rfl) ?_
  simp only [am_oa]
  exact K h hi0
set_option maxRecDepth 100000 in
theorem am_t30 {L : Nat} {xs : Nat → Int32} {Inv : am_H → Prop} {Φ : am_C → Prop} {h : am_H} {nc ns : Nat} {i : Int} {o5 o6 : Option Value} (hi : 0 ≤ i ∧ i + 7 ≤ (L : Int)) (hL : L ≤ 3584) (hok : ab_hok ab_D0 h) (hnc : nc ≤ (am_k am_rL).1) (hns : ns ≤ (am_k am_rL).2) (hi0 : Inv h) (K : ∀ h2, Inv h2 → am_Wp false 19 (L, xs) am_rL Φ (23, am_lvL (i + 7) o5 o6, [], h2, nc, ns)) : am_Wp false 19 (L, xs) am_rL Φ (40, am_lvL i o5 o6, [.int (Int32.ofNat 30)], h, nc, ns) := by
  refine am_Wp.bl 3 (y := (23, [some (.ref 1000000), some (.ref 0), some (.ref 64), some (.ref 100), some (.int (Int32.ofInt i + Int32.ofInt 7)), o5, o6], [], h, nc, ns)) (fun _ => rfl) ?_
  simp only [am_oa]
  exact K h hi0
set_option maxRecDepth 100000 in
theorem am_t31 {L : Nat} {xs : Nat → Int32} {Inv : am_H → Prop} {Φ : am_C → Prop} {h : am_H} {nc ns : Nat} {i : Int} {o5 o6 : Option Value} (hi : 0 ≤ i ∧ i + 7 ≤ (L : Int)) (hL : L ≤ 3584) (hok : ab_hok ab_D0 h) (hnc : nc ≤ (am_k am_rL).1) (hns : ns ≤ (am_k am_rL).2) (hi0 : Inv h) (K : ∀ h2, Inv h2 → am_Wp false 19 (L, xs) am_rL Φ (23, am_lvL (i + 7) o5 o6, [], h2, nc, ns)) : am_Wp false 19 (L, xs) am_rL Φ (40, am_lvL i o5 o6, [.int (Int32.ofNat 31)], h, nc, ns) := by
  refine am_Wp.bl 3 (y := (23, [some (.ref 1000000), some (.ref 0), some (.ref 64), some (.ref 100), some (.int (Int32.ofInt i + Int32.ofInt 7)), o5, o6], [], h, nc, ns)) (fun _ => rfl) ?_
  simp only [am_oa]
  exact K h hi0
