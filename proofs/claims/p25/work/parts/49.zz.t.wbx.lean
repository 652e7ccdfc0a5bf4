/-! ===== what X's best asks (printed by wip/ab/vg_best.py) ===== -/
def wp_XStore_takeSets_2 (I2 : Int32 →  sg_S → Prop) (Ψ : sg_S → Prop) (l1 : Int32) (s : sg_S) : Prop := ((l1.toInt < (s.1 58 4).toInt → (0 ≤ (l1 * (Int32.ofInt (3))).toInt → (l1 * (Int32.ofInt (3))).toInt < (60) → (0 ≤ ((l1 * (Int32.ofInt (3))) + (Int32.ofInt (1))).toInt → ((l1 * (Int32.ofInt (3))) + (Int32.ofInt (1))).toInt < (60) → (0 ≤ ((l1 * (Int32.ofInt (3))) + (Int32.ofInt (2))).toInt → ((l1 * (Int32.ofInt (3))) + (Int32.ofInt (2))).toInt < (60) → (am_SpI 4 [.ref 18, .int (s.2.2.1 59 ((l1 * (Int32.ofInt (3))).toInt.toNat)), .int (s.2.2.1 59 (((l1 * (Int32.ofInt (3))) + (Int32.ofInt (1))).toInt.toNat)), .int (s.2.2.1 59 (((l1 * (Int32.ofInt (3))) + (Int32.ofInt (2))).toInt.toNat))] s (fun x1 s1 => (0 ≤ l1.toInt → l1.toInt < (20) → (I2 (l1 + Int32.ofInt (1)) (sg_uA s1 60 (l1.toInt.toNat) x1))))))))) ∧ (¬ l1.toInt < (s.1 58 4).toInt → (Ψ s)))
def wp_XStore_takeSets (I2 : Int32 →  sg_S → Prop) (Ψ : sg_S → Prop) (s : sg_S) : Prop := (I2 (Int32.ofInt (0)) s)
set_option maxRecDepth 100000 in
theorem wp_XStore_takeSets_ok {I2 : Int32 →  sg_S → Prop} {Ψ : sg_S → Prop} {s : sg_S} (k2 : ∀ (l1 : Int32) (s : sg_S), I2 l1 s → wp_XStore_takeSets_2 I2 Ψ  l1 s) (h : wp_XStore_takeSets I2 Ψ  s) : am_SpV 110 [.ref 58] s Ψ := by
  refine am_SpV.mk (r := am_r110) rfl rfl (fun call d al n hcl => ?_)
  have key : ∀ n, (∀ (o2 : Option Value) (l1 : Int32) (s : sg_S), I2 l1 s → am_Pn call d (0, fun _ => 0) al am_r110 (am_PhV am_r110 Ψ) n (2, [some (.ref 58), some (.int l1), o2], [], sg_h s, 0, 0)) := by
    intro n
    induction n with
    | zero => exact fun _ _ _ _ => am_Pn.zero
    | succ n ih =>
      intro o2 l1 s h
      replace h := k2 l1 s h
      unfold wp_XStore_takeSets_2 at h
      refine am_Pn.bl1 1 (y := (4, [some (.ref 58), some (.int l1), o2], [.ref 58, .int l1], sg_h s, 0, 0)) rfl ?_
      refine am_Pn.gi (k := 4) rfl rfl am_o58 rfl rfl ?_
      refine am_Pn.bF h (am_bge rfl rfl) rfl rfl (fun h => ?_) (fun h => ?_)
      · exact am_Pn.rV h rfl
      · refine am_Pn.bl 5 (y := (15, [some (.ref 58), some (.int l1), some (.int (l1 * (Int32.ofInt (3))))], [.ref 58], sg_h s, 0, 0)) rfl ?_
        refine am_Pn.gr (k := 6) rfl rfl am_o58 rfl rfl ?_
        refine am_Pn.bl 2 (y := (20, [some (.ref 58), some (.int l1), some (.int (l1 * (Int32.ofInt (3))))], [.ref 58, .int l1, .ref 60], sg_h s, 0, 0)) rfl ?_
        refine am_Pn.gr (k := 3) rfl rfl am_o58 rfl rfl ?_
        refine am_Pn.bl 1 (y := (24, [some (.ref 58), some (.int l1), some (.int (l1 * (Int32.ofInt (3))))], [.ref 58, .ref 18, .int l1, .ref 60], sg_h s, 0, 0)) rfl ?_
        refine am_Pn.gr (k := 5) rfl rfl am_o58 rfl rfl ?_
        refine am_Pn.bl 1 (y := (28, [some (.ref 58), some (.int l1), some (.int (l1 * (Int32.ofInt (3))))], [.int (l1 * (Int32.ofInt (3))), .ref 59, .ref 18, .int l1, .ref 60], sg_h s, 0, 0)) rfl ?_
        refine am_Pn.ia (a := 59) rfl rfl rfl rfl (fun hi => ?_)
        replace h := h (am_in0 hi) (am_in1 hi)
        refine am_Pn.bl 1 (y := (30, [some (.ref 58), some (.int l1), some (.int (l1 * (Int32.ofInt (3))))], [.ref 58, .int (s.2.2.1 59 ((l1 * (Int32.ofInt (3))).toInt.toNat)), .ref 18, .int l1, .ref 60], sg_h s, 0, 0)) rfl ?_
        refine am_Pn.gr (k := 5) rfl rfl am_o58 rfl rfl ?_
        refine am_Pn.bl 3 (y := (36, [some (.ref 58), some (.int l1), some (.int (l1 * (Int32.ofInt (3))))], [.int ((l1 * (Int32.ofInt (3))) + (Int32.ofInt (1))), .ref 59, .int (s.2.2.1 59 ((l1 * (Int32.ofInt (3))).toInt.toNat)), .ref 18, .int l1, .ref 60], sg_h s, 0, 0)) rfl ?_
        refine am_Pn.ia (a := 59) rfl rfl rfl rfl (fun hi => ?_)
        replace h := h (am_in0 hi) (am_in1 hi)
        refine am_Pn.bl 1 (y := (38, [some (.ref 58), some (.int l1), some (.int (l1 * (Int32.ofInt (3))))], [.ref 58, .int (s.2.2.1 59 (((l1 * (Int32.ofInt (3))) + (Int32.ofInt (1))).toInt.toNat)), .int (s.2.2.1 59 ((l1 * (Int32.ofInt (3))).toInt.toNat)), .ref 18, .int l1, .ref 60], sg_h s, 0, 0)) rfl ?_
        refine am_Pn.gr (k := 5) rfl rfl am_o58 rfl rfl ?_
        refine am_Pn.bl 3 (y := (44, [some (.ref 58), some (.int l1), some (.int (l1 * (Int32.ofInt (3))))], [.int ((l1 * (Int32.ofInt (3))) + (Int32.ofInt (2))), .ref 59, .int (s.2.2.1 59 (((l1 * (Int32.ofInt (3))) + (Int32.ofInt (1))).toInt.toNat)), .int (s.2.2.1 59 ((l1 * (Int32.ofInt (3))).toInt.toNat)), .ref 18, .int l1, .ref 60], sg_h s, 0, 0)) rfl ?_
        refine am_Pn.ia (a := 59) rfl rfl rfl rfl (fun hi => ?_)
        replace h := h (am_in0 hi) (am_in1 hi)
        refine am_Pn.cvI hcl h rfl rfl rfl rfl rfl (fun x1 s1 h => ?_)
        refine am_Pn.is (a := 60) rfl rfl rfl (fun hi => ?_)
        replace h := h (am_in0 hi) (am_in1 hi)
        refine am_Pn.bl 2 (y := (2, [some (.ref 58), some (.int (l1 + Int32.ofInt (1))), some (.int (l1 * (Int32.ofInt (3))))], [], sg_h (sg_uA s1 60 (l1.toInt.toNat) x1), 0, 0)) rfl ?_
        exact (ih) (some (.int (l1 * (Int32.ofInt (3))))) (l1 + Int32.ofInt (1)) (sg_uA s1 60 (l1.toInt.toNat) x1) h
  unfold wp_XStore_takeSets at h
  refine am_Pn.bl 2 (y := (2, [some (.ref 58), some (.int (Int32.ofInt (0))), none], [], sg_h s, 0, 0)) rfl ?_
  exact ((key n)) none (Int32.ofInt (0)) s h
def wp_XStore_isGood_9 (I9 : Int32 → Int32 →  sg_S → Prop) (Ψ : Int32 → sg_S → Prop) (x1 : Int32) (l2 : Int32) (l3 : Int32) (s : sg_S) : Prop := ((l3.toInt < x1.toInt → (0 ≤ l3.toInt → l3.toInt < (3) → (((s.2.2.1 62 (l3.toInt.toNat)).toInt = l2.toInt → (Ψ (Int32.ofInt (0)) s)) ∧ (¬ (s.2.2.1 62 (l3.toInt.toNat)).toInt = l2.toInt → (I9 l2 (l3 + Int32.ofInt (1)) s))))) ∧ (¬ l3.toInt < x1.toInt → (0 ≤ l2.toInt → l2.toInt < (20) → (0 ≤ (l2 * (Int32.ofInt (3))).toInt → (l2 * (Int32.ofInt (3))).toInt < (60) → (0 ≤ ((l2 * (Int32.ofInt (3))) + (Int32.ofInt (1))).toInt → ((l2 * (Int32.ofInt (3))) + (Int32.ofInt (1))).toInt < (60) → (0 ≤ ((l2 * (Int32.ofInt (3))) + (Int32.ofInt (2))).toInt → ((l2 * (Int32.ofInt (3))) + (Int32.ofInt (2))).toInt < (60) → (am_SpV 82 [.ref 28, .int (((s.1 28 2) + (Int32.ofInt (1))) + x1), .int (s.2.2.1 60 (l2.toInt.toNat)), .int (s.2.2.1 59 ((l2 * (Int32.ofInt (3))).toInt.toNat)), .int (s.2.2.1 59 (((l2 * (Int32.ofInt (3))) + (Int32.ofInt (1))).toInt.toNat)), .int (s.2.2.1 59 (((l2 * (Int32.ofInt (3))) + (Int32.ofInt (2))).toInt.toNat))] s (fun s2 => (am_SpI 84 [.ref 28, .int (((s.1 28 2) + (Int32.ofInt (1))) + x1)] s2 (fun x3 s3 => ((x3.toInt = (-1) → ((x1.toInt = (0) → (((((s.1 28 2) + (Int32.ofInt (1))) + x1).toInt = (1) → (0 ≤ x1.toInt → x1.toInt < (3) → (Ψ (Int32.ofInt (1)) (sg_uA s3 63 (x1.toInt.toNat) ((Int32.ofInt (0)) + (Int32.ofInt (0))))))) ∧ (¬ (((s.1 28 2) + (Int32.ofInt (1))) + x1).toInt = (1) → (0 ≤ ((((s.1 28 2) + (Int32.ofInt (1))) + x1) - (Int32.ofInt (1))).toInt → ((((s.1 28 2) + (Int32.ofInt (1))) + x1) - (Int32.ofInt (1))).toInt < (49) → (0 ≤ l2.toInt → l2.toInt < (20) → (am_SpI 117 [.ref 22, .int (s3.2.2.1 30 (((((s.1 28 2) + (Int32.ofInt (1))) + x1) - (Int32.ofInt (1))).toInt.toNat)), .int (s3.2.2.1 60 (l2.toInt.toNat))] s3 (fun x5 s5 => (0 ≤ x1.toInt → x1.toInt < (3) → (Ψ (Int32.ofInt (1)) (sg_uA s5 63 (x1.toInt.toNat) ((Int32.ofInt (0)) + x5))))))))))) ∧ (¬ x1.toInt = (0) → (0 ≤ (x1 - (Int32.ofInt (1))).toInt → (x1 - (Int32.ofInt (1))).toInt < (3) → (((((s.1 28 2) + (Int32.ofInt (1))) + x1).toInt = (1) → (0 ≤ x1.toInt → x1.toInt < (3) → (Ψ (Int32.ofInt (1)) (sg_uA s3 63 (x1.toInt.toNat) ((s3.2.2.1 63 ((x1 - (Int32.ofInt (1))).toInt.toNat)) + (Int32.ofInt (0))))))) ∧ (¬ (((s.1 28 2) + (Int32.ofInt (1))) + x1).toInt = (1) → (0 ≤ ((((s.1 28 2) + (Int32.ofInt (1))) + x1) - (Int32.ofInt (1))).toInt → ((((s.1 28 2) + (Int32.ofInt (1))) + x1) - (Int32.ofInt (1))).toInt < (49) → (0 ≤ l2.toInt → l2.toInt < (20) → (am_SpI 117 [.ref 22, .int (s3.2.2.1 30 (((((s.1 28 2) + (Int32.ofInt (1))) + x1) - (Int32.ofInt (1))).toInt.toNat)), .int (s3.2.2.1 60 (l2.toInt.toNat))] s3 (fun x4 s4 => (0 ≤ x1.toInt → x1.toInt < (3) → (Ψ (Int32.ofInt (1)) (sg_uA s4 63 (x1.toInt.toNat) ((s3.2.2.1 63 ((x1 - (Int32.ofInt (1))).toInt.toNat)) + x4)))))))))))))) ∧ (¬ x3.toInt = (-1) → (Ψ (Int32.ofInt (0)) s3)))))))))))))
def wp_XStore_isGood (I9 : Int32 → Int32 →  sg_S → Prop) (Ψ : Int32 → sg_S → Prop) (x1 : Int32) (s : sg_S) : Prop := (0 ≤ x1.toInt → x1.toInt < (3) → (I9 (s.2.2.1 62 (x1.toInt.toNat)) (Int32.ofInt (0)) s))
set_option maxRecDepth 100000 in
theorem wp_XStore_isGood_ok {I9 : Int32 → Int32 →  sg_S → Prop} {Ψ : Int32 → sg_S → Prop} {x1 : Int32} {s : sg_S} (k9 : ∀ (l2 : Int32) (l3 : Int32) (s : sg_S), I9 l2 l3 s → wp_XStore_isGood_9 I9 Ψ x1 l2 l3 s) (h : wp_XStore_isGood I9 Ψ x1 s) : am_SpI 111 [.ref 58, .int x1] s Ψ := by
  refine am_SpI.mk (r := am_r111) rfl rfl (fun call d al n hcl => ?_)
  have key : ∀ n, (∀ (o4 : Option Value) (o5 : Option Value) (o6 : Option Value) (l2 : Int32) (l3 : Int32) (s : sg_S), I9 l2 l3 s → am_Pn call d (0, fun _ => 0) al am_r111 (am_PhI am_r111 Ψ) n (9, [some (.ref 58), some (.int x1), some (.int l2), some (.int l3), o4, o5, o6], [], sg_h s, 0, 0)) := by
    intro n
    induction n with
    | zero => exact fun _ _ _ _ _ _ _ => am_Pn.zero
    | succ n ih =>
      intro o4 o5 o6 l2 l3 s h
      replace h := k9 l2 l3 s h
      unfold wp_XStore_isGood_9 at h
      refine am_Pn.bl1 1 (y := (11, [some (.ref 58), some (.int x1), some (.int l2), some (.int l3), o4, o5, o6], [.int x1, .int l3], sg_h s, 0, 0)) rfl ?_
      refine am_Pn.bF h (am_bge rfl rfl) rfl rfl (fun h => ?_) (fun h => ?_)
      · refine am_Pn.bl 1 (y := (33, [some (.ref 58), some (.int x1), some (.int l2), some (.int l3), o4, o5, o6], [.ref 58], sg_h s, 0, 0)) rfl ?_
        refine am_Pn.gr (k := 2) rfl rfl am_o58 rfl rfl ?_
        refine am_Pn.gi (k := 2) rfl rfl am_o28 rfl rfl ?_
        refine am_Pn.bl 10 (y := (50, [some (.ref 58), some (.int x1), some (.int l2), some (.int (((s.1 28 2) + (Int32.ofInt (1))) + x1)), some (.int (l2 * (Int32.ofInt (3)))), o5, o6], [.ref 58], sg_h s, 0, 0)) rfl ?_
        refine am_Pn.gr (k := 2) rfl rfl am_o58 rfl rfl ?_
        refine am_Pn.bl 2 (y := (55, [some (.ref 58), some (.int x1), some (.int l2), some (.int (((s.1 28 2) + (Int32.ofInt (1))) + x1)), some (.int (l2 * (Int32.ofInt (3)))), o5, o6], [.ref 58, .int (((s.1 28 2) + (Int32.ofInt (1))) + x1), .ref 28], sg_h s, 0, 0)) rfl ?_
        refine am_Pn.gr (k := 6) rfl rfl am_o58 rfl rfl ?_
        refine am_Pn.bl 1 (y := (59, [some (.ref 58), some (.int x1), some (.int l2), some (.int (((s.1 28 2) + (Int32.ofInt (1))) + x1)), some (.int (l2 * (Int32.ofInt (3)))), o5, o6], [.int l2, .ref 60, .int (((s.1 28 2) + (Int32.ofInt (1))) + x1), .ref 28], sg_h s, 0, 0)) rfl ?_
        refine am_Pn.ia (a := 60) rfl rfl rfl rfl (fun hi => ?_)
        replace h := h (am_in0 hi) (am_in1 hi)
        refine am_Pn.bl 1 (y := (61, [some (.ref 58), some (.int x1), some (.int l2), some (.int (((s.1 28 2) + (Int32.ofInt (1))) + x1)), some (.int (l2 * (Int32.ofInt (3)))), o5, o6], [.ref 58, .int (s.2.2.1 60 (l2.toInt.toNat)), .int (((s.1 28 2) + (Int32.ofInt (1))) + x1), .ref 28], sg_h s, 0, 0)) rfl ?_
        refine am_Pn.gr (k := 5) rfl rfl am_o58 rfl rfl ?_
        refine am_Pn.bl 1 (y := (66, [some (.ref 58), some (.int x1), some (.int l2), some (.int (((s.1 28 2) + (Int32.ofInt (1))) + x1)), some (.int (l2 * (Int32.ofInt (3)))), o5, o6], [.int (l2 * (Int32.ofInt (3))), .ref 59, .int (s.2.2.1 60 (l2.toInt.toNat)), .int (((s.1 28 2) + (Int32.ofInt (1))) + x1), .ref 28], sg_h s, 0, 0)) rfl ?_
        refine am_Pn.ia (a := 59) rfl rfl rfl rfl (fun hi => ?_)
        replace h := h (am_in0 hi) (am_in1 hi)
        refine am_Pn.bl 1 (y := (68, [some (.ref 58), some (.int x1), some (.int l2), some (.int (((s.1 28 2) + (Int32.ofInt (1))) + x1)), some (.int (l2 * (Int32.ofInt (3)))), o5, o6], [.ref 58, .int (s.2.2.1 59 ((l2 * (Int32.ofInt (3))).toInt.toNat)), .int (s.2.2.1 60 (l2.toInt.toNat)), .int (((s.1 28 2) + (Int32.ofInt (1))) + x1), .ref 28], sg_h s, 0, 0)) rfl ?_
        refine am_Pn.gr (k := 5) rfl rfl am_o58 rfl rfl ?_
        refine am_Pn.bl 3 (y := (75, [some (.ref 58), some (.int x1), some (.int l2), some (.int (((s.1 28 2) + (Int32.ofInt (1))) + x1)), some (.int (l2 * (Int32.ofInt (3)))), o5, o6], [.int ((l2 * (Int32.ofInt (3))) + (Int32.ofInt (1))), .ref 59, .int (s.2.2.1 59 ((l2 * (Int32.ofInt (3))).toInt.toNat)), .int (s.2.2.1 60 (l2.toInt.toNat)), .int (((s.1 28 2) + (Int32.ofInt (1))) + x1), .ref 28], sg_h s, 0, 0)) rfl ?_
        refine am_Pn.ia (a := 59) rfl rfl rfl rfl (fun hi => ?_)
        replace h := h (am_in0 hi) (am_in1 hi)
        refine am_Pn.bl 1 (y := (77, [some (.ref 58), some (.int x1), some (.int l2), some (.int (((s.1 28 2) + (Int32.ofInt (1))) + x1)), some (.int (l2 * (Int32.ofInt (3)))), o5, o6], [.ref 58, .int (s.2.2.1 59 (((l2 * (Int32.ofInt (3))) + (Int32.ofInt (1))).toInt.toNat)), .int (s.2.2.1 59 ((l2 * (Int32.ofInt (3))).toInt.toNat)), .int (s.2.2.1 60 (l2.toInt.toNat)), .int (((s.1 28 2) + (Int32.ofInt (1))) + x1), .ref 28], sg_h s, 0, 0)) rfl ?_
        refine am_Pn.gr (k := 5) rfl rfl am_o58 rfl rfl ?_
        refine am_Pn.bl 3 (y := (84, [some (.ref 58), some (.int x1), some (.int l2), some (.int (((s.1 28 2) + (Int32.ofInt (1))) + x1)), some (.int (l2 * (Int32.ofInt (3)))), o5, o6], [.int ((l2 * (Int32.ofInt (3))) + (Int32.ofInt (2))), .ref 59, .int (s.2.2.1 59 (((l2 * (Int32.ofInt (3))) + (Int32.ofInt (1))).toInt.toNat)), .int (s.2.2.1 59 ((l2 * (Int32.ofInt (3))).toInt.toNat)), .int (s.2.2.1 60 (l2.toInt.toNat)), .int (((s.1 28 2) + (Int32.ofInt (1))) + x1), .ref 28], sg_h s, 0, 0)) rfl ?_
        refine am_Pn.ia (a := 59) rfl rfl rfl rfl (fun hi => ?_)
        replace h := h (am_in0 hi) (am_in1 hi)
        refine am_Pn.cvV hcl h rfl rfl rfl rfl rfl (fun s2 h => ?_)
        refine am_Pn.bl 1 (y := (89, [some (.ref 58), some (.int x1), some (.int l2), some (.int (((s.1 28 2) + (Int32.ofInt (1))) + x1)), some (.int (l2 * (Int32.ofInt (3)))), o5, o6], [.ref 58], sg_h s2, 0, 0)) rfl ?_
        refine am_Pn.gr (k := 2) rfl rfl am_o58 rfl rfl ?_
        refine am_Pn.bl 1 (y := (93, [some (.ref 58), some (.int x1), some (.int l2), some (.int (((s.1 28 2) + (Int32.ofInt (1))) + x1)), some (.int (l2 * (Int32.ofInt (3)))), o5, o6], [.int (((s.1 28 2) + (Int32.ofInt (1))) + x1), .ref 28], sg_h s2, 0, 0)) rfl ?_
        refine am_Pn.cvI hcl h rfl rfl rfl rfl rfl (fun x3 s3 h => ?_)
        refine am_Pn.bl 1 (y := (97, [some (.ref 58), some (.int x1), some (.int l2), some (.int (((s.1 28 2) + (Int32.ofInt (1))) + x1)), some (.int (l2 * (Int32.ofInt (3)))), o5, o6], [.int (Int32.ofInt (-1)), .int x3], sg_h s3, 0, 0)) rfl ?_
        refine am_Pn.bT h (am_beq rfl rfl) rfl rfl (fun h => ?_) (fun h => ?_)
        · refine am_Pn.bl 1 (y := (103, [some (.ref 58), some (.int x1), some (.int l2), some (.int (((s.1 28 2) + (Int32.ofInt (1))) + x1)), some (.int (l2 * (Int32.ofInt (3)))), o5, o6], [.int x1], sg_h s3, 0, 0)) rfl ?_
          refine am_Pn.zF h (am_bne rfl rfl) rfl rfl (fun h => ?_) (fun h => ?_)
          · refine am_Pn.bl 1 (y := (111, [some (.ref 58), some (.int x1), some (.int l2), some (.int (((s.1 28 2) + (Int32.ofInt (1))) + x1)), some (.int (l2 * (Int32.ofInt (3)))), o5, o6], [.ref 58], sg_h s3, 0, 0)) rfl ?_
            refine am_Pn.gr (k := 11) rfl rfl am_o58 rfl rfl ?_
            refine am_Pn.bl 3 (y := (117, [some (.ref 58), some (.int x1), some (.int l2), some (.int (((s.1 28 2) + (Int32.ofInt (1))) + x1)), some (.int (l2 * (Int32.ofInt (3)))), o5, o6], [.int (x1 - (Int32.ofInt (1))), .ref 63], sg_h s3, 0, 0)) rfl ?_
            refine am_Pn.ia (a := 63) rfl rfl rfl rfl (fun hi => ?_)
            replace h := h (am_in0 hi) (am_in1 hi)
            refine am_Pn.bl 3 (y := (122, [some (.ref 58), some (.int x1), some (.int l2), some (.int (((s.1 28 2) + (Int32.ofInt (1))) + x1)), some (.int (l2 * (Int32.ofInt (3)))), some (.int (s3.2.2.1 63 ((x1 - (Int32.ofInt (1))).toInt.toNat))), o6], [.int (Int32.ofInt (1)), .int (((s.1 28 2) + (Int32.ofInt (1))) + x1)], sg_h s3, 0, 0)) rfl ?_
            refine am_Pn.bF h (am_bne rfl rfl) rfl rfl (fun h => ?_) (fun h => ?_)
            · refine am_Pn.bl 1 (y := (130, [some (.ref 58), some (.int x1), some (.int l2), some (.int (((s.1 28 2) + (Int32.ofInt (1))) + x1)), some (.int (l2 * (Int32.ofInt (3)))), some (.int (s3.2.2.1 63 ((x1 - (Int32.ofInt (1))).toInt.toNat))), o6], [.ref 58], sg_h s3, 0, 0)) rfl ?_
              refine am_Pn.gr (k := 1) rfl rfl am_o58 rfl rfl ?_
              refine am_Pn.bl 1 (y := (134, [some (.ref 58), some (.int x1), some (.int l2), some (.int (((s.1 28 2) + (Int32.ofInt (1))) + x1)), some (.int (l2 * (Int32.ofInt (3)))), some (.int (s3.2.2.1 63 ((x1 - (Int32.ofInt (1))).toInt.toNat))), o6], [.ref 58, .ref 22], sg_h s3, 0, 0)) rfl ?_
              refine am_Pn.gr (k := 2) rfl rfl am_o58 rfl rfl ?_
              refine am_Pn.gr (k := 5) rfl rfl am_o28 rfl rfl ?_
              refine am_Pn.bl 3 (y := (143, [some (.ref 58), some (.int x1), some (.int l2), some (.int (((s.1 28 2) + (Int32.ofInt (1))) + x1)), some (.int (l2 * (Int32.ofInt (3)))), some (.int (s3.2.2.1 63 ((x1 - (Int32.ofInt (1))).toInt.toNat))), o6], [.int ((((s.1 28 2) + (Int32.ofInt (1))) + x1) - (Int32.ofInt (1))), .ref 30, .ref 22], sg_h s3, 0, 0)) rfl ?_
              refine am_Pn.ia (a := 30) rfl rfl rfl rfl (fun hi => ?_)
              replace h := h (am_in0 hi) (am_in1 hi)
              refine am_Pn.bl 1 (y := (145, [some (.ref 58), some (.int x1), some (.int l2), some (.int (((s.1 28 2) + (Int32.ofInt (1))) + x1)), some (.int (l2 * (Int32.ofInt (3)))), some (.int (s3.2.2.1 63 ((x1 - (Int32.ofInt (1))).toInt.toNat))), o6], [.ref 58, .int (s3.2.2.1 30 (((((s.1 28 2) + (Int32.ofInt (1))) + x1) - (Int32.ofInt (1))).toInt.toNat)), .ref 22], sg_h s3, 0, 0)) rfl ?_
              refine am_Pn.gr (k := 6) rfl rfl am_o58 rfl rfl ?_
              refine am_Pn.bl 1 (y := (149, [some (.ref 58), some (.int x1), some (.int l2), some (.int (((s.1 28 2) + (Int32.ofInt (1))) + x1)), some (.int (l2 * (Int32.ofInt (3)))), some (.int (s3.2.2.1 63 ((x1 - (Int32.ofInt (1))).toInt.toNat))), o6], [.int l2, .ref 60, .int (s3.2.2.1 30 (((((s.1 28 2) + (Int32.ofInt (1))) + x1) - (Int32.ofInt (1))).toInt.toNat)), .ref 22], sg_h s3, 0, 0)) rfl ?_
              refine am_Pn.ia (a := 60) rfl rfl rfl rfl (fun hi => ?_)
              replace h := h (am_in0 hi) (am_in1 hi)
              refine am_Pn.cvI hcl h rfl rfl rfl rfl rfl (fun x4 s4 h => ?_)
              refine am_Pn.bl 2 (y := (156, [some (.ref 58), some (.int x1), some (.int l2), some (.int (((s.1 28 2) + (Int32.ofInt (1))) + x1)), some (.int (l2 * (Int32.ofInt (3)))), some (.int (s3.2.2.1 63 ((x1 - (Int32.ofInt (1))).toInt.toNat))), some (.int x4)], [.ref 58], sg_h s4, 0, 0)) rfl ?_
              refine am_Pn.gr (k := 11) rfl rfl am_o58 rfl rfl ?_
              refine am_Pn.bl 4 (y := (165, [some (.ref 58), some (.int x1), some (.int l2), some (.int (((s.1 28 2) + (Int32.ofInt (1))) + x1)), some (.int (l2 * (Int32.ofInt (3)))), some (.int (s3.2.2.1 63 ((x1 - (Int32.ofInt (1))).toInt.toNat))), some (.int x4)], [.int ((s3.2.2.1 63 ((x1 - (Int32.ofInt (1))).toInt.toNat)) + x4), .int x1, .ref 63], sg_h s4, 0, 0)) rfl ?_
              refine am_Pn.is (a := 63) rfl rfl rfl (fun hi => ?_)
              replace h := h (am_in0 hi) (am_in1 hi)
              refine am_Pn.bl 1 (y := (167, [some (.ref 58), some (.int x1), some (.int l2), some (.int (((s.1 28 2) + (Int32.ofInt (1))) + x1)), some (.int (l2 * (Int32.ofInt (3)))), some (.int (s3.2.2.1 63 ((x1 - (Int32.ofInt (1))).toInt.toNat))), some (.int x4)], [.int (Int32.ofInt (1))], sg_h (sg_uA s4 63 (x1.toInt.toNat) ((s3.2.2.1 63 ((x1 - (Int32.ofInt (1))).toInt.toNat)) + x4)), 0, 0)) rfl ?_
              exact am_Pn.rI h rfl
            · refine am_Pn.bl 4 (y := (156, [some (.ref 58), some (.int x1), some (.int l2), some (.int (((s.1 28 2) + (Int32.ofInt (1))) + x1)), some (.int (l2 * (Int32.ofInt (3)))), some (.int (s3.2.2.1 63 ((x1 - (Int32.ofInt (1))).toInt.toNat))), some (.int (Int32.ofInt (0)))], [.ref 58], sg_h s3, 0, 0)) rfl ?_
              refine am_Pn.gr (k := 11) rfl rfl am_o58 rfl rfl ?_
              refine am_Pn.bl 4 (y := (165, [some (.ref 58), some (.int x1), some (.int l2), some (.int (((s.1 28 2) + (Int32.ofInt (1))) + x1)), some (.int (l2 * (Int32.ofInt (3)))), some (.int (s3.2.2.1 63 ((x1 - (Int32.ofInt (1))).toInt.toNat))), some (.int (Int32.ofInt (0)))], [.int ((s3.2.2.1 63 ((x1 - (Int32.ofInt (1))).toInt.toNat)) + (Int32.ofInt (0))), .int x1, .ref 63], sg_h s3, 0, 0)) rfl ?_
              refine am_Pn.is (a := 63) rfl rfl rfl (fun hi => ?_)
              replace h := h (am_in0 hi) (am_in1 hi)
              refine am_Pn.bl 1 (y := (167, [some (.ref 58), some (.int x1), some (.int l2), some (.int (((s.1 28 2) + (Int32.ofInt (1))) + x1)), some (.int (l2 * (Int32.ofInt (3)))), some (.int (s3.2.2.1 63 ((x1 - (Int32.ofInt (1))).toInt.toNat))), some (.int (Int32.ofInt (0)))], [.int (Int32.ofInt (1))], sg_h (sg_uA s3 63 (x1.toInt.toNat) ((s3.2.2.1 63 ((x1 - (Int32.ofInt (1))).toInt.toNat)) + (Int32.ofInt (0)))), 0, 0)) rfl ?_
              exact am_Pn.rI h rfl
          · refine am_Pn.bl 5 (y := (122, [some (.ref 58), some (.int x1), some (.int l2), some (.int (((s.1 28 2) + (Int32.ofInt (1))) + x1)), some (.int (l2 * (Int32.ofInt (3)))), some (.int (Int32.ofInt (0))), o6], [.int (Int32.ofInt (1)), .int (((s.1 28 2) + (Int32.ofInt (1))) + x1)], sg_h s3, 0, 0)) rfl ?_
            refine am_Pn.bF h (am_bne rfl rfl) rfl rfl (fun h => ?_) (fun h => ?_)
            · refine am_Pn.bl 1 (y := (130, [some (.ref 58), some (.int x1), some (.int l2), some (.int (((s.1 28 2) + (Int32.ofInt (1))) + x1)), some (.int (l2 * (Int32.ofInt (3)))), some (.int (Int32.ofInt (0))), o6], [.ref 58], sg_h s3, 0, 0)) rfl ?_
              refine am_Pn.gr (k := 1) rfl rfl am_o58 rfl rfl ?_
              refine am_Pn.bl 1 (y := (134, [some (.ref 58), some (.int x1), some (.int l2), some (.int (((s.1 28 2) + (Int32.ofInt (1))) + x1)), some (.int (l2 * (Int32.ofInt (3)))), some (.int (Int32.ofInt (0))), o6], [.ref 58, .ref 22], sg_h s3, 0, 0)) rfl ?_
              refine am_Pn.gr (k := 2) rfl rfl am_o58 rfl rfl ?_
              refine am_Pn.gr (k := 5) rfl rfl am_o28 rfl rfl ?_
              refine am_Pn.bl 3 (y := (143, [some (.ref 58), some (.int x1), some (.int l2), some (.int (((s.1 28 2) + (Int32.ofInt (1))) + x1)), some (.int (l2 * (Int32.ofInt (3)))), some (.int (Int32.ofInt (0))), o6], [.int ((((s.1 28 2) + (Int32.ofInt (1))) + x1) - (Int32.ofInt (1))), .ref 30, .ref 22], sg_h s3, 0, 0)) rfl ?_
              refine am_Pn.ia (a := 30) rfl rfl rfl rfl (fun hi => ?_)
              replace h := h (am_in0 hi) (am_in1 hi)
              refine am_Pn.bl 1 (y := (145, [some (.ref 58), some (.int x1), some (.int l2), some (.int (((s.1 28 2) + (Int32.ofInt (1))) + x1)), some (.int (l2 * (Int32.ofInt (3)))), some (.int (Int32.ofInt (0))), o6], [.ref 58, .int (s3.2.2.1 30 (((((s.1 28 2) + (Int32.ofInt (1))) + x1) - (Int32.ofInt (1))).toInt.toNat)), .ref 22], sg_h s3, 0, 0)) rfl ?_
              refine am_Pn.gr (k := 6) rfl rfl am_o58 rfl rfl ?_
              refine am_Pn.bl 1 (y := (149, [some (.ref 58), some (.int x1), some (.int l2), some (.int (((s.1 28 2) + (Int32.ofInt (1))) + x1)), some (.int (l2 * (Int32.ofInt (3)))), some (.int (Int32.ofInt (0))), o6], [.int l2, .ref 60, .int (s3.2.2.1 30 (((((s.1 28 2) + (Int32.ofInt (1))) + x1) - (Int32.ofInt (1))).toInt.toNat)), .ref 22], sg_h s3, 0, 0)) rfl ?_
              refine am_Pn.ia (a := 60) rfl rfl rfl rfl (fun hi => ?_)
              replace h := h (am_in0 hi) (am_in1 hi)
              refine am_Pn.cvI hcl h rfl rfl rfl rfl rfl (fun x5 s5 h => ?_)
              refine am_Pn.bl 2 (y := (156, [some (.ref 58), some (.int x1), some (.int l2), some (.int (((s.1 28 2) + (Int32.ofInt (1))) + x1)), some (.int (l2 * (Int32.ofInt (3)))), some (.int (Int32.ofInt (0))), some (.int x5)], [.ref 58], sg_h s5, 0, 0)) rfl ?_
              refine am_Pn.gr (k := 11) rfl rfl am_o58 rfl rfl ?_
              refine am_Pn.bl 4 (y := (165, [some (.ref 58), some (.int x1), some (.int l2), some (.int (((s.1 28 2) + (Int32.ofInt (1))) + x1)), some (.int (l2 * (Int32.ofInt (3)))), some (.int (Int32.ofInt (0))), some (.int x5)], [.int ((Int32.ofInt (0)) + x5), .int x1, .ref 63], sg_h s5, 0, 0)) rfl ?_
              refine am_Pn.is (a := 63) rfl rfl rfl (fun hi => ?_)
              replace h := h (am_in0 hi) (am_in1 hi)
              refine am_Pn.bl 1 (y := (167, [some (.ref 58), some (.int x1), some (.int l2), some (.int (((s.1 28 2) + (Int32.ofInt (1))) + x1)), some (.int (l2 * (Int32.ofInt (3)))), some (.int (Int32.ofInt (0))), some (.int x5)], [.int (Int32.ofInt (1))], sg_h (sg_uA s5 63 (x1.toInt.toNat) ((Int32.ofInt (0)) + x5)), 0, 0)) rfl ?_
              exact am_Pn.rI h rfl
            · refine am_Pn.bl 4 (y := (156, [some (.ref 58), some (.int x1), some (.int l2), some (.int (((s.1 28 2) + (Int32.ofInt (1))) + x1)), some (.int (l2 * (Int32.ofInt (3)))), some (.int (Int32.ofInt (0))), some (.int (Int32.ofInt (0)))], [.ref 58], sg_h s3, 0, 0)) rfl ?_
              refine am_Pn.gr (k := 11) rfl rfl am_o58 rfl rfl ?_
              refine am_Pn.bl 4 (y := (165, [some (.ref 58), some (.int x1), some (.int l2), some (.int (((s.1 28 2) + (Int32.ofInt (1))) + x1)), some (.int (l2 * (Int32.ofInt (3)))), some (.int (Int32.ofInt (0))), some (.int (Int32.ofInt (0)))], [.int ((Int32.ofInt (0)) + (Int32.ofInt (0))), .int x1, .ref 63], sg_h s3, 0, 0)) rfl ?_
              refine am_Pn.is (a := 63) rfl rfl rfl (fun hi => ?_)
              replace h := h (am_in0 hi) (am_in1 hi)
              refine am_Pn.bl 1 (y := (167, [some (.ref 58), some (.int x1), some (.int l2), some (.int (((s.1 28 2) + (Int32.ofInt (1))) + x1)), some (.int (l2 * (Int32.ofInt (3)))), some (.int (Int32.ofInt (0))), some (.int (Int32.ofInt (0)))], [.int (Int32.ofInt (1))], sg_h (sg_uA s3 63 (x1.toInt.toNat) ((Int32.ofInt (0)) + (Int32.ofInt (0)))), 0, 0)) rfl ?_
              exact am_Pn.rI h rfl
        · refine am_Pn.bl 1 (y := (101, [some (.ref 58), some (.int x1), some (.int l2), some (.int (((s.1 28 2) + (Int32.ofInt (1))) + x1)), some (.int (l2 * (Int32.ofInt (3)))), o5, o6], [.int (Int32.ofInt (0))], sg_h s3, 0, 0)) rfl ?_
          exact am_Pn.rI h rfl
      · refine am_Pn.bl 1 (y := (15, [some (.ref 58), some (.int x1), some (.int l2), some (.int l3), o4, o5, o6], [.ref 58], sg_h s, 0, 0)) rfl ?_
        refine am_Pn.gr (k := 10) rfl rfl am_o58 rfl rfl ?_
        refine am_Pn.bl 1 (y := (19, [some (.ref 58), some (.int x1), some (.int l2), some (.int l3), o4, o5, o6], [.int l3, .ref 62], sg_h s, 0, 0)) rfl ?_
        refine am_Pn.ia (a := 62) rfl rfl rfl rfl (fun hi => ?_)
        replace h := h (am_in0 hi) (am_in1 hi)
        refine am_Pn.bl 1 (y := (21, [some (.ref 58), some (.int x1), some (.int l2), some (.int l3), o4, o5, o6], [.int l2, .int (s.2.2.1 62 (l3.toInt.toNat))], sg_h s, 0, 0)) rfl ?_
        refine am_Pn.bF h (am_bne rfl rfl) rfl rfl (fun h => ?_) (fun h => ?_)
        · refine am_Pn.bl 2 (y := (9, [some (.ref 58), some (.int x1), some (.int l2), some (.int (l3 + Int32.ofInt (1))), o4, o5, o6], [], sg_h s, 0, 0)) rfl ?_
          exact (ih) o4 o5 o6 l2 (l3 + Int32.ofInt (1)) s h
        · refine am_Pn.bl 1 (y := (25, [some (.ref 58), some (.int x1), some (.int l2), some (.int l3), o4, o5, o6], [.int (Int32.ofInt (0))], sg_h s, 0, 0)) rfl ?_
          exact am_Pn.rI h rfl
  unfold wp_XStore_isGood at h
  refine am_Pn.bl 1 (y := (1, [some (.ref 58), some (.int x1), none, none, none, none, none], [.ref 58], sg_h s, 0, 0)) rfl ?_
  refine am_Pn.gr (k := 10) rfl rfl am_o58 rfl rfl ?_
  refine am_Pn.bl 1 (y := (5, [some (.ref 58), some (.int x1), none, none, none, none, none], [.int x1, .ref 62], sg_h s, 0, 0)) rfl ?_
  refine am_Pn.ia (a := 62) rfl rfl rfl rfl (fun hi => ?_)
  replace h := h (am_in0 hi) (am_in1 hi)
  refine am_Pn.bl 3 (y := (9, [some (.ref 58), some (.int x1), some (.int (s.2.2.1 62 (x1.toInt.toNat))), some (.int (Int32.ofInt (0))), none, none, none], [], sg_h s, 0, 0)) rfl ?_
  exact ((key n)) none none none (s.2.2.1 62 (x1.toInt.toNat)) (Int32.ofInt (0)) s h
def wp_XStore_keepIfBetter_37 (I37 : Int32 → Int32 →  sg_S → Prop) (Ψ : sg_S → Prop) (x1 : Int32) (l2 : Int32) (l3 : Int32) (s : sg_S) : Prop := ((l3.toInt < x1.toInt → (0 ≤ l3.toInt → l3.toInt < (3) → (I37 l2 (l3 + Int32.ofInt (1)) (sg_uA s 61 (l3.toInt.toNat) (s.2.2.1 62 (l3.toInt.toNat)))))) ∧ (¬ l3.toInt < x1.toInt → (Ψ s)))
def wp_XStore_keepIfBetter (I37 : Int32 → Int32 →  sg_S → Prop) (Ψ : sg_S → Prop) (x1 : Int32) (s : sg_S) : Prop := (0 ≤ (x1 - (Int32.ofInt (1))).toInt → (x1 - (Int32.ofInt (1))).toInt < (3) → (((s.1 58 7).toInt = (0) → (I37 (s.2.2.1 63 ((x1 - (Int32.ofInt (1))).toInt.toNat)) (Int32.ofInt (0)) (sg_uI (sg_uI s 58 7 x1) 58 8 (s.2.2.1 63 ((x1 - (Int32.ofInt (1))).toInt.toNat))))) ∧ (¬ (s.1 58 7).toInt = (0) → (((s.1 58 8).toInt < (s.2.2.1 63 ((x1 - (Int32.ofInt (1))).toInt.toNat)).toInt → (I37 (s.2.2.1 63 ((x1 - (Int32.ofInt (1))).toInt.toNat)) (Int32.ofInt (0)) (sg_uI (sg_uI s 58 7 x1) 58 8 (s.2.2.1 63 ((x1 - (Int32.ofInt (1))).toInt.toNat))))) ∧ (¬ (s.1 58 8).toInt < (s.2.2.1 63 ((x1 - (Int32.ofInt (1))).toInt.toNat)).toInt → (Ψ s))))))
set_option maxRecDepth 100000 in
theorem wp_XStore_keepIfBetter_ok {I37 : Int32 → Int32 →  sg_S → Prop} {Ψ : sg_S → Prop} {x1 : Int32} {s : sg_S} (k37 : ∀ (l2 : Int32) (l3 : Int32) (s : sg_S), I37 l2 l3 s → wp_XStore_keepIfBetter_37 I37 Ψ x1 l2 l3 s) (h : wp_XStore_keepIfBetter I37 Ψ x1 s) : am_SpV 112 [.ref 58, .int x1] s Ψ := by
  refine am_SpV.mk (r := am_r112) rfl rfl (fun call d al n hcl => ?_)
  have key : ∀ n, (∀ (l2 : Int32) (l3 : Int32) (s : sg_S), I37 l2 l3 s → am_Pn call d (0, fun _ => 0) al am_r112 (am_PhV am_r112 Ψ) n (37, [some (.ref 58), some (.int x1), some (.int l2), some (.int l3)], [], sg_h s, 0, 0)) := by
    intro n
    induction n with
    | zero => exact fun _ _ _ _ => am_Pn.zero
    | succ n ih =>
      intro l2 l3 s h
      replace h := k37 l2 l3 s h
      unfold wp_XStore_keepIfBetter_37 at h
      refine am_Pn.bl1 1 (y := (39, [some (.ref 58), some (.int x1), some (.int l2), some (.int l3)], [.int x1, .int l3], sg_h s, 0, 0)) rfl ?_
      refine am_Pn.bF h (am_bge rfl rfl) rfl rfl (fun h => ?_) (fun h => ?_)
      · exact am_Pn.rV h rfl
      · refine am_Pn.bl 1 (y := (43, [some (.ref 58), some (.int x1), some (.int l2), some (.int l3)], [.ref 58], sg_h s, 0, 0)) rfl ?_
        refine am_Pn.gr (k := 9) rfl rfl am_o58 rfl rfl ?_
        refine am_Pn.bl 2 (y := (48, [some (.ref 58), some (.int x1), some (.int l2), some (.int l3)], [.ref 58, .int l3, .ref 61], sg_h s, 0, 0)) rfl ?_
        refine am_Pn.gr (k := 10) rfl rfl am_o58 rfl rfl ?_
        refine am_Pn.bl 1 (y := (52, [some (.ref 58), some (.int x1), some (.int l2), some (.int l3)], [.int l3, .ref 62, .int l3, .ref 61], sg_h s, 0, 0)) rfl ?_
        refine am_Pn.ia (a := 62) rfl rfl rfl rfl (fun hi => ?_)
        replace h := h (am_in0 hi) (am_in1 hi)
        refine am_Pn.is (a := 61) rfl rfl rfl (fun hi => ?_)
        refine am_Pn.bl 2 (y := (37, [some (.ref 58), some (.int x1), some (.int l2), some (.int (l3 + Int32.ofInt (1)))], [], sg_h (sg_uA s 61 (l3.toInt.toNat) (s.2.2.1 62 (l3.toInt.toNat))), 0, 0)) rfl ?_
        exact (ih) l2 (l3 + Int32.ofInt (1)) (sg_uA s 61 (l3.toInt.toNat) (s.2.2.1 62 (l3.toInt.toNat))) h
  unfold wp_XStore_keepIfBetter at h
  refine am_Pn.bl 1 (y := (1, [some (.ref 58), some (.int x1), none, none], [.ref 58], sg_h s, 0, 0)) rfl ?_
  refine am_Pn.gr (k := 11) rfl rfl am_o58 rfl rfl ?_
  refine am_Pn.bl 3 (y := (7, [some (.ref 58), some (.int x1), none, none], [.int (x1 - (Int32.ofInt (1))), .ref 63], sg_h s, 0, 0)) rfl ?_
  refine am_Pn.ia (a := 63) rfl rfl rfl rfl (fun hi => ?_)
  replace h := h (am_in0 hi) (am_in1 hi)
  refine am_Pn.bl 2 (y := (10, [some (.ref 58), some (.int x1), some (.int (s.2.2.1 63 ((x1 - (Int32.ofInt (1))).toInt.toNat))), none], [.ref 58], sg_h s, 0, 0)) rfl ?_
  refine am_Pn.gi (k := 7) rfl rfl am_o58 rfl rfl ?_
  refine am_Pn.zT h (am_beq rfl rfl) rfl rfl (fun h => ?_) (fun h => ?_)
  · refine am_Pn.bl 2 (y := (27, [some (.ref 58), some (.int x1), some (.int (s.2.2.1 63 ((x1 - (Int32.ofInt (1))).toInt.toNat))), none], [.int x1, .ref 58], sg_h s, 0, 0)) rfl ?_
    refine am_Pn.pi (k := 7) rfl rfl am_o58 rfl rfl ?_
    refine am_Pn.bl 2 (y := (32, [some (.ref 58), some (.int x1), some (.int (s.2.2.1 63 ((x1 - (Int32.ofInt (1))).toInt.toNat))), none], [.int (s.2.2.1 63 ((x1 - (Int32.ofInt (1))).toInt.toNat)), .ref 58], sg_h (sg_uI s 58 7 x1), 0, 0)) rfl ?_
    refine am_Pn.pi (k := 8) rfl rfl am_o58 rfl rfl ?_
    refine am_Pn.bl 2 (y := (37, [some (.ref 58), some (.int x1), some (.int (s.2.2.1 63 ((x1 - (Int32.ofInt (1))).toInt.toNat))), some (.int (Int32.ofInt (0)))], [], sg_h (sg_uI (sg_uI s 58 7 x1) 58 8 (s.2.2.1 63 ((x1 - (Int32.ofInt (1))).toInt.toNat))), 0, 0)) rfl ?_
    exact ((key n)) (s.2.2.1 63 ((x1 - (Int32.ofInt (1))).toInt.toNat)) (Int32.ofInt (0)) (sg_uI (sg_uI s 58 7 x1) 58 8 (s.2.2.1 63 ((x1 - (Int32.ofInt (1))).toInt.toNat))) h
  · refine am_Pn.bl 2 (y := (18, [some (.ref 58), some (.int x1), some (.int (s.2.2.1 63 ((x1 - (Int32.ofInt (1))).toInt.toNat))), none], [.ref 58, .int (s.2.2.1 63 ((x1 - (Int32.ofInt (1))).toInt.toNat))], sg_h s, 0, 0)) rfl ?_
    refine am_Pn.gi (k := 8) rfl rfl am_o58 rfl rfl ?_
    refine am_Pn.bT h (am_bgt rfl rfl) rfl rfl (fun h => ?_) (fun h => ?_)
    · refine am_Pn.bl 2 (y := (27, [some (.ref 58), some (.int x1), some (.int (s.2.2.1 63 ((x1 - (Int32.ofInt (1))).toInt.toNat))), none], [.int x1, .ref 58], sg_h s, 0, 0)) rfl ?_
      refine am_Pn.pi (k := 7) rfl rfl am_o58 rfl rfl ?_
      refine am_Pn.bl 2 (y := (32, [some (.ref 58), some (.int x1), some (.int (s.2.2.1 63 ((x1 - (Int32.ofInt (1))).toInt.toNat))), none], [.int (s.2.2.1 63 ((x1 - (Int32.ofInt (1))).toInt.toNat)), .ref 58], sg_h (sg_uI s 58 7 x1), 0, 0)) rfl ?_
      refine am_Pn.pi (k := 8) rfl rfl am_o58 rfl rfl ?_
      refine am_Pn.bl 2 (y := (37, [some (.ref 58), some (.int x1), some (.int (s.2.2.1 63 ((x1 - (Int32.ofInt (1))).toInt.toNat))), some (.int (Int32.ofInt (0)))], [], sg_h (sg_uI (sg_uI s 58 7 x1) 58 8 (s.2.2.1 63 ((x1 - (Int32.ofInt (1))).toInt.toNat))), 0, 0)) rfl ?_
      exact ((key n)) (s.2.2.1 63 ((x1 - (Int32.ofInt (1))).toInt.toNat)) (Int32.ofInt (0)) (sg_uI (sg_uI s 58 7 x1) 58 8 (s.2.2.1 63 ((x1 - (Int32.ofInt (1))).toInt.toNat))) h
    · exact am_Pn.rV h rfl
def wp_XStore_search_35 (I35 : Int32 → Int32 →  sg_S → Prop) (Ψ : sg_S → Prop) (x1 : Int32) (l2 : Int32) (l3 : Int32) (s : sg_S) : Prop := ((l3.toInt < (10000) → ((l2.toInt < (0) → (Ψ s)) ∧ (¬ l2.toInt < (0) → (0 ≤ l2.toInt → l2.toInt < (3) → ((((sg_uA s 62 (l2.toInt.toNat) ((s.2.2.1 62 (l2.toInt.toNat)) + (Int32.ofInt (1)))).2.2.1 62 (l2.toInt.toNat)).toInt < (s.1 58 4).toInt → (am_SpI 111 [.ref 58, .int l2] (sg_uA s 62 (l2.toInt.toNat) ((s.2.2.1 62 (l2.toInt.toNat)) + (Int32.ofInt (1)))) (fun x3 s3 => ((x3.toInt = (0) → (I35 l2 (l3 + Int32.ofInt (1)) s3)) ∧ (¬ x3.toInt = (0) → ((l2.toInt = (x1 - (Int32.ofInt (1))).toInt → (am_SpV 112 [.ref 58, .int x1] s3 (fun s4 => (I35 l2 (l3 + Int32.ofInt (1)) s4)))) ∧ (¬ l2.toInt = (x1 - (Int32.ofInt (1))).toInt → (0 ≤ (l2 + Int32.ofInt (1)).toInt → (l2 + Int32.ofInt (1)).toInt < (3) → (I35 (l2 + Int32.ofInt (1)) (l3 + Int32.ofInt (1)) (sg_uA s3 62 ((l2 + Int32.ofInt (1)).toInt.toNat) (Int32.ofInt (-1)))))))))))) ∧ (¬ ((sg_uA s 62 (l2.toInt.toNat) ((s.2.2.1 62 (l2.toInt.toNat)) + (Int32.ofInt (1)))).2.2.1 62 (l2.toInt.toNat)).toInt < (s.1 58 4).toInt → (I35 (l2 + Int32.ofInt (-1)) (l3 + Int32.ofInt (1)) (sg_uA s 62 (l2.toInt.toNat) ((s.2.2.1 62 (l2.toInt.toNat)) + (Int32.ofInt (1))))))))))) ∧ (¬ l3.toInt < (10000) → (Ψ s)))
def wp_XStore_search (I35 : Int32 → Int32 →  sg_S → Prop) (Ψ : sg_S → Prop) (x1 : Int32) (s : sg_S) : Prop := (((s.1 1 3).toInt < ((s.1 28 2) + x1).toInt → (Ψ s)) ∧ (¬ (s.1 1 3).toInt < ((s.1 28 2) + x1).toInt → (am_SpV 110 [.ref 58] s (fun s2 => (I35 (Int32.ofInt (0)) (Int32.ofInt (0)) (sg_uA s2 62 (0) (Int32.ofInt (-1))))))))
set_option maxRecDepth 100000 in
theorem wp_XStore_search_ok {I35 : Int32 → Int32 →  sg_S → Prop} {Ψ : sg_S → Prop} {x1 : Int32} {s : sg_S} (k35 : ∀ (l2 : Int32) (l3 : Int32) (s : sg_S), I35 l2 l3 s → wp_XStore_search_35 I35 Ψ x1 l2 l3 s) (h : wp_XStore_search I35 Ψ x1 s) : am_SpV 109 [.ref 58, .int x1] s Ψ := by
  refine am_SpV.mk (r := am_r109) rfl rfl (fun call d al n hcl => ?_)
  have key : ∀ n, (∀ (l2 : Int32) (l3 : Int32) (s : sg_S), I35 l2 l3 s → am_Pn call d (0, fun _ => 0) al am_r109 (am_PhV am_r109 Ψ) n (35, [some (.ref 58), some (.int x1), some (.int l2), some (.int l3)], [], sg_h s, 0, 0)) := by
    intro n
    induction n with
    | zero => exact fun _ _ _ _ => am_Pn.zero
    | succ n ih =>
      intro l2 l3 s h
      replace h := k35 l2 l3 s h
      unfold wp_XStore_search_35 at h
      refine am_Pn.bl1 1 (y := (39, [some (.ref 58), some (.int x1), some (.int l2), some (.int l3)], [.int (Int32.ofInt (10000)), .int l3], sg_h s, 0, 0)) rfl ?_
      refine am_Pn.bF h (am_bge rfl rfl) rfl rfl (fun h => ?_) (fun h => ?_)
      · exact am_Pn.rV h rfl
      · refine am_Pn.bl 1 (y := (43, [some (.ref 58), some (.int x1), some (.int l2), some (.int l3)], [.int l2], sg_h s, 0, 0)) rfl ?_
        refine am_Pn.zT h (am_blt rfl rfl) rfl rfl (fun h => ?_) (fun h => ?_)
        · exact am_Pn.rV h rfl
        · refine am_Pn.bl 1 (y := (47, [some (.ref 58), some (.int x1), some (.int l2), some (.int l3)], [.ref 58], sg_h s, 0, 0)) rfl ?_
          refine am_Pn.gr (k := 10) rfl rfl am_o58 rfl rfl ?_
          refine am_Pn.bl 2 (y := (52, [some (.ref 58), some (.int x1), some (.int l2), some (.int l3)], [.int l2, .ref 62, .int l2, .ref 62], sg_h s, 0, 0)) rfl ?_
          refine am_Pn.ia (a := 62) rfl rfl rfl rfl (fun hi => ?_)
          replace h := h (am_in0 hi) (am_in1 hi)
          refine am_Pn.bl 2 (y := (55, [some (.ref 58), some (.int x1), some (.int l2), some (.int l3)], [.int ((s.2.2.1 62 (l2.toInt.toNat)) + (Int32.ofInt (1))), .int l2, .ref 62], sg_h s, 0, 0)) rfl ?_
          refine am_Pn.is (a := 62) rfl rfl rfl (fun hi => ?_)
          refine am_Pn.bl 1 (y := (57, [some (.ref 58), some (.int x1), some (.int l2), some (.int l3)], [.ref 58], sg_h (sg_uA s 62 (l2.toInt.toNat) ((s.2.2.1 62 (l2.toInt.toNat)) + (Int32.ofInt (1)))), 0, 0)) rfl ?_
          refine am_Pn.gr (k := 10) rfl rfl am_o58 rfl rfl ?_
          refine am_Pn.bl 1 (y := (61, [some (.ref 58), some (.int x1), some (.int l2), some (.int l3)], [.int l2, .ref 62], sg_h (sg_uA s 62 (l2.toInt.toNat) ((s.2.2.1 62 (l2.toInt.toNat)) + (Int32.ofInt (1)))), 0, 0)) rfl ?_
          refine am_Pn.ia (a := 62) rfl rfl rfl rfl (fun hi => ?_)
          refine am_Pn.bl 1 (y := (63, [some (.ref 58), some (.int x1), some (.int l2), some (.int l3)], [.ref 58, .int ((sg_uA s 62 (l2.toInt.toNat) ((s.2.2.1 62 (l2.toInt.toNat)) + (Int32.ofInt (1)))).2.2.1 62 (l2.toInt.toNat))], sg_h (sg_uA s 62 (l2.toInt.toNat) ((s.2.2.1 62 (l2.toInt.toNat)) + (Int32.ofInt (1)))), 0, 0)) rfl ?_
          refine am_Pn.gi (k := 4) rfl rfl am_o58 rfl rfl ?_
          refine am_Pn.bT h (am_blt rfl rfl) rfl rfl (fun h => ?_) (fun h => ?_)
          · refine am_Pn.bl 2 (y := (77, [some (.ref 58), some (.int x1), some (.int l2), some (.int l3)], [.int l2, .ref 58], sg_h (sg_uA s 62 (l2.toInt.toNat) ((s.2.2.1 62 (l2.toInt.toNat)) + (Int32.ofInt (1)))), 0, 0)) rfl ?_
            refine am_Pn.cvI hcl h rfl rfl rfl rfl rfl (fun x3 s3 h => ?_)
            refine am_Pn.zT h (am_beq rfl rfl) rfl rfl (fun h => ?_) (fun h => ?_)
            · refine am_Pn.bl 2 (y := (35, [some (.ref 58), some (.int x1), some (.int l2), some (.int (l3 + Int32.ofInt (1)))], [], sg_h s3, 0, 0)) rfl ?_
              exact (ih) l2 (l3 + Int32.ofInt (1)) s3 h
            · refine am_Pn.bl 4 (y := (87, [some (.ref 58), some (.int x1), some (.int l2), some (.int l3)], [.int (x1 - (Int32.ofInt (1))), .int l2], sg_h s3, 0, 0)) rfl ?_
              refine am_Pn.bF h (am_bne rfl rfl) rfl rfl (fun h => ?_) (fun h => ?_)
              · refine am_Pn.bl 2 (y := (102, [some (.ref 58), some (.int x1), some (.int (l2 + Int32.ofInt (1))), some (.int l3)], [.ref 58], sg_h s3, 0, 0)) rfl ?_
                refine am_Pn.gr (k := 10) rfl rfl am_o58 rfl rfl ?_
                refine am_Pn.bl 2 (y := (107, [some (.ref 58), some (.int x1), some (.int (l2 + Int32.ofInt (1))), some (.int l3)], [.int (Int32.ofInt (-1)), .int (l2 + Int32.ofInt (1)), .ref 62], sg_h s3, 0, 0)) rfl ?_
                refine am_Pn.is (a := 62) rfl rfl rfl (fun hi => ?_)
                replace h := h (am_in0 hi) (am_in1 hi)
                refine am_Pn.bl 2 (y := (35, [some (.ref 58), some (.int x1), some (.int (l2 + Int32.ofInt (1))), some (.int (l3 + Int32.ofInt (1)))], [], sg_h (sg_uA s3 62 ((l2 + Int32.ofInt (1)).toInt.toNat) (Int32.ofInt (-1))), 0, 0)) rfl ?_
                exact (ih) (l2 + Int32.ofInt (1)) (l3 + Int32.ofInt (1)) (sg_uA s3 62 ((l2 + Int32.ofInt (1)).toInt.toNat) (Int32.ofInt (-1))) h
              · refine am_Pn.bl 2 (y := (92, [some (.ref 58), some (.int x1), some (.int l2), some (.int l3)], [.int x1, .ref 58], sg_h s3, 0, 0)) rfl ?_
                refine am_Pn.cvV hcl h rfl rfl rfl rfl rfl (fun s4 h => ?_)
                refine am_Pn.bl 3 (y := (35, [some (.ref 58), some (.int x1), some (.int l2), some (.int (l3 + Int32.ofInt (1)))], [], sg_h s4, 0, 0)) rfl ?_
                exact (ih) l2 (l3 + Int32.ofInt (1)) s4 h
          · refine am_Pn.bl 4 (y := (35, [some (.ref 58), some (.int x1), some (.int (l2 + Int32.ofInt (-1))), some (.int (l3 + Int32.ofInt (1)))], [], sg_h (sg_uA s 62 (l2.toInt.toNat) ((s.2.2.1 62 (l2.toInt.toNat)) + (Int32.ofInt (1)))), 0, 0)) rfl ?_
            exact (ih) (l2 + Int32.ofInt (-1)) (l3 + Int32.ofInt (1)) (sg_uA s 62 (l2.toInt.toNat) ((s.2.2.1 62 (l2.toInt.toNat)) + (Int32.ofInt (1)))) h
  unfold wp_XStore_search at h
  refine am_Pn.bl 1 (y := (1, [some (.ref 58), some (.int x1), none, none], [.ref 58], sg_h s, 0, 0)) rfl ?_
  refine am_Pn.gr (k := 2) rfl rfl am_o58 rfl rfl ?_
  refine am_Pn.gi (k := 2) rfl rfl am_o28 rfl rfl ?_
  refine am_Pn.bl 3 (y := (10, [some (.ref 58), some (.int x1), none, none], [.ref 58, .int ((s.1 28 2) + x1)], sg_h s, 0, 0)) rfl ?_
  refine am_Pn.gr (k := 0) rfl rfl am_o58 rfl rfl ?_
  refine am_Pn.gi (k := 3) rfl rfl am_o1 rfl rfl ?_
  refine am_Pn.bF h (am_ble rfl rfl) rfl rfl (fun h => ?_) (fun h => ?_)
  · refine am_Pn.bl 1 (y := (21, [some (.ref 58), some (.int x1), none, none], [.ref 58], sg_h s, 0, 0)) rfl ?_
    refine am_Pn.cvV hcl h rfl rfl rfl rfl rfl (fun s2 h => ?_)
    refine am_Pn.bl 3 (y := (27, [some (.ref 58), some (.int x1), some (.int (Int32.ofInt (0))), none], [.ref 58], sg_h s2, 0, 0)) rfl ?_
    refine am_Pn.gr (k := 10) rfl rfl am_o58 rfl rfl ?_
    refine am_Pn.bl 2 (y := (32, [some (.ref 58), some (.int x1), some (.int (Int32.ofInt (0))), none], [.int (Int32.ofInt (-1)), .int (Int32.ofInt (0)), .ref 62], sg_h s2, 0, 0)) rfl ?_
    refine am_Pn.is (a := 62) rfl rfl rfl (fun hi => ?_)
    refine am_Pn.bl 2 (y := (35, [some (.ref 58), some (.int x1), some (.int (Int32.ofInt (0))), some (.int (Int32.ofInt (0)))], [], sg_h (sg_uA s2 62 (0) (Int32.ofInt (-1))), 0, 0)) rfl ?_
    exact ((key n)) (Int32.ofInt (0)) (Int32.ofInt (0)) (sg_uA s2 62 (0) (Int32.ofInt (-1))) h
  · exact am_Pn.rV h rfl
def wp_X_best (Ψ : Int32 → sg_S → Prop) (x1 : Int32) (s : sg_S) : Prop := (am_SpV 107 [.ref 58] s (fun s2 => ((x1.toInt < (1) → (Ψ (Int32.ofInt (-102)) s2)) ∧ (¬ x1.toInt < (1) → (((3) < x1.toInt → (Ψ (Int32.ofInt (-102)) s2)) ∧ (¬ (3) < x1.toInt → (((0) < (s2.1 28 3).toInt → (Ψ (Int32.ofInt (-109)) s2)) ∧ (¬ (0) < (s2.1 28 3).toInt → (am_SpV 109 [.ref 58, .int x1] s2 (fun s3 => (((s3.1 58 7).toInt = (0) → (Ψ (Int32.ofInt (-100)) s3)) ∧ (¬ (s3.1 58 7).toInt = (0) → (Ψ (s3.1 58 8) s3)))))))))))))
set_option maxRecDepth 100000 in
theorem wp_X_best_ok {Ψ : Int32 → sg_S → Prop} {x1 : Int32} {s : sg_S} (h : wp_X_best Ψ x1 s) : am_SpI 142 [.ref 0, .int x1] s Ψ := by
  refine am_SpI.mk (r := am_r142) rfl rfl (fun call d al n hcl => ?_)
  unfold wp_X_best at h
  refine am_Pn.bl 1 (y := (1, [some (.ref 0), some (.int x1)], [.ref 0], sg_h s, 0, 0)) rfl ?_
  refine am_Pn.gr (k := 7) rfl rfl am_o0 rfl rfl ?_
  refine am_Pn.cvV hcl h rfl rfl rfl rfl rfl (fun s2 h => ?_)
  refine am_Pn.bl 2 (y := (9, [some (.ref 0), some (.int x1)], [.int (Int32.ofInt (1)), .int x1], sg_h s2, 0, 0)) rfl ?_
  refine am_Pn.bT h (am_blt rfl rfl) rfl rfl (fun h => ?_) (fun h => ?_)
  · refine am_Pn.bl 1 (y := (19, [some (.ref 0), some (.int x1)], [.int (Int32.ofInt (-102))], sg_h s2, 0, 0)) rfl ?_
    exact am_Pn.rI h rfl
  · refine am_Pn.bl 2 (y := (14, [some (.ref 0), some (.int x1)], [.int (Int32.ofInt (3)), .int x1], sg_h s2, 0, 0)) rfl ?_
    refine am_Pn.bF h (am_ble rfl rfl) rfl rfl (fun h => ?_) (fun h => ?_)
    · refine am_Pn.bl 1 (y := (21, [some (.ref 0), some (.int x1)], [.ref 0], sg_h s2, 0, 0)) rfl ?_
      refine am_Pn.gr (k := 5) rfl rfl am_o0 rfl rfl ?_
      refine am_Pn.gi (k := 3) rfl rfl am_o28 rfl rfl ?_
      refine am_Pn.zF h (am_ble rfl rfl) rfl rfl (fun h => ?_) (fun h => ?_)
      · refine am_Pn.bl 1 (y := (34, [some (.ref 0), some (.int x1)], [.ref 0], sg_h s2, 0, 0)) rfl ?_
        refine am_Pn.gr (k := 7) rfl rfl am_o0 rfl rfl ?_
        refine am_Pn.bl 1 (y := (38, [some (.ref 0), some (.int x1)], [.int x1, .ref 58], sg_h s2, 0, 0)) rfl ?_
        refine am_Pn.cvV hcl h rfl rfl rfl rfl rfl (fun s3 h => ?_)
        refine am_Pn.bl 1 (y := (42, [some (.ref 0), some (.int x1)], [.ref 0], sg_h s3, 0, 0)) rfl ?_
        refine am_Pn.gr (k := 7) rfl rfl am_o0 rfl rfl ?_
        refine am_Pn.gi (k := 7) rfl rfl am_o58 rfl rfl ?_
        refine am_Pn.zF h (am_bne rfl rfl) rfl rfl (fun h => ?_) (fun h => ?_)
        · refine am_Pn.bl 1 (y := (57, [some (.ref 0), some (.int x1)], [.ref 0], sg_h s3, 0, 0)) rfl ?_
          refine am_Pn.gr (k := 7) rfl rfl am_o0 rfl rfl ?_
          refine am_Pn.gi (k := 8) rfl rfl am_o58 rfl rfl ?_
          exact am_Pn.rI h rfl
        · refine am_Pn.bl 2 (y := (63, [some (.ref 0), some (.int x1)], [.int (Int32.ofInt (-100))], sg_h s3, 0, 0)) rfl ?_
          exact am_Pn.rI h rfl
      · refine am_Pn.bl 1 (y := (32, [some (.ref 0), some (.int x1)], [.int (Int32.ofInt (-109))], sg_h s2, 0, 0)) rfl ?_
        exact am_Pn.rI h rfl
    · refine am_Pn.bl 1 (y := (19, [some (.ref 0), some (.int x1)], [.int (Int32.ofInt (-102))], sg_h s2, 0, 0)) rfl ?_
      exact am_Pn.rI h rfl
