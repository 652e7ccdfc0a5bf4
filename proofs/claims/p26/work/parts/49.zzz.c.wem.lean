/-! ===== what M's ends asks (printed by wip/ab/vg_ends.py) ===== -/
def wp_M_takes_14 (I14 : Int32 → Int32 →  sg_S → Prop) (Ψ : sg_S → Prop) (x1 : Int32) (x2 : Int32) (l3 : Int32) (l4 : Int32) (s : sg_S) : Prop := ((l4.toInt < (14) → (0 ≤ (l3 + l4).toInt → (l3 + l4).toInt < (274400) → (0 ≤ l4.toInt → l4.toInt < (14) → (I14 l3 (l4 + Int32.ofInt (1)) (sg_uA s 82 (l4.toInt.toNat) (s.2.2.1 89 ((l3 + l4).toInt.toNat))))))) ∧ (¬ l4.toInt < (14) → (Ψ s)))
def wp_M_takes (I14 : Int32 → Int32 →  sg_S → Prop) (Ψ : sg_S → Prop) (x1 : Int32) (x2 : Int32) (s : sg_S) : Prop := (I14 ((((Int32.ofInt (400)) * x1) + x2) * (Int32.ofInt (14))) (Int32.ofInt (0)) s)
set_option maxRecDepth 100000 in
theorem wp_M_takes_ok {I14 : Int32 → Int32 →  sg_S → Prop} {Ψ : sg_S → Prop} {x1 : Int32} {x2 : Int32} {s : sg_S} (k14 : ∀ (l3 : Int32) (l4 : Int32) (s : sg_S), I14 l3 l4 s → wp_M_takes_14 I14 Ψ x1 x2 l3 l4 s) (h : wp_M_takes I14 Ψ x1 x2 s) : am_SpV 199 [.ref 64, .int x1, .int x2] s Ψ := by
  refine am_SpV.mk (r := am_r199) rfl rfl (fun call d al n hcl => ?_)
  have key : ∀ n, (∀ (l3 : Int32) (l4 : Int32) (s : sg_S), I14 l3 l4 s → am_Pn call d (0, fun _ => 0) al am_r199 (am_PhV am_r199 Ψ) n (14, [some (.ref 64), some (.int x1), some (.int x2), some (.int l3), some (.int l4)], [], sg_h s, 0, 0)) := by
    intro n
    induction n with
    | zero => exact fun _ _ _ _ => am_Pn.zero
    | succ n ih =>
      intro l3 l4 s h
      replace h := k14 l3 l4 s h
      unfold wp_M_takes_14 at h
      refine am_Pn.bl1 1 (y := (18, [some (.ref 64), some (.int x1), some (.int x2), some (.int l3), some (.int l4)], [.int (Int32.ofInt (14)), .int l4], sg_h s, 0, 0)) rfl ?_
      refine am_Pn.bF h (am_bge rfl rfl) rfl rfl (fun h => ?_) (fun h => ?_)
      · exact am_Pn.rV h rfl
      · refine am_Pn.bl 1 (y := (22, [some (.ref 64), some (.int x1), some (.int x2), some (.int l3), some (.int l4)], [.ref 64], sg_h s, 0, 0)) rfl ?_
        refine am_Pn.gr (k := 39) rfl rfl am_o64 rfl rfl ?_
        refine am_Pn.bl 2 (y := (28, [some (.ref 64), some (.int x1), some (.int x2), some (.int l3), some (.int l4)], [.ref 64, .int l4, .ref 82], sg_h s, 0, 0)) rfl ?_
        refine am_Pn.gr (k := 48) rfl rfl am_o64 rfl rfl ?_
        refine am_Pn.bl 3 (y := (35, [some (.ref 64), some (.int x1), some (.int x2), some (.int l3), some (.int l4)], [.int (l3 + l4), .ref 89, .int l4, .ref 82], sg_h s, 0, 0)) rfl ?_
        refine am_Pn.ia (a := 89) rfl rfl rfl rfl (fun hi => ?_)
        replace h := h (am_in0 hi) (am_in1 hi)
        refine am_Pn.is (a := 82) rfl rfl rfl (fun hi => ?_)
        replace h := h (am_in0 hi) (am_in1 hi)
        refine am_Pn.bl 2 (y := (14, [some (.ref 64), some (.int x1), some (.int x2), some (.int l3), some (.int (l4 + Int32.ofInt (1)))], [], sg_h (sg_uA s 82 (l4.toInt.toNat) (s.2.2.1 89 ((l3 + l4).toInt.toNat))), 0, 0)) rfl ?_
        exact (ih) l3 (l4 + Int32.ofInt (1)) (sg_uA s 82 (l4.toInt.toNat) (s.2.2.1 89 ((l3 + l4).toInt.toNat))) h
  unfold wp_M_takes at h
  refine am_Pn.bl 10 (y := (14, [some (.ref 64), some (.int x1), some (.int x2), some (.int ((((Int32.ofInt (400)) * x1) + x2) * (Int32.ofInt (14)))), some (.int (Int32.ofInt (0)))], [], sg_h s, 0, 0)) rfl ?_
  exact ((key n)) ((((Int32.ofInt (400)) * x1) + x2) * (Int32.ofInt (14))) (Int32.ofInt (0)) s h
def wp_M_finds_2 (I2 : Int32 →  sg_S → Prop) (I128 : Int32 → Int32 →  sg_S → Prop) (I29 : Int32 → Int32 → Int32 → Int32 →  sg_S → Prop) (Ψ : Int32 → sg_S → Prop) (x1 : Int32) (l2 : Int32) (s : sg_S) : Prop := (0 ≤ x1.toInt → x1.toInt < (49) → ((l2.toInt < (s.2.2.1 90 (x1.toInt.toNat)).toInt → (I29 l2 ((((Int32.ofInt (400)) * x1) + l2) * (Int32.ofInt (14))) (Int32.ofInt (1)) (Int32.ofInt (0)) s)) ∧ (¬ l2.toInt < (s.2.2.1 90 (x1.toInt.toNat)).toInt → (((s.2.2.1 90 (x1.toInt.toNat)).toInt = (400) → (Ψ (Int32.ofInt (-1)) (sg_uI s 64 56 ((s.1 64 56) + (Int32.ofInt (1)))))) ∧ (¬ (s.2.2.1 90 (x1.toInt.toNat)).toInt = (400) → (I128 ((((Int32.ofInt (400)) * x1) + (s.2.2.1 90 (x1.toInt.toNat))) * (Int32.ofInt (14))) (Int32.ofInt (0)) (sg_uI s 64 56 ((s.1 64 56) + (Int32.ofInt (1))))))))))
def wp_M_finds_128 (I2 : Int32 →  sg_S → Prop) (I128 : Int32 → Int32 →  sg_S → Prop) (I29 : Int32 → Int32 → Int32 → Int32 →  sg_S → Prop) (Ψ : Int32 → sg_S → Prop) (x1 : Int32) (l2 : Int32) (l3 : Int32) (s : sg_S) : Prop := ((l3.toInt < (14) → (0 ≤ l3.toInt → l3.toInt < (14) → (0 ≤ (l2 + l3).toInt → (l2 + l3).toInt < (274400) → (I128 l2 (l3 + Int32.ofInt (1)) (sg_uA s 89 ((l2 + l3).toInt.toNat) (s.2.2.1 82 (l3.toInt.toNat))))))) ∧ (¬ l3.toInt < (14) → (0 ≤ x1.toInt → x1.toInt < (49) → (Ψ (((sg_uA s 90 (x1.toInt.toNat) ((s.2.2.1 90 (x1.toInt.toNat)) + (Int32.ofInt (1)))).2.2.1 90 (x1.toInt.toNat)) - (Int32.ofInt (1))) (sg_uA s 90 (x1.toInt.toNat) ((s.2.2.1 90 (x1.toInt.toNat)) + (Int32.ofInt (1))))))))
def wp_M_finds_29 (I2 : Int32 →  sg_S → Prop) (I128 : Int32 → Int32 →  sg_S → Prop) (I29 : Int32 → Int32 → Int32 → Int32 →  sg_S → Prop) (Ψ : Int32 → sg_S → Prop) (x1 : Int32) (l2 : Int32) (l3 : Int32) (l4 : Int32) (l5 : Int32) (s : sg_S) : Prop := ((l5.toInt < (14) → ((l4.toInt = (0) → ((l4.toInt = (0) → (I2 (l2 + Int32.ofInt (1)) s)) ∧ (¬ l4.toInt = (0) → (Ψ l2 s)))) ∧ (¬ l4.toInt = (0) → (0 ≤ (l3 + l5).toInt → (l3 + l5).toInt < (274400) → (0 ≤ l5.toInt → l5.toInt < (14) → (((s.2.2.1 89 ((l3 + l5).toInt.toNat)).toInt = (s.2.2.1 82 (l5.toInt.toNat)).toInt → (I29 l2 l3 (Int32.ofInt (1)) (l5 + Int32.ofInt (1)) s)) ∧ (¬ (s.2.2.1 89 ((l3 + l5).toInt.toNat)).toInt = (s.2.2.1 82 (l5.toInt.toNat)).toInt → (I29 l2 l3 (Int32.ofInt (0)) (l5 + Int32.ofInt (1)) s)))))))) ∧ (¬ l5.toInt < (14) → ((l4.toInt = (0) → (I2 (l2 + Int32.ofInt (1)) s)) ∧ (¬ l4.toInt = (0) → (Ψ l2 s)))))
def wp_M_finds (I2 : Int32 →  sg_S → Prop) (I128 : Int32 → Int32 →  sg_S → Prop) (I29 : Int32 → Int32 → Int32 → Int32 →  sg_S → Prop) (Ψ : Int32 → sg_S → Prop) (x1 : Int32) (s : sg_S) : Prop := (I2 (Int32.ofInt (0)) s)
set_option maxRecDepth 100000 in
theorem wp_M_finds_ok {I2 : Int32 →  sg_S → Prop} {I128 : Int32 → Int32 →  sg_S → Prop} {I29 : Int32 → Int32 → Int32 → Int32 →  sg_S → Prop} {Ψ : Int32 → sg_S → Prop} {x1 : Int32} {s : sg_S} (k2 : ∀ (l2 : Int32) (s : sg_S), I2 l2 s → wp_M_finds_2 I2 I128 I29 Ψ x1 l2 s) (k128 : ∀ (l2 : Int32) (l3 : Int32) (s : sg_S), I128 l2 l3 s → wp_M_finds_128 I2 I128 I29 Ψ x1 l2 l3 s) (k29 : ∀ (l2 : Int32) (l3 : Int32) (l4 : Int32) (l5 : Int32) (s : sg_S), I29 l2 l3 l4 l5 s → wp_M_finds_29 I2 I128 I29 Ψ x1 l2 l3 l4 l5 s) (h : wp_M_finds I2 I128 I29 Ψ x1 s) : am_SpI 200 [.ref 64, .int x1] s Ψ := by
  refine am_SpI.mk (r := am_r200) rfl rfl (fun call d al n hcl => ?_)
  have key : ∀ n, (∀ (o3 : Option Value) (o4 : Option Value) (o5 : Option Value) (l2 : Int32) (s : sg_S), I2 l2 s → am_Pn call d (0, fun _ => 0) al am_r200 (am_PhI am_r200 Ψ) n (2, [some (.ref 64), some (.int x1), some (.int l2), o3, o4, o5], [], sg_h s, 0, 0)) ∧ (∀ (o4 : Option Value) (o5 : Option Value) (l2 : Int32) (l3 : Int32) (s : sg_S), I128 l2 l3 s → am_Pn call d (0, fun _ => 0) al am_r200 (am_PhI am_r200 Ψ) n (128, [some (.ref 64), some (.int x1), some (.int l2), some (.int l3), o4, o5], [], sg_h s, 0, 0)) ∧ (∀ (l2 : Int32) (l3 : Int32) (l4 : Int32) (l5 : Int32) (s : sg_S), I29 l2 l3 l4 l5 s → am_Pn call d (0, fun _ => 0) al am_r200 (am_PhI am_r200 Ψ) n (29, [some (.ref 64), some (.int x1), some (.int l2), some (.int l3), some (.int l4), some (.int l5)], [], sg_h s, 0, 0)) := by
    intro n
    induction n with
    | zero => exact ⟨fun _ _ _ _ _ _ => am_Pn.zero, fun _ _ _ _ _ _ => am_Pn.zero, fun _ _ _ _ _ _ => am_Pn.zero⟩
    | succ n ih =>
      refine ⟨?_, ?_, ?_⟩
      · intro o3 o4 o5 l2 s h
        replace h := k2 l2 s h
        unfold wp_M_finds_2 at h
        refine am_Pn.bl1 1 (y := (4, [some (.ref 64), some (.int x1), some (.int l2), o3, o4, o5], [.ref 64, .int l2], sg_h s, 0, 0)) rfl ?_
        refine am_Pn.gr (k := 49) rfl rfl am_o64 rfl rfl ?_
        refine am_Pn.bl 1 (y := (8, [some (.ref 64), some (.int x1), some (.int l2), o3, o4, o5], [.int x1, .ref 90, .int l2], sg_h s, 0, 0)) rfl ?_
        refine am_Pn.ia (a := 90) rfl rfl rfl rfl (fun hi => ?_)
        replace h := h (am_in0 hi) (am_in1 hi)
        refine am_Pn.bF h (am_bge rfl rfl) rfl rfl (fun h => ?_) (fun h => ?_)
        · refine am_Pn.bl 2 (y := (88, [some (.ref 64), some (.int x1), some (.int l2), o3, o4, o5], [.ref 64, .ref 64], sg_h s, 0, 0)) rfl ?_
          refine am_Pn.gi (k := 56) rfl rfl am_o64 rfl rfl ?_
          refine am_Pn.bl 2 (y := (93, [some (.ref 64), some (.int x1), some (.int l2), o3, o4, o5], [.int ((s.1 64 56) + (Int32.ofInt (1))), .ref 64], sg_h s, 0, 0)) rfl ?_
          refine am_Pn.pi (k := 56) rfl rfl am_o64 rfl rfl ?_
          refine am_Pn.bl 1 (y := (97, [some (.ref 64), some (.int x1), some (.int l2), o3, o4, o5], [.ref 64], sg_h (sg_uI s 64 56 ((s.1 64 56) + (Int32.ofInt (1)))), 0, 0)) rfl ?_
          refine am_Pn.gr (k := 49) rfl rfl am_o64 rfl rfl ?_
          refine am_Pn.bl 1 (y := (101, [some (.ref 64), some (.int x1), some (.int l2), o3, o4, o5], [.int x1, .ref 90], sg_h (sg_uI s 64 56 ((s.1 64 56) + (Int32.ofInt (1)))), 0, 0)) rfl ?_
          refine am_Pn.ia (a := 90) rfl rfl rfl rfl (fun hi => ?_)
          refine am_Pn.bl 1 (y := (105, [some (.ref 64), some (.int x1), some (.int l2), o3, o4, o5], [.int (Int32.ofInt (400)), .int (s.2.2.1 90 (x1.toInt.toNat))], sg_h (sg_uI s 64 56 ((s.1 64 56) + (Int32.ofInt (1)))), 0, 0)) rfl ?_
          refine am_Pn.bF h (am_bne rfl rfl) rfl rfl (fun h => ?_) (fun h => ?_)
          · refine am_Pn.bl 4 (y := (116, [some (.ref 64), some (.int x1), some (.int l2), o3, o4, o5], [.ref 64, .int ((Int32.ofInt (400)) * x1)], sg_h (sg_uI s 64 56 ((s.1 64 56) + (Int32.ofInt (1)))), 0, 0)) rfl ?_
            refine am_Pn.gr (k := 49) rfl rfl am_o64 rfl rfl ?_
            refine am_Pn.bl 1 (y := (120, [some (.ref 64), some (.int x1), some (.int l2), o3, o4, o5], [.int x1, .ref 90, .int ((Int32.ofInt (400)) * x1)], sg_h (sg_uI s 64 56 ((s.1 64 56) + (Int32.ofInt (1)))), 0, 0)) rfl ?_
            refine am_Pn.ia (a := 90) rfl rfl rfl rfl (fun hi => ?_)
            refine am_Pn.bl 6 (y := (128, [some (.ref 64), some (.int x1), some (.int ((((Int32.ofInt (400)) * x1) + (s.2.2.1 90 (x1.toInt.toNat))) * (Int32.ofInt (14)))), some (.int (Int32.ofInt (0))), o4, o5], [], sg_h (sg_uI s 64 56 ((s.1 64 56) + (Int32.ofInt (1)))), 0, 0)) rfl ?_
            exact (ih.2.1) o4 o5 ((((Int32.ofInt (400)) * x1) + (s.2.2.1 90 (x1.toInt.toNat))) * (Int32.ofInt (14))) (Int32.ofInt (0)) (sg_uI s 64 56 ((s.1 64 56) + (Int32.ofInt (1)))) h
          · refine am_Pn.bl 1 (y := (109, [some (.ref 64), some (.int x1), some (.int l2), o3, o4, o5], [.int (Int32.ofInt (-1))], sg_h (sg_uI s 64 56 ((s.1 64 56) + (Int32.ofInt (1)))), 0, 0)) rfl ?_
            exact am_Pn.rI h rfl
        · refine am_Pn.bl 12 (y := (29, [some (.ref 64), some (.int x1), some (.int l2), some (.int ((((Int32.ofInt (400)) * x1) + l2) * (Int32.ofInt (14)))), some (.int (Int32.ofInt (1))), some (.int (Int32.ofInt (0)))], [], sg_h s, 0, 0)) rfl ?_
          exact (ih.2.2) l2 ((((Int32.ofInt (400)) * x1) + l2) * (Int32.ofInt (14))) (Int32.ofInt (1)) (Int32.ofInt (0)) s h
      · intro o4 o5 l2 l3 s h
        replace h := k128 l2 l3 s h
        unfold wp_M_finds_128 at h
        refine am_Pn.bl1 1 (y := (131, [some (.ref 64), some (.int x1), some (.int l2), some (.int l3), o4, o5], [.int (Int32.ofInt (14)), .int l3], sg_h s, 0, 0)) rfl ?_
        refine am_Pn.bF h (am_bge rfl rfl) rfl rfl (fun h => ?_) (fun h => ?_)
        · refine am_Pn.bl 1 (y := (155, [some (.ref 64), some (.int x1), some (.int l2), some (.int l3), o4, o5], [.ref 64], sg_h s, 0, 0)) rfl ?_
          refine am_Pn.gr (k := 49) rfl rfl am_o64 rfl rfl ?_
          refine am_Pn.bl 2 (y := (160, [some (.ref 64), some (.int x1), some (.int l2), some (.int l3), o4, o5], [.int x1, .ref 90, .int x1, .ref 90], sg_h s, 0, 0)) rfl ?_
          refine am_Pn.ia (a := 90) rfl rfl rfl rfl (fun hi => ?_)
          replace h := h (am_in0 hi) (am_in1 hi)
          refine am_Pn.bl 2 (y := (163, [some (.ref 64), some (.int x1), some (.int l2), some (.int l3), o4, o5], [.int ((s.2.2.1 90 (x1.toInt.toNat)) + (Int32.ofInt (1))), .int x1, .ref 90], sg_h s, 0, 0)) rfl ?_
          refine am_Pn.is (a := 90) rfl rfl rfl (fun hi => ?_)
          refine am_Pn.bl 1 (y := (165, [some (.ref 64), some (.int x1), some (.int l2), some (.int l3), o4, o5], [.ref 64], sg_h (sg_uA s 90 (x1.toInt.toNat) ((s.2.2.1 90 (x1.toInt.toNat)) + (Int32.ofInt (1)))), 0, 0)) rfl ?_
          refine am_Pn.gr (k := 49) rfl rfl am_o64 rfl rfl ?_
          refine am_Pn.bl 1 (y := (169, [some (.ref 64), some (.int x1), some (.int l2), some (.int l3), o4, o5], [.int x1, .ref 90], sg_h (sg_uA s 90 (x1.toInt.toNat) ((s.2.2.1 90 (x1.toInt.toNat)) + (Int32.ofInt (1)))), 0, 0)) rfl ?_
          refine am_Pn.ia (a := 90) rfl rfl rfl rfl (fun hi => ?_)
          refine am_Pn.bl 2 (y := (172, [some (.ref 64), some (.int x1), some (.int l2), some (.int l3), o4, o5], [.int (((sg_uA s 90 (x1.toInt.toNat) ((s.2.2.1 90 (x1.toInt.toNat)) + (Int32.ofInt (1)))).2.2.1 90 (x1.toInt.toNat)) - (Int32.ofInt (1)))], sg_h (sg_uA s 90 (x1.toInt.toNat) ((s.2.2.1 90 (x1.toInt.toNat)) + (Int32.ofInt (1)))), 0, 0)) rfl ?_
          exact am_Pn.rI h rfl
        · refine am_Pn.bl 1 (y := (135, [some (.ref 64), some (.int x1), some (.int l2), some (.int l3), o4, o5], [.ref 64], sg_h s, 0, 0)) rfl ?_
          refine am_Pn.gr (k := 48) rfl rfl am_o64 rfl rfl ?_
          refine am_Pn.bl 4 (y := (142, [some (.ref 64), some (.int x1), some (.int l2), some (.int l3), o4, o5], [.ref 64, .int (l2 + l3), .ref 89], sg_h s, 0, 0)) rfl ?_
          refine am_Pn.gr (k := 39) rfl rfl am_o64 rfl rfl ?_
          refine am_Pn.bl 1 (y := (146, [some (.ref 64), some (.int x1), some (.int l2), some (.int l3), o4, o5], [.int l3, .ref 82, .int (l2 + l3), .ref 89], sg_h s, 0, 0)) rfl ?_
          refine am_Pn.ia (a := 82) rfl rfl rfl rfl (fun hi => ?_)
          replace h := h (am_in0 hi) (am_in1 hi)
          refine am_Pn.is (a := 89) rfl rfl rfl (fun hi => ?_)
          replace h := h (am_in0 hi) (am_in1 hi)
          refine am_Pn.bl 2 (y := (128, [some (.ref 64), some (.int x1), some (.int l2), some (.int (l3 + Int32.ofInt (1))), o4, o5], [], sg_h (sg_uA s 89 ((l2 + l3).toInt.toNat) (s.2.2.1 82 (l3.toInt.toNat))), 0, 0)) rfl ?_
          exact (ih.2.1) o4 o5 l2 (l3 + Int32.ofInt (1)) (sg_uA s 89 ((l2 + l3).toInt.toNat) (s.2.2.1 82 (l3.toInt.toNat))) h
      · intro l2 l3 l4 l5 s h
        replace h := k29 l2 l3 l4 l5 s h
        unfold wp_M_finds_29 at h
        refine am_Pn.bl1 1 (y := (33, [some (.ref 64), some (.int x1), some (.int l2), some (.int l3), some (.int l4), some (.int l5)], [.int (Int32.ofInt (14)), .int l5], sg_h s, 0, 0)) rfl ?_
        refine am_Pn.bF h (am_bge rfl rfl) rfl rfl (fun h => ?_) (fun h => ?_)
        · refine am_Pn.bl 1 (y := (75, [some (.ref 64), some (.int x1), some (.int l2), some (.int l3), some (.int l4), some (.int l5)], [.int l4], sg_h s, 0, 0)) rfl ?_
          refine am_Pn.zT h (am_beq rfl rfl) rfl rfl (fun h => ?_) (fun h => ?_)
          · refine am_Pn.bl 2 (y := (2, [some (.ref 64), some (.int x1), some (.int (l2 + Int32.ofInt (1))), some (.int l3), some (.int l4), some (.int l5)], [], sg_h s, 0, 0)) rfl ?_
            exact (ih.1) (some (.int l3)) (some (.int l4)) (some (.int l5)) (l2 + Int32.ofInt (1)) s h
          · refine am_Pn.bl 1 (y := (79, [some (.ref 64), some (.int x1), some (.int l2), some (.int l3), some (.int l4), some (.int l5)], [.int l2], sg_h s, 0, 0)) rfl ?_
            exact am_Pn.rI h rfl
        · refine am_Pn.bl 1 (y := (38, [some (.ref 64), some (.int x1), some (.int l2), some (.int l3), some (.int l4), some (.int l5)], [.int l4], sg_h s, 0, 0)) rfl ?_
          refine am_Pn.zT h (am_beq rfl rfl) rfl rfl (fun h => ?_) (fun h => ?_)
          · refine am_Pn.bl 1 (y := (75, [some (.ref 64), some (.int x1), some (.int l2), some (.int l3), some (.int l4), some (.int l5)], [.int l4], sg_h s, 0, 0)) rfl ?_
            refine am_Pn.zT h (am_beq rfl rfl) rfl rfl (fun h => ?_) (fun h => ?_)
            · refine am_Pn.bl 2 (y := (2, [some (.ref 64), some (.int x1), some (.int (l2 + Int32.ofInt (1))), some (.int l3), some (.int l4), some (.int l5)], [], sg_h s, 0, 0)) rfl ?_
              exact (ih.1) (some (.int l3)) (some (.int l4)) (some (.int l5)) (l2 + Int32.ofInt (1)) s h
            · refine am_Pn.bl 1 (y := (79, [some (.ref 64), some (.int x1), some (.int l2), some (.int l3), some (.int l4), some (.int l5)], [.int l2], sg_h s, 0, 0)) rfl ?_
              exact am_Pn.rI h rfl
          · refine am_Pn.bl 1 (y := (42, [some (.ref 64), some (.int x1), some (.int l2), some (.int l3), some (.int l4), some (.int l5)], [.ref 64], sg_h s, 0, 0)) rfl ?_
            refine am_Pn.gr (k := 48) rfl rfl am_o64 rfl rfl ?_
            refine am_Pn.bl 3 (y := (49, [some (.ref 64), some (.int x1), some (.int l2), some (.int l3), some (.int l4), some (.int l5)], [.int (l3 + l5), .ref 89], sg_h s, 0, 0)) rfl ?_
            refine am_Pn.ia (a := 89) rfl rfl rfl rfl (fun hi => ?_)
            replace h := h (am_in0 hi) (am_in1 hi)
            refine am_Pn.bl 1 (y := (51, [some (.ref 64), some (.int x1), some (.int l2), some (.int l3), some (.int l4), some (.int l5)], [.ref 64, .int (s.2.2.1 89 ((l3 + l5).toInt.toNat))], sg_h s, 0, 0)) rfl ?_
            refine am_Pn.gr (k := 39) rfl rfl am_o64 rfl rfl ?_
            refine am_Pn.bl 1 (y := (56, [some (.ref 64), some (.int x1), some (.int l2), some (.int l3), some (.int l4), some (.int l5)], [.int l5, .ref 82, .int (s.2.2.1 89 ((l3 + l5).toInt.toNat))], sg_h s, 0, 0)) rfl ?_
            refine am_Pn.ia (a := 82) rfl rfl rfl rfl (fun hi => ?_)
            replace h := h (am_in0 hi) (am_in1 hi)
            refine am_Pn.bF h (am_bne rfl rfl) rfl rfl (fun h => ?_) (fun h => ?_)
            · refine am_Pn.bl 4 (y := (29, [some (.ref 64), some (.int x1), some (.int l2), some (.int l3), some (.int (Int32.ofInt (0))), some (.int (l5 + Int32.ofInt (1)))], [], sg_h s, 0, 0)) rfl ?_
              exact (ih.2.2) l2 l3 (Int32.ofInt (0)) (l5 + Int32.ofInt (1)) s h
            · refine am_Pn.bl 5 (y := (29, [some (.ref 64), some (.int x1), some (.int l2), some (.int l3), some (.int (Int32.ofInt (1))), some (.int (l5 + Int32.ofInt (1)))], [], sg_h s, 0, 0)) rfl ?_
              exact (ih.2.2) l2 l3 (Int32.ofInt (1)) (l5 + Int32.ofInt (1)) s h
  unfold wp_M_finds at h
  refine am_Pn.bl 2 (y := (2, [some (.ref 64), some (.int x1), some (.int (Int32.ofInt (0))), none, none, none], [], sg_h s, 0, 0)) rfl ?_
  exact ((key n).1) none none none (Int32.ofInt (0)) s h
def wp_M_goesOn_23 (I23 : Int32 → Int32 →  sg_S → Prop) (Ψ : Int32 → sg_S → Prop) (x1 : Int32) (x2 : Int32) (l3 : Int32) (l4 : Int32) (s : sg_S) : Prop := ((l4.toInt < l3.toInt → (am_SpV 199 [.ref 64, .int (x1 - (Int32.ofInt (1))), .int x2] s (fun s3 => (0 ≤ (x1 - (Int32.ofInt (1))).toInt → (x1 - (Int32.ofInt (1))).toInt < (48) → (((s3.2.2.1 93 ((x1 - (Int32.ofInt (1))).toInt.toNat)).toInt = (0) → (0 ≤ l4.toInt → l4.toInt < (16) → (am_SpI 189 [.ref 64, .int (s3.2.2.1 88 (l4.toInt.toNat)), .int x1] s3 (fun x4 s4 => ((x4.toInt = (-1) → (am_SpV 186 [.ref 64, .int (s3.2.2.1 88 (l4.toInt.toNat))] s4 (fun s5 => (am_SpI 200 [.ref 64, .int x1] s5 (fun x6 s6 => ((x6.toInt = (-1) → (Ψ (Int32.ofInt (0)) s6)) ∧ (¬ x6.toInt = (-1) → (0 ≤ (((((Int32.ofInt (400)) * (x1 - (Int32.ofInt (1)))) + x2) * (Int32.ofInt (16))) + l4).toInt → (((((Int32.ofInt (400)) * (x1 - (Int32.ofInt (1)))) + x2) * (Int32.ofInt (16))) + l4).toInt < (307200) → (I23 l3 (l4 + Int32.ofInt (1)) (sg_uA s6 91 ((((((Int32.ofInt (400)) * (x1 - (Int32.ofInt (1)))) + x2) * (Int32.ofInt (16))) + l4).toInt.toNat) x6)))))))))) ∧ (¬ x4.toInt = (-1) → (0 ≤ (((((Int32.ofInt (400)) * (x1 - (Int32.ofInt (1)))) + x2) * (Int32.ofInt (16))) + l4).toInt → (((((Int32.ofInt (400)) * (x1 - (Int32.ofInt (1)))) + x2) * (Int32.ofInt (16))) + l4).toInt < (307200) → (I23 l3 (l4 + Int32.ofInt (1)) (sg_uA s4 91 ((((((Int32.ofInt (400)) * (x1 - (Int32.ofInt (1)))) + x2) * (Int32.ofInt (16))) + l4).toInt.toNat) (Int32.ofInt (-1))))))))))) ∧ (¬ (s3.2.2.1 93 ((x1 - (Int32.ofInt (1))).toInt.toNat)).toInt = (0) → (am_SpI 189 [.ref 64, .int (s3.2.2.1 84 ((x1 - (Int32.ofInt (1))).toInt.toNat)), .int x1] s3 (fun x7 s7 => ((x7.toInt = (-1) → (am_SpV 186 [.ref 64, .int (s3.2.2.1 84 ((x1 - (Int32.ofInt (1))).toInt.toNat))] s7 (fun s8 => (am_SpI 200 [.ref 64, .int x1] s8 (fun x9 s9 => ((x9.toInt = (-1) → (Ψ (Int32.ofInt (0)) s9)) ∧ (¬ x9.toInt = (-1) → (0 ≤ (((((Int32.ofInt (400)) * (x1 - (Int32.ofInt (1)))) + x2) * (Int32.ofInt (16))) + l4).toInt → (((((Int32.ofInt (400)) * (x1 - (Int32.ofInt (1)))) + x2) * (Int32.ofInt (16))) + l4).toInt < (307200) → (I23 l3 (l4 + Int32.ofInt (1)) (sg_uA s9 91 ((((((Int32.ofInt (400)) * (x1 - (Int32.ofInt (1)))) + x2) * (Int32.ofInt (16))) + l4).toInt.toNat) x9)))))))))) ∧ (¬ x7.toInt = (-1) → (0 ≤ (((((Int32.ofInt (400)) * (x1 - (Int32.ofInt (1)))) + x2) * (Int32.ofInt (16))) + l4).toInt → (((((Int32.ofInt (400)) * (x1 - (Int32.ofInt (1)))) + x2) * (Int32.ofInt (16))) + l4).toInt < (307200) → (I23 l3 (l4 + Int32.ofInt (1)) (sg_uA s7 91 ((((((Int32.ofInt (400)) * (x1 - (Int32.ofInt (1)))) + x2) * (Int32.ofInt (16))) + l4).toInt.toNat) (Int32.ofInt (-1))))))))))))))) ∧ (¬ l4.toInt < l3.toInt → (Ψ (Int32.ofInt (1)) s)))
def wp_M_goesOn (I23 : Int32 → Int32 →  sg_S → Prop) (Ψ : Int32 → sg_S → Prop) (x1 : Int32) (x2 : Int32) (s : sg_S) : Prop := (0 ≤ (x1 - (Int32.ofInt (1))).toInt → (x1 - (Int32.ofInt (1))).toInt < (48) → (((s.2.2.1 93 ((x1 - (Int32.ofInt (1))).toInt.toNat)).toInt = (0) → (I23 (s.1 64 46) (Int32.ofInt (0)) s)) ∧ (¬ (s.2.2.1 93 ((x1 - (Int32.ofInt (1))).toInt.toNat)).toInt = (0) → (I23 (Int32.ofInt (1)) (Int32.ofInt (0)) s))))
set_option maxRecDepth 100000 in
theorem wp_M_goesOn_ok {I23 : Int32 → Int32 →  sg_S → Prop} {Ψ : Int32 → sg_S → Prop} {x1 : Int32} {x2 : Int32} {s : sg_S} (k23 : ∀ (l3 : Int32) (l4 : Int32) (s : sg_S), I23 l3 l4 s → wp_M_goesOn_23 I23 Ψ x1 x2 l3 l4 s) (h : wp_M_goesOn I23 Ψ x1 x2 s) : am_SpI 198 [.ref 64, .int x1, .int x2] s Ψ := by
  refine am_SpI.mk (r := am_r198) rfl rfl (fun call d al n hcl => ?_)
  have key : ∀ n, (∀ (o5 : Option Value) (o6 : Option Value) (l3 : Int32) (l4 : Int32) (s : sg_S), I23 l3 l4 s → am_Pn call d (0, fun _ => 0) al am_r198 (am_PhI am_r198 Ψ) n (23, [some (.ref 64), some (.int x1), some (.int x2), some (.int l3), some (.int l4), o5, o6], [], sg_h s, 0, 0)) := by
    intro n
    induction n with
    | zero => exact fun _ _ _ _ _ _ => am_Pn.zero
    | succ n ih =>
      intro o5 o6 l3 l4 s h
      replace h := k23 l3 l4 s h
      unfold wp_M_goesOn_23 at h
      refine am_Pn.bl1 1 (y := (26, [some (.ref 64), some (.int x1), some (.int x2), some (.int l3), some (.int l4), o5, o6], [.int l3, .int l4], sg_h s, 0, 0)) rfl ?_
      refine am_Pn.bF h (am_bge rfl rfl) rfl rfl (fun h => ?_) (fun h => ?_)
      · refine am_Pn.bl 1 (y := (132, [some (.ref 64), some (.int x1), some (.int x2), some (.int l3), some (.int l4), o5, o6], [.int (Int32.ofInt (1))], sg_h s, 0, 0)) rfl ?_
        exact am_Pn.rI h rfl
      · refine am_Pn.bl 5 (y := (34, [some (.ref 64), some (.int x1), some (.int x2), some (.int l3), some (.int l4), o5, o6], [.int x2, .int (x1 - (Int32.ofInt (1))), .ref 64], sg_h s, 0, 0)) rfl ?_
        refine am_Pn.cvV hcl h rfl rfl rfl rfl rfl (fun s3 h => ?_)
        refine am_Pn.bl 1 (y := (38, [some (.ref 64), some (.int x1), some (.int x2), some (.int l3), some (.int l4), o5, o6], [.ref 64], sg_h s3, 0, 0)) rfl ?_
        refine am_Pn.gr (k := 52) rfl rfl am_o64 rfl rfl ?_
        refine am_Pn.bl 3 (y := (44, [some (.ref 64), some (.int x1), some (.int x2), some (.int l3), some (.int l4), o5, o6], [.int (x1 - (Int32.ofInt (1))), .ref 93], sg_h s3, 0, 0)) rfl ?_
        refine am_Pn.ba (a := 93) rfl rfl rfl rfl (fun hi => ?_)
        replace h := h (am_in0 hi) (am_in1 hi)
        refine am_Pn.zT h (am_beq rfl rfl) rfl rfl (fun h => ?_) (fun h => ?_)
        · refine am_Pn.bl 1 (y := (60, [some (.ref 64), some (.int x1), some (.int x2), some (.int l3), some (.int l4), o5, o6], [.ref 64], sg_h s3, 0, 0)) rfl ?_
          refine am_Pn.gr (k := 47) rfl rfl am_o64 rfl rfl ?_
          refine am_Pn.bl 1 (y := (65, [some (.ref 64), some (.int x1), some (.int x2), some (.int l3), some (.int l4), o5, o6], [.int l4, .ref 88], sg_h s3, 0, 0)) rfl ?_
          refine am_Pn.ia (a := 88) rfl rfl rfl rfl (fun hi => ?_)
          replace h := h (am_in0 hi) (am_in1 hi)
          refine am_Pn.bl 6 (y := (75, [some (.ref 64), some (.int x1), some (.int x2), some (.int l3), some (.int l4), some (.int (s3.2.2.1 88 (l4.toInt.toNat))), some (.int (Int32.ofInt (-1)))], [.int x1, .int (s3.2.2.1 88 (l4.toInt.toNat)), .ref 64], sg_h s3, 0, 0)) rfl ?_
          refine am_Pn.cvI hcl h rfl rfl rfl rfl rfl (fun x4 s4 h => ?_)
          refine am_Pn.bl 1 (y := (79, [some (.ref 64), some (.int x1), some (.int x2), some (.int l3), some (.int l4), some (.int (s3.2.2.1 88 (l4.toInt.toNat))), some (.int (Int32.ofInt (-1)))], [.int (Int32.ofInt (-1)), .int x4], sg_h s4, 0, 0)) rfl ?_
          refine am_Pn.bF h (am_bne rfl rfl) rfl rfl (fun h => ?_) (fun h => ?_)
          · refine am_Pn.bl 1 (y := (104, [some (.ref 64), some (.int x1), some (.int x2), some (.int l3), some (.int l4), some (.int (s3.2.2.1 88 (l4.toInt.toNat))), some (.int (Int32.ofInt (-1)))], [.ref 64], sg_h s4, 0, 0)) rfl ?_
            refine am_Pn.gr (k := 50) rfl rfl am_o64 rfl rfl ?_
            refine am_Pn.bl 12 (y := (124, [some (.ref 64), some (.int x1), some (.int x2), some (.int l3), some (.int l4), some (.int (s3.2.2.1 88 (l4.toInt.toNat))), some (.int (Int32.ofInt (-1)))], [.int (Int32.ofInt (-1)), .int (((((Int32.ofInt (400)) * (x1 - (Int32.ofInt (1)))) + x2) * (Int32.ofInt (16))) + l4), .ref 91], sg_h s4, 0, 0)) rfl ?_
            refine am_Pn.is (a := 91) rfl rfl rfl (fun hi => ?_)
            replace h := h (am_in0 hi) (am_in1 hi)
            refine am_Pn.bl 2 (y := (23, [some (.ref 64), some (.int x1), some (.int x2), some (.int l3), some (.int (l4 + Int32.ofInt (1))), some (.int (s3.2.2.1 88 (l4.toInt.toNat))), some (.int (Int32.ofInt (-1)))], [], sg_h (sg_uA s4 91 ((((((Int32.ofInt (400)) * (x1 - (Int32.ofInt (1)))) + x2) * (Int32.ofInt (16))) + l4).toInt.toNat) (Int32.ofInt (-1))), 0, 0)) rfl ?_
            exact (ih) (some (.int (s3.2.2.1 88 (l4.toInt.toNat)))) (some (.int (Int32.ofInt (-1)))) l3 (l4 + Int32.ofInt (1)) (sg_uA s4 91 ((((((Int32.ofInt (400)) * (x1 - (Int32.ofInt (1)))) + x2) * (Int32.ofInt (16))) + l4).toInt.toNat) (Int32.ofInt (-1))) h
          · refine am_Pn.bl 2 (y := (85, [some (.ref 64), some (.int x1), some (.int x2), some (.int l3), some (.int l4), some (.int (s3.2.2.1 88 (l4.toInt.toNat))), some (.int (Int32.ofInt (-1)))], [.int (s3.2.2.1 88 (l4.toInt.toNat)), .ref 64], sg_h s4, 0, 0)) rfl ?_
            refine am_Pn.cvV hcl h rfl rfl rfl rfl rfl (fun s5 h => ?_)
            refine am_Pn.bl 2 (y := (90, [some (.ref 64), some (.int x1), some (.int x2), some (.int l3), some (.int l4), some (.int (s3.2.2.1 88 (l4.toInt.toNat))), some (.int (Int32.ofInt (-1)))], [.int x1, .ref 64], sg_h s5, 0, 0)) rfl ?_
            refine am_Pn.cvI hcl h rfl rfl rfl rfl rfl (fun x6 s6 h => ?_)
            refine am_Pn.bl 3 (y := (98, [some (.ref 64), some (.int x1), some (.int x2), some (.int l3), some (.int l4), some (.int (s3.2.2.1 88 (l4.toInt.toNat))), some (.int x6)], [.int (Int32.ofInt (-1)), .int x6], sg_h s6, 0, 0)) rfl ?_
            refine am_Pn.bF h (am_bne rfl rfl) rfl rfl (fun h => ?_) (fun h => ?_)
            · refine am_Pn.bl 1 (y := (104, [some (.ref 64), some (.int x1), some (.int x2), some (.int l3), some (.int l4), some (.int (s3.2.2.1 88 (l4.toInt.toNat))), some (.int x6)], [.ref 64], sg_h s6, 0, 0)) rfl ?_
              refine am_Pn.gr (k := 50) rfl rfl am_o64 rfl rfl ?_
              refine am_Pn.bl 12 (y := (124, [some (.ref 64), some (.int x1), some (.int x2), some (.int l3), some (.int l4), some (.int (s3.2.2.1 88 (l4.toInt.toNat))), some (.int x6)], [.int x6, .int (((((Int32.ofInt (400)) * (x1 - (Int32.ofInt (1)))) + x2) * (Int32.ofInt (16))) + l4), .ref 91], sg_h s6, 0, 0)) rfl ?_
              refine am_Pn.is (a := 91) rfl rfl rfl (fun hi => ?_)
              replace h := h (am_in0 hi) (am_in1 hi)
              refine am_Pn.bl 2 (y := (23, [some (.ref 64), some (.int x1), some (.int x2), some (.int l3), some (.int (l4 + Int32.ofInt (1))), some (.int (s3.2.2.1 88 (l4.toInt.toNat))), some (.int x6)], [], sg_h (sg_uA s6 91 ((((((Int32.ofInt (400)) * (x1 - (Int32.ofInt (1)))) + x2) * (Int32.ofInt (16))) + l4).toInt.toNat) x6), 0, 0)) rfl ?_
              exact (ih) (some (.int (s3.2.2.1 88 (l4.toInt.toNat)))) (some (.int x6)) l3 (l4 + Int32.ofInt (1)) (sg_uA s6 91 ((((((Int32.ofInt (400)) * (x1 - (Int32.ofInt (1)))) + x2) * (Int32.ofInt (16))) + l4).toInt.toNat) x6) h
            · refine am_Pn.bl 1 (y := (102, [some (.ref 64), some (.int x1), some (.int x2), some (.int l3), some (.int l4), some (.int (s3.2.2.1 88 (l4.toInt.toNat))), some (.int x6)], [.int (Int32.ofInt (0))], sg_h s6, 0, 0)) rfl ?_
              exact am_Pn.rI h rfl
        · refine am_Pn.bl 1 (y := (49, [some (.ref 64), some (.int x1), some (.int x2), some (.int l3), some (.int l4), o5, o6], [.ref 64], sg_h s3, 0, 0)) rfl ?_
          refine am_Pn.gr (k := 42) rfl rfl am_o64 rfl rfl ?_
          refine am_Pn.bl 3 (y := (55, [some (.ref 64), some (.int x1), some (.int x2), some (.int l3), some (.int l4), o5, o6], [.int (x1 - (Int32.ofInt (1))), .ref 84], sg_h s3, 0, 0)) rfl ?_
          refine am_Pn.ia (a := 84) rfl rfl rfl rfl (fun hi => ?_)
          refine am_Pn.bl 7 (y := (75, [some (.ref 64), some (.int x1), some (.int x2), some (.int l3), some (.int l4), some (.int (s3.2.2.1 84 ((x1 - (Int32.ofInt (1))).toInt.toNat))), some (.int (Int32.ofInt (-1)))], [.int x1, .int (s3.2.2.1 84 ((x1 - (Int32.ofInt (1))).toInt.toNat)), .ref 64], sg_h s3, 0, 0)) rfl ?_
          refine am_Pn.cvI hcl h rfl rfl rfl rfl rfl (fun x7 s7 h => ?_)
          refine am_Pn.bl 1 (y := (79, [some (.ref 64), some (.int x1), some (.int x2), some (.int l3), some (.int l4), some (.int (s3.2.2.1 84 ((x1 - (Int32.ofInt (1))).toInt.toNat))), some (.int (Int32.ofInt (-1)))], [.int (Int32.ofInt (-1)), .int x7], sg_h s7, 0, 0)) rfl ?_
          refine am_Pn.bF h (am_bne rfl rfl) rfl rfl (fun h => ?_) (fun h => ?_)
          · refine am_Pn.bl 1 (y := (104, [some (.ref 64), some (.int x1), some (.int x2), some (.int l3), some (.int l4), some (.int (s3.2.2.1 84 ((x1 - (Int32.ofInt (1))).toInt.toNat))), some (.int (Int32.ofInt (-1)))], [.ref 64], sg_h s7, 0, 0)) rfl ?_
            refine am_Pn.gr (k := 50) rfl rfl am_o64 rfl rfl ?_
            refine am_Pn.bl 12 (y := (124, [some (.ref 64), some (.int x1), some (.int x2), some (.int l3), some (.int l4), some (.int (s3.2.2.1 84 ((x1 - (Int32.ofInt (1))).toInt.toNat))), some (.int (Int32.ofInt (-1)))], [.int (Int32.ofInt (-1)), .int (((((Int32.ofInt (400)) * (x1 - (Int32.ofInt (1)))) + x2) * (Int32.ofInt (16))) + l4), .ref 91], sg_h s7, 0, 0)) rfl ?_
            refine am_Pn.is (a := 91) rfl rfl rfl (fun hi => ?_)
            replace h := h (am_in0 hi) (am_in1 hi)
            refine am_Pn.bl 2 (y := (23, [some (.ref 64), some (.int x1), some (.int x2), some (.int l3), some (.int (l4 + Int32.ofInt (1))), some (.int (s3.2.2.1 84 ((x1 - (Int32.ofInt (1))).toInt.toNat))), some (.int (Int32.ofInt (-1)))], [], sg_h (sg_uA s7 91 ((((((Int32.ofInt (400)) * (x1 - (Int32.ofInt (1)))) + x2) * (Int32.ofInt (16))) + l4).toInt.toNat) (Int32.ofInt (-1))), 0, 0)) rfl ?_
            exact (ih) (some (.int (s3.2.2.1 84 ((x1 - (Int32.ofInt (1))).toInt.toNat)))) (some (.int (Int32.ofInt (-1)))) l3 (l4 + Int32.ofInt (1)) (sg_uA s7 91 ((((((Int32.ofInt (400)) * (x1 - (Int32.ofInt (1)))) + x2) * (Int32.ofInt (16))) + l4).toInt.toNat) (Int32.ofInt (-1))) h
          · refine am_Pn.bl 2 (y := (85, [some (.ref 64), some (.int x1), some (.int x2), some (.int l3), some (.int l4), some (.int (s3.2.2.1 84 ((x1 - (Int32.ofInt (1))).toInt.toNat))), some (.int (Int32.ofInt (-1)))], [.int (s3.2.2.1 84 ((x1 - (Int32.ofInt (1))).toInt.toNat)), .ref 64], sg_h s7, 0, 0)) rfl ?_
            refine am_Pn.cvV hcl h rfl rfl rfl rfl rfl (fun s8 h => ?_)
            refine am_Pn.bl 2 (y := (90, [some (.ref 64), some (.int x1), some (.int x2), some (.int l3), some (.int l4), some (.int (s3.2.2.1 84 ((x1 - (Int32.ofInt (1))).toInt.toNat))), some (.int (Int32.ofInt (-1)))], [.int x1, .ref 64], sg_h s8, 0, 0)) rfl ?_
            refine am_Pn.cvI hcl h rfl rfl rfl rfl rfl (fun x9 s9 h => ?_)
            refine am_Pn.bl 3 (y := (98, [some (.ref 64), some (.int x1), some (.int x2), some (.int l3), some (.int l4), some (.int (s3.2.2.1 84 ((x1 - (Int32.ofInt (1))).toInt.toNat))), some (.int x9)], [.int (Int32.ofInt (-1)), .int x9], sg_h s9, 0, 0)) rfl ?_
            refine am_Pn.bF h (am_bne rfl rfl) rfl rfl (fun h => ?_) (fun h => ?_)
            · refine am_Pn.bl 1 (y := (104, [some (.ref 64), some (.int x1), some (.int x2), some (.int l3), some (.int l4), some (.int (s3.2.2.1 84 ((x1 - (Int32.ofInt (1))).toInt.toNat))), some (.int x9)], [.ref 64], sg_h s9, 0, 0)) rfl ?_
              refine am_Pn.gr (k := 50) rfl rfl am_o64 rfl rfl ?_
              refine am_Pn.bl 12 (y := (124, [some (.ref 64), some (.int x1), some (.int x2), some (.int l3), some (.int l4), some (.int (s3.2.2.1 84 ((x1 - (Int32.ofInt (1))).toInt.toNat))), some (.int x9)], [.int x9, .int (((((Int32.ofInt (400)) * (x1 - (Int32.ofInt (1)))) + x2) * (Int32.ofInt (16))) + l4), .ref 91], sg_h s9, 0, 0)) rfl ?_
              refine am_Pn.is (a := 91) rfl rfl rfl (fun hi => ?_)
              replace h := h (am_in0 hi) (am_in1 hi)
              refine am_Pn.bl 2 (y := (23, [some (.ref 64), some (.int x1), some (.int x2), some (.int l3), some (.int (l4 + Int32.ofInt (1))), some (.int (s3.2.2.1 84 ((x1 - (Int32.ofInt (1))).toInt.toNat))), some (.int x9)], [], sg_h (sg_uA s9 91 ((((((Int32.ofInt (400)) * (x1 - (Int32.ofInt (1)))) + x2) * (Int32.ofInt (16))) + l4).toInt.toNat) x9), 0, 0)) rfl ?_
              exact (ih) (some (.int (s3.2.2.1 84 ((x1 - (Int32.ofInt (1))).toInt.toNat)))) (some (.int x9)) l3 (l4 + Int32.ofInt (1)) (sg_uA s9 91 ((((((Int32.ofInt (400)) * (x1 - (Int32.ofInt (1)))) + x2) * (Int32.ofInt (16))) + l4).toInt.toNat) x9) h
            · refine am_Pn.bl 1 (y := (102, [some (.ref 64), some (.int x1), some (.int x2), some (.int l3), some (.int l4), some (.int (s3.2.2.1 84 ((x1 - (Int32.ofInt (1))).toInt.toNat))), some (.int x9)], [.int (Int32.ofInt (0))], sg_h s9, 0, 0)) rfl ?_
              exact am_Pn.rI h rfl
  unfold wp_M_goesOn at h
  refine am_Pn.bl 1 (y := (1, [some (.ref 64), some (.int x1), some (.int x2), none, none, none, none], [.ref 64], sg_h s, 0, 0)) rfl ?_
  refine am_Pn.gr (k := 52) rfl rfl am_o64 rfl rfl ?_
  refine am_Pn.bl 3 (y := (7, [some (.ref 64), some (.int x1), some (.int x2), none, none, none, none], [.int (x1 - (Int32.ofInt (1))), .ref 93], sg_h s, 0, 0)) rfl ?_
  refine am_Pn.ba (a := 93) rfl rfl rfl rfl (fun hi => ?_)
  replace h := h (am_in0 hi) (am_in1 hi)
  refine am_Pn.zT h (am_beq rfl rfl) rfl rfl (fun h => ?_) (fun h => ?_)
  · refine am_Pn.bl 1 (y := (16, [some (.ref 64), some (.int x1), some (.int x2), none, none, none, none], [.ref 64], sg_h s, 0, 0)) rfl ?_
    refine am_Pn.gi (k := 46) rfl rfl am_o64 rfl rfl ?_
    refine am_Pn.bl 3 (y := (23, [some (.ref 64), some (.int x1), some (.int x2), some (.int (s.1 64 46)), some (.int (Int32.ofInt (0))), none, none], [], sg_h s, 0, 0)) rfl ?_
    exact ((key n)) none none (s.1 64 46) (Int32.ofInt (0)) s h
  · refine am_Pn.bl 5 (y := (23, [some (.ref 64), some (.int x1), some (.int x2), some (.int (Int32.ofInt (1))), some (.int (Int32.ofInt (0))), none, none], [], sg_h s, 0, 0)) rfl ?_
    exact ((key n)) none none (Int32.ofInt (1)) (Int32.ofInt (0)) s h
def wp_M_looksBack_2 (I2 : Int32 →  sg_S → Prop) (I42 : Int32 →  sg_S → Prop) (I199 : Int32 → Int32 →  sg_S → Prop) (I57 : Int32 → Int32 →  sg_S → Prop) (I228 : Int32 → Int32 → Int32 → Int32 →  sg_S → Prop) (I74 : Int32 → Int32 → Int32 → Int32 →  sg_S → Prop) (Ψ : sg_S → Prop) (l1 : Int32) (s : sg_S) : Prop := (0 ≤ (s.1 64 24).toInt → (s.1 64 24).toInt < (49) → ((l1.toInt < (s.2.2.1 90 ((s.1 64 24).toInt.toNat)).toInt → (0 ≤ (((Int32.ofInt (400)) * (s.1 64 24)) + l1).toInt → (((Int32.ofInt (400)) * (s.1 64 24)) + l1).toInt < (19600) → (I2 (l1 + Int32.ofInt (1)) (sg_uA s 92 ((((Int32.ofInt (400)) * (s.1 64 24)) + l1).toInt.toNat) (vp_nar .boolean (Int32.ofInt (1))))))) ∧ (¬ l1.toInt < (s.2.2.1 90 ((s.1 64 24).toInt.toNat)).toInt → (I42 (s.1 64 24) s))))
def wp_M_looksBack_42 (I2 : Int32 →  sg_S → Prop) (I42 : Int32 →  sg_S → Prop) (I199 : Int32 → Int32 →  sg_S → Prop) (I57 : Int32 → Int32 →  sg_S → Prop) (I228 : Int32 → Int32 → Int32 → Int32 →  sg_S → Prop) (I74 : Int32 → Int32 → Int32 → Int32 →  sg_S → Prop) (Ψ : sg_S → Prop) (l1 : Int32) (s : sg_S) : Prop := (((0) < l1.toInt → (0 ≤ (l1 - (Int32.ofInt (1))).toInt → (l1 - (Int32.ofInt (1))).toInt < (48) → (I57 l1 (Int32.ofInt (0)) (sg_uA s 95 ((l1 - (Int32.ofInt (1))).toInt.toNat) (Int32.ofInt (0)))))) ∧ (¬ (0) < l1.toInt → (I199 (Int32.ofInt (0)) (Int32.ofInt (1)) s)))
def wp_M_looksBack_199 (I2 : Int32 →  sg_S → Prop) (I42 : Int32 →  sg_S → Prop) (I199 : Int32 → Int32 →  sg_S → Prop) (I57 : Int32 → Int32 →  sg_S → Prop) (I228 : Int32 → Int32 → Int32 → Int32 →  sg_S → Prop) (I74 : Int32 → Int32 → Int32 → Int32 →  sg_S → Prop) (Ψ : sg_S → Prop) (l1 : Int32) (l2 : Int32) (s : sg_S) : Prop := (((s.1 64 24).toInt < l2.toInt → (Ψ s)) ∧ (¬ (s.1 64 24).toInt < l2.toInt → (0 ≤ ((((Int32.ofInt (400)) * (l2 - (Int32.ofInt (1)))) + l1) * (Int32.ofInt (16))).toInt → ((((Int32.ofInt (400)) * (l2 - (Int32.ofInt (1)))) + l1) * (Int32.ofInt (16))).toInt < (307200) → (I228 l1 l2 (Int32.ofInt (0)) (s.2.2.1 91 (((((Int32.ofInt (400)) * (l2 - (Int32.ofInt (1)))) + l1) * (Int32.ofInt (16))).toInt.toNat)) s))))
def wp_M_looksBack_57 (I2 : Int32 →  sg_S → Prop) (I42 : Int32 →  sg_S → Prop) (I199 : Int32 → Int32 →  sg_S → Prop) (I57 : Int32 → Int32 →  sg_S → Prop) (I228 : Int32 → Int32 → Int32 → Int32 →  sg_S → Prop) (I74 : Int32 → Int32 → Int32 → Int32 →  sg_S → Prop) (Ψ : sg_S → Prop) (l1 : Int32) (l2 : Int32) (s : sg_S) : Prop := (0 ≤ (l1 - (Int32.ofInt (1))).toInt → (l1 - (Int32.ofInt (1))).toInt < (49) → ((l2.toInt < (s.2.2.1 90 ((l1 - (Int32.ofInt (1))).toInt.toNat)).toInt → (I74 l1 l2 (Int32.ofInt (0)) (Int32.ofInt (0)) s)) ∧ (¬ l2.toInt < (s.2.2.1 90 ((l1 - (Int32.ofInt (1))).toInt.toNat)).toInt → (I42 (l1 + Int32.ofInt (-1)) s))))
def wp_M_looksBack_228 (I2 : Int32 →  sg_S → Prop) (I42 : Int32 →  sg_S → Prop) (I199 : Int32 → Int32 →  sg_S → Prop) (I57 : Int32 → Int32 →  sg_S → Prop) (I228 : Int32 → Int32 → Int32 → Int32 →  sg_S → Prop) (I74 : Int32 → Int32 → Int32 → Int32 →  sg_S → Prop) (Ψ : sg_S → Prop) (l1 : Int32) (l2 : Int32) (l3 : Int32) (l4 : Int32) (s : sg_S) : Prop := ((l4.toInt = (-1) → (0 ≤ (((((Int32.ofInt (400)) * (l2 - (Int32.ofInt (1)))) + l1) * (Int32.ofInt (16))) + (l3 + Int32.ofInt (1))).toInt → (((((Int32.ofInt (400)) * (l2 - (Int32.ofInt (1)))) + l1) * (Int32.ofInt (16))) + (l3 + Int32.ofInt (1))).toInt < (307200) → (I228 l1 l2 (l3 + Int32.ofInt (1)) (s.2.2.1 91 ((((((Int32.ofInt (400)) * (l2 - (Int32.ofInt (1)))) + l1) * (Int32.ofInt (16))) + (l3 + Int32.ofInt (1))).toInt.toNat)) s))) ∧ (¬ l4.toInt = (-1) → (0 ≤ (((Int32.ofInt (400)) * l2) + l4).toInt → (((Int32.ofInt (400)) * l2) + l4).toInt < (19600) → (((s.2.2.1 92 ((((Int32.ofInt (400)) * l2) + l4).toInt.toNat)).toInt = (0) → (0 ≤ (((((Int32.ofInt (400)) * (l2 - (Int32.ofInt (1)))) + l1) * (Int32.ofInt (16))) + (l3 + Int32.ofInt (1))).toInt → (((((Int32.ofInt (400)) * (l2 - (Int32.ofInt (1)))) + l1) * (Int32.ofInt (16))) + (l3 + Int32.ofInt (1))).toInt < (307200) → (I228 l1 l2 (l3 + Int32.ofInt (1)) (s.2.2.1 91 ((((((Int32.ofInt (400)) * (l2 - (Int32.ofInt (1)))) + l1) * (Int32.ofInt (16))) + (l3 + Int32.ofInt (1))).toInt.toNat)) s))) ∧ (¬ (s.2.2.1 92 ((((Int32.ofInt (400)) * l2) + l4).toInt.toNat)).toInt = (0) → (0 ≤ (l2 - (Int32.ofInt (1))).toInt → (l2 - (Int32.ofInt (1))).toInt < (48) → (I199 l4 (l2 + Int32.ofInt (1)) (sg_uA s 94 ((l2 - (Int32.ofInt (1))).toInt.toNat) l3))))))))
def wp_M_looksBack_74 (I2 : Int32 →  sg_S → Prop) (I42 : Int32 →  sg_S → Prop) (I199 : Int32 → Int32 →  sg_S → Prop) (I57 : Int32 → Int32 →  sg_S → Prop) (I228 : Int32 → Int32 → Int32 → Int32 →  sg_S → Prop) (I74 : Int32 → Int32 → Int32 → Int32 →  sg_S → Prop) (Ψ : sg_S → Prop) (l1 : Int32) (l2 : Int32) (l3 : Int32) (l4 : Int32) (s : sg_S) : Prop := (0 ≤ (l1 - (Int32.ofInt (1))).toInt → (l1 - (Int32.ofInt (1))).toInt < (48) → (((s.2.2.1 93 ((l1 - (Int32.ofInt (1))).toInt.toNat)).toInt = (0) → ((l4.toInt < (s.1 64 46).toInt → (0 ≤ (((((Int32.ofInt (400)) * (l1 - (Int32.ofInt (1)))) + l2) * (Int32.ofInt (16))) + l4).toInt → (((((Int32.ofInt (400)) * (l1 - (Int32.ofInt (1)))) + l2) * (Int32.ofInt (16))) + l4).toInt < (307200) → (((s.2.2.1 91 ((((((Int32.ofInt (400)) * (l1 - (Int32.ofInt (1)))) + l2) * (Int32.ofInt (16))) + l4).toInt.toNat)).toInt = (-1) → (I74 l1 l2 l3 (l4 + Int32.ofInt (1)) s)) ∧ (¬ (s.2.2.1 91 ((((((Int32.ofInt (400)) * (l1 - (Int32.ofInt (1)))) + l2) * (Int32.ofInt (16))) + l4).toInt.toNat)).toInt = (-1) → (0 ≤ (((Int32.ofInt (400)) * l1) + (s.2.2.1 91 ((((((Int32.ofInt (400)) * (l1 - (Int32.ofInt (1)))) + l2) * (Int32.ofInt (16))) + l4).toInt.toNat))).toInt → (((Int32.ofInt (400)) * l1) + (s.2.2.1 91 ((((((Int32.ofInt (400)) * (l1 - (Int32.ofInt (1)))) + l2) * (Int32.ofInt (16))) + l4).toInt.toNat))).toInt < (19600) → (((s.2.2.1 92 ((((Int32.ofInt (400)) * l1) + (s.2.2.1 91 ((((((Int32.ofInt (400)) * (l1 - (Int32.ofInt (1)))) + l2) * (Int32.ofInt (16))) + l4).toInt.toNat))).toInt.toNat)).toInt = (0) → (I74 l1 l2 l3 (l4 + Int32.ofInt (1)) s)) ∧ (¬ (s.2.2.1 92 ((((Int32.ofInt (400)) * l1) + (s.2.2.1 91 ((((((Int32.ofInt (400)) * (l1 - (Int32.ofInt (1)))) + l2) * (Int32.ofInt (16))) + l4).toInt.toNat))).toInt.toNat)).toInt = (0) → (I74 l1 l2 (Int32.ofInt (1)) (l4 + Int32.ofInt (1)) (sg_uA s 95 ((l1 - (Int32.ofInt (1))).toInt.toNat) ((s.2.2.1 95 ((l1 - (Int32.ofInt (1))).toInt.toNat)) ||| ((Int32.ofInt (1)) <<< (l4 &&& 31)))))))))))) ∧ (¬ l4.toInt < (s.1 64 46).toInt → (0 ≤ (((Int32.ofInt (400)) * (l1 - (Int32.ofInt (1)))) + l2).toInt → (((Int32.ofInt (400)) * (l1 - (Int32.ofInt (1)))) + l2).toInt < (19600) → (I57 l1 (l2 + Int32.ofInt (1)) (sg_uA s 92 ((((Int32.ofInt (400)) * (l1 - (Int32.ofInt (1)))) + l2).toInt.toNat) (vp_nar .boolean l3))))))) ∧ (¬ (s.2.2.1 93 ((l1 - (Int32.ofInt (1))).toInt.toNat)).toInt = (0) → ((l4.toInt < (1) → (0 ≤ (((((Int32.ofInt (400)) * (l1 - (Int32.ofInt (1)))) + l2) * (Int32.ofInt (16))) + l4).toInt → (((((Int32.ofInt (400)) * (l1 - (Int32.ofInt (1)))) + l2) * (Int32.ofInt (16))) + l4).toInt < (307200) → (((s.2.2.1 91 ((((((Int32.ofInt (400)) * (l1 - (Int32.ofInt (1)))) + l2) * (Int32.ofInt (16))) + l4).toInt.toNat)).toInt = (-1) → (I74 l1 l2 l3 (l4 + Int32.ofInt (1)) s)) ∧ (¬ (s.2.2.1 91 ((((((Int32.ofInt (400)) * (l1 - (Int32.ofInt (1)))) + l2) * (Int32.ofInt (16))) + l4).toInt.toNat)).toInt = (-1) → (0 ≤ (((Int32.ofInt (400)) * l1) + (s.2.2.1 91 ((((((Int32.ofInt (400)) * (l1 - (Int32.ofInt (1)))) + l2) * (Int32.ofInt (16))) + l4).toInt.toNat))).toInt → (((Int32.ofInt (400)) * l1) + (s.2.2.1 91 ((((((Int32.ofInt (400)) * (l1 - (Int32.ofInt (1)))) + l2) * (Int32.ofInt (16))) + l4).toInt.toNat))).toInt < (19600) → (((s.2.2.1 92 ((((Int32.ofInt (400)) * l1) + (s.2.2.1 91 ((((((Int32.ofInt (400)) * (l1 - (Int32.ofInt (1)))) + l2) * (Int32.ofInt (16))) + l4).toInt.toNat))).toInt.toNat)).toInt = (0) → (I74 l1 l2 l3 (l4 + Int32.ofInt (1)) s)) ∧ (¬ (s.2.2.1 92 ((((Int32.ofInt (400)) * l1) + (s.2.2.1 91 ((((((Int32.ofInt (400)) * (l1 - (Int32.ofInt (1)))) + l2) * (Int32.ofInt (16))) + l4).toInt.toNat))).toInt.toNat)).toInt = (0) → (I74 l1 l2 (Int32.ofInt (1)) (l4 + Int32.ofInt (1)) (sg_uA s 95 ((l1 - (Int32.ofInt (1))).toInt.toNat) ((s.2.2.1 95 ((l1 - (Int32.ofInt (1))).toInt.toNat)) ||| ((Int32.ofInt (1)) <<< (l4 &&& 31)))))))))))) ∧ (¬ l4.toInt < (1) → (0 ≤ (((Int32.ofInt (400)) * (l1 - (Int32.ofInt (1)))) + l2).toInt → (((Int32.ofInt (400)) * (l1 - (Int32.ofInt (1)))) + l2).toInt < (19600) → (I57 l1 (l2 + Int32.ofInt (1)) (sg_uA s 92 ((((Int32.ofInt (400)) * (l1 - (Int32.ofInt (1)))) + l2).toInt.toNat) (vp_nar .boolean l3)))))))))
def wp_M_looksBack (I2 : Int32 →  sg_S → Prop) (I42 : Int32 →  sg_S → Prop) (I199 : Int32 → Int32 →  sg_S → Prop) (I57 : Int32 → Int32 →  sg_S → Prop) (I228 : Int32 → Int32 → Int32 → Int32 →  sg_S → Prop) (I74 : Int32 → Int32 → Int32 → Int32 →  sg_S → Prop) (Ψ : sg_S → Prop) (s : sg_S) : Prop := (I2 (Int32.ofInt (0)) s)
set_option maxRecDepth 100000 in
theorem wp_M_looksBack_ok {I2 : Int32 →  sg_S → Prop} {I42 : Int32 →  sg_S → Prop} {I199 : Int32 → Int32 →  sg_S → Prop} {I57 : Int32 → Int32 →  sg_S → Prop} {I228 : Int32 → Int32 → Int32 → Int32 →  sg_S → Prop} {I74 : Int32 → Int32 → Int32 → Int32 →  sg_S → Prop} {Ψ : sg_S → Prop} {s : sg_S} (k2 : ∀ (l1 : Int32) (s : sg_S), I2 l1 s → wp_M_looksBack_2 I2 I42 I199 I57 I228 I74 Ψ  l1 s) (k42 : ∀ (l1 : Int32) (s : sg_S), I42 l1 s → wp_M_looksBack_42 I2 I42 I199 I57 I228 I74 Ψ  l1 s) (k199 : ∀ (l1 : Int32) (l2 : Int32) (s : sg_S), I199 l1 l2 s → wp_M_looksBack_199 I2 I42 I199 I57 I228 I74 Ψ  l1 l2 s) (k57 : ∀ (l1 : Int32) (l2 : Int32) (s : sg_S), I57 l1 l2 s → wp_M_looksBack_57 I2 I42 I199 I57 I228 I74 Ψ  l1 l2 s) (k228 : ∀ (l1 : Int32) (l2 : Int32) (l3 : Int32) (l4 : Int32) (s : sg_S), I228 l1 l2 l3 l4 s → wp_M_looksBack_228 I2 I42 I199 I57 I228 I74 Ψ  l1 l2 l3 l4 s) (k74 : ∀ (l1 : Int32) (l2 : Int32) (l3 : Int32) (l4 : Int32) (s : sg_S), I74 l1 l2 l3 l4 s → wp_M_looksBack_74 I2 I42 I199 I57 I228 I74 Ψ  l1 l2 l3 l4 s) (h : wp_M_looksBack I2 I42 I199 I57 I228 I74 Ψ  s) : am_SpV 201 [.ref 64] s Ψ := by
  refine am_SpV.mk (r := am_r201) rfl rfl (fun call d al n hcl => ?_)
  have key : ∀ n, (∀ (o2 : Option Value) (o3 : Option Value) (o4 : Option Value) (o5 : Option Value) (l1 : Int32) (s : sg_S), I2 l1 s → am_Pn call d (0, fun _ => 0) al am_r201 (am_PhV am_r201 Ψ) n (2, [some (.ref 64), some (.int l1), o2, o3, o4, o5], [], sg_h s, 0, 0)) ∧ (∀ (o2 : Option Value) (o3 : Option Value) (o4 : Option Value) (o5 : Option Value) (l1 : Int32) (s : sg_S), I42 l1 s → am_Pn call d (0, fun _ => 0) al am_r201 (am_PhV am_r201 Ψ) n (42, [some (.ref 64), some (.int l1), o2, o3, o4, o5], [], sg_h s, 0, 0)) ∧ (∀ (o3 : Option Value) (o4 : Option Value) (o5 : Option Value) (l1 : Int32) (l2 : Int32) (s : sg_S), I199 l1 l2 s → am_Pn call d (0, fun _ => 0) al am_r201 (am_PhV am_r201 Ψ) n (199, [some (.ref 64), some (.int l1), some (.int l2), o3, o4, o5], [], sg_h s, 0, 0)) ∧ (∀ (o3 : Option Value) (o4 : Option Value) (o5 : Option Value) (l1 : Int32) (l2 : Int32) (s : sg_S), I57 l1 l2 s → am_Pn call d (0, fun _ => 0) al am_r201 (am_PhV am_r201 Ψ) n (57, [some (.ref 64), some (.int l1), some (.int l2), o3, o4, o5], [], sg_h s, 0, 0)) ∧ (∀ (o5 : Option Value) (l1 : Int32) (l2 : Int32) (l3 : Int32) (l4 : Int32) (s : sg_S), I228 l1 l2 l3 l4 s → am_Pn call d (0, fun _ => 0) al am_r201 (am_PhV am_r201 Ψ) n (228, [some (.ref 64), some (.int l1), some (.int l2), some (.int l3), some (.int l4), o5], [], sg_h s, 0, 0)) ∧ (∀ (o5 : Option Value) (l1 : Int32) (l2 : Int32) (l3 : Int32) (l4 : Int32) (s : sg_S), I74 l1 l2 l3 l4 s → am_Pn call d (0, fun _ => 0) al am_r201 (am_PhV am_r201 Ψ) n (74, [some (.ref 64), some (.int l1), some (.int l2), some (.int l3), some (.int l4), o5], [], sg_h s, 0, 0)) := by
    intro n
    induction n with
    | zero => exact ⟨fun _ _ _ _ _ _ _ => am_Pn.zero, fun _ _ _ _ _ _ _ => am_Pn.zero, fun _ _ _ _ _ _ _ => am_Pn.zero, fun _ _ _ _ _ _ _ => am_Pn.zero, fun _ _ _ _ _ _ _ => am_Pn.zero, fun _ _ _ _ _ _ _ => am_Pn.zero⟩
    | succ n ih =>
      refine ⟨?_, ?_, ?_, ?_, ?_, ?_⟩
      · intro o2 o3 o4 o5 l1 s h
        replace h := k2 l1 s h
        unfold wp_M_looksBack_2 at h
        refine am_Pn.bl1 1 (y := (4, [some (.ref 64), some (.int l1), o2, o3, o4, o5], [.ref 64, .int l1], sg_h s, 0, 0)) rfl ?_
        refine am_Pn.gr (k := 49) rfl rfl am_o64 rfl rfl ?_
        refine am_Pn.bl 1 (y := (8, [some (.ref 64), some (.int l1), o2, o3, o4, o5], [.ref 64, .ref 90, .int l1], sg_h s, 0, 0)) rfl ?_
        refine am_Pn.gi (k := 24) rfl rfl am_o64 rfl rfl ?_
        refine am_Pn.ia (a := 90) rfl rfl rfl rfl (fun hi => ?_)
        replace h := h (am_in0 hi) (am_in1 hi)
        refine am_Pn.bF h (am_bge rfl rfl) rfl rfl (fun h => ?_) (fun h => ?_)
        · refine am_Pn.bl 1 (y := (38, [some (.ref 64), some (.int l1), o2, o3, o4, o5], [.ref 64], sg_h s, 0, 0)) rfl ?_
          refine am_Pn.gi (k := 24) rfl rfl am_o64 rfl rfl ?_
          refine am_Pn.bl 1 (y := (42, [some (.ref 64), some (.int (s.1 64 24)), o2, o3, o4, o5], [], sg_h s, 0, 0)) rfl ?_
          exact (ih.2.1) o2 o3 o4 o5 (s.1 64 24) s h
        · refine am_Pn.bl 1 (y := (16, [some (.ref 64), some (.int l1), o2, o3, o4, o5], [.ref 64], sg_h s, 0, 0)) rfl ?_
          refine am_Pn.gr (k := 51) rfl rfl am_o64 rfl rfl ?_
          refine am_Pn.bl 2 (y := (23, [some (.ref 64), some (.int l1), o2, o3, o4, o5], [.ref 64, .int (Int32.ofInt (400)), .ref 92], sg_h s, 0, 0)) rfl ?_
          refine am_Pn.gi (k := 24) rfl rfl am_o64 rfl rfl ?_
          refine am_Pn.bl 4 (y := (30, [some (.ref 64), some (.int l1), o2, o3, o4, o5], [.int (Int32.ofInt (1)), .int (((Int32.ofInt (400)) * (s.1 64 24)) + l1), .ref 92], sg_h s, 0, 0)) rfl ?_
          refine am_Pn.bs (a := 92) rfl rfl rfl (fun hi => ?_)
          replace h := h (am_in0 hi) (am_in1 hi)
          refine am_Pn.bl 2 (y := (2, [some (.ref 64), some (.int (l1 + Int32.ofInt (1))), o2, o3, o4, o5], [], sg_h (sg_uA s 92 ((((Int32.ofInt (400)) * (s.1 64 24)) + l1).toInt.toNat) (vp_nar .boolean (Int32.ofInt (1)))), 0, 0)) rfl ?_
          exact (ih.1) o2 o3 o4 o5 (l1 + Int32.ofInt (1)) (sg_uA s 92 ((((Int32.ofInt (400)) * (s.1 64 24)) + l1).toInt.toNat) (vp_nar .boolean (Int32.ofInt (1)))) h
      · intro o2 o3 o4 o5 l1 s h
        replace h := k42 l1 s h
        unfold wp_M_looksBack_42 at h
        refine am_Pn.bl1 0 (y := (43, [some (.ref 64), some (.int l1), o2, o3, o4, o5], [.int l1], sg_h s, 0, 0)) rfl ?_
        refine am_Pn.zF h (am_ble rfl rfl) rfl rfl (fun h => ?_) (fun h => ?_)
        · refine am_Pn.bl 4 (y := (199, [some (.ref 64), some (.int (Int32.ofInt (0))), some (.int (Int32.ofInt (1))), o3, o4, o5], [], sg_h s, 0, 0)) rfl ?_
          exact (ih.2.2.1) o3 o4 o5 (Int32.ofInt (0)) (Int32.ofInt (1)) s h
        · refine am_Pn.bl 1 (y := (47, [some (.ref 64), some (.int l1), o2, o3, o4, o5], [.ref 64], sg_h s, 0, 0)) rfl ?_
          refine am_Pn.gr (k := 54) rfl rfl am_o64 rfl rfl ?_
          refine am_Pn.bl 4 (y := (54, [some (.ref 64), some (.int l1), o2, o3, o4, o5], [.int (Int32.ofInt (0)), .int (l1 - (Int32.ofInt (1))), .ref 95], sg_h s, 0, 0)) rfl ?_
          refine am_Pn.is (a := 95) rfl rfl rfl (fun hi => ?_)
          replace h := h (am_in0 hi) (am_in1 hi)
          refine am_Pn.bl 2 (y := (57, [some (.ref 64), some (.int l1), some (.int (Int32.ofInt (0))), o3, o4, o5], [], sg_h (sg_uA s 95 ((l1 - (Int32.ofInt (1))).toInt.toNat) (Int32.ofInt (0))), 0, 0)) rfl ?_
          exact (ih.2.2.2.1) o3 o4 o5 l1 (Int32.ofInt (0)) (sg_uA s 95 ((l1 - (Int32.ofInt (1))).toInt.toNat) (Int32.ofInt (0))) h
      · intro o3 o4 o5 l1 l2 s h
        replace h := k199 l1 l2 s h
        unfold wp_M_looksBack_199 at h
        refine am_Pn.bl1 1 (y := (201, [some (.ref 64), some (.int l1), some (.int l2), o3, o4, o5], [.ref 64, .int l2], sg_h s, 0, 0)) rfl ?_
        refine am_Pn.gi (k := 24) rfl rfl am_o64 rfl rfl ?_
        refine am_Pn.bT h (am_bgt rfl rfl) rfl rfl (fun h => ?_) (fun h => ?_)
        · exact am_Pn.rV h rfl
        · refine am_Pn.bl 3 (y := (210, [some (.ref 64), some (.int l1), some (.int l2), some (.int (Int32.ofInt (0))), o4, o5], [.ref 64], sg_h s, 0, 0)) rfl ?_
          refine am_Pn.gr (k := 50) rfl rfl am_o64 rfl rfl ?_
          refine am_Pn.bl 9 (y := (225, [some (.ref 64), some (.int l1), some (.int l2), some (.int (Int32.ofInt (0))), o4, o5], [.int ((((Int32.ofInt (400)) * (l2 - (Int32.ofInt (1)))) + l1) * (Int32.ofInt (16))), .ref 91], sg_h s, 0, 0)) rfl ?_
          refine am_Pn.ia (a := 91) rfl rfl rfl rfl (fun hi => ?_)
          replace h := h (am_in0 hi) (am_in1 hi)
          refine am_Pn.bl 1 (y := (228, [some (.ref 64), some (.int l1), some (.int l2), some (.int (Int32.ofInt (0))), some (.int (s.2.2.1 91 (((((Int32.ofInt (400)) * (l2 - (Int32.ofInt (1)))) + l1) * (Int32.ofInt (16))).toInt.toNat))), o5], [], sg_h s, 0, 0)) rfl ?_
          exact (ih.2.2.2.2.1) o5 l1 l2 (Int32.ofInt (0)) (s.2.2.1 91 (((((Int32.ofInt (400)) * (l2 - (Int32.ofInt (1)))) + l1) * (Int32.ofInt (16))).toInt.toNat)) s h
      · intro o3 o4 o5 l1 l2 s h
        replace h := k57 l1 l2 s h
        unfold wp_M_looksBack_57 at h
        refine am_Pn.bl1 1 (y := (59, [some (.ref 64), some (.int l1), some (.int l2), o3, o4, o5], [.ref 64, .int l2], sg_h s, 0, 0)) rfl ?_
        refine am_Pn.gr (k := 49) rfl rfl am_o64 rfl rfl ?_
        refine am_Pn.bl 3 (y := (65, [some (.ref 64), some (.int l1), some (.int l2), o3, o4, o5], [.int (l1 - (Int32.ofInt (1))), .ref 90, .int l2], sg_h s, 0, 0)) rfl ?_
        refine am_Pn.ia (a := 90) rfl rfl rfl rfl (fun hi => ?_)
        replace h := h (am_in0 hi) (am_in1 hi)
        refine am_Pn.bF h (am_bge rfl rfl) rfl rfl (fun h => ?_) (fun h => ?_)
        · refine am_Pn.bl 2 (y := (42, [some (.ref 64), some (.int (l1 + Int32.ofInt (-1))), some (.int l2), o3, o4, o5], [], sg_h s, 0, 0)) rfl ?_
          exact (ih.2.1) (some (.int l2)) o3 o4 o5 (l1 + Int32.ofInt (-1)) s h
        · refine am_Pn.bl 4 (y := (74, [some (.ref 64), some (.int l1), some (.int l2), some (.int (Int32.ofInt (0))), some (.int (Int32.ofInt (0))), o5], [], sg_h s, 0, 0)) rfl ?_
          exact (ih.2.2.2.2.2) o5 l1 l2 (Int32.ofInt (0)) (Int32.ofInt (0)) s h
      · intro o5 l1 l2 l3 l4 s h
        replace h := k228 l1 l2 l3 l4 s h
        unfold wp_M_looksBack_228 at h
        refine am_Pn.bl1 1 (y := (231, [some (.ref 64), some (.int l1), some (.int l2), some (.int l3), some (.int l4), o5], [.int (Int32.ofInt (-1)), .int l4], sg_h s, 0, 0)) rfl ?_
        refine am_Pn.bT h (am_beq rfl rfl) rfl rfl (fun h => ?_) (fun h => ?_)
        · refine am_Pn.bl 2 (y := (254, [some (.ref 64), some (.int l1), some (.int l2), some (.int (l3 + Int32.ofInt (1))), some (.int l4), o5], [.ref 64], sg_h s, 0, 0)) rfl ?_
          refine am_Pn.gr (k := 50) rfl rfl am_o64 rfl rfl ?_
          refine am_Pn.bl 11 (y := (271, [some (.ref 64), some (.int l1), some (.int l2), some (.int (l3 + Int32.ofInt (1))), some (.int l4), o5], [.int (((((Int32.ofInt (400)) * (l2 - (Int32.ofInt (1)))) + l1) * (Int32.ofInt (16))) + (l3 + Int32.ofInt (1))), .ref 91], sg_h s, 0, 0)) rfl ?_
          refine am_Pn.ia (a := 91) rfl rfl rfl rfl (fun hi => ?_)
          replace h := h (am_in0 hi) (am_in1 hi)
          refine am_Pn.bl 2 (y := (228, [some (.ref 64), some (.int l1), some (.int l2), some (.int (l3 + Int32.ofInt (1))), some (.int (s.2.2.1 91 ((((((Int32.ofInt (400)) * (l2 - (Int32.ofInt (1)))) + l1) * (Int32.ofInt (16))) + (l3 + Int32.ofInt (1))).toInt.toNat))), o5], [], sg_h s, 0, 0)) rfl ?_
          exact (ih.2.2.2.2.1) o5 l1 l2 (l3 + Int32.ofInt (1)) (s.2.2.1 91 ((((((Int32.ofInt (400)) * (l2 - (Int32.ofInt (1)))) + l1) * (Int32.ofInt (16))) + (l3 + Int32.ofInt (1))).toInt.toNat)) s h
        · refine am_Pn.bl 1 (y := (235, [some (.ref 64), some (.int l1), some (.int l2), some (.int l3), some (.int l4), o5], [.ref 64], sg_h s, 0, 0)) rfl ?_
          refine am_Pn.gr (k := 51) rfl rfl am_o64 rfl rfl ?_
          refine am_Pn.bl 5 (y := (246, [some (.ref 64), some (.int l1), some (.int l2), some (.int l3), some (.int l4), o5], [.int (((Int32.ofInt (400)) * l2) + l4), .ref 92], sg_h s, 0, 0)) rfl ?_
          refine am_Pn.ba (a := 92) rfl rfl rfl rfl (fun hi => ?_)
          replace h := h (am_in0 hi) (am_in1 hi)
          refine am_Pn.zF h (am_bne rfl rfl) rfl rfl (fun h => ?_) (fun h => ?_)
          · refine am_Pn.bl 1 (y := (278, [some (.ref 64), some (.int l1), some (.int l2), some (.int l3), some (.int l4), o5], [.ref 64], sg_h s, 0, 0)) rfl ?_
            refine am_Pn.gr (k := 53) rfl rfl am_o64 rfl rfl ?_
            refine am_Pn.bl 4 (y := (285, [some (.ref 64), some (.int l1), some (.int l2), some (.int l3), some (.int l4), o5], [.int l3, .int (l2 - (Int32.ofInt (1))), .ref 94], sg_h s, 0, 0)) rfl ?_
            refine am_Pn.is (a := 94) rfl rfl rfl (fun hi => ?_)
            replace h := h (am_in0 hi) (am_in1 hi)
            refine am_Pn.bl 4 (y := (199, [some (.ref 64), some (.int l4), some (.int (l2 + Int32.ofInt (1))), some (.int l3), some (.int l4), o5], [], sg_h (sg_uA s 94 ((l2 - (Int32.ofInt (1))).toInt.toNat) l3), 0, 0)) rfl ?_
            exact (ih.2.2.1) (some (.int l3)) (some (.int l4)) o5 l4 (l2 + Int32.ofInt (1)) (sg_uA s 94 ((l2 - (Int32.ofInt (1))).toInt.toNat) l3) h
          · refine am_Pn.bl 2 (y := (254, [some (.ref 64), some (.int l1), some (.int l2), some (.int (l3 + Int32.ofInt (1))), some (.int l4), o5], [.ref 64], sg_h s, 0, 0)) rfl ?_
            refine am_Pn.gr (k := 50) rfl rfl am_o64 rfl rfl ?_
            refine am_Pn.bl 11 (y := (271, [some (.ref 64), some (.int l1), some (.int l2), some (.int (l3 + Int32.ofInt (1))), some (.int l4), o5], [.int (((((Int32.ofInt (400)) * (l2 - (Int32.ofInt (1)))) + l1) * (Int32.ofInt (16))) + (l3 + Int32.ofInt (1))), .ref 91], sg_h s, 0, 0)) rfl ?_
            refine am_Pn.ia (a := 91) rfl rfl rfl rfl (fun hi => ?_)
            replace h := h (am_in0 hi) (am_in1 hi)
            refine am_Pn.bl 2 (y := (228, [some (.ref 64), some (.int l1), some (.int l2), some (.int (l3 + Int32.ofInt (1))), some (.int (s.2.2.1 91 ((((((Int32.ofInt (400)) * (l2 - (Int32.ofInt (1)))) + l1) * (Int32.ofInt (16))) + (l3 + Int32.ofInt (1))).toInt.toNat))), o5], [], sg_h s, 0, 0)) rfl ?_
            exact (ih.2.2.2.2.1) o5 l1 l2 (l3 + Int32.ofInt (1)) (s.2.2.1 91 ((((((Int32.ofInt (400)) * (l2 - (Int32.ofInt (1)))) + l1) * (Int32.ofInt (16))) + (l3 + Int32.ofInt (1))).toInt.toNat)) s h
      · intro o5 l1 l2 l3 l4 s h
        replace h := k74 l1 l2 l3 l4 s h
        unfold wp_M_looksBack_74 at h
        refine am_Pn.bl1 1 (y := (77, [some (.ref 64), some (.int l1), some (.int l2), some (.int l3), some (.int l4), o5], [.ref 64, .int l4], sg_h s, 0, 0)) rfl ?_
        refine am_Pn.gr (k := 52) rfl rfl am_o64 rfl rfl ?_
        refine am_Pn.bl 3 (y := (83, [some (.ref 64), some (.int l1), some (.int l2), some (.int l3), some (.int l4), o5], [.int (l1 - (Int32.ofInt (1))), .ref 93, .int l4], sg_h s, 0, 0)) rfl ?_
        refine am_Pn.ba (a := 93) rfl rfl rfl rfl (fun hi => ?_)
        replace h := h (am_in0 hi) (am_in1 hi)
        refine am_Pn.zT h (am_beq rfl rfl) rfl rfl (fun h => ?_) (fun h => ?_)
        · refine am_Pn.bl 1 (y := (92, [some (.ref 64), some (.int l1), some (.int l2), some (.int l3), some (.int l4), o5], [.ref 64, .int l4], sg_h s, 0, 0)) rfl ?_
          refine am_Pn.gi (k := 46) rfl rfl am_o64 rfl rfl ?_
          refine am_Pn.bF h (am_bge rfl rfl) rfl rfl (fun h => ?_) (fun h => ?_)
          · refine am_Pn.bl 1 (y := (169, [some (.ref 64), some (.int l1), some (.int l2), some (.int l3), some (.int l4), o5], [.ref 64], sg_h s, 0, 0)) rfl ?_
            refine am_Pn.gr (k := 51) rfl rfl am_o64 rfl rfl ?_
            refine am_Pn.bl 8 (y := (182, [some (.ref 64), some (.int l1), some (.int l2), some (.int l3), some (.int l4), o5], [.int l3, .int (((Int32.ofInt (400)) * (l1 - (Int32.ofInt (1)))) + l2), .ref 92], sg_h s, 0, 0)) rfl ?_
            refine am_Pn.bs (a := 92) rfl rfl rfl (fun hi => ?_)
            replace h := h (am_in0 hi) (am_in1 hi)
            refine am_Pn.bl 2 (y := (57, [some (.ref 64), some (.int l1), some (.int (l2 + Int32.ofInt (1))), some (.int l3), some (.int l4), o5], [], sg_h (sg_uA s 92 ((((Int32.ofInt (400)) * (l1 - (Int32.ofInt (1)))) + l2).toInt.toNat) (vp_nar .boolean l3)), 0, 0)) rfl ?_
            exact (ih.2.2.2.1) (some (.int l3)) (some (.int l4)) o5 l1 (l2 + Int32.ofInt (1)) (sg_uA s 92 ((((Int32.ofInt (400)) * (l1 - (Int32.ofInt (1)))) + l2).toInt.toNat) (vp_nar .boolean l3)) h
          · refine am_Pn.bl 1 (y := (99, [some (.ref 64), some (.int l1), some (.int l2), some (.int l3), some (.int l4), o5], [.ref 64], sg_h s, 0, 0)) rfl ?_
            refine am_Pn.gr (k := 50) rfl rfl am_o64 rfl rfl ?_
            refine am_Pn.bl 11 (y := (117, [some (.ref 64), some (.int l1), some (.int l2), some (.int l3), some (.int l4), o5], [.int (((((Int32.ofInt (400)) * (l1 - (Int32.ofInt (1)))) + l2) * (Int32.ofInt (16))) + l4), .ref 91], sg_h s, 0, 0)) rfl ?_
            refine am_Pn.ia (a := 91) rfl rfl rfl rfl (fun hi => ?_)
            replace h := h (am_in0 hi) (am_in1 hi)
            refine am_Pn.bl 3 (y := (123, [some (.ref 64), some (.int l1), some (.int l2), some (.int l3), some (.int l4), some (.int (s.2.2.1 91 ((((((Int32.ofInt (400)) * (l1 - (Int32.ofInt (1)))) + l2) * (Int32.ofInt (16))) + l4).toInt.toNat)))], [.int (Int32.ofInt (-1)), .int (s.2.2.1 91 ((((((Int32.ofInt (400)) * (l1 - (Int32.ofInt (1)))) + l2) * (Int32.ofInt (16))) + l4).toInt.toNat))], sg_h s, 0, 0)) rfl ?_
            refine am_Pn.bT h (am_beq rfl rfl) rfl rfl (fun h => ?_) (fun h => ?_)
            · refine am_Pn.bl 2 (y := (74, [some (.ref 64), some (.int l1), some (.int l2), some (.int l3), some (.int (l4 + Int32.ofInt (1))), some (.int (s.2.2.1 91 ((((((Int32.ofInt (400)) * (l1 - (Int32.ofInt (1)))) + l2) * (Int32.ofInt (16))) + l4).toInt.toNat)))], [], sg_h s, 0, 0)) rfl ?_
              exact (ih.2.2.2.2.2) (some (.int (s.2.2.1 91 ((((((Int32.ofInt (400)) * (l1 - (Int32.ofInt (1)))) + l2) * (Int32.ofInt (16))) + l4).toInt.toNat)))) l1 l2 l3 (l4 + Int32.ofInt (1)) s h
            · refine am_Pn.bl 1 (y := (127, [some (.ref 64), some (.int l1), some (.int l2), some (.int l3), some (.int l4), some (.int (s.2.2.1 91 ((((((Int32.ofInt (400)) * (l1 - (Int32.ofInt (1)))) + l2) * (Int32.ofInt (16))) + l4).toInt.toNat)))], [.ref 64], sg_h s, 0, 0)) rfl ?_
              refine am_Pn.gr (k := 51) rfl rfl am_o64 rfl rfl ?_
              refine am_Pn.bl 5 (y := (138, [some (.ref 64), some (.int l1), some (.int l2), some (.int l3), some (.int l4), some (.int (s.2.2.1 91 ((((((Int32.ofInt (400)) * (l1 - (Int32.ofInt (1)))) + l2) * (Int32.ofInt (16))) + l4).toInt.toNat)))], [.int (((Int32.ofInt (400)) * l1) + (s.2.2.1 91 ((((((Int32.ofInt (400)) * (l1 - (Int32.ofInt (1)))) + l2) * (Int32.ofInt (16))) + l4).toInt.toNat))), .ref 92], sg_h s, 0, 0)) rfl ?_
              refine am_Pn.ba (a := 92) rfl rfl rfl rfl (fun hi => ?_)
              replace h := h (am_in0 hi) (am_in1 hi)
              refine am_Pn.zF h (am_bne rfl rfl) rfl rfl (fun h => ?_) (fun h => ?_)
              · refine am_Pn.bl 3 (y := (148, [some (.ref 64), some (.int l1), some (.int l2), some (.int (Int32.ofInt (1))), some (.int l4), some (.int (s.2.2.1 91 ((((((Int32.ofInt (400)) * (l1 - (Int32.ofInt (1)))) + l2) * (Int32.ofInt (16))) + l4).toInt.toNat)))], [.ref 64], sg_h s, 0, 0)) rfl ?_
                refine am_Pn.gr (k := 54) rfl rfl am_o64 rfl rfl ?_
                refine am_Pn.bl 4 (y := (155, [some (.ref 64), some (.int l1), some (.int l2), some (.int (Int32.ofInt (1))), some (.int l4), some (.int (s.2.2.1 91 ((((((Int32.ofInt (400)) * (l1 - (Int32.ofInt (1)))) + l2) * (Int32.ofInt (16))) + l4).toInt.toNat)))], [.int (l1 - (Int32.ofInt (1))), .ref 95, .int (l1 - (Int32.ofInt (1))), .ref 95], sg_h s, 0, 0)) rfl ?_
                refine am_Pn.ia (a := 95) rfl rfl rfl rfl (fun hi => ?_)
                refine am_Pn.bl 4 (y := (161, [some (.ref 64), some (.int l1), some (.int l2), some (.int (Int32.ofInt (1))), some (.int l4), some (.int (s.2.2.1 91 ((((((Int32.ofInt (400)) * (l1 - (Int32.ofInt (1)))) + l2) * (Int32.ofInt (16))) + l4).toInt.toNat)))], [.int ((s.2.2.1 95 ((l1 - (Int32.ofInt (1))).toInt.toNat)) ||| ((Int32.ofInt (1)) <<< (l4 &&& 31))), .int (l1 - (Int32.ofInt (1))), .ref 95], sg_h s, 0, 0)) rfl ?_
                refine am_Pn.is (a := 95) rfl rfl rfl (fun hi => ?_)
                refine am_Pn.bl 2 (y := (74, [some (.ref 64), some (.int l1), some (.int l2), some (.int (Int32.ofInt (1))), some (.int (l4 + Int32.ofInt (1))), some (.int (s.2.2.1 91 ((((((Int32.ofInt (400)) * (l1 - (Int32.ofInt (1)))) + l2) * (Int32.ofInt (16))) + l4).toInt.toNat)))], [], sg_h (sg_uA s 95 ((l1 - (Int32.ofInt (1))).toInt.toNat) ((s.2.2.1 95 ((l1 - (Int32.ofInt (1))).toInt.toNat)) ||| ((Int32.ofInt (1)) <<< (l4 &&& 31)))), 0, 0)) rfl ?_
                exact (ih.2.2.2.2.2) (some (.int (s.2.2.1 91 ((((((Int32.ofInt (400)) * (l1 - (Int32.ofInt (1)))) + l2) * (Int32.ofInt (16))) + l4).toInt.toNat)))) l1 l2 (Int32.ofInt (1)) (l4 + Int32.ofInt (1)) (sg_uA s 95 ((l1 - (Int32.ofInt (1))).toInt.toNat) ((s.2.2.1 95 ((l1 - (Int32.ofInt (1))).toInt.toNat)) ||| ((Int32.ofInt (1)) <<< (l4 &&& 31)))) h
              · refine am_Pn.bl 3 (y := (74, [some (.ref 64), some (.int l1), some (.int l2), some (.int l3), some (.int (l4 + Int32.ofInt (1))), some (.int (s.2.2.1 91 ((((((Int32.ofInt (400)) * (l1 - (Int32.ofInt (1)))) + l2) * (Int32.ofInt (16))) + l4).toInt.toNat)))], [], sg_h s, 0, 0)) rfl ?_
                exact (ih.2.2.2.2.2) (some (.int (s.2.2.1 91 ((((((Int32.ofInt (400)) * (l1 - (Int32.ofInt (1)))) + l2) * (Int32.ofInt (16))) + l4).toInt.toNat)))) l1 l2 l3 (l4 + Int32.ofInt (1)) s h
        · refine am_Pn.bl 2 (y := (95, [some (.ref 64), some (.int l1), some (.int l2), some (.int l3), some (.int l4), o5], [.int (Int32.ofInt (1)), .int l4], sg_h s, 0, 0)) rfl ?_
          refine am_Pn.bF h (am_bge rfl rfl) rfl rfl (fun h => ?_) (fun h => ?_)
          · refine am_Pn.bl 1 (y := (169, [some (.ref 64), some (.int l1), some (.int l2), some (.int l3), some (.int l4), o5], [.ref 64], sg_h s, 0, 0)) rfl ?_
            refine am_Pn.gr (k := 51) rfl rfl am_o64 rfl rfl ?_
            refine am_Pn.bl 8 (y := (182, [some (.ref 64), some (.int l1), some (.int l2), some (.int l3), some (.int l4), o5], [.int l3, .int (((Int32.ofInt (400)) * (l1 - (Int32.ofInt (1)))) + l2), .ref 92], sg_h s, 0, 0)) rfl ?_
            refine am_Pn.bs (a := 92) rfl rfl rfl (fun hi => ?_)
            replace h := h (am_in0 hi) (am_in1 hi)
            refine am_Pn.bl 2 (y := (57, [some (.ref 64), some (.int l1), some (.int (l2 + Int32.ofInt (1))), some (.int l3), some (.int l4), o5], [], sg_h (sg_uA s 92 ((((Int32.ofInt (400)) * (l1 - (Int32.ofInt (1)))) + l2).toInt.toNat) (vp_nar .boolean l3)), 0, 0)) rfl ?_
            exact (ih.2.2.2.1) (some (.int l3)) (some (.int l4)) o5 l1 (l2 + Int32.ofInt (1)) (sg_uA s 92 ((((Int32.ofInt (400)) * (l1 - (Int32.ofInt (1)))) + l2).toInt.toNat) (vp_nar .boolean l3)) h
          · refine am_Pn.bl 1 (y := (99, [some (.ref 64), some (.int l1), some (.int l2), some (.int l3), some (.int l4), o5], [.ref 64], sg_h s, 0, 0)) rfl ?_
            refine am_Pn.gr (k := 50) rfl rfl am_o64 rfl rfl ?_
            refine am_Pn.bl 11 (y := (117, [some (.ref 64), some (.int l1), some (.int l2), some (.int l3), some (.int l4), o5], [.int (((((Int32.ofInt (400)) * (l1 - (Int32.ofInt (1)))) + l2) * (Int32.ofInt (16))) + l4), .ref 91], sg_h s, 0, 0)) rfl ?_
            refine am_Pn.ia (a := 91) rfl rfl rfl rfl (fun hi => ?_)
            replace h := h (am_in0 hi) (am_in1 hi)
            refine am_Pn.bl 3 (y := (123, [some (.ref 64), some (.int l1), some (.int l2), some (.int l3), some (.int l4), some (.int (s.2.2.1 91 ((((((Int32.ofInt (400)) * (l1 - (Int32.ofInt (1)))) + l2) * (Int32.ofInt (16))) + l4).toInt.toNat)))], [.int (Int32.ofInt (-1)), .int (s.2.2.1 91 ((((((Int32.ofInt (400)) * (l1 - (Int32.ofInt (1)))) + l2) * (Int32.ofInt (16))) + l4).toInt.toNat))], sg_h s, 0, 0)) rfl ?_
            refine am_Pn.bT h (am_beq rfl rfl) rfl rfl (fun h => ?_) (fun h => ?_)
            · refine am_Pn.bl 2 (y := (74, [some (.ref 64), some (.int l1), some (.int l2), some (.int l3), some (.int (l4 + Int32.ofInt (1))), some (.int (s.2.2.1 91 ((((((Int32.ofInt (400)) * (l1 - (Int32.ofInt (1)))) + l2) * (Int32.ofInt (16))) + l4).toInt.toNat)))], [], sg_h s, 0, 0)) rfl ?_
              exact (ih.2.2.2.2.2) (some (.int (s.2.2.1 91 ((((((Int32.ofInt (400)) * (l1 - (Int32.ofInt (1)))) + l2) * (Int32.ofInt (16))) + l4).toInt.toNat)))) l1 l2 l3 (l4 + Int32.ofInt (1)) s h
            · refine am_Pn.bl 1 (y := (127, [some (.ref 64), some (.int l1), some (.int l2), some (.int l3), some (.int l4), some (.int (s.2.2.1 91 ((((((Int32.ofInt (400)) * (l1 - (Int32.ofInt (1)))) + l2) * (Int32.ofInt (16))) + l4).toInt.toNat)))], [.ref 64], sg_h s, 0, 0)) rfl ?_
              refine am_Pn.gr (k := 51) rfl rfl am_o64 rfl rfl ?_
              refine am_Pn.bl 5 (y := (138, [some (.ref 64), some (.int l1), some (.int l2), some (.int l3), some (.int l4), some (.int (s.2.2.1 91 ((((((Int32.ofInt (400)) * (l1 - (Int32.ofInt (1)))) + l2) * (Int32.ofInt (16))) + l4).toInt.toNat)))], [.int (((Int32.ofInt (400)) * l1) + (s.2.2.1 91 ((((((Int32.ofInt (400)) * (l1 - (Int32.ofInt (1)))) + l2) * (Int32.ofInt (16))) + l4).toInt.toNat))), .ref 92], sg_h s, 0, 0)) rfl ?_
              refine am_Pn.ba (a := 92) rfl rfl rfl rfl (fun hi => ?_)
              replace h := h (am_in0 hi) (am_in1 hi)
              refine am_Pn.zF h (am_bne rfl rfl) rfl rfl (fun h => ?_) (fun h => ?_)
              · refine am_Pn.bl 3 (y := (148, [some (.ref 64), some (.int l1), some (.int l2), some (.int (Int32.ofInt (1))), some (.int l4), some (.int (s.2.2.1 91 ((((((Int32.ofInt (400)) * (l1 - (Int32.ofInt (1)))) + l2) * (Int32.ofInt (16))) + l4).toInt.toNat)))], [.ref 64], sg_h s, 0, 0)) rfl ?_
                refine am_Pn.gr (k := 54) rfl rfl am_o64 rfl rfl ?_
                refine am_Pn.bl 4 (y := (155, [some (.ref 64), some (.int l1), some (.int l2), some (.int (Int32.ofInt (1))), some (.int l4), some (.int (s.2.2.1 91 ((((((Int32.ofInt (400)) * (l1 - (Int32.ofInt (1)))) + l2) * (Int32.ofInt (16))) + l4).toInt.toNat)))], [.int (l1 - (Int32.ofInt (1))), .ref 95, .int (l1 - (Int32.ofInt (1))), .ref 95], sg_h s, 0, 0)) rfl ?_
                refine am_Pn.ia (a := 95) rfl rfl rfl rfl (fun hi => ?_)
                refine am_Pn.bl 4 (y := (161, [some (.ref 64), some (.int l1), some (.int l2), some (.int (Int32.ofInt (1))), some (.int l4), some (.int (s.2.2.1 91 ((((((Int32.ofInt (400)) * (l1 - (Int32.ofInt (1)))) + l2) * (Int32.ofInt (16))) + l4).toInt.toNat)))], [.int ((s.2.2.1 95 ((l1 - (Int32.ofInt (1))).toInt.toNat)) ||| ((Int32.ofInt (1)) <<< (l4 &&& 31))), .int (l1 - (Int32.ofInt (1))), .ref 95], sg_h s, 0, 0)) rfl ?_
                refine am_Pn.is (a := 95) rfl rfl rfl (fun hi => ?_)
                refine am_Pn.bl 2 (y := (74, [some (.ref 64), some (.int l1), some (.int l2), some (.int (Int32.ofInt (1))), some (.int (l4 + Int32.ofInt (1))), some (.int (s.2.2.1 91 ((((((Int32.ofInt (400)) * (l1 - (Int32.ofInt (1)))) + l2) * (Int32.ofInt (16))) + l4).toInt.toNat)))], [], sg_h (sg_uA s 95 ((l1 - (Int32.ofInt (1))).toInt.toNat) ((s.2.2.1 95 ((l1 - (Int32.ofInt (1))).toInt.toNat)) ||| ((Int32.ofInt (1)) <<< (l4 &&& 31)))), 0, 0)) rfl ?_
                exact (ih.2.2.2.2.2) (some (.int (s.2.2.1 91 ((((((Int32.ofInt (400)) * (l1 - (Int32.ofInt (1)))) + l2) * (Int32.ofInt (16))) + l4).toInt.toNat)))) l1 l2 (Int32.ofInt (1)) (l4 + Int32.ofInt (1)) (sg_uA s 95 ((l1 - (Int32.ofInt (1))).toInt.toNat) ((s.2.2.1 95 ((l1 - (Int32.ofInt (1))).toInt.toNat)) ||| ((Int32.ofInt (1)) <<< (l4 &&& 31)))) h
              · refine am_Pn.bl 3 (y := (74, [some (.ref 64), some (.int l1), some (.int l2), some (.int l3), some (.int (l4 + Int32.ofInt (1))), some (.int (s.2.2.1 91 ((((((Int32.ofInt (400)) * (l1 - (Int32.ofInt (1)))) + l2) * (Int32.ofInt (16))) + l4).toInt.toNat)))], [], sg_h s, 0, 0)) rfl ?_
                exact (ih.2.2.2.2.2) (some (.int (s.2.2.1 91 ((((((Int32.ofInt (400)) * (l1 - (Int32.ofInt (1)))) + l2) * (Int32.ofInt (16))) + l4).toInt.toNat)))) l1 l2 l3 (l4 + Int32.ofInt (1)) s h
  unfold wp_M_looksBack at h
  refine am_Pn.bl 2 (y := (2, [some (.ref 64), some (.int (Int32.ofInt (0))), none, none, none, none], [], sg_h s, 0, 0)) rfl ?_
  exact ((key n).1) none none none none (Int32.ofInt (0)) s h
def wp_M_ends_23 (I23 : Int32 →  sg_S → Prop) (I49 : Int32 →  sg_S → Prop) (I98 : Int32 → Int32 →  sg_S → Prop) (Ψ : Int32 → sg_S → Prop) (l1 : Int32) (s : sg_S) : Prop := ((l1.toInt < (14) → (0 ≤ l1.toInt → l1.toInt < (14) → (0 ≤ l1.toInt → l1.toInt < (274400) → (I23 (l1 + Int32.ofInt (1)) (sg_uA s 89 (l1.toInt.toNat) (s.2.2.1 82 (l1.toInt.toNat))))))) ∧ (¬ l1.toInt < (14) → (I49 (Int32.ofInt (1)) s)))
def wp_M_ends_49 (I23 : Int32 →  sg_S → Prop) (I49 : Int32 →  sg_S → Prop) (I98 : Int32 → Int32 →  sg_S → Prop) (Ψ : Int32 → sg_S → Prop) (l1 : Int32) (s : sg_S) : Prop := (((s.1 64 24).toInt < l1.toInt → (0 ≤ (s.1 64 24).toInt → (s.1 64 24).toInt < (49) → (((s.2.2.1 90 ((s.1 64 24).toInt.toNat)).toInt = (0) → (Ψ (Int32.ofInt (0)) s)) ∧ (¬ (s.2.2.1 90 ((s.1 64 24).toInt.toNat)).toInt = (0) → (am_SpV 201 [.ref 64] s (fun s2 => (Ψ (Int32.ofInt (1)) (sg_uI (sg_uI s2 64 55 (Int32.ofInt (1))) 64 57 (s2.1 64 24))))))))) ∧ (¬ (s.1 64 24).toInt < l1.toInt → (0 ≤ l1.toInt → l1.toInt < (49) → (((s.1 64 40).toInt < l1.toInt → (0 ≤ (l1 - (Int32.ofInt (1))).toInt → (l1 - (Int32.ofInt (1))).toInt < (48) → (I98 l1 (Int32.ofInt (0)) (sg_uA (sg_uA s 90 (l1.toInt.toNat) (Int32.ofInt (0))) 93 ((l1 - (Int32.ofInt (1))).toInt.toNat) (vp_nar .boolean (Int32.ofInt (0))))))) ∧ (¬ (s.1 64 40).toInt < l1.toInt → (0 ≤ (l1 - (Int32.ofInt (1))).toInt → (l1 - (Int32.ofInt (1))).toInt < (48) → (((s.2.2.1 86 ((l1 - (Int32.ofInt (1))).toInt.toNat)).toInt = (0) → (I98 l1 (Int32.ofInt (0)) (sg_uA (sg_uA s 90 (l1.toInt.toNat) (Int32.ofInt (0))) 93 ((l1 - (Int32.ofInt (1))).toInt.toNat) (vp_nar .boolean (Int32.ofInt (1)))))) ∧ (¬ (s.2.2.1 86 ((l1 - (Int32.ofInt (1))).toInt.toNat)).toInt = (0) → (I98 l1 (Int32.ofInt (0)) (sg_uA (sg_uA s 90 (l1.toInt.toNat) (Int32.ofInt (0))) 93 ((l1 - (Int32.ofInt (1))).toInt.toNat) (vp_nar .boolean (Int32.ofInt (0)))))))))))))
def wp_M_ends_98 (I23 : Int32 →  sg_S → Prop) (I49 : Int32 →  sg_S → Prop) (I98 : Int32 → Int32 →  sg_S → Prop) (Ψ : Int32 → sg_S → Prop) (l1 : Int32) (l2 : Int32) (s : sg_S) : Prop := (0 ≤ (l1 - (Int32.ofInt (1))).toInt → (l1 - (Int32.ofInt (1))).toInt < (49) → ((l2.toInt < (s.2.2.1 90 ((l1 - (Int32.ofInt (1))).toInt.toNat)).toInt → (am_SpI 198 [.ref 64, .int l1, .int l2] s (fun x3 s3 => ((x3.toInt = (0) → (Ψ (Int32.ofInt (-4)) s3)) ∧ (¬ x3.toInt = (0) → (I98 l1 (l2 + Int32.ofInt (1)) s3)))))) ∧ (¬ l2.toInt < (s.2.2.1 90 ((l1 - (Int32.ofInt (1))).toInt.toNat)).toInt → (I49 (l1 + Int32.ofInt (1)) s))))
def wp_M_ends (I23 : Int32 →  sg_S → Prop) (I49 : Int32 →  sg_S → Prop) (I98 : Int32 → Int32 →  sg_S → Prop) (Ψ : Int32 → sg_S → Prop) (s : sg_S) : Prop := (am_SpV 185 [.ref 64] (sg_uA (sg_uI (sg_uI s 64 55 (Int32.ofInt (0))) 64 56 (Int32.ofInt (1))) 90 (0) (Int32.ofInt (1))) (fun s1 => (I23 (Int32.ofInt (0)) s1)))
set_option maxRecDepth 100000 in
theorem wp_M_ends_ok {I23 : Int32 →  sg_S → Prop} {I49 : Int32 →  sg_S → Prop} {I98 : Int32 → Int32 →  sg_S → Prop} {Ψ : Int32 → sg_S → Prop} {s : sg_S} (k23 : ∀ (l1 : Int32) (s : sg_S), I23 l1 s → wp_M_ends_23 I23 I49 I98 Ψ  l1 s) (k49 : ∀ (l1 : Int32) (s : sg_S), I49 l1 s → wp_M_ends_49 I23 I49 I98 Ψ  l1 s) (k98 : ∀ (l1 : Int32) (l2 : Int32) (s : sg_S), I98 l1 l2 s → wp_M_ends_98 I23 I49 I98 Ψ  l1 l2 s) (h : wp_M_ends I23 I49 I98 Ψ  s) : am_SpI 197 [.ref 64] s Ψ := by
  refine am_SpI.mk (r := am_r197) rfl rfl (fun call d al n hcl => ?_)
  have key : ∀ n, (∀ (o2 : Option Value) (l1 : Int32) (s : sg_S), I23 l1 s → am_Pn call d (0, fun _ => 0) al am_r197 (am_PhI am_r197 Ψ) n (23, [some (.ref 64), some (.int l1), o2], [], sg_h s, 0, 0)) ∧ (∀ (o2 : Option Value) (l1 : Int32) (s : sg_S), I49 l1 s → am_Pn call d (0, fun _ => 0) al am_r197 (am_PhI am_r197 Ψ) n (49, [some (.ref 64), some (.int l1), o2], [], sg_h s, 0, 0)) ∧ (∀ (l1 : Int32) (l2 : Int32) (s : sg_S), I98 l1 l2 s → am_Pn call d (0, fun _ => 0) al am_r197 (am_PhI am_r197 Ψ) n (98, [some (.ref 64), some (.int l1), some (.int l2)], [], sg_h s, 0, 0)) := by
    intro n
    induction n with
    | zero => exact ⟨fun _ _ _ _ => am_Pn.zero, fun _ _ _ _ => am_Pn.zero, fun _ _ _ _ => am_Pn.zero⟩
    | succ n ih =>
      refine ⟨?_, ?_, ?_⟩
      · intro o2 l1 s h
        replace h := k23 l1 s h
        unfold wp_M_ends_23 at h
        refine am_Pn.bl1 1 (y := (26, [some (.ref 64), some (.int l1), o2], [.int (Int32.ofInt (14)), .int l1], sg_h s, 0, 0)) rfl ?_
        refine am_Pn.bF h (am_bge rfl rfl) rfl rfl (fun h => ?_) (fun h => ?_)
        · refine am_Pn.bl 2 (y := (49, [some (.ref 64), some (.int (Int32.ofInt (1))), o2], [], sg_h s, 0, 0)) rfl ?_
          exact (ih.2.1) o2 (Int32.ofInt (1)) s h
        · refine am_Pn.bl 1 (y := (30, [some (.ref 64), some (.int l1), o2], [.ref 64], sg_h s, 0, 0)) rfl ?_
          refine am_Pn.gr (k := 48) rfl rfl am_o64 rfl rfl ?_
          refine am_Pn.bl 2 (y := (35, [some (.ref 64), some (.int l1), o2], [.ref 64, .int l1, .ref 89], sg_h s, 0, 0)) rfl ?_
          refine am_Pn.gr (k := 39) rfl rfl am_o64 rfl rfl ?_
          refine am_Pn.bl 1 (y := (39, [some (.ref 64), some (.int l1), o2], [.int l1, .ref 82, .int l1, .ref 89], sg_h s, 0, 0)) rfl ?_
          refine am_Pn.ia (a := 82) rfl rfl rfl rfl (fun hi => ?_)
          replace h := h (am_in0 hi) (am_in1 hi)
          refine am_Pn.is (a := 89) rfl rfl rfl (fun hi => ?_)
          replace h := h (am_in0 hi) (am_in1 hi)
          refine am_Pn.bl 2 (y := (23, [some (.ref 64), some (.int (l1 + Int32.ofInt (1))), o2], [], sg_h (sg_uA s 89 (l1.toInt.toNat) (s.2.2.1 82 (l1.toInt.toNat))), 0, 0)) rfl ?_
          exact (ih.1) o2 (l1 + Int32.ofInt (1)) (sg_uA s 89 (l1.toInt.toNat) (s.2.2.1 82 (l1.toInt.toNat))) h
      · intro o2 l1 s h
        replace h := k49 l1 s h
        unfold wp_M_ends_49 at h
        refine am_Pn.bl1 1 (y := (51, [some (.ref 64), some (.int l1), o2], [.ref 64, .int l1], sg_h s, 0, 0)) rfl ?_
        refine am_Pn.gi (k := 24) rfl rfl am_o64 rfl rfl ?_
        refine am_Pn.bT h (am_bgt rfl rfl) rfl rfl (fun h => ?_) (fun h => ?_)
        · refine am_Pn.bl 1 (y := (135, [some (.ref 64), some (.int l1), o2], [.ref 64], sg_h s, 0, 0)) rfl ?_
          refine am_Pn.gr (k := 49) rfl rfl am_o64 rfl rfl ?_
          refine am_Pn.bl 1 (y := (139, [some (.ref 64), some (.int l1), o2], [.ref 64, .ref 90], sg_h s, 0, 0)) rfl ?_
          refine am_Pn.gi (k := 24) rfl rfl am_o64 rfl rfl ?_
          refine am_Pn.ia (a := 90) rfl rfl rfl rfl (fun hi => ?_)
          replace h := h (am_in0 hi) (am_in1 hi)
          refine am_Pn.zF h (am_bne rfl rfl) rfl rfl (fun h => ?_) (fun h => ?_)
          · refine am_Pn.bl 1 (y := (149, [some (.ref 64), some (.int l1), o2], [.ref 64], sg_h s, 0, 0)) rfl ?_
            refine am_Pn.cvV hcl h rfl rfl rfl rfl rfl (fun s2 h => ?_)
            refine am_Pn.bl 2 (y := (154, [some (.ref 64), some (.int l1), o2], [.int (Int32.ofInt (1)), .ref 64], sg_h s2, 0, 0)) rfl ?_
            refine am_Pn.pi (k := 55) rfl rfl am_o64 rfl rfl ?_
            refine am_Pn.bl 2 (y := (159, [some (.ref 64), some (.int l1), o2], [.ref 64, .ref 64], sg_h (sg_uI s2 64 55 (Int32.ofInt (1))), 0, 0)) rfl ?_
            refine am_Pn.gi (k := 24) rfl rfl am_o64 rfl rfl ?_
            refine am_Pn.pi (k := 57) rfl rfl am_o64 rfl rfl ?_
            refine am_Pn.bl 1 (y := (166, [some (.ref 64), some (.int l1), o2], [.int (Int32.ofInt (1))], sg_h (sg_uI (sg_uI s2 64 55 (Int32.ofInt (1))) 64 57 (s2.1 64 24)), 0, 0)) rfl ?_
            exact am_Pn.rI h rfl
          · refine am_Pn.bl 1 (y := (147, [some (.ref 64), some (.int l1), o2], [.int (Int32.ofInt (0))], sg_h s, 0, 0)) rfl ?_
            exact am_Pn.rI h rfl
        · refine am_Pn.bl 1 (y := (58, [some (.ref 64), some (.int l1), o2], [.ref 64], sg_h s, 0, 0)) rfl ?_
          refine am_Pn.gr (k := 49) rfl rfl am_o64 rfl rfl ?_
          refine am_Pn.bl 2 (y := (63, [some (.ref 64), some (.int l1), o2], [.int (Int32.ofInt (0)), .int l1, .ref 90], sg_h s, 0, 0)) rfl ?_
          refine am_Pn.is (a := 90) rfl rfl rfl (fun hi => ?_)
          replace h := h (am_in0 hi) (am_in1 hi)
          refine am_Pn.bl 1 (y := (65, [some (.ref 64), some (.int l1), o2], [.ref 64], sg_h (sg_uA s 90 (l1.toInt.toNat) (Int32.ofInt (0))), 0, 0)) rfl ?_
          refine am_Pn.gr (k := 52) rfl rfl am_o64 rfl rfl ?_
          refine am_Pn.bl 5 (y := (73, [some (.ref 64), some (.int l1), o2], [.ref 64, .int l1, .int (l1 - (Int32.ofInt (1))), .ref 93], sg_h (sg_uA s 90 (l1.toInt.toNat) (Int32.ofInt (0))), 0, 0)) rfl ?_
          refine am_Pn.gi (k := 40) rfl rfl am_o64 rfl rfl ?_
          refine am_Pn.bT h (am_bgt rfl rfl) rfl rfl (fun h => ?_) (fun h => ?_)
          · refine am_Pn.bl 1 (y := (95, [some (.ref 64), some (.int l1), o2], [.int (Int32.ofInt (0)), .int (l1 - (Int32.ofInt (1))), .ref 93], sg_h (sg_uA s 90 (l1.toInt.toNat) (Int32.ofInt (0))), 0, 0)) rfl ?_
            refine am_Pn.bs (a := 93) rfl rfl rfl (fun hi => ?_)
            replace h := h (am_in0 hi) (am_in1 hi)
            refine am_Pn.bl 2 (y := (98, [some (.ref 64), some (.int l1), some (.int (Int32.ofInt (0)))], [], sg_h (sg_uA (sg_uA s 90 (l1.toInt.toNat) (Int32.ofInt (0))) 93 ((l1 - (Int32.ofInt (1))).toInt.toNat) (vp_nar .boolean (Int32.ofInt (0)))), 0, 0)) rfl ?_
            exact (ih.2.2) l1 (Int32.ofInt (0)) (sg_uA (sg_uA s 90 (l1.toInt.toNat) (Int32.ofInt (0))) 93 ((l1 - (Int32.ofInt (1))).toInt.toNat) (vp_nar .boolean (Int32.ofInt (0)))) h
          · refine am_Pn.bl 1 (y := (80, [some (.ref 64), some (.int l1), o2], [.ref 64, .int (l1 - (Int32.ofInt (1))), .ref 93], sg_h (sg_uA s 90 (l1.toInt.toNat) (Int32.ofInt (0))), 0, 0)) rfl ?_
            refine am_Pn.gr (k := 44) rfl rfl am_o64 rfl rfl ?_
            refine am_Pn.bl 3 (y := (86, [some (.ref 64), some (.int l1), o2], [.int (l1 - (Int32.ofInt (1))), .ref 86, .int (l1 - (Int32.ofInt (1))), .ref 93], sg_h (sg_uA s 90 (l1.toInt.toNat) (Int32.ofInt (0))), 0, 0)) rfl ?_
            refine am_Pn.ba (a := 86) rfl rfl rfl rfl (fun hi => ?_)
            replace h := h (am_in0 hi) (am_in1 hi)
            refine am_Pn.zF h (am_bne rfl rfl) rfl rfl (fun h => ?_) (fun h => ?_)
            · refine am_Pn.bl 1 (y := (95, [some (.ref 64), some (.int l1), o2], [.int (Int32.ofInt (0)), .int (l1 - (Int32.ofInt (1))), .ref 93], sg_h (sg_uA s 90 (l1.toInt.toNat) (Int32.ofInt (0))), 0, 0)) rfl ?_
              refine am_Pn.bs (a := 93) rfl rfl rfl (fun hi => ?_)
              refine am_Pn.bl 2 (y := (98, [some (.ref 64), some (.int l1), some (.int (Int32.ofInt (0)))], [], sg_h (sg_uA (sg_uA s 90 (l1.toInt.toNat) (Int32.ofInt (0))) 93 ((l1 - (Int32.ofInt (1))).toInt.toNat) (vp_nar .boolean (Int32.ofInt (0)))), 0, 0)) rfl ?_
              exact (ih.2.2) l1 (Int32.ofInt (0)) (sg_uA (sg_uA s 90 (l1.toInt.toNat) (Int32.ofInt (0))) 93 ((l1 - (Int32.ofInt (1))).toInt.toNat) (vp_nar .boolean (Int32.ofInt (0)))) h
            · refine am_Pn.bl 2 (y := (95, [some (.ref 64), some (.int l1), o2], [.int (Int32.ofInt (1)), .int (l1 - (Int32.ofInt (1))), .ref 93], sg_h (sg_uA s 90 (l1.toInt.toNat) (Int32.ofInt (0))), 0, 0)) rfl ?_
              refine am_Pn.bs (a := 93) rfl rfl rfl (fun hi => ?_)
              refine am_Pn.bl 2 (y := (98, [some (.ref 64), some (.int l1), some (.int (Int32.ofInt (0)))], [], sg_h (sg_uA (sg_uA s 90 (l1.toInt.toNat) (Int32.ofInt (0))) 93 ((l1 - (Int32.ofInt (1))).toInt.toNat) (vp_nar .boolean (Int32.ofInt (1)))), 0, 0)) rfl ?_
              exact (ih.2.2) l1 (Int32.ofInt (0)) (sg_uA (sg_uA s 90 (l1.toInt.toNat) (Int32.ofInt (0))) 93 ((l1 - (Int32.ofInt (1))).toInt.toNat) (vp_nar .boolean (Int32.ofInt (1)))) h
      · intro l1 l2 s h
        replace h := k98 l1 l2 s h
        unfold wp_M_ends_98 at h
        refine am_Pn.bl1 1 (y := (100, [some (.ref 64), some (.int l1), some (.int l2)], [.ref 64, .int l2], sg_h s, 0, 0)) rfl ?_
        refine am_Pn.gr (k := 49) rfl rfl am_o64 rfl rfl ?_
        refine am_Pn.bl 3 (y := (106, [some (.ref 64), some (.int l1), some (.int l2)], [.int (l1 - (Int32.ofInt (1))), .ref 90, .int l2], sg_h s, 0, 0)) rfl ?_
        refine am_Pn.ia (a := 90) rfl rfl rfl rfl (fun hi => ?_)
        replace h := h (am_in0 hi) (am_in1 hi)
        refine am_Pn.bF h (am_bge rfl rfl) rfl rfl (fun h => ?_) (fun h => ?_)
        · refine am_Pn.bl 2 (y := (49, [some (.ref 64), some (.int (l1 + Int32.ofInt (1))), some (.int l2)], [], sg_h s, 0, 0)) rfl ?_
          exact (ih.2.1) (some (.int l2)) (l1 + Int32.ofInt (1)) s h
        · refine am_Pn.bl 3 (y := (113, [some (.ref 64), some (.int l1), some (.int l2)], [.int l2, .int l1, .ref 64], sg_h s, 0, 0)) rfl ?_
          refine am_Pn.cvI hcl h rfl rfl rfl rfl rfl (fun x3 s3 h => ?_)
          refine am_Pn.zF h (am_bne rfl rfl) rfl rfl (fun h => ?_) (fun h => ?_)
          · refine am_Pn.bl 2 (y := (98, [some (.ref 64), some (.int l1), some (.int (l2 + Int32.ofInt (1)))], [], sg_h s3, 0, 0)) rfl ?_
            exact (ih.2.2) l1 (l2 + Int32.ofInt (1)) s3 h
          · refine am_Pn.bl 1 (y := (121, [some (.ref 64), some (.int l1), some (.int l2)], [.int (Int32.ofInt (-4))], sg_h s3, 0, 0)) rfl ?_
            exact am_Pn.rI h rfl
  unfold wp_M_ends at h
  refine am_Pn.bl 2 (y := (2, [some (.ref 64), none, none], [.int (Int32.ofInt (0)), .ref 64], sg_h s, 0, 0)) rfl ?_
  refine am_Pn.pi (k := 55) rfl rfl am_o64 rfl rfl ?_
  refine am_Pn.bl 2 (y := (7, [some (.ref 64), none, none], [.int (Int32.ofInt (1)), .ref 64], sg_h (sg_uI s 64 55 (Int32.ofInt (0))), 0, 0)) rfl ?_
  refine am_Pn.pi (k := 56) rfl rfl am_o64 rfl rfl ?_
  refine am_Pn.bl 1 (y := (11, [some (.ref 64), none, none], [.ref 64], sg_h (sg_uI (sg_uI s 64 55 (Int32.ofInt (0))) 64 56 (Int32.ofInt (1))), 0, 0)) rfl ?_
  refine am_Pn.gr (k := 49) rfl rfl am_o64 rfl rfl ?_
  refine am_Pn.bl 2 (y := (16, [some (.ref 64), none, none], [.int (Int32.ofInt (1)), .int (Int32.ofInt (0)), .ref 90], sg_h (sg_uI (sg_uI s 64 55 (Int32.ofInt (0))) 64 56 (Int32.ofInt (1))), 0, 0)) rfl ?_
  refine am_Pn.is (a := 90) rfl rfl rfl (fun hi => ?_)
  refine am_Pn.bl 1 (y := (18, [some (.ref 64), none, none], [.ref 64], sg_h (sg_uA (sg_uI (sg_uI s 64 55 (Int32.ofInt (0))) 64 56 (Int32.ofInt (1))) 90 (0) (Int32.ofInt (1))), 0, 0)) rfl ?_
  refine am_Pn.cvV hcl h rfl rfl rfl rfl rfl (fun s1 h => ?_)
  refine am_Pn.bl 2 (y := (23, [some (.ref 64), some (.int (Int32.ofInt (0))), none], [], sg_h s1, 0, 0)) rfl ?_
  exact ((key n).1) none (Int32.ofInt (0)) s1 h
def wp_M_isOpen (Ψ : Int32 → sg_S → Prop) (x1 : Int32) (s : sg_S) : Prop := (((s.1 64 55).toInt = (0) → (Ψ (Int32.ofInt (0)) s)) ∧ (¬ (s.1 64 55).toInt = (0) → (am_SpI 168 [.int x1, .int (Int32.ofInt (1)), .int (s.1 64 57)] s (fun x2 s2 => ((x2.toInt = (0) → (Ψ (Int32.ofInt (0)) s2)) ∧ (¬ x2.toInt = (0) → (0 ≤ (x1 - (Int32.ofInt (1))).toInt → (x1 - (Int32.ofInt (1))).toInt < (48) → (((s2.2.2.1 93 ((x1 - (Int32.ofInt (1))).toInt.toNat)).toInt = (0) → (Ψ (Int32.ofInt (1)) s2)) ∧ (¬ (s2.2.2.1 93 ((x1 - (Int32.ofInt (1))).toInt.toNat)).toInt = (0) → (Ψ (Int32.ofInt (0)) s2))))))))))
set_option maxRecDepth 100000 in
theorem wp_M_isOpen_ok {Ψ : Int32 → sg_S → Prop} {x1 : Int32} {s : sg_S} (h : wp_M_isOpen Ψ x1 s) : am_SpI 203 [.ref 64, .int x1] s Ψ := by
  refine am_SpI.mk (r := am_r203) rfl rfl (fun call d al n hcl => ?_)
  unfold wp_M_isOpen at h
  refine am_Pn.bl 1 (y := (1, [some (.ref 64), some (.int x1)], [.ref 64], sg_h s, 0, 0)) rfl ?_
  refine am_Pn.gi (k := 55) rfl rfl am_o64 rfl rfl ?_
  refine am_Pn.zT h (am_beq rfl rfl) rfl rfl (fun h => ?_) (fun h => ?_)
  · refine am_Pn.bl 1 (y := (35, [some (.ref 64), some (.int x1)], [.int (Int32.ofInt (0))], sg_h s, 0, 0)) rfl ?_
    exact am_Pn.rI h rfl
  · refine am_Pn.bl 3 (y := (10, [some (.ref 64), some (.int x1)], [.ref 64, .int (Int32.ofInt (1)), .int x1], sg_h s, 0, 0)) rfl ?_
    refine am_Pn.gi (k := 57) rfl rfl am_o64 rfl rfl ?_
    refine am_Pn.csI hcl h rfl rfl rfl rfl rfl (fun x2 s2 h => ?_)
    refine am_Pn.zT h (am_beq rfl rfl) rfl rfl (fun h => ?_) (fun h => ?_)
    · refine am_Pn.bl 1 (y := (35, [some (.ref 64), some (.int x1)], [.int (Int32.ofInt (0))], sg_h s2, 0, 0)) rfl ?_
      exact am_Pn.rI h rfl
    · refine am_Pn.bl 1 (y := (20, [some (.ref 64), some (.int x1)], [.ref 64], sg_h s2, 0, 0)) rfl ?_
      refine am_Pn.gr (k := 52) rfl rfl am_o64 rfl rfl ?_
      refine am_Pn.bl 3 (y := (26, [some (.ref 64), some (.int x1)], [.int (x1 - (Int32.ofInt (1))), .ref 93], sg_h s2, 0, 0)) rfl ?_
      refine am_Pn.ba (a := 93) rfl rfl rfl rfl (fun hi => ?_)
      replace h := h (am_in0 hi) (am_in1 hi)
      refine am_Pn.zF h (am_bne rfl rfl) rfl rfl (fun h => ?_) (fun h => ?_)
      · refine am_Pn.bl 1 (y := (35, [some (.ref 64), some (.int x1)], [.int (Int32.ofInt (0))], sg_h s2, 0, 0)) rfl ?_
        exact am_Pn.rI h rfl
      · refine am_Pn.bl 2 (y := (35, [some (.ref 64), some (.int x1)], [.int (Int32.ofInt (1))], sg_h s2, 0, 0)) rfl ?_
        exact am_Pn.rI h rfl
def wp_M_full (Ψ : Int32 → sg_S → Prop) (x1 : Int32) (s : sg_S) : Prop := (am_SpI 203 [.ref 64, .int x1] s (fun x2 s2 => ((x2.toInt = (0) → (Ψ (Int32.ofInt (-1)) s2)) ∧ (¬ x2.toInt = (0) → (0 ≤ (x1 - (Int32.ofInt (1))).toInt → (x1 - (Int32.ofInt (1))).toInt < (48) → (Ψ (s2.2.2.1 94 ((x1 - (Int32.ofInt (1))).toInt.toNat)) s2))))))
set_option maxRecDepth 100000 in
theorem wp_M_full_ok {Ψ : Int32 → sg_S → Prop} {x1 : Int32} {s : sg_S} (h : wp_M_full Ψ x1 s) : am_SpI 202 [.ref 64, .int x1] s Ψ := by
  refine am_SpI.mk (r := am_r202) rfl rfl (fun call d al n hcl => ?_)
  unfold wp_M_full at h
  refine am_Pn.bl 2 (y := (2, [some (.ref 64), some (.int x1)], [.int x1, .ref 64], sg_h s, 0, 0)) rfl ?_
  refine am_Pn.cvI hcl h rfl rfl rfl rfl rfl (fun x2 s2 h => ?_)
  refine am_Pn.zT h (am_beq rfl rfl) rfl rfl (fun h => ?_) (fun h => ?_)
  · refine am_Pn.bl 1 (y := (20, [some (.ref 64), some (.int x1)], [.int (Int32.ofInt (-1))], sg_h s2, 0, 0)) rfl ?_
    exact am_Pn.rI h rfl
  · refine am_Pn.bl 1 (y := (9, [some (.ref 64), some (.int x1)], [.ref 64], sg_h s2, 0, 0)) rfl ?_
    refine am_Pn.gr (k := 53) rfl rfl am_o64 rfl rfl ?_
    refine am_Pn.bl 3 (y := (15, [some (.ref 64), some (.int x1)], [.int (x1 - (Int32.ofInt (1))), .ref 94], sg_h s2, 0, 0)) rfl ?_
    refine am_Pn.ia (a := 94) rfl rfl rfl rfl (fun hi => ?_)
    replace h := h (am_in0 hi) (am_in1 hi)
    refine am_Pn.bl 1 (y := (20, [some (.ref 64), some (.int x1)], [.int (s2.2.2.1 94 ((x1 - (Int32.ofInt (1))).toInt.toNat))], sg_h s2, 0, 0)) rfl ?_
    exact am_Pn.rI h rfl
def wp_M_can (Ψ : Int32 → sg_S → Prop) (x1 : Int32) (s : sg_S) : Prop := (am_SpI 203 [.ref 64, .int x1] s (fun x2 s2 => ((x2.toInt = (0) → (Ψ (Int32.ofInt (-1)) s2)) ∧ (¬ x2.toInt = (0) → (0 ≤ (x1 - (Int32.ofInt (1))).toInt → (x1 - (Int32.ofInt (1))).toInt < (48) → (Ψ (s2.2.2.1 95 ((x1 - (Int32.ofInt (1))).toInt.toNat)) s2))))))
set_option maxRecDepth 100000 in
theorem wp_M_can_ok {Ψ : Int32 → sg_S → Prop} {x1 : Int32} {s : sg_S} (h : wp_M_can Ψ x1 s) : am_SpI 204 [.ref 64, .int x1] s Ψ := by
  refine am_SpI.mk (r := am_r204) rfl rfl (fun call d al n hcl => ?_)
  unfold wp_M_can at h
  refine am_Pn.bl 2 (y := (2, [some (.ref 64), some (.int x1)], [.int x1, .ref 64], sg_h s, 0, 0)) rfl ?_
  refine am_Pn.cvI hcl h rfl rfl rfl rfl rfl (fun x2 s2 h => ?_)
  refine am_Pn.zT h (am_beq rfl rfl) rfl rfl (fun h => ?_) (fun h => ?_)
  · refine am_Pn.bl 1 (y := (20, [some (.ref 64), some (.int x1)], [.int (Int32.ofInt (-1))], sg_h s2, 0, 0)) rfl ?_
    exact am_Pn.rI h rfl
  · refine am_Pn.bl 1 (y := (9, [some (.ref 64), some (.int x1)], [.ref 64], sg_h s2, 0, 0)) rfl ?_
    refine am_Pn.gr (k := 54) rfl rfl am_o64 rfl rfl ?_
    refine am_Pn.bl 3 (y := (15, [some (.ref 64), some (.int x1)], [.int (x1 - (Int32.ofInt (1))), .ref 95], sg_h s2, 0, 0)) rfl ?_
    refine am_Pn.ia (a := 95) rfl rfl rfl rfl (fun hi => ?_)
    replace h := h (am_in0 hi) (am_in1 hi)
    refine am_Pn.bl 1 (y := (20, [some (.ref 64), some (.int x1)], [.int (s2.2.2.1 95 ((x1 - (Int32.ofInt (1))).toInt.toNat))], sg_h s2, 0, 0)) rfl ?_
    exact am_Pn.rI h rfl
def wp_M_count (Ψ : Int32 → sg_S → Prop) (x1 : Int32) (s : sg_S) : Prop := ((x1.toInt = (0) → (Ψ (s.1 64 21) s)) ∧ (x1.toInt = (1) → (Ψ (s.1 64 22) s)) ∧ (x1.toInt = (2) → (Ψ (s.1 64 23) s)) ∧ (x1.toInt = (3) → (Ψ (s.1 64 24) s)) ∧ (x1.toInt = (4) → (Ψ (s.1 64 25) s)) ∧ (x1.toInt = (5) → (Ψ (s.1 64 40) s)) ∧ (x1.toInt = (6) → (Ψ (s.1 64 30) s)) ∧ (x1.toInt = (7) → (Ψ (s.1 64 46) s)) ∧ (x1.toInt = (8) → (Ψ (s.1 64 34) s)) ∧ (x1.toInt = (9) → (Ψ (s.1 64 58) s)) ∧ (x1.toInt = (10) → (Ψ (s.1 64 2) s)) ∧ (x1.toInt = (11) → (am_SpI 183 [.ref 64] s (fun x14 s14 => (Ψ x14 s14)))) ∧ (x1.toInt = (12) → (Ψ (s.1 64 56) s)) ∧ ((x1.toInt < (0) ∨ (12) < x1.toInt) → (Ψ (Int32.ofInt (-1)) s)))
set_option maxRecDepth 100000 in
theorem wp_M_count_ok {Ψ : Int32 → sg_S → Prop} {x1 : Int32} {s : sg_S} (h : wp_M_count Ψ x1 s) : am_SpI 212 [.ref 64, .int x1] s Ψ := by
  refine am_SpI.mk (r := am_r212) rfl rfl (fun call d al n hcl => ?_)
  unfold wp_M_count at h
  refine am_Pn.bl 1 (y := (1, [some (.ref 64), some (.int x1)], [.int x1], sg_h s, 0, 0)) rfl ?_
  by_cases hs2 : x1.toInt = (0)
  · replace h := h.1 hs2
    refine am_Pn.tj (lo := 0) 0 (hs2.trans (by decide)) rfl rfl rfl rfl ?_
    refine am_Pn.bl 1 (y := (69, [some (.ref 64), some (.int x1)], [.ref 64], sg_h s, 0, 0)) rfl ?_
    refine am_Pn.gi (k := 21) rfl rfl am_o64 rfl rfl ?_
    exact am_Pn.rI h rfl
  replace h := h.2
  by_cases hs3 : x1.toInt = (1)
  · replace h := h.1 hs3
    refine am_Pn.tj (lo := 0) 1 (hs3.trans (by decide)) rfl rfl rfl rfl ?_
    refine am_Pn.bl 1 (y := (74, [some (.ref 64), some (.int x1)], [.ref 64], sg_h s, 0, 0)) rfl ?_
    refine am_Pn.gi (k := 22) rfl rfl am_o64 rfl rfl ?_
    exact am_Pn.rI h rfl
  replace h := h.2
  by_cases hs4 : x1.toInt = (2)
  · replace h := h.1 hs4
    refine am_Pn.tj (lo := 0) 2 (hs4.trans (by decide)) rfl rfl rfl rfl ?_
    refine am_Pn.bl 1 (y := (79, [some (.ref 64), some (.int x1)], [.ref 64], sg_h s, 0, 0)) rfl ?_
    refine am_Pn.gi (k := 23) rfl rfl am_o64 rfl rfl ?_
    exact am_Pn.rI h rfl
  replace h := h.2
  by_cases hs5 : x1.toInt = (3)
  · replace h := h.1 hs5
    refine am_Pn.tj (lo := 0) 3 (hs5.trans (by decide)) rfl rfl rfl rfl ?_
    refine am_Pn.bl 1 (y := (84, [some (.ref 64), some (.int x1)], [.ref 64], sg_h s, 0, 0)) rfl ?_
    refine am_Pn.gi (k := 24) rfl rfl am_o64 rfl rfl ?_
    exact am_Pn.rI h rfl
  replace h := h.2
  by_cases hs6 : x1.toInt = (4)
  · replace h := h.1 hs6
    refine am_Pn.tj (lo := 0) 4 (hs6.trans (by decide)) rfl rfl rfl rfl ?_
    refine am_Pn.bl 1 (y := (89, [some (.ref 64), some (.int x1)], [.ref 64], sg_h s, 0, 0)) rfl ?_
    refine am_Pn.gi (k := 25) rfl rfl am_o64 rfl rfl ?_
    exact am_Pn.rI h rfl
  replace h := h.2
  by_cases hs7 : x1.toInt = (5)
  · replace h := h.1 hs7
    refine am_Pn.tj (lo := 0) 5 (hs7.trans (by decide)) rfl rfl rfl rfl ?_
    refine am_Pn.bl 1 (y := (94, [some (.ref 64), some (.int x1)], [.ref 64], sg_h s, 0, 0)) rfl ?_
    refine am_Pn.gi (k := 40) rfl rfl am_o64 rfl rfl ?_
    exact am_Pn.rI h rfl
  replace h := h.2
  by_cases hs8 : x1.toInt = (6)
  · replace h := h.1 hs8
    refine am_Pn.tj (lo := 0) 6 (hs8.trans (by decide)) rfl rfl rfl rfl ?_
    refine am_Pn.bl 1 (y := (99, [some (.ref 64), some (.int x1)], [.ref 64], sg_h s, 0, 0)) rfl ?_
    refine am_Pn.gi (k := 30) rfl rfl am_o64 rfl rfl ?_
    exact am_Pn.rI h rfl
  replace h := h.2
  by_cases hs9 : x1.toInt = (7)
  · replace h := h.1 hs9
    refine am_Pn.tj (lo := 0) 7 (hs9.trans (by decide)) rfl rfl rfl rfl ?_
    refine am_Pn.bl 1 (y := (104, [some (.ref 64), some (.int x1)], [.ref 64], sg_h s, 0, 0)) rfl ?_
    refine am_Pn.gi (k := 46) rfl rfl am_o64 rfl rfl ?_
    exact am_Pn.rI h rfl
  replace h := h.2
  by_cases hs10 : x1.toInt = (8)
  · replace h := h.1 hs10
    refine am_Pn.tj (lo := 0) 8 (hs10.trans (by decide)) rfl rfl rfl rfl ?_
    refine am_Pn.bl 1 (y := (109, [some (.ref 64), some (.int x1)], [.ref 64], sg_h s, 0, 0)) rfl ?_
    refine am_Pn.gi (k := 34) rfl rfl am_o64 rfl rfl ?_
    exact am_Pn.rI h rfl
  replace h := h.2
  by_cases hs11 : x1.toInt = (9)
  · replace h := h.1 hs11
    refine am_Pn.tj (lo := 0) 9 (hs11.trans (by decide)) rfl rfl rfl rfl ?_
    refine am_Pn.bl 1 (y := (114, [some (.ref 64), some (.int x1)], [.ref 64], sg_h s, 0, 0)) rfl ?_
    refine am_Pn.gi (k := 58) rfl rfl am_o64 rfl rfl ?_
    exact am_Pn.rI h rfl
  replace h := h.2
  by_cases hs12 : x1.toInt = (10)
  · replace h := h.1 hs12
    refine am_Pn.tj (lo := 0) 10 (hs12.trans (by decide)) rfl rfl rfl rfl ?_
    refine am_Pn.bl 1 (y := (119, [some (.ref 64), some (.int x1)], [.ref 64], sg_h s, 0, 0)) rfl ?_
    refine am_Pn.gi (k := 2) rfl rfl am_o64 rfl rfl ?_
    exact am_Pn.rI h rfl
  replace h := h.2
  by_cases hs13 : x1.toInt = (11)
  · replace h := h.1 hs13
    refine am_Pn.tj (lo := 0) 11 (hs13.trans (by decide)) rfl rfl rfl rfl ?_
    refine am_Pn.bl 1 (y := (124, [some (.ref 64), some (.int x1)], [.ref 64], sg_h s, 0, 0)) rfl ?_
    refine am_Pn.cvI hcl h rfl rfl rfl rfl rfl (fun x14 s14 h => ?_)
    exact am_Pn.rI h rfl
  replace h := h.2
  by_cases hs15 : x1.toInt = (12)
  · replace h := h.1 hs15
    refine am_Pn.tj (lo := 0) 12 (hs15.trans (by decide)) rfl rfl rfl rfl ?_
    refine am_Pn.bl 1 (y := (129, [some (.ref 64), some (.int x1)], [.ref 64], sg_h s, 0, 0)) rfl ?_
    refine am_Pn.gi (k := 56) rfl rfl am_o64 rfl rfl ?_
    exact am_Pn.rI h rfl
  replace h := h.2
  have hsd16 : x1.toInt < (0) ∨ (12) < x1.toInt := by omega
  refine am_Pn.td (lo := 0) (hi := 12) hsd16 rfl rfl ?_
  replace h := h (by omega)
  refine am_Pn.bl 1 (y := (134, [some (.ref 64), some (.int x1)], [.int (Int32.ofInt (-1))], sg_h s, 0, 0)) rfl ?_
  exact am_Pn.rI h rfl
