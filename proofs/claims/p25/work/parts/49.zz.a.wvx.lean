/-! ===== what X's verses ask (printed by wip/ab/vg_verse.py) ===== -/
def wp_XValues_sumOf_5 (I5 : Int32 → Int32 →  sg_S → Prop) (I15 : Int32 → Int32 → Int32 →  sg_S → Prop) (Ψ : Int32 → sg_S → Prop) (x1 : Int32) (x2 : Int32) (l3 : Int32) (l4 : Int32) (s : sg_S) : Prop := ((l4.toInt < (8) → (I15 l3 l4 (Int32.ofInt (0)) s)) ∧ (¬ l4.toInt < (8) → (Ψ l3 s)))
def wp_XValues_sumOf_15 (I5 : Int32 → Int32 →  sg_S → Prop) (I15 : Int32 → Int32 → Int32 →  sg_S → Prop) (Ψ : Int32 → sg_S → Prop) (x1 : Int32) (x2 : Int32) (l3 : Int32) (l4 : Int32) (l5 : Int32) (s : sg_S) : Prop := ((l5.toInt < (8) → ((((x1 >>> (l4 &&& 31)) &&& (Int32.ofInt (1))).toInt = (0) → (I5 l3 (l4 + Int32.ofInt (1)) s)) ∧ (¬ ((x1 >>> (l4 &&& 31)) &&& (Int32.ofInt (1))).toInt = (0) → ((((x2 >>> (l5 &&& 31)) &&& (Int32.ofInt (1))).toInt = (0) → (I15 l3 l4 (l5 + Int32.ofInt (1)) s)) ∧ (¬ ((x2 >>> (l5 &&& 31)) &&& (Int32.ofInt (1))).toInt = (0) → (0 ≤ ((l4 * (Int32.ofInt (8))) + l5).toInt → ((l4 * (Int32.ofInt (8))) + l5).toInt < (64) → (I15 (l3 + (s.2.2.1 23 (((l4 * (Int32.ofInt (8))) + l5).toInt.toNat))) l4 (l5 + Int32.ofInt (1)) s))))))) ∧ (¬ l5.toInt < (8) → (I5 l3 (l4 + Int32.ofInt (1)) s)))
def wp_XValues_sumOf (I5 : Int32 → Int32 →  sg_S → Prop) (I15 : Int32 → Int32 → Int32 →  sg_S → Prop) (Ψ : Int32 → sg_S → Prop) (x1 : Int32) (x2 : Int32) (s : sg_S) : Prop := (I5 (Int32.ofInt (0)) (Int32.ofInt (0)) s)
set_option maxRecDepth 100000 in
theorem wp_XValues_sumOf_ok {I5 : Int32 → Int32 →  sg_S → Prop} {I15 : Int32 → Int32 → Int32 →  sg_S → Prop} {Ψ : Int32 → sg_S → Prop} {x1 : Int32} {x2 : Int32} {s : sg_S} (k5 : ∀ (l3 : Int32) (l4 : Int32) (s : sg_S), I5 l3 l4 s → wp_XValues_sumOf_5 I5 I15 Ψ x1 x2 l3 l4 s) (k15 : ∀ (l3 : Int32) (l4 : Int32) (l5 : Int32) (s : sg_S), I15 l3 l4 l5 s → wp_XValues_sumOf_15 I5 I15 Ψ x1 x2 l3 l4 l5 s) (h : wp_XValues_sumOf I5 I15 Ψ x1 x2 s) : am_SpI 117 [.ref 22, .int x1, .int x2] s Ψ := by
  refine am_SpI.mk (r := am_r117) rfl rfl (fun call d al n hcl => ?_)
  have key : ∀ n, (∀ (o5 : Option Value) (l3 : Int32) (l4 : Int32) (s : sg_S), I5 l3 l4 s → am_Pn call d (0, fun _ => 0) al am_r117 (am_PhI am_r117 Ψ) n (5, [some (.ref 22), some (.int x1), some (.int x2), some (.int l3), some (.int l4), o5], [], sg_h s, 0, 0)) ∧ (∀ (l3 : Int32) (l4 : Int32) (l5 : Int32) (s : sg_S), I15 l3 l4 l5 s → am_Pn call d (0, fun _ => 0) al am_r117 (am_PhI am_r117 Ψ) n (15, [some (.ref 22), some (.int x1), some (.int x2), some (.int l3), some (.int l4), some (.int l5)], [], sg_h s, 0, 0)) := by
    intro n
    induction n with
    | zero => exact ⟨fun _ _ _ _ _ => am_Pn.zero, fun _ _ _ _ _ => am_Pn.zero⟩
    | succ n ih =>
      refine ⟨?_, ?_⟩
      · intro o5 l3 l4 s h
        replace h := k5 l3 l4 s h
        unfold wp_XValues_sumOf_5 at h
        refine am_Pn.bl1 1 (y := (9, [some (.ref 22), some (.int x1), some (.int x2), some (.int l3), some (.int l4), o5], [.int (Int32.ofInt (8)), .int l4], sg_h s, 0, 0)) rfl ?_
        refine am_Pn.bF h (am_bge rfl rfl) rfl rfl (fun h => ?_) (fun h => ?_)
        · refine am_Pn.bl 1 (y := (69, [some (.ref 22), some (.int x1), some (.int x2), some (.int l3), some (.int l4), o5], [.int l3], sg_h s, 0, 0)) rfl ?_
          exact am_Pn.rI h rfl
        · refine am_Pn.bl 2 (y := (15, [some (.ref 22), some (.int x1), some (.int x2), some (.int l3), some (.int l4), some (.int (Int32.ofInt (0)))], [], sg_h s, 0, 0)) rfl ?_
          exact (ih.2) l3 l4 (Int32.ofInt (0)) s h
      · intro l3 l4 l5 s h
        replace h := k15 l3 l4 l5 s h
        unfold wp_XValues_sumOf_15 at h
        refine am_Pn.bl1 1 (y := (19, [some (.ref 22), some (.int x1), some (.int x2), some (.int l3), some (.int l4), some (.int l5)], [.int (Int32.ofInt (8)), .int l5], sg_h s, 0, 0)) rfl ?_
        refine am_Pn.bF h (am_bge rfl rfl) rfl rfl (fun h => ?_) (fun h => ?_)
        · refine am_Pn.bl 2 (y := (5, [some (.ref 22), some (.int x1), some (.int x2), some (.int l3), some (.int (l4 + Int32.ofInt (1))), some (.int l5)], [], sg_h s, 0, 0)) rfl ?_
          exact (ih.1) (some (.int l5)) l3 (l4 + Int32.ofInt (1)) s h
        · refine am_Pn.bl 5 (y := (28, [some (.ref 22), some (.int x1), some (.int x2), some (.int l3), some (.int l4), some (.int l5)], [.int ((x1 >>> (l4 &&& 31)) &&& (Int32.ofInt (1)))], sg_h s, 0, 0)) rfl ?_
          refine am_Pn.zT h (am_beq rfl rfl) rfl rfl (fun h => ?_) (fun h => ?_)
          · refine am_Pn.bl 2 (y := (5, [some (.ref 22), some (.int x1), some (.int x2), some (.int l3), some (.int (l4 + Int32.ofInt (1))), some (.int l5)], [], sg_h s, 0, 0)) rfl ?_
            exact (ih.1) (some (.int l5)) l3 (l4 + Int32.ofInt (1)) s h
          · refine am_Pn.bl 5 (y := (37, [some (.ref 22), some (.int x1), some (.int x2), some (.int l3), some (.int l4), some (.int l5)], [.int ((x2 >>> (l5 &&& 31)) &&& (Int32.ofInt (1)))], sg_h s, 0, 0)) rfl ?_
            refine am_Pn.zT h (am_beq rfl rfl) rfl rfl (fun h => ?_) (fun h => ?_)
            · refine am_Pn.bl 2 (y := (15, [some (.ref 22), some (.int x1), some (.int x2), some (.int l3), some (.int l4), some (.int (l5 + Int32.ofInt (1)))], [], sg_h s, 0, 0)) rfl ?_
              exact (ih.2) l3 l4 (l5 + Int32.ofInt (1)) s h
            · refine am_Pn.bl 2 (y := (42, [some (.ref 22), some (.int x1), some (.int x2), some (.int l3), some (.int l4), some (.int l5)], [.ref 22, .int l3], sg_h s, 0, 0)) rfl ?_
              refine am_Pn.gr (k := 0) rfl rfl am_o22 rfl rfl ?_
              refine am_Pn.bl 5 (y := (53, [some (.ref 22), some (.int x1), some (.int x2), some (.int l3), some (.int l4), some (.int l5)], [.int ((l4 * (Int32.ofInt (8))) + l5), .ref 23, .int l3], sg_h s, 0, 0)) rfl ?_
              refine am_Pn.ia (a := 23) rfl rfl rfl rfl (fun hi => ?_)
              replace h := h (am_in0 hi) (am_in1 hi)
              refine am_Pn.bl 4 (y := (15, [some (.ref 22), some (.int x1), some (.int x2), some (.int (l3 + (s.2.2.1 23 (((l4 * (Int32.ofInt (8))) + l5).toInt.toNat)))), some (.int l4), some (.int (l5 + Int32.ofInt (1)))], [], sg_h s, 0, 0)) rfl ?_
              exact (ih.2) (l3 + (s.2.2.1 23 (((l4 * (Int32.ofInt (8))) + l5).toInt.toNat))) l4 (l5 + Int32.ofInt (1)) s h
  unfold wp_XValues_sumOf at h
  refine am_Pn.bl 4 (y := (5, [some (.ref 22), some (.int x1), some (.int x2), some (.int (Int32.ofInt (0))), some (.int (Int32.ofInt (0))), none], [], sg_h s, 0, 0)) rfl ?_
  exact ((key n).1) none (Int32.ofInt (0)) (Int32.ofInt (0)) s h
def wp_XValues_areLinked (Ψ : Int32 → sg_S → Prop) (x1 : Int32) (x2 : Int32) (s : sg_S) : Prop := (((x1 &&& x2).toInt = (0) → (am_SpI 117 [.ref 22, .int x1, .int x2] s (fun x3 s3 => (((0) < x3.toInt → (Ψ (Int32.ofInt (1)) s3)) ∧ (¬ (0) < x3.toInt → (Ψ (Int32.ofInt (0)) s3)))))) ∧ (¬ (x1 &&& x2).toInt = (0) → (Ψ (Int32.ofInt (1)) s)))
set_option maxRecDepth 100000 in
theorem wp_XValues_areLinked_ok {Ψ : Int32 → sg_S → Prop} {x1 : Int32} {x2 : Int32} {s : sg_S} (h : wp_XValues_areLinked Ψ x1 x2 s) : am_SpI 116 [.ref 22, .int x1, .int x2] s Ψ := by
  refine am_SpI.mk (r := am_r116) rfl rfl (fun call d al n hcl => ?_)
  unfold wp_XValues_areLinked at h
  refine am_Pn.bl 3 (y := (3, [some (.ref 22), some (.int x1), some (.int x2)], [.int (x1 &&& x2)], sg_h s, 0, 0)) rfl ?_
  refine am_Pn.zF h (am_bne rfl rfl) rfl rfl (fun h => ?_) (fun h => ?_)
  · refine am_Pn.bl 2 (y := (20, [some (.ref 22), some (.int x1), some (.int x2)], [.int (Int32.ofInt (1))], sg_h s, 0, 0)) rfl ?_
    exact am_Pn.rI h rfl
  · refine am_Pn.bl 3 (y := (9, [some (.ref 22), some (.int x1), some (.int x2)], [.int x2, .int x1, .ref 22], sg_h s, 0, 0)) rfl ?_
    refine am_Pn.cvI hcl h rfl rfl rfl rfl rfl (fun x3 s3 h => ?_)
    refine am_Pn.zF h (am_ble rfl rfl) rfl rfl (fun h => ?_) (fun h => ?_)
    · refine am_Pn.bl 1 (y := (20, [some (.ref 22), some (.int x1), some (.int x2)], [.int (Int32.ofInt (0))], sg_h s3, 0, 0)) rfl ?_
      exact am_Pn.rI h rfl
    · refine am_Pn.bl 2 (y := (20, [some (.ref 22), some (.int x1), some (.int x2)], [.int (Int32.ofInt (1))], sg_h s3, 0, 0)) rfl ?_
      exact am_Pn.rI h rfl
def wp_XRules_isHad_1 (Ψ : Int32 → sg_S → Prop) (x1 : Int32) (x2 : Int32) (s : sg_S) : Prop := (0 ≤ x1.toInt → x1.toInt < (12) → ((((s.2.2.1 5 (x1.toInt.toNat)) &&& x2).toInt = (0) → (Ψ (Int32.ofInt (0)) s)) ∧ (¬ ((s.2.2.1 5 (x1.toInt.toNat)) &&& x2).toInt = (0) → (Ψ (Int32.ofInt (1)) s))))
set_option maxRecDepth 100000 in
theorem wp_XRules_isHad_1_ok {Ψ : Int32 → sg_S → Prop} {x1 : Int32} {x2 : Int32} {s : sg_S} (h : wp_XRules_isHad_1 Ψ x1 x2 s) : am_SpI 74 [.ref 1, .int x1, .int x2] s Ψ := by
  refine am_SpI.mk (r := am_r74) rfl rfl (fun call d al n hcl => ?_)
  unfold wp_XRules_isHad_1 at h
  refine am_Pn.bl 1 (y := (1, [some (.ref 1), some (.int x1), some (.int x2)], [.ref 1], sg_h s, 0, 0)) rfl ?_
  refine am_Pn.gr (k := 9) rfl rfl am_o1 rfl rfl ?_
  refine am_Pn.bl 1 (y := (5, [some (.ref 1), some (.int x1), some (.int x2)], [.int x1, .ref 5], sg_h s, 0, 0)) rfl ?_
  refine am_Pn.ia (a := 5) rfl rfl rfl rfl (fun hi => ?_)
  replace h := h (am_in0 hi) (am_in1 hi)
  refine am_Pn.bl 2 (y := (8, [some (.ref 1), some (.int x1), some (.int x2)], [.int ((s.2.2.1 5 (x1.toInt.toNat)) &&& x2)], sg_h s, 0, 0)) rfl ?_
  refine am_Pn.zT h (am_beq rfl rfl) rfl rfl (fun h => ?_) (fun h => ?_)
  · refine am_Pn.bl 1 (y := (16, [some (.ref 1), some (.int x1), some (.int x2)], [.int (Int32.ofInt (0))], sg_h s, 0, 0)) rfl ?_
    exact am_Pn.rI h rfl
  · refine am_Pn.bl 2 (y := (16, [some (.ref 1), some (.int x1), some (.int x2)], [.int (Int32.ofInt (1))], sg_h s, 0, 0)) rfl ?_
    exact am_Pn.rI h rfl
def wp_XRules_isRunBroken_1 (Ψ : Int32 → sg_S → Prop) (x1 : Int32) (x2 : Int32) (x3 : Int32) (x4 : Int32) (s : sg_S) : Prop := ((x4.toInt = (0) → (((0) < x2.toInt → (0 ≤ x1.toInt → x1.toInt < (12) → ((x2.toInt < (s.2.2.1 6 (x1.toInt.toNat)).toInt → (Ψ (Int32.ofInt (1)) s)) ∧ (¬ x2.toInt < (s.2.2.1 6 (x1.toInt.toNat)).toInt → (Ψ (Int32.ofInt (0)) s))))) ∧ (¬ (0) < x2.toInt → (Ψ (Int32.ofInt (0)) s)))) ∧ (¬ x4.toInt = (0) → (0 ≤ x1.toInt → x1.toInt < (12) → (((s.2.2.1 7 (x1.toInt.toNat)).toInt < (x2 + (Int32.ofInt (1))).toInt → (Ψ (Int32.ofInt (1)) s)) ∧ (¬ (s.2.2.1 7 (x1.toInt.toNat)).toInt < (x2 + (Int32.ofInt (1))).toInt → ((x3.toInt = (s.1 1 3).toInt → (((x2 + (Int32.ofInt (1))).toInt < (s.2.2.1 6 (x1.toInt.toNat)).toInt → (Ψ (Int32.ofInt (1)) s)) ∧ (¬ (x2 + (Int32.ofInt (1))).toInt < (s.2.2.1 6 (x1.toInt.toNat)).toInt → (Ψ (Int32.ofInt (0)) s)))) ∧ (¬ x3.toInt = (s.1 1 3).toInt → (Ψ (Int32.ofInt (0)) s))))))))
set_option maxRecDepth 100000 in
theorem wp_XRules_isRunBroken_1_ok {Ψ : Int32 → sg_S → Prop} {x1 : Int32} {x2 : Int32} {x3 : Int32} {x4 : Int32} {s : sg_S} (h : wp_XRules_isRunBroken_1 Ψ x1 x2 x3 x4 s) : am_SpI 77 [.ref 1, .int x1, .int x2, .int x3, .int x4] s Ψ := by
  refine am_SpI.mk (r := am_r77) rfl rfl (fun call d al n hcl => ?_)
  unfold wp_XRules_isRunBroken_1 at h
  refine am_Pn.bl 1 (y := (2, [some (.ref 1), some (.int x1), some (.int x2), some (.int x3), some (.int x4)], [.int x4], sg_h s, 0, 0)) rfl ?_
  refine am_Pn.zF h (am_bne rfl rfl) rfl rfl (fun h => ?_) (fun h => ?_)
  · refine am_Pn.bl 4 (y := (29, [some (.ref 1), some (.int x1), some (.int x2), some (.int x3), some (.int x4)], [.ref 1, .int (x2 + (Int32.ofInt (1)))], sg_h s, 0, 0)) rfl ?_
    refine am_Pn.gr (k := 11) rfl rfl am_o1 rfl rfl ?_
    refine am_Pn.bl 1 (y := (33, [some (.ref 1), some (.int x1), some (.int x2), some (.int x3), some (.int x4)], [.int x1, .ref 7, .int (x2 + (Int32.ofInt (1)))], sg_h s, 0, 0)) rfl ?_
    refine am_Pn.ia (a := 7) rfl rfl rfl rfl (fun hi => ?_)
    replace h := h (am_in0 hi) (am_in1 hi)
    refine am_Pn.bT h (am_bgt rfl rfl) rfl rfl (fun h => ?_) (fun h => ?_)
    · refine am_Pn.bl 2 (y := (62, [some (.ref 1), some (.int x1), some (.int x2), some (.int x3), some (.int x4)], [.int (Int32.ofInt (1))], sg_h s, 0, 0)) rfl ?_
      exact am_Pn.rI h rfl
    · refine am_Pn.bl 2 (y := (39, [some (.ref 1), some (.int x1), some (.int x2), some (.int x3), some (.int x4)], [.ref 1, .int x3], sg_h s, 0, 0)) rfl ?_
      refine am_Pn.gi (k := 3) rfl rfl am_o1 rfl rfl ?_
      refine am_Pn.bF h (am_bne rfl rfl) rfl rfl (fun h => ?_) (fun h => ?_)
      · refine am_Pn.bl 1 (y := (62, [some (.ref 1), some (.int x1), some (.int x2), some (.int x3), some (.int x4)], [.int (Int32.ofInt (0))], sg_h s, 0, 0)) rfl ?_
        exact am_Pn.rI h rfl
      · refine am_Pn.bl 4 (y := (49, [some (.ref 1), some (.int x1), some (.int x2), some (.int x3), some (.int x4)], [.ref 1, .int (x2 + (Int32.ofInt (1)))], sg_h s, 0, 0)) rfl ?_
        refine am_Pn.gr (k := 10) rfl rfl am_o1 rfl rfl ?_
        refine am_Pn.bl 1 (y := (53, [some (.ref 1), some (.int x1), some (.int x2), some (.int x3), some (.int x4)], [.int x1, .ref 6, .int (x2 + (Int32.ofInt (1)))], sg_h s, 0, 0)) rfl ?_
        refine am_Pn.ia (a := 6) rfl rfl rfl rfl (fun hi => ?_)
        refine am_Pn.bF h (am_bge rfl rfl) rfl rfl (fun h => ?_) (fun h => ?_)
        · refine am_Pn.bl 1 (y := (62, [some (.ref 1), some (.int x1), some (.int x2), some (.int x3), some (.int x4)], [.int (Int32.ofInt (0))], sg_h s, 0, 0)) rfl ?_
          exact am_Pn.rI h rfl
        · refine am_Pn.bl 2 (y := (62, [some (.ref 1), some (.int x1), some (.int x2), some (.int x3), some (.int x4)], [.int (Int32.ofInt (1))], sg_h s, 0, 0)) rfl ?_
          exact am_Pn.rI h rfl
  · refine am_Pn.bl 1 (y := (6, [some (.ref 1), some (.int x1), some (.int x2), some (.int x3), some (.int x4)], [.int x2], sg_h s, 0, 0)) rfl ?_
    refine am_Pn.zF h (am_ble rfl rfl) rfl rfl (fun h => ?_) (fun h => ?_)
    · refine am_Pn.bl 1 (y := (24, [some (.ref 1), some (.int x1), some (.int x2), some (.int x3), some (.int x4)], [.int (Int32.ofInt (0))], sg_h s, 0, 0)) rfl ?_
      exact am_Pn.rI h rfl
    · refine am_Pn.bl 2 (y := (11, [some (.ref 1), some (.int x1), some (.int x2), some (.int x3), some (.int x4)], [.ref 1, .int x2], sg_h s, 0, 0)) rfl ?_
      refine am_Pn.gr (k := 10) rfl rfl am_o1 rfl rfl ?_
      refine am_Pn.bl 1 (y := (15, [some (.ref 1), some (.int x1), some (.int x2), some (.int x3), some (.int x4)], [.int x1, .ref 6, .int x2], sg_h s, 0, 0)) rfl ?_
      refine am_Pn.ia (a := 6) rfl rfl rfl rfl (fun hi => ?_)
      replace h := h (am_in0 hi) (am_in1 hi)
      refine am_Pn.bF h (am_bge rfl rfl) rfl rfl (fun h => ?_) (fun h => ?_)
      · refine am_Pn.bl 1 (y := (24, [some (.ref 1), some (.int x1), some (.int x2), some (.int x3), some (.int x4)], [.int (Int32.ofInt (0))], sg_h s, 0, 0)) rfl ?_
        exact am_Pn.rI h rfl
      · refine am_Pn.bl 2 (y := (24, [some (.ref 1), some (.int x1), some (.int x2), some (.int x3), some (.int x4)], [.int (Int32.ofInt (1))], sg_h s, 0, 0)) rfl ?_
        exact am_Pn.rI h rfl
def wp_XRules_isBrokenBy_1 (Ψ : Int32 → sg_S → Prop) (x1 : Int32) (x2 : Int32) (x3 : Int32) (x4 : Int32) (s : sg_S) : Prop := (0 ≤ x1.toInt → x1.toInt < (12) → (((s.2.2.1 4 (x1.toInt.toNat)).toInt = (0) → ((x4.toInt = (0) → ((x3.toInt < (s.2.2.1 6 (x1.toInt.toNat)).toInt → (Ψ (Int32.ofInt (0)) s)) ∧ (¬ x3.toInt < (s.2.2.1 6 (x1.toInt.toNat)).toInt → (((s.2.2.1 7 (x1.toInt.toNat)).toInt < x3.toInt → (Ψ (Int32.ofInt (0)) s)) ∧ (¬ (s.2.2.1 7 (x1.toInt.toNat)).toInt < x3.toInt → (Ψ (Int32.ofInt (1)) s)))))) ∧ (¬ x4.toInt = (0) → (Ψ (Int32.ofInt (0)) s)))) ∧ ((s.2.2.1 4 (x1.toInt.toNat)).toInt = (1) → ((x4.toInt = (0) → (Ψ (Int32.ofInt (0)) s)) ∧ (¬ x4.toInt = (0) → ((x3.toInt < (s.2.2.1 6 (x1.toInt.toNat)).toInt → (Ψ (Int32.ofInt (0)) s)) ∧ (¬ x3.toInt < (s.2.2.1 6 (x1.toInt.toNat)).toInt → (((s.2.2.1 7 (x1.toInt.toNat)).toInt < x3.toInt → (Ψ (Int32.ofInt (0)) s)) ∧ (¬ (s.2.2.1 7 (x1.toInt.toNat)).toInt < x3.toInt → (Ψ (Int32.ofInt (1)) s)))))))) ∧ ((s.2.2.1 4 (x1.toInt.toNat)).toInt = (2) → (am_SpI 77 [.ref 1, .int x1, .int x2, .int x3, .int x4] s (fun x8 s8 => (Ψ x8 s8)))) ∧ ((s.2.2.1 4 (x1.toInt.toNat)).toInt = (3) → ((x4.toInt = (0) → (Ψ (Int32.ofInt (0)) s)) ∧ (¬ x4.toInt = (0) → (((0) < x2.toInt → ((x2.toInt < (s.2.2.1 6 (x1.toInt.toNat)).toInt → (Ψ (Int32.ofInt (1)) s)) ∧ (¬ x2.toInt < (s.2.2.1 6 (x1.toInt.toNat)).toInt → (Ψ (Int32.ofInt (0)) s)))) ∧ (¬ (0) < x2.toInt → (Ψ (Int32.ofInt (0)) s)))))) ∧ ((s.2.2.1 4 (x1.toInt.toNat)).toInt = (4) → ((x4.toInt = (0) → (Ψ (Int32.ofInt (0)) s)) ∧ (¬ x4.toInt = (0) → (((s.2.2.1 6 (x1.toInt.toNat)).toInt < (x2 + (Int32.ofInt (1))).toInt → (Ψ (Int32.ofInt (1)) s)) ∧ (¬ (s.2.2.1 6 (x1.toInt.toNat)).toInt < (x2 + (Int32.ofInt (1))).toInt → (Ψ (Int32.ofInt (0)) s)))))) ∧ ((s.2.2.1 4 (x1.toInt.toNat)).toInt = (5) → ((x4.toInt = (0) → (((((x2 + (Int32.ofInt (0))) + (s.1 1 3)) - x3).toInt < (s.2.2.1 6 (x1.toInt.toNat)).toInt → (Ψ (Int32.ofInt (1)) s)) ∧ (¬ (((x2 + (Int32.ofInt (0))) + (s.1 1 3)) - x3).toInt < (s.2.2.1 6 (x1.toInt.toNat)).toInt → (Ψ (Int32.ofInt (0)) s)))) ∧ (¬ x4.toInt = (0) → (((((x2 + (Int32.ofInt (1))) + (s.1 1 3)) - x3).toInt < (s.2.2.1 6 (x1.toInt.toNat)).toInt → (Ψ (Int32.ofInt (1)) s)) ∧ (¬ (((x2 + (Int32.ofInt (1))) + (s.1 1 3)) - x3).toInt < (s.2.2.1 6 (x1.toInt.toNat)).toInt → (Ψ (Int32.ofInt (0)) s)))))) ∧ (((s.2.2.1 4 (x1.toInt.toNat)).toInt < (0) ∨ (5) < (s.2.2.1 4 (x1.toInt.toNat)).toInt) → (Ψ (Int32.ofInt (0)) s))))
set_option maxRecDepth 100000 in
theorem wp_XRules_isBrokenBy_1_ok {Ψ : Int32 → sg_S → Prop} {x1 : Int32} {x2 : Int32} {x3 : Int32} {x4 : Int32} {s : sg_S} (h : wp_XRules_isBrokenBy_1 Ψ x1 x2 x3 x4 s) : am_SpI 76 [.ref 1, .int x1, .int x2, .int x3, .int x4] s Ψ := by
  refine am_SpI.mk (r := am_r76) rfl rfl (fun call d al n hcl => ?_)
  unfold wp_XRules_isBrokenBy_1 at h
  refine am_Pn.bl 1 (y := (1, [some (.ref 1), some (.int x1), some (.int x2), some (.int x3), some (.int x4), none], [.ref 1], sg_h s, 0, 0)) rfl ?_
  refine am_Pn.gr (k := 10) rfl rfl am_o1 rfl rfl ?_
  refine am_Pn.bl 1 (y := (5, [some (.ref 1), some (.int x1), some (.int x2), some (.int x3), some (.int x4), none], [.int x1, .ref 6], sg_h s, 0, 0)) rfl ?_
  refine am_Pn.ia (a := 6) rfl rfl rfl rfl (fun hi => ?_)
  replace h := h (am_in0 hi) (am_in1 hi)
  refine am_Pn.bl 2 (y := (9, [some (.ref 1), some (.int x1), some (.int x2), some (.int x3), some (.int x4), some (.int (s.2.2.1 6 (x1.toInt.toNat)))], [.ref 1], sg_h s, 0, 0)) rfl ?_
  refine am_Pn.gr (k := 8) rfl rfl am_o1 rfl rfl ?_
  refine am_Pn.bl 1 (y := (13, [some (.ref 1), some (.int x1), some (.int x2), some (.int x3), some (.int x4), some (.int (s.2.2.1 6 (x1.toInt.toNat)))], [.int x1, .ref 4], sg_h s, 0, 0)) rfl ?_
  refine am_Pn.ia (a := 4) rfl rfl rfl rfl (fun hi => ?_)
  by_cases hs5 : (s.2.2.1 4 (x1.toInt.toNat)).toInt = (0)
  · replace h := h.1 hs5
    refine am_Pn.tj (lo := 0) 0 (hs5.trans (by decide)) rfl rfl rfl rfl ?_
    refine am_Pn.bl 1 (y := (54, [some (.ref 1), some (.int x1), some (.int x2), some (.int x3), some (.int x4), some (.int (s.2.2.1 6 (x1.toInt.toNat)))], [.int x4], sg_h s, 0, 0)) rfl ?_
    refine am_Pn.zF h (am_bne rfl rfl) rfl rfl (fun h => ?_) (fun h => ?_)
    · refine am_Pn.bl 1 (y := (78, [some (.ref 1), some (.int x1), some (.int x2), some (.int x3), some (.int x4), some (.int (s.2.2.1 6 (x1.toInt.toNat)))], [.int (Int32.ofInt (0))], sg_h s, 0, 0)) rfl ?_
      exact am_Pn.rI h rfl
    · refine am_Pn.bl 2 (y := (60, [some (.ref 1), some (.int x1), some (.int x2), some (.int x3), some (.int x4), some (.int (s.2.2.1 6 (x1.toInt.toNat)))], [.int (s.2.2.1 6 (x1.toInt.toNat)), .int x3], sg_h s, 0, 0)) rfl ?_
      refine am_Pn.bT h (am_blt rfl rfl) rfl rfl (fun h => ?_) (fun h => ?_)
      · refine am_Pn.bl 1 (y := (78, [some (.ref 1), some (.int x1), some (.int x2), some (.int x3), some (.int x4), some (.int (s.2.2.1 6 (x1.toInt.toNat)))], [.int (Int32.ofInt (0))], sg_h s, 0, 0)) rfl ?_
        exact am_Pn.rI h rfl
      · refine am_Pn.bl 2 (y := (65, [some (.ref 1), some (.int x1), some (.int x2), some (.int x3), some (.int x4), some (.int (s.2.2.1 6 (x1.toInt.toNat)))], [.ref 1, .int x3], sg_h s, 0, 0)) rfl ?_
        refine am_Pn.gr (k := 11) rfl rfl am_o1 rfl rfl ?_
        refine am_Pn.bl 1 (y := (69, [some (.ref 1), some (.int x1), some (.int x2), some (.int x3), some (.int x4), some (.int (s.2.2.1 6 (x1.toInt.toNat)))], [.int x1, .ref 7, .int x3], sg_h s, 0, 0)) rfl ?_
        refine am_Pn.ia (a := 7) rfl rfl rfl rfl (fun hi => ?_)
        refine am_Pn.bT h (am_bgt rfl rfl) rfl rfl (fun h => ?_) (fun h => ?_)
        · refine am_Pn.bl 1 (y := (78, [some (.ref 1), some (.int x1), some (.int x2), some (.int x3), some (.int x4), some (.int (s.2.2.1 6 (x1.toInt.toNat)))], [.int (Int32.ofInt (0))], sg_h s, 0, 0)) rfl ?_
          exact am_Pn.rI h rfl
        · refine am_Pn.bl 2 (y := (78, [some (.ref 1), some (.int x1), some (.int x2), some (.int x3), some (.int x4), some (.int (s.2.2.1 6 (x1.toInt.toNat)))], [.int (Int32.ofInt (1))], sg_h s, 0, 0)) rfl ?_
          exact am_Pn.rI h rfl
  replace h := h.2
  by_cases hs6 : (s.2.2.1 4 (x1.toInt.toNat)).toInt = (1)
  · replace h := h.1 hs6
    refine am_Pn.tj (lo := 0) 1 (hs6.trans (by decide)) rfl rfl rfl rfl ?_
    refine am_Pn.bl 1 (y := (81, [some (.ref 1), some (.int x1), some (.int x2), some (.int x3), some (.int x4), some (.int (s.2.2.1 6 (x1.toInt.toNat)))], [.int x4], sg_h s, 0, 0)) rfl ?_
    refine am_Pn.zT h (am_beq rfl rfl) rfl rfl (fun h => ?_) (fun h => ?_)
    · refine am_Pn.bl 1 (y := (105, [some (.ref 1), some (.int x1), some (.int x2), some (.int x3), some (.int x4), some (.int (s.2.2.1 6 (x1.toInt.toNat)))], [.int (Int32.ofInt (0))], sg_h s, 0, 0)) rfl ?_
      exact am_Pn.rI h rfl
    · refine am_Pn.bl 2 (y := (87, [some (.ref 1), some (.int x1), some (.int x2), some (.int x3), some (.int x4), some (.int (s.2.2.1 6 (x1.toInt.toNat)))], [.int (s.2.2.1 6 (x1.toInt.toNat)), .int x3], sg_h s, 0, 0)) rfl ?_
      refine am_Pn.bT h (am_blt rfl rfl) rfl rfl (fun h => ?_) (fun h => ?_)
      · refine am_Pn.bl 1 (y := (105, [some (.ref 1), some (.int x1), some (.int x2), some (.int x3), some (.int x4), some (.int (s.2.2.1 6 (x1.toInt.toNat)))], [.int (Int32.ofInt (0))], sg_h s, 0, 0)) rfl ?_
        exact am_Pn.rI h rfl
      · refine am_Pn.bl 2 (y := (92, [some (.ref 1), some (.int x1), some (.int x2), some (.int x3), some (.int x4), some (.int (s.2.2.1 6 (x1.toInt.toNat)))], [.ref 1, .int x3], sg_h s, 0, 0)) rfl ?_
        refine am_Pn.gr (k := 11) rfl rfl am_o1 rfl rfl ?_
        refine am_Pn.bl 1 (y := (96, [some (.ref 1), some (.int x1), some (.int x2), some (.int x3), some (.int x4), some (.int (s.2.2.1 6 (x1.toInt.toNat)))], [.int x1, .ref 7, .int x3], sg_h s, 0, 0)) rfl ?_
        refine am_Pn.ia (a := 7) rfl rfl rfl rfl (fun hi => ?_)
        refine am_Pn.bT h (am_bgt rfl rfl) rfl rfl (fun h => ?_) (fun h => ?_)
        · refine am_Pn.bl 1 (y := (105, [some (.ref 1), some (.int x1), some (.int x2), some (.int x3), some (.int x4), some (.int (s.2.2.1 6 (x1.toInt.toNat)))], [.int (Int32.ofInt (0))], sg_h s, 0, 0)) rfl ?_
          exact am_Pn.rI h rfl
        · refine am_Pn.bl 2 (y := (105, [some (.ref 1), some (.int x1), some (.int x2), some (.int x3), some (.int x4), some (.int (s.2.2.1 6 (x1.toInt.toNat)))], [.int (Int32.ofInt (1))], sg_h s, 0, 0)) rfl ?_
          exact am_Pn.rI h rfl
  replace h := h.2
  by_cases hs7 : (s.2.2.1 4 (x1.toInt.toNat)).toInt = (2)
  · replace h := h.1 hs7
    refine am_Pn.tj (lo := 0) 2 (hs7.trans (by decide)) rfl rfl rfl rfl ?_
    refine am_Pn.bl 5 (y := (112, [some (.ref 1), some (.int x1), some (.int x2), some (.int x3), some (.int x4), some (.int (s.2.2.1 6 (x1.toInt.toNat)))], [.int x4, .int x3, .int x2, .int x1, .ref 1], sg_h s, 0, 0)) rfl ?_
    refine am_Pn.cvI hcl h rfl rfl rfl rfl rfl (fun x8 s8 h => ?_)
    exact am_Pn.rI h rfl
  replace h := h.2
  by_cases hs9 : (s.2.2.1 4 (x1.toInt.toNat)).toInt = (3)
  · replace h := h.1 hs9
    refine am_Pn.tj (lo := 0) 3 (hs9.trans (by decide)) rfl rfl rfl rfl ?_
    refine am_Pn.bl 1 (y := (118, [some (.ref 1), some (.int x1), some (.int x2), some (.int x3), some (.int x4), some (.int (s.2.2.1 6 (x1.toInt.toNat)))], [.int x4], sg_h s, 0, 0)) rfl ?_
    refine am_Pn.zT h (am_beq rfl rfl) rfl rfl (fun h => ?_) (fun h => ?_)
    · refine am_Pn.bl 1 (y := (136, [some (.ref 1), some (.int x1), some (.int x2), some (.int x3), some (.int x4), some (.int (s.2.2.1 6 (x1.toInt.toNat)))], [.int (Int32.ofInt (0))], sg_h s, 0, 0)) rfl ?_
      exact am_Pn.rI h rfl
    · refine am_Pn.bl 1 (y := (122, [some (.ref 1), some (.int x1), some (.int x2), some (.int x3), some (.int x4), some (.int (s.2.2.1 6 (x1.toInt.toNat)))], [.int x2], sg_h s, 0, 0)) rfl ?_
      refine am_Pn.zF h (am_ble rfl rfl) rfl rfl (fun h => ?_) (fun h => ?_)
      · refine am_Pn.bl 1 (y := (136, [some (.ref 1), some (.int x1), some (.int x2), some (.int x3), some (.int x4), some (.int (s.2.2.1 6 (x1.toInt.toNat)))], [.int (Int32.ofInt (0))], sg_h s, 0, 0)) rfl ?_
        exact am_Pn.rI h rfl
      · refine am_Pn.bl 2 (y := (128, [some (.ref 1), some (.int x1), some (.int x2), some (.int x3), some (.int x4), some (.int (s.2.2.1 6 (x1.toInt.toNat)))], [.int (s.2.2.1 6 (x1.toInt.toNat)), .int x2], sg_h s, 0, 0)) rfl ?_
        refine am_Pn.bF h (am_bge rfl rfl) rfl rfl (fun h => ?_) (fun h => ?_)
        · refine am_Pn.bl 1 (y := (136, [some (.ref 1), some (.int x1), some (.int x2), some (.int x3), some (.int x4), some (.int (s.2.2.1 6 (x1.toInt.toNat)))], [.int (Int32.ofInt (0))], sg_h s, 0, 0)) rfl ?_
          exact am_Pn.rI h rfl
        · refine am_Pn.bl 2 (y := (136, [some (.ref 1), some (.int x1), some (.int x2), some (.int x3), some (.int x4), some (.int (s.2.2.1 6 (x1.toInt.toNat)))], [.int (Int32.ofInt (1))], sg_h s, 0, 0)) rfl ?_
          exact am_Pn.rI h rfl
  replace h := h.2
  by_cases hs10 : (s.2.2.1 4 (x1.toInt.toNat)).toInt = (4)
  · replace h := h.1 hs10
    refine am_Pn.tj (lo := 0) 4 (hs10.trans (by decide)) rfl rfl rfl rfl ?_
    refine am_Pn.bl 1 (y := (139, [some (.ref 1), some (.int x1), some (.int x2), some (.int x3), some (.int x4), some (.int (s.2.2.1 6 (x1.toInt.toNat)))], [.int x4], sg_h s, 0, 0)) rfl ?_
    refine am_Pn.zT h (am_beq rfl rfl) rfl rfl (fun h => ?_) (fun h => ?_)
    · refine am_Pn.bl 1 (y := (155, [some (.ref 1), some (.int x1), some (.int x2), some (.int x3), some (.int x4), some (.int (s.2.2.1 6 (x1.toInt.toNat)))], [.int (Int32.ofInt (0))], sg_h s, 0, 0)) rfl ?_
      exact am_Pn.rI h rfl
    · refine am_Pn.bl 4 (y := (147, [some (.ref 1), some (.int x1), some (.int x2), some (.int x3), some (.int x4), some (.int (s.2.2.1 6 (x1.toInt.toNat)))], [.int (s.2.2.1 6 (x1.toInt.toNat)), .int (x2 + (Int32.ofInt (1)))], sg_h s, 0, 0)) rfl ?_
      refine am_Pn.bF h (am_ble rfl rfl) rfl rfl (fun h => ?_) (fun h => ?_)
      · refine am_Pn.bl 1 (y := (155, [some (.ref 1), some (.int x1), some (.int x2), some (.int x3), some (.int x4), some (.int (s.2.2.1 6 (x1.toInt.toNat)))], [.int (Int32.ofInt (0))], sg_h s, 0, 0)) rfl ?_
        exact am_Pn.rI h rfl
      · refine am_Pn.bl 2 (y := (155, [some (.ref 1), some (.int x1), some (.int x2), some (.int x3), some (.int x4), some (.int (s.2.2.1 6 (x1.toInt.toNat)))], [.int (Int32.ofInt (1))], sg_h s, 0, 0)) rfl ?_
        exact am_Pn.rI h rfl
  replace h := h.2
  by_cases hs11 : (s.2.2.1 4 (x1.toInt.toNat)).toInt = (5)
  · replace h := h.1 hs11
    refine am_Pn.tj (lo := 0) 5 (hs11.trans (by decide)) rfl rfl rfl rfl ?_
    refine am_Pn.bl 2 (y := (159, [some (.ref 1), some (.int x1), some (.int x2), some (.int x3), some (.int x4), some (.int (s.2.2.1 6 (x1.toInt.toNat)))], [.int x4, .int x2], sg_h s, 0, 0)) rfl ?_
    refine am_Pn.zT h (am_beq rfl rfl) rfl rfl (fun h => ?_) (fun h => ?_)
    · refine am_Pn.bl 3 (y := (169, [some (.ref 1), some (.int x1), some (.int x2), some (.int x3), some (.int x4), some (.int (s.2.2.1 6 (x1.toInt.toNat)))], [.ref 1, .int (x2 + (Int32.ofInt (0)))], sg_h s, 0, 0)) rfl ?_
      refine am_Pn.gi (k := 3) rfl rfl am_o1 rfl rfl ?_
      refine am_Pn.bl 4 (y := (177, [some (.ref 1), some (.int x1), some (.int x2), some (.int x3), some (.int x4), some (.int (s.2.2.1 6 (x1.toInt.toNat)))], [.int (s.2.2.1 6 (x1.toInt.toNat)), .int (((x2 + (Int32.ofInt (0))) + (s.1 1 3)) - x3)], sg_h s, 0, 0)) rfl ?_
      refine am_Pn.bF h (am_bge rfl rfl) rfl rfl (fun h => ?_) (fun h => ?_)
      · refine am_Pn.bl 1 (y := (185, [some (.ref 1), some (.int x1), some (.int x2), some (.int x3), some (.int x4), some (.int (s.2.2.1 6 (x1.toInt.toNat)))], [.int (Int32.ofInt (0))], sg_h s, 0, 0)) rfl ?_
        exact am_Pn.rI h rfl
      · refine am_Pn.bl 2 (y := (185, [some (.ref 1), some (.int x1), some (.int x2), some (.int x3), some (.int x4), some (.int (s.2.2.1 6 (x1.toInt.toNat)))], [.int (Int32.ofInt (1))], sg_h s, 0, 0)) rfl ?_
        exact am_Pn.rI h rfl
    · refine am_Pn.bl 4 (y := (169, [some (.ref 1), some (.int x1), some (.int x2), some (.int x3), some (.int x4), some (.int (s.2.2.1 6 (x1.toInt.toNat)))], [.ref 1, .int (x2 + (Int32.ofInt (1)))], sg_h s, 0, 0)) rfl ?_
      refine am_Pn.gi (k := 3) rfl rfl am_o1 rfl rfl ?_
      refine am_Pn.bl 4 (y := (177, [some (.ref 1), some (.int x1), some (.int x2), some (.int x3), some (.int x4), some (.int (s.2.2.1 6 (x1.toInt.toNat)))], [.int (s.2.2.1 6 (x1.toInt.toNat)), .int (((x2 + (Int32.ofInt (1))) + (s.1 1 3)) - x3)], sg_h s, 0, 0)) rfl ?_
      refine am_Pn.bF h (am_bge rfl rfl) rfl rfl (fun h => ?_) (fun h => ?_)
      · refine am_Pn.bl 1 (y := (185, [some (.ref 1), some (.int x1), some (.int x2), some (.int x3), some (.int x4), some (.int (s.2.2.1 6 (x1.toInt.toNat)))], [.int (Int32.ofInt (0))], sg_h s, 0, 0)) rfl ?_
        exact am_Pn.rI h rfl
      · refine am_Pn.bl 2 (y := (185, [some (.ref 1), some (.int x1), some (.int x2), some (.int x3), some (.int x4), some (.int (s.2.2.1 6 (x1.toInt.toNat)))], [.int (Int32.ofInt (1))], sg_h s, 0, 0)) rfl ?_
        exact am_Pn.rI h rfl
  replace h := h.2
  have hsd12 : (s.2.2.1 4 (x1.toInt.toNat)).toInt < (0) ∨ (5) < (s.2.2.1 4 (x1.toInt.toNat)).toInt := by omega
  refine am_Pn.td (lo := 0) (hi := 5) hsd12 rfl rfl ?_
  replace h := h (by omega)
  refine am_Pn.bl 1 (y := (187, [some (.ref 1), some (.int x1), some (.int x2), some (.int x3), some (.int x4), some (.int (s.2.2.1 6 (x1.toInt.toNat)))], [.int (Int32.ofInt (0))], sg_h s, 0, 0)) rfl ?_
  exact am_Pn.rI h rfl
def wp_XRules_nextNumber_1 (Ψ : Int32 → sg_S → Prop) (x1 : Int32) (x2 : Int32) (x3 : Int32) (s : sg_S) : Prop := (0 ≤ x1.toInt → x1.toInt < (12) → (((s.2.2.1 4 (x1.toInt.toNat)).toInt = (2) → ((x3.toInt = (0) → (Ψ (Int32.ofInt (0)) s)) ∧ (¬ x3.toInt = (0) → (Ψ (x2 + (Int32.ofInt (1))) s)))) ∧ ((s.2.2.1 4 (x1.toInt.toNat)).toInt = (3) → ((x3.toInt = (0) → (Ψ (if (s.2.2.1 6 (x1.toInt.toNat)) < (x2 + (Int32.ofInt (1))) then (s.2.2.1 6 (x1.toInt.toNat)) else (x2 + (Int32.ofInt (1)))) s)) ∧ (¬ x3.toInt = (0) → (Ψ (Int32.ofInt (0)) s)))) ∧ ((s.2.2.1 4 (x1.toInt.toNat)).toInt = (4) → ((x3.toInt = (0) → (Ψ x2 s)) ∧ (¬ x3.toInt = (0) → (Ψ (x2 + (Int32.ofInt (1))) s)))) ∧ ((s.2.2.1 4 (x1.toInt.toNat)).toInt = (5) → ((x3.toInt = (0) → (Ψ (if (s.2.2.1 6 (x1.toInt.toNat)) < x2 then (s.2.2.1 6 (x1.toInt.toNat)) else x2) s)) ∧ (¬ x3.toInt = (0) → (Ψ (if (s.2.2.1 6 (x1.toInt.toNat)) < (x2 + (Int32.ofInt (1))) then (s.2.2.1 6 (x1.toInt.toNat)) else (x2 + (Int32.ofInt (1)))) s)))) ∧ (((s.2.2.1 4 (x1.toInt.toNat)).toInt < (2) ∨ (5) < (s.2.2.1 4 (x1.toInt.toNat)).toInt) → (Ψ (Int32.ofInt (0)) s))))
set_option maxRecDepth 100000 in
theorem wp_XRules_nextNumber_1_ok {Ψ : Int32 → sg_S → Prop} {x1 : Int32} {x2 : Int32} {x3 : Int32} {s : sg_S} (h : wp_XRules_nextNumber_1 Ψ x1 x2 x3 s) : am_SpI 75 [.ref 1, .int x1, .int x2, .int x3] s Ψ := by
  refine am_SpI.mk (r := am_r75) rfl rfl (fun call d al n hcl => ?_)
  unfold wp_XRules_nextNumber_1 at h
  refine am_Pn.bl 1 (y := (1, [some (.ref 1), some (.int x1), some (.int x2), some (.int x3), none], [.ref 1], sg_h s, 0, 0)) rfl ?_
  refine am_Pn.gr (k := 10) rfl rfl am_o1 rfl rfl ?_
  refine am_Pn.bl 1 (y := (5, [some (.ref 1), some (.int x1), some (.int x2), some (.int x3), none], [.int x1, .ref 6], sg_h s, 0, 0)) rfl ?_
  refine am_Pn.ia (a := 6) rfl rfl rfl rfl (fun hi => ?_)
  replace h := h (am_in0 hi) (am_in1 hi)
  refine am_Pn.bl 2 (y := (9, [some (.ref 1), some (.int x1), some (.int x2), some (.int x3), some (.int (s.2.2.1 6 (x1.toInt.toNat)))], [.ref 1], sg_h s, 0, 0)) rfl ?_
  refine am_Pn.gr (k := 8) rfl rfl am_o1 rfl rfl ?_
  refine am_Pn.bl 1 (y := (13, [some (.ref 1), some (.int x1), some (.int x2), some (.int x3), some (.int (s.2.2.1 6 (x1.toInt.toNat)))], [.int x1, .ref 4], sg_h s, 0, 0)) rfl ?_
  refine am_Pn.ia (a := 4) rfl rfl rfl rfl (fun hi => ?_)
  by_cases hs4 : (s.2.2.1 4 (x1.toInt.toNat)).toInt = (2)
  · replace h := h.1 hs4
    refine am_Pn.tj (lo := 2) 0 (hs4.trans (by decide)) rfl rfl rfl rfl ?_
    refine am_Pn.bl 1 (y := (45, [some (.ref 1), some (.int x1), some (.int x2), some (.int x3), some (.int (s.2.2.1 6 (x1.toInt.toNat)))], [.int x3], sg_h s, 0, 0)) rfl ?_
    refine am_Pn.zT h (am_beq rfl rfl) rfl rfl (fun h => ?_) (fun h => ?_)
    · refine am_Pn.bl 1 (y := (55, [some (.ref 1), some (.int x1), some (.int x2), some (.int x3), some (.int (s.2.2.1 6 (x1.toInt.toNat)))], [.int (Int32.ofInt (0))], sg_h s, 0, 0)) rfl ?_
      exact am_Pn.rI h rfl
    · refine am_Pn.bl 4 (y := (55, [some (.ref 1), some (.int x1), some (.int x2), some (.int x3), some (.int (s.2.2.1 6 (x1.toInt.toNat)))], [.int (x2 + (Int32.ofInt (1)))], sg_h s, 0, 0)) rfl ?_
      exact am_Pn.rI h rfl
  replace h := h.2
  by_cases hs5 : (s.2.2.1 4 (x1.toInt.toNat)).toInt = (3)
  · replace h := h.1 hs5
    refine am_Pn.tj (lo := 2) 1 (hs5.trans (by decide)) rfl rfl rfl rfl ?_
    refine am_Pn.bl 1 (y := (57, [some (.ref 1), some (.int x1), some (.int x2), some (.int x3), some (.int (s.2.2.1 6 (x1.toInt.toNat)))], [.int x3], sg_h s, 0, 0)) rfl ?_
    refine am_Pn.zT h (am_beq rfl rfl) rfl rfl (fun h => ?_) (fun h => ?_)
    · refine am_Pn.bl 4 (y := (69, [some (.ref 1), some (.int x1), some (.int x2), some (.int x3), some (.int (s.2.2.1 6 (x1.toInt.toNat)))], [.int (s.2.2.1 6 (x1.toInt.toNat)), .int (x2 + (Int32.ofInt (1)))], sg_h s, 0, 0)) rfl ?_
      refine am_Pn.mn rfl rfl ?_
      exact am_Pn.rI h rfl
    · refine am_Pn.bl 2 (y := (72, [some (.ref 1), some (.int x1), some (.int x2), some (.int x3), some (.int (s.2.2.1 6 (x1.toInt.toNat)))], [.int (Int32.ofInt (0))], sg_h s, 0, 0)) rfl ?_
      exact am_Pn.rI h rfl
  replace h := h.2
  by_cases hs6 : (s.2.2.1 4 (x1.toInt.toNat)).toInt = (4)
  · replace h := h.1 hs6
    refine am_Pn.tj (lo := 2) 2 (hs6.trans (by decide)) rfl rfl rfl rfl ?_
    refine am_Pn.bl 1 (y := (74, [some (.ref 1), some (.int x1), some (.int x2), some (.int x3), some (.int (s.2.2.1 6 (x1.toInt.toNat)))], [.int x3], sg_h s, 0, 0)) rfl ?_
    refine am_Pn.zT h (am_beq rfl rfl) rfl rfl (fun h => ?_) (fun h => ?_)
    · refine am_Pn.bl 1 (y := (84, [some (.ref 1), some (.int x1), some (.int x2), some (.int x3), some (.int (s.2.2.1 6 (x1.toInt.toNat)))], [.int x2], sg_h s, 0, 0)) rfl ?_
      exact am_Pn.rI h rfl
    · refine am_Pn.bl 4 (y := (84, [some (.ref 1), some (.int x1), some (.int x2), some (.int x3), some (.int (s.2.2.1 6 (x1.toInt.toNat)))], [.int (x2 + (Int32.ofInt (1)))], sg_h s, 0, 0)) rfl ?_
      exact am_Pn.rI h rfl
  replace h := h.2
  by_cases hs7 : (s.2.2.1 4 (x1.toInt.toNat)).toInt = (5)
  · replace h := h.1 hs7
    refine am_Pn.tj (lo := 2) 3 (hs7.trans (by decide)) rfl rfl rfl rfl ?_
    refine am_Pn.bl 1 (y := (86, [some (.ref 1), some (.int x1), some (.int x2), some (.int x3), some (.int (s.2.2.1 6 (x1.toInt.toNat)))], [.int x3], sg_h s, 0, 0)) rfl ?_
    refine am_Pn.zT h (am_beq rfl rfl) rfl rfl (fun h => ?_) (fun h => ?_)
    · refine am_Pn.bl 2 (y := (98, [some (.ref 1), some (.int x1), some (.int x2), some (.int x3), some (.int (s.2.2.1 6 (x1.toInt.toNat)))], [.int (s.2.2.1 6 (x1.toInt.toNat)), .int x2], sg_h s, 0, 0)) rfl ?_
      refine am_Pn.mn rfl rfl ?_
      exact am_Pn.rI h rfl
    · refine am_Pn.bl 5 (y := (98, [some (.ref 1), some (.int x1), some (.int x2), some (.int x3), some (.int (s.2.2.1 6 (x1.toInt.toNat)))], [.int (s.2.2.1 6 (x1.toInt.toNat)), .int (x2 + (Int32.ofInt (1)))], sg_h s, 0, 0)) rfl ?_
      refine am_Pn.mn rfl rfl ?_
      exact am_Pn.rI h rfl
  replace h := h.2
  have hsd8 : (s.2.2.1 4 (x1.toInt.toNat)).toInt < (2) ∨ (5) < (s.2.2.1 4 (x1.toInt.toNat)).toInt := by omega
  refine am_Pn.td (lo := 2) (hi := 5) hsd8 rfl rfl ?_
  replace h := h (by omega)
  refine am_Pn.bl 1 (y := (103, [some (.ref 1), some (.int x1), some (.int x2), some (.int x3), some (.int (s.2.2.1 6 (x1.toInt.toNat)))], [.int (Int32.ofInt (0))], sg_h s, 0, 0)) rfl ?_
  exact am_Pn.rI h rfl
def wp_XBook_setOfAll (Ψ : Int32 → sg_S → Prop) (x1 : Int32) (x2 : Int32) (x3 : Int32) (s : sg_S) : Prop := (am_SpI 3 [.ref 18, .int x1] s (fun x4 s4 => (am_SpI 3 [.ref 18, .int x2] s4 (fun x5 s5 => (am_SpI 3 [.ref 18, .int x3] s5 (fun x6 s6 => (Ψ ((x4 ||| x5) ||| x6) s6)))))))
set_option maxRecDepth 100000 in
theorem wp_XBook_setOfAll_ok {Ψ : Int32 → sg_S → Prop} {x1 : Int32} {x2 : Int32} {x3 : Int32} {s : sg_S} (h : wp_XBook_setOfAll Ψ x1 x2 x3 s) : am_SpI 4 [.ref 18, .int x1, .int x2, .int x3] s Ψ := by
  refine am_SpI.mk (r := am_r4) rfl rfl (fun call d al n hcl => ?_)
  unfold wp_XBook_setOfAll at h
  refine am_Pn.bl 2 (y := (2, [some (.ref 18), some (.int x1), some (.int x2), some (.int x3)], [.int x1, .ref 18], sg_h s, 0, 0)) rfl ?_
  refine am_Pn.cvI hcl h rfl rfl rfl rfl rfl (fun x4 s4 h => ?_)
  refine am_Pn.bl 2 (y := (7, [some (.ref 18), some (.int x1), some (.int x2), some (.int x3)], [.int x2, .ref 18, .int x4], sg_h s4, 0, 0)) rfl ?_
  refine am_Pn.cvI hcl h rfl rfl rfl rfl rfl (fun x5 s5 h => ?_)
  refine am_Pn.bl 3 (y := (13, [some (.ref 18), some (.int x1), some (.int x2), some (.int x3)], [.int x3, .ref 18, .int (x4 ||| x5)], sg_h s5, 0, 0)) rfl ?_
  refine am_Pn.cvI hcl h rfl rfl rfl rfl rfl (fun x6 s6 h => ?_)
  refine am_Pn.bl 1 (y := (17, [some (.ref 18), some (.int x1), some (.int x2), some (.int x3)], [.int ((x4 ||| x5) ||| x6)], sg_h s6, 0, 0)) rfl ?_
  exact am_Pn.rI h rfl
def wp_XSheet_isTold (Ψ : Int32 → sg_S → Prop) (x1 : Int32) (s : sg_S) : Prop := ((x1.toInt < (1) → (Ψ (Int32.ofInt (0)) s)) ∧ (¬ x1.toInt < (1) → (((s.1 28 2).toInt < x1.toInt → (Ψ (Int32.ofInt (0)) s)) ∧ (¬ (s.1 28 2).toInt < x1.toInt → (Ψ (Int32.ofInt (1)) s)))))
set_option maxRecDepth 100000 in
theorem wp_XSheet_isTold_ok {Ψ : Int32 → sg_S → Prop} {x1 : Int32} {s : sg_S} (h : wp_XSheet_isTold Ψ x1 s) : am_SpI 91 [.ref 28, .int x1] s Ψ := by
  refine am_SpI.mk (r := am_r91) rfl rfl (fun call d al n hcl => ?_)
  unfold wp_XSheet_isTold at h
  refine am_Pn.bl 2 (y := (2, [some (.ref 28), some (.int x1)], [.int (Int32.ofInt (1)), .int x1], sg_h s, 0, 0)) rfl ?_
  refine am_Pn.bT h (am_blt rfl rfl) rfl rfl (fun h => ?_) (fun h => ?_)
  · refine am_Pn.bl 1 (y := (18, [some (.ref 28), some (.int x1)], [.int (Int32.ofInt (0))], sg_h s, 0, 0)) rfl ?_
    exact am_Pn.rI h rfl
  · refine am_Pn.bl 2 (y := (7, [some (.ref 28), some (.int x1)], [.ref 28, .int x1], sg_h s, 0, 0)) rfl ?_
    refine am_Pn.gi (k := 2) rfl rfl am_o28 rfl rfl ?_
    refine am_Pn.bT h (am_bgt rfl rfl) rfl rfl (fun h => ?_) (fun h => ?_)
    · refine am_Pn.bl 1 (y := (18, [some (.ref 28), some (.int x1)], [.int (Int32.ofInt (0))], sg_h s, 0, 0)) rfl ?_
      exact am_Pn.rI h rfl
    · refine am_Pn.bl 2 (y := (18, [some (.ref 28), some (.int x1)], [.int (Int32.ofInt (1))], sg_h s, 0, 0)) rfl ?_
      exact am_Pn.rI h rfl
def wp_XSheet_isPlace (Ψ : Int32 → sg_S → Prop) (x1 : Int32) (s : sg_S) : Prop := ((x1.toInt < (1) → (Ψ (Int32.ofInt (0)) s)) ∧ (¬ x1.toInt < (1) → (((s.1 1 3).toInt < x1.toInt → (Ψ (Int32.ofInt (0)) s)) ∧ (¬ (s.1 1 3).toInt < x1.toInt → (Ψ (Int32.ofInt (1)) s)))))
set_option maxRecDepth 100000 in
theorem wp_XSheet_isPlace_ok {Ψ : Int32 → sg_S → Prop} {x1 : Int32} {s : sg_S} (h : wp_XSheet_isPlace Ψ x1 s) : am_SpI 83 [.ref 28, .int x1] s Ψ := by
  refine am_SpI.mk (r := am_r83) rfl rfl (fun call d al n hcl => ?_)
  unfold wp_XSheet_isPlace at h
  refine am_Pn.bl 2 (y := (2, [some (.ref 28), some (.int x1)], [.int (Int32.ofInt (1)), .int x1], sg_h s, 0, 0)) rfl ?_
  refine am_Pn.bT h (am_blt rfl rfl) rfl rfl (fun h => ?_) (fun h => ?_)
  · refine am_Pn.bl 1 (y := (21, [some (.ref 28), some (.int x1)], [.int (Int32.ofInt (0))], sg_h s, 0, 0)) rfl ?_
    exact am_Pn.rI h rfl
  · refine am_Pn.bl 2 (y := (7, [some (.ref 28), some (.int x1)], [.ref 28, .int x1], sg_h s, 0, 0)) rfl ?_
    refine am_Pn.gr (k := 0) rfl rfl am_o28 rfl rfl ?_
    refine am_Pn.gi (k := 3) rfl rfl am_o1 rfl rfl ?_
    refine am_Pn.bT h (am_bgt rfl rfl) rfl rfl (fun h => ?_) (fun h => ?_)
    · refine am_Pn.bl 1 (y := (21, [some (.ref 28), some (.int x1)], [.int (Int32.ofInt (0))], sg_h s, 0, 0)) rfl ?_
      exact am_Pn.rI h rfl
    · refine am_Pn.bl 2 (y := (21, [some (.ref 28), some (.int x1)], [.int (Int32.ofInt (1))], sg_h s, 0, 0)) rfl ?_
      exact am_Pn.rI h rfl
def wp_XSheet_isWordShared_2 (I2 : Int32 →  sg_S → Prop) (I22 : Int32 → Int32 → Int32 →  sg_S → Prop) (Ψ : Int32 → sg_S → Prop) (x1 : Int32) (x2 : Int32) (l3 : Int32) (s : sg_S) : Prop := ((l3.toInt < (3) → (0 ≤ ((x1 * (Int32.ofInt (3))) + l3).toInt → ((x1 * (Int32.ofInt (3))) + l3).toInt < (147) → (I22 l3 (s.2.2.1 32 (((x1 * (Int32.ofInt (3))) + l3).toInt.toNat)) (Int32.ofInt (0)) s))) ∧ (¬ l3.toInt < (3) → (Ψ (Int32.ofInt (0)) s)))
def wp_XSheet_isWordShared_22 (I2 : Int32 →  sg_S → Prop) (I22 : Int32 → Int32 → Int32 →  sg_S → Prop) (Ψ : Int32 → sg_S → Prop) (x1 : Int32) (x2 : Int32) (l3 : Int32) (l4 : Int32) (l5 : Int32) (s : sg_S) : Prop := ((l5.toInt < (3) → ((l4.toInt = (-1) → (I22 l3 l4 (l5 + Int32.ofInt (1)) s)) ∧ (¬ l4.toInt = (-1) → (0 ≤ ((x2 * (Int32.ofInt (3))) + l5).toInt → ((x2 * (Int32.ofInt (3))) + l5).toInt < (147) → ((l4.toInt = (s.2.2.1 32 (((x2 * (Int32.ofInt (3))) + l5).toInt.toNat)).toInt → (Ψ (Int32.ofInt (1)) s)) ∧ (¬ l4.toInt = (s.2.2.1 32 (((x2 * (Int32.ofInt (3))) + l5).toInt.toNat)).toInt → (I22 l3 l4 (l5 + Int32.ofInt (1)) s))))))) ∧ (¬ l5.toInt < (3) → (I2 (l3 + Int32.ofInt (1)) s)))
def wp_XSheet_isWordShared (I2 : Int32 →  sg_S → Prop) (I22 : Int32 → Int32 → Int32 →  sg_S → Prop) (Ψ : Int32 → sg_S → Prop) (x1 : Int32) (x2 : Int32) (s : sg_S) : Prop := (I2 (Int32.ofInt (0)) s)
set_option maxRecDepth 100000 in
theorem wp_XSheet_isWordShared_ok {I2 : Int32 →  sg_S → Prop} {I22 : Int32 → Int32 → Int32 →  sg_S → Prop} {Ψ : Int32 → sg_S → Prop} {x1 : Int32} {x2 : Int32} {s : sg_S} (k2 : ∀ (l3 : Int32) (s : sg_S), I2 l3 s → wp_XSheet_isWordShared_2 I2 I22 Ψ x1 x2 l3 s) (k22 : ∀ (l3 : Int32) (l4 : Int32) (l5 : Int32) (s : sg_S), I22 l3 l4 l5 s → wp_XSheet_isWordShared_22 I2 I22 Ψ x1 x2 l3 l4 l5 s) (h : wp_XSheet_isWordShared I2 I22 Ψ x1 x2 s) : am_SpI 87 [.ref 28, .int x1, .int x2] s Ψ := by
  refine am_SpI.mk (r := am_r87) rfl rfl (fun call d al n hcl => ?_)
  have key : ∀ n, (∀ (o4 : Option Value) (o5 : Option Value) (l3 : Int32) (s : sg_S), I2 l3 s → am_Pn call d (0, fun _ => 0) al am_r87 (am_PhI am_r87 Ψ) n (2, [some (.ref 28), some (.int x1), some (.int x2), some (.int l3), o4, o5], [], sg_h s, 0, 0)) ∧ (∀ (l3 : Int32) (l4 : Int32) (l5 : Int32) (s : sg_S), I22 l3 l4 l5 s → am_Pn call d (0, fun _ => 0) al am_r87 (am_PhI am_r87 Ψ) n (22, [some (.ref 28), some (.int x1), some (.int x2), some (.int l3), some (.int l4), some (.int l5)], [], sg_h s, 0, 0)) := by
    intro n
    induction n with
    | zero => exact ⟨fun _ _ _ _ _ => am_Pn.zero, fun _ _ _ _ _ => am_Pn.zero⟩
    | succ n ih =>
      refine ⟨?_, ?_⟩
      · intro o4 o5 l3 s h
        replace h := k2 l3 s h
        unfold wp_XSheet_isWordShared_2 at h
        refine am_Pn.bl1 1 (y := (4, [some (.ref 28), some (.int x1), some (.int x2), some (.int l3), o4, o5], [.int (Int32.ofInt (3)), .int l3], sg_h s, 0, 0)) rfl ?_
        refine am_Pn.bF h (am_bge rfl rfl) rfl rfl (fun h => ?_) (fun h => ?_)
        · refine am_Pn.bl 1 (y := (65, [some (.ref 28), some (.int x1), some (.int x2), some (.int l3), o4, o5], [.int (Int32.ofInt (0))], sg_h s, 0, 0)) rfl ?_
          exact am_Pn.rI h rfl
        · refine am_Pn.bl 1 (y := (8, [some (.ref 28), some (.int x1), some (.int x2), some (.int l3), o4, o5], [.ref 28], sg_h s, 0, 0)) rfl ?_
          refine am_Pn.gr (k := 7) rfl rfl am_o28 rfl rfl ?_
          refine am_Pn.bl 5 (y := (16, [some (.ref 28), some (.int x1), some (.int x2), some (.int l3), o4, o5], [.int ((x1 * (Int32.ofInt (3))) + l3), .ref 32], sg_h s, 0, 0)) rfl ?_
          refine am_Pn.ia (a := 32) rfl rfl rfl rfl (fun hi => ?_)
          replace h := h (am_in0 hi) (am_in1 hi)
          refine am_Pn.bl 3 (y := (22, [some (.ref 28), some (.int x1), some (.int x2), some (.int l3), some (.int (s.2.2.1 32 (((x1 * (Int32.ofInt (3))) + l3).toInt.toNat))), some (.int (Int32.ofInt (0)))], [], sg_h s, 0, 0)) rfl ?_
          exact (ih.2) l3 (s.2.2.1 32 (((x1 * (Int32.ofInt (3))) + l3).toInt.toNat)) (Int32.ofInt (0)) s h
      · intro l3 l4 l5 s h
        replace h := k22 l3 l4 l5 s h
        unfold wp_XSheet_isWordShared_22 at h
        refine am_Pn.bl1 1 (y := (25, [some (.ref 28), some (.int x1), some (.int x2), some (.int l3), some (.int l4), some (.int l5)], [.int (Int32.ofInt (3)), .int l5], sg_h s, 0, 0)) rfl ?_
        refine am_Pn.bF h (am_bge rfl rfl) rfl rfl (fun h => ?_) (fun h => ?_)
        · refine am_Pn.bl 2 (y := (2, [some (.ref 28), some (.int x1), some (.int x2), some (.int (l3 + Int32.ofInt (1))), some (.int l4), some (.int l5)], [], sg_h s, 0, 0)) rfl ?_
          exact (ih.1) (some (.int l4)) (some (.int l5)) (l3 + Int32.ofInt (1)) s h
        · refine am_Pn.bl 2 (y := (31, [some (.ref 28), some (.int x1), some (.int x2), some (.int l3), some (.int l4), some (.int l5)], [.int (Int32.ofInt (-1)), .int l4], sg_h s, 0, 0)) rfl ?_
          refine am_Pn.bT h (am_beq rfl rfl) rfl rfl (fun h => ?_) (fun h => ?_)
          · refine am_Pn.bl 2 (y := (22, [some (.ref 28), some (.int x1), some (.int x2), some (.int l3), some (.int l4), some (.int (l5 + Int32.ofInt (1)))], [], sg_h s, 0, 0)) rfl ?_
            exact (ih.2) l3 l4 (l5 + Int32.ofInt (1)) s h
          · refine am_Pn.bl 2 (y := (37, [some (.ref 28), some (.int x1), some (.int x2), some (.int l3), some (.int l4), some (.int l5)], [.ref 28, .int l4], sg_h s, 0, 0)) rfl ?_
            refine am_Pn.gr (k := 7) rfl rfl am_o28 rfl rfl ?_
            refine am_Pn.bl 5 (y := (46, [some (.ref 28), some (.int x1), some (.int x2), some (.int l3), some (.int l4), some (.int l5)], [.int ((x2 * (Int32.ofInt (3))) + l5), .ref 32, .int l4], sg_h s, 0, 0)) rfl ?_
            refine am_Pn.ia (a := 32) rfl rfl rfl rfl (fun hi => ?_)
            replace h := h (am_in0 hi) (am_in1 hi)
            refine am_Pn.bF h (am_bne rfl rfl) rfl rfl (fun h => ?_) (fun h => ?_)
            · refine am_Pn.bl 2 (y := (22, [some (.ref 28), some (.int x1), some (.int x2), some (.int l3), some (.int l4), some (.int (l5 + Int32.ofInt (1)))], [], sg_h s, 0, 0)) rfl ?_
              exact (ih.2) l3 l4 (l5 + Int32.ofInt (1)) s h
            · refine am_Pn.bl 1 (y := (51, [some (.ref 28), some (.int x1), some (.int x2), some (.int l3), some (.int l4), some (.int l5)], [.int (Int32.ofInt (1))], sg_h s, 0, 0)) rfl ?_
              exact am_Pn.rI h rfl
  unfold wp_XSheet_isWordShared at h
  refine am_Pn.bl 2 (y := (2, [some (.ref 28), some (.int x1), some (.int x2), some (.int (Int32.ofInt (0))), none, none], [], sg_h s, 0, 0)) rfl ?_
  exact ((key n).1) none none (Int32.ofInt (0)) s h
def wp_XSheet_isAgain_8 (I8 : Int32 →  sg_S → Prop) (Ψ : Int32 → sg_S → Prop) (x1 : Int32) (x2 : Int32) (l3 : Int32) (s : sg_S) : Prop := ((l3.toInt < x1.toInt → (am_SpI 87 [.ref 28, .int x1, .int l3] s (fun x3 s3 => ((x3.toInt = (0) → (I8 (l3 + Int32.ofInt (1)) s3)) ∧ (¬ x3.toInt = (0) → (Ψ (Int32.ofInt (1)) s3)))))) ∧ (¬ l3.toInt < x1.toInt → (Ψ (Int32.ofInt (0)) s)))
def wp_XSheet_isAgain (I8 : Int32 →  sg_S → Prop) (Ψ : Int32 → sg_S → Prop) (x1 : Int32) (x2 : Int32) (s : sg_S) : Prop := (I8 (if (Int32.ofInt (1)) < (x1 - x2) then (x1 - x2) else (Int32.ofInt (1))) s)
set_option maxRecDepth 100000 in
theorem wp_XSheet_isAgain_ok {I8 : Int32 →  sg_S → Prop} {Ψ : Int32 → sg_S → Prop} {x1 : Int32} {x2 : Int32} {s : sg_S} (k8 : ∀ (l3 : Int32) (s : sg_S), I8 l3 s → wp_XSheet_isAgain_8 I8 Ψ x1 x2 l3 s) (h : wp_XSheet_isAgain I8 Ψ x1 x2 s) : am_SpI 86 [.ref 28, .int x1, .int x2] s Ψ := by
  refine am_SpI.mk (r := am_r86) rfl rfl (fun call d al n hcl => ?_)
  have key : ∀ n, (∀ (l3 : Int32) (s : sg_S), I8 l3 s → am_Pn call d (0, fun _ => 0) al am_r86 (am_PhI am_r86 Ψ) n (8, [some (.ref 28), some (.int x1), some (.int x2), some (.int l3)], [], sg_h s, 0, 0)) := by
    intro n
    induction n with
    | zero => exact fun _ _ _ => am_Pn.zero
    | succ n ih =>
      intro l3 s h
      replace h := k8 l3 s h
      unfold wp_XSheet_isAgain_8 at h
      refine am_Pn.bl1 1 (y := (10, [some (.ref 28), some (.int x1), some (.int x2), some (.int l3)], [.int x1, .int l3], sg_h s, 0, 0)) rfl ?_
      refine am_Pn.bF h (am_bge rfl rfl) rfl rfl (fun h => ?_) (fun h => ?_)
      · refine am_Pn.bl 1 (y := (31, [some (.ref 28), some (.int x1), some (.int x2), some (.int l3)], [.int (Int32.ofInt (0))], sg_h s, 0, 0)) rfl ?_
        exact am_Pn.rI h rfl
      · refine am_Pn.bl 3 (y := (16, [some (.ref 28), some (.int x1), some (.int x2), some (.int l3)], [.int l3, .int x1, .ref 28], sg_h s, 0, 0)) rfl ?_
        refine am_Pn.cvI hcl h rfl rfl rfl rfl rfl (fun x3 s3 h => ?_)
        refine am_Pn.zT h (am_beq rfl rfl) rfl rfl (fun h => ?_) (fun h => ?_)
        · refine am_Pn.bl 2 (y := (8, [some (.ref 28), some (.int x1), some (.int x2), some (.int (l3 + Int32.ofInt (1)))], [], sg_h s3, 0, 0)) rfl ?_
          exact (ih) (l3 + Int32.ofInt (1)) s3 h
        · refine am_Pn.bl 1 (y := (23, [some (.ref 28), some (.int x1), some (.int x2), some (.int l3)], [.int (Int32.ofInt (1))], sg_h s3, 0, 0)) rfl ?_
          exact am_Pn.rI h rfl
  unfold wp_XSheet_isAgain at h
  refine am_Pn.bl 4 (y := (4, [some (.ref 28), some (.int x1), some (.int x2), none], [.int (x1 - x2), .int (Int32.ofInt (1))], sg_h s, 0, 0)) rfl ?_
  refine am_Pn.mx rfl rfl ?_
  refine am_Pn.bl 1 (y := (8, [some (.ref 28), some (.int x1), some (.int x2), some (.int (if (Int32.ofInt (1)) < (x1 - x2) then (x1 - x2) else (Int32.ofInt (1))))], [], sg_h s, 0, 0)) rfl ?_
  exact ((key n)) (if (Int32.ofInt (1)) < (x1 - x2) then (x1 - x2) else (Int32.ofInt (1))) s h
def wp_XSheet_isBroken (Ψ : Int32 → sg_S → Prop) (x1 : Int32) (x2 : Int32) (s : sg_S) : Prop := (0 ≤ x1.toInt → x1.toInt < (12) → (((s.2.2.1 4 (x1.toInt.toNat)).toInt = (6) → (am_SpI 86 [.ref 28, .int x2, .int (s.2.2.1 6 (x1.toInt.toNat))] s (fun x4 s4 => (Ψ x4 s4)))) ∧ ((s.2.2.1 4 (x1.toInt.toNat)).toInt = (7) → (((1) < x2.toInt → (0 ≤ (x2 - (Int32.ofInt (1))).toInt → (x2 - (Int32.ofInt (1))).toInt < (49) → (0 ≤ x2.toInt → x2.toInt < (49) → (am_SpI 116 [.ref 22, .int (s.2.2.1 30 ((x2 - (Int32.ofInt (1))).toInt.toNat)), .int (s.2.2.1 30 (x2.toInt.toNat))] s (fun x6 s6 => ((x6.toInt = (0) → (Ψ (Int32.ofInt (1)) s6)) ∧ (¬ x6.toInt = (0) → (Ψ (Int32.ofInt (0)) s6)))))))) ∧ (¬ (1) < x2.toInt → (Ψ (Int32.ofInt (0)) s)))) ∧ ((s.2.2.1 4 (x1.toInt.toNat)).toInt = (8) → (((2) < x2.toInt → (0 ≤ (x2 - (Int32.ofInt (2))).toInt → (x2 - (Int32.ofInt (2))).toInt < (49) → (0 ≤ x2.toInt → x2.toInt < (49) → (am_SpI 116 [.ref 22, .int (s.2.2.1 30 ((x2 - (Int32.ofInt (2))).toInt.toNat)), .int (s.2.2.1 30 (x2.toInt.toNat))] s (fun x8 s8 => ((x8.toInt = (0) → (Ψ (Int32.ofInt (0)) s8)) ∧ (¬ x8.toInt = (0) → (Ψ (Int32.ofInt (1)) s8)))))))) ∧ (¬ (2) < x2.toInt → (Ψ (Int32.ofInt (0)) s)))) ∧ (((s.2.2.1 4 (x1.toInt.toNat)).toInt < (6) ∨ (8) < (s.2.2.1 4 (x1.toInt.toNat)).toInt) → (0 ≤ (((x2 - (Int32.ofInt (1))) * (Int32.ofInt (12))) + x1).toInt → (((x2 - (Int32.ofInt (1))) * (Int32.ofInt (12))) + x1).toInt < (588) → (0 ≤ x2.toInt → x2.toInt < (49) → (am_SpI 74 [.ref 1, .int x1, .int (s.2.2.1 30 (x2.toInt.toNat))] s (fun x10 s10 => (am_SpI 76 [.ref 1, .int x1, .int (s.2.2.1 34 ((((x2 - (Int32.ofInt (1))) * (Int32.ofInt (12))) + x1).toInt.toNat)), .int x2, .int x10] s10 (fun x11 s11 => (Ψ x11 s11))))))))))
set_option maxRecDepth 100000 in
theorem wp_XSheet_isBroken_ok {Ψ : Int32 → sg_S → Prop} {x1 : Int32} {x2 : Int32} {s : sg_S} (h : wp_XSheet_isBroken Ψ x1 x2 s) : am_SpI 85 [.ref 28, .int x1, .int x2] s Ψ := by
  refine am_SpI.mk (r := am_r85) rfl rfl (fun call d al n hcl => ?_)
  unfold wp_XSheet_isBroken at h
  refine am_Pn.bl 1 (y := (1, [some (.ref 28), some (.int x1), some (.int x2), none], [.ref 28], sg_h s, 0, 0)) rfl ?_
  refine am_Pn.gr (k := 0) rfl rfl am_o28 rfl rfl ?_
  refine am_Pn.gr (k := 8) rfl rfl am_o1 rfl rfl ?_
  refine am_Pn.bl 1 (y := (8, [some (.ref 28), some (.int x1), some (.int x2), none], [.int x1, .ref 4], sg_h s, 0, 0)) rfl ?_
  refine am_Pn.ia (a := 4) rfl rfl rfl rfl (fun hi => ?_)
  replace h := h (am_in0 hi) (am_in1 hi)
  by_cases hs3 : (s.2.2.1 4 (x1.toInt.toNat)).toInt = (6)
  · replace h := h.1 hs3
    refine am_Pn.tj (lo := 6) 0 (hs3.trans (by decide)) rfl rfl rfl rfl ?_
    refine am_Pn.bl 3 (y := (39, [some (.ref 28), some (.int x1), some (.int x2), none], [.ref 28, .int x2, .ref 28], sg_h s, 0, 0)) rfl ?_
    refine am_Pn.gr (k := 0) rfl rfl am_o28 rfl rfl ?_
    refine am_Pn.gr (k := 10) rfl rfl am_o1 rfl rfl ?_
    refine am_Pn.bl 1 (y := (46, [some (.ref 28), some (.int x1), some (.int x2), none], [.int x1, .ref 6, .int x2, .ref 28], sg_h s, 0, 0)) rfl ?_
    refine am_Pn.ia (a := 6) rfl rfl rfl rfl (fun hi => ?_)
    refine am_Pn.cvI hcl h rfl rfl rfl rfl rfl (fun x4 s4 h => ?_)
    exact am_Pn.rI h rfl
  replace h := h.2
  by_cases hs5 : (s.2.2.1 4 (x1.toInt.toNat)).toInt = (7)
  · replace h := h.1 hs5
    refine am_Pn.tj (lo := 6) 1 (hs5.trans (by decide)) rfl rfl rfl rfl ?_
    refine am_Pn.bl 2 (y := (53, [some (.ref 28), some (.int x1), some (.int x2), none], [.int (Int32.ofInt (1)), .int x2], sg_h s, 0, 0)) rfl ?_
    refine am_Pn.bF h (am_ble rfl rfl) rfl rfl (fun h => ?_) (fun h => ?_)
    · refine am_Pn.bl 1 (y := (85, [some (.ref 28), some (.int x1), some (.int x2), none], [.int (Int32.ofInt (0))], sg_h s, 0, 0)) rfl ?_
      exact am_Pn.rI h rfl
    · refine am_Pn.bl 1 (y := (57, [some (.ref 28), some (.int x1), some (.int x2), none], [.ref 28], sg_h s, 0, 0)) rfl ?_
      refine am_Pn.gr (k := 1) rfl rfl am_o28 rfl rfl ?_
      refine am_Pn.bl 1 (y := (61, [some (.ref 28), some (.int x1), some (.int x2), none], [.ref 28, .ref 22], sg_h s, 0, 0)) rfl ?_
      refine am_Pn.gr (k := 5) rfl rfl am_o28 rfl rfl ?_
      refine am_Pn.bl 3 (y := (67, [some (.ref 28), some (.int x1), some (.int x2), none], [.int (x2 - (Int32.ofInt (1))), .ref 30, .ref 22], sg_h s, 0, 0)) rfl ?_
      refine am_Pn.ia (a := 30) rfl rfl rfl rfl (fun hi => ?_)
      replace h := h (am_in0 hi) (am_in1 hi)
      refine am_Pn.bl 1 (y := (69, [some (.ref 28), some (.int x1), some (.int x2), none], [.ref 28, .int (s.2.2.1 30 ((x2 - (Int32.ofInt (1))).toInt.toNat)), .ref 22], sg_h s, 0, 0)) rfl ?_
      refine am_Pn.gr (k := 5) rfl rfl am_o28 rfl rfl ?_
      refine am_Pn.bl 1 (y := (73, [some (.ref 28), some (.int x1), some (.int x2), none], [.int x2, .ref 30, .int (s.2.2.1 30 ((x2 - (Int32.ofInt (1))).toInt.toNat)), .ref 22], sg_h s, 0, 0)) rfl ?_
      refine am_Pn.ia (a := 30) rfl rfl rfl rfl (fun hi => ?_)
      replace h := h (am_in0 hi) (am_in1 hi)
      refine am_Pn.cvI hcl h rfl rfl rfl rfl rfl (fun x6 s6 h => ?_)
      refine am_Pn.zF h (am_bne rfl rfl) rfl rfl (fun h => ?_) (fun h => ?_)
      · refine am_Pn.bl 1 (y := (85, [some (.ref 28), some (.int x1), some (.int x2), none], [.int (Int32.ofInt (0))], sg_h s6, 0, 0)) rfl ?_
        exact am_Pn.rI h rfl
      · refine am_Pn.bl 2 (y := (85, [some (.ref 28), some (.int x1), some (.int x2), none], [.int (Int32.ofInt (1))], sg_h s6, 0, 0)) rfl ?_
        exact am_Pn.rI h rfl
  replace h := h.2
  by_cases hs7 : (s.2.2.1 4 (x1.toInt.toNat)).toInt = (8)
  · replace h := h.1 hs7
    refine am_Pn.tj (lo := 6) 2 (hs7.trans (by decide)) rfl rfl rfl rfl ?_
    refine am_Pn.bl 2 (y := (88, [some (.ref 28), some (.int x1), some (.int x2), none], [.int (Int32.ofInt (2)), .int x2], sg_h s, 0, 0)) rfl ?_
    refine am_Pn.bF h (am_ble rfl rfl) rfl rfl (fun h => ?_) (fun h => ?_)
    · refine am_Pn.bl 1 (y := (120, [some (.ref 28), some (.int x1), some (.int x2), none], [.int (Int32.ofInt (0))], sg_h s, 0, 0)) rfl ?_
      exact am_Pn.rI h rfl
    · refine am_Pn.bl 1 (y := (92, [some (.ref 28), some (.int x1), some (.int x2), none], [.ref 28], sg_h s, 0, 0)) rfl ?_
      refine am_Pn.gr (k := 1) rfl rfl am_o28 rfl rfl ?_
      refine am_Pn.bl 1 (y := (96, [some (.ref 28), some (.int x1), some (.int x2), none], [.ref 28, .ref 22], sg_h s, 0, 0)) rfl ?_
      refine am_Pn.gr (k := 5) rfl rfl am_o28 rfl rfl ?_
      refine am_Pn.bl 3 (y := (102, [some (.ref 28), some (.int x1), some (.int x2), none], [.int (x2 - (Int32.ofInt (2))), .ref 30, .ref 22], sg_h s, 0, 0)) rfl ?_
      refine am_Pn.ia (a := 30) rfl rfl rfl rfl (fun hi => ?_)
      replace h := h (am_in0 hi) (am_in1 hi)
      refine am_Pn.bl 1 (y := (104, [some (.ref 28), some (.int x1), some (.int x2), none], [.ref 28, .int (s.2.2.1 30 ((x2 - (Int32.ofInt (2))).toInt.toNat)), .ref 22], sg_h s, 0, 0)) rfl ?_
      refine am_Pn.gr (k := 5) rfl rfl am_o28 rfl rfl ?_
      refine am_Pn.bl 1 (y := (108, [some (.ref 28), some (.int x1), some (.int x2), none], [.int x2, .ref 30, .int (s.2.2.1 30 ((x2 - (Int32.ofInt (2))).toInt.toNat)), .ref 22], sg_h s, 0, 0)) rfl ?_
      refine am_Pn.ia (a := 30) rfl rfl rfl rfl (fun hi => ?_)
      replace h := h (am_in0 hi) (am_in1 hi)
      refine am_Pn.cvI hcl h rfl rfl rfl rfl rfl (fun x8 s8 h => ?_)
      refine am_Pn.zT h (am_beq rfl rfl) rfl rfl (fun h => ?_) (fun h => ?_)
      · refine am_Pn.bl 1 (y := (120, [some (.ref 28), some (.int x1), some (.int x2), none], [.int (Int32.ofInt (0))], sg_h s8, 0, 0)) rfl ?_
        exact am_Pn.rI h rfl
      · refine am_Pn.bl 2 (y := (120, [some (.ref 28), some (.int x1), some (.int x2), none], [.int (Int32.ofInt (1))], sg_h s8, 0, 0)) rfl ?_
        exact am_Pn.rI h rfl
  replace h := h.2
  have hsd9 : (s.2.2.1 4 (x1.toInt.toNat)).toInt < (6) ∨ (8) < (s.2.2.1 4 (x1.toInt.toNat)).toInt := by omega
  refine am_Pn.td (lo := 6) (hi := 8) hsd9 rfl rfl ?_
  replace h := h (by omega)
  refine am_Pn.bl 1 (y := (122, [some (.ref 28), some (.int x1), some (.int x2), none], [.ref 28], sg_h s, 0, 0)) rfl ?_
  refine am_Pn.gr (k := 9) rfl rfl am_o28 rfl rfl ?_
  refine am_Pn.bl 7 (y := (133, [some (.ref 28), some (.int x1), some (.int x2), none], [.int (((x2 - (Int32.ofInt (1))) * (Int32.ofInt (12))) + x1), .ref 34], sg_h s, 0, 0)) rfl ?_
  refine am_Pn.ia (a := 34) rfl rfl rfl rfl (fun hi => ?_)
  replace h := h (am_in0 hi) (am_in1 hi)
  refine am_Pn.bl 2 (y := (136, [some (.ref 28), some (.int x1), some (.int x2), some (.int (s.2.2.1 34 ((((x2 - (Int32.ofInt (1))) * (Int32.ofInt (12))) + x1).toInt.toNat)))], [.ref 28], sg_h s, 0, 0)) rfl ?_
  refine am_Pn.gr (k := 0) rfl rfl am_o28 rfl rfl ?_
  refine am_Pn.bl 4 (y := (143, [some (.ref 28), some (.int x1), some (.int x2), some (.int (s.2.2.1 34 ((((x2 - (Int32.ofInt (1))) * (Int32.ofInt (12))) + x1).toInt.toNat)))], [.ref 28, .int x2, .int (s.2.2.1 34 ((((x2 - (Int32.ofInt (1))) * (Int32.ofInt (12))) + x1).toInt.toNat)), .int x1, .ref 1], sg_h s, 0, 0)) rfl ?_
  refine am_Pn.gr (k := 0) rfl rfl am_o28 rfl rfl ?_
  refine am_Pn.bl 2 (y := (148, [some (.ref 28), some (.int x1), some (.int x2), some (.int (s.2.2.1 34 ((((x2 - (Int32.ofInt (1))) * (Int32.ofInt (12))) + x1).toInt.toNat)))], [.ref 28, .int x1, .ref 1, .int x2, .int (s.2.2.1 34 ((((x2 - (Int32.ofInt (1))) * (Int32.ofInt (12))) + x1).toInt.toNat)), .int x1, .ref 1], sg_h s, 0, 0)) rfl ?_
  refine am_Pn.gr (k := 5) rfl rfl am_o28 rfl rfl ?_
  refine am_Pn.bl 1 (y := (152, [some (.ref 28), some (.int x1), some (.int x2), some (.int (s.2.2.1 34 ((((x2 - (Int32.ofInt (1))) * (Int32.ofInt (12))) + x1).toInt.toNat)))], [.int x2, .ref 30, .int x1, .ref 1, .int x2, .int (s.2.2.1 34 ((((x2 - (Int32.ofInt (1))) * (Int32.ofInt (12))) + x1).toInt.toNat)), .int x1, .ref 1], sg_h s, 0, 0)) rfl ?_
  refine am_Pn.ia (a := 30) rfl rfl rfl rfl (fun hi => ?_)
  replace h := h (am_in0 hi) (am_in1 hi)
  refine am_Pn.cvI hcl h rfl rfl rfl rfl rfl (fun x10 s10 h => ?_)
  refine am_Pn.cvI hcl h rfl rfl rfl rfl rfl (fun x11 s11 h => ?_)
  exact am_Pn.rI h rfl
def wp_XSheet_firstBroken_12 (I12 : Int32 →  sg_S → Prop) (Ψ : Int32 → sg_S → Prop) (x1 : Int32) (l2 : Int32) (s : sg_S) : Prop := ((l2.toInt < (s.1 1 2).toInt → (am_SpI 85 [.ref 28, .int l2, .int x1] s (fun x3 s3 => ((x3.toInt = (0) → (I12 (l2 + Int32.ofInt (1)) s3)) ∧ (¬ x3.toInt = (0) → (Ψ l2 s3)))))) ∧ (¬ l2.toInt < (s.1 1 2).toInt → (Ψ (Int32.ofInt (-1)) s)))
def wp_XSheet_firstBroken (I12 : Int32 →  sg_S → Prop) (Ψ : Int32 → sg_S → Prop) (x1 : Int32) (s : sg_S) : Prop := (am_SpI 83 [.ref 28, .int x1] s (fun x2 s2 => ((x2.toInt = (0) → (Ψ (Int32.ofInt (-1)) s2)) ∧ (¬ x2.toInt = (0) → (I12 (Int32.ofInt (0)) s2)))))
set_option maxRecDepth 100000 in
theorem wp_XSheet_firstBroken_ok {I12 : Int32 →  sg_S → Prop} {Ψ : Int32 → sg_S → Prop} {x1 : Int32} {s : sg_S} (k12 : ∀ (l2 : Int32) (s : sg_S), I12 l2 s → wp_XSheet_firstBroken_12 I12 Ψ x1 l2 s) (h : wp_XSheet_firstBroken I12 Ψ x1 s) : am_SpI 84 [.ref 28, .int x1] s Ψ := by
  refine am_SpI.mk (r := am_r84) rfl rfl (fun call d al n hcl => ?_)
  have key : ∀ n, (∀ (l2 : Int32) (s : sg_S), I12 l2 s → am_Pn call d (0, fun _ => 0) al am_r84 (am_PhI am_r84 Ψ) n (12, [some (.ref 28), some (.int x1), some (.int l2)], [], sg_h s, 0, 0)) := by
    intro n
    induction n with
    | zero => exact fun _ _ _ => am_Pn.zero
    | succ n ih =>
      intro l2 s h
      replace h := k12 l2 s h
      unfold wp_XSheet_firstBroken_12 at h
      refine am_Pn.bl1 1 (y := (14, [some (.ref 28), some (.int x1), some (.int l2)], [.ref 28, .int l2], sg_h s, 0, 0)) rfl ?_
      refine am_Pn.gr (k := 0) rfl rfl am_o28 rfl rfl ?_
      refine am_Pn.gi (k := 2) rfl rfl am_o1 rfl rfl ?_
      refine am_Pn.bF h (am_bge rfl rfl) rfl rfl (fun h => ?_) (fun h => ?_)
      · refine am_Pn.bl 1 (y := (41, [some (.ref 28), some (.int x1), some (.int l2)], [.int (Int32.ofInt (-1))], sg_h s, 0, 0)) rfl ?_
        exact am_Pn.rI h rfl
      · refine am_Pn.bl 3 (y := (26, [some (.ref 28), some (.int x1), some (.int l2)], [.int x1, .int l2, .ref 28], sg_h s, 0, 0)) rfl ?_
        refine am_Pn.cvI hcl h rfl rfl rfl rfl rfl (fun x3 s3 h => ?_)
        refine am_Pn.zT h (am_beq rfl rfl) rfl rfl (fun h => ?_) (fun h => ?_)
        · refine am_Pn.bl 2 (y := (12, [some (.ref 28), some (.int x1), some (.int (l2 + Int32.ofInt (1)))], [], sg_h s3, 0, 0)) rfl ?_
          exact (ih) (l2 + Int32.ofInt (1)) s3 h
        · refine am_Pn.bl 1 (y := (33, [some (.ref 28), some (.int x1), some (.int l2)], [.int l2], sg_h s3, 0, 0)) rfl ?_
          exact am_Pn.rI h rfl
  unfold wp_XSheet_firstBroken at h
  refine am_Pn.bl 2 (y := (2, [some (.ref 28), some (.int x1), none], [.int x1, .ref 28], sg_h s, 0, 0)) rfl ?_
  refine am_Pn.cvI hcl h rfl rfl rfl rfl rfl (fun x2 s2 h => ?_)
  refine am_Pn.zF h (am_bne rfl rfl) rfl rfl (fun h => ?_) (fun h => ?_)
  · refine am_Pn.bl 2 (y := (12, [some (.ref 28), some (.int x1), some (.int (Int32.ofInt (0)))], [], sg_h s2, 0, 0)) rfl ?_
    exact ((key n)) (Int32.ofInt (0)) s2 h
  · refine am_Pn.bl 1 (y := (9, [some (.ref 28), some (.int x1), none], [.int (Int32.ofInt (-1))], sg_h s2, 0, 0)) rfl ?_
    exact am_Pn.rI h rfl
def wp_XSheet_lay_52 (I52 : Int32 →  sg_S → Prop) (Ψ : sg_S → Prop) (x1 : Int32) (x2 : Int32) (x3 : Int32) (x4 : Int32) (x5 : Int32) (l6 : Int32) (s : sg_S) : Prop := ((l6.toInt < (s.1 1 2).toInt → (0 ≤ (((x1 - (Int32.ofInt (1))) * (Int32.ofInt (12))) + l6).toInt → (((x1 - (Int32.ofInt (1))) * (Int32.ofInt (12))) + l6).toInt < (588) → (am_SpI 74 [.ref 1, .int l6, .int x2] s (fun x7 s7 => (am_SpI 75 [.ref 1, .int l6, .int (s.2.2.1 34 ((((x1 - (Int32.ofInt (1))) * (Int32.ofInt (12))) + l6).toInt.toNat)), .int x7] s7 (fun x8 s8 => (0 ≤ ((x1 * (Int32.ofInt (12))) + l6).toInt → ((x1 * (Int32.ofInt (12))) + l6).toInt < (588) → (I52 (l6 + Int32.ofInt (1)) (sg_uA s8 34 (((x1 * (Int32.ofInt (12))) + l6).toInt.toNat) x8))))))))) ∧ (¬ l6.toInt < (s.1 1 2).toInt → (Ψ s)))
def wp_XSheet_lay (I52 : Int32 →  sg_S → Prop) (Ψ : sg_S → Prop) (x1 : Int32) (x2 : Int32) (x3 : Int32) (x4 : Int32) (x5 : Int32) (s : sg_S) : Prop := (am_SpI 83 [.ref 28, .int x1] s (fun x6 s6 => ((x6.toInt = (0) → (Ψ s6)) ∧ (¬ x6.toInt = (0) → (0 ≤ x1.toInt → x1.toInt < (49) → (0 ≤ (x1 * (Int32.ofInt (3))).toInt → (x1 * (Int32.ofInt (3))).toInt < (147) → (0 ≤ ((x1 * (Int32.ofInt (3))) + (Int32.ofInt (1))).toInt → ((x1 * (Int32.ofInt (3))) + (Int32.ofInt (1))).toInt < (147) → (0 ≤ ((x1 * (Int32.ofInt (3))) + (Int32.ofInt (2))).toInt → ((x1 * (Int32.ofInt (3))) + (Int32.ofInt (2))).toInt < (147) → (I52 (Int32.ofInt (0)) (sg_uA (sg_uA (sg_uA (sg_uA s6 30 (x1.toInt.toNat) x2) 32 ((x1 * (Int32.ofInt (3))).toInt.toNat) x3) 32 (((x1 * (Int32.ofInt (3))) + (Int32.ofInt (1))).toInt.toNat) x4) 32 (((x1 * (Int32.ofInt (3))) + (Int32.ofInt (2))).toInt.toNat) x5))))))))))
set_option maxRecDepth 100000 in
theorem wp_XSheet_lay_ok {I52 : Int32 →  sg_S → Prop} {Ψ : sg_S → Prop} {x1 : Int32} {x2 : Int32} {x3 : Int32} {x4 : Int32} {x5 : Int32} {s : sg_S} (k52 : ∀ (l6 : Int32) (s : sg_S), I52 l6 s → wp_XSheet_lay_52 I52 Ψ x1 x2 x3 x4 x5 l6 s) (h : wp_XSheet_lay I52 Ψ x1 x2 x3 x4 x5 s) : am_SpV 82 [.ref 28, .int x1, .int x2, .int x3, .int x4, .int x5] s Ψ := by
  refine am_SpV.mk (r := am_r82) rfl rfl (fun call d al n hcl => ?_)
  have key : ∀ n, (∀ (o7 : Option Value) (l6 : Int32) (s : sg_S), I52 l6 s → am_Pn call d (0, fun _ => 0) al am_r82 (am_PhV am_r82 Ψ) n (52, [some (.ref 28), some (.int x1), some (.int x2), some (.int x3), some (.int x4), some (.int x5), some (.int l6), o7], [], sg_h s, 0, 0)) := by
    intro n
    induction n with
    | zero => exact fun _ _ _ _ => am_Pn.zero
    | succ n ih =>
      intro o7 l6 s h
      replace h := k52 l6 s h
      unfold wp_XSheet_lay_52 at h
      refine am_Pn.bl1 1 (y := (55, [some (.ref 28), some (.int x1), some (.int x2), some (.int x3), some (.int x4), some (.int x5), some (.int l6), o7], [.ref 28, .int l6], sg_h s, 0, 0)) rfl ?_
      refine am_Pn.gr (k := 0) rfl rfl am_o28 rfl rfl ?_
      refine am_Pn.gi (k := 2) rfl rfl am_o1 rfl rfl ?_
      refine am_Pn.bF h (am_bge rfl rfl) rfl rfl (fun h => ?_) (fun h => ?_)
      · exact am_Pn.rV h rfl
      · refine am_Pn.bl 1 (y := (65, [some (.ref 28), some (.int x1), some (.int x2), some (.int x3), some (.int x4), some (.int x5), some (.int l6), o7], [.ref 28], sg_h s, 0, 0)) rfl ?_
        refine am_Pn.gr (k := 9) rfl rfl am_o28 rfl rfl ?_
        refine am_Pn.bl 7 (y := (77, [some (.ref 28), some (.int x1), some (.int x2), some (.int x3), some (.int x4), some (.int x5), some (.int l6), o7], [.int (((x1 - (Int32.ofInt (1))) * (Int32.ofInt (12))) + l6), .ref 34], sg_h s, 0, 0)) rfl ?_
        refine am_Pn.ia (a := 34) rfl rfl rfl rfl (fun hi => ?_)
        replace h := h (am_in0 hi) (am_in1 hi)
        refine am_Pn.bl 2 (y := (81, [some (.ref 28), some (.int x1), some (.int x2), some (.int x3), some (.int x4), some (.int x5), some (.int l6), some (.int (s.2.2.1 34 ((((x1 - (Int32.ofInt (1))) * (Int32.ofInt (12))) + l6).toInt.toNat)))], [.ref 28], sg_h s, 0, 0)) rfl ?_
        refine am_Pn.gr (k := 9) rfl rfl am_o28 rfl rfl ?_
        refine am_Pn.bl 6 (y := (92, [some (.ref 28), some (.int x1), some (.int x2), some (.int x3), some (.int x4), some (.int x5), some (.int l6), some (.int (s.2.2.1 34 ((((x1 - (Int32.ofInt (1))) * (Int32.ofInt (12))) + l6).toInt.toNat)))], [.ref 28, .int ((x1 * (Int32.ofInt (12))) + l6), .ref 34], sg_h s, 0, 0)) rfl ?_
        refine am_Pn.gr (k := 0) rfl rfl am_o28 rfl rfl ?_
        refine am_Pn.bl 3 (y := (100, [some (.ref 28), some (.int x1), some (.int x2), some (.int x3), some (.int x4), some (.int x5), some (.int l6), some (.int (s.2.2.1 34 ((((x1 - (Int32.ofInt (1))) * (Int32.ofInt (12))) + l6).toInt.toNat)))], [.ref 28, .int (s.2.2.1 34 ((((x1 - (Int32.ofInt (1))) * (Int32.ofInt (12))) + l6).toInt.toNat)), .int l6, .ref 1, .int ((x1 * (Int32.ofInt (12))) + l6), .ref 34], sg_h s, 0, 0)) rfl ?_
        refine am_Pn.gr (k := 0) rfl rfl am_o28 rfl rfl ?_
        refine am_Pn.bl 2 (y := (106, [some (.ref 28), some (.int x1), some (.int x2), some (.int x3), some (.int x4), some (.int x5), some (.int l6), some (.int (s.2.2.1 34 ((((x1 - (Int32.ofInt (1))) * (Int32.ofInt (12))) + l6).toInt.toNat)))], [.int x2, .int l6, .ref 1, .int (s.2.2.1 34 ((((x1 - (Int32.ofInt (1))) * (Int32.ofInt (12))) + l6).toInt.toNat)), .int l6, .ref 1, .int ((x1 * (Int32.ofInt (12))) + l6), .ref 34], sg_h s, 0, 0)) rfl ?_
        refine am_Pn.cvI hcl h rfl rfl rfl rfl rfl (fun x7 s7 h => ?_)
        refine am_Pn.cvI hcl h rfl rfl rfl rfl rfl (fun x8 s8 h => ?_)
        refine am_Pn.is (a := 34) rfl rfl rfl (fun hi => ?_)
        replace h := h (am_in0 hi) (am_in1 hi)
        refine am_Pn.bl 2 (y := (52, [some (.ref 28), some (.int x1), some (.int x2), some (.int x3), some (.int x4), some (.int x5), some (.int (l6 + Int32.ofInt (1))), some (.int (s.2.2.1 34 ((((x1 - (Int32.ofInt (1))) * (Int32.ofInt (12))) + l6).toInt.toNat)))], [], sg_h (sg_uA s8 34 (((x1 * (Int32.ofInt (12))) + l6).toInt.toNat) x8), 0, 0)) rfl ?_
        exact (ih) (some (.int (s.2.2.1 34 ((((x1 - (Int32.ofInt (1))) * (Int32.ofInt (12))) + l6).toInt.toNat)))) (l6 + Int32.ofInt (1)) (sg_uA s8 34 (((x1 * (Int32.ofInt (12))) + l6).toInt.toNat) x8) h
  unfold wp_XSheet_lay at h
  refine am_Pn.bl 2 (y := (2, [some (.ref 28), some (.int x1), some (.int x2), some (.int x3), some (.int x4), some (.int x5), none, none], [.int x1, .ref 28], sg_h s, 0, 0)) rfl ?_
  refine am_Pn.cvI hcl h rfl rfl rfl rfl rfl (fun x6 s6 h => ?_)
  refine am_Pn.zF h (am_bne rfl rfl) rfl rfl (fun h => ?_) (fun h => ?_)
  · refine am_Pn.bl 1 (y := (10, [some (.ref 28), some (.int x1), some (.int x2), some (.int x3), some (.int x4), some (.int x5), none, none], [.ref 28], sg_h s6, 0, 0)) rfl ?_
    refine am_Pn.gr (k := 5) rfl rfl am_o28 rfl rfl ?_
    refine am_Pn.bl 2 (y := (15, [some (.ref 28), some (.int x1), some (.int x2), some (.int x3), some (.int x4), some (.int x5), none, none], [.int x2, .int x1, .ref 30], sg_h s6, 0, 0)) rfl ?_
    refine am_Pn.is (a := 30) rfl rfl rfl (fun hi => ?_)
    replace h := h (am_in0 hi) (am_in1 hi)
    refine am_Pn.bl 1 (y := (17, [some (.ref 28), some (.int x1), some (.int x2), some (.int x3), some (.int x4), some (.int x5), none, none], [.ref 28], sg_h (sg_uA s6 30 (x1.toInt.toNat) x2), 0, 0)) rfl ?_
    refine am_Pn.gr (k := 7) rfl rfl am_o28 rfl rfl ?_
    refine am_Pn.bl 4 (y := (24, [some (.ref 28), some (.int x1), some (.int x2), some (.int x3), some (.int x4), some (.int x5), none, none], [.int x3, .int (x1 * (Int32.ofInt (3))), .ref 32], sg_h (sg_uA s6 30 (x1.toInt.toNat) x2), 0, 0)) rfl ?_
    refine am_Pn.is (a := 32) rfl rfl rfl (fun hi => ?_)
    replace h := h (am_in0 hi) (am_in1 hi)
    refine am_Pn.bl 1 (y := (26, [some (.ref 28), some (.int x1), some (.int x2), some (.int x3), some (.int x4), some (.int x5), none, none], [.ref 28], sg_h (sg_uA (sg_uA s6 30 (x1.toInt.toNat) x2) 32 ((x1 * (Int32.ofInt (3))).toInt.toNat) x3), 0, 0)) rfl ?_
    refine am_Pn.gr (k := 7) rfl rfl am_o28 rfl rfl ?_
    refine am_Pn.bl 6 (y := (36, [some (.ref 28), some (.int x1), some (.int x2), some (.int x3), some (.int x4), some (.int x5), none, none], [.int x4, .int ((x1 * (Int32.ofInt (3))) + (Int32.ofInt (1))), .ref 32], sg_h (sg_uA (sg_uA s6 30 (x1.toInt.toNat) x2) 32 ((x1 * (Int32.ofInt (3))).toInt.toNat) x3), 0, 0)) rfl ?_
    refine am_Pn.is (a := 32) rfl rfl rfl (fun hi => ?_)
    replace h := h (am_in0 hi) (am_in1 hi)
    refine am_Pn.bl 1 (y := (38, [some (.ref 28), some (.int x1), some (.int x2), some (.int x3), some (.int x4), some (.int x5), none, none], [.ref 28], sg_h (sg_uA (sg_uA (sg_uA s6 30 (x1.toInt.toNat) x2) 32 ((x1 * (Int32.ofInt (3))).toInt.toNat) x3) 32 (((x1 * (Int32.ofInt (3))) + (Int32.ofInt (1))).toInt.toNat) x4), 0, 0)) rfl ?_
    refine am_Pn.gr (k := 7) rfl rfl am_o28 rfl rfl ?_
    refine am_Pn.bl 6 (y := (48, [some (.ref 28), some (.int x1), some (.int x2), some (.int x3), some (.int x4), some (.int x5), none, none], [.int x5, .int ((x1 * (Int32.ofInt (3))) + (Int32.ofInt (2))), .ref 32], sg_h (sg_uA (sg_uA (sg_uA s6 30 (x1.toInt.toNat) x2) 32 ((x1 * (Int32.ofInt (3))).toInt.toNat) x3) 32 (((x1 * (Int32.ofInt (3))) + (Int32.ofInt (1))).toInt.toNat) x4), 0, 0)) rfl ?_
    refine am_Pn.is (a := 32) rfl rfl rfl (fun hi => ?_)
    replace h := h (am_in0 hi) (am_in1 hi)
    refine am_Pn.bl 2 (y := (52, [some (.ref 28), some (.int x1), some (.int x2), some (.int x3), some (.int x4), some (.int x5), some (.int (Int32.ofInt (0))), none], [], sg_h (sg_uA (sg_uA (sg_uA (sg_uA s6 30 (x1.toInt.toNat) x2) 32 ((x1 * (Int32.ofInt (3))).toInt.toNat) x3) 32 (((x1 * (Int32.ofInt (3))) + (Int32.ofInt (1))).toInt.toNat) x4) 32 (((x1 * (Int32.ofInt (3))) + (Int32.ofInt (2))).toInt.toNat) x5), 0, 0)) rfl ?_
    exact ((key n)) none (Int32.ofInt (0)) (sg_uA (sg_uA (sg_uA (sg_uA s6 30 (x1.toInt.toNat) x2) 32 ((x1 * (Int32.ofInt (3))).toInt.toNat) x3) 32 (((x1 * (Int32.ofInt (3))) + (Int32.ofInt (1))).toInt.toNat) x4) 32 (((x1 * (Int32.ofInt (3))) + (Int32.ofInt (2))).toInt.toNat) x5) h
  · exact am_Pn.rV h rfl
def wp_XSheet_keepNext (Ψ : sg_S → Prop) (x1 : Int32) (x2 : Int32) (s : sg_S) : Prop := (((s.1 28 2).toInt < (s.1 1 3).toInt → (0 ≤ ((s.1 28 2) + (Int32.ofInt (1))).toInt → ((s.1 28 2) + (Int32.ofInt (1))).toInt < (49) → (Ψ (sg_uA (sg_uA (sg_uI s 28 2 ((s.1 28 2) + (Int32.ofInt (1)))) 29 (((s.1 28 2) + (Int32.ofInt (1))).toInt.toNat) x1) 31 (((s.1 28 2) + (Int32.ofInt (1))).toInt.toNat) x2)))) ∧ (¬ (s.1 28 2).toInt < (s.1 1 3).toInt → (Ψ s)))
set_option maxRecDepth 100000 in
theorem wp_XSheet_keepNext_ok {Ψ : sg_S → Prop} {x1 : Int32} {x2 : Int32} {s : sg_S} (h : wp_XSheet_keepNext Ψ x1 x2 s) : am_SpV 88 [.ref 28, .int x1, .int x2] s Ψ := by
  refine am_SpV.mk (r := am_r88) rfl rfl (fun call d al n hcl => ?_)
  unfold wp_XSheet_keepNext at h
  refine am_Pn.bl 1 (y := (1, [some (.ref 28), some (.int x1), some (.int x2)], [.ref 28], sg_h s, 0, 0)) rfl ?_
  refine am_Pn.gi (k := 2) rfl rfl am_o28 rfl rfl ?_
  refine am_Pn.bl 1 (y := (5, [some (.ref 28), some (.int x1), some (.int x2)], [.ref 28, .int (s.1 28 2)], sg_h s, 0, 0)) rfl ?_
  refine am_Pn.gr (k := 0) rfl rfl am_o28 rfl rfl ?_
  refine am_Pn.gi (k := 3) rfl rfl am_o1 rfl rfl ?_
  refine am_Pn.bT h (am_blt rfl rfl) rfl rfl (fun h => ?_) (fun h => ?_)
  · refine am_Pn.bl 2 (y := (17, [some (.ref 28), some (.int x1), some (.int x2)], [.ref 28, .ref 28], sg_h s, 0, 0)) rfl ?_
    refine am_Pn.gi (k := 2) rfl rfl am_o28 rfl rfl ?_
    refine am_Pn.bl 2 (y := (22, [some (.ref 28), some (.int x1), some (.int x2)], [.int ((s.1 28 2) + (Int32.ofInt (1))), .ref 28], sg_h s, 0, 0)) rfl ?_
    refine am_Pn.pi (k := 2) rfl rfl am_o28 rfl rfl ?_
    refine am_Pn.bl 1 (y := (26, [some (.ref 28), some (.int x1), some (.int x2)], [.ref 28], sg_h (sg_uI s 28 2 ((s.1 28 2) + (Int32.ofInt (1)))), 0, 0)) rfl ?_
    refine am_Pn.gr (k := 4) rfl rfl am_o28 rfl rfl ?_
    refine am_Pn.bl 1 (y := (30, [some (.ref 28), some (.int x1), some (.int x2)], [.ref 28, .ref 29], sg_h (sg_uI s 28 2 ((s.1 28 2) + (Int32.ofInt (1)))), 0, 0)) rfl ?_
    refine am_Pn.gi (k := 2) rfl rfl am_o28 rfl rfl ?_
    refine am_Pn.bl 1 (y := (34, [some (.ref 28), some (.int x1), some (.int x2)], [.int x1, .int ((s.1 28 2) + (Int32.ofInt (1))), .ref 29], sg_h (sg_uI s 28 2 ((s.1 28 2) + (Int32.ofInt (1)))), 0, 0)) rfl ?_
    refine am_Pn.is (a := 29) rfl rfl rfl (fun hi => ?_)
    replace h := h (am_in0 hi) (am_in1 hi)
    refine am_Pn.bl 1 (y := (36, [some (.ref 28), some (.int x1), some (.int x2)], [.ref 28], sg_h (sg_uA (sg_uI s 28 2 ((s.1 28 2) + (Int32.ofInt (1)))) 29 (((s.1 28 2) + (Int32.ofInt (1))).toInt.toNat) x1), 0, 0)) rfl ?_
    refine am_Pn.gr (k := 6) rfl rfl am_o28 rfl rfl ?_
    refine am_Pn.bl 1 (y := (40, [some (.ref 28), some (.int x1), some (.int x2)], [.ref 28, .ref 31], sg_h (sg_uA (sg_uI s 28 2 ((s.1 28 2) + (Int32.ofInt (1)))) 29 (((s.1 28 2) + (Int32.ofInt (1))).toInt.toNat) x1), 0, 0)) rfl ?_
    refine am_Pn.gi (k := 2) rfl rfl am_o28 rfl rfl ?_
    refine am_Pn.bl 1 (y := (44, [some (.ref 28), some (.int x1), some (.int x2)], [.int x2, .int ((s.1 28 2) + (Int32.ofInt (1))), .ref 31], sg_h (sg_uA (sg_uI s 28 2 ((s.1 28 2) + (Int32.ofInt (1)))) 29 (((s.1 28 2) + (Int32.ofInt (1))).toInt.toNat) x1), 0, 0)) rfl ?_
    refine am_Pn.is (a := 31) rfl rfl rfl (fun hi => ?_)
    exact am_Pn.rV h rfl
  · exact am_Pn.rV h rfl
def wp_XSheet_wear (Ψ : Int32 → sg_S → Prop) (x1 : Int32) (x2 : Int32) (s : sg_S) : Prop := (0 ≤ x1.toInt → x1.toInt < (49) → (((s.2.2.1 33 (x1.toInt.toNat)).toInt = x2.toInt → (Ψ (Int32.ofInt (0)) s)) ∧ (¬ (s.2.2.1 33 (x1.toInt.toNat)).toInt = x2.toInt → ((x2.toInt = (0) → (Ψ (Int32.ofInt (1)) (sg_uI (sg_uA s 33 (x1.toInt.toNat) (vp_nar .boolean x2)) 28 3 ((s.1 28 3) + (Int32.ofInt (-1)))))) ∧ (¬ x2.toInt = (0) → (Ψ (Int32.ofInt (1)) (sg_uI (sg_uA s 33 (x1.toInt.toNat) (vp_nar .boolean x2)) 28 3 ((s.1 28 3) + (Int32.ofInt (1))))))))))
set_option maxRecDepth 100000 in
theorem wp_XSheet_wear_ok {Ψ : Int32 → sg_S → Prop} {x1 : Int32} {x2 : Int32} {s : sg_S} (h : wp_XSheet_wear Ψ x1 x2 s) : am_SpI 90 [.ref 28, .int x1, .int x2] s Ψ := by
  refine am_SpI.mk (r := am_r90) rfl rfl (fun call d al n hcl => ?_)
  unfold wp_XSheet_wear at h
  refine am_Pn.bl 1 (y := (1, [some (.ref 28), some (.int x1), some (.int x2)], [.ref 28], sg_h s, 0, 0)) rfl ?_
  refine am_Pn.gr (k := 8) rfl rfl am_o28 rfl rfl ?_
  refine am_Pn.bl 1 (y := (5, [some (.ref 28), some (.int x1), some (.int x2)], [.int x1, .ref 33], sg_h s, 0, 0)) rfl ?_
  refine am_Pn.ba (a := 33) rfl rfl rfl rfl (fun hi => ?_)
  replace h := h (am_in0 hi) (am_in1 hi)
  refine am_Pn.bl 1 (y := (7, [some (.ref 28), some (.int x1), some (.int x2)], [.int x2, .int (s.2.2.1 33 (x1.toInt.toNat))], sg_h s, 0, 0)) rfl ?_
  refine am_Pn.bF h (am_bne rfl rfl) rfl rfl (fun h => ?_) (fun h => ?_)
  · refine am_Pn.bl 1 (y := (13, [some (.ref 28), some (.int x1), some (.int x2)], [.ref 28], sg_h s, 0, 0)) rfl ?_
    refine am_Pn.gr (k := 8) rfl rfl am_o28 rfl rfl ?_
    refine am_Pn.bl 2 (y := (18, [some (.ref 28), some (.int x1), some (.int x2)], [.int x2, .int x1, .ref 33], sg_h s, 0, 0)) rfl ?_
    refine am_Pn.bs (a := 33) rfl rfl rfl (fun hi => ?_)
    refine am_Pn.bl 2 (y := (21, [some (.ref 28), some (.int x1), some (.int x2)], [.ref 28, .ref 28], sg_h (sg_uA s 33 (x1.toInt.toNat) (vp_nar .boolean x2)), 0, 0)) rfl ?_
    refine am_Pn.gi (k := 3) rfl rfl am_o28 rfl rfl ?_
    refine am_Pn.bl 1 (y := (25, [some (.ref 28), some (.int x1), some (.int x2)], [.int x2, .int (s.1 28 3), .ref 28], sg_h (sg_uA s 33 (x1.toInt.toNat) (vp_nar .boolean x2)), 0, 0)) rfl ?_
    refine am_Pn.zT h (am_beq rfl rfl) rfl rfl (fun h => ?_) (fun h => ?_)
    · refine am_Pn.bl 2 (y := (34, [some (.ref 28), some (.int x1), some (.int x2)], [.int ((s.1 28 3) + (Int32.ofInt (-1))), .ref 28], sg_h (sg_uA s 33 (x1.toInt.toNat) (vp_nar .boolean x2)), 0, 0)) rfl ?_
      refine am_Pn.pi (k := 3) rfl rfl am_o28 rfl rfl ?_
      refine am_Pn.bl 1 (y := (38, [some (.ref 28), some (.int x1), some (.int x2)], [.int (Int32.ofInt (1))], sg_h (sg_uI (sg_uA s 33 (x1.toInt.toNat) (vp_nar .boolean x2)) 28 3 ((s.1 28 3) + (Int32.ofInt (-1)))), 0, 0)) rfl ?_
      exact am_Pn.rI h rfl
    · refine am_Pn.bl 3 (y := (34, [some (.ref 28), some (.int x1), some (.int x2)], [.int ((s.1 28 3) + (Int32.ofInt (1))), .ref 28], sg_h (sg_uA s 33 (x1.toInt.toNat) (vp_nar .boolean x2)), 0, 0)) rfl ?_
      refine am_Pn.pi (k := 3) rfl rfl am_o28 rfl rfl ?_
      refine am_Pn.bl 1 (y := (38, [some (.ref 28), some (.int x1), some (.int x2)], [.int (Int32.ofInt (1))], sg_h (sg_uI (sg_uA s 33 (x1.toInt.toNat) (vp_nar .boolean x2)) 28 3 ((s.1 28 3) + (Int32.ofInt (1)))), 0, 0)) rfl ?_
      exact am_Pn.rI h rfl
  · refine am_Pn.bl 1 (y := (11, [some (.ref 28), some (.int x1), some (.int x2)], [.int (Int32.ofInt (0))], sg_h s, 0, 0)) rfl ?_
    exact am_Pn.rI h rfl
def wp_XSheet_dropLast (Ψ : sg_S → Prop) (s : sg_S) : Prop := (am_SpI 90 [.ref 28, .int (s.1 28 2), .int (Int32.ofInt (0))] s (fun x1 s1 => (Ψ (sg_uI s1 28 2 ((s1.1 28 2) - (Int32.ofInt (1)))))))
set_option maxRecDepth 100000 in
theorem wp_XSheet_dropLast_ok {Ψ : sg_S → Prop} {s : sg_S} (h : wp_XSheet_dropLast Ψ  s) : am_SpV 89 [.ref 28] s Ψ := by
  refine am_SpV.mk (r := am_r89) rfl rfl (fun call d al n hcl => ?_)
  unfold wp_XSheet_dropLast at h
  refine am_Pn.bl 2 (y := (2, [some (.ref 28)], [.ref 28, .ref 28], sg_h s, 0, 0)) rfl ?_
  refine am_Pn.gi (k := 2) rfl rfl am_o28 rfl rfl ?_
  refine am_Pn.bl 1 (y := (6, [some (.ref 28)], [.int (Int32.ofInt (0)), .int (s.1 28 2), .ref 28], sg_h s, 0, 0)) rfl ?_
  refine am_Pn.cvI hcl h rfl rfl rfl rfl rfl (fun x1 s1 h => ?_)
  refine am_Pn.bl 3 (y := (12, [some (.ref 28)], [.ref 28, .ref 28], sg_h s1, 0, 0)) rfl ?_
  refine am_Pn.gi (k := 2) rfl rfl am_o28 rfl rfl ?_
  refine am_Pn.bl 2 (y := (17, [some (.ref 28)], [.int ((s1.1 28 2) - (Int32.ofInt (1))), .ref 28], sg_h s1, 0, 0)) rfl ?_
  refine am_Pn.pi (k := 2) rfl rfl am_o28 rfl rfl ?_
  exact am_Pn.rV h rfl
def wp_XSheet_howManyHave_4 (I4 : Int32 → Int32 →  sg_S → Prop) (Ψ : Int32 → sg_S → Prop) (x1 : Int32) (l2 : Int32) (l3 : Int32) (s : sg_S) : Prop := (((s.1 28 2).toInt < l3.toInt → (Ψ l2 s)) ∧ (¬ (s.1 28 2).toInt < l3.toInt → (0 ≤ l3.toInt → l3.toInt < (49) → ((((s.2.2.1 30 (l3.toInt.toNat)) &&& x1).toInt = (0) → (I4 l2 (l3 + Int32.ofInt (1)) s)) ∧ (¬ ((s.2.2.1 30 (l3.toInt.toNat)) &&& x1).toInt = (0) → (I4 (l2 + Int32.ofInt (1)) (l3 + Int32.ofInt (1)) s))))))
def wp_XSheet_howManyHave (I4 : Int32 → Int32 →  sg_S → Prop) (Ψ : Int32 → sg_S → Prop) (x1 : Int32) (s : sg_S) : Prop := (I4 (Int32.ofInt (0)) (Int32.ofInt (1)) s)
set_option maxRecDepth 100000 in
theorem wp_XSheet_howManyHave_ok {I4 : Int32 → Int32 →  sg_S → Prop} {Ψ : Int32 → sg_S → Prop} {x1 : Int32} {s : sg_S} (k4 : ∀ (l2 : Int32) (l3 : Int32) (s : sg_S), I4 l2 l3 s → wp_XSheet_howManyHave_4 I4 Ψ x1 l2 l3 s) (h : wp_XSheet_howManyHave I4 Ψ x1 s) : am_SpI 94 [.ref 28, .int x1] s Ψ := by
  refine am_SpI.mk (r := am_r94) rfl rfl (fun call d al n hcl => ?_)
  have key : ∀ n, (∀ (l2 : Int32) (l3 : Int32) (s : sg_S), I4 l2 l3 s → am_Pn call d (0, fun _ => 0) al am_r94 (am_PhI am_r94 Ψ) n (4, [some (.ref 28), some (.int x1), some (.int l2), some (.int l3)], [], sg_h s, 0, 0)) := by
    intro n
    induction n with
    | zero => exact fun _ _ _ _ => am_Pn.zero
    | succ n ih =>
      intro l2 l3 s h
      replace h := k4 l2 l3 s h
      unfold wp_XSheet_howManyHave_4 at h
      refine am_Pn.bl1 1 (y := (6, [some (.ref 28), some (.int x1), some (.int l2), some (.int l3)], [.ref 28, .int l3], sg_h s, 0, 0)) rfl ?_
      refine am_Pn.gi (k := 2) rfl rfl am_o28 rfl rfl ?_
      refine am_Pn.bT h (am_bgt rfl rfl) rfl rfl (fun h => ?_) (fun h => ?_)
      · refine am_Pn.bl 1 (y := (33, [some (.ref 28), some (.int x1), some (.int l2), some (.int l3)], [.int l2], sg_h s, 0, 0)) rfl ?_
        exact am_Pn.rI h rfl
      · refine am_Pn.bl 1 (y := (13, [some (.ref 28), some (.int x1), some (.int l2), some (.int l3)], [.ref 28], sg_h s, 0, 0)) rfl ?_
        refine am_Pn.gr (k := 5) rfl rfl am_o28 rfl rfl ?_
        refine am_Pn.bl 1 (y := (17, [some (.ref 28), some (.int x1), some (.int l2), some (.int l3)], [.int l3, .ref 30], sg_h s, 0, 0)) rfl ?_
        refine am_Pn.ia (a := 30) rfl rfl rfl rfl (fun hi => ?_)
        replace h := h (am_in0 hi) (am_in1 hi)
        refine am_Pn.bl 2 (y := (20, [some (.ref 28), some (.int x1), some (.int l2), some (.int l3)], [.int ((s.2.2.1 30 (l3.toInt.toNat)) &&& x1)], sg_h s, 0, 0)) rfl ?_
        refine am_Pn.zT h (am_beq rfl rfl) rfl rfl (fun h => ?_) (fun h => ?_)
        · refine am_Pn.bl 2 (y := (4, [some (.ref 28), some (.int x1), some (.int l2), some (.int (l3 + Int32.ofInt (1)))], [], sg_h s, 0, 0)) rfl ?_
          exact (ih) l2 (l3 + Int32.ofInt (1)) s h
        · refine am_Pn.bl 3 (y := (4, [some (.ref 28), some (.int x1), some (.int (l2 + Int32.ofInt (1))), some (.int (l3 + Int32.ofInt (1)))], [], sg_h s, 0, 0)) rfl ?_
          exact (ih) (l2 + Int32.ofInt (1)) (l3 + Int32.ofInt (1)) s h
  unfold wp_XSheet_howManyHave at h
  refine am_Pn.bl 4 (y := (4, [some (.ref 28), some (.int x1), some (.int (Int32.ofInt (0))), some (.int (Int32.ofInt (1)))], [], sg_h s, 0, 0)) rfl ?_
  exact ((key n)) (Int32.ofInt (0)) (Int32.ofInt (1)) s h
def wp_XSheet_isLinked (Ψ : Int32 → sg_S → Prop) (x1 : Int32) (x2 : Int32) (s : sg_S) : Prop := ((x2.toInt < x1.toInt → (0 ≤ (x1 - x2).toInt → (x1 - x2).toInt < (49) → (0 ≤ x1.toInt → x1.toInt < (49) → (am_SpI 116 [.ref 22, .int (s.2.2.1 30 ((x1 - x2).toInt.toNat)), .int (s.2.2.1 30 (x1.toInt.toNat))] s (fun x3 s3 => ((x3.toInt = (0) → (Ψ (Int32.ofInt (0)) s3)) ∧ (¬ x3.toInt = (0) → (Ψ (Int32.ofInt (1)) s3)))))))) ∧ (¬ x2.toInt < x1.toInt → (Ψ (Int32.ofInt (0)) s)))
set_option maxRecDepth 100000 in
theorem wp_XSheet_isLinked_ok {Ψ : Int32 → sg_S → Prop} {x1 : Int32} {x2 : Int32} {s : sg_S} (h : wp_XSheet_isLinked Ψ x1 x2 s) : am_SpI 93 [.ref 28, .int x1, .int x2] s Ψ := by
  refine am_SpI.mk (r := am_r93) rfl rfl (fun call d al n hcl => ?_)
  unfold wp_XSheet_isLinked at h
  refine am_Pn.bl 2 (y := (2, [some (.ref 28), some (.int x1), some (.int x2)], [.int x2, .int x1], sg_h s, 0, 0)) rfl ?_
  refine am_Pn.bF h (am_ble rfl rfl) rfl rfl (fun h => ?_) (fun h => ?_)
  · refine am_Pn.bl 1 (y := (34, [some (.ref 28), some (.int x1), some (.int x2)], [.int (Int32.ofInt (0))], sg_h s, 0, 0)) rfl ?_
    exact am_Pn.rI h rfl
  · refine am_Pn.bl 1 (y := (6, [some (.ref 28), some (.int x1), some (.int x2)], [.ref 28], sg_h s, 0, 0)) rfl ?_
    refine am_Pn.gr (k := 1) rfl rfl am_o28 rfl rfl ?_
    refine am_Pn.bl 1 (y := (10, [some (.ref 28), some (.int x1), some (.int x2)], [.ref 28, .ref 22], sg_h s, 0, 0)) rfl ?_
    refine am_Pn.gr (k := 5) rfl rfl am_o28 rfl rfl ?_
    refine am_Pn.bl 3 (y := (16, [some (.ref 28), some (.int x1), some (.int x2)], [.int (x1 - x2), .ref 30, .ref 22], sg_h s, 0, 0)) rfl ?_
    refine am_Pn.ia (a := 30) rfl rfl rfl rfl (fun hi => ?_)
    replace h := h (am_in0 hi) (am_in1 hi)
    refine am_Pn.bl 1 (y := (18, [some (.ref 28), some (.int x1), some (.int x2)], [.ref 28, .int (s.2.2.1 30 ((x1 - x2).toInt.toNat)), .ref 22], sg_h s, 0, 0)) rfl ?_
    refine am_Pn.gr (k := 5) rfl rfl am_o28 rfl rfl ?_
    refine am_Pn.bl 1 (y := (22, [some (.ref 28), some (.int x1), some (.int x2)], [.int x1, .ref 30, .int (s.2.2.1 30 ((x1 - x2).toInt.toNat)), .ref 22], sg_h s, 0, 0)) rfl ?_
    refine am_Pn.ia (a := 30) rfl rfl rfl rfl (fun hi => ?_)
    replace h := h (am_in0 hi) (am_in1 hi)
    refine am_Pn.cvI hcl h rfl rfl rfl rfl rfl (fun x3 s3 h => ?_)
    refine am_Pn.zT h (am_beq rfl rfl) rfl rfl (fun h => ?_) (fun h => ?_)
    · refine am_Pn.bl 1 (y := (34, [some (.ref 28), some (.int x1), some (.int x2)], [.int (Int32.ofInt (0))], sg_h s3, 0, 0)) rfl ?_
      exact am_Pn.rI h rfl
    · refine am_Pn.bl 2 (y := (34, [some (.ref 28), some (.int x1), some (.int x2)], [.int (Int32.ofInt (1))], sg_h s3, 0, 0)) rfl ?_
      exact am_Pn.rI h rfl
def wp_XSheet_partOf (Ψ : Int32 → sg_S → Prop) (x1 : Int32) (x2 : Int32) (s : sg_S) : Prop := ((x2.toInt = (0) → (0 ≤ x1.toInt → x1.toInt < (49) → (Ψ (s.2.2.1 29 (x1.toInt.toNat)) s))) ∧ (x2.toInt = (1) → (0 ≤ x1.toInt → x1.toInt < (49) → (Ψ (s.2.2.1 30 (x1.toInt.toNat)) s))) ∧ (x2.toInt = (2) → (0 ≤ (((x1 * (Int32.ofInt (3))) + x2) - (Int32.ofInt (2))).toInt → (((x1 * (Int32.ofInt (3))) + x2) - (Int32.ofInt (2))).toInt < (147) → (Ψ (s.2.2.1 32 ((((x1 * (Int32.ofInt (3))) + x2) - (Int32.ofInt (2))).toInt.toNat)) s))) ∧ (x2.toInt = (3) → (0 ≤ (((x1 * (Int32.ofInt (3))) + x2) - (Int32.ofInt (2))).toInt → (((x1 * (Int32.ofInt (3))) + x2) - (Int32.ofInt (2))).toInt < (147) → (Ψ (s.2.2.1 32 ((((x1 * (Int32.ofInt (3))) + x2) - (Int32.ofInt (2))).toInt.toNat)) s))) ∧ (x2.toInt = (4) → (0 ≤ (((x1 * (Int32.ofInt (3))) + x2) - (Int32.ofInt (2))).toInt → (((x1 * (Int32.ofInt (3))) + x2) - (Int32.ofInt (2))).toInt < (147) → (Ψ (s.2.2.1 32 ((((x1 * (Int32.ofInt (3))) + x2) - (Int32.ofInt (2))).toInt.toNat)) s))) ∧ (x2.toInt = (5) → (0 ≤ x1.toInt → x1.toInt < (49) → (((s.2.2.1 33 (x1.toInt.toNat)).toInt = (0) → (Ψ (Int32.ofInt (0)) s)) ∧ (¬ (s.2.2.1 33 (x1.toInt.toNat)).toInt = (0) → (Ψ (Int32.ofInt (1)) s))))) ∧ (x2.toInt = (6) → (0 ≤ x1.toInt → x1.toInt < (49) → (Ψ (s.2.2.1 31 (x1.toInt.toNat)) s))) ∧ (x2.toInt = (7) → (am_SpI 93 [.ref 28, .int x1, .int (Int32.ofInt (1))] s (fun x11 s11 => ((x11.toInt = (0) → (Ψ (Int32.ofInt (0)) s11)) ∧ (¬ x11.toInt = (0) → (Ψ (Int32.ofInt (1)) s11)))))) ∧ (x2.toInt = (8) → (am_SpI 93 [.ref 28, .int x1, .int (Int32.ofInt (2))] s (fun x13 s13 => ((x13.toInt = (0) → (Ψ (Int32.ofInt (0)) s13)) ∧ (¬ x13.toInt = (0) → (Ψ (Int32.ofInt (1)) s13)))))) ∧ ((x2.toInt < (0) ∨ (8) < x2.toInt) → (Ψ (Int32.ofInt (-1)) s)))
set_option maxRecDepth 100000 in
theorem wp_XSheet_partOf_ok {Ψ : Int32 → sg_S → Prop} {x1 : Int32} {x2 : Int32} {s : sg_S} (h : wp_XSheet_partOf Ψ x1 x2 s) : am_SpI 92 [.ref 28, .int x1, .int x2] s Ψ := by
  refine am_SpI.mk (r := am_r92) rfl rfl (fun call d al n hcl => ?_)
  unfold wp_XSheet_partOf at h
  refine am_Pn.bl 1 (y := (1, [some (.ref 28), some (.int x1), some (.int x2)], [.int x2], sg_h s, 0, 0)) rfl ?_
  by_cases hs3 : x2.toInt = (0)
  · replace h := h.1 hs3
    refine am_Pn.tj (lo := 0) 0 (hs3.trans (by decide)) rfl rfl rfl rfl ?_
    refine am_Pn.bl 1 (y := (53, [some (.ref 28), some (.int x1), some (.int x2)], [.ref 28], sg_h s, 0, 0)) rfl ?_
    refine am_Pn.gr (k := 4) rfl rfl am_o28 rfl rfl ?_
    refine am_Pn.bl 1 (y := (57, [some (.ref 28), some (.int x1), some (.int x2)], [.int x1, .ref 29], sg_h s, 0, 0)) rfl ?_
    refine am_Pn.ia (a := 29) rfl rfl rfl rfl (fun hi => ?_)
    replace h := h (am_in0 hi) (am_in1 hi)
    exact am_Pn.rI h rfl
  replace h := h.2
  by_cases hs4 : x2.toInt = (1)
  · replace h := h.1 hs4
    refine am_Pn.tj (lo := 0) 1 (hs4.trans (by decide)) rfl rfl rfl rfl ?_
    refine am_Pn.bl 1 (y := (60, [some (.ref 28), some (.int x1), some (.int x2)], [.ref 28], sg_h s, 0, 0)) rfl ?_
    refine am_Pn.gr (k := 5) rfl rfl am_o28 rfl rfl ?_
    refine am_Pn.bl 1 (y := (64, [some (.ref 28), some (.int x1), some (.int x2)], [.int x1, .ref 30], sg_h s, 0, 0)) rfl ?_
    refine am_Pn.ia (a := 30) rfl rfl rfl rfl (fun hi => ?_)
    replace h := h (am_in0 hi) (am_in1 hi)
    exact am_Pn.rI h rfl
  replace h := h.2
  by_cases hs5 : x2.toInt = (2)
  · replace h := h.1 hs5
    refine am_Pn.tj (lo := 0) 2 (hs5.trans (by decide)) rfl rfl rfl rfl ?_
    refine am_Pn.bl 1 (y := (67, [some (.ref 28), some (.int x1), some (.int x2)], [.ref 28], sg_h s, 0, 0)) rfl ?_
    refine am_Pn.gr (k := 7) rfl rfl am_o28 rfl rfl ?_
    refine am_Pn.bl 7 (y := (77, [some (.ref 28), some (.int x1), some (.int x2)], [.int (((x1 * (Int32.ofInt (3))) + x2) - (Int32.ofInt (2))), .ref 32], sg_h s, 0, 0)) rfl ?_
    refine am_Pn.ia (a := 32) rfl rfl rfl rfl (fun hi => ?_)
    replace h := h (am_in0 hi) (am_in1 hi)
    exact am_Pn.rI h rfl
  replace h := h.2
  by_cases hs6 : x2.toInt = (3)
  · replace h := h.1 hs6
    refine am_Pn.tj (lo := 0) 3 (hs6.trans (by decide)) rfl rfl rfl rfl ?_
    refine am_Pn.bl 1 (y := (67, [some (.ref 28), some (.int x1), some (.int x2)], [.ref 28], sg_h s, 0, 0)) rfl ?_
    refine am_Pn.gr (k := 7) rfl rfl am_o28 rfl rfl ?_
    refine am_Pn.bl 7 (y := (77, [some (.ref 28), some (.int x1), some (.int x2)], [.int (((x1 * (Int32.ofInt (3))) + x2) - (Int32.ofInt (2))), .ref 32], sg_h s, 0, 0)) rfl ?_
    refine am_Pn.ia (a := 32) rfl rfl rfl rfl (fun hi => ?_)
    replace h := h (am_in0 hi) (am_in1 hi)
    exact am_Pn.rI h rfl
  replace h := h.2
  by_cases hs7 : x2.toInt = (4)
  · replace h := h.1 hs7
    refine am_Pn.tj (lo := 0) 4 (hs7.trans (by decide)) rfl rfl rfl rfl ?_
    refine am_Pn.bl 1 (y := (67, [some (.ref 28), some (.int x1), some (.int x2)], [.ref 28], sg_h s, 0, 0)) rfl ?_
    refine am_Pn.gr (k := 7) rfl rfl am_o28 rfl rfl ?_
    refine am_Pn.bl 7 (y := (77, [some (.ref 28), some (.int x1), some (.int x2)], [.int (((x1 * (Int32.ofInt (3))) + x2) - (Int32.ofInt (2))), .ref 32], sg_h s, 0, 0)) rfl ?_
    refine am_Pn.ia (a := 32) rfl rfl rfl rfl (fun hi => ?_)
    replace h := h (am_in0 hi) (am_in1 hi)
    exact am_Pn.rI h rfl
  replace h := h.2
  by_cases hs8 : x2.toInt = (5)
  · replace h := h.1 hs8
    refine am_Pn.tj (lo := 0) 5 (hs8.trans (by decide)) rfl rfl rfl rfl ?_
    refine am_Pn.bl 1 (y := (80, [some (.ref 28), some (.int x1), some (.int x2)], [.ref 28], sg_h s, 0, 0)) rfl ?_
    refine am_Pn.gr (k := 8) rfl rfl am_o28 rfl rfl ?_
    refine am_Pn.bl 1 (y := (84, [some (.ref 28), some (.int x1), some (.int x2)], [.int x1, .ref 33], sg_h s, 0, 0)) rfl ?_
    refine am_Pn.ba (a := 33) rfl rfl rfl rfl (fun hi => ?_)
    replace h := h (am_in0 hi) (am_in1 hi)
    refine am_Pn.zT h (am_beq rfl rfl) rfl rfl (fun h => ?_) (fun h => ?_)
    · refine am_Pn.bl 1 (y := (93, [some (.ref 28), some (.int x1), some (.int x2)], [.int (Int32.ofInt (0))], sg_h s, 0, 0)) rfl ?_
      exact am_Pn.rI h rfl
    · refine am_Pn.bl 2 (y := (93, [some (.ref 28), some (.int x1), some (.int x2)], [.int (Int32.ofInt (1))], sg_h s, 0, 0)) rfl ?_
      exact am_Pn.rI h rfl
  replace h := h.2
  by_cases hs9 : x2.toInt = (6)
  · replace h := h.1 hs9
    refine am_Pn.tj (lo := 0) 6 (hs9.trans (by decide)) rfl rfl rfl rfl ?_
    refine am_Pn.bl 1 (y := (95, [some (.ref 28), some (.int x1), some (.int x2)], [.ref 28], sg_h s, 0, 0)) rfl ?_
    refine am_Pn.gr (k := 6) rfl rfl am_o28 rfl rfl ?_
    refine am_Pn.bl 1 (y := (99, [some (.ref 28), some (.int x1), some (.int x2)], [.int x1, .ref 31], sg_h s, 0, 0)) rfl ?_
    refine am_Pn.ia (a := 31) rfl rfl rfl rfl (fun hi => ?_)
    replace h := h (am_in0 hi) (am_in1 hi)
    exact am_Pn.rI h rfl
  replace h := h.2
  by_cases hs10 : x2.toInt = (7)
  · replace h := h.1 hs10
    refine am_Pn.tj (lo := 0) 7 (hs10.trans (by decide)) rfl rfl rfl rfl ?_
    refine am_Pn.bl 3 (y := (104, [some (.ref 28), some (.int x1), some (.int x2)], [.int (Int32.ofInt (1)), .int x1, .ref 28], sg_h s, 0, 0)) rfl ?_
    refine am_Pn.cvI hcl h rfl rfl rfl rfl rfl (fun x11 s11 h => ?_)
    refine am_Pn.zT h (am_beq rfl rfl) rfl rfl (fun h => ?_) (fun h => ?_)
    · refine am_Pn.bl 1 (y := (115, [some (.ref 28), some (.int x1), some (.int x2)], [.int (Int32.ofInt (0))], sg_h s11, 0, 0)) rfl ?_
      exact am_Pn.rI h rfl
    · refine am_Pn.bl 2 (y := (115, [some (.ref 28), some (.int x1), some (.int x2)], [.int (Int32.ofInt (1))], sg_h s11, 0, 0)) rfl ?_
      exact am_Pn.rI h rfl
  replace h := h.2
  by_cases hs12 : x2.toInt = (8)
  · replace h := h.1 hs12
    refine am_Pn.tj (lo := 0) 8 (hs12.trans (by decide)) rfl rfl rfl rfl ?_
    refine am_Pn.bl 3 (y := (119, [some (.ref 28), some (.int x1), some (.int x2)], [.int (Int32.ofInt (2)), .int x1, .ref 28], sg_h s, 0, 0)) rfl ?_
    refine am_Pn.cvI hcl h rfl rfl rfl rfl rfl (fun x13 s13 h => ?_)
    refine am_Pn.zT h (am_beq rfl rfl) rfl rfl (fun h => ?_) (fun h => ?_)
    · refine am_Pn.bl 1 (y := (130, [some (.ref 28), some (.int x1), some (.int x2)], [.int (Int32.ofInt (0))], sg_h s13, 0, 0)) rfl ?_
      exact am_Pn.rI h rfl
    · refine am_Pn.bl 2 (y := (130, [some (.ref 28), some (.int x1), some (.int x2)], [.int (Int32.ofInt (1))], sg_h s13, 0, 0)) rfl ?_
      exact am_Pn.rI h rfl
  replace h := h.2
  have hsd14 : x2.toInt < (0) ∨ (8) < x2.toInt := by omega
  refine am_Pn.td (lo := 0) (hi := 8) hsd14 rfl rfl ?_
  replace h := h (by omega)
  refine am_Pn.bl 1 (y := (132, [some (.ref 28), some (.int x1), some (.int x2)], [.int (Int32.ofInt (-1))], sg_h s, 0, 0)) rfl ?_
  exact am_Pn.rI h rfl
def wp_XPoets_isAheadOf (Ψ : Int32 → sg_S → Prop) (x1 : Int32) (x2 : Int32) (s : sg_S) : Prop := (0 ≤ x1.toInt → x1.toInt < (12) → (0 ≤ x2.toInt → x2.toInt < (12) → (((s.2.2.1 26 (x1.toInt.toNat)).toInt = (s.2.2.1 26 (x2.toInt.toNat)).toInt → (((s.2.2.1 25 (x1.toInt.toNat)).toInt < (s.2.2.1 25 (x2.toInt.toNat)).toInt → (Ψ (Int32.ofInt (1)) s)) ∧ (¬ (s.2.2.1 25 (x1.toInt.toNat)).toInt < (s.2.2.1 25 (x2.toInt.toNat)).toInt → (Ψ (Int32.ofInt (0)) s)))) ∧ (¬ (s.2.2.1 26 (x1.toInt.toNat)).toInt = (s.2.2.1 26 (x2.toInt.toNat)).toInt → (((s.2.2.1 26 (x1.toInt.toNat)).toInt < (s.2.2.1 26 (x2.toInt.toNat)).toInt → (Ψ (Int32.ofInt (1)) s)) ∧ (¬ (s.2.2.1 26 (x1.toInt.toNat)).toInt < (s.2.2.1 26 (x2.toInt.toNat)).toInt → (Ψ (Int32.ofInt (0)) s)))))))
set_option maxRecDepth 100000 in
theorem wp_XPoets_isAheadOf_ok {Ψ : Int32 → sg_S → Prop} {x1 : Int32} {x2 : Int32} {s : sg_S} (h : wp_XPoets_isAheadOf Ψ x1 x2 s) : am_SpI 38 [.ref 24, .int x1, .int x2] s Ψ := by
  refine am_SpI.mk (r := am_r38) rfl rfl (fun call d al n hcl => ?_)
  unfold wp_XPoets_isAheadOf at h
  refine am_Pn.bl 1 (y := (1, [some (.ref 24), some (.int x1), some (.int x2)], [.ref 24], sg_h s, 0, 0)) rfl ?_
  refine am_Pn.gr (k := 2) rfl rfl am_o24 rfl rfl ?_
  refine am_Pn.bl 1 (y := (5, [some (.ref 24), some (.int x1), some (.int x2)], [.int x1, .ref 26], sg_h s, 0, 0)) rfl ?_
  refine am_Pn.ia (a := 26) rfl rfl rfl rfl (fun hi => ?_)
  replace h := h (am_in0 hi) (am_in1 hi)
  refine am_Pn.bl 1 (y := (7, [some (.ref 24), some (.int x1), some (.int x2)], [.ref 24, .int (s.2.2.1 26 (x1.toInt.toNat))], sg_h s, 0, 0)) rfl ?_
  refine am_Pn.gr (k := 2) rfl rfl am_o24 rfl rfl ?_
  refine am_Pn.bl 1 (y := (11, [some (.ref 24), some (.int x1), some (.int x2)], [.int x2, .ref 26, .int (s.2.2.1 26 (x1.toInt.toNat))], sg_h s, 0, 0)) rfl ?_
  refine am_Pn.ia (a := 26) rfl rfl rfl rfl (fun hi => ?_)
  replace h := h (am_in0 hi) (am_in1 hi)
  refine am_Pn.bT h (am_beq rfl rfl) rfl rfl (fun h => ?_) (fun h => ?_)
  · refine am_Pn.bl 1 (y := (37, [some (.ref 24), some (.int x1), some (.int x2)], [.ref 24], sg_h s, 0, 0)) rfl ?_
    refine am_Pn.gr (k := 1) rfl rfl am_o24 rfl rfl ?_
    refine am_Pn.bl 1 (y := (41, [some (.ref 24), some (.int x1), some (.int x2)], [.int x1, .ref 25], sg_h s, 0, 0)) rfl ?_
    refine am_Pn.ia (a := 25) rfl rfl rfl rfl (fun hi => ?_)
    refine am_Pn.bl 1 (y := (43, [some (.ref 24), some (.int x1), some (.int x2)], [.ref 24, .int (s.2.2.1 25 (x1.toInt.toNat))], sg_h s, 0, 0)) rfl ?_
    refine am_Pn.gr (k := 1) rfl rfl am_o24 rfl rfl ?_
    refine am_Pn.bl 1 (y := (47, [some (.ref 24), some (.int x1), some (.int x2)], [.int x2, .ref 25, .int (s.2.2.1 25 (x1.toInt.toNat))], sg_h s, 0, 0)) rfl ?_
    refine am_Pn.ia (a := 25) rfl rfl rfl rfl (fun hi => ?_)
    refine am_Pn.bF h (am_bge rfl rfl) rfl rfl (fun h => ?_) (fun h => ?_)
    · refine am_Pn.bl 1 (y := (56, [some (.ref 24), some (.int x1), some (.int x2)], [.int (Int32.ofInt (0))], sg_h s, 0, 0)) rfl ?_
      exact am_Pn.rI h rfl
    · refine am_Pn.bl 2 (y := (56, [some (.ref 24), some (.int x1), some (.int x2)], [.int (Int32.ofInt (1))], sg_h s, 0, 0)) rfl ?_
      exact am_Pn.rI h rfl
  · refine am_Pn.bl 1 (y := (16, [some (.ref 24), some (.int x1), some (.int x2)], [.ref 24], sg_h s, 0, 0)) rfl ?_
    refine am_Pn.gr (k := 2) rfl rfl am_o24 rfl rfl ?_
    refine am_Pn.bl 1 (y := (20, [some (.ref 24), some (.int x1), some (.int x2)], [.int x1, .ref 26], sg_h s, 0, 0)) rfl ?_
    refine am_Pn.ia (a := 26) rfl rfl rfl rfl (fun hi => ?_)
    refine am_Pn.bl 1 (y := (22, [some (.ref 24), some (.int x1), some (.int x2)], [.ref 24, .int (s.2.2.1 26 (x1.toInt.toNat))], sg_h s, 0, 0)) rfl ?_
    refine am_Pn.gr (k := 2) rfl rfl am_o24 rfl rfl ?_
    refine am_Pn.bl 1 (y := (26, [some (.ref 24), some (.int x1), some (.int x2)], [.int x2, .ref 26, .int (s.2.2.1 26 (x1.toInt.toNat))], sg_h s, 0, 0)) rfl ?_
    refine am_Pn.ia (a := 26) rfl rfl rfl rfl (fun hi => ?_)
    refine am_Pn.bF h (am_bge rfl rfl) rfl rfl (fun h => ?_) (fun h => ?_)
    · refine am_Pn.bl 1 (y := (35, [some (.ref 24), some (.int x1), some (.int x2)], [.int (Int32.ofInt (0))], sg_h s, 0, 0)) rfl ?_
      exact am_Pn.rI h rfl
    · refine am_Pn.bl 2 (y := (35, [some (.ref 24), some (.int x1), some (.int x2)], [.int (Int32.ofInt (1))], sg_h s, 0, 0)) rfl ?_
      exact am_Pn.rI h rfl
def wp_XPoets_whoseTurn_4 (I4 : Int32 → Int32 →  sg_S → Prop) (Ψ : Int32 → sg_S → Prop) (l1 : Int32) (l2 : Int32) (s : sg_S) : Prop := ((l2.toInt < (s.1 24 0).toInt → (0 ≤ l2.toInt → l2.toInt < (12) → (((s.2.2.1 27 (l2.toInt.toNat)).toInt = (0) → ((l1.toInt = (-1) → (I4 l2 (l2 + Int32.ofInt (1)) s)) ∧ (¬ l1.toInt = (-1) → (am_SpI 38 [.ref 24, .int l2, .int l1] s (fun x1 s1 => ((x1.toInt = (0) → (I4 l1 (l2 + Int32.ofInt (1)) s1)) ∧ (¬ x1.toInt = (0) → (I4 l2 (l2 + Int32.ofInt (1)) s1)))))))) ∧ (¬ (s.2.2.1 27 (l2.toInt.toNat)).toInt = (0) → (I4 l1 (l2 + Int32.ofInt (1)) s))))) ∧ (¬ l2.toInt < (s.1 24 0).toInt → (Ψ l1 s)))
def wp_XPoets_whoseTurn (I4 : Int32 → Int32 →  sg_S → Prop) (Ψ : Int32 → sg_S → Prop) (s : sg_S) : Prop := (I4 (Int32.ofInt (-1)) (Int32.ofInt (0)) s)
set_option maxRecDepth 100000 in
theorem wp_XPoets_whoseTurn_ok {I4 : Int32 → Int32 →  sg_S → Prop} {Ψ : Int32 → sg_S → Prop} {s : sg_S} (k4 : ∀ (l1 : Int32) (l2 : Int32) (s : sg_S), I4 l1 l2 s → wp_XPoets_whoseTurn_4 I4 Ψ  l1 l2 s) (h : wp_XPoets_whoseTurn I4 Ψ  s) : am_SpI 37 [.ref 24] s Ψ := by
  refine am_SpI.mk (r := am_r37) rfl rfl (fun call d al n hcl => ?_)
  have key : ∀ n, (∀ (l1 : Int32) (l2 : Int32) (s : sg_S), I4 l1 l2 s → am_Pn call d (0, fun _ => 0) al am_r37 (am_PhI am_r37 Ψ) n (4, [some (.ref 24), some (.int l1), some (.int l2)], [], sg_h s, 0, 0)) := by
    intro n
    induction n with
    | zero => exact fun _ _ _ _ => am_Pn.zero
    | succ n ih =>
      intro l1 l2 s h
      replace h := k4 l1 l2 s h
      unfold wp_XPoets_whoseTurn_4 at h
      refine am_Pn.bl1 1 (y := (6, [some (.ref 24), some (.int l1), some (.int l2)], [.ref 24, .int l2], sg_h s, 0, 0)) rfl ?_
      refine am_Pn.gi (k := 0) rfl rfl am_o24 rfl rfl ?_
      refine am_Pn.bF h (am_bge rfl rfl) rfl rfl (fun h => ?_) (fun h => ?_)
      · refine am_Pn.bl 1 (y := (44, [some (.ref 24), some (.int l1), some (.int l2)], [.int l1], sg_h s, 0, 0)) rfl ?_
        exact am_Pn.rI h rfl
      · refine am_Pn.bl 1 (y := (13, [some (.ref 24), some (.int l1), some (.int l2)], [.ref 24], sg_h s, 0, 0)) rfl ?_
        refine am_Pn.gr (k := 3) rfl rfl am_o24 rfl rfl ?_
        refine am_Pn.bl 1 (y := (17, [some (.ref 24), some (.int l1), some (.int l2)], [.int l2, .ref 27], sg_h s, 0, 0)) rfl ?_
        refine am_Pn.ba (a := 27) rfl rfl rfl rfl (fun hi => ?_)
        replace h := h (am_in0 hi) (am_in1 hi)
        refine am_Pn.zF h (am_bne rfl rfl) rfl rfl (fun h => ?_) (fun h => ?_)
        · refine am_Pn.bl 2 (y := (4, [some (.ref 24), some (.int l1), some (.int (l2 + Int32.ofInt (1)))], [], sg_h s, 0, 0)) rfl ?_
          exact (ih) l1 (l2 + Int32.ofInt (1)) s h
        · refine am_Pn.bl 2 (y := (23, [some (.ref 24), some (.int l1), some (.int l2)], [.int (Int32.ofInt (-1)), .int l1], sg_h s, 0, 0)) rfl ?_
          refine am_Pn.bT h (am_beq rfl rfl) rfl rfl (fun h => ?_) (fun h => ?_)
          · refine am_Pn.bl 4 (y := (4, [some (.ref 24), some (.int l2), some (.int (l2 + Int32.ofInt (1)))], [], sg_h s, 0, 0)) rfl ?_
            exact (ih) l2 (l2 + Int32.ofInt (1)) s h
          · refine am_Pn.bl 3 (y := (29, [some (.ref 24), some (.int l1), some (.int l2)], [.int l1, .int l2, .ref 24], sg_h s, 0, 0)) rfl ?_
            refine am_Pn.cvI hcl h rfl rfl rfl rfl rfl (fun x1 s1 h => ?_)
            refine am_Pn.zT h (am_beq rfl rfl) rfl rfl (fun h => ?_) (fun h => ?_)
            · refine am_Pn.bl 2 (y := (4, [some (.ref 24), some (.int l1), some (.int (l2 + Int32.ofInt (1)))], [], sg_h s1, 0, 0)) rfl ?_
              exact (ih) l1 (l2 + Int32.ofInt (1)) s1 h
            · refine am_Pn.bl 4 (y := (4, [some (.ref 24), some (.int l2), some (.int (l2 + Int32.ofInt (1)))], [], sg_h s1, 0, 0)) rfl ?_
              exact (ih) l2 (l2 + Int32.ofInt (1)) s1 h
  unfold wp_XPoets_whoseTurn at h
  refine am_Pn.bl 4 (y := (4, [some (.ref 24), some (.int (Int32.ofInt (-1))), some (.int (Int32.ofInt (0)))], [], sg_h s, 0, 0)) rfl ?_
  exact ((key n)) (Int32.ofInt (-1)) (Int32.ofInt (0)) s h
def wp_XPoets_letPass_9 (I9 : Int32 →  sg_S → Prop) (Ψ : sg_S → Prop) (x1 : Int32) (l2 : Int32) (s : sg_S) : Prop := ((l2.toInt < (s.1 24 0).toInt → (0 ≤ l2.toInt → l2.toInt < (12) → (((s.2.2.1 27 (l2.toInt.toNat)).toInt = (0) → (Ψ s)) ∧ (¬ (s.2.2.1 27 (l2.toInt.toNat)).toInt = (0) → (I9 (l2 + Int32.ofInt (1)) s))))) ∧ (¬ l2.toInt < (s.1 24 0).toInt → (am_SpV 35 [.ref 24] s (fun s2 => (Ψ s2)))))
def wp_XPoets_letPass (I9 : Int32 →  sg_S → Prop) (Ψ : sg_S → Prop) (x1 : Int32) (s : sg_S) : Prop := (0 ≤ x1.toInt → x1.toInt < (12) → (I9 (Int32.ofInt (0)) (sg_uA s 27 (x1.toInt.toNat) (vp_nar .boolean (Int32.ofInt (1))))))
set_option maxRecDepth 100000 in
theorem wp_XPoets_letPass_ok {I9 : Int32 →  sg_S → Prop} {Ψ : sg_S → Prop} {x1 : Int32} {s : sg_S} (k9 : ∀ (l2 : Int32) (s : sg_S), I9 l2 s → wp_XPoets_letPass_9 I9 Ψ x1 l2 s) (h : wp_XPoets_letPass I9 Ψ x1 s) : am_SpV 39 [.ref 24, .int x1] s Ψ := by
  refine am_SpV.mk (r := am_r39) rfl rfl (fun call d al n hcl => ?_)
  have key : ∀ n, (∀ (l2 : Int32) (s : sg_S), I9 l2 s → am_Pn call d (0, fun _ => 0) al am_r39 (am_PhV am_r39 Ψ) n (9, [some (.ref 24), some (.int x1), some (.int l2)], [], sg_h s, 0, 0)) := by
    intro n
    induction n with
    | zero => exact fun _ _ _ => am_Pn.zero
    | succ n ih =>
      intro l2 s h
      replace h := k9 l2 s h
      unfold wp_XPoets_letPass_9 at h
      refine am_Pn.bl1 1 (y := (11, [some (.ref 24), some (.int x1), some (.int l2)], [.ref 24, .int l2], sg_h s, 0, 0)) rfl ?_
      refine am_Pn.gi (k := 0) rfl rfl am_o24 rfl rfl ?_
      refine am_Pn.bF h (am_bge rfl rfl) rfl rfl (fun h => ?_) (fun h => ?_)
      · refine am_Pn.bl 1 (y := (34, [some (.ref 24), some (.int x1), some (.int l2)], [.ref 24], sg_h s, 0, 0)) rfl ?_
        refine am_Pn.cvV hcl h rfl rfl rfl rfl rfl (fun s2 h => ?_)
        exact am_Pn.rV h rfl
      · refine am_Pn.bl 1 (y := (18, [some (.ref 24), some (.int x1), some (.int l2)], [.ref 24], sg_h s, 0, 0)) rfl ?_
        refine am_Pn.gr (k := 3) rfl rfl am_o24 rfl rfl ?_
        refine am_Pn.bl 1 (y := (22, [some (.ref 24), some (.int x1), some (.int l2)], [.int l2, .ref 27], sg_h s, 0, 0)) rfl ?_
        refine am_Pn.ba (a := 27) rfl rfl rfl rfl (fun hi => ?_)
        replace h := h (am_in0 hi) (am_in1 hi)
        refine am_Pn.zF h (am_bne rfl rfl) rfl rfl (fun h => ?_) (fun h => ?_)
        · refine am_Pn.bl 2 (y := (9, [some (.ref 24), some (.int x1), some (.int (l2 + Int32.ofInt (1)))], [], sg_h s, 0, 0)) rfl ?_
          exact (ih) (l2 + Int32.ofInt (1)) s h
        · exact am_Pn.rV h rfl
  unfold wp_XPoets_letPass at h
  refine am_Pn.bl 1 (y := (1, [some (.ref 24), some (.int x1), none], [.ref 24], sg_h s, 0, 0)) rfl ?_
  refine am_Pn.gr (k := 3) rfl rfl am_o24 rfl rfl ?_
  refine am_Pn.bl 2 (y := (6, [some (.ref 24), some (.int x1), none], [.int (Int32.ofInt (1)), .int x1, .ref 27], sg_h s, 0, 0)) rfl ?_
  refine am_Pn.bs (a := 27) rfl rfl rfl (fun hi => ?_)
  replace h := h (am_in0 hi) (am_in1 hi)
  refine am_Pn.bl 2 (y := (9, [some (.ref 24), some (.int x1), some (.int (Int32.ofInt (0)))], [], sg_h (sg_uA s 27 (x1.toInt.toNat) (vp_nar .boolean (Int32.ofInt (1)))), 0, 0)) rfl ?_
  exact ((key n)) (Int32.ofInt (0)) (sg_uA s 27 (x1.toInt.toNat) (vp_nar .boolean (Int32.ofInt (1)))) h
def wp_XPoets_letTell (Ψ : sg_S → Prop) (x1 : Int32) (s : sg_S) : Prop := (0 ≤ x1.toInt → x1.toInt < (12) → (am_SpV 35 [.ref 24] (sg_uA s 26 (x1.toInt.toNat) ((s.2.2.1 26 (x1.toInt.toNat)) + (Int32.ofInt (1)))) (fun s2 => (Ψ s2))))
set_option maxRecDepth 100000 in
theorem wp_XPoets_letTell_ok {Ψ : sg_S → Prop} {x1 : Int32} {s : sg_S} (h : wp_XPoets_letTell Ψ x1 s) : am_SpV 40 [.ref 24, .int x1] s Ψ := by
  refine am_SpV.mk (r := am_r40) rfl rfl (fun call d al n hcl => ?_)
  unfold wp_XPoets_letTell at h
  refine am_Pn.bl 1 (y := (1, [some (.ref 24), some (.int x1)], [.ref 24], sg_h s, 0, 0)) rfl ?_
  refine am_Pn.gr (k := 2) rfl rfl am_o24 rfl rfl ?_
  refine am_Pn.bl 2 (y := (6, [some (.ref 24), some (.int x1)], [.int x1, .ref 26, .int x1, .ref 26], sg_h s, 0, 0)) rfl ?_
  refine am_Pn.ia (a := 26) rfl rfl rfl rfl (fun hi => ?_)
  replace h := h (am_in0 hi) (am_in1 hi)
  refine am_Pn.bl 2 (y := (9, [some (.ref 24), some (.int x1)], [.int ((s.2.2.1 26 (x1.toInt.toNat)) + (Int32.ofInt (1))), .int x1, .ref 26], sg_h s, 0, 0)) rfl ?_
  refine am_Pn.is (a := 26) rfl rfl rfl (fun hi => ?_)
  refine am_Pn.bl 1 (y := (11, [some (.ref 24), some (.int x1)], [.ref 24], sg_h (sg_uA s 26 (x1.toInt.toNat) ((s.2.2.1 26 (x1.toInt.toNat)) + (Int32.ofInt (1)))), 0, 0)) rfl ?_
  refine am_Pn.cvV hcl h rfl rfl rfl rfl rfl (fun s2 h => ?_)
  exact am_Pn.rV h rfl
def wp_XPoets_takeBack (Ψ : sg_S → Prop) (x1 : Int32) (s : sg_S) : Prop := (0 ≤ x1.toInt → x1.toInt < (12) → (am_SpV 35 [.ref 24] (sg_uA s 26 (x1.toInt.toNat) ((s.2.2.1 26 (x1.toInt.toNat)) - (Int32.ofInt (1)))) (fun s2 => (Ψ s2))))
set_option maxRecDepth 100000 in
theorem wp_XPoets_takeBack_ok {Ψ : sg_S → Prop} {x1 : Int32} {s : sg_S} (h : wp_XPoets_takeBack Ψ x1 s) : am_SpV 41 [.ref 24, .int x1] s Ψ := by
  refine am_SpV.mk (r := am_r41) rfl rfl (fun call d al n hcl => ?_)
  unfold wp_XPoets_takeBack at h
  refine am_Pn.bl 1 (y := (1, [some (.ref 24), some (.int x1)], [.ref 24], sg_h s, 0, 0)) rfl ?_
  refine am_Pn.gr (k := 2) rfl rfl am_o24 rfl rfl ?_
  refine am_Pn.bl 2 (y := (6, [some (.ref 24), some (.int x1)], [.int x1, .ref 26, .int x1, .ref 26], sg_h s, 0, 0)) rfl ?_
  refine am_Pn.ia (a := 26) rfl rfl rfl rfl (fun hi => ?_)
  replace h := h (am_in0 hi) (am_in1 hi)
  refine am_Pn.bl 2 (y := (9, [some (.ref 24), some (.int x1)], [.int ((s.2.2.1 26 (x1.toInt.toNat)) - (Int32.ofInt (1))), .int x1, .ref 26], sg_h s, 0, 0)) rfl ?_
  refine am_Pn.is (a := 26) rfl rfl rfl (fun hi => ?_)
  refine am_Pn.bl 1 (y := (11, [some (.ref 24), some (.int x1)], [.ref 24], sg_h (sg_uA s 26 (x1.toInt.toNat) ((s.2.2.1 26 (x1.toInt.toNat)) - (Int32.ofInt (1)))), 0, 0)) rfl ?_
  refine am_Pn.cvV hcl h rfl rfl rfl rfl rfl (fun s2 h => ?_)
  exact am_Pn.rV h rfl
def wp_X_turn (Ψ : Int32 → sg_S → Prop) (s : sg_S) : Prop := (((s.1 28 2).toInt < (s.1 1 3).toInt → (am_SpI 37 [.ref 24] s (fun x1 s1 => (Ψ x1 s1)))) ∧ (¬ (s.1 28 2).toInt < (s.1 1 3).toInt → (Ψ (Int32.ofInt (-1)) s)))
set_option maxRecDepth 100000 in
theorem wp_X_turn_ok {Ψ : Int32 → sg_S → Prop} {s : sg_S} (h : wp_X_turn Ψ  s) : am_SpI 123 [.ref 0] s Ψ := by
  refine am_SpI.mk (r := am_r123) rfl rfl (fun call d al n hcl => ?_)
  unfold wp_X_turn at h
  refine am_Pn.bl 1 (y := (1, [some (.ref 0)], [.ref 0], sg_h s, 0, 0)) rfl ?_
  refine am_Pn.gr (k := 5) rfl rfl am_o0 rfl rfl ?_
  refine am_Pn.gi (k := 2) rfl rfl am_o28 rfl rfl ?_
  refine am_Pn.bl 1 (y := (8, [some (.ref 0)], [.ref 0, .int (s.1 28 2)], sg_h s, 0, 0)) rfl ?_
  refine am_Pn.gr (k := 1) rfl rfl am_o0 rfl rfl ?_
  refine am_Pn.gi (k := 3) rfl rfl am_o1 rfl rfl ?_
  refine am_Pn.bT h (am_blt rfl rfl) rfl rfl (fun h => ?_) (fun h => ?_)
  · refine am_Pn.bl 1 (y := (22, [some (.ref 0)], [.ref 0], sg_h s, 0, 0)) rfl ?_
    refine am_Pn.gr (k := 4) rfl rfl am_o0 rfl rfl ?_
    refine am_Pn.cvI hcl h rfl rfl rfl rfl rfl (fun x1 s1 h => ?_)
    exact am_Pn.rI h rfl
  · refine am_Pn.bl 2 (y := (28, [some (.ref 0)], [.int (Int32.ofInt (-1))], sg_h s, 0, 0)) rfl ?_
    exact am_Pn.rI h rfl
def wp_X_pass (Ψ : Int32 → sg_S → Prop) (s : sg_S) : Prop := (am_SpI 123 [.ref 0] s (fun x1 s1 => ((x1.toInt = (-1) → (Ψ (Int32.ofInt (-1)) s1)) ∧ (¬ x1.toInt = (-1) → (am_SpV 39 [.ref 24, .int x1] s1 (fun s2 => (am_SpI 123 [.ref 0] s2 (fun x3 s3 => (Ψ x3 s3)))))))))
set_option maxRecDepth 100000 in
theorem wp_X_pass_ok {Ψ : Int32 → sg_S → Prop} {s : sg_S} (h : wp_X_pass Ψ  s) : am_SpI 124 [.ref 0] s Ψ := by
  refine am_SpI.mk (r := am_r124) rfl rfl (fun call d al n hcl => ?_)
  unfold wp_X_pass at h
  refine am_Pn.bl 1 (y := (1, [some (.ref 0), none], [.ref 0], sg_h s, 0, 0)) rfl ?_
  refine am_Pn.cvI hcl h rfl rfl rfl rfl rfl (fun x1 s1 h => ?_)
  refine am_Pn.bl 3 (y := (7, [some (.ref 0), some (.int x1)], [.int (Int32.ofInt (-1)), .int x1], sg_h s1, 0, 0)) rfl ?_
  refine am_Pn.bF h (am_bne rfl rfl) rfl rfl (fun h => ?_) (fun h => ?_)
  · refine am_Pn.bl 1 (y := (13, [some (.ref 0), some (.int x1)], [.ref 0], sg_h s1, 0, 0)) rfl ?_
    refine am_Pn.gr (k := 4) rfl rfl am_o0 rfl rfl ?_
    refine am_Pn.bl 1 (y := (17, [some (.ref 0), some (.int x1)], [.int x1, .ref 24], sg_h s1, 0, 0)) rfl ?_
    refine am_Pn.cvV hcl h rfl rfl rfl rfl rfl (fun s2 h => ?_)
    refine am_Pn.bl 1 (y := (21, [some (.ref 0), some (.int x1)], [.ref 0], sg_h s2, 0, 0)) rfl ?_
    refine am_Pn.cvI hcl h rfl rfl rfl rfl rfl (fun x3 s3 h => ?_)
    exact am_Pn.rI h rfl
  · refine am_Pn.bl 1 (y := (11, [some (.ref 0), some (.int x1)], [.int (Int32.ofInt (-1))], sg_h s1, 0, 0)) rfl ?_
    exact am_Pn.rI h rfl
def wp_X_brokenByNext (Ψ : Int32 → sg_S → Prop) (x1 : Int32) (x2 : Int32) (x3 : Int32) (s : sg_S) : Prop := (am_SpI 4 [.ref 18, .int x1, .int x2, .int x3] s (fun x4 s4 => (am_SpV 82 [.ref 28, .int ((s.1 28 2) + (Int32.ofInt (1))), .int x4, .int x1, .int x2, .int x3] s4 (fun s5 => (am_SpI 84 [.ref 28, .int ((s.1 28 2) + (Int32.ofInt (1)))] s5 (fun x6 s6 => (Ψ x6 s6)))))))
set_option maxRecDepth 100000 in
theorem wp_X_brokenByNext_ok {Ψ : Int32 → sg_S → Prop} {x1 : Int32} {x2 : Int32} {x3 : Int32} {s : sg_S} (h : wp_X_brokenByNext Ψ x1 x2 x3 s) : am_SpI 133 [.ref 0, .int x1, .int x2, .int x3] s Ψ := by
  refine am_SpI.mk (r := am_r133) rfl rfl (fun call d al n hcl => ?_)
  unfold wp_X_brokenByNext at h
  refine am_Pn.bl 1 (y := (1, [some (.ref 0), some (.int x1), some (.int x2), some (.int x3), none], [.ref 0], sg_h s, 0, 0)) rfl ?_
  refine am_Pn.gr (k := 5) rfl rfl am_o0 rfl rfl ?_
  refine am_Pn.gi (k := 2) rfl rfl am_o28 rfl rfl ?_
  refine am_Pn.bl 4 (y := (12, [some (.ref 0), some (.int x1), some (.int x2), some (.int x3), some (.int ((s.1 28 2) + (Int32.ofInt (1))))], [.ref 0], sg_h s, 0, 0)) rfl ?_
  refine am_Pn.gr (k := 5) rfl rfl am_o0 rfl rfl ?_
  refine am_Pn.bl 2 (y := (18, [some (.ref 0), some (.int x1), some (.int x2), some (.int x3), some (.int ((s.1 28 2) + (Int32.ofInt (1))))], [.ref 0, .int ((s.1 28 2) + (Int32.ofInt (1))), .ref 28], sg_h s, 0, 0)) rfl ?_
  refine am_Pn.gr (k := 2) rfl rfl am_o0 rfl rfl ?_
  refine am_Pn.bl 3 (y := (24, [some (.ref 0), some (.int x1), some (.int x2), some (.int x3), some (.int ((s.1 28 2) + (Int32.ofInt (1))))], [.int x3, .int x2, .int x1, .ref 18, .int ((s.1 28 2) + (Int32.ofInt (1))), .ref 28], sg_h s, 0, 0)) rfl ?_
  refine am_Pn.cvI hcl h rfl rfl rfl rfl rfl (fun x4 s4 h => ?_)
  refine am_Pn.bl 3 (y := (30, [some (.ref 0), some (.int x1), some (.int x2), some (.int x3), some (.int ((s.1 28 2) + (Int32.ofInt (1))))], [.int x3, .int x2, .int x1, .int x4, .int ((s.1 28 2) + (Int32.ofInt (1))), .ref 28], sg_h s4, 0, 0)) rfl ?_
  refine am_Pn.cvV hcl h rfl rfl rfl rfl rfl (fun s5 h => ?_)
  refine am_Pn.bl 1 (y := (34, [some (.ref 0), some (.int x1), some (.int x2), some (.int x3), some (.int ((s.1 28 2) + (Int32.ofInt (1))))], [.ref 0], sg_h s5, 0, 0)) rfl ?_
  refine am_Pn.gr (k := 5) rfl rfl am_o0 rfl rfl ?_
  refine am_Pn.bl 1 (y := (39, [some (.ref 0), some (.int x1), some (.int x2), some (.int x3), some (.int ((s.1 28 2) + (Int32.ofInt (1))))], [.int ((s.1 28 2) + (Int32.ofInt (1))), .ref 28], sg_h s5, 0, 0)) rfl ?_
  refine am_Pn.cvI hcl h rfl rfl rfl rfl rfl (fun x6 s6 h => ?_)
  exact am_Pn.rI h rfl
def wp_X_verse (Ψ : Int32 → sg_S → Prop) (x1 : Int32) (x2 : Int32) (x3 : Int32) (x4 : Int32) (s : sg_S) : Prop := (am_SpI 123 [.ref 0] s (fun x5 s5 => ((x5.toInt = (-1) → (Ψ (Int32.ofInt (-1)) s5)) ∧ (¬ x5.toInt = (-1) → (am_SpI 132 [.int x2, .int x3, .int x4] s5 (fun x6 s6 => ((x6.toInt = (0) → (Ψ (Int32.ofInt (-1)) s6)) ∧ (¬ x6.toInt = (0) → ((x1.toInt < (0) → (Ψ (Int32.ofInt (-1)) s6)) ∧ (¬ x1.toInt < (0) → (((999) < x1.toInt → (Ψ (Int32.ofInt (-1)) s6)) ∧ (¬ (999) < x1.toInt → (((0) < (s6.1 28 3).toInt → (Ψ (Int32.ofInt (-9)) s6)) ∧ (¬ (0) < (s6.1 28 3).toInt → (((s6.1 1 4).toInt < x1.toInt → (am_SpV 39 [.ref 24, .int x5] s6 (fun s10 => (Ψ (Int32.ofInt (-3)) s10)))) ∧ (¬ (s6.1 1 4).toInt < x1.toInt → (am_SpI 133 [.ref 0, .int x2, .int x3, .int x4] s6 (fun x7 s7 => ((x7.toInt = (-1) → (am_SpV 88 [.ref 28, .int x5, .int x1] s7 (fun s8 => (am_SpV 40 [.ref 24, .int x5] s8 (fun s9 => (Ψ (s9.1 28 2) s9)))))) ∧ (¬ x7.toInt = (-1) → (Ψ ((Int32.ofInt (-10)) - x7) s7)))))))))))))))))))))
set_option maxRecDepth 100000 in
theorem wp_X_verse_ok {Ψ : Int32 → sg_S → Prop} {x1 : Int32} {x2 : Int32} {x3 : Int32} {x4 : Int32} {s : sg_S} (h : wp_X_verse Ψ x1 x2 x3 x4 s) : am_SpI 131 [.ref 0, .int x1, .int x2, .int x3, .int x4] s Ψ := by
  refine am_SpI.mk (r := am_r131) rfl rfl (fun call d al n hcl => ?_)
  unfold wp_X_verse at h
  refine am_Pn.bl 1 (y := (1, [some (.ref 0), some (.int x1), some (.int x2), some (.int x3), some (.int x4), none, none], [.ref 0], sg_h s, 0, 0)) rfl ?_
  refine am_Pn.cvI hcl h rfl rfl rfl rfl rfl (fun x5 s5 h => ?_)
  refine am_Pn.bl 3 (y := (9, [some (.ref 0), some (.int x1), some (.int x2), some (.int x3), some (.int x4), some (.int x5), none], [.int (Int32.ofInt (-1)), .int x5], sg_h s5, 0, 0)) rfl ?_
  refine am_Pn.bT h (am_beq rfl rfl) rfl rfl (fun h => ?_) (fun h => ?_)
  · refine am_Pn.bl 1 (y := (34, [some (.ref 0), some (.int x1), some (.int x2), some (.int x3), some (.int x4), some (.int x5), none], [.int (Int32.ofInt (-1))], sg_h s5, 0, 0)) rfl ?_
    exact am_Pn.rI h rfl
  · refine am_Pn.bl 3 (y := (16, [some (.ref 0), some (.int x1), some (.int x2), some (.int x3), some (.int x4), some (.int x5), none], [.int x4, .int x3, .int x2], sg_h s5, 0, 0)) rfl ?_
    refine am_Pn.csI hcl h rfl rfl rfl rfl rfl (fun x6 s6 h => ?_)
    refine am_Pn.zT h (am_beq rfl rfl) rfl rfl (fun h => ?_) (fun h => ?_)
    · refine am_Pn.bl 1 (y := (34, [some (.ref 0), some (.int x1), some (.int x2), some (.int x3), some (.int x4), some (.int x5), none], [.int (Int32.ofInt (-1))], sg_h s6, 0, 0)) rfl ?_
      exact am_Pn.rI h rfl
    · refine am_Pn.bl 1 (y := (23, [some (.ref 0), some (.int x1), some (.int x2), some (.int x3), some (.int x4), some (.int x5), none], [.int x1], sg_h s6, 0, 0)) rfl ?_
      refine am_Pn.zT h (am_blt rfl rfl) rfl rfl (fun h => ?_) (fun h => ?_)
      · refine am_Pn.bl 1 (y := (34, [some (.ref 0), some (.int x1), some (.int x2), some (.int x3), some (.int x4), some (.int x5), none], [.int (Int32.ofInt (-1))], sg_h s6, 0, 0)) rfl ?_
        exact am_Pn.rI h rfl
      · refine am_Pn.bl 2 (y := (30, [some (.ref 0), some (.int x1), some (.int x2), some (.int x3), some (.int x4), some (.int x5), none], [.int (Int32.ofInt (999)), .int x1], sg_h s6, 0, 0)) rfl ?_
        refine am_Pn.bF h (am_ble rfl rfl) rfl rfl (fun h => ?_) (fun h => ?_)
        · refine am_Pn.bl 1 (y := (36, [some (.ref 0), some (.int x1), some (.int x2), some (.int x3), some (.int x4), some (.int x5), none], [.ref 0], sg_h s6, 0, 0)) rfl ?_
          refine am_Pn.gr (k := 5) rfl rfl am_o0 rfl rfl ?_
          refine am_Pn.gi (k := 3) rfl rfl am_o28 rfl rfl ?_
          refine am_Pn.zF h (am_ble rfl rfl) rfl rfl (fun h => ?_) (fun h => ?_)
          · refine am_Pn.bl 2 (y := (50, [some (.ref 0), some (.int x1), some (.int x2), some (.int x3), some (.int x4), some (.int x5), none], [.ref 0, .int x1], sg_h s6, 0, 0)) rfl ?_
            refine am_Pn.gr (k := 1) rfl rfl am_o0 rfl rfl ?_
            refine am_Pn.gi (k := 4) rfl rfl am_o1 rfl rfl ?_
            refine am_Pn.bF h (am_ble rfl rfl) rfl rfl (fun h => ?_) (fun h => ?_)
            · refine am_Pn.bl 4 (y := (76, [some (.ref 0), some (.int x1), some (.int x2), some (.int x3), some (.int x4), some (.int x5), none], [.int x4, .int x3, .int x2, .ref 0], sg_h s6, 0, 0)) rfl ?_
              refine am_Pn.cvI hcl h rfl rfl rfl rfl rfl (fun x7 s7 h => ?_)
              refine am_Pn.bl 3 (y := (84, [some (.ref 0), some (.int x1), some (.int x2), some (.int x3), some (.int x4), some (.int x5), some (.int x7)], [.int (Int32.ofInt (-1)), .int x7], sg_h s7, 0, 0)) rfl ?_
              refine am_Pn.bT h (am_beq rfl rfl) rfl rfl (fun h => ?_) (fun h => ?_)
              · refine am_Pn.bl 1 (y := (94, [some (.ref 0), some (.int x1), some (.int x2), some (.int x3), some (.int x4), some (.int x5), some (.int x7)], [.ref 0], sg_h s7, 0, 0)) rfl ?_
                refine am_Pn.gr (k := 5) rfl rfl am_o0 rfl rfl ?_
                refine am_Pn.bl 2 (y := (100, [some (.ref 0), some (.int x1), some (.int x2), some (.int x3), some (.int x4), some (.int x5), some (.int x7)], [.int x1, .int x5, .ref 28], sg_h s7, 0, 0)) rfl ?_
                refine am_Pn.cvV hcl h rfl rfl rfl rfl rfl (fun s8 h => ?_)
                refine am_Pn.bl 1 (y := (104, [some (.ref 0), some (.int x1), some (.int x2), some (.int x3), some (.int x4), some (.int x5), some (.int x7)], [.ref 0], sg_h s8, 0, 0)) rfl ?_
                refine am_Pn.gr (k := 4) rfl rfl am_o0 rfl rfl ?_
                refine am_Pn.bl 1 (y := (109, [some (.ref 0), some (.int x1), some (.int x2), some (.int x3), some (.int x4), some (.int x5), some (.int x7)], [.int x5, .ref 24], sg_h s8, 0, 0)) rfl ?_
                refine am_Pn.cvV hcl h rfl rfl rfl rfl rfl (fun s9 h => ?_)
                refine am_Pn.bl 1 (y := (113, [some (.ref 0), some (.int x1), some (.int x2), some (.int x3), some (.int x4), some (.int x5), some (.int x7)], [.ref 0], sg_h s9, 0, 0)) rfl ?_
                refine am_Pn.gr (k := 5) rfl rfl am_o0 rfl rfl ?_
                refine am_Pn.gi (k := 2) rfl rfl am_o28 rfl rfl ?_
                exact am_Pn.rI h rfl
              · refine am_Pn.bl 3 (y := (92, [some (.ref 0), some (.int x1), some (.int x2), some (.int x3), some (.int x4), some (.int x5), some (.int x7)], [.int ((Int32.ofInt (-10)) - x7)], sg_h s7, 0, 0)) rfl ?_
                exact am_Pn.rI h rfl
            · refine am_Pn.bl 1 (y := (60, [some (.ref 0), some (.int x1), some (.int x2), some (.int x3), some (.int x4), some (.int x5), none], [.ref 0], sg_h s6, 0, 0)) rfl ?_
              refine am_Pn.gr (k := 4) rfl rfl am_o0 rfl rfl ?_
              refine am_Pn.bl 1 (y := (65, [some (.ref 0), some (.int x1), some (.int x2), some (.int x3), some (.int x4), some (.int x5), none], [.int x5, .ref 24], sg_h s6, 0, 0)) rfl ?_
              refine am_Pn.cvV hcl h rfl rfl rfl rfl rfl (fun s10 h => ?_)
              refine am_Pn.bl 1 (y := (70, [some (.ref 0), some (.int x1), some (.int x2), some (.int x3), some (.int x4), some (.int x5), none], [.int (Int32.ofInt (-3))], sg_h s10, 0, 0)) rfl ?_
              exact am_Pn.rI h rfl
          · refine am_Pn.bl 1 (y := (47, [some (.ref 0), some (.int x1), some (.int x2), some (.int x3), some (.int x4), some (.int x5), none], [.int (Int32.ofInt (-9))], sg_h s6, 0, 0)) rfl ?_
            exact am_Pn.rI h rfl
        · refine am_Pn.bl 1 (y := (34, [some (.ref 0), some (.int x1), some (.int x2), some (.int x3), some (.int x4), some (.int x5), none], [.int (Int32.ofInt (-1))], sg_h s6, 0, 0)) rfl ?_
          exact am_Pn.rI h rfl
def wp_X_breaks (Ψ : Int32 → sg_S → Prop) (x1 : Int32) (x2 : Int32) (x3 : Int32) (s : sg_S) : Prop := (((s.1 28 2).toInt < (s.1 1 3).toInt → (am_SpI 132 [.int x1, .int x2, .int x3] s (fun x4 s4 => ((x4.toInt = (0) → (Ψ (Int32.ofInt (-2)) s4)) ∧ (¬ x4.toInt = (0) → (((0) < (s4.1 28 3).toInt → (Ψ (Int32.ofInt (-9)) s4)) ∧ (¬ (0) < (s4.1 28 3).toInt → (am_SpI 133 [.ref 0, .int x1, .int x2, .int x3] s4 (fun x5 s5 => (Ψ x5 s5)))))))))) ∧ (¬ (s.1 28 2).toInt < (s.1 1 3).toInt → (Ψ (Int32.ofInt (-2)) s)))
set_option maxRecDepth 100000 in
theorem wp_X_breaks_ok {Ψ : Int32 → sg_S → Prop} {x1 : Int32} {x2 : Int32} {x3 : Int32} {s : sg_S} (h : wp_X_breaks Ψ x1 x2 x3 s) : am_SpI 134 [.ref 0, .int x1, .int x2, .int x3] s Ψ := by
  refine am_SpI.mk (r := am_r134) rfl rfl (fun call d al n hcl => ?_)
  unfold wp_X_breaks at h
  refine am_Pn.bl 1 (y := (1, [some (.ref 0), some (.int x1), some (.int x2), some (.int x3)], [.ref 0], sg_h s, 0, 0)) rfl ?_
  refine am_Pn.gr (k := 5) rfl rfl am_o0 rfl rfl ?_
  refine am_Pn.gi (k := 2) rfl rfl am_o28 rfl rfl ?_
  refine am_Pn.bl 1 (y := (8, [some (.ref 0), some (.int x1), some (.int x2), some (.int x3)], [.ref 0, .int (s.1 28 2)], sg_h s, 0, 0)) rfl ?_
  refine am_Pn.gr (k := 1) rfl rfl am_o0 rfl rfl ?_
  refine am_Pn.gi (k := 3) rfl rfl am_o1 rfl rfl ?_
  refine am_Pn.bF h (am_bge rfl rfl) rfl rfl (fun h => ?_) (fun h => ?_)
  · refine am_Pn.bl 1 (y := (28, [some (.ref 0), some (.int x1), some (.int x2), some (.int x3)], [.int (Int32.ofInt (-2))], sg_h s, 0, 0)) rfl ?_
    exact am_Pn.rI h rfl
  · refine am_Pn.bl 3 (y := (20, [some (.ref 0), some (.int x1), some (.int x2), some (.int x3)], [.int x3, .int x2, .int x1], sg_h s, 0, 0)) rfl ?_
    refine am_Pn.csI hcl h rfl rfl rfl rfl rfl (fun x4 s4 h => ?_)
    refine am_Pn.zF h (am_bne rfl rfl) rfl rfl (fun h => ?_) (fun h => ?_)
    · refine am_Pn.bl 1 (y := (30, [some (.ref 0), some (.int x1), some (.int x2), some (.int x3)], [.ref 0], sg_h s4, 0, 0)) rfl ?_
      refine am_Pn.gr (k := 5) rfl rfl am_o0 rfl rfl ?_
      refine am_Pn.gi (k := 3) rfl rfl am_o28 rfl rfl ?_
      refine am_Pn.zF h (am_ble rfl rfl) rfl rfl (fun h => ?_) (fun h => ?_)
      · refine am_Pn.bl 4 (y := (48, [some (.ref 0), some (.int x1), some (.int x2), some (.int x3)], [.int x3, .int x2, .int x1, .ref 0], sg_h s4, 0, 0)) rfl ?_
        refine am_Pn.cvI hcl h rfl rfl rfl rfl rfl (fun x5 s5 h => ?_)
        exact am_Pn.rI h rfl
      · refine am_Pn.bl 2 (y := (51, [some (.ref 0), some (.int x1), some (.int x2), some (.int x3)], [.int (Int32.ofInt (-9))], sg_h s4, 0, 0)) rfl ?_
        exact am_Pn.rI h rfl
    · refine am_Pn.bl 1 (y := (28, [some (.ref 0), some (.int x1), some (.int x2), some (.int x3)], [.int (Int32.ofInt (-2))], sg_h s4, 0, 0)) rfl ?_
      exact am_Pn.rI h rfl
def wp_X_back (Ψ : Int32 → sg_S → Prop) (s : sg_S) : Prop := (((s.1 28 2).toInt < (1) → (Ψ (Int32.ofInt (-1)) s)) ∧ (¬ (s.1 28 2).toInt < (1) → (0 ≤ (s.1 28 2).toInt → (s.1 28 2).toInt < (49) → (am_SpV 41 [.ref 24, .int (s.2.2.1 29 ((s.1 28 2).toInt.toNat))] s (fun s1 => (am_SpV 89 [.ref 28] s1 (fun s2 => (Ψ (s.1 28 2) s2))))))))
set_option maxRecDepth 100000 in
theorem wp_X_back_ok {Ψ : Int32 → sg_S → Prop} {s : sg_S} (h : wp_X_back Ψ  s) : am_SpI 135 [.ref 0] s Ψ := by
  refine am_SpI.mk (r := am_r135) rfl rfl (fun call d al n hcl => ?_)
  unfold wp_X_back at h
  refine am_Pn.bl 1 (y := (1, [some (.ref 0), none], [.ref 0], sg_h s, 0, 0)) rfl ?_
  refine am_Pn.gr (k := 5) rfl rfl am_o0 rfl rfl ?_
  refine am_Pn.gi (k := 2) rfl rfl am_o28 rfl rfl ?_
  refine am_Pn.bl 3 (y := (10, [some (.ref 0), some (.int (s.1 28 2))], [.int (Int32.ofInt (1)), .int (s.1 28 2)], sg_h s, 0, 0)) rfl ?_
  refine am_Pn.bF h (am_bge rfl rfl) rfl rfl (fun h => ?_) (fun h => ?_)
  · refine am_Pn.bl 1 (y := (16, [some (.ref 0), some (.int (s.1 28 2))], [.ref 0], sg_h s, 0, 0)) rfl ?_
    refine am_Pn.gr (k := 4) rfl rfl am_o0 rfl rfl ?_
    refine am_Pn.bl 1 (y := (20, [some (.ref 0), some (.int (s.1 28 2))], [.ref 0, .ref 24], sg_h s, 0, 0)) rfl ?_
    refine am_Pn.gr (k := 5) rfl rfl am_o0 rfl rfl ?_
    refine am_Pn.gr (k := 4) rfl rfl am_o28 rfl rfl ?_
    refine am_Pn.bl 1 (y := (27, [some (.ref 0), some (.int (s.1 28 2))], [.int (s.1 28 2), .ref 29, .ref 24], sg_h s, 0, 0)) rfl ?_
    refine am_Pn.ia (a := 29) rfl rfl rfl rfl (fun hi => ?_)
    replace h := h (am_in0 hi) (am_in1 hi)
    refine am_Pn.cvV hcl h rfl rfl rfl rfl rfl (fun s1 h => ?_)
    refine am_Pn.bl 1 (y := (32, [some (.ref 0), some (.int (s.1 28 2))], [.ref 0], sg_h s1, 0, 0)) rfl ?_
    refine am_Pn.gr (k := 5) rfl rfl am_o0 rfl rfl ?_
    refine am_Pn.cvV hcl h rfl rfl rfl rfl rfl (fun s2 h => ?_)
    refine am_Pn.bl 1 (y := (39, [some (.ref 0), some (.int (s.1 28 2))], [.int (s.1 28 2)], sg_h s2, 0, 0)) rfl ?_
    exact am_Pn.rI h rfl
  · refine am_Pn.bl 1 (y := (14, [some (.ref 0), some (.int (s.1 28 2))], [.int (Int32.ofInt (-1))], sg_h s, 0, 0)) rfl ?_
    exact am_Pn.rI h rfl
def wp_X_worn (Ψ : Int32 → sg_S → Prop) (x1 : Int32) (x2 : Int32) (s : sg_S) : Prop := (am_SpI 91 [.ref 28, .int x1] s (fun x3 s3 => ((x3.toInt = (0) → (Ψ (Int32.ofInt (0)) s3)) ∧ (¬ x3.toInt = (0) → (am_SpI 90 [.ref 28, .int x1, .int x2] s3 (fun x4 s4 => ((x4.toInt = (0) → (Ψ (Int32.ofInt (0)) s4)) ∧ (¬ x4.toInt = (0) → (Ψ (Int32.ofInt (1)) s4)))))))))
set_option maxRecDepth 100000 in
theorem wp_X_worn_ok {Ψ : Int32 → sg_S → Prop} {x1 : Int32} {x2 : Int32} {s : sg_S} (h : wp_X_worn Ψ x1 x2 s) : am_SpI 136 [.ref 0, .int x1, .int x2] s Ψ := by
  refine am_SpI.mk (r := am_r136) rfl rfl (fun call d al n hcl => ?_)
  unfold wp_X_worn at h
  refine am_Pn.bl 1 (y := (1, [some (.ref 0), some (.int x1), some (.int x2)], [.ref 0], sg_h s, 0, 0)) rfl ?_
  refine am_Pn.gr (k := 5) rfl rfl am_o0 rfl rfl ?_
  refine am_Pn.bl 1 (y := (5, [some (.ref 0), some (.int x1), some (.int x2)], [.int x1, .ref 28], sg_h s, 0, 0)) rfl ?_
  refine am_Pn.cvI hcl h rfl rfl rfl rfl rfl (fun x3 s3 h => ?_)
  refine am_Pn.zT h (am_beq rfl rfl) rfl rfl (fun h => ?_) (fun h => ?_)
  · refine am_Pn.bl 1 (y := (28, [some (.ref 0), some (.int x1), some (.int x2)], [.int (Int32.ofInt (0))], sg_h s3, 0, 0)) rfl ?_
    exact am_Pn.rI h rfl
  · refine am_Pn.bl 1 (y := (12, [some (.ref 0), some (.int x1), some (.int x2)], [.ref 0], sg_h s3, 0, 0)) rfl ?_
    refine am_Pn.gr (k := 5) rfl rfl am_o0 rfl rfl ?_
    refine am_Pn.bl 2 (y := (17, [some (.ref 0), some (.int x1), some (.int x2)], [.int x2, .int x1, .ref 28], sg_h s3, 0, 0)) rfl ?_
    refine am_Pn.cvI hcl h rfl rfl rfl rfl rfl (fun x4 s4 h => ?_)
    refine am_Pn.zT h (am_beq rfl rfl) rfl rfl (fun h => ?_) (fun h => ?_)
    · refine am_Pn.bl 1 (y := (28, [some (.ref 0), some (.int x1), some (.int x2)], [.int (Int32.ofInt (0))], sg_h s4, 0, 0)) rfl ?_
      exact am_Pn.rI h rfl
    · refine am_Pn.bl 2 (y := (28, [some (.ref 0), some (.int x1), some (.int x2)], [.int (Int32.ofInt (1))], sg_h s4, 0, 0)) rfl ?_
      exact am_Pn.rI h rfl
def wp_X_verseOf (Ψ : Int32 → sg_S → Prop) (x1 : Int32) (x2 : Int32) (s : sg_S) : Prop := (am_SpI 91 [.ref 28, .int x1] s (fun x3 s3 => ((x3.toInt = (0) → (Ψ (Int32.ofInt (-1)) s3)) ∧ (¬ x3.toInt = (0) → (am_SpI 92 [.ref 28, .int x1, .int x2] s3 (fun x4 s4 => (Ψ x4 s4)))))))
set_option maxRecDepth 100000 in
theorem wp_X_verseOf_ok {Ψ : Int32 → sg_S → Prop} {x1 : Int32} {x2 : Int32} {s : sg_S} (h : wp_X_verseOf Ψ x1 x2 s) : am_SpI 144 [.ref 0, .int x1, .int x2] s Ψ := by
  refine am_SpI.mk (r := am_r144) rfl rfl (fun call d al n hcl => ?_)
  unfold wp_X_verseOf at h
  refine am_Pn.bl 1 (y := (1, [some (.ref 0), some (.int x1), some (.int x2)], [.ref 0], sg_h s, 0, 0)) rfl ?_
  refine am_Pn.gr (k := 5) rfl rfl am_o0 rfl rfl ?_
  refine am_Pn.bl 1 (y := (5, [some (.ref 0), some (.int x1), some (.int x2)], [.int x1, .ref 28], sg_h s, 0, 0)) rfl ?_
  refine am_Pn.cvI hcl h rfl rfl rfl rfl rfl (fun x3 s3 h => ?_)
  refine am_Pn.zT h (am_beq rfl rfl) rfl rfl (fun h => ?_) (fun h => ?_)
  · refine am_Pn.bl 1 (y := (24, [some (.ref 0), some (.int x1), some (.int x2)], [.int (Int32.ofInt (-1))], sg_h s3, 0, 0)) rfl ?_
    exact am_Pn.rI h rfl
  · refine am_Pn.bl 1 (y := (12, [some (.ref 0), some (.int x1), some (.int x2)], [.ref 0], sg_h s3, 0, 0)) rfl ?_
    refine am_Pn.gr (k := 5) rfl rfl am_o0 rfl rfl ?_
    refine am_Pn.bl 2 (y := (17, [some (.ref 0), some (.int x1), some (.int x2)], [.int x2, .int x1, .ref 28], sg_h s3, 0, 0)) rfl ?_
    refine am_Pn.cvI hcl h rfl rfl rfl rfl rfl (fun x4 s4 h => ?_)
    refine am_Pn.bl 1 (y := (24, [some (.ref 0), some (.int x1), some (.int x2)], [.int x4], sg_h s4, 0, 0)) rfl ?_
    exact am_Pn.rI h rfl
def wp_X_poetOf (Ψ : Int32 → sg_S → Prop) (x1 : Int32) (x2 : Int32) (s : sg_S) : Prop := ((x1.toInt < (0) → (Ψ (Int32.ofInt (-1)) s)) ∧ (¬ x1.toInt < (0) → ((x1.toInt < (s.1 24 0).toInt → ((x2.toInt = (0) → (0 ≤ x1.toInt → x1.toInt < (12) → (Ψ (s.2.2.1 25 (x1.toInt.toNat)) s))) ∧ (x2.toInt = (1) → (0 ≤ x1.toInt → x1.toInt < (12) → (Ψ (s.2.2.1 26 (x1.toInt.toNat)) s))) ∧ (x2.toInt = (2) → (0 ≤ x1.toInt → x1.toInt < (12) → (((s.2.2.1 27 (x1.toInt.toNat)).toInt = (0) → (Ψ (Int32.ofInt (0)) s)) ∧ (¬ (s.2.2.1 27 (x1.toInt.toNat)).toInt = (0) → (Ψ (Int32.ofInt (1)) s))))) ∧ ((x2.toInt < (0) ∨ (2) < x2.toInt) → (Ψ (Int32.ofInt (-1)) s)))) ∧ (¬ x1.toInt < (s.1 24 0).toInt → (Ψ (Int32.ofInt (-1)) s)))))
set_option maxRecDepth 100000 in
theorem wp_X_poetOf_ok {Ψ : Int32 → sg_S → Prop} {x1 : Int32} {x2 : Int32} {s : sg_S} (h : wp_X_poetOf Ψ x1 x2 s) : am_SpI 145 [.ref 0, .int x1, .int x2] s Ψ := by
  refine am_SpI.mk (r := am_r145) rfl rfl (fun call d al n hcl => ?_)
  unfold wp_X_poetOf at h
  refine am_Pn.bl 1 (y := (1, [some (.ref 0), some (.int x1), some (.int x2)], [.int x1], sg_h s, 0, 0)) rfl ?_
  refine am_Pn.zT h (am_blt rfl rfl) rfl rfl (fun h => ?_) (fun h => ?_)
  · refine am_Pn.bl 1 (y := (16, [some (.ref 0), some (.int x1), some (.int x2)], [.int (Int32.ofInt (-1))], sg_h s, 0, 0)) rfl ?_
    exact am_Pn.rI h rfl
  · refine am_Pn.bl 2 (y := (6, [some (.ref 0), some (.int x1), some (.int x2)], [.ref 0, .int x1], sg_h s, 0, 0)) rfl ?_
    refine am_Pn.gr (k := 4) rfl rfl am_o0 rfl rfl ?_
    refine am_Pn.gi (k := 0) rfl rfl am_o24 rfl rfl ?_
    refine am_Pn.bT h (am_blt rfl rfl) rfl rfl (fun h => ?_) (fun h => ?_)
    · refine am_Pn.bl 1 (y := (18, [some (.ref 0), some (.int x1), some (.int x2)], [.int x2], sg_h s, 0, 0)) rfl ?_
      by_cases hs3 : x2.toInt = (0)
      · replace h := h.1 hs3
        refine am_Pn.tj (lo := 0) 0 (hs3.trans (by decide)) rfl rfl rfl rfl ?_
        refine am_Pn.bl 1 (y := (45, [some (.ref 0), some (.int x1), some (.int x2)], [.ref 0], sg_h s, 0, 0)) rfl ?_
        refine am_Pn.gr (k := 4) rfl rfl am_o0 rfl rfl ?_
        refine am_Pn.gr (k := 1) rfl rfl am_o24 rfl rfl ?_
        refine am_Pn.bl 1 (y := (52, [some (.ref 0), some (.int x1), some (.int x2)], [.int x1, .ref 25], sg_h s, 0, 0)) rfl ?_
        refine am_Pn.ia (a := 25) rfl rfl rfl rfl (fun hi => ?_)
        replace h := h (am_in0 hi) (am_in1 hi)
        exact am_Pn.rI h rfl
      replace h := h.2
      by_cases hs4 : x2.toInt = (1)
      · replace h := h.1 hs4
        refine am_Pn.tj (lo := 0) 1 (hs4.trans (by decide)) rfl rfl rfl rfl ?_
        refine am_Pn.bl 1 (y := (55, [some (.ref 0), some (.int x1), some (.int x2)], [.ref 0], sg_h s, 0, 0)) rfl ?_
        refine am_Pn.gr (k := 4) rfl rfl am_o0 rfl rfl ?_
        refine am_Pn.gr (k := 2) rfl rfl am_o24 rfl rfl ?_
        refine am_Pn.bl 1 (y := (62, [some (.ref 0), some (.int x1), some (.int x2)], [.int x1, .ref 26], sg_h s, 0, 0)) rfl ?_
        refine am_Pn.ia (a := 26) rfl rfl rfl rfl (fun hi => ?_)
        replace h := h (am_in0 hi) (am_in1 hi)
        exact am_Pn.rI h rfl
      replace h := h.2
      by_cases hs5 : x2.toInt = (2)
      · replace h := h.1 hs5
        refine am_Pn.tj (lo := 0) 2 (hs5.trans (by decide)) rfl rfl rfl rfl ?_
        refine am_Pn.bl 1 (y := (65, [some (.ref 0), some (.int x1), some (.int x2)], [.ref 0], sg_h s, 0, 0)) rfl ?_
        refine am_Pn.gr (k := 4) rfl rfl am_o0 rfl rfl ?_
        refine am_Pn.gr (k := 3) rfl rfl am_o24 rfl rfl ?_
        refine am_Pn.bl 1 (y := (72, [some (.ref 0), some (.int x1), some (.int x2)], [.int x1, .ref 27], sg_h s, 0, 0)) rfl ?_
        refine am_Pn.ba (a := 27) rfl rfl rfl rfl (fun hi => ?_)
        replace h := h (am_in0 hi) (am_in1 hi)
        refine am_Pn.zT h (am_beq rfl rfl) rfl rfl (fun h => ?_) (fun h => ?_)
        · refine am_Pn.bl 1 (y := (81, [some (.ref 0), some (.int x1), some (.int x2)], [.int (Int32.ofInt (0))], sg_h s, 0, 0)) rfl ?_
          exact am_Pn.rI h rfl
        · refine am_Pn.bl 2 (y := (81, [some (.ref 0), some (.int x1), some (.int x2)], [.int (Int32.ofInt (1))], sg_h s, 0, 0)) rfl ?_
          exact am_Pn.rI h rfl
      replace h := h.2
      have hsd6 : x2.toInt < (0) ∨ (2) < x2.toInt := by omega
      refine am_Pn.td (lo := 0) (hi := 2) hsd6 rfl rfl ?_
      replace h := h (by omega)
      refine am_Pn.bl 1 (y := (83, [some (.ref 0), some (.int x1), some (.int x2)], [.int (Int32.ofInt (-1))], sg_h s, 0, 0)) rfl ?_
      exact am_Pn.rI h rfl
    · refine am_Pn.bl 1 (y := (16, [some (.ref 0), some (.int x1), some (.int x2)], [.int (Int32.ofInt (-1))], sg_h s, 0, 0)) rfl ?_
      exact am_Pn.rI h rfl
def wp_X_ruleOf (Ψ : Int32 → sg_S → Prop) (x1 : Int32) (x2 : Int32) (s : sg_S) : Prop := ((x1.toInt < (0) → (Ψ (Int32.ofInt (-1)) s)) ∧ (¬ x1.toInt < (0) → ((x1.toInt < (s.1 1 2).toInt → ((x2.toInt = (0) → (0 ≤ x1.toInt → x1.toInt < (12) → (Ψ (s.2.2.1 4 (x1.toInt.toNat)) s))) ∧ (x2.toInt = (1) → (0 ≤ x1.toInt → x1.toInt < (12) → (Ψ (s.2.2.1 5 (x1.toInt.toNat)) s))) ∧ (x2.toInt = (2) → (0 ≤ x1.toInt → x1.toInt < (12) → (Ψ (s.2.2.1 6 (x1.toInt.toNat)) s))) ∧ (x2.toInt = (3) → (0 ≤ x1.toInt → x1.toInt < (12) → (Ψ (s.2.2.1 7 (x1.toInt.toNat)) s))) ∧ (x2.toInt = (4) → (0 ≤ x1.toInt → x1.toInt < (12) → (am_SpI 94 [.ref 28, .int (s.2.2.1 5 (x1.toInt.toNat))] s (fun x8 s8 => (Ψ x8 s8))))) ∧ ((x2.toInt < (0) ∨ (4) < x2.toInt) → (Ψ (Int32.ofInt (-1)) s)))) ∧ (¬ x1.toInt < (s.1 1 2).toInt → (Ψ (Int32.ofInt (-1)) s)))))
set_option maxRecDepth 100000 in
theorem wp_X_ruleOf_ok {Ψ : Int32 → sg_S → Prop} {x1 : Int32} {x2 : Int32} {s : sg_S} (h : wp_X_ruleOf Ψ x1 x2 s) : am_SpI 146 [.ref 0, .int x1, .int x2] s Ψ := by
  refine am_SpI.mk (r := am_r146) rfl rfl (fun call d al n hcl => ?_)
  unfold wp_X_ruleOf at h
  refine am_Pn.bl 1 (y := (1, [some (.ref 0), some (.int x1), some (.int x2)], [.int x1], sg_h s, 0, 0)) rfl ?_
  refine am_Pn.zT h (am_blt rfl rfl) rfl rfl (fun h => ?_) (fun h => ?_)
  · refine am_Pn.bl 1 (y := (16, [some (.ref 0), some (.int x1), some (.int x2)], [.int (Int32.ofInt (-1))], sg_h s, 0, 0)) rfl ?_
    exact am_Pn.rI h rfl
  · refine am_Pn.bl 2 (y := (6, [some (.ref 0), some (.int x1), some (.int x2)], [.ref 0, .int x1], sg_h s, 0, 0)) rfl ?_
    refine am_Pn.gr (k := 1) rfl rfl am_o0 rfl rfl ?_
    refine am_Pn.gi (k := 2) rfl rfl am_o1 rfl rfl ?_
    refine am_Pn.bT h (am_blt rfl rfl) rfl rfl (fun h => ?_) (fun h => ?_)
    · refine am_Pn.bl 1 (y := (18, [some (.ref 0), some (.int x1), some (.int x2)], [.int x2], sg_h s, 0, 0)) rfl ?_
      by_cases hs3 : x2.toInt = (0)
      · replace h := h.1 hs3
        refine am_Pn.tj (lo := 0) 0 (hs3.trans (by decide)) rfl rfl rfl rfl ?_
        refine am_Pn.bl 1 (y := (53, [some (.ref 0), some (.int x1), some (.int x2)], [.ref 0], sg_h s, 0, 0)) rfl ?_
        refine am_Pn.gr (k := 1) rfl rfl am_o0 rfl rfl ?_
        refine am_Pn.gr (k := 8) rfl rfl am_o1 rfl rfl ?_
        refine am_Pn.bl 1 (y := (60, [some (.ref 0), some (.int x1), some (.int x2)], [.int x1, .ref 4], sg_h s, 0, 0)) rfl ?_
        refine am_Pn.ia (a := 4) rfl rfl rfl rfl (fun hi => ?_)
        replace h := h (am_in0 hi) (am_in1 hi)
        exact am_Pn.rI h rfl
      replace h := h.2
      by_cases hs4 : x2.toInt = (1)
      · replace h := h.1 hs4
        refine am_Pn.tj (lo := 0) 1 (hs4.trans (by decide)) rfl rfl rfl rfl ?_
        refine am_Pn.bl 1 (y := (63, [some (.ref 0), some (.int x1), some (.int x2)], [.ref 0], sg_h s, 0, 0)) rfl ?_
        refine am_Pn.gr (k := 1) rfl rfl am_o0 rfl rfl ?_
        refine am_Pn.gr (k := 9) rfl rfl am_o1 rfl rfl ?_
        refine am_Pn.bl 1 (y := (70, [some (.ref 0), some (.int x1), some (.int x2)], [.int x1, .ref 5], sg_h s, 0, 0)) rfl ?_
        refine am_Pn.ia (a := 5) rfl rfl rfl rfl (fun hi => ?_)
        replace h := h (am_in0 hi) (am_in1 hi)
        exact am_Pn.rI h rfl
      replace h := h.2
      by_cases hs5 : x2.toInt = (2)
      · replace h := h.1 hs5
        refine am_Pn.tj (lo := 0) 2 (hs5.trans (by decide)) rfl rfl rfl rfl ?_
        refine am_Pn.bl 1 (y := (73, [some (.ref 0), some (.int x1), some (.int x2)], [.ref 0], sg_h s, 0, 0)) rfl ?_
        refine am_Pn.gr (k := 1) rfl rfl am_o0 rfl rfl ?_
        refine am_Pn.gr (k := 10) rfl rfl am_o1 rfl rfl ?_
        refine am_Pn.bl 1 (y := (80, [some (.ref 0), some (.int x1), some (.int x2)], [.int x1, .ref 6], sg_h s, 0, 0)) rfl ?_
        refine am_Pn.ia (a := 6) rfl rfl rfl rfl (fun hi => ?_)
        replace h := h (am_in0 hi) (am_in1 hi)
        exact am_Pn.rI h rfl
      replace h := h.2
      by_cases hs6 : x2.toInt = (3)
      · replace h := h.1 hs6
        refine am_Pn.tj (lo := 0) 3 (hs6.trans (by decide)) rfl rfl rfl rfl ?_
        refine am_Pn.bl 1 (y := (83, [some (.ref 0), some (.int x1), some (.int x2)], [.ref 0], sg_h s, 0, 0)) rfl ?_
        refine am_Pn.gr (k := 1) rfl rfl am_o0 rfl rfl ?_
        refine am_Pn.gr (k := 11) rfl rfl am_o1 rfl rfl ?_
        refine am_Pn.bl 1 (y := (90, [some (.ref 0), some (.int x1), some (.int x2)], [.int x1, .ref 7], sg_h s, 0, 0)) rfl ?_
        refine am_Pn.ia (a := 7) rfl rfl rfl rfl (fun hi => ?_)
        replace h := h (am_in0 hi) (am_in1 hi)
        exact am_Pn.rI h rfl
      replace h := h.2
      by_cases hs7 : x2.toInt = (4)
      · replace h := h.1 hs7
        refine am_Pn.tj (lo := 0) 4 (hs7.trans (by decide)) rfl rfl rfl rfl ?_
        refine am_Pn.bl 1 (y := (93, [some (.ref 0), some (.int x1), some (.int x2)], [.ref 0], sg_h s, 0, 0)) rfl ?_
        refine am_Pn.gr (k := 5) rfl rfl am_o0 rfl rfl ?_
        refine am_Pn.bl 1 (y := (97, [some (.ref 0), some (.int x1), some (.int x2)], [.ref 0, .ref 28], sg_h s, 0, 0)) rfl ?_
        refine am_Pn.gr (k := 1) rfl rfl am_o0 rfl rfl ?_
        refine am_Pn.gr (k := 9) rfl rfl am_o1 rfl rfl ?_
        refine am_Pn.bl 1 (y := (104, [some (.ref 0), some (.int x1), some (.int x2)], [.int x1, .ref 5, .ref 28], sg_h s, 0, 0)) rfl ?_
        refine am_Pn.ia (a := 5) rfl rfl rfl rfl (fun hi => ?_)
        replace h := h (am_in0 hi) (am_in1 hi)
        refine am_Pn.cvI hcl h rfl rfl rfl rfl rfl (fun x8 s8 h => ?_)
        exact am_Pn.rI h rfl
      replace h := h.2
      have hsd9 : x2.toInt < (0) ∨ (4) < x2.toInt := by omega
      refine am_Pn.td (lo := 0) (hi := 4) hsd9 rfl rfl ?_
      replace h := h (by omega)
      refine am_Pn.bl 1 (y := (110, [some (.ref 0), some (.int x1), some (.int x2)], [.int (Int32.ofInt (-1))], sg_h s, 0, 0)) rfl ?_
      exact am_Pn.rI h rfl
    · refine am_Pn.bl 1 (y := (16, [some (.ref 0), some (.int x1), some (.int x2)], [.int (Int32.ofInt (-1))], sg_h s, 0, 0)) rfl ?_
      exact am_Pn.rI h rfl
