/-! ===== what the small calls ask (printed by wip/ab/vg_small.py) ===== -/
def wp_X_isYear (Ψ : Int32 → sg_S → Prop) (x1 : Int32) (s : sg_S) : Prop := ((x1.toInt < (0) → (Ψ (Int32.ofInt (0)) s)) ∧ (¬ x1.toInt < (0) → (((9999) < x1.toInt → (Ψ (Int32.ofInt (0)) s)) ∧ (¬ (9999) < x1.toInt → (Ψ (Int32.ofInt (1)) s)))))
set_option maxRecDepth 100000 in
theorem wp_X_isYear_ok {Ψ : Int32 → sg_S → Prop} {x1 : Int32} {s : sg_S} (h : wp_X_isYear Ψ x1 s) : am_SpI 126 [.int x1] s Ψ := by
  refine am_SpI.mk (r := am_r126) rfl rfl (fun call d al n hcl => ?_)
  unfold wp_X_isYear at h
  refine am_Pn.bl 1 (y := (1, [some (.int x1)], [.int x1], sg_h s, 0, 0)) rfl ?_
  refine am_Pn.zT h (am_blt rfl rfl) rfl rfl (fun h => ?_) (fun h => ?_)
  · refine am_Pn.bl 1 (y := (16, [some (.int x1)], [.int (Int32.ofInt (0))], sg_h s, 0, 0)) rfl ?_
    exact am_Pn.rI h rfl
  · refine am_Pn.bl 2 (y := (8, [some (.int x1)], [.int (Int32.ofInt (9999)), .int x1], sg_h s, 0, 0)) rfl ?_
    refine am_Pn.bT h (am_bgt rfl rfl) rfl rfl (fun h => ?_) (fun h => ?_)
    · refine am_Pn.bl 1 (y := (16, [some (.int x1)], [.int (Int32.ofInt (0))], sg_h s, 0, 0)) rfl ?_
      exact am_Pn.rI h rfl
    · refine am_Pn.bl 2 (y := (16, [some (.int x1)], [.int (Int32.ofInt (1))], sg_h s, 0, 0)) rfl ?_
      exact am_Pn.rI h rfl
def wp_X_isWord (Ψ : Int32 → sg_S → Prop) (x1 : Int32) (s : sg_S) : Prop := ((x1.toInt < (0) → (Ψ (Int32.ofInt (0)) s)) ∧ (¬ x1.toInt < (0) → ((x1.toInt < (30) → (Ψ (Int32.ofInt (1)) s)) ∧ (¬ x1.toInt < (30) → (Ψ (Int32.ofInt (0)) s)))))
set_option maxRecDepth 100000 in
theorem wp_X_isWord_ok {Ψ : Int32 → sg_S → Prop} {x1 : Int32} {s : sg_S} (h : wp_X_isWord Ψ x1 s) : am_SpI 128 [.int x1] s Ψ := by
  refine am_SpI.mk (r := am_r128) rfl rfl (fun call d al n hcl => ?_)
  unfold wp_X_isWord at h
  refine am_Pn.bl 1 (y := (1, [some (.int x1)], [.int x1], sg_h s, 0, 0)) rfl ?_
  refine am_Pn.zT h (am_blt rfl rfl) rfl rfl (fun h => ?_) (fun h => ?_)
  · refine am_Pn.bl 1 (y := (15, [some (.int x1)], [.int (Int32.ofInt (0))], sg_h s, 0, 0)) rfl ?_
    exact am_Pn.rI h rfl
  · refine am_Pn.bl 2 (y := (7, [some (.int x1)], [.int (Int32.ofInt (30)), .int x1], sg_h s, 0, 0)) rfl ?_
    refine am_Pn.bF h (am_bge rfl rfl) rfl rfl (fun h => ?_) (fun h => ?_)
    · refine am_Pn.bl 1 (y := (15, [some (.int x1)], [.int (Int32.ofInt (0))], sg_h s, 0, 0)) rfl ?_
      exact am_Pn.rI h rfl
    · refine am_Pn.bl 2 (y := (15, [some (.int x1)], [.int (Int32.ofInt (1))], sg_h s, 0, 0)) rfl ?_
      exact am_Pn.rI h rfl
def wp_X_areWords (Ψ : Int32 → sg_S → Prop) (x1 : Int32) (x2 : Int32) (x3 : Int32) (s : sg_S) : Prop := ((x1.toInt = (-1) → ((x2.toInt = (-1) → ((x3.toInt = (-1) → (Ψ (Int32.ofInt (1)) s)) ∧ (¬ x3.toInt = (-1) → (am_SpI 128 [.int x3] s (fun x4 s4 => ((x4.toInt = (0) → (Ψ (Int32.ofInt (0)) s4)) ∧ (¬ x4.toInt = (0) → (Ψ (Int32.ofInt (1)) s4)))))))) ∧ (¬ x2.toInt = (-1) → (am_SpI 128 [.int x2] s (fun x5 s5 => ((x5.toInt = (0) → (Ψ (Int32.ofInt (0)) s5)) ∧ (¬ x5.toInt = (0) → ((x3.toInt = (-1) → (Ψ (Int32.ofInt (1)) s5)) ∧ (¬ x3.toInt = (-1) → (am_SpI 128 [.int x3] s5 (fun x6 s6 => ((x6.toInt = (0) → (Ψ (Int32.ofInt (0)) s6)) ∧ (¬ x6.toInt = (0) → (Ψ (Int32.ofInt (1)) s6)))))))))))))) ∧ (¬ x1.toInt = (-1) → (am_SpI 128 [.int x1] s (fun x7 s7 => ((x7.toInt = (0) → (Ψ (Int32.ofInt (0)) s7)) ∧ (¬ x7.toInt = (0) → ((x2.toInt = (-1) → ((x3.toInt = (-1) → (Ψ (Int32.ofInt (1)) s7)) ∧ (¬ x3.toInt = (-1) → (am_SpI 128 [.int x3] s7 (fun x8 s8 => ((x8.toInt = (0) → (Ψ (Int32.ofInt (0)) s8)) ∧ (¬ x8.toInt = (0) → (Ψ (Int32.ofInt (1)) s8)))))))) ∧ (¬ x2.toInt = (-1) → (am_SpI 128 [.int x2] s7 (fun x9 s9 => ((x9.toInt = (0) → (Ψ (Int32.ofInt (0)) s9)) ∧ (¬ x9.toInt = (0) → ((x3.toInt = (-1) → (Ψ (Int32.ofInt (1)) s9)) ∧ (¬ x3.toInt = (-1) → (am_SpI 128 [.int x3] s9 (fun x10 s10 => ((x10.toInt = (0) → (Ψ (Int32.ofInt (0)) s10)) ∧ (¬ x10.toInt = (0) → (Ψ (Int32.ofInt (1)) s10)))))))))))))))))))
set_option maxRecDepth 100000 in
theorem wp_X_areWords_ok {Ψ : Int32 → sg_S → Prop} {x1 : Int32} {x2 : Int32} {x3 : Int32} {s : sg_S} (h : wp_X_areWords Ψ x1 x2 x3 s) : am_SpI 132 [.int x1, .int x2, .int x3] s Ψ := by
  refine am_SpI.mk (r := am_r132) rfl rfl (fun call d al n hcl => ?_)
  unfold wp_X_areWords at h
  refine am_Pn.bl 2 (y := (2, [some (.int x1), some (.int x2), some (.int x3)], [.int (Int32.ofInt (-1)), .int x1], sg_h s, 0, 0)) rfl ?_
  refine am_Pn.bT h (am_beq rfl rfl) rfl rfl (fun h => ?_) (fun h => ?_)
  · refine am_Pn.bl 2 (y := (14, [some (.int x1), some (.int x2), some (.int x3)], [.int (Int32.ofInt (-1)), .int x2], sg_h s, 0, 0)) rfl ?_
    refine am_Pn.bT h (am_beq rfl rfl) rfl rfl (fun h => ?_) (fun h => ?_)
    · refine am_Pn.bl 2 (y := (26, [some (.int x1), some (.int x2), some (.int x3)], [.int (Int32.ofInt (-1)), .int x3], sg_h s, 0, 0)) rfl ?_
      refine am_Pn.bT h (am_beq rfl rfl) rfl rfl (fun h => ?_) (fun h => ?_)
      · refine am_Pn.bl 2 (y := (41, [some (.int x1), some (.int x2), some (.int x3)], [.int (Int32.ofInt (1))], sg_h s, 0, 0)) rfl ?_
        exact am_Pn.rI h rfl
      · refine am_Pn.bl 1 (y := (30, [some (.int x1), some (.int x2), some (.int x3)], [.int x3], sg_h s, 0, 0)) rfl ?_
        refine am_Pn.csI hcl h rfl rfl rfl rfl rfl (fun x4 s4 h => ?_)
        refine am_Pn.zT h (am_beq rfl rfl) rfl rfl (fun h => ?_) (fun h => ?_)
        · refine am_Pn.bl 1 (y := (41, [some (.int x1), some (.int x2), some (.int x3)], [.int (Int32.ofInt (0))], sg_h s4, 0, 0)) rfl ?_
          exact am_Pn.rI h rfl
        · refine am_Pn.bl 2 (y := (41, [some (.int x1), some (.int x2), some (.int x3)], [.int (Int32.ofInt (1))], sg_h s4, 0, 0)) rfl ?_
          exact am_Pn.rI h rfl
    · refine am_Pn.bl 1 (y := (18, [some (.int x1), some (.int x2), some (.int x3)], [.int x2], sg_h s, 0, 0)) rfl ?_
      refine am_Pn.csI hcl h rfl rfl rfl rfl rfl (fun x5 s5 h => ?_)
      refine am_Pn.zT h (am_beq rfl rfl) rfl rfl (fun h => ?_) (fun h => ?_)
      · refine am_Pn.bl 1 (y := (41, [some (.int x1), some (.int x2), some (.int x3)], [.int (Int32.ofInt (0))], sg_h s5, 0, 0)) rfl ?_
        exact am_Pn.rI h rfl
      · refine am_Pn.bl 2 (y := (26, [some (.int x1), some (.int x2), some (.int x3)], [.int (Int32.ofInt (-1)), .int x3], sg_h s5, 0, 0)) rfl ?_
        refine am_Pn.bT h (am_beq rfl rfl) rfl rfl (fun h => ?_) (fun h => ?_)
        · refine am_Pn.bl 2 (y := (41, [some (.int x1), some (.int x2), some (.int x3)], [.int (Int32.ofInt (1))], sg_h s5, 0, 0)) rfl ?_
          exact am_Pn.rI h rfl
        · refine am_Pn.bl 1 (y := (30, [some (.int x1), some (.int x2), some (.int x3)], [.int x3], sg_h s5, 0, 0)) rfl ?_
          refine am_Pn.csI hcl h rfl rfl rfl rfl rfl (fun x6 s6 h => ?_)
          refine am_Pn.zT h (am_beq rfl rfl) rfl rfl (fun h => ?_) (fun h => ?_)
          · refine am_Pn.bl 1 (y := (41, [some (.int x1), some (.int x2), some (.int x3)], [.int (Int32.ofInt (0))], sg_h s6, 0, 0)) rfl ?_
            exact am_Pn.rI h rfl
          · refine am_Pn.bl 2 (y := (41, [some (.int x1), some (.int x2), some (.int x3)], [.int (Int32.ofInt (1))], sg_h s6, 0, 0)) rfl ?_
            exact am_Pn.rI h rfl
  · refine am_Pn.bl 1 (y := (6, [some (.int x1), some (.int x2), some (.int x3)], [.int x1], sg_h s, 0, 0)) rfl ?_
    refine am_Pn.csI hcl h rfl rfl rfl rfl rfl (fun x7 s7 h => ?_)
    refine am_Pn.zT h (am_beq rfl rfl) rfl rfl (fun h => ?_) (fun h => ?_)
    · refine am_Pn.bl 1 (y := (41, [some (.int x1), some (.int x2), some (.int x3)], [.int (Int32.ofInt (0))], sg_h s7, 0, 0)) rfl ?_
      exact am_Pn.rI h rfl
    · refine am_Pn.bl 2 (y := (14, [some (.int x1), some (.int x2), some (.int x3)], [.int (Int32.ofInt (-1)), .int x2], sg_h s7, 0, 0)) rfl ?_
      refine am_Pn.bT h (am_beq rfl rfl) rfl rfl (fun h => ?_) (fun h => ?_)
      · refine am_Pn.bl 2 (y := (26, [some (.int x1), some (.int x2), some (.int x3)], [.int (Int32.ofInt (-1)), .int x3], sg_h s7, 0, 0)) rfl ?_
        refine am_Pn.bT h (am_beq rfl rfl) rfl rfl (fun h => ?_) (fun h => ?_)
        · refine am_Pn.bl 2 (y := (41, [some (.int x1), some (.int x2), some (.int x3)], [.int (Int32.ofInt (1))], sg_h s7, 0, 0)) rfl ?_
          exact am_Pn.rI h rfl
        · refine am_Pn.bl 1 (y := (30, [some (.int x1), some (.int x2), some (.int x3)], [.int x3], sg_h s7, 0, 0)) rfl ?_
          refine am_Pn.csI hcl h rfl rfl rfl rfl rfl (fun x8 s8 h => ?_)
          refine am_Pn.zT h (am_beq rfl rfl) rfl rfl (fun h => ?_) (fun h => ?_)
          · refine am_Pn.bl 1 (y := (41, [some (.int x1), some (.int x2), some (.int x3)], [.int (Int32.ofInt (0))], sg_h s8, 0, 0)) rfl ?_
            exact am_Pn.rI h rfl
          · refine am_Pn.bl 2 (y := (41, [some (.int x1), some (.int x2), some (.int x3)], [.int (Int32.ofInt (1))], sg_h s8, 0, 0)) rfl ?_
            exact am_Pn.rI h rfl
      · refine am_Pn.bl 1 (y := (18, [some (.int x1), some (.int x2), some (.int x3)], [.int x2], sg_h s7, 0, 0)) rfl ?_
        refine am_Pn.csI hcl h rfl rfl rfl rfl rfl (fun x9 s9 h => ?_)
        refine am_Pn.zT h (am_beq rfl rfl) rfl rfl (fun h => ?_) (fun h => ?_)
        · refine am_Pn.bl 1 (y := (41, [some (.int x1), some (.int x2), some (.int x3)], [.int (Int32.ofInt (0))], sg_h s9, 0, 0)) rfl ?_
          exact am_Pn.rI h rfl
        · refine am_Pn.bl 2 (y := (26, [some (.int x1), some (.int x2), some (.int x3)], [.int (Int32.ofInt (-1)), .int x3], sg_h s9, 0, 0)) rfl ?_
          refine am_Pn.bT h (am_beq rfl rfl) rfl rfl (fun h => ?_) (fun h => ?_)
          · refine am_Pn.bl 2 (y := (41, [some (.int x1), some (.int x2), some (.int x3)], [.int (Int32.ofInt (1))], sg_h s9, 0, 0)) rfl ?_
            exact am_Pn.rI h rfl
          · refine am_Pn.bl 1 (y := (30, [some (.int x1), some (.int x2), some (.int x3)], [.int x3], sg_h s9, 0, 0)) rfl ?_
            refine am_Pn.csI hcl h rfl rfl rfl rfl rfl (fun x10 s10 h => ?_)
            refine am_Pn.zT h (am_beq rfl rfl) rfl rfl (fun h => ?_) (fun h => ?_)
            · refine am_Pn.bl 1 (y := (41, [some (.int x1), some (.int x2), some (.int x3)], [.int (Int32.ofInt (0))], sg_h s10, 0, 0)) rfl ?_
              exact am_Pn.rI h rfl
            · refine am_Pn.bl 2 (y := (41, [some (.int x1), some (.int x2), some (.int x3)], [.int (Int32.ofInt (1))], sg_h s10, 0, 0)) rfl ?_
              exact am_Pn.rI h rfl
def wp_XRules_isSet_1 (Ψ : Int32 → sg_S → Prop) (x1 : Int32) (s : sg_S) : Prop := ((x1.toInt < (0) → (Ψ (Int32.ofInt (0)) s)) ∧ (¬ x1.toInt < (0) → ((x1.toInt < ((Int32.ofInt (1)) <<< ((s.1 1 0) &&& 31)).toInt → (Ψ (Int32.ofInt (1)) s)) ∧ (¬ x1.toInt < ((Int32.ofInt (1)) <<< ((s.1 1 0) &&& 31)).toInt → (Ψ (Int32.ofInt (0)) s)))))
set_option maxRecDepth 100000 in
theorem wp_XRules_isSet_1_ok {Ψ : Int32 → sg_S → Prop} {x1 : Int32} {s : sg_S} (h : wp_XRules_isSet_1 Ψ x1 s) : am_SpI 72 [.ref 1, .int x1] s Ψ := by
  refine am_SpI.mk (r := am_r72) rfl rfl (fun call d al n hcl => ?_)
  unfold wp_XRules_isSet_1 at h
  refine am_Pn.bl 1 (y := (1, [some (.ref 1), some (.int x1)], [.int x1], sg_h s, 0, 0)) rfl ?_
  refine am_Pn.zT h (am_blt rfl rfl) rfl rfl (fun h => ?_) (fun h => ?_)
  · refine am_Pn.bl 1 (y := (19, [some (.ref 1), some (.int x1)], [.int (Int32.ofInt (0))], sg_h s, 0, 0)) rfl ?_
    exact am_Pn.rI h rfl
  · refine am_Pn.bl 3 (y := (7, [some (.ref 1), some (.int x1)], [.ref 1, .int (Int32.ofInt (1)), .int x1], sg_h s, 0, 0)) rfl ?_
    refine am_Pn.gi (k := 0) rfl rfl am_o1 rfl rfl ?_
    refine am_Pn.bl 1 (y := (11, [some (.ref 1), some (.int x1)], [.int ((Int32.ofInt (1)) <<< ((s.1 1 0) &&& 31)), .int x1], sg_h s, 0, 0)) rfl ?_
    refine am_Pn.bF h (am_bge rfl rfl) rfl rfl (fun h => ?_) (fun h => ?_)
    · refine am_Pn.bl 1 (y := (19, [some (.ref 1), some (.int x1)], [.int (Int32.ofInt (0))], sg_h s, 0, 0)) rfl ?_
      exact am_Pn.rI h rfl
    · refine am_Pn.bl 2 (y := (19, [some (.ref 1), some (.int x1)], [.int (Int32.ofInt (1))], sg_h s, 0, 0)) rfl ?_
      exact am_Pn.rI h rfl
def wp_XRules_isKind_1 (Ψ : Int32 → sg_S → Prop) (x1 : Int32) (s : sg_S) : Prop := ((x1.toInt < (0) → (Ψ (Int32.ofInt (0)) s)) ∧ (¬ x1.toInt < (0) → ((x1.toInt < (s.1 1 0).toInt → (Ψ (Int32.ofInt (1)) s)) ∧ (¬ x1.toInt < (s.1 1 0).toInt → (Ψ (Int32.ofInt (0)) s)))))
set_option maxRecDepth 100000 in
theorem wp_XRules_isKind_1_ok {Ψ : Int32 → sg_S → Prop} {x1 : Int32} {s : sg_S} (h : wp_XRules_isKind_1 Ψ x1 s) : am_SpI 73 [.ref 1, .int x1] s Ψ := by
  refine am_SpI.mk (r := am_r73) rfl rfl (fun call d al n hcl => ?_)
  unfold wp_XRules_isKind_1 at h
  refine am_Pn.bl 1 (y := (1, [some (.ref 1), some (.int x1)], [.int x1], sg_h s, 0, 0)) rfl ?_
  refine am_Pn.zT h (am_blt rfl rfl) rfl rfl (fun h => ?_) (fun h => ?_)
  · refine am_Pn.bl 1 (y := (17, [some (.ref 1), some (.int x1)], [.int (Int32.ofInt (0))], sg_h s, 0, 0)) rfl ?_
    exact am_Pn.rI h rfl
  · refine am_Pn.bl 2 (y := (6, [some (.ref 1), some (.int x1)], [.ref 1, .int x1], sg_h s, 0, 0)) rfl ?_
    refine am_Pn.gi (k := 0) rfl rfl am_o1 rfl rfl ?_
    refine am_Pn.bF h (am_bge rfl rfl) rfl rfl (fun h => ?_) (fun h => ?_)
    · refine am_Pn.bl 1 (y := (17, [some (.ref 1), some (.int x1)], [.int (Int32.ofInt (0))], sg_h s, 0, 0)) rfl ?_
      exact am_Pn.rI h rfl
    · refine am_Pn.bl 2 (y := (17, [some (.ref 1), some (.int x1)], [.int (Int32.ofInt (1))], sg_h s, 0, 0)) rfl ?_
      exact am_Pn.rI h rfl
def wp_XBook_put_3 (I3 : Int32 →  sg_S → Prop) (Ψ : Int32 → sg_S → Prop) (x1 : Int32) (x2 : Int32) (x3 : Int32) (l4 : Int32) (s : sg_S) : Prop := ((l4.toInt < (s.1 18 1).toInt → (0 ≤ l4.toInt → l4.toInt < (100) → (((s.2.2.1 19 (l4.toInt.toNat)).toInt = x1.toInt → (((s.2.2.1 20 (l4.toInt.toNat)).toInt = x2.toInt → (Ψ (s.1 18 1) (sg_uA s 21 (l4.toInt.toNat) x3))) ∧ (¬ (s.2.2.1 20 (l4.toInt.toNat)).toInt = x2.toInt → (I3 (l4 + Int32.ofInt (1)) s)))) ∧ (¬ (s.2.2.1 19 (l4.toInt.toNat)).toInt = x1.toInt → (I3 (l4 + Int32.ofInt (1)) s))))) ∧ (¬ l4.toInt < (s.1 18 1).toInt → (((s.1 18 1).toInt < (100) → (0 ≤ (s.1 18 1).toInt → (s.1 18 1).toInt < (100) → (Ψ ((s.1 18 1) + (Int32.ofInt (1))) (sg_uI (sg_uA (sg_uA (sg_uA s 19 ((s.1 18 1).toInt.toNat) x1) 20 ((s.1 18 1).toInt.toNat) x2) 21 ((s.1 18 1).toInt.toNat) x3) 18 1 ((s.1 18 1) + (Int32.ofInt (1))))))) ∧ (¬ (s.1 18 1).toInt < (100) → (Ψ (Int32.ofInt (-1)) s)))))
def wp_XBook_put (I3 : Int32 →  sg_S → Prop) (Ψ : Int32 → sg_S → Prop) (x1 : Int32) (x2 : Int32) (x3 : Int32) (s : sg_S) : Prop := (I3 (Int32.ofInt (0)) s)
set_option maxRecDepth 100000 in
theorem wp_XBook_put_ok {I3 : Int32 →  sg_S → Prop} {Ψ : Int32 → sg_S → Prop} {x1 : Int32} {x2 : Int32} {x3 : Int32} {s : sg_S} (k3 : ∀ (l4 : Int32) (s : sg_S), I3 l4 s → wp_XBook_put_3 I3 Ψ x1 x2 x3 l4 s) (h : wp_XBook_put I3 Ψ x1 x2 x3 s) : am_SpI 2 [.ref 18, .int x1, .int x2, .int x3] s Ψ := by
  refine am_SpI.mk (r := am_r2) rfl rfl (fun call d al n hcl => ?_)
  have key : ∀ n, (∀ (l4 : Int32) (s : sg_S), I3 l4 s → am_Pn call d (0, fun _ => 0) al am_r2 (am_PhI am_r2 Ψ) n (3, [some (.ref 18), some (.int x1), some (.int x2), some (.int x3), some (.int l4)], [], sg_h s, 0, 0)) := by
    intro n
    induction n with
    | zero => exact fun _ _ _ => am_Pn.zero
    | succ n ih =>
      intro l4 s h
      replace h := k3 l4 s h
      unfold wp_XBook_put_3 at h
      refine am_Pn.bl1 1 (y := (6, [some (.ref 18), some (.int x1), some (.int x2), some (.int x3), some (.int l4)], [.ref 18, .int l4], sg_h s, 0, 0)) rfl ?_
      refine am_Pn.gi (k := 1) rfl rfl am_o18 rfl rfl ?_
      refine am_Pn.bF h (am_bge rfl rfl) rfl rfl (fun h => ?_) (fun h => ?_)
      · refine am_Pn.bl 1 (y := (54, [some (.ref 18), some (.int x1), some (.int x2), some (.int x3), some (.int l4)], [.ref 18], sg_h s, 0, 0)) rfl ?_
        refine am_Pn.gi (k := 1) rfl rfl am_o18 rfl rfl ?_
        refine am_Pn.bl 1 (y := (59, [some (.ref 18), some (.int x1), some (.int x2), some (.int x3), some (.int l4)], [.int (Int32.ofInt (100)), .int (s.1 18 1)], sg_h s, 0, 0)) rfl ?_
        refine am_Pn.bT h (am_blt rfl rfl) rfl rfl (fun h => ?_) (fun h => ?_)
        · refine am_Pn.bl 1 (y := (65, [some (.ref 18), some (.int x1), some (.int x2), some (.int x3), some (.int l4)], [.ref 18], sg_h s, 0, 0)) rfl ?_
          refine am_Pn.gr (k := 2) rfl rfl am_o18 rfl rfl ?_
          refine am_Pn.bl 1 (y := (69, [some (.ref 18), some (.int x1), some (.int x2), some (.int x3), some (.int l4)], [.ref 18, .ref 19], sg_h s, 0, 0)) rfl ?_
          refine am_Pn.gi (k := 1) rfl rfl am_o18 rfl rfl ?_
          refine am_Pn.bl 1 (y := (73, [some (.ref 18), some (.int x1), some (.int x2), some (.int x3), some (.int l4)], [.int x1, .int (s.1 18 1), .ref 19], sg_h s, 0, 0)) rfl ?_
          refine am_Pn.is (a := 19) rfl rfl rfl (fun hi => ?_)
          replace h := h (am_in0 hi) (am_in1 hi)
          refine am_Pn.bl 1 (y := (75, [some (.ref 18), some (.int x1), some (.int x2), some (.int x3), some (.int l4)], [.ref 18], sg_h (sg_uA s 19 ((s.1 18 1).toInt.toNat) x1), 0, 0)) rfl ?_
          refine am_Pn.gr (k := 3) rfl rfl am_o18 rfl rfl ?_
          refine am_Pn.bl 1 (y := (79, [some (.ref 18), some (.int x1), some (.int x2), some (.int x3), some (.int l4)], [.ref 18, .ref 20], sg_h (sg_uA s 19 ((s.1 18 1).toInt.toNat) x1), 0, 0)) rfl ?_
          refine am_Pn.gi (k := 1) rfl rfl am_o18 rfl rfl ?_
          refine am_Pn.bl 1 (y := (83, [some (.ref 18), some (.int x1), some (.int x2), some (.int x3), some (.int l4)], [.int x2, .int (s.1 18 1), .ref 20], sg_h (sg_uA s 19 ((s.1 18 1).toInt.toNat) x1), 0, 0)) rfl ?_
          refine am_Pn.is (a := 20) rfl rfl rfl (fun hi => ?_)
          refine am_Pn.bl 1 (y := (85, [some (.ref 18), some (.int x1), some (.int x2), some (.int x3), some (.int l4)], [.ref 18], sg_h (sg_uA (sg_uA s 19 ((s.1 18 1).toInt.toNat) x1) 20 ((s.1 18 1).toInt.toNat) x2), 0, 0)) rfl ?_
          refine am_Pn.gr (k := 4) rfl rfl am_o18 rfl rfl ?_
          refine am_Pn.bl 1 (y := (89, [some (.ref 18), some (.int x1), some (.int x2), some (.int x3), some (.int l4)], [.ref 18, .ref 21], sg_h (sg_uA (sg_uA s 19 ((s.1 18 1).toInt.toNat) x1) 20 ((s.1 18 1).toInt.toNat) x2), 0, 0)) rfl ?_
          refine am_Pn.gi (k := 1) rfl rfl am_o18 rfl rfl ?_
          refine am_Pn.bl 1 (y := (93, [some (.ref 18), some (.int x1), some (.int x2), some (.int x3), some (.int l4)], [.int x3, .int (s.1 18 1), .ref 21], sg_h (sg_uA (sg_uA s 19 ((s.1 18 1).toInt.toNat) x1) 20 ((s.1 18 1).toInt.toNat) x2), 0, 0)) rfl ?_
          refine am_Pn.is (a := 21) rfl rfl rfl (fun hi => ?_)
          refine am_Pn.bl 2 (y := (96, [some (.ref 18), some (.int x1), some (.int x2), some (.int x3), some (.int l4)], [.ref 18, .ref 18], sg_h (sg_uA (sg_uA (sg_uA s 19 ((s.1 18 1).toInt.toNat) x1) 20 ((s.1 18 1).toInt.toNat) x2) 21 ((s.1 18 1).toInt.toNat) x3), 0, 0)) rfl ?_
          refine am_Pn.gi (k := 1) rfl rfl am_o18 rfl rfl ?_
          refine am_Pn.bl 2 (y := (101, [some (.ref 18), some (.int x1), some (.int x2), some (.int x3), some (.int l4)], [.int ((s.1 18 1) + (Int32.ofInt (1))), .ref 18], sg_h (sg_uA (sg_uA (sg_uA s 19 ((s.1 18 1).toInt.toNat) x1) 20 ((s.1 18 1).toInt.toNat) x2) 21 ((s.1 18 1).toInt.toNat) x3), 0, 0)) rfl ?_
          refine am_Pn.pi (k := 1) rfl rfl am_o18 rfl rfl ?_
          refine am_Pn.bl 1 (y := (105, [some (.ref 18), some (.int x1), some (.int x2), some (.int x3), some (.int l4)], [.ref 18], sg_h (sg_uI (sg_uA (sg_uA (sg_uA s 19 ((s.1 18 1).toInt.toNat) x1) 20 ((s.1 18 1).toInt.toNat) x2) 21 ((s.1 18 1).toInt.toNat) x3) 18 1 ((s.1 18 1) + (Int32.ofInt (1)))), 0, 0)) rfl ?_
          refine am_Pn.gi (k := 1) rfl rfl am_o18 rfl rfl ?_
          exact am_Pn.rI h rfl
        · refine am_Pn.bl 1 (y := (63, [some (.ref 18), some (.int x1), some (.int x2), some (.int x3), some (.int l4)], [.int (Int32.ofInt (-1))], sg_h s, 0, 0)) rfl ?_
          exact am_Pn.rI h rfl
      · refine am_Pn.bl 1 (y := (13, [some (.ref 18), some (.int x1), some (.int x2), some (.int x3), some (.int l4)], [.ref 18], sg_h s, 0, 0)) rfl ?_
        refine am_Pn.gr (k := 2) rfl rfl am_o18 rfl rfl ?_
        refine am_Pn.bl 1 (y := (18, [some (.ref 18), some (.int x1), some (.int x2), some (.int x3), some (.int l4)], [.int l4, .ref 19], sg_h s, 0, 0)) rfl ?_
        refine am_Pn.ia (a := 19) rfl rfl rfl rfl (fun hi => ?_)
        replace h := h (am_in0 hi) (am_in1 hi)
        refine am_Pn.bl 1 (y := (20, [some (.ref 18), some (.int x1), some (.int x2), some (.int x3), some (.int l4)], [.int x1, .int (s.2.2.1 19 (l4.toInt.toNat))], sg_h s, 0, 0)) rfl ?_
        refine am_Pn.bF h (am_bne rfl rfl) rfl rfl (fun h => ?_) (fun h => ?_)
        · refine am_Pn.bl 2 (y := (3, [some (.ref 18), some (.int x1), some (.int x2), some (.int x3), some (.int (l4 + Int32.ofInt (1)))], [], sg_h s, 0, 0)) rfl ?_
          exact (ih) (l4 + Int32.ofInt (1)) s h
        · refine am_Pn.bl 1 (y := (24, [some (.ref 18), some (.int x1), some (.int x2), some (.int x3), some (.int l4)], [.ref 18], sg_h s, 0, 0)) rfl ?_
          refine am_Pn.gr (k := 3) rfl rfl am_o18 rfl rfl ?_
          refine am_Pn.bl 1 (y := (29, [some (.ref 18), some (.int x1), some (.int x2), some (.int x3), some (.int l4)], [.int l4, .ref 20], sg_h s, 0, 0)) rfl ?_
          refine am_Pn.ia (a := 20) rfl rfl rfl rfl (fun hi => ?_)
          refine am_Pn.bl 1 (y := (31, [some (.ref 18), some (.int x1), some (.int x2), some (.int x3), some (.int l4)], [.int x2, .int (s.2.2.1 20 (l4.toInt.toNat))], sg_h s, 0, 0)) rfl ?_
          refine am_Pn.bF h (am_bne rfl rfl) rfl rfl (fun h => ?_) (fun h => ?_)
          · refine am_Pn.bl 2 (y := (3, [some (.ref 18), some (.int x1), some (.int x2), some (.int x3), some (.int (l4 + Int32.ofInt (1)))], [], sg_h s, 0, 0)) rfl ?_
            exact (ih) (l4 + Int32.ofInt (1)) s h
          · refine am_Pn.bl 1 (y := (35, [some (.ref 18), some (.int x1), some (.int x2), some (.int x3), some (.int l4)], [.ref 18], sg_h s, 0, 0)) rfl ?_
            refine am_Pn.gr (k := 4) rfl rfl am_o18 rfl rfl ?_
            refine am_Pn.bl 2 (y := (41, [some (.ref 18), some (.int x1), some (.int x2), some (.int x3), some (.int l4)], [.int x3, .int l4, .ref 21], sg_h s, 0, 0)) rfl ?_
            refine am_Pn.is (a := 21) rfl rfl rfl (fun hi => ?_)
            refine am_Pn.bl 1 (y := (43, [some (.ref 18), some (.int x1), some (.int x2), some (.int x3), some (.int l4)], [.ref 18], sg_h (sg_uA s 21 (l4.toInt.toNat) x3), 0, 0)) rfl ?_
            refine am_Pn.gi (k := 1) rfl rfl am_o18 rfl rfl ?_
            exact am_Pn.rI h rfl
  unfold wp_XBook_put at h
  refine am_Pn.bl 2 (y := (3, [some (.ref 18), some (.int x1), some (.int x2), some (.int x3), some (.int (Int32.ofInt (0)))], [], sg_h s, 0, 0)) rfl ?_
  exact ((key n)) (Int32.ofInt (0)) s h
def wp_XBook_setOf_7 (I7 : Int32 → Int32 → Int32 →  sg_S → Prop) (Ψ : Int32 → sg_S → Prop) (x1 : Int32) (l2 : Int32) (l3 : Int32) (l4 : Int32) (s : sg_S) : Prop := ((l4.toInt < (s.1 18 1).toInt → (0 ≤ l4.toInt → l4.toInt < (100) → (((s.2.2.1 19 (l4.toInt.toNat)).toInt = x1.toInt → (((s.1 18 0).toInt < (s.2.2.1 20 (l4.toInt.toNat)).toInt → (I7 l2 l3 (l4 + Int32.ofInt (1)) s)) ∧ (¬ (s.1 18 0).toInt < (s.2.2.1 20 (l4.toInt.toNat)).toInt → ((l3.toInt < (s.2.2.1 20 (l4.toInt.toNat)).toInt → (I7 (s.2.2.1 21 (l4.toInt.toNat)) (s.2.2.1 20 (l4.toInt.toNat)) (l4 + Int32.ofInt (1)) s)) ∧ (¬ l3.toInt < (s.2.2.1 20 (l4.toInt.toNat)).toInt → (I7 l2 l3 (l4 + Int32.ofInt (1)) s)))))) ∧ (¬ (s.2.2.1 19 (l4.toInt.toNat)).toInt = x1.toInt → (I7 l2 l3 (l4 + Int32.ofInt (1)) s))))) ∧ (¬ l4.toInt < (s.1 18 1).toInt → (Ψ l2 s)))
def wp_XBook_setOf (I7 : Int32 → Int32 → Int32 →  sg_S → Prop) (Ψ : Int32 → sg_S → Prop) (x1 : Int32) (s : sg_S) : Prop := (I7 (Int32.ofInt (0)) (Int32.ofInt (-1)) (Int32.ofInt (0)) s)
set_option maxRecDepth 100000 in
theorem wp_XBook_setOf_ok {I7 : Int32 → Int32 → Int32 →  sg_S → Prop} {Ψ : Int32 → sg_S → Prop} {x1 : Int32} {s : sg_S} (k7 : ∀ (l2 : Int32) (l3 : Int32) (l4 : Int32) (s : sg_S), I7 l2 l3 l4 s → wp_XBook_setOf_7 I7 Ψ x1 l2 l3 l4 s) (h : wp_XBook_setOf I7 Ψ x1 s) : am_SpI 3 [.ref 18, .int x1] s Ψ := by
  refine am_SpI.mk (r := am_r3) rfl rfl (fun call d al n hcl => ?_)
  have key : ∀ n, (∀ (l2 : Int32) (l3 : Int32) (l4 : Int32) (s : sg_S), I7 l2 l3 l4 s → am_Pn call d (0, fun _ => 0) al am_r3 (am_PhI am_r3 Ψ) n (7, [some (.ref 18), some (.int x1), some (.int l2), some (.int l3), some (.int l4)], [], sg_h s, 0, 0)) := by
    intro n
    induction n with
    | zero => exact fun _ _ _ _ _ => am_Pn.zero
    | succ n ih =>
      intro l2 l3 l4 s h
      replace h := k7 l2 l3 l4 s h
      unfold wp_XBook_setOf_7 at h
      refine am_Pn.bl1 1 (y := (10, [some (.ref 18), some (.int x1), some (.int l2), some (.int l3), some (.int l4)], [.ref 18, .int l4], sg_h s, 0, 0)) rfl ?_
      refine am_Pn.gi (k := 1) rfl rfl am_o18 rfl rfl ?_
      refine am_Pn.bF h (am_bge rfl rfl) rfl rfl (fun h => ?_) (fun h => ?_)
      · refine am_Pn.bl 1 (y := (75, [some (.ref 18), some (.int x1), some (.int l2), some (.int l3), some (.int l4)], [.int l2], sg_h s, 0, 0)) rfl ?_
        exact am_Pn.rI h rfl
      · refine am_Pn.bl 1 (y := (17, [some (.ref 18), some (.int x1), some (.int l2), some (.int l3), some (.int l4)], [.ref 18], sg_h s, 0, 0)) rfl ?_
        refine am_Pn.gr (k := 2) rfl rfl am_o18 rfl rfl ?_
        refine am_Pn.bl 1 (y := (22, [some (.ref 18), some (.int x1), some (.int l2), some (.int l3), some (.int l4)], [.int l4, .ref 19], sg_h s, 0, 0)) rfl ?_
        refine am_Pn.ia (a := 19) rfl rfl rfl rfl (fun hi => ?_)
        replace h := h (am_in0 hi) (am_in1 hi)
        refine am_Pn.bl 1 (y := (24, [some (.ref 18), some (.int x1), some (.int l2), some (.int l3), some (.int l4)], [.int x1, .int (s.2.2.1 19 (l4.toInt.toNat))], sg_h s, 0, 0)) rfl ?_
        refine am_Pn.bF h (am_bne rfl rfl) rfl rfl (fun h => ?_) (fun h => ?_)
        · refine am_Pn.bl 2 (y := (7, [some (.ref 18), some (.int x1), some (.int l2), some (.int l3), some (.int (l4 + Int32.ofInt (1)))], [], sg_h s, 0, 0)) rfl ?_
          exact (ih) l2 l3 (l4 + Int32.ofInt (1)) s h
        · refine am_Pn.bl 1 (y := (28, [some (.ref 18), some (.int x1), some (.int l2), some (.int l3), some (.int l4)], [.ref 18], sg_h s, 0, 0)) rfl ?_
          refine am_Pn.gr (k := 3) rfl rfl am_o18 rfl rfl ?_
          refine am_Pn.bl 1 (y := (33, [some (.ref 18), some (.int x1), some (.int l2), some (.int l3), some (.int l4)], [.int l4, .ref 20], sg_h s, 0, 0)) rfl ?_
          refine am_Pn.ia (a := 20) rfl rfl rfl rfl (fun hi => ?_)
          refine am_Pn.bl 1 (y := (35, [some (.ref 18), some (.int x1), some (.int l2), some (.int l3), some (.int l4)], [.ref 18, .int (s.2.2.1 20 (l4.toInt.toNat))], sg_h s, 0, 0)) rfl ?_
          refine am_Pn.gi (k := 0) rfl rfl am_o18 rfl rfl ?_
          refine am_Pn.bT h (am_bgt rfl rfl) rfl rfl (fun h => ?_) (fun h => ?_)
          · refine am_Pn.bl 2 (y := (7, [some (.ref 18), some (.int x1), some (.int l2), some (.int l3), some (.int (l4 + Int32.ofInt (1)))], [], sg_h s, 0, 0)) rfl ?_
            exact (ih) l2 l3 (l4 + Int32.ofInt (1)) s h
          · refine am_Pn.bl 1 (y := (42, [some (.ref 18), some (.int x1), some (.int l2), some (.int l3), some (.int l4)], [.ref 18], sg_h s, 0, 0)) rfl ?_
            refine am_Pn.gr (k := 3) rfl rfl am_o18 rfl rfl ?_
            refine am_Pn.bl 1 (y := (47, [some (.ref 18), some (.int x1), some (.int l2), some (.int l3), some (.int l4)], [.int l4, .ref 20], sg_h s, 0, 0)) rfl ?_
            refine am_Pn.ia (a := 20) rfl rfl rfl rfl (fun hi => ?_)
            refine am_Pn.bl 1 (y := (49, [some (.ref 18), some (.int x1), some (.int l2), some (.int l3), some (.int l4)], [.int l3, .int (s.2.2.1 20 (l4.toInt.toNat))], sg_h s, 0, 0)) rfl ?_
            refine am_Pn.bF h (am_ble rfl rfl) rfl rfl (fun h => ?_) (fun h => ?_)
            · refine am_Pn.bl 2 (y := (7, [some (.ref 18), some (.int x1), some (.int l2), some (.int l3), some (.int (l4 + Int32.ofInt (1)))], [], sg_h s, 0, 0)) rfl ?_
              exact (ih) l2 l3 (l4 + Int32.ofInt (1)) s h
            · refine am_Pn.bl 1 (y := (53, [some (.ref 18), some (.int x1), some (.int l2), some (.int l3), some (.int l4)], [.ref 18], sg_h s, 0, 0)) rfl ?_
              refine am_Pn.gr (k := 3) rfl rfl am_o18 rfl rfl ?_
              refine am_Pn.bl 1 (y := (58, [some (.ref 18), some (.int x1), some (.int l2), some (.int l3), some (.int l4)], [.int l4, .ref 20], sg_h s, 0, 0)) rfl ?_
              refine am_Pn.ia (a := 20) rfl rfl rfl rfl (fun hi => ?_)
              refine am_Pn.bl 2 (y := (61, [some (.ref 18), some (.int x1), some (.int l2), some (.int (s.2.2.1 20 (l4.toInt.toNat))), some (.int l4)], [.ref 18], sg_h s, 0, 0)) rfl ?_
              refine am_Pn.gr (k := 4) rfl rfl am_o18 rfl rfl ?_
              refine am_Pn.bl 1 (y := (66, [some (.ref 18), some (.int x1), some (.int l2), some (.int (s.2.2.1 20 (l4.toInt.toNat))), some (.int l4)], [.int l4, .ref 21], sg_h s, 0, 0)) rfl ?_
              refine am_Pn.ia (a := 21) rfl rfl rfl rfl (fun hi => ?_)
              refine am_Pn.bl 3 (y := (7, [some (.ref 18), some (.int x1), some (.int (s.2.2.1 21 (l4.toInt.toNat))), some (.int (s.2.2.1 20 (l4.toInt.toNat))), some (.int (l4 + Int32.ofInt (1)))], [], sg_h s, 0, 0)) rfl ?_
              exact (ih) (s.2.2.1 21 (l4.toInt.toNat)) (s.2.2.1 20 (l4.toInt.toNat)) (l4 + Int32.ofInt (1)) s h
  unfold wp_XBook_setOf at h
  refine am_Pn.bl 6 (y := (7, [some (.ref 18), some (.int x1), some (.int (Int32.ofInt (0))), some (.int (Int32.ofInt (-1))), some (.int (Int32.ofInt (0)))], [], sg_h s, 0, 0)) rfl ?_
  exact ((key n)) (Int32.ofInt (0)) (Int32.ofInt (-1)) (Int32.ofInt (0)) s h
def wp_XValues_change (Ψ : Int32 → sg_S → Prop) (x1 : Int32) (x2 : Int32) (x3 : Int32) (s : sg_S) : Prop := (0 ≤ ((x1 * (Int32.ofInt (8))) + x2).toInt → ((x1 * (Int32.ofInt (8))) + x2).toInt < (64) → (0 ≤ ((x2 * (Int32.ofInt (8))) + x1).toInt → ((x2 * (Int32.ofInt (8))) + x1).toInt < (64) → (Ψ (s.2.2.1 23 (((x1 * (Int32.ofInt (8))) + x2).toInt.toNat)) (sg_uA (sg_uA s 23 (((x1 * (Int32.ofInt (8))) + x2).toInt.toNat) x3) 23 (((x2 * (Int32.ofInt (8))) + x1).toInt.toNat) x3))))
set_option maxRecDepth 100000 in
theorem wp_XValues_change_ok {Ψ : Int32 → sg_S → Prop} {x1 : Int32} {x2 : Int32} {x3 : Int32} {s : sg_S} (h : wp_XValues_change Ψ x1 x2 x3 s) : am_SpI 115 [.ref 22, .int x1, .int x2, .int x3] s Ψ := by
  refine am_SpI.mk (r := am_r115) rfl rfl (fun call d al n hcl => ?_)
  unfold wp_XValues_change at h
  refine am_Pn.bl 1 (y := (1, [some (.ref 22), some (.int x1), some (.int x2), some (.int x3), none], [.ref 22], sg_h s, 0, 0)) rfl ?_
  refine am_Pn.gr (k := 0) rfl rfl am_o22 rfl rfl ?_
  refine am_Pn.bl 5 (y := (10, [some (.ref 22), some (.int x1), some (.int x2), some (.int x3), none], [.int ((x1 * (Int32.ofInt (8))) + x2), .ref 23], sg_h s, 0, 0)) rfl ?_
  refine am_Pn.ia (a := 23) rfl rfl rfl rfl (fun hi => ?_)
  replace h := h (am_in0 hi) (am_in1 hi)
  refine am_Pn.bl 2 (y := (14, [some (.ref 22), some (.int x1), some (.int x2), some (.int x3), some (.int (s.2.2.1 23 (((x1 * (Int32.ofInt (8))) + x2).toInt.toNat)))], [.ref 22], sg_h s, 0, 0)) rfl ?_
  refine am_Pn.gr (k := 0) rfl rfl am_o22 rfl rfl ?_
  refine am_Pn.bl 6 (y := (24, [some (.ref 22), some (.int x1), some (.int x2), some (.int x3), some (.int (s.2.2.1 23 (((x1 * (Int32.ofInt (8))) + x2).toInt.toNat)))], [.int x3, .int ((x1 * (Int32.ofInt (8))) + x2), .ref 23], sg_h s, 0, 0)) rfl ?_
  refine am_Pn.is (a := 23) rfl rfl rfl (fun hi => ?_)
  refine am_Pn.bl 1 (y := (26, [some (.ref 22), some (.int x1), some (.int x2), some (.int x3), some (.int (s.2.2.1 23 (((x1 * (Int32.ofInt (8))) + x2).toInt.toNat)))], [.ref 22], sg_h (sg_uA s 23 (((x1 * (Int32.ofInt (8))) + x2).toInt.toNat) x3), 0, 0)) rfl ?_
  refine am_Pn.gr (k := 0) rfl rfl am_o22 rfl rfl ?_
  refine am_Pn.bl 6 (y := (36, [some (.ref 22), some (.int x1), some (.int x2), some (.int x3), some (.int (s.2.2.1 23 (((x1 * (Int32.ofInt (8))) + x2).toInt.toNat)))], [.int x3, .int ((x2 * (Int32.ofInt (8))) + x1), .ref 23], sg_h (sg_uA s 23 (((x1 * (Int32.ofInt (8))) + x2).toInt.toNat) x3), 0, 0)) rfl ?_
  refine am_Pn.is (a := 23) rfl rfl rfl (fun hi => ?_)
  replace h := h (am_in0 hi) (am_in1 hi)
  refine am_Pn.bl 1 (y := (39, [some (.ref 22), some (.int x1), some (.int x2), some (.int x3), some (.int (s.2.2.1 23 (((x1 * (Int32.ofInt (8))) + x2).toInt.toNat)))], [.int (s.2.2.1 23 (((x1 * (Int32.ofInt (8))) + x2).toInt.toNat))], sg_h (sg_uA (sg_uA s 23 (((x1 * (Int32.ofInt (8))) + x2).toInt.toNat) x3) 23 (((x2 * (Int32.ofInt (8))) + x1).toInt.toNat) x3), 0, 0)) rfl ?_
  exact am_Pn.rI h rfl
def wp_XEnding_addType_2 (I2 : Int32 →  sg_S → Prop) (Ψ : Int32 → sg_S → Prop) (x1 : Int32) (l2 : Int32) (s : sg_S) : Prop := ((l2.toInt < (s.1 35 3).toInt → (0 ≤ l2.toInt → l2.toInt < (16) → (((s.2.2.1 36 (l2.toInt.toNat)).toInt = x1.toInt → (Ψ (Int32.ofInt (-1)) s)) ∧ (¬ (s.2.2.1 36 (l2.toInt.toNat)).toInt = x1.toInt → (I2 (l2 + Int32.ofInt (1)) s))))) ∧ (¬ l2.toInt < (s.1 35 3).toInt → (((s.1 35 3).toInt < (16) → (0 ≤ (s.1 35 3).toInt → (s.1 35 3).toInt < (16) → (Ψ (((s.1 35 3) + (Int32.ofInt (1))) - (Int32.ofInt (1))) (sg_uI (sg_uA s 36 ((s.1 35 3).toInt.toNat) x1) 35 3 ((s.1 35 3) + (Int32.ofInt (1))))))) ∧ (¬ (s.1 35 3).toInt < (16) → (Ψ (Int32.ofInt (-1)) s)))))
def wp_XEnding_addType (I2 : Int32 →  sg_S → Prop) (Ψ : Int32 → sg_S → Prop) (x1 : Int32) (s : sg_S) : Prop := (I2 (Int32.ofInt (0)) s)
set_option maxRecDepth 100000 in
theorem wp_XEnding_addType_ok {I2 : Int32 →  sg_S → Prop} {Ψ : Int32 → sg_S → Prop} {x1 : Int32} {s : sg_S} (k2 : ∀ (l2 : Int32) (s : sg_S), I2 l2 s → wp_XEnding_addType_2 I2 Ψ x1 l2 s) (h : wp_XEnding_addType I2 Ψ x1 s) : am_SpI 12 [.ref 35, .int x1] s Ψ := by
  refine am_SpI.mk (r := am_r12) rfl rfl (fun call d al n hcl => ?_)
  have key : ∀ n, (∀ (l2 : Int32) (s : sg_S), I2 l2 s → am_Pn call d (0, fun _ => 0) al am_r12 (am_PhI am_r12 Ψ) n (2, [some (.ref 35), some (.int x1), some (.int l2)], [], sg_h s, 0, 0)) := by
    intro n
    induction n with
    | zero => exact fun _ _ _ => am_Pn.zero
    | succ n ih =>
      intro l2 s h
      replace h := k2 l2 s h
      unfold wp_XEnding_addType_2 at h
      refine am_Pn.bl1 1 (y := (4, [some (.ref 35), some (.int x1), some (.int l2)], [.ref 35, .int l2], sg_h s, 0, 0)) rfl ?_
      refine am_Pn.gi (k := 3) rfl rfl am_o35 rfl rfl ?_
      refine am_Pn.bF h (am_bge rfl rfl) rfl rfl (fun h => ?_) (fun h => ?_)
      · refine am_Pn.bl 1 (y := (29, [some (.ref 35), some (.int x1), some (.int l2)], [.ref 35], sg_h s, 0, 0)) rfl ?_
        refine am_Pn.gi (k := 3) rfl rfl am_o35 rfl rfl ?_
        refine am_Pn.bl 1 (y := (34, [some (.ref 35), some (.int x1), some (.int l2)], [.int (Int32.ofInt (16)), .int (s.1 35 3)], sg_h s, 0, 0)) rfl ?_
        refine am_Pn.bT h (am_blt rfl rfl) rfl rfl (fun h => ?_) (fun h => ?_)
        · refine am_Pn.bl 1 (y := (40, [some (.ref 35), some (.int x1), some (.int l2)], [.ref 35], sg_h s, 0, 0)) rfl ?_
          refine am_Pn.gr (k := 2) rfl rfl am_o35 rfl rfl ?_
          refine am_Pn.bl 1 (y := (44, [some (.ref 35), some (.int x1), some (.int l2)], [.ref 35, .ref 36], sg_h s, 0, 0)) rfl ?_
          refine am_Pn.gi (k := 3) rfl rfl am_o35 rfl rfl ?_
          refine am_Pn.bl 1 (y := (48, [some (.ref 35), some (.int x1), some (.int l2)], [.int x1, .int (s.1 35 3), .ref 36], sg_h s, 0, 0)) rfl ?_
          refine am_Pn.is (a := 36) rfl rfl rfl (fun hi => ?_)
          replace h := h (am_in0 hi) (am_in1 hi)
          refine am_Pn.bl 2 (y := (51, [some (.ref 35), some (.int x1), some (.int l2)], [.ref 35, .ref 35], sg_h (sg_uA s 36 ((s.1 35 3).toInt.toNat) x1), 0, 0)) rfl ?_
          refine am_Pn.gi (k := 3) rfl rfl am_o35 rfl rfl ?_
          refine am_Pn.bl 2 (y := (56, [some (.ref 35), some (.int x1), some (.int l2)], [.int ((s.1 35 3) + (Int32.ofInt (1))), .ref 35], sg_h (sg_uA s 36 ((s.1 35 3).toInt.toNat) x1), 0, 0)) rfl ?_
          refine am_Pn.pi (k := 3) rfl rfl am_o35 rfl rfl ?_
          refine am_Pn.bl 1 (y := (60, [some (.ref 35), some (.int x1), some (.int l2)], [.ref 35], sg_h (sg_uI (sg_uA s 36 ((s.1 35 3).toInt.toNat) x1) 35 3 ((s.1 35 3) + (Int32.ofInt (1)))), 0, 0)) rfl ?_
          refine am_Pn.gi (k := 3) rfl rfl am_o35 rfl rfl ?_
          refine am_Pn.bl 2 (y := (65, [some (.ref 35), some (.int x1), some (.int l2)], [.int (((s.1 35 3) + (Int32.ofInt (1))) - (Int32.ofInt (1)))], sg_h (sg_uI (sg_uA s 36 ((s.1 35 3).toInt.toNat) x1) 35 3 ((s.1 35 3) + (Int32.ofInt (1)))), 0, 0)) rfl ?_
          exact am_Pn.rI h rfl
        · refine am_Pn.bl 1 (y := (38, [some (.ref 35), some (.int x1), some (.int l2)], [.int (Int32.ofInt (-1))], sg_h s, 0, 0)) rfl ?_
          exact am_Pn.rI h rfl
      · refine am_Pn.bl 1 (y := (11, [some (.ref 35), some (.int x1), some (.int l2)], [.ref 35], sg_h s, 0, 0)) rfl ?_
        refine am_Pn.gr (k := 2) rfl rfl am_o35 rfl rfl ?_
        refine am_Pn.bl 1 (y := (15, [some (.ref 35), some (.int x1), some (.int l2)], [.int l2, .ref 36], sg_h s, 0, 0)) rfl ?_
        refine am_Pn.ia (a := 36) rfl rfl rfl rfl (fun hi => ?_)
        replace h := h (am_in0 hi) (am_in1 hi)
        refine am_Pn.bl 1 (y := (17, [some (.ref 35), some (.int x1), some (.int l2)], [.int x1, .int (s.2.2.1 36 (l2.toInt.toNat))], sg_h s, 0, 0)) rfl ?_
        refine am_Pn.bF h (am_bne rfl rfl) rfl rfl (fun h => ?_) (fun h => ?_)
        · refine am_Pn.bl 2 (y := (2, [some (.ref 35), some (.int x1), some (.int (l2 + Int32.ofInt (1)))], [], sg_h s, 0, 0)) rfl ?_
          exact (ih) (l2 + Int32.ofInt (1)) s h
        · refine am_Pn.bl 1 (y := (21, [some (.ref 35), some (.int x1), some (.int l2)], [.int (Int32.ofInt (-1))], sg_h s, 0, 0)) rfl ?_
          exact am_Pn.rI h rfl
  unfold wp_XEnding_addType at h
  refine am_Pn.bl 2 (y := (2, [some (.ref 35), some (.int x1), some (.int (Int32.ofInt (0)))], [], sg_h s, 0, 0)) rfl ?_
  exact ((key n)) (Int32.ofInt (0)) s h
def wp_XStore_add (Ψ : Int32 → sg_S → Prop) (x1 : Int32) (x2 : Int32) (x3 : Int32) (s : sg_S) : Prop := (((s.1 58 4).toInt < (20) → (0 ≤ ((s.1 58 4) * (Int32.ofInt (3))).toInt → ((s.1 58 4) * (Int32.ofInt (3))).toInt < (60) → (0 ≤ (((s.1 58 4) * (Int32.ofInt (3))) + (Int32.ofInt (1))).toInt → (((s.1 58 4) * (Int32.ofInt (3))) + (Int32.ofInt (1))).toInt < (60) → (0 ≤ (((s.1 58 4) * (Int32.ofInt (3))) + (Int32.ofInt (2))).toInt → (((s.1 58 4) * (Int32.ofInt (3))) + (Int32.ofInt (2))).toInt < (60) → (Ψ (((s.1 58 4) + (Int32.ofInt (1))) - (Int32.ofInt (1))) (sg_uI (sg_uA (sg_uA (sg_uA s 59 (((s.1 58 4) * (Int32.ofInt (3))).toInt.toNat) x1) 59 ((((s.1 58 4) * (Int32.ofInt (3))) + (Int32.ofInt (1))).toInt.toNat) x2) 59 ((((s.1 58 4) * (Int32.ofInt (3))) + (Int32.ofInt (2))).toInt.toNat) x3) 58 4 ((s.1 58 4) + (Int32.ofInt (1))))))))) ∧ (¬ (s.1 58 4).toInt < (20) → (Ψ (Int32.ofInt (-1)) s)))
set_option maxRecDepth 100000 in
theorem wp_XStore_add_ok {Ψ : Int32 → sg_S → Prop} {x1 : Int32} {x2 : Int32} {x3 : Int32} {s : sg_S} (h : wp_XStore_add Ψ x1 x2 x3 s) : am_SpI 108 [.ref 58, .int x1, .int x2, .int x3] s Ψ := by
  refine am_SpI.mk (r := am_r108) rfl rfl (fun call d al n hcl => ?_)
  unfold wp_XStore_add at h
  refine am_Pn.bl 1 (y := (1, [some (.ref 58), some (.int x1), some (.int x2), some (.int x3)], [.ref 58], sg_h s, 0, 0)) rfl ?_
  refine am_Pn.gi (k := 4) rfl rfl am_o58 rfl rfl ?_
  refine am_Pn.bl 1 (y := (6, [some (.ref 58), some (.int x1), some (.int x2), some (.int x3)], [.int (Int32.ofInt (20)), .int (s.1 58 4)], sg_h s, 0, 0)) rfl ?_
  refine am_Pn.bT h (am_blt rfl rfl) rfl rfl (fun h => ?_) (fun h => ?_)
  · refine am_Pn.bl 1 (y := (12, [some (.ref 58), some (.int x1), some (.int x2), some (.int x3)], [.ref 58], sg_h s, 0, 0)) rfl ?_
    refine am_Pn.gr (k := 5) rfl rfl am_o58 rfl rfl ?_
    refine am_Pn.bl 1 (y := (16, [some (.ref 58), some (.int x1), some (.int x2), some (.int x3)], [.ref 58, .ref 59], sg_h s, 0, 0)) rfl ?_
    refine am_Pn.gi (k := 4) rfl rfl am_o58 rfl rfl ?_
    refine am_Pn.bl 3 (y := (22, [some (.ref 58), some (.int x1), some (.int x2), some (.int x3)], [.int x1, .int ((s.1 58 4) * (Int32.ofInt (3))), .ref 59], sg_h s, 0, 0)) rfl ?_
    refine am_Pn.is (a := 59) rfl rfl rfl (fun hi => ?_)
    replace h := h (am_in0 hi) (am_in1 hi)
    refine am_Pn.bl 1 (y := (24, [some (.ref 58), some (.int x1), some (.int x2), some (.int x3)], [.ref 58], sg_h (sg_uA s 59 (((s.1 58 4) * (Int32.ofInt (3))).toInt.toNat) x1), 0, 0)) rfl ?_
    refine am_Pn.gr (k := 5) rfl rfl am_o58 rfl rfl ?_
    refine am_Pn.bl 1 (y := (28, [some (.ref 58), some (.int x1), some (.int x2), some (.int x3)], [.ref 58, .ref 59], sg_h (sg_uA s 59 (((s.1 58 4) * (Int32.ofInt (3))).toInt.toNat) x1), 0, 0)) rfl ?_
    refine am_Pn.gi (k := 4) rfl rfl am_o58 rfl rfl ?_
    refine am_Pn.bl 5 (y := (36, [some (.ref 58), some (.int x1), some (.int x2), some (.int x3)], [.int x2, .int (((s.1 58 4) * (Int32.ofInt (3))) + (Int32.ofInt (1))), .ref 59], sg_h (sg_uA s 59 (((s.1 58 4) * (Int32.ofInt (3))).toInt.toNat) x1), 0, 0)) rfl ?_
    refine am_Pn.is (a := 59) rfl rfl rfl (fun hi => ?_)
    replace h := h (am_in0 hi) (am_in1 hi)
    refine am_Pn.bl 1 (y := (38, [some (.ref 58), some (.int x1), some (.int x2), some (.int x3)], [.ref 58], sg_h (sg_uA (sg_uA s 59 (((s.1 58 4) * (Int32.ofInt (3))).toInt.toNat) x1) 59 ((((s.1 58 4) * (Int32.ofInt (3))) + (Int32.ofInt (1))).toInt.toNat) x2), 0, 0)) rfl ?_
    refine am_Pn.gr (k := 5) rfl rfl am_o58 rfl rfl ?_
    refine am_Pn.bl 1 (y := (42, [some (.ref 58), some (.int x1), some (.int x2), some (.int x3)], [.ref 58, .ref 59], sg_h (sg_uA (sg_uA s 59 (((s.1 58 4) * (Int32.ofInt (3))).toInt.toNat) x1) 59 ((((s.1 58 4) * (Int32.ofInt (3))) + (Int32.ofInt (1))).toInt.toNat) x2), 0, 0)) rfl ?_
    refine am_Pn.gi (k := 4) rfl rfl am_o58 rfl rfl ?_
    refine am_Pn.bl 5 (y := (50, [some (.ref 58), some (.int x1), some (.int x2), some (.int x3)], [.int x3, .int (((s.1 58 4) * (Int32.ofInt (3))) + (Int32.ofInt (2))), .ref 59], sg_h (sg_uA (sg_uA s 59 (((s.1 58 4) * (Int32.ofInt (3))).toInt.toNat) x1) 59 ((((s.1 58 4) * (Int32.ofInt (3))) + (Int32.ofInt (1))).toInt.toNat) x2), 0, 0)) rfl ?_
    refine am_Pn.is (a := 59) rfl rfl rfl (fun hi => ?_)
    replace h := h (am_in0 hi) (am_in1 hi)
    refine am_Pn.bl 2 (y := (53, [some (.ref 58), some (.int x1), some (.int x2), some (.int x3)], [.ref 58, .ref 58], sg_h (sg_uA (sg_uA (sg_uA s 59 (((s.1 58 4) * (Int32.ofInt (3))).toInt.toNat) x1) 59 ((((s.1 58 4) * (Int32.ofInt (3))) + (Int32.ofInt (1))).toInt.toNat) x2) 59 ((((s.1 58 4) * (Int32.ofInt (3))) + (Int32.ofInt (2))).toInt.toNat) x3), 0, 0)) rfl ?_
    refine am_Pn.gi (k := 4) rfl rfl am_o58 rfl rfl ?_
    refine am_Pn.bl 2 (y := (58, [some (.ref 58), some (.int x1), some (.int x2), some (.int x3)], [.int ((s.1 58 4) + (Int32.ofInt (1))), .ref 58], sg_h (sg_uA (sg_uA (sg_uA s 59 (((s.1 58 4) * (Int32.ofInt (3))).toInt.toNat) x1) 59 ((((s.1 58 4) * (Int32.ofInt (3))) + (Int32.ofInt (1))).toInt.toNat) x2) 59 ((((s.1 58 4) * (Int32.ofInt (3))) + (Int32.ofInt (2))).toInt.toNat) x3), 0, 0)) rfl ?_
    refine am_Pn.pi (k := 4) rfl rfl am_o58 rfl rfl ?_
    refine am_Pn.bl 1 (y := (62, [some (.ref 58), some (.int x1), some (.int x2), some (.int x3)], [.ref 58], sg_h (sg_uI (sg_uA (sg_uA (sg_uA s 59 (((s.1 58 4) * (Int32.ofInt (3))).toInt.toNat) x1) 59 ((((s.1 58 4) * (Int32.ofInt (3))) + (Int32.ofInt (1))).toInt.toNat) x2) 59 ((((s.1 58 4) * (Int32.ofInt (3))) + (Int32.ofInt (2))).toInt.toNat) x3) 58 4 ((s.1 58 4) + (Int32.ofInt (1)))), 0, 0)) rfl ?_
    refine am_Pn.gi (k := 4) rfl rfl am_o58 rfl rfl ?_
    refine am_Pn.bl 2 (y := (67, [some (.ref 58), some (.int x1), some (.int x2), some (.int x3)], [.int (((s.1 58 4) + (Int32.ofInt (1))) - (Int32.ofInt (1)))], sg_h (sg_uI (sg_uA (sg_uA (sg_uA s 59 (((s.1 58 4) * (Int32.ofInt (3))).toInt.toNat) x1) 59 ((((s.1 58 4) * (Int32.ofInt (3))) + (Int32.ofInt (1))).toInt.toNat) x2) 59 ((((s.1 58 4) * (Int32.ofInt (3))) + (Int32.ofInt (2))).toInt.toNat) x3) 58 4 ((s.1 58 4) + (Int32.ofInt (1)))), 0, 0)) rfl ?_
    exact am_Pn.rI h rfl
  · refine am_Pn.bl 1 (y := (10, [some (.ref 58), some (.int x1), some (.int x2), some (.int x3)], [.int (Int32.ofInt (-1))], sg_h s, 0, 0)) rfl ?_
    exact am_Pn.rI h rfl
def wp_XPoets_add (Ψ : Int32 → sg_S → Prop) (x1 : Int32) (s : sg_S) : Prop := (((s.1 24 0).toInt < (12) → (0 ≤ (s.1 24 0).toInt → (s.1 24 0).toInt < (12) → (Ψ (((s.1 24 0) + (Int32.ofInt (1))) - (Int32.ofInt (1))) (sg_uI (sg_uA s 25 ((s.1 24 0).toInt.toNat) x1) 24 0 ((s.1 24 0) + (Int32.ofInt (1))))))) ∧ (¬ (s.1 24 0).toInt < (12) → (Ψ (Int32.ofInt (-1)) s)))
set_option maxRecDepth 100000 in
theorem wp_XPoets_add_ok {Ψ : Int32 → sg_S → Prop} {x1 : Int32} {s : sg_S} (h : wp_XPoets_add Ψ x1 s) : am_SpI 36 [.ref 24, .int x1] s Ψ := by
  refine am_SpI.mk (r := am_r36) rfl rfl (fun call d al n hcl => ?_)
  unfold wp_XPoets_add at h
  refine am_Pn.bl 1 (y := (1, [some (.ref 24), some (.int x1)], [.ref 24], sg_h s, 0, 0)) rfl ?_
  refine am_Pn.gi (k := 0) rfl rfl am_o24 rfl rfl ?_
  refine am_Pn.bl 1 (y := (6, [some (.ref 24), some (.int x1)], [.int (Int32.ofInt (12)), .int (s.1 24 0)], sg_h s, 0, 0)) rfl ?_
  refine am_Pn.bT h (am_blt rfl rfl) rfl rfl (fun h => ?_) (fun h => ?_)
  · refine am_Pn.bl 1 (y := (12, [some (.ref 24), some (.int x1)], [.ref 24], sg_h s, 0, 0)) rfl ?_
    refine am_Pn.gr (k := 1) rfl rfl am_o24 rfl rfl ?_
    refine am_Pn.bl 1 (y := (16, [some (.ref 24), some (.int x1)], [.ref 24, .ref 25], sg_h s, 0, 0)) rfl ?_
    refine am_Pn.gi (k := 0) rfl rfl am_o24 rfl rfl ?_
    refine am_Pn.bl 1 (y := (20, [some (.ref 24), some (.int x1)], [.int x1, .int (s.1 24 0), .ref 25], sg_h s, 0, 0)) rfl ?_
    refine am_Pn.is (a := 25) rfl rfl rfl (fun hi => ?_)
    replace h := h (am_in0 hi) (am_in1 hi)
    refine am_Pn.bl 2 (y := (23, [some (.ref 24), some (.int x1)], [.ref 24, .ref 24], sg_h (sg_uA s 25 ((s.1 24 0).toInt.toNat) x1), 0, 0)) rfl ?_
    refine am_Pn.gi (k := 0) rfl rfl am_o24 rfl rfl ?_
    refine am_Pn.bl 2 (y := (28, [some (.ref 24), some (.int x1)], [.int ((s.1 24 0) + (Int32.ofInt (1))), .ref 24], sg_h (sg_uA s 25 ((s.1 24 0).toInt.toNat) x1), 0, 0)) rfl ?_
    refine am_Pn.pi (k := 0) rfl rfl am_o24 rfl rfl ?_
    refine am_Pn.bl 1 (y := (32, [some (.ref 24), some (.int x1)], [.ref 24], sg_h (sg_uI (sg_uA s 25 ((s.1 24 0).toInt.toNat) x1) 24 0 ((s.1 24 0) + (Int32.ofInt (1)))), 0, 0)) rfl ?_
    refine am_Pn.gi (k := 0) rfl rfl am_o24 rfl rfl ?_
    refine am_Pn.bl 2 (y := (37, [some (.ref 24), some (.int x1)], [.int (((s.1 24 0) + (Int32.ofInt (1))) - (Int32.ofInt (1)))], sg_h (sg_uI (sg_uA s 25 ((s.1 24 0).toInt.toNat) x1) 24 0 ((s.1 24 0) + (Int32.ofInt (1)))), 0, 0)) rfl ?_
    exact am_Pn.rI h rfl
  · refine am_Pn.bl 1 (y := (10, [some (.ref 24), some (.int x1)], [.int (Int32.ofInt (-1))], sg_h s, 0, 0)) rfl ?_
    exact am_Pn.rI h rfl
def wp_X_poet (Ψ : Int32 → sg_S → Prop) (x1 : Int32) (s : sg_S) : Prop := ((x1.toInt < (0) → (Ψ (Int32.ofInt (-1)) s)) ∧ (¬ x1.toInt < (0) → (((99) < x1.toInt → (Ψ (Int32.ofInt (-1)) s)) ∧ (¬ (99) < x1.toInt → (am_SpI 36 [.ref 24, .int x1] s (fun x2 s2 => (Ψ x2 s2)))))))
set_option maxRecDepth 100000 in
theorem wp_X_poet_ok {Ψ : Int32 → sg_S → Prop} {x1 : Int32} {s : sg_S} (h : wp_X_poet Ψ x1 s) : am_SpI 122 [.ref 0, .int x1] s Ψ := by
  refine am_SpI.mk (r := am_r122) rfl rfl (fun call d al n hcl => ?_)
  unfold wp_X_poet at h
  refine am_Pn.bl 1 (y := (1, [some (.ref 0), some (.int x1)], [.int x1], sg_h s, 0, 0)) rfl ?_
  refine am_Pn.zT h (am_blt rfl rfl) rfl rfl (fun h => ?_) (fun h => ?_)
  · refine am_Pn.bl 2 (y := (22, [some (.ref 0), some (.int x1)], [.int (Int32.ofInt (-1))], sg_h s, 0, 0)) rfl ?_
    exact am_Pn.rI h rfl
  · refine am_Pn.bl 2 (y := (7, [some (.ref 0), some (.int x1)], [.int (Int32.ofInt (99)), .int x1], sg_h s, 0, 0)) rfl ?_
    refine am_Pn.bF h (am_ble rfl rfl) rfl rfl (fun h => ?_) (fun h => ?_)
    · refine am_Pn.bl 1 (y := (15, [some (.ref 0), some (.int x1)], [.ref 0], sg_h s, 0, 0)) rfl ?_
      refine am_Pn.gr (k := 4) rfl rfl am_o0 rfl rfl ?_
      refine am_Pn.bl 1 (y := (19, [some (.ref 0), some (.int x1)], [.int x1, .ref 24], sg_h s, 0, 0)) rfl ?_
      refine am_Pn.cvI hcl h rfl rfl rfl rfl rfl (fun x2 s2 h => ?_)
      exact am_Pn.rI h rfl
    · refine am_Pn.bl 2 (y := (22, [some (.ref 0), some (.int x1)], [.int (Int32.ofInt (-1))], sg_h s, 0, 0)) rfl ?_
      exact am_Pn.rI h rfl
def wp_X_year (Ψ : Int32 → sg_S → Prop) (x1 : Int32) (s : sg_S) : Prop := (am_SpI 126 [.int x1] s (fun x2 s2 => ((x2.toInt = (0) → (Ψ (Int32.ofInt (0)) s2)) ∧ (¬ x2.toInt = (0) → (Ψ (Int32.ofInt (1)) (sg_uI s2 18 0 x1))))))
set_option maxRecDepth 100000 in
theorem wp_X_year_ok {Ψ : Int32 → sg_S → Prop} {x1 : Int32} {s : sg_S} (h : wp_X_year Ψ x1 s) : am_SpI 125 [.ref 0, .int x1] s Ψ := by
  refine am_SpI.mk (r := am_r125) rfl rfl (fun call d al n hcl => ?_)
  unfold wp_X_year at h
  refine am_Pn.bl 1 (y := (1, [some (.ref 0), some (.int x1)], [.int x1], sg_h s, 0, 0)) rfl ?_
  refine am_Pn.csI hcl h rfl rfl rfl rfl rfl (fun x2 s2 h => ?_)
  refine am_Pn.zF h (am_bne rfl rfl) rfl rfl (fun h => ?_) (fun h => ?_)
  · refine am_Pn.bl 1 (y := (10, [some (.ref 0), some (.int x1)], [.ref 0], sg_h s2, 0, 0)) rfl ?_
    refine am_Pn.gr (k := 2) rfl rfl am_o0 rfl rfl ?_
    refine am_Pn.bl 1 (y := (14, [some (.ref 0), some (.int x1)], [.int x1, .ref 18], sg_h s2, 0, 0)) rfl ?_
    refine am_Pn.pi (k := 0) rfl rfl am_o18 rfl rfl ?_
    refine am_Pn.bl 1 (y := (18, [some (.ref 0), some (.int x1)], [.int (Int32.ofInt (1))], sg_h (sg_uI s2 18 0 x1), 0, 0)) rfl ?_
    exact am_Pn.rI h rfl
  · refine am_Pn.bl 1 (y := (8, [some (.ref 0), some (.int x1)], [.int (Int32.ofInt (0))], sg_h s2, 0, 0)) rfl ?_
    exact am_Pn.rI h rfl
def wp_X_entry (Ψ : Int32 → sg_S → Prop) (x1 : Int32) (x2 : Int32) (x3 : Int32) (s : sg_S) : Prop := (am_SpI 128 [.int x1] s (fun x4 s4 => ((x4.toInt = (0) → (Ψ (Int32.ofInt (-1)) s4)) ∧ (¬ x4.toInt = (0) → (am_SpI 126 [.int x2] s4 (fun x5 s5 => ((x5.toInt = (0) → (Ψ (Int32.ofInt (-1)) s5)) ∧ (¬ x5.toInt = (0) → (am_SpI 72 [.ref 1, .int x3] s5 (fun x6 s6 => ((x6.toInt = (0) → (Ψ (Int32.ofInt (-1)) s6)) ∧ (¬ x6.toInt = (0) → (am_SpI 2 [.ref 18, .int x1, .int x2, .int x3] s6 (fun x7 s7 => (Ψ x7 s7)))))))))))))))
set_option maxRecDepth 100000 in
theorem wp_X_entry_ok {Ψ : Int32 → sg_S → Prop} {x1 : Int32} {x2 : Int32} {x3 : Int32} {s : sg_S} (h : wp_X_entry Ψ x1 x2 x3 s) : am_SpI 127 [.ref 0, .int x1, .int x2, .int x3] s Ψ := by
  refine am_SpI.mk (r := am_r127) rfl rfl (fun call d al n hcl => ?_)
  unfold wp_X_entry at h
  refine am_Pn.bl 1 (y := (1, [some (.ref 0), some (.int x1), some (.int x2), some (.int x3)], [.int x1], sg_h s, 0, 0)) rfl ?_
  refine am_Pn.csI hcl h rfl rfl rfl rfl rfl (fun x4 s4 h => ?_)
  refine am_Pn.zT h (am_beq rfl rfl) rfl rfl (fun h => ?_) (fun h => ?_)
  · refine am_Pn.bl 1 (y := (26, [some (.ref 0), some (.int x1), some (.int x2), some (.int x3)], [.int (Int32.ofInt (-1))], sg_h s4, 0, 0)) rfl ?_
    exact am_Pn.rI h rfl
  · refine am_Pn.bl 1 (y := (8, [some (.ref 0), some (.int x1), some (.int x2), some (.int x3)], [.int x2], sg_h s4, 0, 0)) rfl ?_
    refine am_Pn.csI hcl h rfl rfl rfl rfl rfl (fun x5 s5 h => ?_)
    refine am_Pn.zT h (am_beq rfl rfl) rfl rfl (fun h => ?_) (fun h => ?_)
    · refine am_Pn.bl 1 (y := (26, [some (.ref 0), some (.int x1), some (.int x2), some (.int x3)], [.int (Int32.ofInt (-1))], sg_h s5, 0, 0)) rfl ?_
      exact am_Pn.rI h rfl
    · refine am_Pn.bl 1 (y := (15, [some (.ref 0), some (.int x1), some (.int x2), some (.int x3)], [.ref 0], sg_h s5, 0, 0)) rfl ?_
      refine am_Pn.gr (k := 1) rfl rfl am_o0 rfl rfl ?_
      refine am_Pn.bl 1 (y := (19, [some (.ref 0), some (.int x1), some (.int x2), some (.int x3)], [.int x3, .ref 1], sg_h s5, 0, 0)) rfl ?_
      refine am_Pn.cvI hcl h rfl rfl rfl rfl rfl (fun x6 s6 h => ?_)
      refine am_Pn.zF h (am_bne rfl rfl) rfl rfl (fun h => ?_) (fun h => ?_)
      · refine am_Pn.bl 1 (y := (28, [some (.ref 0), some (.int x1), some (.int x2), some (.int x3)], [.ref 0], sg_h s6, 0, 0)) rfl ?_
        refine am_Pn.gr (k := 2) rfl rfl am_o0 rfl rfl ?_
        refine am_Pn.bl 3 (y := (34, [some (.ref 0), some (.int x1), some (.int x2), some (.int x3)], [.int x3, .int x2, .int x1, .ref 18], sg_h s6, 0, 0)) rfl ?_
        refine am_Pn.cvI hcl h rfl rfl rfl rfl rfl (fun x7 s7 h => ?_)
        exact am_Pn.rI h rfl
      · refine am_Pn.bl 1 (y := (26, [some (.ref 0), some (.int x1), some (.int x2), some (.int x3)], [.int (Int32.ofInt (-1))], sg_h s6, 0, 0)) rfl ?_
        exact am_Pn.rI h rfl
def wp_X_word (Ψ : Int32 → sg_S → Prop) (x1 : Int32) (s : sg_S) : Prop := (am_SpI 128 [.int x1] s (fun x2 s2 => ((x2.toInt = (0) → (Ψ (Int32.ofInt (-1)) s2)) ∧ (¬ x2.toInt = (0) → (am_SpI 3 [.ref 18, .int x1] s2 (fun x3 s3 => (Ψ x3 s3)))))))
set_option maxRecDepth 100000 in
theorem wp_X_word_ok {Ψ : Int32 → sg_S → Prop} {x1 : Int32} {s : sg_S} (h : wp_X_word Ψ x1 s) : am_SpI 129 [.ref 0, .int x1] s Ψ := by
  refine am_SpI.mk (r := am_r129) rfl rfl (fun call d al n hcl => ?_)
  unfold wp_X_word at h
  refine am_Pn.bl 1 (y := (1, [some (.ref 0), some (.int x1)], [.int x1], sg_h s, 0, 0)) rfl ?_
  refine am_Pn.csI hcl h rfl rfl rfl rfl rfl (fun x2 s2 h => ?_)
  refine am_Pn.zT h (am_beq rfl rfl) rfl rfl (fun h => ?_) (fun h => ?_)
  · refine am_Pn.bl 1 (y := (19, [some (.ref 0), some (.int x1)], [.int (Int32.ofInt (-1))], sg_h s2, 0, 0)) rfl ?_
    exact am_Pn.rI h rfl
  · refine am_Pn.bl 1 (y := (8, [some (.ref 0), some (.int x1)], [.ref 0], sg_h s2, 0, 0)) rfl ?_
    refine am_Pn.gr (k := 2) rfl rfl am_o0 rfl rfl ?_
    refine am_Pn.bl 1 (y := (12, [some (.ref 0), some (.int x1)], [.int x1, .ref 18], sg_h s2, 0, 0)) rfl ?_
    refine am_Pn.cvI hcl h rfl rfl rfl rfl rfl (fun x3 s3 h => ?_)
    refine am_Pn.bl 1 (y := (19, [some (.ref 0), some (.int x1)], [.int x3], sg_h s3, 0, 0)) rfl ?_
    exact am_Pn.rI h rfl
def wp_X_like (Ψ : Int32 → sg_S → Prop) (x1 : Int32) (x2 : Int32) (x3 : Int32) (s : sg_S) : Prop := (am_SpI 73 [.ref 1, .int x1] s (fun x4 s4 => ((x4.toInt = (0) → (Ψ (Int32.ofInt (-100)) s4)) ∧ (¬ x4.toInt = (0) → (am_SpI 73 [.ref 1, .int x2] s4 (fun x5 s5 => ((x5.toInt = (0) → (Ψ (Int32.ofInt (-100)) s5)) ∧ (¬ x5.toInt = (0) → ((x3.toInt < (-9) → (Ψ (Int32.ofInt (-100)) s5)) ∧ (¬ x3.toInt < (-9) → (((9) < x3.toInt → (Ψ (Int32.ofInt (-100)) s5)) ∧ (¬ (9) < x3.toInt → (am_SpI 115 [.ref 22, .int x1, .int x2, .int x3] s5 (fun x6 s6 => (Ψ x6 s6)))))))))))))))
set_option maxRecDepth 100000 in
theorem wp_X_like_ok {Ψ : Int32 → sg_S → Prop} {x1 : Int32} {x2 : Int32} {x3 : Int32} {s : sg_S} (h : wp_X_like Ψ x1 x2 x3 s) : am_SpI 130 [.ref 0, .int x1, .int x2, .int x3] s Ψ := by
  refine am_SpI.mk (r := am_r130) rfl rfl (fun call d al n hcl => ?_)
  unfold wp_X_like at h
  refine am_Pn.bl 1 (y := (1, [some (.ref 0), some (.int x1), some (.int x2), some (.int x3)], [.ref 0], sg_h s, 0, 0)) rfl ?_
  refine am_Pn.gr (k := 1) rfl rfl am_o0 rfl rfl ?_
  refine am_Pn.bl 1 (y := (5, [some (.ref 0), some (.int x1), some (.int x2), some (.int x3)], [.int x1, .ref 1], sg_h s, 0, 0)) rfl ?_
  refine am_Pn.cvI hcl h rfl rfl rfl rfl rfl (fun x4 s4 h => ?_)
  refine am_Pn.zT h (am_beq rfl rfl) rfl rfl (fun h => ?_) (fun h => ?_)
  · refine am_Pn.bl 1 (y := (36, [some (.ref 0), some (.int x1), some (.int x2), some (.int x3)], [.int (Int32.ofInt (-100))], sg_h s4, 0, 0)) rfl ?_
    exact am_Pn.rI h rfl
  · refine am_Pn.bl 1 (y := (12, [some (.ref 0), some (.int x1), some (.int x2), some (.int x3)], [.ref 0], sg_h s4, 0, 0)) rfl ?_
    refine am_Pn.gr (k := 1) rfl rfl am_o0 rfl rfl ?_
    refine am_Pn.bl 1 (y := (16, [some (.ref 0), some (.int x1), some (.int x2), some (.int x3)], [.int x2, .ref 1], sg_h s4, 0, 0)) rfl ?_
    refine am_Pn.cvI hcl h rfl rfl rfl rfl rfl (fun x5 s5 h => ?_)
    refine am_Pn.zT h (am_beq rfl rfl) rfl rfl (fun h => ?_) (fun h => ?_)
    · refine am_Pn.bl 1 (y := (36, [some (.ref 0), some (.int x1), some (.int x2), some (.int x3)], [.int (Int32.ofInt (-100))], sg_h s5, 0, 0)) rfl ?_
      exact am_Pn.rI h rfl
    · refine am_Pn.bl 2 (y := (25, [some (.ref 0), some (.int x1), some (.int x2), some (.int x3)], [.int (Int32.ofInt (-9)), .int x3], sg_h s5, 0, 0)) rfl ?_
      refine am_Pn.bT h (am_blt rfl rfl) rfl rfl (fun h => ?_) (fun h => ?_)
      · refine am_Pn.bl 1 (y := (36, [some (.ref 0), some (.int x1), some (.int x2), some (.int x3)], [.int (Int32.ofInt (-100))], sg_h s5, 0, 0)) rfl ?_
        exact am_Pn.rI h rfl
      · refine am_Pn.bl 2 (y := (31, [some (.ref 0), some (.int x1), some (.int x2), some (.int x3)], [.int (Int32.ofInt (9)), .int x3], sg_h s5, 0, 0)) rfl ?_
        refine am_Pn.bF h (am_ble rfl rfl) rfl rfl (fun h => ?_) (fun h => ?_)
        · refine am_Pn.bl 1 (y := (38, [some (.ref 0), some (.int x1), some (.int x2), some (.int x3)], [.ref 0], sg_h s5, 0, 0)) rfl ?_
          refine am_Pn.gr (k := 3) rfl rfl am_o0 rfl rfl ?_
          refine am_Pn.bl 3 (y := (44, [some (.ref 0), some (.int x1), some (.int x2), some (.int x3)], [.int x3, .int x2, .int x1, .ref 22], sg_h s5, 0, 0)) rfl ?_
          refine am_Pn.cvI hcl h rfl rfl rfl rfl rfl (fun x6 s6 h => ?_)
          exact am_Pn.rI h rfl
        · refine am_Pn.bl 1 (y := (36, [some (.ref 0), some (.int x1), some (.int x2), some (.int x3)], [.int (Int32.ofInt (-100))], sg_h s5, 0, 0)) rfl ?_
          exact am_Pn.rI h rfl
def wp_X_type (Ψ : Int32 → sg_S → Prop) (x1 : Int32) (s : sg_S) : Prop := (am_SpI 72 [.ref 1, .int x1] s (fun x2 s2 => ((x2.toInt = (0) → (Ψ (Int32.ofInt (-1)) s2)) ∧ (¬ x2.toInt = (0) → (am_SpI 12 [.ref 35, .int x1] s2 (fun x3 s3 => (Ψ x3 s3)))))))
set_option maxRecDepth 100000 in
theorem wp_X_type_ok {Ψ : Int32 → sg_S → Prop} {x1 : Int32} {s : sg_S} (h : wp_X_type Ψ x1 s) : am_SpI 137 [.ref 0, .int x1] s Ψ := by
  refine am_SpI.mk (r := am_r137) rfl rfl (fun call d al n hcl => ?_)
  unfold wp_X_type at h
  refine am_Pn.bl 1 (y := (1, [some (.ref 0), some (.int x1)], [.ref 0], sg_h s, 0, 0)) rfl ?_
  refine am_Pn.gr (k := 1) rfl rfl am_o0 rfl rfl ?_
  refine am_Pn.bl 1 (y := (5, [some (.ref 0), some (.int x1)], [.int x1, .ref 1], sg_h s, 0, 0)) rfl ?_
  refine am_Pn.cvI hcl h rfl rfl rfl rfl rfl (fun x2 s2 h => ?_)
  refine am_Pn.zT h (am_beq rfl rfl) rfl rfl (fun h => ?_) (fun h => ?_)
  · refine am_Pn.bl 1 (y := (23, [some (.ref 0), some (.int x1)], [.int (Int32.ofInt (-1))], sg_h s2, 0, 0)) rfl ?_
    exact am_Pn.rI h rfl
  · refine am_Pn.bl 1 (y := (12, [some (.ref 0), some (.int x1)], [.ref 0], sg_h s2, 0, 0)) rfl ?_
    refine am_Pn.gr (k := 6) rfl rfl am_o0 rfl rfl ?_
    refine am_Pn.bl 1 (y := (16, [some (.ref 0), some (.int x1)], [.int x1, .ref 35], sg_h s2, 0, 0)) rfl ?_
    refine am_Pn.cvI hcl h rfl rfl rfl rfl rfl (fun x3 s3 h => ?_)
    refine am_Pn.bl 1 (y := (23, [some (.ref 0), some (.int x1)], [.int x3], sg_h s3, 0, 0)) rfl ?_
    exact am_Pn.rI h rfl
def wp_X_store (Ψ : Int32 → sg_S → Prop) (x1 : Int32) (x2 : Int32) (x3 : Int32) (s : sg_S) : Prop := (am_SpI 132 [.int x1, .int x2, .int x3] s (fun x4 s4 => ((x4.toInt = (0) → (Ψ (Int32.ofInt (-1)) s4)) ∧ (¬ x4.toInt = (0) → (am_SpI 108 [.ref 58, .int x1, .int x2, .int x3] s4 (fun x5 s5 => (Ψ x5 s5)))))))
set_option maxRecDepth 100000 in
theorem wp_X_store_ok {Ψ : Int32 → sg_S → Prop} {x1 : Int32} {x2 : Int32} {x3 : Int32} {s : sg_S} (h : wp_X_store Ψ x1 x2 x3 s) : am_SpI 141 [.ref 0, .int x1, .int x2, .int x3] s Ψ := by
  refine am_SpI.mk (r := am_r141) rfl rfl (fun call d al n hcl => ?_)
  unfold wp_X_store at h
  refine am_Pn.bl 3 (y := (3, [some (.ref 0), some (.int x1), some (.int x2), some (.int x3)], [.int x3, .int x2, .int x1], sg_h s, 0, 0)) rfl ?_
  refine am_Pn.csI hcl h rfl rfl rfl rfl rfl (fun x4 s4 h => ?_)
  refine am_Pn.zT h (am_beq rfl rfl) rfl rfl (fun h => ?_) (fun h => ?_)
  · refine am_Pn.bl 1 (y := (23, [some (.ref 0), some (.int x1), some (.int x2), some (.int x3)], [.int (Int32.ofInt (-1))], sg_h s4, 0, 0)) rfl ?_
    exact am_Pn.rI h rfl
  · refine am_Pn.bl 1 (y := (10, [some (.ref 0), some (.int x1), some (.int x2), some (.int x3)], [.ref 0], sg_h s4, 0, 0)) rfl ?_
    refine am_Pn.gr (k := 7) rfl rfl am_o0 rfl rfl ?_
    refine am_Pn.bl 3 (y := (16, [some (.ref 0), some (.int x1), some (.int x2), some (.int x3)], [.int x3, .int x2, .int x1, .ref 58], sg_h s4, 0, 0)) rfl ?_
    refine am_Pn.cvI hcl h rfl rfl rfl rfl rfl (fun x5 s5 h => ?_)
    refine am_Pn.bl 1 (y := (23, [some (.ref 0), some (.int x1), some (.int x2), some (.int x3)], [.int x5], sg_h s5, 0, 0)) rfl ?_
    exact am_Pn.rI h rfl
def wp_M_in (Ψ : Int32 → sg_S → Prop) (x1 : Int32) (x2 : Int32) (x3 : Int32) (s : sg_S) : Prop := ((x1.toInt < x2.toInt → (Ψ (Int32.ofInt (0)) s)) ∧ (¬ x1.toInt < x2.toInt → ((x3.toInt < x1.toInt → (Ψ (Int32.ofInt (0)) s)) ∧ (¬ x3.toInt < x1.toInt → (Ψ (Int32.ofInt (1)) s)))))
set_option maxRecDepth 100000 in
theorem wp_M_in_ok {Ψ : Int32 → sg_S → Prop} {x1 : Int32} {x2 : Int32} {x3 : Int32} {s : sg_S} (h : wp_M_in Ψ x1 x2 x3 s) : am_SpI 168 [.int x1, .int x2, .int x3] s Ψ := by
  refine am_SpI.mk (r := am_r168) rfl rfl (fun call d al n hcl => ?_)
  unfold wp_M_in at h
  refine am_Pn.bl 2 (y := (2, [some (.int x1), some (.int x2), some (.int x3)], [.int x2, .int x1], sg_h s, 0, 0)) rfl ?_
  refine am_Pn.bT h (am_blt rfl rfl) rfl rfl (fun h => ?_) (fun h => ?_)
  · refine am_Pn.bl 1 (y := (15, [some (.int x1), some (.int x2), some (.int x3)], [.int (Int32.ofInt (0))], sg_h s, 0, 0)) rfl ?_
    exact am_Pn.rI h rfl
  · refine am_Pn.bl 2 (y := (7, [some (.int x1), some (.int x2), some (.int x3)], [.int x3, .int x1], sg_h s, 0, 0)) rfl ?_
    refine am_Pn.bT h (am_bgt rfl rfl) rfl rfl (fun h => ?_) (fun h => ?_)
    · refine am_Pn.bl 1 (y := (15, [some (.int x1), some (.int x2), some (.int x3)], [.int (Int32.ofInt (0))], sg_h s, 0, 0)) rfl ?_
      exact am_Pn.rI h rfl
    · refine am_Pn.bl 2 (y := (15, [some (.int x1), some (.int x2), some (.int x3)], [.int (Int32.ofInt (1))], sg_h s, 0, 0)) rfl ?_
      exact am_Pn.rI h rfl
def wp_M_isSet (Ψ : Int32 → sg_S → Prop) (x1 : Int32) (s : sg_S) : Prop := (am_SpI 168 [.int x1, .int (Int32.ofInt (0)), .int (((Int32.ofInt (1)) <<< ((s.1 64 21) &&& 31)) - (Int32.ofInt (1)))] s (fun x2 s2 => (Ψ x2 s2)))
set_option maxRecDepth 100000 in
theorem wp_M_isSet_ok {Ψ : Int32 → sg_S → Prop} {x1 : Int32} {s : sg_S} (h : wp_M_isSet Ψ x1 s) : am_SpI 175 [.ref 64, .int x1] s Ψ := by
  refine am_SpI.mk (r := am_r175) rfl rfl (fun call d al n hcl => ?_)
  unfold wp_M_isSet at h
  refine am_Pn.bl 4 (y := (4, [some (.ref 64), some (.int x1)], [.ref 64, .int (Int32.ofInt (1)), .int (Int32.ofInt (0)), .int x1], sg_h s, 0, 0)) rfl ?_
  refine am_Pn.gi (k := 21) rfl rfl am_o64 rfl rfl ?_
  refine am_Pn.bl 3 (y := (10, [some (.ref 64), some (.int x1)], [.int (((Int32.ofInt (1)) <<< ((s.1 64 21) &&& 31)) - (Int32.ofInt (1))), .int (Int32.ofInt (0)), .int x1], sg_h s, 0, 0)) rfl ?_
  refine am_Pn.csI hcl h rfl rfl rfl rfl rfl (fun x2 s2 h => ?_)
  exact am_Pn.rI h rfl
def wp_M_poet (Ψ : Int32 → sg_S → Prop) (x1 : Int32) (s : sg_S) : Prop := (am_SpI 168 [.int x1, .int (Int32.ofInt (0)), .int (Int32.ofInt (99))] s (fun x2 s2 => ((x2.toInt = (0) → (Ψ (Int32.ofInt (-1)) s2)) ∧ (¬ x2.toInt = (0) → (((s2.1 64 30).toInt = (12) → (Ψ (Int32.ofInt (-1)) s2)) ∧ (¬ (s2.1 64 30).toInt = (12) → (0 ≤ (s2.1 64 30).toInt → (s2.1 64 30).toInt < (12) → (Ψ (((s2.1 64 30) + (Int32.ofInt (1))) - (Int32.ofInt (1))) (sg_uI (sg_uA (sg_uA s2 76 ((s2.1 64 30).toInt.toNat) x1) 77 ((s2.1 64 30).toInt.toNat) (vp_nar .boolean (Int32.ofInt (0)))) 64 30 ((s2.1 64 30) + (Int32.ofInt (1))))))))))))
set_option maxRecDepth 100000 in
theorem wp_M_poet_ok {Ψ : Int32 → sg_S → Prop} {x1 : Int32} {s : sg_S} (h : wp_M_poet Ψ x1 s) : am_SpI 167 [.ref 64, .int x1] s Ψ := by
  refine am_SpI.mk (r := am_r167) rfl rfl (fun call d al n hcl => ?_)
  unfold wp_M_poet at h
  refine am_Pn.bl 3 (y := (4, [some (.ref 64), some (.int x1)], [.int (Int32.ofInt (99)), .int (Int32.ofInt (0)), .int x1], sg_h s, 0, 0)) rfl ?_
  refine am_Pn.csI hcl h rfl rfl rfl rfl rfl (fun x2 s2 h => ?_)
  refine am_Pn.zT h (am_beq rfl rfl) rfl rfl (fun h => ?_) (fun h => ?_)
  · refine am_Pn.bl 1 (y := (20, [some (.ref 64), some (.int x1)], [.int (Int32.ofInt (-1))], sg_h s2, 0, 0)) rfl ?_
    exact am_Pn.rI h rfl
  · refine am_Pn.bl 1 (y := (11, [some (.ref 64), some (.int x1)], [.ref 64], sg_h s2, 0, 0)) rfl ?_
    refine am_Pn.gi (k := 30) rfl rfl am_o64 rfl rfl ?_
    refine am_Pn.bl 1 (y := (16, [some (.ref 64), some (.int x1)], [.int (Int32.ofInt (12)), .int (s2.1 64 30)], sg_h s2, 0, 0)) rfl ?_
    refine am_Pn.bF h (am_bne rfl rfl) rfl rfl (fun h => ?_) (fun h => ?_)
    · refine am_Pn.bl 1 (y := (22, [some (.ref 64), some (.int x1)], [.ref 64], sg_h s2, 0, 0)) rfl ?_
      refine am_Pn.gr (k := 31) rfl rfl am_o64 rfl rfl ?_
      refine am_Pn.bl 1 (y := (26, [some (.ref 64), some (.int x1)], [.ref 64, .ref 76], sg_h s2, 0, 0)) rfl ?_
      refine am_Pn.gi (k := 30) rfl rfl am_o64 rfl rfl ?_
      refine am_Pn.bl 1 (y := (30, [some (.ref 64), some (.int x1)], [.int x1, .int (s2.1 64 30), .ref 76], sg_h s2, 0, 0)) rfl ?_
      refine am_Pn.is (a := 76) rfl rfl rfl (fun hi => ?_)
      replace h := h (am_in0 hi) (am_in1 hi)
      refine am_Pn.bl 1 (y := (32, [some (.ref 64), some (.int x1)], [.ref 64], sg_h (sg_uA s2 76 ((s2.1 64 30).toInt.toNat) x1), 0, 0)) rfl ?_
      refine am_Pn.gr (k := 32) rfl rfl am_o64 rfl rfl ?_
      refine am_Pn.bl 1 (y := (36, [some (.ref 64), some (.int x1)], [.ref 64, .ref 77], sg_h (sg_uA s2 76 ((s2.1 64 30).toInt.toNat) x1), 0, 0)) rfl ?_
      refine am_Pn.gi (k := 30) rfl rfl am_o64 rfl rfl ?_
      refine am_Pn.bl 1 (y := (40, [some (.ref 64), some (.int x1)], [.int (Int32.ofInt (0)), .int (s2.1 64 30), .ref 77], sg_h (sg_uA s2 76 ((s2.1 64 30).toInt.toNat) x1), 0, 0)) rfl ?_
      refine am_Pn.bs (a := 77) rfl rfl rfl (fun hi => ?_)
      refine am_Pn.bl 2 (y := (43, [some (.ref 64), some (.int x1)], [.ref 64, .ref 64], sg_h (sg_uA (sg_uA s2 76 ((s2.1 64 30).toInt.toNat) x1) 77 ((s2.1 64 30).toInt.toNat) (vp_nar .boolean (Int32.ofInt (0)))), 0, 0)) rfl ?_
      refine am_Pn.gi (k := 30) rfl rfl am_o64 rfl rfl ?_
      refine am_Pn.bl 2 (y := (48, [some (.ref 64), some (.int x1)], [.int ((s2.1 64 30) + (Int32.ofInt (1))), .ref 64], sg_h (sg_uA (sg_uA s2 76 ((s2.1 64 30).toInt.toNat) x1) 77 ((s2.1 64 30).toInt.toNat) (vp_nar .boolean (Int32.ofInt (0)))), 0, 0)) rfl ?_
      refine am_Pn.pi (k := 30) rfl rfl am_o64 rfl rfl ?_
      refine am_Pn.bl 1 (y := (52, [some (.ref 64), some (.int x1)], [.ref 64], sg_h (sg_uI (sg_uA (sg_uA s2 76 ((s2.1 64 30).toInt.toNat) x1) 77 ((s2.1 64 30).toInt.toNat) (vp_nar .boolean (Int32.ofInt (0)))) 64 30 ((s2.1 64 30) + (Int32.ofInt (1)))), 0, 0)) rfl ?_
      refine am_Pn.gi (k := 30) rfl rfl am_o64 rfl rfl ?_
      refine am_Pn.bl 2 (y := (57, [some (.ref 64), some (.int x1)], [.int (((s2.1 64 30) + (Int32.ofInt (1))) - (Int32.ofInt (1)))], sg_h (sg_uI (sg_uA (sg_uA s2 76 ((s2.1 64 30).toInt.toNat) x1) 77 ((s2.1 64 30).toInt.toNat) (vp_nar .boolean (Int32.ofInt (0)))) 64 30 ((s2.1 64 30) + (Int32.ofInt (1)))), 0, 0)) rfl ?_
      exact am_Pn.rI h rfl
    · refine am_Pn.bl 1 (y := (20, [some (.ref 64), some (.int x1)], [.int (Int32.ofInt (-1))], sg_h s2, 0, 0)) rfl ?_
      exact am_Pn.rI h rfl
def wp_M_year (Ψ : Int32 → sg_S → Prop) (x1 : Int32) (s : sg_S) : Prop := (am_SpI 168 [.int x1, .int (Int32.ofInt (0)), .int (Int32.ofInt (9999))] s (fun x2 s2 => ((x2.toInt = (0) → (Ψ (Int32.ofInt (0)) s2)) ∧ (¬ x2.toInt = (0) → (Ψ (Int32.ofInt (1)) (sg_uI s2 64 33 x1))))))
set_option maxRecDepth 100000 in
theorem wp_M_year_ok {Ψ : Int32 → sg_S → Prop} {x1 : Int32} {s : sg_S} (h : wp_M_year Ψ x1 s) : am_SpI 173 [.ref 64, .int x1] s Ψ := by
  refine am_SpI.mk (r := am_r173) rfl rfl (fun call d al n hcl => ?_)
  unfold wp_M_year at h
  refine am_Pn.bl 3 (y := (5, [some (.ref 64), some (.int x1)], [.int (Int32.ofInt (9999)), .int (Int32.ofInt (0)), .int x1], sg_h s, 0, 0)) rfl ?_
  refine am_Pn.csI hcl h rfl rfl rfl rfl rfl (fun x2 s2 h => ?_)
  refine am_Pn.zF h (am_bne rfl rfl) rfl rfl (fun h => ?_) (fun h => ?_)
  · refine am_Pn.bl 2 (y := (15, [some (.ref 64), some (.int x1)], [.int x1, .ref 64], sg_h s2, 0, 0)) rfl ?_
    refine am_Pn.pi (k := 33) rfl rfl am_o64 rfl rfl ?_
    refine am_Pn.bl 1 (y := (19, [some (.ref 64), some (.int x1)], [.int (Int32.ofInt (1))], sg_h (sg_uI s2 64 33 x1), 0, 0)) rfl ?_
    exact am_Pn.rI h rfl
  · refine am_Pn.bl 1 (y := (12, [some (.ref 64), some (.int x1)], [.int (Int32.ofInt (0))], sg_h s2, 0, 0)) rfl ?_
    exact am_Pn.rI h rfl
def wp_M_entry_34 (I34 : Int32 →  sg_S → Prop) (Ψ : Int32 → sg_S → Prop) (x1 : Int32) (x2 : Int32) (x3 : Int32) (l4 : Int32) (s : sg_S) : Prop := ((l4.toInt < (s.1 64 34).toInt → (0 ≤ l4.toInt → l4.toInt < (100) → (((s.2.2.1 78 (l4.toInt.toNat)).toInt = x1.toInt → (((s.2.2.1 79 (l4.toInt.toNat)).toInt = x2.toInt → (Ψ (s.1 64 34) (sg_uA s 80 (l4.toInt.toNat) x3))) ∧ (¬ (s.2.2.1 79 (l4.toInt.toNat)).toInt = x2.toInt → (I34 (l4 + Int32.ofInt (1)) s)))) ∧ (¬ (s.2.2.1 78 (l4.toInt.toNat)).toInt = x1.toInt → (I34 (l4 + Int32.ofInt (1)) s))))) ∧ (¬ l4.toInt < (s.1 64 34).toInt → (((s.1 64 34).toInt = (100) → (Ψ (Int32.ofInt (-1)) s)) ∧ (¬ (s.1 64 34).toInt = (100) → (0 ≤ (s.1 64 34).toInt → (s.1 64 34).toInt < (100) → (Ψ ((s.1 64 34) + (Int32.ofInt (1))) (sg_uI (sg_uA (sg_uA (sg_uA s 78 ((s.1 64 34).toInt.toNat) x1) 79 ((s.1 64 34).toInt.toNat) x2) 80 ((s.1 64 34).toInt.toNat) x3) 64 34 ((s.1 64 34) + (Int32.ofInt (1))))))))))
def wp_M_entry (I34 : Int32 →  sg_S → Prop) (Ψ : Int32 → sg_S → Prop) (x1 : Int32) (x2 : Int32) (x3 : Int32) (s : sg_S) : Prop := (am_SpI 168 [.int x1, .int (Int32.ofInt (0)), .int (Int32.ofInt (29))] s (fun x4 s4 => ((x4.toInt = (0) → (Ψ (Int32.ofInt (-1)) s4)) ∧ (¬ x4.toInt = (0) → (am_SpI 168 [.int x2, .int (Int32.ofInt (0)), .int (Int32.ofInt (9999))] s4 (fun x5 s5 => ((x5.toInt = (0) → (Ψ (Int32.ofInt (-1)) s5)) ∧ (¬ x5.toInt = (0) → (am_SpI 175 [.ref 64, .int x3] s5 (fun x6 s6 => ((x6.toInt = (0) → (Ψ (Int32.ofInt (-1)) s6)) ∧ (¬ x6.toInt = (0) → (I34 (Int32.ofInt (0)) s6)))))))))))))
set_option maxRecDepth 100000 in
theorem wp_M_entry_ok {I34 : Int32 →  sg_S → Prop} {Ψ : Int32 → sg_S → Prop} {x1 : Int32} {x2 : Int32} {x3 : Int32} {s : sg_S} (k34 : ∀ (l4 : Int32) (s : sg_S), I34 l4 s → wp_M_entry_34 I34 Ψ x1 x2 x3 l4 s) (h : wp_M_entry I34 Ψ x1 x2 x3 s) : am_SpI 174 [.ref 64, .int x1, .int x2, .int x3] s Ψ := by
  refine am_SpI.mk (r := am_r174) rfl rfl (fun call d al n hcl => ?_)
  have key : ∀ n, (∀ (l4 : Int32) (s : sg_S), I34 l4 s → am_Pn call d (0, fun _ => 0) al am_r174 (am_PhI am_r174 Ψ) n (34, [some (.ref 64), some (.int x1), some (.int x2), some (.int x3), some (.int l4)], [], sg_h s, 0, 0)) := by
    intro n
    induction n with
    | zero => exact fun _ _ _ => am_Pn.zero
    | succ n ih =>
      intro l4 s h
      replace h := k34 l4 s h
      unfold wp_M_entry_34 at h
      refine am_Pn.bl1 1 (y := (37, [some (.ref 64), some (.int x1), some (.int x2), some (.int x3), some (.int l4)], [.ref 64, .int l4], sg_h s, 0, 0)) rfl ?_
      refine am_Pn.gi (k := 34) rfl rfl am_o64 rfl rfl ?_
      refine am_Pn.bF h (am_bge rfl rfl) rfl rfl (fun h => ?_) (fun h => ?_)
      · refine am_Pn.bl 1 (y := (88, [some (.ref 64), some (.int x1), some (.int x2), some (.int x3), some (.int l4)], [.ref 64], sg_h s, 0, 0)) rfl ?_
        refine am_Pn.gi (k := 34) rfl rfl am_o64 rfl rfl ?_
        refine am_Pn.bl 1 (y := (93, [some (.ref 64), some (.int x1), some (.int x2), some (.int x3), some (.int l4)], [.int (Int32.ofInt (100)), .int (s.1 64 34)], sg_h s, 0, 0)) rfl ?_
        refine am_Pn.bF h (am_bne rfl rfl) rfl rfl (fun h => ?_) (fun h => ?_)
        · refine am_Pn.bl 1 (y := (99, [some (.ref 64), some (.int x1), some (.int x2), some (.int x3), some (.int l4)], [.ref 64], sg_h s, 0, 0)) rfl ?_
          refine am_Pn.gr (k := 35) rfl rfl am_o64 rfl rfl ?_
          refine am_Pn.bl 1 (y := (103, [some (.ref 64), some (.int x1), some (.int x2), some (.int x3), some (.int l4)], [.ref 64, .ref 78], sg_h s, 0, 0)) rfl ?_
          refine am_Pn.gi (k := 34) rfl rfl am_o64 rfl rfl ?_
          refine am_Pn.bl 1 (y := (107, [some (.ref 64), some (.int x1), some (.int x2), some (.int x3), some (.int l4)], [.int x1, .int (s.1 64 34), .ref 78], sg_h s, 0, 0)) rfl ?_
          refine am_Pn.is (a := 78) rfl rfl rfl (fun hi => ?_)
          replace h := h (am_in0 hi) (am_in1 hi)
          refine am_Pn.bl 1 (y := (109, [some (.ref 64), some (.int x1), some (.int x2), some (.int x3), some (.int l4)], [.ref 64], sg_h (sg_uA s 78 ((s.1 64 34).toInt.toNat) x1), 0, 0)) rfl ?_
          refine am_Pn.gr (k := 36) rfl rfl am_o64 rfl rfl ?_
          refine am_Pn.bl 1 (y := (113, [some (.ref 64), some (.int x1), some (.int x2), some (.int x3), some (.int l4)], [.ref 64, .ref 79], sg_h (sg_uA s 78 ((s.1 64 34).toInt.toNat) x1), 0, 0)) rfl ?_
          refine am_Pn.gi (k := 34) rfl rfl am_o64 rfl rfl ?_
          refine am_Pn.bl 1 (y := (117, [some (.ref 64), some (.int x1), some (.int x2), some (.int x3), some (.int l4)], [.int x2, .int (s.1 64 34), .ref 79], sg_h (sg_uA s 78 ((s.1 64 34).toInt.toNat) x1), 0, 0)) rfl ?_
          refine am_Pn.is (a := 79) rfl rfl rfl (fun hi => ?_)
          refine am_Pn.bl 1 (y := (119, [some (.ref 64), some (.int x1), some (.int x2), some (.int x3), some (.int l4)], [.ref 64], sg_h (sg_uA (sg_uA s 78 ((s.1 64 34).toInt.toNat) x1) 79 ((s.1 64 34).toInt.toNat) x2), 0, 0)) rfl ?_
          refine am_Pn.gr (k := 37) rfl rfl am_o64 rfl rfl ?_
          refine am_Pn.bl 1 (y := (123, [some (.ref 64), some (.int x1), some (.int x2), some (.int x3), some (.int l4)], [.ref 64, .ref 80], sg_h (sg_uA (sg_uA s 78 ((s.1 64 34).toInt.toNat) x1) 79 ((s.1 64 34).toInt.toNat) x2), 0, 0)) rfl ?_
          refine am_Pn.gi (k := 34) rfl rfl am_o64 rfl rfl ?_
          refine am_Pn.bl 1 (y := (127, [some (.ref 64), some (.int x1), some (.int x2), some (.int x3), some (.int l4)], [.int x3, .int (s.1 64 34), .ref 80], sg_h (sg_uA (sg_uA s 78 ((s.1 64 34).toInt.toNat) x1) 79 ((s.1 64 34).toInt.toNat) x2), 0, 0)) rfl ?_
          refine am_Pn.is (a := 80) rfl rfl rfl (fun hi => ?_)
          refine am_Pn.bl 2 (y := (130, [some (.ref 64), some (.int x1), some (.int x2), some (.int x3), some (.int l4)], [.ref 64, .ref 64], sg_h (sg_uA (sg_uA (sg_uA s 78 ((s.1 64 34).toInt.toNat) x1) 79 ((s.1 64 34).toInt.toNat) x2) 80 ((s.1 64 34).toInt.toNat) x3), 0, 0)) rfl ?_
          refine am_Pn.gi (k := 34) rfl rfl am_o64 rfl rfl ?_
          refine am_Pn.bl 2 (y := (135, [some (.ref 64), some (.int x1), some (.int x2), some (.int x3), some (.int l4)], [.int ((s.1 64 34) + (Int32.ofInt (1))), .ref 64], sg_h (sg_uA (sg_uA (sg_uA s 78 ((s.1 64 34).toInt.toNat) x1) 79 ((s.1 64 34).toInt.toNat) x2) 80 ((s.1 64 34).toInt.toNat) x3), 0, 0)) rfl ?_
          refine am_Pn.pi (k := 34) rfl rfl am_o64 rfl rfl ?_
          refine am_Pn.bl 1 (y := (139, [some (.ref 64), some (.int x1), some (.int x2), some (.int x3), some (.int l4)], [.ref 64], sg_h (sg_uI (sg_uA (sg_uA (sg_uA s 78 ((s.1 64 34).toInt.toNat) x1) 79 ((s.1 64 34).toInt.toNat) x2) 80 ((s.1 64 34).toInt.toNat) x3) 64 34 ((s.1 64 34) + (Int32.ofInt (1)))), 0, 0)) rfl ?_
          refine am_Pn.gi (k := 34) rfl rfl am_o64 rfl rfl ?_
          exact am_Pn.rI h rfl
        · refine am_Pn.bl 1 (y := (97, [some (.ref 64), some (.int x1), some (.int x2), some (.int x3), some (.int l4)], [.int (Int32.ofInt (-1))], sg_h s, 0, 0)) rfl ?_
          exact am_Pn.rI h rfl
      · refine am_Pn.bl 1 (y := (44, [some (.ref 64), some (.int x1), some (.int x2), some (.int x3), some (.int l4)], [.ref 64], sg_h s, 0, 0)) rfl ?_
        refine am_Pn.gr (k := 35) rfl rfl am_o64 rfl rfl ?_
        refine am_Pn.bl 1 (y := (49, [some (.ref 64), some (.int x1), some (.int x2), some (.int x3), some (.int l4)], [.int l4, .ref 78], sg_h s, 0, 0)) rfl ?_
        refine am_Pn.ia (a := 78) rfl rfl rfl rfl (fun hi => ?_)
        replace h := h (am_in0 hi) (am_in1 hi)
        refine am_Pn.bl 1 (y := (51, [some (.ref 64), some (.int x1), some (.int x2), some (.int x3), some (.int l4)], [.int x1, .int (s.2.2.1 78 (l4.toInt.toNat))], sg_h s, 0, 0)) rfl ?_
        refine am_Pn.bF h (am_bne rfl rfl) rfl rfl (fun h => ?_) (fun h => ?_)
        · refine am_Pn.bl 2 (y := (34, [some (.ref 64), some (.int x1), some (.int x2), some (.int x3), some (.int (l4 + Int32.ofInt (1)))], [], sg_h s, 0, 0)) rfl ?_
          exact (ih) (l4 + Int32.ofInt (1)) s h
        · refine am_Pn.bl 1 (y := (55, [some (.ref 64), some (.int x1), some (.int x2), some (.int x3), some (.int l4)], [.ref 64], sg_h s, 0, 0)) rfl ?_
          refine am_Pn.gr (k := 36) rfl rfl am_o64 rfl rfl ?_
          refine am_Pn.bl 1 (y := (60, [some (.ref 64), some (.int x1), some (.int x2), some (.int x3), some (.int l4)], [.int l4, .ref 79], sg_h s, 0, 0)) rfl ?_
          refine am_Pn.ia (a := 79) rfl rfl rfl rfl (fun hi => ?_)
          refine am_Pn.bl 1 (y := (62, [some (.ref 64), some (.int x1), some (.int x2), some (.int x3), some (.int l4)], [.int x2, .int (s.2.2.1 79 (l4.toInt.toNat))], sg_h s, 0, 0)) rfl ?_
          refine am_Pn.bT h (am_beq rfl rfl) rfl rfl (fun h => ?_) (fun h => ?_)
          · refine am_Pn.bl 1 (y := (69, [some (.ref 64), some (.int x1), some (.int x2), some (.int x3), some (.int l4)], [.ref 64], sg_h s, 0, 0)) rfl ?_
            refine am_Pn.gr (k := 37) rfl rfl am_o64 rfl rfl ?_
            refine am_Pn.bl 2 (y := (75, [some (.ref 64), some (.int x1), some (.int x2), some (.int x3), some (.int l4)], [.int x3, .int l4, .ref 80], sg_h s, 0, 0)) rfl ?_
            refine am_Pn.is (a := 80) rfl rfl rfl (fun hi => ?_)
            refine am_Pn.bl 1 (y := (77, [some (.ref 64), some (.int x1), some (.int x2), some (.int x3), some (.int l4)], [.ref 64], sg_h (sg_uA s 80 (l4.toInt.toNat) x3), 0, 0)) rfl ?_
            refine am_Pn.gi (k := 34) rfl rfl am_o64 rfl rfl ?_
            exact am_Pn.rI h rfl
          · refine am_Pn.bl 3 (y := (34, [some (.ref 64), some (.int x1), some (.int x2), some (.int x3), some (.int (l4 + Int32.ofInt (1)))], [], sg_h s, 0, 0)) rfl ?_
            exact (ih) (l4 + Int32.ofInt (1)) s h
  unfold wp_M_entry at h
  refine am_Pn.bl 3 (y := (4, [some (.ref 64), some (.int x1), some (.int x2), some (.int x3), none], [.int (Int32.ofInt (29)), .int (Int32.ofInt (0)), .int x1], sg_h s, 0, 0)) rfl ?_
  refine am_Pn.csI hcl h rfl rfl rfl rfl rfl (fun x4 s4 h => ?_)
  refine am_Pn.zT h (am_beq rfl rfl) rfl rfl (fun h => ?_) (fun h => ?_)
  · refine am_Pn.bl 1 (y := (30, [some (.ref 64), some (.int x1), some (.int x2), some (.int x3), none], [.int (Int32.ofInt (-1))], sg_h s4, 0, 0)) rfl ?_
    exact am_Pn.rI h rfl
  · refine am_Pn.bl 3 (y := (15, [some (.ref 64), some (.int x1), some (.int x2), some (.int x3), none], [.int (Int32.ofInt (9999)), .int (Int32.ofInt (0)), .int x2], sg_h s4, 0, 0)) rfl ?_
    refine am_Pn.csI hcl h rfl rfl rfl rfl rfl (fun x5 s5 h => ?_)
    refine am_Pn.zT h (am_beq rfl rfl) rfl rfl (fun h => ?_) (fun h => ?_)
    · refine am_Pn.bl 1 (y := (30, [some (.ref 64), some (.int x1), some (.int x2), some (.int x3), none], [.int (Int32.ofInt (-1))], sg_h s5, 0, 0)) rfl ?_
      exact am_Pn.rI h rfl
    · refine am_Pn.bl 2 (y := (23, [some (.ref 64), some (.int x1), some (.int x2), some (.int x3), none], [.int x3, .ref 64], sg_h s5, 0, 0)) rfl ?_
      refine am_Pn.cvI hcl h rfl rfl rfl rfl rfl (fun x6 s6 h => ?_)
      refine am_Pn.zF h (am_bne rfl rfl) rfl rfl (fun h => ?_) (fun h => ?_)
      · refine am_Pn.bl 2 (y := (34, [some (.ref 64), some (.int x1), some (.int x2), some (.int x3), some (.int (Int32.ofInt (0)))], [], sg_h s6, 0, 0)) rfl ?_
        exact ((key n)) (Int32.ofInt (0)) s6 h
      · refine am_Pn.bl 1 (y := (30, [some (.ref 64), some (.int x1), some (.int x2), some (.int x3), none], [.int (Int32.ofInt (-1))], sg_h s6, 0, 0)) rfl ?_
        exact am_Pn.rI h rfl
def wp_M_setOf1_4 (I4 : Int32 → Int32 →  sg_S → Prop) (Ψ : Int32 → sg_S → Prop) (x1 : Int32) (l2 : Int32) (l3 : Int32) (s : sg_S) : Prop := ((l3.toInt < (s.1 64 34).toInt → (0 ≤ l3.toInt → l3.toInt < (100) → (((s.2.2.1 78 (l3.toInt.toNat)).toInt = x1.toInt → (((s.1 64 33).toInt < (s.2.2.1 79 (l3.toInt.toNat)).toInt → (I4 l2 (l3 + Int32.ofInt (1)) s)) ∧ (¬ (s.1 64 33).toInt < (s.2.2.1 79 (l3.toInt.toNat)).toInt → ((l2.toInt = (-1) → (I4 l3 (l3 + Int32.ofInt (1)) s)) ∧ (¬ l2.toInt = (-1) → (0 ≤ l2.toInt → l2.toInt < (100) → (((s.2.2.1 79 (l2.toInt.toNat)).toInt < (s.2.2.1 79 (l3.toInt.toNat)).toInt → (I4 l3 (l3 + Int32.ofInt (1)) s)) ∧ (¬ (s.2.2.1 79 (l2.toInt.toNat)).toInt < (s.2.2.1 79 (l3.toInt.toNat)).toInt → (I4 l2 (l3 + Int32.ofInt (1)) s))))))))) ∧ (¬ (s.2.2.1 78 (l3.toInt.toNat)).toInt = x1.toInt → (I4 l2 (l3 + Int32.ofInt (1)) s))))) ∧ (¬ l3.toInt < (s.1 64 34).toInt → ((l2.toInt = (-1) → (Ψ (Int32.ofInt (0)) s)) ∧ (¬ l2.toInt = (-1) → (0 ≤ l2.toInt → l2.toInt < (100) → (Ψ (s.2.2.1 80 (l2.toInt.toNat)) s))))))
def wp_M_setOf1 (I4 : Int32 → Int32 →  sg_S → Prop) (Ψ : Int32 → sg_S → Prop) (x1 : Int32) (s : sg_S) : Prop := (I4 (Int32.ofInt (-1)) (Int32.ofInt (0)) s)
set_option maxRecDepth 100000 in
theorem wp_M_setOf1_ok {I4 : Int32 → Int32 →  sg_S → Prop} {Ψ : Int32 → sg_S → Prop} {x1 : Int32} {s : sg_S} (k4 : ∀ (l2 : Int32) (l3 : Int32) (s : sg_S), I4 l2 l3 s → wp_M_setOf1_4 I4 Ψ x1 l2 l3 s) (h : wp_M_setOf1 I4 Ψ x1 s) : am_SpI 177 [.ref 64, .int x1] s Ψ := by
  refine am_SpI.mk (r := am_r177) rfl rfl (fun call d al n hcl => ?_)
  have key : ∀ n, (∀ (l2 : Int32) (l3 : Int32) (s : sg_S), I4 l2 l3 s → am_Pn call d (0, fun _ => 0) al am_r177 (am_PhI am_r177 Ψ) n (4, [some (.ref 64), some (.int x1), some (.int l2), some (.int l3)], [], sg_h s, 0, 0)) := by
    intro n
    induction n with
    | zero => exact fun _ _ _ _ => am_Pn.zero
    | succ n ih =>
      intro l2 l3 s h
      replace h := k4 l2 l3 s h
      unfold wp_M_setOf1_4 at h
      refine am_Pn.bl1 1 (y := (6, [some (.ref 64), some (.int x1), some (.int l2), some (.int l3)], [.ref 64, .int l3], sg_h s, 0, 0)) rfl ?_
      refine am_Pn.gi (k := 34) rfl rfl am_o64 rfl rfl ?_
      refine am_Pn.bF h (am_bge rfl rfl) rfl rfl (fun h => ?_) (fun h => ?_)
      · refine am_Pn.bl 2 (y := (65, [some (.ref 64), some (.int x1), some (.int l2), some (.int l3)], [.int (Int32.ofInt (-1)), .int l2], sg_h s, 0, 0)) rfl ?_
        refine am_Pn.bF h (am_bne rfl rfl) rfl rfl (fun h => ?_) (fun h => ?_)
        · refine am_Pn.bl 1 (y := (73, [some (.ref 64), some (.int x1), some (.int l2), some (.int l3)], [.ref 64], sg_h s, 0, 0)) rfl ?_
          refine am_Pn.gr (k := 37) rfl rfl am_o64 rfl rfl ?_
          refine am_Pn.bl 1 (y := (77, [some (.ref 64), some (.int x1), some (.int l2), some (.int l3)], [.int l2, .ref 80], sg_h s, 0, 0)) rfl ?_
          refine am_Pn.ia (a := 80) rfl rfl rfl rfl (fun hi => ?_)
          replace h := h (am_in0 hi) (am_in1 hi)
          exact am_Pn.rI h rfl
        · refine am_Pn.bl 2 (y := (78, [some (.ref 64), some (.int x1), some (.int l2), some (.int l3)], [.int (Int32.ofInt (0))], sg_h s, 0, 0)) rfl ?_
          exact am_Pn.rI h rfl
      · refine am_Pn.bl 1 (y := (13, [some (.ref 64), some (.int x1), some (.int l2), some (.int l3)], [.ref 64], sg_h s, 0, 0)) rfl ?_
        refine am_Pn.gr (k := 35) rfl rfl am_o64 rfl rfl ?_
        refine am_Pn.bl 1 (y := (17, [some (.ref 64), some (.int x1), some (.int l2), some (.int l3)], [.int l3, .ref 78], sg_h s, 0, 0)) rfl ?_
        refine am_Pn.ia (a := 78) rfl rfl rfl rfl (fun hi => ?_)
        replace h := h (am_in0 hi) (am_in1 hi)
        refine am_Pn.bl 1 (y := (19, [some (.ref 64), some (.int x1), some (.int l2), some (.int l3)], [.int x1, .int (s.2.2.1 78 (l3.toInt.toNat))], sg_h s, 0, 0)) rfl ?_
        refine am_Pn.bF h (am_bne rfl rfl) rfl rfl (fun h => ?_) (fun h => ?_)
        · refine am_Pn.bl 2 (y := (4, [some (.ref 64), some (.int x1), some (.int l2), some (.int (l3 + Int32.ofInt (1)))], [], sg_h s, 0, 0)) rfl ?_
          exact (ih) l2 (l3 + Int32.ofInt (1)) s h
        · refine am_Pn.bl 1 (y := (23, [some (.ref 64), some (.int x1), some (.int l2), some (.int l3)], [.ref 64], sg_h s, 0, 0)) rfl ?_
          refine am_Pn.gr (k := 36) rfl rfl am_o64 rfl rfl ?_
          refine am_Pn.bl 1 (y := (27, [some (.ref 64), some (.int x1), some (.int l2), some (.int l3)], [.int l3, .ref 79], sg_h s, 0, 0)) rfl ?_
          refine am_Pn.ia (a := 79) rfl rfl rfl rfl (fun hi => ?_)
          refine am_Pn.bl 1 (y := (29, [some (.ref 64), some (.int x1), some (.int l2), some (.int l3)], [.ref 64, .int (s.2.2.1 79 (l3.toInt.toNat))], sg_h s, 0, 0)) rfl ?_
          refine am_Pn.gi (k := 33) rfl rfl am_o64 rfl rfl ?_
          refine am_Pn.bT h (am_bgt rfl rfl) rfl rfl (fun h => ?_) (fun h => ?_)
          · refine am_Pn.bl 2 (y := (4, [some (.ref 64), some (.int x1), some (.int l2), some (.int (l3 + Int32.ofInt (1)))], [], sg_h s, 0, 0)) rfl ?_
            exact (ih) l2 (l3 + Int32.ofInt (1)) s h
          · refine am_Pn.bl 2 (y := (37, [some (.ref 64), some (.int x1), some (.int l2), some (.int l3)], [.int (Int32.ofInt (-1)), .int l2], sg_h s, 0, 0)) rfl ?_
            refine am_Pn.bT h (am_beq rfl rfl) rfl rfl (fun h => ?_) (fun h => ?_)
            · refine am_Pn.bl 4 (y := (4, [some (.ref 64), some (.int x1), some (.int l3), some (.int (l3 + Int32.ofInt (1)))], [], sg_h s, 0, 0)) rfl ?_
              exact (ih) l3 (l3 + Int32.ofInt (1)) s h
            · refine am_Pn.bl 1 (y := (41, [some (.ref 64), some (.int x1), some (.int l2), some (.int l3)], [.ref 64], sg_h s, 0, 0)) rfl ?_
              refine am_Pn.gr (k := 36) rfl rfl am_o64 rfl rfl ?_
              refine am_Pn.bl 1 (y := (45, [some (.ref 64), some (.int x1), some (.int l2), some (.int l3)], [.int l3, .ref 79], sg_h s, 0, 0)) rfl ?_
              refine am_Pn.ia (a := 79) rfl rfl rfl rfl (fun hi => ?_)
              refine am_Pn.bl 1 (y := (47, [some (.ref 64), some (.int x1), some (.int l2), some (.int l3)], [.ref 64, .int (s.2.2.1 79 (l3.toInt.toNat))], sg_h s, 0, 0)) rfl ?_
              refine am_Pn.gr (k := 36) rfl rfl am_o64 rfl rfl ?_
              refine am_Pn.bl 1 (y := (51, [some (.ref 64), some (.int x1), some (.int l2), some (.int l3)], [.int l2, .ref 79, .int (s.2.2.1 79 (l3.toInt.toNat))], sg_h s, 0, 0)) rfl ?_
              refine am_Pn.ia (a := 79) rfl rfl rfl rfl (fun hi => ?_)
              replace h := h (am_in0 hi) (am_in1 hi)
              refine am_Pn.bF h (am_ble rfl rfl) rfl rfl (fun h => ?_) (fun h => ?_)
              · refine am_Pn.bl 2 (y := (4, [some (.ref 64), some (.int x1), some (.int l2), some (.int (l3 + Int32.ofInt (1)))], [], sg_h s, 0, 0)) rfl ?_
                exact (ih) l2 (l3 + Int32.ofInt (1)) s h
              · refine am_Pn.bl 4 (y := (4, [some (.ref 64), some (.int x1), some (.int l3), some (.int (l3 + Int32.ofInt (1)))], [], sg_h s, 0, 0)) rfl ?_
                exact (ih) l3 (l3 + Int32.ofInt (1)) s h
  unfold wp_M_setOf1 at h
  refine am_Pn.bl 4 (y := (4, [some (.ref 64), some (.int x1), some (.int (Int32.ofInt (-1))), some (.int (Int32.ofInt (0)))], [], sg_h s, 0, 0)) rfl ?_
  exact ((key n)) (Int32.ofInt (-1)) (Int32.ofInt (0)) s h
def wp_M_word (Ψ : Int32 → sg_S → Prop) (x1 : Int32) (s : sg_S) : Prop := (am_SpI 168 [.int x1, .int (Int32.ofInt (0)), .int (Int32.ofInt (29))] s (fun x2 s2 => ((x2.toInt = (0) → (Ψ (Int32.ofInt (-1)) s2)) ∧ (¬ x2.toInt = (0) → (am_SpI 177 [.ref 64, .int x1] s2 (fun x3 s3 => (Ψ x3 s3)))))))
set_option maxRecDepth 100000 in
theorem wp_M_word_ok {Ψ : Int32 → sg_S → Prop} {x1 : Int32} {s : sg_S} (h : wp_M_word Ψ x1 s) : am_SpI 176 [.ref 64, .int x1] s Ψ := by
  refine am_SpI.mk (r := am_r176) rfl rfl (fun call d al n hcl => ?_)
  unfold wp_M_word at h
  refine am_Pn.bl 3 (y := (4, [some (.ref 64), some (.int x1)], [.int (Int32.ofInt (29)), .int (Int32.ofInt (0)), .int x1], sg_h s, 0, 0)) rfl ?_
  refine am_Pn.csI hcl h rfl rfl rfl rfl rfl (fun x2 s2 h => ?_)
  refine am_Pn.zT h (am_beq rfl rfl) rfl rfl (fun h => ?_) (fun h => ?_)
  · refine am_Pn.bl 1 (y := (19, [some (.ref 64), some (.int x1)], [.int (Int32.ofInt (-1))], sg_h s2, 0, 0)) rfl ?_
    exact am_Pn.rI h rfl
  · refine am_Pn.bl 2 (y := (12, [some (.ref 64), some (.int x1)], [.int x1, .ref 64], sg_h s2, 0, 0)) rfl ?_
    refine am_Pn.cvI hcl h rfl rfl rfl rfl rfl (fun x3 s3 h => ?_)
    refine am_Pn.bl 1 (y := (19, [some (.ref 64), some (.int x1)], [.int x3], sg_h s3, 0, 0)) rfl ?_
    exact am_Pn.rI h rfl
def wp_M_like (Ψ : Int32 → sg_S → Prop) (x1 : Int32) (x2 : Int32) (x3 : Int32) (s : sg_S) : Prop := (am_SpI 168 [.int x1, .int (Int32.ofInt (0)), .int ((s.1 64 21) - (Int32.ofInt (1)))] s (fun x4 s4 => ((x4.toInt = (0) → (Ψ (Int32.ofInt (-100)) s4)) ∧ (¬ x4.toInt = (0) → (am_SpI 168 [.int x2, .int (Int32.ofInt (0)), .int ((s4.1 64 21) - (Int32.ofInt (1)))] s4 (fun x5 s5 => ((x5.toInt = (0) → (Ψ (Int32.ofInt (-100)) s5)) ∧ (¬ x5.toInt = (0) → (am_SpI 168 [.int x3, .int (Int32.ofInt (-9)), .int (Int32.ofInt (9))] s5 (fun x6 s6 => ((x6.toInt = (0) → (Ψ (Int32.ofInt (-100)) s6)) ∧ (¬ x6.toInt = (0) → (0 ≤ (((Int32.ofInt (8)) * x1) + x2).toInt → (((Int32.ofInt (8)) * x1) + x2).toInt < (64) → (0 ≤ (((Int32.ofInt (8)) * x2) + x1).toInt → (((Int32.ofInt (8)) * x2) + x1).toInt < (64) → (Ψ (s6.2.2.1 81 ((((Int32.ofInt (8)) * x1) + x2).toInt.toNat)) (sg_uA (sg_uA s6 81 ((((Int32.ofInt (8)) * x1) + x2).toInt.toNat) x3) 81 ((((Int32.ofInt (8)) * x2) + x1).toInt.toNat) x3))))))))))))))))
set_option maxRecDepth 100000 in
theorem wp_M_like_ok {Ψ : Int32 → sg_S → Prop} {x1 : Int32} {x2 : Int32} {x3 : Int32} {s : sg_S} (h : wp_M_like Ψ x1 x2 x3 s) : am_SpI 178 [.ref 64, .int x1, .int x2, .int x3] s Ψ := by
  refine am_SpI.mk (r := am_r178) rfl rfl (fun call d al n hcl => ?_)
  unfold wp_M_like at h
  refine am_Pn.bl 3 (y := (3, [some (.ref 64), some (.int x1), some (.int x2), some (.int x3), none], [.ref 64, .int (Int32.ofInt (0)), .int x1], sg_h s, 0, 0)) rfl ?_
  refine am_Pn.gi (k := 21) rfl rfl am_o64 rfl rfl ?_
  refine am_Pn.bl 2 (y := (8, [some (.ref 64), some (.int x1), some (.int x2), some (.int x3), none], [.int ((s.1 64 21) - (Int32.ofInt (1))), .int (Int32.ofInt (0)), .int x1], sg_h s, 0, 0)) rfl ?_
  refine am_Pn.csI hcl h rfl rfl rfl rfl rfl (fun x4 s4 h => ?_)
  refine am_Pn.zT h (am_beq rfl rfl) rfl rfl (fun h => ?_) (fun h => ?_)
  · refine am_Pn.bl 1 (y := (41, [some (.ref 64), some (.int x1), some (.int x2), some (.int x3), none], [.int (Int32.ofInt (-100))], sg_h s4, 0, 0)) rfl ?_
    exact am_Pn.rI h rfl
  · refine am_Pn.bl 3 (y := (17, [some (.ref 64), some (.int x1), some (.int x2), some (.int x3), none], [.ref 64, .int (Int32.ofInt (0)), .int x2], sg_h s4, 0, 0)) rfl ?_
    refine am_Pn.gi (k := 21) rfl rfl am_o64 rfl rfl ?_
    refine am_Pn.bl 2 (y := (22, [some (.ref 64), some (.int x1), some (.int x2), some (.int x3), none], [.int ((s4.1 64 21) - (Int32.ofInt (1))), .int (Int32.ofInt (0)), .int x2], sg_h s4, 0, 0)) rfl ?_
    refine am_Pn.csI hcl h rfl rfl rfl rfl rfl (fun x5 s5 h => ?_)
    refine am_Pn.zT h (am_beq rfl rfl) rfl rfl (fun h => ?_) (fun h => ?_)
    · refine am_Pn.bl 1 (y := (41, [some (.ref 64), some (.int x1), some (.int x2), some (.int x3), none], [.int (Int32.ofInt (-100))], sg_h s5, 0, 0)) rfl ?_
      exact am_Pn.rI h rfl
    · refine am_Pn.bl 3 (y := (33, [some (.ref 64), some (.int x1), some (.int x2), some (.int x3), none], [.int (Int32.ofInt (9)), .int (Int32.ofInt (-9)), .int x3], sg_h s5, 0, 0)) rfl ?_
      refine am_Pn.csI hcl h rfl rfl rfl rfl rfl (fun x6 s6 h => ?_)
      refine am_Pn.zF h (am_bne rfl rfl) rfl rfl (fun h => ?_) (fun h => ?_)
      · refine am_Pn.bl 1 (y := (43, [some (.ref 64), some (.int x1), some (.int x2), some (.int x3), none], [.ref 64], sg_h s6, 0, 0)) rfl ?_
        refine am_Pn.gr (k := 38) rfl rfl am_o64 rfl rfl ?_
        refine am_Pn.bl 5 (y := (52, [some (.ref 64), some (.int x1), some (.int x2), some (.int x3), none], [.int (((Int32.ofInt (8)) * x1) + x2), .ref 81], sg_h s6, 0, 0)) rfl ?_
        refine am_Pn.ia (a := 81) rfl rfl rfl rfl (fun hi => ?_)
        replace h := h (am_in0 hi) (am_in1 hi)
        refine am_Pn.bl 2 (y := (56, [some (.ref 64), some (.int x1), some (.int x2), some (.int x3), some (.int (s6.2.2.1 81 ((((Int32.ofInt (8)) * x1) + x2).toInt.toNat)))], [.ref 64], sg_h s6, 0, 0)) rfl ?_
        refine am_Pn.gr (k := 38) rfl rfl am_o64 rfl rfl ?_
        refine am_Pn.bl 6 (y := (66, [some (.ref 64), some (.int x1), some (.int x2), some (.int x3), some (.int (s6.2.2.1 81 ((((Int32.ofInt (8)) * x1) + x2).toInt.toNat)))], [.int x3, .int (((Int32.ofInt (8)) * x1) + x2), .ref 81], sg_h s6, 0, 0)) rfl ?_
        refine am_Pn.is (a := 81) rfl rfl rfl (fun hi => ?_)
        refine am_Pn.bl 1 (y := (68, [some (.ref 64), some (.int x1), some (.int x2), some (.int x3), some (.int (s6.2.2.1 81 ((((Int32.ofInt (8)) * x1) + x2).toInt.toNat)))], [.ref 64], sg_h (sg_uA s6 81 ((((Int32.ofInt (8)) * x1) + x2).toInt.toNat) x3), 0, 0)) rfl ?_
        refine am_Pn.gr (k := 38) rfl rfl am_o64 rfl rfl ?_
        refine am_Pn.bl 6 (y := (78, [some (.ref 64), some (.int x1), some (.int x2), some (.int x3), some (.int (s6.2.2.1 81 ((((Int32.ofInt (8)) * x1) + x2).toInt.toNat)))], [.int x3, .int (((Int32.ofInt (8)) * x2) + x1), .ref 81], sg_h (sg_uA s6 81 ((((Int32.ofInt (8)) * x1) + x2).toInt.toNat) x3), 0, 0)) rfl ?_
        refine am_Pn.is (a := 81) rfl rfl rfl (fun hi => ?_)
        replace h := h (am_in0 hi) (am_in1 hi)
        refine am_Pn.bl 1 (y := (81, [some (.ref 64), some (.int x1), some (.int x2), some (.int x3), some (.int (s6.2.2.1 81 ((((Int32.ofInt (8)) * x1) + x2).toInt.toNat)))], [.int (s6.2.2.1 81 ((((Int32.ofInt (8)) * x1) + x2).toInt.toNat))], sg_h (sg_uA (sg_uA s6 81 ((((Int32.ofInt (8)) * x1) + x2).toInt.toNat) x3) 81 ((((Int32.ofInt (8)) * x2) + x1).toInt.toNat) x3), 0, 0)) rfl ?_
        exact am_Pn.rI h rfl
      · refine am_Pn.bl 1 (y := (41, [some (.ref 64), some (.int x1), some (.int x2), some (.int x3), none], [.int (Int32.ofInt (-100))], sg_h s6, 0, 0)) rfl ?_
        exact am_Pn.rI h rfl
def wp_M_type_21 (I21 : Int32 →  sg_S → Prop) (Ψ : Int32 → sg_S → Prop) (x1 : Int32) (l2 : Int32) (s : sg_S) : Prop := ((l2.toInt < (s.1 64 46).toInt → (0 ≤ l2.toInt → l2.toInt < (16) → (((s.2.2.1 88 (l2.toInt.toNat)).toInt = x1.toInt → (Ψ (Int32.ofInt (-1)) s)) ∧ (¬ (s.2.2.1 88 (l2.toInt.toNat)).toInt = x1.toInt → (I21 (l2 + Int32.ofInt (1)) s))))) ∧ (¬ l2.toInt < (s.1 64 46).toInt → (0 ≤ (s.1 64 46).toInt → (s.1 64 46).toInt < (16) → (Ψ (((s.1 64 46) + (Int32.ofInt (1))) - (Int32.ofInt (1))) (sg_uI (sg_uA s 88 ((s.1 64 46).toInt.toNat) x1) 64 46 ((s.1 64 46) + (Int32.ofInt (1))))))))
def wp_M_type (I21 : Int32 →  sg_S → Prop) (Ψ : Int32 → sg_S → Prop) (x1 : Int32) (s : sg_S) : Prop := (am_SpI 175 [.ref 64, .int x1] s (fun x2 s2 => ((x2.toInt = (0) → (Ψ (Int32.ofInt (-1)) s2)) ∧ (¬ x2.toInt = (0) → (((s2.1 64 46).toInt = (16) → (Ψ (Int32.ofInt (-1)) s2)) ∧ (¬ (s2.1 64 46).toInt = (16) → (I21 (Int32.ofInt (0)) s2)))))))
set_option maxRecDepth 100000 in
theorem wp_M_type_ok {I21 : Int32 →  sg_S → Prop} {Ψ : Int32 → sg_S → Prop} {x1 : Int32} {s : sg_S} (k21 : ∀ (l2 : Int32) (s : sg_S), I21 l2 s → wp_M_type_21 I21 Ψ x1 l2 s) (h : wp_M_type I21 Ψ x1 s) : am_SpI 196 [.ref 64, .int x1] s Ψ := by
  refine am_SpI.mk (r := am_r196) rfl rfl (fun call d al n hcl => ?_)
  have key : ∀ n, (∀ (l2 : Int32) (s : sg_S), I21 l2 s → am_Pn call d (0, fun _ => 0) al am_r196 (am_PhI am_r196 Ψ) n (21, [some (.ref 64), some (.int x1), some (.int l2)], [], sg_h s, 0, 0)) := by
    intro n
    induction n with
    | zero => exact fun _ _ _ => am_Pn.zero
    | succ n ih =>
      intro l2 s h
      replace h := k21 l2 s h
      unfold wp_M_type_21 at h
      refine am_Pn.bl1 1 (y := (23, [some (.ref 64), some (.int x1), some (.int l2)], [.ref 64, .int l2], sg_h s, 0, 0)) rfl ?_
      refine am_Pn.gi (k := 46) rfl rfl am_o64 rfl rfl ?_
      refine am_Pn.bF h (am_bge rfl rfl) rfl rfl (fun h => ?_) (fun h => ?_)
      · refine am_Pn.bl 1 (y := (48, [some (.ref 64), some (.int x1), some (.int l2)], [.ref 64], sg_h s, 0, 0)) rfl ?_
        refine am_Pn.gr (k := 47) rfl rfl am_o64 rfl rfl ?_
        refine am_Pn.bl 1 (y := (52, [some (.ref 64), some (.int x1), some (.int l2)], [.ref 64, .ref 88], sg_h s, 0, 0)) rfl ?_
        refine am_Pn.gi (k := 46) rfl rfl am_o64 rfl rfl ?_
        refine am_Pn.bl 1 (y := (56, [some (.ref 64), some (.int x1), some (.int l2)], [.int x1, .int (s.1 64 46), .ref 88], sg_h s, 0, 0)) rfl ?_
        refine am_Pn.is (a := 88) rfl rfl rfl (fun hi => ?_)
        replace h := h (am_in0 hi) (am_in1 hi)
        refine am_Pn.bl 2 (y := (59, [some (.ref 64), some (.int x1), some (.int l2)], [.ref 64, .ref 64], sg_h (sg_uA s 88 ((s.1 64 46).toInt.toNat) x1), 0, 0)) rfl ?_
        refine am_Pn.gi (k := 46) rfl rfl am_o64 rfl rfl ?_
        refine am_Pn.bl 2 (y := (64, [some (.ref 64), some (.int x1), some (.int l2)], [.int ((s.1 64 46) + (Int32.ofInt (1))), .ref 64], sg_h (sg_uA s 88 ((s.1 64 46).toInt.toNat) x1), 0, 0)) rfl ?_
        refine am_Pn.pi (k := 46) rfl rfl am_o64 rfl rfl ?_
        refine am_Pn.bl 1 (y := (68, [some (.ref 64), some (.int x1), some (.int l2)], [.ref 64], sg_h (sg_uI (sg_uA s 88 ((s.1 64 46).toInt.toNat) x1) 64 46 ((s.1 64 46) + (Int32.ofInt (1)))), 0, 0)) rfl ?_
        refine am_Pn.gi (k := 46) rfl rfl am_o64 rfl rfl ?_
        refine am_Pn.bl 2 (y := (73, [some (.ref 64), some (.int x1), some (.int l2)], [.int (((s.1 64 46) + (Int32.ofInt (1))) - (Int32.ofInt (1)))], sg_h (sg_uI (sg_uA s 88 ((s.1 64 46).toInt.toNat) x1) 64 46 ((s.1 64 46) + (Int32.ofInt (1)))), 0, 0)) rfl ?_
        exact am_Pn.rI h rfl
      · refine am_Pn.bl 1 (y := (30, [some (.ref 64), some (.int x1), some (.int l2)], [.ref 64], sg_h s, 0, 0)) rfl ?_
        refine am_Pn.gr (k := 47) rfl rfl am_o64 rfl rfl ?_
        refine am_Pn.bl 1 (y := (34, [some (.ref 64), some (.int x1), some (.int l2)], [.int l2, .ref 88], sg_h s, 0, 0)) rfl ?_
        refine am_Pn.ia (a := 88) rfl rfl rfl rfl (fun hi => ?_)
        replace h := h (am_in0 hi) (am_in1 hi)
        refine am_Pn.bl 1 (y := (36, [some (.ref 64), some (.int x1), some (.int l2)], [.int x1, .int (s.2.2.1 88 (l2.toInt.toNat))], sg_h s, 0, 0)) rfl ?_
        refine am_Pn.bF h (am_bne rfl rfl) rfl rfl (fun h => ?_) (fun h => ?_)
        · refine am_Pn.bl 2 (y := (21, [some (.ref 64), some (.int x1), some (.int (l2 + Int32.ofInt (1)))], [], sg_h s, 0, 0)) rfl ?_
          exact (ih) (l2 + Int32.ofInt (1)) s h
        · refine am_Pn.bl 1 (y := (40, [some (.ref 64), some (.int x1), some (.int l2)], [.int (Int32.ofInt (-1))], sg_h s, 0, 0)) rfl ?_
          exact am_Pn.rI h rfl
  unfold wp_M_type at h
  refine am_Pn.bl 2 (y := (2, [some (.ref 64), some (.int x1), none], [.int x1, .ref 64], sg_h s, 0, 0)) rfl ?_
  refine am_Pn.cvI hcl h rfl rfl rfl rfl rfl (fun x2 s2 h => ?_)
  refine am_Pn.zT h (am_beq rfl rfl) rfl rfl (fun h => ?_) (fun h => ?_)
  · refine am_Pn.bl 1 (y := (18, [some (.ref 64), some (.int x1), none], [.int (Int32.ofInt (-1))], sg_h s2, 0, 0)) rfl ?_
    exact am_Pn.rI h rfl
  · refine am_Pn.bl 1 (y := (9, [some (.ref 64), some (.int x1), none], [.ref 64], sg_h s2, 0, 0)) rfl ?_
    refine am_Pn.gi (k := 46) rfl rfl am_o64 rfl rfl ?_
    refine am_Pn.bl 1 (y := (14, [some (.ref 64), some (.int x1), none], [.int (Int32.ofInt (16)), .int (s2.1 64 46)], sg_h s2, 0, 0)) rfl ?_
    refine am_Pn.bF h (am_bne rfl rfl) rfl rfl (fun h => ?_) (fun h => ?_)
    · refine am_Pn.bl 2 (y := (21, [some (.ref 64), some (.int x1), some (.int (Int32.ofInt (0)))], [], sg_h s2, 0, 0)) rfl ?_
      exact ((key n)) (Int32.ofInt (0)) s2 h
    · refine am_Pn.bl 1 (y := (18, [some (.ref 64), some (.int x1), none], [.int (Int32.ofInt (-1))], sg_h s2, 0, 0)) rfl ?_
      exact am_Pn.rI h rfl
def wp_M_areWords (Ψ : Int32 → sg_S → Prop) (x1 : Int32) (x2 : Int32) (x3 : Int32) (s : sg_S) : Prop := (am_SpI 168 [.int x1, .int (Int32.ofInt (-1)), .int (Int32.ofInt (29))] s (fun x4 s4 => ((x4.toInt = (0) → (Ψ (Int32.ofInt (0)) s4)) ∧ (¬ x4.toInt = (0) → (am_SpI 168 [.int x2, .int (Int32.ofInt (-1)), .int (Int32.ofInt (29))] s4 (fun x5 s5 => ((x5.toInt = (0) → (Ψ (Int32.ofInt (0)) s5)) ∧ (¬ x5.toInt = (0) → (am_SpI 168 [.int x3, .int (Int32.ofInt (-1)), .int (Int32.ofInt (29))] s5 (fun x6 s6 => ((x6.toInt = (0) → (Ψ (Int32.ofInt (0)) s6)) ∧ (¬ x6.toInt = (0) → (Ψ (Int32.ofInt (1)) s6)))))))))))))
set_option maxRecDepth 100000 in
theorem wp_M_areWords_ok {Ψ : Int32 → sg_S → Prop} {x1 : Int32} {x2 : Int32} {x3 : Int32} {s : sg_S} (h : wp_M_areWords Ψ x1 x2 x3 s) : am_SpI 182 [.int x1, .int x2, .int x3] s Ψ := by
  refine am_SpI.mk (r := am_r182) rfl rfl (fun call d al n hcl => ?_)
  unfold wp_M_areWords at h
  refine am_Pn.bl 3 (y := (4, [some (.int x1), some (.int x2), some (.int x3)], [.int (Int32.ofInt (29)), .int (Int32.ofInt (-1)), .int x1], sg_h s, 0, 0)) rfl ?_
  refine am_Pn.csI hcl h rfl rfl rfl rfl rfl (fun x4 s4 h => ?_)
  refine am_Pn.zT h (am_beq rfl rfl) rfl rfl (fun h => ?_) (fun h => ?_)
  · refine am_Pn.bl 1 (y := (35, [some (.int x1), some (.int x2), some (.int x3)], [.int (Int32.ofInt (0))], sg_h s4, 0, 0)) rfl ?_
    exact am_Pn.rI h rfl
  · refine am_Pn.bl 3 (y := (14, [some (.int x1), some (.int x2), some (.int x3)], [.int (Int32.ofInt (29)), .int (Int32.ofInt (-1)), .int x2], sg_h s4, 0, 0)) rfl ?_
    refine am_Pn.csI hcl h rfl rfl rfl rfl rfl (fun x5 s5 h => ?_)
    refine am_Pn.zT h (am_beq rfl rfl) rfl rfl (fun h => ?_) (fun h => ?_)
    · refine am_Pn.bl 1 (y := (35, [some (.int x1), some (.int x2), some (.int x3)], [.int (Int32.ofInt (0))], sg_h s5, 0, 0)) rfl ?_
      exact am_Pn.rI h rfl
    · refine am_Pn.bl 3 (y := (24, [some (.int x1), some (.int x2), some (.int x3)], [.int (Int32.ofInt (29)), .int (Int32.ofInt (-1)), .int x3], sg_h s5, 0, 0)) rfl ?_
      refine am_Pn.csI hcl h rfl rfl rfl rfl rfl (fun x6 s6 h => ?_)
      refine am_Pn.zT h (am_beq rfl rfl) rfl rfl (fun h => ?_) (fun h => ?_)
      · refine am_Pn.bl 1 (y := (35, [some (.int x1), some (.int x2), some (.int x3)], [.int (Int32.ofInt (0))], sg_h s6, 0, 0)) rfl ?_
        exact am_Pn.rI h rfl
      · refine am_Pn.bl 2 (y := (35, [some (.int x1), some (.int x2), some (.int x3)], [.int (Int32.ofInt (1))], sg_h s6, 0, 0)) rfl ?_
        exact am_Pn.rI h rfl
def wp_M_store (Ψ : Int32 → sg_S → Prop) (x1 : Int32) (x2 : Int32) (x3 : Int32) (s : sg_S) : Prop := (am_SpI 182 [.int x1, .int x2, .int x3] s (fun x4 s4 => ((x4.toInt = (0) → (Ψ (Int32.ofInt (-1)) s4)) ∧ (¬ x4.toInt = (0) → (((s4.1 64 58).toInt = (20) → (Ψ (Int32.ofInt (-1)) s4)) ∧ (¬ (s4.1 64 58).toInt = (20) → (0 ≤ ((Int32.ofInt (3)) * (s4.1 64 58)).toInt → ((Int32.ofInt (3)) * (s4.1 64 58)).toInt < (60) → (0 ≤ (((Int32.ofInt (3)) * (s4.1 64 58)) + (Int32.ofInt (1))).toInt → (((Int32.ofInt (3)) * (s4.1 64 58)) + (Int32.ofInt (1))).toInt < (60) → (0 ≤ (((Int32.ofInt (3)) * (s4.1 64 58)) + (Int32.ofInt (2))).toInt → (((Int32.ofInt (3)) * (s4.1 64 58)) + (Int32.ofInt (2))).toInt < (60) → (Ψ (((s4.1 64 58) + (Int32.ofInt (1))) - (Int32.ofInt (1))) (sg_uI (sg_uA (sg_uA (sg_uA s4 96 (((Int32.ofInt (3)) * (s4.1 64 58)).toInt.toNat) x1) 96 ((((Int32.ofInt (3)) * (s4.1 64 58)) + (Int32.ofInt (1))).toInt.toNat) x2) 96 ((((Int32.ofInt (3)) * (s4.1 64 58)) + (Int32.ofInt (2))).toInt.toNat) x3) 64 58 ((s4.1 64 58) + (Int32.ofInt (1))))))))))))))
set_option maxRecDepth 100000 in
theorem wp_M_store_ok {Ψ : Int32 → sg_S → Prop} {x1 : Int32} {x2 : Int32} {x3 : Int32} {s : sg_S} (h : wp_M_store Ψ x1 x2 x3 s) : am_SpI 205 [.ref 64, .int x1, .int x2, .int x3] s Ψ := by
  refine am_SpI.mk (r := am_r205) rfl rfl (fun call d al n hcl => ?_)
  unfold wp_M_store at h
  refine am_Pn.bl 3 (y := (3, [some (.ref 64), some (.int x1), some (.int x2), some (.int x3)], [.int x3, .int x2, .int x1], sg_h s, 0, 0)) rfl ?_
  refine am_Pn.csI hcl h rfl rfl rfl rfl rfl (fun x4 s4 h => ?_)
  refine am_Pn.zT h (am_beq rfl rfl) rfl rfl (fun h => ?_) (fun h => ?_)
  · refine am_Pn.bl 1 (y := (19, [some (.ref 64), some (.int x1), some (.int x2), some (.int x3)], [.int (Int32.ofInt (-1))], sg_h s4, 0, 0)) rfl ?_
    exact am_Pn.rI h rfl
  · refine am_Pn.bl 1 (y := (10, [some (.ref 64), some (.int x1), some (.int x2), some (.int x3)], [.ref 64], sg_h s4, 0, 0)) rfl ?_
    refine am_Pn.gi (k := 58) rfl rfl am_o64 rfl rfl ?_
    refine am_Pn.bl 1 (y := (15, [some (.ref 64), some (.int x1), some (.int x2), some (.int x3)], [.int (Int32.ofInt (20)), .int (s4.1 64 58)], sg_h s4, 0, 0)) rfl ?_
    refine am_Pn.bF h (am_bne rfl rfl) rfl rfl (fun h => ?_) (fun h => ?_)
    · refine am_Pn.bl 1 (y := (21, [some (.ref 64), some (.int x1), some (.int x2), some (.int x3)], [.ref 64], sg_h s4, 0, 0)) rfl ?_
      refine am_Pn.gr (k := 59) rfl rfl am_o64 rfl rfl ?_
      refine am_Pn.bl 2 (y := (26, [some (.ref 64), some (.int x1), some (.int x2), some (.int x3)], [.ref 64, .int (Int32.ofInt (3)), .ref 96], sg_h s4, 0, 0)) rfl ?_
      refine am_Pn.gi (k := 58) rfl rfl am_o64 rfl rfl ?_
      refine am_Pn.bl 2 (y := (31, [some (.ref 64), some (.int x1), some (.int x2), some (.int x3)], [.int x1, .int ((Int32.ofInt (3)) * (s4.1 64 58)), .ref 96], sg_h s4, 0, 0)) rfl ?_
      refine am_Pn.is (a := 96) rfl rfl rfl (fun hi => ?_)
      replace h := h (am_in0 hi) (am_in1 hi)
      refine am_Pn.bl 1 (y := (33, [some (.ref 64), some (.int x1), some (.int x2), some (.int x3)], [.ref 64], sg_h (sg_uA s4 96 (((Int32.ofInt (3)) * (s4.1 64 58)).toInt.toNat) x1), 0, 0)) rfl ?_
      refine am_Pn.gr (k := 59) rfl rfl am_o64 rfl rfl ?_
      refine am_Pn.bl 2 (y := (38, [some (.ref 64), some (.int x1), some (.int x2), some (.int x3)], [.ref 64, .int (Int32.ofInt (3)), .ref 96], sg_h (sg_uA s4 96 (((Int32.ofInt (3)) * (s4.1 64 58)).toInt.toNat) x1), 0, 0)) rfl ?_
      refine am_Pn.gi (k := 58) rfl rfl am_o64 rfl rfl ?_
      refine am_Pn.bl 4 (y := (45, [some (.ref 64), some (.int x1), some (.int x2), some (.int x3)], [.int x2, .int (((Int32.ofInt (3)) * (s4.1 64 58)) + (Int32.ofInt (1))), .ref 96], sg_h (sg_uA s4 96 (((Int32.ofInt (3)) * (s4.1 64 58)).toInt.toNat) x1), 0, 0)) rfl ?_
      refine am_Pn.is (a := 96) rfl rfl rfl (fun hi => ?_)
      replace h := h (am_in0 hi) (am_in1 hi)
      refine am_Pn.bl 1 (y := (47, [some (.ref 64), some (.int x1), some (.int x2), some (.int x3)], [.ref 64], sg_h (sg_uA (sg_uA s4 96 (((Int32.ofInt (3)) * (s4.1 64 58)).toInt.toNat) x1) 96 ((((Int32.ofInt (3)) * (s4.1 64 58)) + (Int32.ofInt (1))).toInt.toNat) x2), 0, 0)) rfl ?_
      refine am_Pn.gr (k := 59) rfl rfl am_o64 rfl rfl ?_
      refine am_Pn.bl 2 (y := (52, [some (.ref 64), some (.int x1), some (.int x2), some (.int x3)], [.ref 64, .int (Int32.ofInt (3)), .ref 96], sg_h (sg_uA (sg_uA s4 96 (((Int32.ofInt (3)) * (s4.1 64 58)).toInt.toNat) x1) 96 ((((Int32.ofInt (3)) * (s4.1 64 58)) + (Int32.ofInt (1))).toInt.toNat) x2), 0, 0)) rfl ?_
      refine am_Pn.gi (k := 58) rfl rfl am_o64 rfl rfl ?_
      refine am_Pn.bl 4 (y := (59, [some (.ref 64), some (.int x1), some (.int x2), some (.int x3)], [.int x3, .int (((Int32.ofInt (3)) * (s4.1 64 58)) + (Int32.ofInt (2))), .ref 96], sg_h (sg_uA (sg_uA s4 96 (((Int32.ofInt (3)) * (s4.1 64 58)).toInt.toNat) x1) 96 ((((Int32.ofInt (3)) * (s4.1 64 58)) + (Int32.ofInt (1))).toInt.toNat) x2), 0, 0)) rfl ?_
      refine am_Pn.is (a := 96) rfl rfl rfl (fun hi => ?_)
      replace h := h (am_in0 hi) (am_in1 hi)
      refine am_Pn.bl 2 (y := (62, [some (.ref 64), some (.int x1), some (.int x2), some (.int x3)], [.ref 64, .ref 64], sg_h (sg_uA (sg_uA (sg_uA s4 96 (((Int32.ofInt (3)) * (s4.1 64 58)).toInt.toNat) x1) 96 ((((Int32.ofInt (3)) * (s4.1 64 58)) + (Int32.ofInt (1))).toInt.toNat) x2) 96 ((((Int32.ofInt (3)) * (s4.1 64 58)) + (Int32.ofInt (2))).toInt.toNat) x3), 0, 0)) rfl ?_
      refine am_Pn.gi (k := 58) rfl rfl am_o64 rfl rfl ?_
      refine am_Pn.bl 2 (y := (67, [some (.ref 64), some (.int x1), some (.int x2), some (.int x3)], [.int ((s4.1 64 58) + (Int32.ofInt (1))), .ref 64], sg_h (sg_uA (sg_uA (sg_uA s4 96 (((Int32.ofInt (3)) * (s4.1 64 58)).toInt.toNat) x1) 96 ((((Int32.ofInt (3)) * (s4.1 64 58)) + (Int32.ofInt (1))).toInt.toNat) x2) 96 ((((Int32.ofInt (3)) * (s4.1 64 58)) + (Int32.ofInt (2))).toInt.toNat) x3), 0, 0)) rfl ?_
      refine am_Pn.pi (k := 58) rfl rfl am_o64 rfl rfl ?_
      refine am_Pn.bl 1 (y := (71, [some (.ref 64), some (.int x1), some (.int x2), some (.int x3)], [.ref 64], sg_h (sg_uI (sg_uA (sg_uA (sg_uA s4 96 (((Int32.ofInt (3)) * (s4.1 64 58)).toInt.toNat) x1) 96 ((((Int32.ofInt (3)) * (s4.1 64 58)) + (Int32.ofInt (1))).toInt.toNat) x2) 96 ((((Int32.ofInt (3)) * (s4.1 64 58)) + (Int32.ofInt (2))).toInt.toNat) x3) 64 58 ((s4.1 64 58) + (Int32.ofInt (1)))), 0, 0)) rfl ?_
      refine am_Pn.gi (k := 58) rfl rfl am_o64 rfl rfl ?_
      refine am_Pn.bl 2 (y := (76, [some (.ref 64), some (.int x1), some (.int x2), some (.int x3)], [.int (((s4.1 64 58) + (Int32.ofInt (1))) - (Int32.ofInt (1)))], sg_h (sg_uI (sg_uA (sg_uA (sg_uA s4 96 (((Int32.ofInt (3)) * (s4.1 64 58)).toInt.toNat) x1) 96 ((((Int32.ofInt (3)) * (s4.1 64 58)) + (Int32.ofInt (1))).toInt.toNat) x2) 96 ((((Int32.ofInt (3)) * (s4.1 64 58)) + (Int32.ofInt (2))).toInt.toNat) x3) 64 58 ((s4.1 64 58) + (Int32.ofInt (1)))), 0, 0)) rfl ?_
      exact am_Pn.rI h rfl
    · refine am_Pn.bl 1 (y := (19, [some (.ref 64), some (.int x1), some (.int x2), some (.int x3)], [.int (Int32.ofInt (-1))], sg_h s4, 0, 0)) rfl ?_
      exact am_Pn.rI h rfl
