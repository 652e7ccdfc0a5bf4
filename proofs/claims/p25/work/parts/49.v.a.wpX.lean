/-! ===== what X's reader asks (printed by wip/ab/vg_read.py) ===== -/
def wp_XReader_isLetter (Ψ : Int32 → sg_S → Prop) (x1 : Int32) (s : sg_S) : Prop := ((x1.toInt < (97) → (Ψ (Int32.ofInt (0)) s)) ∧ (¬ x1.toInt < (97) → (((122) < x1.toInt → (Ψ (Int32.ofInt (0)) s)) ∧ (¬ (122) < x1.toInt → (Ψ (Int32.ofInt (1)) s)))))
set_option maxRecDepth 100000 in
theorem wp_XReader_isLetter_ok {Ψ : Int32 → sg_S → Prop} {x1 : Int32} {s : sg_S} (h : wp_XReader_isLetter Ψ x1 s) : am_SpI 48 [.int x1] s Ψ := by
  refine am_SpI.mk (r := am_r48) rfl rfl (fun call d al n hcl => ?_)
  unfold wp_XReader_isLetter at h
  refine am_Pn.bl 2 (y := (3, [some (.int x1)], [.int (Int32.ofInt (97)), .int x1], sg_h s, 0, 0)) rfl ?_
  refine am_Pn.bT h (am_blt rfl rfl) rfl rfl (fun h => ?_) (fun h => ?_)
  · refine am_Pn.bl 1 (y := (17, [some (.int x1)], [.int (Int32.ofInt (0))], sg_h s, 0, 0)) rfl ?_
    exact am_Pn.rI h rfl
  · refine am_Pn.bl 2 (y := (9, [some (.int x1)], [.int (Int32.ofInt (122)), .int x1], sg_h s, 0, 0)) rfl ?_
    refine am_Pn.bT h (am_bgt rfl rfl) rfl rfl (fun h => ?_) (fun h => ?_)
    · refine am_Pn.bl 1 (y := (17, [some (.int x1)], [.int (Int32.ofInt (0))], sg_h s, 0, 0)) rfl ?_
      exact am_Pn.rI h rfl
    · refine am_Pn.bl 2 (y := (17, [some (.int x1)], [.int (Int32.ofInt (1))], sg_h s, 0, 0)) rfl ?_
      exact am_Pn.rI h rfl
def wp_XReader_isDigit (Ψ : Int32 → sg_S → Prop) (x1 : Int32) (s : sg_S) : Prop := ((x1.toInt < (48) → (Ψ (Int32.ofInt (0)) s)) ∧ (¬ x1.toInt < (48) → (((57) < x1.toInt → (Ψ (Int32.ofInt (0)) s)) ∧ (¬ (57) < x1.toInt → (Ψ (Int32.ofInt (1)) s)))))
set_option maxRecDepth 100000 in
theorem wp_XReader_isDigit_ok {Ψ : Int32 → sg_S → Prop} {x1 : Int32} {s : sg_S} (h : wp_XReader_isDigit Ψ x1 s) : am_SpI 50 [.int x1] s Ψ := by
  refine am_SpI.mk (r := am_r50) rfl rfl (fun call d al n hcl => ?_)
  unfold wp_XReader_isDigit at h
  refine am_Pn.bl 2 (y := (3, [some (.int x1)], [.int (Int32.ofInt (48)), .int x1], sg_h s, 0, 0)) rfl ?_
  refine am_Pn.bT h (am_blt rfl rfl) rfl rfl (fun h => ?_) (fun h => ?_)
  · refine am_Pn.bl 1 (y := (17, [some (.int x1)], [.int (Int32.ofInt (0))], sg_h s, 0, 0)) rfl ?_
    exact am_Pn.rI h rfl
  · refine am_Pn.bl 2 (y := (9, [some (.int x1)], [.int (Int32.ofInt (57)), .int x1], sg_h s, 0, 0)) rfl ?_
    refine am_Pn.bT h (am_bgt rfl rfl) rfl rfl (fun h => ?_) (fun h => ?_)
    · refine am_Pn.bl 1 (y := (17, [some (.int x1)], [.int (Int32.ofInt (0))], sg_h s, 0, 0)) rfl ?_
      exact am_Pn.rI h rfl
    · refine am_Pn.bl 2 (y := (17, [some (.int x1)], [.int (Int32.ofInt (1))], sg_h s, 0, 0)) rfl ?_
      exact am_Pn.rI h rfl
def wp_XReader_withLetter (Ψ : Int64 → sg_S → Prop) (x1 : Int64) (x2 : Int32) (s : sg_S) : Prop := (Ψ ((x1 * (Int64.ofInt (32))) + (((x2 - (Int32.ofInt (97))) + (Int32.ofInt (1))).toInt64)) s)
set_option maxRecDepth 100000 in
theorem wp_XReader_withLetter_ok {Ψ : Int64 → sg_S → Prop} {x1 : Int64} {x2 : Int32} {s : sg_S} (h : wp_XReader_withLetter Ψ x1 x2 s) : am_SpL 43 [.long x1, .int x2] s Ψ := by
  refine am_SpL.mk (r := am_r43) rfl rfl (fun call d al n hcl => ?_)
  unfold wp_XReader_withLetter at h
  refine am_Pn.bl 10 (y := (13, [some (.long x1), none, some (.int x2)], [.long ((x1 * (Int64.ofInt (32))) + (((x2 - (Int32.ofInt (97))) + (Int32.ofInt (1))).toInt64))], sg_h s, 0, 0)) rfl ?_
  exact am_Pn.rL h rfl
def wp_XReader_setFault (Ψ : sg_S → Prop) (x1 : Int32) (s : sg_S) : Prop := (((s.1 8 5).toInt = (0) → (Ψ (sg_uI s 8 5 (((s.1 8 7) * (Int32.ofInt (10))) + x1)))) ∧ (¬ (s.1 8 5).toInt = (0) → (Ψ s)))
set_option maxRecDepth 100000 in
theorem wp_XReader_setFault_ok {Ψ : sg_S → Prop} {x1 : Int32} {s : sg_S} (h : wp_XReader_setFault Ψ x1 s) : am_SpV 52 [.ref 8, .int x1] s Ψ := by
  refine am_SpV.mk (r := am_r52) rfl rfl (fun call d al n hcl => ?_)
  unfold wp_XReader_setFault at h
  refine am_Pn.bl 1 (y := (1, [some (.ref 8), some (.int x1)], [.ref 8], sg_h s, 0, 0)) rfl ?_
  refine am_Pn.gi (k := 5) rfl rfl am_o8 rfl rfl ?_
  refine am_Pn.zF h (am_bne rfl rfl) rfl rfl (fun h => ?_) (fun h => ?_)
  · exact am_Pn.rV h rfl
  · refine am_Pn.bl 2 (y := (9, [some (.ref 8), some (.int x1)], [.ref 8, .ref 8], sg_h s, 0, 0)) rfl ?_
    refine am_Pn.gi (k := 7) rfl rfl am_o8 rfl rfl ?_
    refine am_Pn.bl 4 (y := (17, [some (.ref 8), some (.int x1)], [.int (((s.1 8 7) * (Int32.ofInt (10))) + x1), .ref 8], sg_h s, 0, 0)) rfl ?_
    refine am_Pn.pi (k := 5) rfl rfl am_o8 rfl rfl ?_
    exact am_Pn.rV h rfl
def wp_XReader_skipBlanks_0 (I0 :  sg_S → Prop) (Ψ : sg_S → Prop) (s : sg_S) : Prop := (((s.1 8 4).toInt < (s.1 8 2).toInt → (0 ≤ (s.1 8 4).toInt → (s.1 8 4).toInt < (600) → (((s.2.2.1 16 ((s.1 8 4).toInt.toNat)).toInt = (32) → (I0 (sg_uI s 8 4 ((s.1 8 4) + (Int32.ofInt (1)))))) ∧ (¬ (s.2.2.1 16 ((s.1 8 4).toInt.toNat)).toInt = (32) → (((s.2.2.1 16 ((s.1 8 4).toInt.toNat)).toInt = (10) → (I0 (sg_uI s 8 4 ((s.1 8 4) + (Int32.ofInt (1)))))) ∧ (¬ (s.2.2.1 16 ((s.1 8 4).toInt.toNat)).toInt = (10) → (Ψ s))))))) ∧ (¬ (s.1 8 4).toInt < (s.1 8 2).toInt → (Ψ s)))
def wp_XReader_skipBlanks (I0 :  sg_S → Prop) (Ψ : sg_S → Prop) (s : sg_S) : Prop := (I0 s)
set_option maxRecDepth 100000 in
theorem wp_XReader_skipBlanks_ok {I0 :  sg_S → Prop} {Ψ : sg_S → Prop} {s : sg_S} (k0 : ∀ (s : sg_S), I0  s → wp_XReader_skipBlanks_0 I0 Ψ   s) (h : wp_XReader_skipBlanks I0 Ψ  s) : am_SpV 47 [.ref 8] s Ψ := by
  refine am_SpV.mk (r := am_r47) rfl rfl (fun call d al n hcl => ?_)
  have key : ∀ n, (∀ (s : sg_S), I0  s → am_Pn call d (0, fun _ => 0) al am_r47 (am_PhV am_r47 Ψ) n (0, [some (.ref 8)], [], sg_h s, 0, 0)) := by
    intro n
    induction n with
    | zero => exact fun _ _ => am_Pn.zero
    | succ n ih =>
      intro  s h
      replace h := k0  s h
      unfold wp_XReader_skipBlanks_0 at h
      refine am_Pn.bl1 0 (y := (1, [some (.ref 8)], [.ref 8], sg_h s, 0, 0)) rfl ?_
      refine am_Pn.gi (k := 4) rfl rfl am_o8 rfl rfl ?_
      refine am_Pn.bl 1 (y := (5, [some (.ref 8)], [.ref 8, .int (s.1 8 4)], sg_h s, 0, 0)) rfl ?_
      refine am_Pn.gi (k := 2) rfl rfl am_o8 rfl rfl ?_
      refine am_Pn.bF h (am_bge rfl rfl) rfl rfl (fun h => ?_) (fun h => ?_)
      · exact am_Pn.rV h rfl
      · refine am_Pn.bl 1 (y := (12, [some (.ref 8)], [.ref 8], sg_h s, 0, 0)) rfl ?_
        refine am_Pn.gr (k := 1) rfl rfl am_o8 rfl rfl ?_
        refine am_Pn.bl 1 (y := (16, [some (.ref 8)], [.ref 8, .ref 16], sg_h s, 0, 0)) rfl ?_
        refine am_Pn.gi (k := 4) rfl rfl am_o8 rfl rfl ?_
        refine am_Pn.ia (a := 16) rfl rfl rfl rfl (fun hi => ?_)
        replace h := h (am_in0 hi) (am_in1 hi)
        refine am_Pn.bl 1 (y := (22, [some (.ref 8)], [.int (Int32.ofInt (32)), .int (s.2.2.1 16 ((s.1 8 4).toInt.toNat))], sg_h s, 0, 0)) rfl ?_
        refine am_Pn.bT h (am_beq rfl rfl) rfl rfl (fun h => ?_) (fun h => ?_)
        · refine am_Pn.bl 2 (y := (41, [some (.ref 8)], [.ref 8, .ref 8], sg_h s, 0, 0)) rfl ?_
          refine am_Pn.gi (k := 4) rfl rfl am_o8 rfl rfl ?_
          refine am_Pn.bl 2 (y := (46, [some (.ref 8)], [.int ((s.1 8 4) + (Int32.ofInt (1))), .ref 8], sg_h s, 0, 0)) rfl ?_
          refine am_Pn.pi (k := 4) rfl rfl am_o8 rfl rfl ?_
          refine am_Pn.bl 1 (y := (0, [some (.ref 8)], [], sg_h (sg_uI s 8 4 ((s.1 8 4) + (Int32.ofInt (1)))), 0, 0)) rfl ?_
          exact (ih) (sg_uI s 8 4 ((s.1 8 4) + (Int32.ofInt (1)))) h
        · refine am_Pn.bl 1 (y := (26, [some (.ref 8)], [.ref 8], sg_h s, 0, 0)) rfl ?_
          refine am_Pn.gr (k := 1) rfl rfl am_o8 rfl rfl ?_
          refine am_Pn.bl 1 (y := (30, [some (.ref 8)], [.ref 8, .ref 16], sg_h s, 0, 0)) rfl ?_
          refine am_Pn.gi (k := 4) rfl rfl am_o8 rfl rfl ?_
          refine am_Pn.ia (a := 16) rfl rfl rfl rfl (fun hi => ?_)
          refine am_Pn.bl 1 (y := (36, [some (.ref 8)], [.int (Int32.ofInt (10)), .int (s.2.2.1 16 ((s.1 8 4).toInt.toNat))], sg_h s, 0, 0)) rfl ?_
          refine am_Pn.bF h (am_bne rfl rfl) rfl rfl (fun h => ?_) (fun h => ?_)
          · exact am_Pn.rV h rfl
          · refine am_Pn.bl 2 (y := (41, [some (.ref 8)], [.ref 8, .ref 8], sg_h s, 0, 0)) rfl ?_
            refine am_Pn.gi (k := 4) rfl rfl am_o8 rfl rfl ?_
            refine am_Pn.bl 2 (y := (46, [some (.ref 8)], [.int ((s.1 8 4) + (Int32.ofInt (1))), .ref 8], sg_h s, 0, 0)) rfl ?_
            refine am_Pn.pi (k := 4) rfl rfl am_o8 rfl rfl ?_
            refine am_Pn.bl 1 (y := (0, [some (.ref 8)], [], sg_h (sg_uI s 8 4 ((s.1 8 4) + (Int32.ofInt (1)))), 0, 0)) rfl ?_
            exact (ih) (sg_uI s 8 4 ((s.1 8 4) + (Int32.ofInt (1)))) h
  unfold wp_XReader_skipBlanks at h
  exact ((key n)) s h
def wp_XReader_isSignNext (Ψ : Int32 → sg_S → Prop) (x1 : Int32) (s : sg_S) : Prop := (am_SpV 47 [.ref 8] s (fun s2 => (((s2.1 8 4).toInt < (s2.1 8 2).toInt → (0 ≤ (s2.1 8 4).toInt → (s2.1 8 4).toInt < (600) → (((s2.2.2.1 16 ((s2.1 8 4).toInt.toNat)).toInt = x1.toInt → (Ψ (Int32.ofInt (1)) s2)) ∧ (¬ (s2.2.2.1 16 ((s2.1 8 4).toInt.toNat)).toInt = x1.toInt → (Ψ (Int32.ofInt (0)) s2))))) ∧ (¬ (s2.1 8 4).toInt < (s2.1 8 2).toInt → (Ψ (Int32.ofInt (0)) s2)))))
set_option maxRecDepth 100000 in
theorem wp_XReader_isSignNext_ok {Ψ : Int32 → sg_S → Prop} {x1 : Int32} {s : sg_S} (h : wp_XReader_isSignNext Ψ x1 s) : am_SpI 62 [.ref 8, .int x1] s Ψ := by
  refine am_SpI.mk (r := am_r62) rfl rfl (fun call d al n hcl => ?_)
  unfold wp_XReader_isSignNext at h
  refine am_Pn.bl 1 (y := (1, [some (.ref 8), some (.int x1)], [.ref 8], sg_h s, 0, 0)) rfl ?_
  refine am_Pn.cvV hcl h rfl rfl rfl rfl rfl (fun s2 h => ?_)
  refine am_Pn.bl 1 (y := (5, [some (.ref 8), some (.int x1)], [.ref 8], sg_h s2, 0, 0)) rfl ?_
  refine am_Pn.gi (k := 4) rfl rfl am_o8 rfl rfl ?_
  refine am_Pn.bl 1 (y := (9, [some (.ref 8), some (.int x1)], [.ref 8, .int (s2.1 8 4)], sg_h s2, 0, 0)) rfl ?_
  refine am_Pn.gi (k := 2) rfl rfl am_o8 rfl rfl ?_
  refine am_Pn.bF h (am_bge rfl rfl) rfl rfl (fun h => ?_) (fun h => ?_)
  · refine am_Pn.bl 1 (y := (33, [some (.ref 8), some (.int x1)], [.int (Int32.ofInt (0))], sg_h s2, 0, 0)) rfl ?_
    exact am_Pn.rI h rfl
  · refine am_Pn.bl 1 (y := (16, [some (.ref 8), some (.int x1)], [.ref 8], sg_h s2, 0, 0)) rfl ?_
    refine am_Pn.gr (k := 1) rfl rfl am_o8 rfl rfl ?_
    refine am_Pn.bl 1 (y := (20, [some (.ref 8), some (.int x1)], [.ref 8, .ref 16], sg_h s2, 0, 0)) rfl ?_
    refine am_Pn.gi (k := 4) rfl rfl am_o8 rfl rfl ?_
    refine am_Pn.ia (a := 16) rfl rfl rfl rfl (fun hi => ?_)
    replace h := h (am_in0 hi) (am_in1 hi)
    refine am_Pn.bl 1 (y := (25, [some (.ref 8), some (.int x1)], [.int x1, .int (s2.2.2.1 16 ((s2.1 8 4).toInt.toNat))], sg_h s2, 0, 0)) rfl ?_
    refine am_Pn.bF h (am_bne rfl rfl) rfl rfl (fun h => ?_) (fun h => ?_)
    · refine am_Pn.bl 1 (y := (33, [some (.ref 8), some (.int x1)], [.int (Int32.ofInt (0))], sg_h s2, 0, 0)) rfl ?_
      exact am_Pn.rI h rfl
    · refine am_Pn.bl 2 (y := (33, [some (.ref 8), some (.int x1)], [.int (Int32.ofInt (1))], sg_h s2, 0, 0)) rfl ?_
      exact am_Pn.rI h rfl
def wp_XReader_scanNumber_0 (I0 :  sg_S → Prop) (Ψ : sg_S → Prop) (s : sg_S) : Prop := (((s.1 8 4).toInt < (s.1 8 2).toInt → (0 ≤ (s.1 8 4).toInt → (s.1 8 4).toInt < (600) → (am_SpI 50 [.int (s.2.2.1 16 ((s.1 8 4).toInt.toNat))] s (fun x1 s1 => ((x1.toInt = (0) → (((3) < ((s1.1 8 4) - (s1.1 8 7)).toInt → (Ψ (sg_uI s1 8 6 (Int32.ofInt (5))))) ∧ (¬ (3) < ((s1.1 8 4) - (s1.1 8 7)).toInt → (Ψ (sg_uI s1 8 6 (Int32.ofInt (3))))))) ∧ (¬ x1.toInt = (0) → (0 ≤ (s1.1 8 4).toInt → (s1.1 8 4).toInt < (600) → (I0 (sg_uI (sg_uI s1 8 8 (((s1.1 8 8) * (Int32.ofInt (10))) + ((s1.2.2.1 16 ((s1.1 8 4).toInt.toNat)) - (Int32.ofInt (48))))) 8 4 ((s1.1 8 4) + (Int32.ofInt (1)))))))))))) ∧ (¬ (s.1 8 4).toInt < (s.1 8 2).toInt → (((3) < ((s.1 8 4) - (s.1 8 7)).toInt → (Ψ (sg_uI s 8 6 (Int32.ofInt (5))))) ∧ (¬ (3) < ((s.1 8 4) - (s.1 8 7)).toInt → (Ψ (sg_uI s 8 6 (Int32.ofInt (3))))))))
def wp_XReader_scanNumber (I0 :  sg_S → Prop) (Ψ : sg_S → Prop) (s : sg_S) : Prop := (I0 s)
set_option maxRecDepth 100000 in
theorem wp_XReader_scanNumber_ok {I0 :  sg_S → Prop} {Ψ : sg_S → Prop} {s : sg_S} (k0 : ∀ (s : sg_S), I0  s → wp_XReader_scanNumber_0 I0 Ψ   s) (h : wp_XReader_scanNumber I0 Ψ  s) : am_SpV 51 [.ref 8] s Ψ := by
  refine am_SpV.mk (r := am_r51) rfl rfl (fun call d al n hcl => ?_)
  have key : ∀ n, (∀ (s : sg_S), I0  s → am_Pn call d (0, fun _ => 0) al am_r51 (am_PhV am_r51 Ψ) n (0, [some (.ref 8)], [], sg_h s, 0, 0)) := by
    intro n
    induction n with
    | zero => exact fun _ _ => am_Pn.zero
    | succ n ih =>
      intro  s h
      replace h := k0  s h
      unfold wp_XReader_scanNumber_0 at h
      refine am_Pn.bl1 0 (y := (1, [some (.ref 8)], [.ref 8], sg_h s, 0, 0)) rfl ?_
      refine am_Pn.gi (k := 4) rfl rfl am_o8 rfl rfl ?_
      refine am_Pn.bl 1 (y := (5, [some (.ref 8)], [.ref 8, .int (s.1 8 4)], sg_h s, 0, 0)) rfl ?_
      refine am_Pn.gi (k := 2) rfl rfl am_o8 rfl rfl ?_
      refine am_Pn.bF h (am_bge rfl rfl) rfl rfl (fun h => ?_) (fun h => ?_)
      · refine am_Pn.bl 2 (y := (65, [some (.ref 8)], [.ref 8, .ref 8], sg_h s, 0, 0)) rfl ?_
        refine am_Pn.gi (k := 4) rfl rfl am_o8 rfl rfl ?_
        refine am_Pn.bl 1 (y := (69, [some (.ref 8)], [.ref 8, .int (s.1 8 4), .ref 8], sg_h s, 0, 0)) rfl ?_
        refine am_Pn.gi (k := 7) rfl rfl am_o8 rfl rfl ?_
        refine am_Pn.bl 2 (y := (74, [some (.ref 8)], [.int (Int32.ofInt (3)), .int ((s.1 8 4) - (s.1 8 7)), .ref 8], sg_h s, 0, 0)) rfl ?_
        refine am_Pn.bF h (am_ble rfl rfl) rfl rfl (fun h => ?_) (fun h => ?_)
        · refine am_Pn.bl 1 (y := (82, [some (.ref 8)], [.int (Int32.ofInt (3)), .ref 8], sg_h s, 0, 0)) rfl ?_
          refine am_Pn.pi (k := 6) rfl rfl am_o8 rfl rfl ?_
          exact am_Pn.rV h rfl
        · refine am_Pn.bl 2 (y := (82, [some (.ref 8)], [.int (Int32.ofInt (5)), .ref 8], sg_h s, 0, 0)) rfl ?_
          refine am_Pn.pi (k := 6) rfl rfl am_o8 rfl rfl ?_
          exact am_Pn.rV h rfl
      · refine am_Pn.bl 1 (y := (12, [some (.ref 8)], [.ref 8], sg_h s, 0, 0)) rfl ?_
        refine am_Pn.gr (k := 1) rfl rfl am_o8 rfl rfl ?_
        refine am_Pn.bl 1 (y := (16, [some (.ref 8)], [.ref 8, .ref 16], sg_h s, 0, 0)) rfl ?_
        refine am_Pn.gi (k := 4) rfl rfl am_o8 rfl rfl ?_
        refine am_Pn.ia (a := 16) rfl rfl rfl rfl (fun hi => ?_)
        replace h := h (am_in0 hi) (am_in1 hi)
        refine am_Pn.csI hcl h rfl rfl rfl rfl rfl (fun x1 s1 h => ?_)
        refine am_Pn.zT h (am_beq rfl rfl) rfl rfl (fun h => ?_) (fun h => ?_)
        · refine am_Pn.bl 2 (y := (65, [some (.ref 8)], [.ref 8, .ref 8], sg_h s1, 0, 0)) rfl ?_
          refine am_Pn.gi (k := 4) rfl rfl am_o8 rfl rfl ?_
          refine am_Pn.bl 1 (y := (69, [some (.ref 8)], [.ref 8, .int (s1.1 8 4), .ref 8], sg_h s1, 0, 0)) rfl ?_
          refine am_Pn.gi (k := 7) rfl rfl am_o8 rfl rfl ?_
          refine am_Pn.bl 2 (y := (74, [some (.ref 8)], [.int (Int32.ofInt (3)), .int ((s1.1 8 4) - (s1.1 8 7)), .ref 8], sg_h s1, 0, 0)) rfl ?_
          refine am_Pn.bF h (am_ble rfl rfl) rfl rfl (fun h => ?_) (fun h => ?_)
          · refine am_Pn.bl 1 (y := (82, [some (.ref 8)], [.int (Int32.ofInt (3)), .ref 8], sg_h s1, 0, 0)) rfl ?_
            refine am_Pn.pi (k := 6) rfl rfl am_o8 rfl rfl ?_
            exact am_Pn.rV h rfl
          · refine am_Pn.bl 2 (y := (82, [some (.ref 8)], [.int (Int32.ofInt (5)), .ref 8], sg_h s1, 0, 0)) rfl ?_
            refine am_Pn.pi (k := 6) rfl rfl am_o8 rfl rfl ?_
            exact am_Pn.rV h rfl
        · refine am_Pn.bl 2 (y := (28, [some (.ref 8)], [.ref 8, .ref 8], sg_h s1, 0, 0)) rfl ?_
          refine am_Pn.gi (k := 8) rfl rfl am_o8 rfl rfl ?_
          refine am_Pn.bl 3 (y := (35, [some (.ref 8)], [.ref 8, .int ((s1.1 8 8) * (Int32.ofInt (10))), .ref 8], sg_h s1, 0, 0)) rfl ?_
          refine am_Pn.gr (k := 1) rfl rfl am_o8 rfl rfl ?_
          refine am_Pn.bl 1 (y := (39, [some (.ref 8)], [.ref 8, .ref 16, .int ((s1.1 8 8) * (Int32.ofInt (10))), .ref 8], sg_h s1, 0, 0)) rfl ?_
          refine am_Pn.gi (k := 4) rfl rfl am_o8 rfl rfl ?_
          refine am_Pn.ia (a := 16) rfl rfl rfl rfl (fun hi => ?_)
          replace h := h (am_in0 hi) (am_in1 hi)
          refine am_Pn.bl 3 (y := (47, [some (.ref 8)], [.int (((s1.1 8 8) * (Int32.ofInt (10))) + ((s1.2.2.1 16 ((s1.1 8 4).toInt.toNat)) - (Int32.ofInt (48)))), .ref 8], sg_h s1, 0, 0)) rfl ?_
          refine am_Pn.pi (k := 8) rfl rfl am_o8 rfl rfl ?_
          refine am_Pn.bl 2 (y := (52, [some (.ref 8)], [.ref 8, .ref 8], sg_h (sg_uI s1 8 8 (((s1.1 8 8) * (Int32.ofInt (10))) + ((s1.2.2.1 16 ((s1.1 8 4).toInt.toNat)) - (Int32.ofInt (48))))), 0, 0)) rfl ?_
          refine am_Pn.gi (k := 4) rfl rfl am_o8 rfl rfl ?_
          refine am_Pn.bl 2 (y := (57, [some (.ref 8)], [.int ((s1.1 8 4) + (Int32.ofInt (1))), .ref 8], sg_h (sg_uI s1 8 8 (((s1.1 8 8) * (Int32.ofInt (10))) + ((s1.2.2.1 16 ((s1.1 8 4).toInt.toNat)) - (Int32.ofInt (48))))), 0, 0)) rfl ?_
          refine am_Pn.pi (k := 4) rfl rfl am_o8 rfl rfl ?_
          refine am_Pn.bl 1 (y := (0, [some (.ref 8)], [], sg_h (sg_uI (sg_uI s1 8 8 (((s1.1 8 8) * (Int32.ofInt (10))) + ((s1.2.2.1 16 ((s1.1 8 4).toInt.toNat)) - (Int32.ofInt (48))))) 8 4 ((s1.1 8 4) + (Int32.ofInt (1)))), 0, 0)) rfl ?_
          exact (ih) (sg_uI (sg_uI s1 8 8 (((s1.1 8 8) * (Int32.ofInt (10))) + ((s1.2.2.1 16 ((s1.1 8 4).toInt.toNat)) - (Int32.ofInt (48))))) 8 4 ((s1.1 8 4) + (Int32.ofInt (1)))) h
  unfold wp_XReader_scanNumber at h
  exact ((key n)) s h
def wp_XReader_scanWord_0 (I0 :  sg_S → Prop) (I59 :  sg_S → Prop) (I86 : Int32 →  sg_S → Prop) (Ψ : sg_S → Prop) (s : sg_S) : Prop := (((s.1 8 4).toInt < (s.1 8 2).toInt → (0 ≤ (s.1 8 4).toInt → (s.1 8 4).toInt < (600) → (am_SpI 48 [.int (s.2.2.1 16 ((s.1 8 4).toInt.toNat))] s (fun x1 s1 => ((x1.toInt = (0) → (I59 s1)) ∧ (¬ x1.toInt = (0) → (0 ≤ (s1.1 8 4).toInt → (s1.1 8 4).toInt < (600) → (am_SpL 43 [.long (s1.2.1 8 9), .int (s1.2.2.1 16 ((s1.1 8 4).toInt.toNat))] s1 (fun x2 s2 => (I0 (sg_uI (sg_uL s2 8 9 x2) 8 4 ((s2.1 8 4) + (Int32.ofInt (1)))))))))))))) ∧ (¬ (s.1 8 4).toInt < (s.1 8 2).toInt → (I59 s)))
def wp_XReader_scanWord_59 (I0 :  sg_S → Prop) (I59 :  sg_S → Prop) (I86 : Int32 →  sg_S → Prop) (Ψ : sg_S → Prop) (s : sg_S) : Prop := (((8) < ((s.1 8 4) - (s.1 8 7)).toInt → (Ψ (sg_uI s 8 6 (Int32.ofInt (5))))) ∧ (¬ (8) < ((s.1 8 4) - (s.1 8 7)).toInt → (I86 (Int32.ofInt (0)) (sg_uI s 8 6 (Int32.ofInt (2))))))
def wp_XReader_scanWord_86 (I0 :  sg_S → Prop) (I59 :  sg_S → Prop) (I86 : Int32 →  sg_S → Prop) (Ψ : sg_S → Prop) (l1 : Int32) (s : sg_S) : Prop := ((l1.toInt < (13) → (0 ≤ l1.toInt → l1.toInt < (13) → ((s.2.2.2.1 17 (l1.toInt.toNat) = s.2.1 8 9 → (I86 (l1 + Int32.ofInt (1)) (sg_uI (sg_uI s 8 6 (Int32.ofInt (1))) 8 8 l1))) ∧ (¬ s.2.2.2.1 17 (l1.toInt.toNat) = s.2.1 8 9 → (I86 (l1 + Int32.ofInt (1)) s))))) ∧ (¬ l1.toInt < (13) → (Ψ s)))
def wp_XReader_scanWord (I0 :  sg_S → Prop) (I59 :  sg_S → Prop) (I86 : Int32 →  sg_S → Prop) (Ψ : sg_S → Prop) (s : sg_S) : Prop := (I0 s)
set_option maxRecDepth 100000 in
theorem wp_XReader_scanWord_ok {I0 :  sg_S → Prop} {I59 :  sg_S → Prop} {I86 : Int32 →  sg_S → Prop} {Ψ : sg_S → Prop} {s : sg_S} (k0 : ∀ (s : sg_S), I0  s → wp_XReader_scanWord_0 I0 I59 I86 Ψ   s) (k59 : ∀ (s : sg_S), I59  s → wp_XReader_scanWord_59 I0 I59 I86 Ψ   s) (k86 : ∀ (l1 : Int32) (s : sg_S), I86 l1 s → wp_XReader_scanWord_86 I0 I59 I86 Ψ  l1 s) (h : wp_XReader_scanWord I0 I59 I86 Ψ  s) : am_SpV 49 [.ref 8] s Ψ := by
  refine am_SpV.mk (r := am_r49) rfl rfl (fun call d al n hcl => ?_)
  have key : ∀ n, (∀ (o1 : Option Value) (s : sg_S), I0  s → am_Pn call d (0, fun _ => 0) al am_r49 (am_PhV am_r49 Ψ) n (0, [some (.ref 8), o1], [], sg_h s, 0, 0)) ∧ (∀ (o1 : Option Value) (s : sg_S), I59  s → am_Pn call d (0, fun _ => 0) al am_r49 (am_PhV am_r49 Ψ) n (59, [some (.ref 8), o1], [], sg_h s, 0, 0)) ∧ (∀ (l1 : Int32) (s : sg_S), I86 l1 s → am_Pn call d (0, fun _ => 0) al am_r49 (am_PhV am_r49 Ψ) n (86, [some (.ref 8), some (.int l1)], [], sg_h s, 0, 0)) := by
    intro n
    induction n with
    | zero => exact ⟨fun _ _ _ => am_Pn.zero, fun _ _ _ => am_Pn.zero, fun _ _ _ => am_Pn.zero⟩
    | succ n ih =>
      refine ⟨?_, ?_, ?_⟩
      · intro o1 s h
        replace h := k0  s h
        unfold wp_XReader_scanWord_0 at h
        refine am_Pn.bl1 0 (y := (1, [some (.ref 8), o1], [.ref 8], sg_h s, 0, 0)) rfl ?_
        refine am_Pn.gi (k := 4) rfl rfl am_o8 rfl rfl ?_
        refine am_Pn.bl 1 (y := (5, [some (.ref 8), o1], [.ref 8, .int (s.1 8 4)], sg_h s, 0, 0)) rfl ?_
        refine am_Pn.gi (k := 2) rfl rfl am_o8 rfl rfl ?_
        refine am_Pn.bF h (am_bge rfl rfl) rfl rfl (fun h => ?_) (fun h => ?_)
        · exact (ih.2.1) o1 s h
        · refine am_Pn.bl 1 (y := (12, [some (.ref 8), o1], [.ref 8], sg_h s, 0, 0)) rfl ?_
          refine am_Pn.gr (k := 1) rfl rfl am_o8 rfl rfl ?_
          refine am_Pn.bl 1 (y := (16, [some (.ref 8), o1], [.ref 8, .ref 16], sg_h s, 0, 0)) rfl ?_
          refine am_Pn.gi (k := 4) rfl rfl am_o8 rfl rfl ?_
          refine am_Pn.ia (a := 16) rfl rfl rfl rfl (fun hi => ?_)
          replace h := h (am_in0 hi) (am_in1 hi)
          refine am_Pn.csI hcl h rfl rfl rfl rfl rfl (fun x1 s1 h => ?_)
          refine am_Pn.zT h (am_beq rfl rfl) rfl rfl (fun h => ?_) (fun h => ?_)
          · exact (ih.2.1) o1 s1 h
          · refine am_Pn.bl 2 (y := (28, [some (.ref 8), o1], [.ref 8, .ref 8], sg_h s1, 0, 0)) rfl ?_
            refine am_Pn.gl (k := 9) rfl rfl am_o8 rfl rfl ?_
            refine am_Pn.bl 1 (y := (32, [some (.ref 8), o1], [.ref 8, .long (s1.2.1 8 9), .ref 8], sg_h s1, 0, 0)) rfl ?_
            refine am_Pn.gr (k := 1) rfl rfl am_o8 rfl rfl ?_
            refine am_Pn.bl 1 (y := (36, [some (.ref 8), o1], [.ref 8, .ref 16, .long (s1.2.1 8 9), .ref 8], sg_h s1, 0, 0)) rfl ?_
            refine am_Pn.gi (k := 4) rfl rfl am_o8 rfl rfl ?_
            refine am_Pn.ia (a := 16) rfl rfl rfl rfl (fun hi => ?_)
            replace h := h (am_in0 hi) (am_in1 hi)
            refine am_Pn.csL hcl h rfl rfl rfl rfl rfl (fun x2 s2 h => ?_)
            refine am_Pn.pl (k := 9) rfl rfl am_o8 rfl rfl ?_
            refine am_Pn.bl 2 (y := (48, [some (.ref 8), o1], [.ref 8, .ref 8], sg_h (sg_uL s2 8 9 x2), 0, 0)) rfl ?_
            refine am_Pn.gi (k := 4) rfl rfl am_o8 rfl rfl ?_
            refine am_Pn.bl 2 (y := (53, [some (.ref 8), o1], [.int ((s2.1 8 4) + (Int32.ofInt (1))), .ref 8], sg_h (sg_uL s2 8 9 x2), 0, 0)) rfl ?_
            refine am_Pn.pi (k := 4) rfl rfl am_o8 rfl rfl ?_
            refine am_Pn.bl 1 (y := (0, [some (.ref 8), o1], [], sg_h (sg_uI (sg_uL s2 8 9 x2) 8 4 ((s2.1 8 4) + (Int32.ofInt (1)))), 0, 0)) rfl ?_
            exact (ih.1) o1 (sg_uI (sg_uL s2 8 9 x2) 8 4 ((s2.1 8 4) + (Int32.ofInt (1)))) h
      · intro o1 s h
        replace h := k59  s h
        unfold wp_XReader_scanWord_59 at h
        refine am_Pn.bl1 0 (y := (60, [some (.ref 8), o1], [.ref 8], sg_h s, 0, 0)) rfl ?_
        refine am_Pn.gi (k := 4) rfl rfl am_o8 rfl rfl ?_
        refine am_Pn.bl 1 (y := (64, [some (.ref 8), o1], [.ref 8, .int (s.1 8 4)], sg_h s, 0, 0)) rfl ?_
        refine am_Pn.gi (k := 7) rfl rfl am_o8 rfl rfl ?_
        refine am_Pn.bl 2 (y := (70, [some (.ref 8), o1], [.int (Int32.ofInt (8)), .int ((s.1 8 4) - (s.1 8 7))], sg_h s, 0, 0)) rfl ?_
        refine am_Pn.bF h (am_ble rfl rfl) rfl rfl (fun h => ?_) (fun h => ?_)
        · refine am_Pn.bl 2 (y := (81, [some (.ref 8), o1], [.int (Int32.ofInt (2)), .ref 8], sg_h s, 0, 0)) rfl ?_
          refine am_Pn.pi (k := 6) rfl rfl am_o8 rfl rfl ?_
          refine am_Pn.bl 2 (y := (86, [some (.ref 8), some (.int (Int32.ofInt (0)))], [], sg_h (sg_uI s 8 6 (Int32.ofInt (2))), 0, 0)) rfl ?_
          exact (ih.2.2) (Int32.ofInt (0)) (sg_uI s 8 6 (Int32.ofInt (2))) h
        · refine am_Pn.bl 2 (y := (75, [some (.ref 8), o1], [.int (Int32.ofInt (5)), .ref 8], sg_h s, 0, 0)) rfl ?_
          refine am_Pn.pi (k := 6) rfl rfl am_o8 rfl rfl ?_
          exact am_Pn.rV h rfl
      · intro l1 s h
        replace h := k86 l1 s h
        unfold wp_XReader_scanWord_86 at h
        refine am_Pn.bl1 1 (y := (89, [some (.ref 8), some (.int l1)], [.int (Int32.ofInt (13)), .int l1], sg_h s, 0, 0)) rfl ?_
        refine am_Pn.bF h (am_bge rfl rfl) rfl rfl (fun h => ?_) (fun h => ?_)
        · exact am_Pn.rV h rfl
        · refine am_Pn.bl 1 (y := (93, [some (.ref 8), some (.int l1)], [.ref 8], sg_h s, 0, 0)) rfl ?_
          refine am_Pn.gr (k := 3) rfl rfl am_o8 rfl rfl ?_
          refine am_Pn.bl 1 (y := (97, [some (.ref 8), some (.int l1)], [.int l1, .ref 17], sg_h s, 0, 0)) rfl ?_
          refine am_Pn.la (a := 17) rfl rfl rfl (fun hi => ?_)
          replace h := h (am_in0 hi) (am_in1 hi)
          refine am_Pn.bl 1 (y := (99, [some (.ref 8), some (.int l1)], [.ref 8, .long (s.2.2.2.1 17 (l1.toInt.toNat))], sg_h s, 0, 0)) rfl ?_
          refine am_Pn.gl (k := 9) rfl rfl am_o8 rfl rfl ?_
          refine am_Pn.bl 1 (y := (103, [some (.ref 8), some (.int l1)], [.int (lg_cmp (s.2.2.2.1 17 (l1.toInt.toNat)) (s.2.1 8 9))], sg_h s, 0, 0)) rfl ?_
          refine am_Pn.zF h (am_lne) rfl rfl (fun h => ?_) (fun h => ?_)
          · refine am_Pn.bl 2 (y := (86, [some (.ref 8), some (.int (l1 + Int32.ofInt (1)))], [], sg_h s, 0, 0)) rfl ?_
            exact (ih.2.2) (l1 + Int32.ofInt (1)) s h
          · refine am_Pn.bl 2 (y := (108, [some (.ref 8), some (.int l1)], [.int (Int32.ofInt (1)), .ref 8], sg_h s, 0, 0)) rfl ?_
            refine am_Pn.pi (k := 6) rfl rfl am_o8 rfl rfl ?_
            refine am_Pn.bl 2 (y := (113, [some (.ref 8), some (.int l1)], [.int l1, .ref 8], sg_h (sg_uI s 8 6 (Int32.ofInt (1))), 0, 0)) rfl ?_
            refine am_Pn.pi (k := 8) rfl rfl am_o8 rfl rfl ?_
            refine am_Pn.bl 2 (y := (86, [some (.ref 8), some (.int (l1 + Int32.ofInt (1)))], [], sg_h (sg_uI (sg_uI s 8 6 (Int32.ofInt (1))) 8 8 l1), 0, 0)) rfl ?_
            exact (ih.2.2) (l1 + Int32.ofInt (1)) (sg_uI (sg_uI s 8 6 (Int32.ofInt (1))) 8 8 l1) h
  unfold wp_XReader_scanWord at h
  exact ((key n).1) none s h
def wp_XReader_scan (Ψ : sg_S → Prop) (s : sg_S) : Prop := (am_SpV 47 [.ref 8] s (fun s1 => (((s1.1 8 4).toInt < (s1.1 8 2).toInt → (0 ≤ (s1.1 8 4).toInt → (s1.1 8 4).toInt < (600) → (am_SpI 48 [.int (s1.2.2.1 16 ((s1.1 8 4).toInt.toNat))] (sg_uL (sg_uI (sg_uI s1 8 7 (s1.1 8 4)) 8 8 (Int32.ofInt (0))) 8 9 (Int64.ofNat 0)) (fun x2 s2 => ((x2.toInt = (0) → (0 ≤ (s2.1 8 4).toInt → (s2.1 8 4).toInt < (600) → (am_SpI 50 [.int (s2.2.2.1 16 ((s2.1 8 4).toInt.toNat))] s2 (fun x3 s3 => ((x3.toInt = (0) → (0 ≤ (s3.1 8 4).toInt → (s3.1 8 4).toInt < (600) → (((s3.2.2.1 16 ((s3.1 8 4).toInt.toNat)).toInt = (59) → (Ψ (sg_uI (sg_uI (sg_uI s3 8 8 (s3.2.2.1 16 ((s3.1 8 4).toInt.toNat))) 8 6 (Int32.ofInt (4))) 8 4 ((s3.1 8 4) + (Int32.ofInt (1)))))) ∧ (¬ (s3.2.2.1 16 ((s3.1 8 4).toInt.toNat)).toInt = (59) → (((s3.2.2.1 16 ((s3.1 8 4).toInt.toNat)).toInt = (61) → (Ψ (sg_uI (sg_uI (sg_uI s3 8 8 (s3.2.2.1 16 ((s3.1 8 4).toInt.toNat))) 8 6 (Int32.ofInt (4))) 8 4 ((s3.1 8 4) + (Int32.ofInt (1)))))) ∧ (¬ (s3.2.2.1 16 ((s3.1 8 4).toInt.toNat)).toInt = (61) → (((s3.2.2.1 16 ((s3.1 8 4).toInt.toNat)).toInt = (44) → (Ψ (sg_uI (sg_uI (sg_uI s3 8 8 (s3.2.2.1 16 ((s3.1 8 4).toInt.toNat))) 8 6 (Int32.ofInt (4))) 8 4 ((s3.1 8 4) + (Int32.ofInt (1)))))) ∧ (¬ (s3.2.2.1 16 ((s3.1 8 4).toInt.toNat)).toInt = (44) → (((s3.2.2.1 16 ((s3.1 8 4).toInt.toNat)).toInt = (45) → (Ψ (sg_uI (sg_uI (sg_uI s3 8 8 (s3.2.2.1 16 ((s3.1 8 4).toInt.toNat))) 8 6 (Int32.ofInt (4))) 8 4 ((s3.1 8 4) + (Int32.ofInt (1)))))) ∧ (¬ (s3.2.2.1 16 ((s3.1 8 4).toInt.toNat)).toInt = (45) → (Ψ (sg_uI (sg_uI (sg_uI s3 8 8 (s3.2.2.1 16 ((s3.1 8 4).toInt.toNat))) 8 6 (Int32.ofInt (5))) 8 4 ((s3.1 8 4) + (Int32.ofInt (1))))))))))))))) ∧ (¬ x3.toInt = (0) → (am_SpV 51 [.ref 8] s3 (fun s4 => (Ψ s4))))))))) ∧ (¬ x2.toInt = (0) → (am_SpV 49 [.ref 8] s2 (fun s5 => (Ψ s5))))))))) ∧ (¬ (s1.1 8 4).toInt < (s1.1 8 2).toInt → (Ψ (sg_uI (sg_uL (sg_uI (sg_uI s1 8 7 (s1.1 8 4)) 8 8 (Int32.ofInt (0))) 8 9 (Int64.ofNat 0)) 8 6 (Int32.ofInt (0))))))))
set_option maxRecDepth 100000 in
theorem wp_XReader_scan_ok {Ψ : sg_S → Prop} {s : sg_S} (h : wp_XReader_scan Ψ  s) : am_SpV 46 [.ref 8] s Ψ := by
  refine am_SpV.mk (r := am_r46) rfl rfl (fun call d al n hcl => ?_)
  unfold wp_XReader_scan at h
  refine am_Pn.bl 1 (y := (1, [some (.ref 8)], [.ref 8], sg_h s, 0, 0)) rfl ?_
  refine am_Pn.cvV hcl h rfl rfl rfl rfl rfl (fun s1 h => ?_)
  refine am_Pn.bl 2 (y := (6, [some (.ref 8)], [.ref 8, .ref 8], sg_h s1, 0, 0)) rfl ?_
  refine am_Pn.gi (k := 4) rfl rfl am_o8 rfl rfl ?_
  refine am_Pn.pi (k := 7) rfl rfl am_o8 rfl rfl ?_
  refine am_Pn.bl 2 (y := (14, [some (.ref 8)], [.int (Int32.ofInt (0)), .ref 8], sg_h (sg_uI s1 8 7 (s1.1 8 4)), 0, 0)) rfl ?_
  refine am_Pn.pi (k := 8) rfl rfl am_o8 rfl rfl ?_
  refine am_Pn.bl 2 (y := (19, [some (.ref 8)], [.long (Int64.ofNat 0), .ref 8], sg_h (sg_uI (sg_uI s1 8 7 (s1.1 8 4)) 8 8 (Int32.ofInt (0))), 0, 0)) rfl ?_
  refine am_Pn.pl (k := 9) rfl rfl am_o8 rfl rfl ?_
  refine am_Pn.bl 1 (y := (23, [some (.ref 8)], [.ref 8], sg_h (sg_uL (sg_uI (sg_uI s1 8 7 (s1.1 8 4)) 8 8 (Int32.ofInt (0))) 8 9 (Int64.ofNat 0)), 0, 0)) rfl ?_
  refine am_Pn.gi (k := 4) rfl rfl am_o8 rfl rfl ?_
  refine am_Pn.bl 1 (y := (27, [some (.ref 8)], [.ref 8, .int (s1.1 8 4)], sg_h (sg_uL (sg_uI (sg_uI s1 8 7 (s1.1 8 4)) 8 8 (Int32.ofInt (0))) 8 9 (Int64.ofNat 0)), 0, 0)) rfl ?_
  refine am_Pn.gi (k := 2) rfl rfl am_o8 rfl rfl ?_
  refine am_Pn.bT h (am_blt rfl rfl) rfl rfl (fun h => ?_) (fun h => ?_)
  · refine am_Pn.bl 1 (y := (42, [some (.ref 8)], [.ref 8], sg_h (sg_uL (sg_uI (sg_uI s1 8 7 (s1.1 8 4)) 8 8 (Int32.ofInt (0))) 8 9 (Int64.ofNat 0)), 0, 0)) rfl ?_
    refine am_Pn.gr (k := 1) rfl rfl am_o8 rfl rfl ?_
    refine am_Pn.bl 1 (y := (46, [some (.ref 8)], [.ref 8, .ref 16], sg_h (sg_uL (sg_uI (sg_uI s1 8 7 (s1.1 8 4)) 8 8 (Int32.ofInt (0))) 8 9 (Int64.ofNat 0)), 0, 0)) rfl ?_
    refine am_Pn.gi (k := 4) rfl rfl am_o8 rfl rfl ?_
    refine am_Pn.ia (a := 16) rfl rfl rfl rfl (fun hi => ?_)
    replace h := h (am_in0 hi) (am_in1 hi)
    refine am_Pn.csI hcl h rfl rfl rfl rfl rfl (fun x2 s2 h => ?_)
    refine am_Pn.zT h (am_beq rfl rfl) rfl rfl (fun h => ?_) (fun h => ?_)
    · refine am_Pn.bl 1 (y := (64, [some (.ref 8)], [.ref 8], sg_h s2, 0, 0)) rfl ?_
      refine am_Pn.gr (k := 1) rfl rfl am_o8 rfl rfl ?_
      refine am_Pn.bl 1 (y := (68, [some (.ref 8)], [.ref 8, .ref 16], sg_h s2, 0, 0)) rfl ?_
      refine am_Pn.gi (k := 4) rfl rfl am_o8 rfl rfl ?_
      refine am_Pn.ia (a := 16) rfl rfl rfl rfl (fun hi => ?_)
      replace h := h (am_in0 hi) (am_in1 hi)
      refine am_Pn.csI hcl h rfl rfl rfl rfl rfl (fun x3 s3 h => ?_)
      refine am_Pn.zT h (am_beq rfl rfl) rfl rfl (fun h => ?_) (fun h => ?_)
      · refine am_Pn.bl 2 (y := (87, [some (.ref 8)], [.ref 8, .ref 8], sg_h s3, 0, 0)) rfl ?_
        refine am_Pn.gr (k := 1) rfl rfl am_o8 rfl rfl ?_
        refine am_Pn.bl 1 (y := (91, [some (.ref 8)], [.ref 8, .ref 16, .ref 8], sg_h s3, 0, 0)) rfl ?_
        refine am_Pn.gi (k := 4) rfl rfl am_o8 rfl rfl ?_
        refine am_Pn.ia (a := 16) rfl rfl rfl rfl (fun hi => ?_)
        replace h := h (am_in0 hi) (am_in1 hi)
        refine am_Pn.pi (k := 8) rfl rfl am_o8 rfl rfl ?_
        refine am_Pn.bl 2 (y := (100, [some (.ref 8)], [.ref 8, .ref 8], sg_h (sg_uI s3 8 8 (s3.2.2.1 16 ((s3.1 8 4).toInt.toNat))), 0, 0)) rfl ?_
        refine am_Pn.gi (k := 8) rfl rfl am_o8 rfl rfl ?_
        refine am_Pn.bl 1 (y := (105, [some (.ref 8)], [.int (Int32.ofInt (59)), .int (s3.2.2.1 16 ((s3.1 8 4).toInt.toNat)), .ref 8], sg_h (sg_uI s3 8 8 (s3.2.2.1 16 ((s3.1 8 4).toInt.toNat))), 0, 0)) rfl ?_
        refine am_Pn.bT h (am_beq rfl rfl) rfl rfl (fun h => ?_) (fun h => ?_)
        · refine am_Pn.bl 2 (y := (140, [some (.ref 8)], [.int (Int32.ofInt (4)), .ref 8], sg_h (sg_uI s3 8 8 (s3.2.2.1 16 ((s3.1 8 4).toInt.toNat))), 0, 0)) rfl ?_
          refine am_Pn.pi (k := 6) rfl rfl am_o8 rfl rfl ?_
          refine am_Pn.bl 2 (y := (145, [some (.ref 8)], [.ref 8, .ref 8], sg_h (sg_uI (sg_uI s3 8 8 (s3.2.2.1 16 ((s3.1 8 4).toInt.toNat))) 8 6 (Int32.ofInt (4))), 0, 0)) rfl ?_
          refine am_Pn.gi (k := 4) rfl rfl am_o8 rfl rfl ?_
          refine am_Pn.bl 2 (y := (150, [some (.ref 8)], [.int ((s3.1 8 4) + (Int32.ofInt (1))), .ref 8], sg_h (sg_uI (sg_uI s3 8 8 (s3.2.2.1 16 ((s3.1 8 4).toInt.toNat))) 8 6 (Int32.ofInt (4))), 0, 0)) rfl ?_
          refine am_Pn.pi (k := 4) rfl rfl am_o8 rfl rfl ?_
          exact am_Pn.rV h rfl
        · refine am_Pn.bl 1 (y := (109, [some (.ref 8)], [.ref 8, .ref 8], sg_h (sg_uI s3 8 8 (s3.2.2.1 16 ((s3.1 8 4).toInt.toNat))), 0, 0)) rfl ?_
          refine am_Pn.gi (k := 8) rfl rfl am_o8 rfl rfl ?_
          refine am_Pn.bl 1 (y := (114, [some (.ref 8)], [.int (Int32.ofInt (61)), .int (s3.2.2.1 16 ((s3.1 8 4).toInt.toNat)), .ref 8], sg_h (sg_uI s3 8 8 (s3.2.2.1 16 ((s3.1 8 4).toInt.toNat))), 0, 0)) rfl ?_
          refine am_Pn.bT h (am_beq rfl rfl) rfl rfl (fun h => ?_) (fun h => ?_)
          · refine am_Pn.bl 2 (y := (140, [some (.ref 8)], [.int (Int32.ofInt (4)), .ref 8], sg_h (sg_uI s3 8 8 (s3.2.2.1 16 ((s3.1 8 4).toInt.toNat))), 0, 0)) rfl ?_
            refine am_Pn.pi (k := 6) rfl rfl am_o8 rfl rfl ?_
            refine am_Pn.bl 2 (y := (145, [some (.ref 8)], [.ref 8, .ref 8], sg_h (sg_uI (sg_uI s3 8 8 (s3.2.2.1 16 ((s3.1 8 4).toInt.toNat))) 8 6 (Int32.ofInt (4))), 0, 0)) rfl ?_
            refine am_Pn.gi (k := 4) rfl rfl am_o8 rfl rfl ?_
            refine am_Pn.bl 2 (y := (150, [some (.ref 8)], [.int ((s3.1 8 4) + (Int32.ofInt (1))), .ref 8], sg_h (sg_uI (sg_uI s3 8 8 (s3.2.2.1 16 ((s3.1 8 4).toInt.toNat))) 8 6 (Int32.ofInt (4))), 0, 0)) rfl ?_
            refine am_Pn.pi (k := 4) rfl rfl am_o8 rfl rfl ?_
            exact am_Pn.rV h rfl
          · refine am_Pn.bl 1 (y := (118, [some (.ref 8)], [.ref 8, .ref 8], sg_h (sg_uI s3 8 8 (s3.2.2.1 16 ((s3.1 8 4).toInt.toNat))), 0, 0)) rfl ?_
            refine am_Pn.gi (k := 8) rfl rfl am_o8 rfl rfl ?_
            refine am_Pn.bl 1 (y := (123, [some (.ref 8)], [.int (Int32.ofInt (44)), .int (s3.2.2.1 16 ((s3.1 8 4).toInt.toNat)), .ref 8], sg_h (sg_uI s3 8 8 (s3.2.2.1 16 ((s3.1 8 4).toInt.toNat))), 0, 0)) rfl ?_
            refine am_Pn.bT h (am_beq rfl rfl) rfl rfl (fun h => ?_) (fun h => ?_)
            · refine am_Pn.bl 2 (y := (140, [some (.ref 8)], [.int (Int32.ofInt (4)), .ref 8], sg_h (sg_uI s3 8 8 (s3.2.2.1 16 ((s3.1 8 4).toInt.toNat))), 0, 0)) rfl ?_
              refine am_Pn.pi (k := 6) rfl rfl am_o8 rfl rfl ?_
              refine am_Pn.bl 2 (y := (145, [some (.ref 8)], [.ref 8, .ref 8], sg_h (sg_uI (sg_uI s3 8 8 (s3.2.2.1 16 ((s3.1 8 4).toInt.toNat))) 8 6 (Int32.ofInt (4))), 0, 0)) rfl ?_
              refine am_Pn.gi (k := 4) rfl rfl am_o8 rfl rfl ?_
              refine am_Pn.bl 2 (y := (150, [some (.ref 8)], [.int ((s3.1 8 4) + (Int32.ofInt (1))), .ref 8], sg_h (sg_uI (sg_uI s3 8 8 (s3.2.2.1 16 ((s3.1 8 4).toInt.toNat))) 8 6 (Int32.ofInt (4))), 0, 0)) rfl ?_
              refine am_Pn.pi (k := 4) rfl rfl am_o8 rfl rfl ?_
              exact am_Pn.rV h rfl
            · refine am_Pn.bl 1 (y := (127, [some (.ref 8)], [.ref 8, .ref 8], sg_h (sg_uI s3 8 8 (s3.2.2.1 16 ((s3.1 8 4).toInt.toNat))), 0, 0)) rfl ?_
              refine am_Pn.gi (k := 8) rfl rfl am_o8 rfl rfl ?_
              refine am_Pn.bl 1 (y := (132, [some (.ref 8)], [.int (Int32.ofInt (45)), .int (s3.2.2.1 16 ((s3.1 8 4).toInt.toNat)), .ref 8], sg_h (sg_uI s3 8 8 (s3.2.2.1 16 ((s3.1 8 4).toInt.toNat))), 0, 0)) rfl ?_
              refine am_Pn.bF h (am_bne rfl rfl) rfl rfl (fun h => ?_) (fun h => ?_)
              · refine am_Pn.bl 1 (y := (140, [some (.ref 8)], [.int (Int32.ofInt (5)), .ref 8], sg_h (sg_uI s3 8 8 (s3.2.2.1 16 ((s3.1 8 4).toInt.toNat))), 0, 0)) rfl ?_
                refine am_Pn.pi (k := 6) rfl rfl am_o8 rfl rfl ?_
                refine am_Pn.bl 2 (y := (145, [some (.ref 8)], [.ref 8, .ref 8], sg_h (sg_uI (sg_uI s3 8 8 (s3.2.2.1 16 ((s3.1 8 4).toInt.toNat))) 8 6 (Int32.ofInt (5))), 0, 0)) rfl ?_
                refine am_Pn.gi (k := 4) rfl rfl am_o8 rfl rfl ?_
                refine am_Pn.bl 2 (y := (150, [some (.ref 8)], [.int ((s3.1 8 4) + (Int32.ofInt (1))), .ref 8], sg_h (sg_uI (sg_uI s3 8 8 (s3.2.2.1 16 ((s3.1 8 4).toInt.toNat))) 8 6 (Int32.ofInt (5))), 0, 0)) rfl ?_
                refine am_Pn.pi (k := 4) rfl rfl am_o8 rfl rfl ?_
                exact am_Pn.rV h rfl
              · refine am_Pn.bl 2 (y := (140, [some (.ref 8)], [.int (Int32.ofInt (4)), .ref 8], sg_h (sg_uI s3 8 8 (s3.2.2.1 16 ((s3.1 8 4).toInt.toNat))), 0, 0)) rfl ?_
                refine am_Pn.pi (k := 6) rfl rfl am_o8 rfl rfl ?_
                refine am_Pn.bl 2 (y := (145, [some (.ref 8)], [.ref 8, .ref 8], sg_h (sg_uI (sg_uI s3 8 8 (s3.2.2.1 16 ((s3.1 8 4).toInt.toNat))) 8 6 (Int32.ofInt (4))), 0, 0)) rfl ?_
                refine am_Pn.gi (k := 4) rfl rfl am_o8 rfl rfl ?_
                refine am_Pn.bl 2 (y := (150, [some (.ref 8)], [.int ((s3.1 8 4) + (Int32.ofInt (1))), .ref 8], sg_h (sg_uI (sg_uI s3 8 8 (s3.2.2.1 16 ((s3.1 8 4).toInt.toNat))) 8 6 (Int32.ofInt (4))), 0, 0)) rfl ?_
                refine am_Pn.pi (k := 4) rfl rfl am_o8 rfl rfl ?_
                exact am_Pn.rV h rfl
      · refine am_Pn.bl 1 (y := (79, [some (.ref 8)], [.ref 8], sg_h s3, 0, 0)) rfl ?_
        refine am_Pn.cvV hcl h rfl rfl rfl rfl rfl (fun s4 h => ?_)
        refine am_Pn.bl 1 (y := (153, [some (.ref 8)], [], sg_h s4, 0, 0)) rfl ?_
        exact am_Pn.rV h rfl
    · refine am_Pn.bl 1 (y := (57, [some (.ref 8)], [.ref 8], sg_h s2, 0, 0)) rfl ?_
      refine am_Pn.cvV hcl h rfl rfl rfl rfl rfl (fun s5 h => ?_)
      refine am_Pn.bl 1 (y := (153, [some (.ref 8)], [], sg_h s5, 0, 0)) rfl ?_
      exact am_Pn.rV h rfl
  · refine am_Pn.bl 2 (y := (35, [some (.ref 8)], [.int (Int32.ofInt (0)), .ref 8], sg_h (sg_uL (sg_uI (sg_uI s1 8 7 (s1.1 8 4)) 8 8 (Int32.ofInt (0))) 8 9 (Int64.ofNat 0)), 0, 0)) rfl ?_
    refine am_Pn.pi (k := 6) rfl rfl am_o8 rfl rfl ?_
    refine am_Pn.bl 1 (y := (153, [some (.ref 8)], [], sg_h (sg_uI (sg_uL (sg_uI (sg_uI s1 8 7 (s1.1 8 4)) 8 8 (Int32.ofInt (0))) 8 9 (Int64.ofNat 0)) 8 6 (Int32.ofInt (0))), 0, 0)) rfl ?_
    exact am_Pn.rV h rfl
def wp_XRules_setNamed_9_2 (I2 : Int32 →  sg_S → Prop) (Ψ : Int32 → sg_S → Prop) (x1 : Int64) (l3 : Int32) (s : sg_S) : Prop := ((l3.toInt < (s.1 9 5).toInt → (0 ≤ l3.toInt → l3.toInt < (16) → ((s.2.2.2.1 10 (l3.toInt.toNat) = x1 → (Ψ (s.2.2.1 11 (l3.toInt.toNat)) s)) ∧ (¬ s.2.2.2.1 10 (l3.toInt.toNat) = x1 → (I2 (l3 + Int32.ofInt (1)) s))))) ∧ (¬ l3.toInt < (s.1 9 5).toInt → (Ψ (Int32.ofInt (-1)) s)))
def wp_XRules_setNamed_9 (I2 : Int32 →  sg_S → Prop) (Ψ : Int32 → sg_S → Prop) (x1 : Int64) (s : sg_S) : Prop := (I2 (Int32.ofInt (0)) s)
set_option maxRecDepth 100000 in
theorem wp_XRules_setNamed_9_ok {I2 : Int32 →  sg_S → Prop} {Ψ : Int32 → sg_S → Prop} {x1 : Int64} {s : sg_S} (k2 : ∀ (l3 : Int32) (s : sg_S), I2 l3 s → wp_XRules_setNamed_9_2 I2 Ψ x1 l3 s) (h : wp_XRules_setNamed_9 I2 Ψ x1 s) : am_SpI 65 [.ref 9, .long x1] s Ψ := by
  refine am_SpI.mk (r := am_r65) rfl rfl (fun call d al n hcl => ?_)
  have key : ∀ n, (∀ (l3 : Int32) (s : sg_S), I2 l3 s → am_Pn call d (0, fun _ => 0) al am_r65 (am_PhI am_r65 Ψ) n (2, [some (.ref 9), some (.long x1), none, some (.int l3)], [], sg_h s, 0, 0)) := by
    intro n
    induction n with
    | zero => exact fun _ _ _ => am_Pn.zero
    | succ n ih =>
      intro l3 s h
      replace h := k2 l3 s h
      unfold wp_XRules_setNamed_9_2 at h
      refine am_Pn.bl1 1 (y := (4, [some (.ref 9), some (.long x1), none, some (.int l3)], [.ref 9, .int l3], sg_h s, 0, 0)) rfl ?_
      refine am_Pn.gi (k := 5) rfl rfl am_o9 rfl rfl ?_
      refine am_Pn.bF h (am_bge rfl rfl) rfl rfl (fun h => ?_) (fun h => ?_)
      · refine am_Pn.bl 1 (y := (35, [some (.ref 9), some (.long x1), none, some (.int l3)], [.int (Int32.ofInt (-1))], sg_h s, 0, 0)) rfl ?_
        exact am_Pn.rI h rfl
      · refine am_Pn.bl 1 (y := (11, [some (.ref 9), some (.long x1), none, some (.int l3)], [.ref 9], sg_h s, 0, 0)) rfl ?_
        refine am_Pn.gr (k := 6) rfl rfl am_o9 rfl rfl ?_
        refine am_Pn.bl 1 (y := (15, [some (.ref 9), some (.long x1), none, some (.int l3)], [.int l3, .ref 10], sg_h s, 0, 0)) rfl ?_
        refine am_Pn.la (a := 10) rfl rfl rfl (fun hi => ?_)
        replace h := h (am_in0 hi) (am_in1 hi)
        refine am_Pn.bl 2 (y := (18, [some (.ref 9), some (.long x1), none, some (.int l3)], [.int (lg_cmp (s.2.2.2.1 10 (l3.toInt.toNat)) x1)], sg_h s, 0, 0)) rfl ?_
        refine am_Pn.zF h (am_lne) rfl rfl (fun h => ?_) (fun h => ?_)
        · refine am_Pn.bl 2 (y := (2, [some (.ref 9), some (.long x1), none, some (.int (l3 + Int32.ofInt (1)))], [], sg_h s, 0, 0)) rfl ?_
          exact (ih) (l3 + Int32.ofInt (1)) s h
        · refine am_Pn.bl 1 (y := (22, [some (.ref 9), some (.long x1), none, some (.int l3)], [.ref 9], sg_h s, 0, 0)) rfl ?_
          refine am_Pn.gr (k := 7) rfl rfl am_o9 rfl rfl ?_
          refine am_Pn.bl 1 (y := (26, [some (.ref 9), some (.long x1), none, some (.int l3)], [.int l3, .ref 11], sg_h s, 0, 0)) rfl ?_
          refine am_Pn.ia (a := 11) rfl rfl rfl rfl (fun hi => ?_)
          exact am_Pn.rI h rfl
  unfold wp_XRules_setNamed_9 at h
  refine am_Pn.bl 2 (y := (2, [some (.ref 9), some (.long x1), none, some (.int (Int32.ofInt (0)))], [], sg_h s, 0, 0)) rfl ?_
  exact ((key n)) (Int32.ofInt (0)) s h
def wp_XRules_addName_9 (Ψ : sg_S → Prop) (x1 : Int64) (x2 : Int32) (s : sg_S) : Prop := (((s.1 9 5).toInt < (16) → (0 ≤ (s.1 9 5).toInt → (s.1 9 5).toInt < (16) → (Ψ (sg_uI (sg_uA (sg_uM s 10 ((s.1 9 5).toInt.toNat) x1) 11 ((s.1 9 5).toInt.toNat) x2) 9 5 ((s.1 9 5) + (Int32.ofInt (1))))))) ∧ (¬ (s.1 9 5).toInt < (16) → (Ψ s)))
set_option maxRecDepth 100000 in
theorem wp_XRules_addName_9_ok {Ψ : sg_S → Prop} {x1 : Int64} {x2 : Int32} {s : sg_S} (h : wp_XRules_addName_9 Ψ x1 x2 s) : am_SpV 68 [.ref 9, .long x1, .int x2] s Ψ := by
  refine am_SpV.mk (r := am_r68) rfl rfl (fun call d al n hcl => ?_)
  unfold wp_XRules_addName_9 at h
  refine am_Pn.bl 1 (y := (1, [some (.ref 9), some (.long x1), none, some (.int x2)], [.ref 9], sg_h s, 0, 0)) rfl ?_
  refine am_Pn.gi (k := 5) rfl rfl am_o9 rfl rfl ?_
  refine am_Pn.bl 1 (y := (5, [some (.ref 9), some (.long x1), none, some (.int x2)], [.ref 9, .int (s.1 9 5)], sg_h s, 0, 0)) rfl ?_
  refine am_Pn.gr (k := 6) rfl rfl am_o9 rfl rfl ?_
  refine am_Pn.an (a := 10) rfl rfl rfl rfl rfl ?_
  refine am_Pn.bF h (am_bge rfl rfl) rfl rfl (fun h => ?_) (fun h => ?_)
  · exact am_Pn.rV h rfl
  · refine am_Pn.bl 1 (y := (13, [some (.ref 9), some (.long x1), none, some (.int x2)], [.ref 9], sg_h s, 0, 0)) rfl ?_
    refine am_Pn.gr (k := 6) rfl rfl am_o9 rfl rfl ?_
    refine am_Pn.bl 1 (y := (17, [some (.ref 9), some (.long x1), none, some (.int x2)], [.ref 9, .ref 10], sg_h s, 0, 0)) rfl ?_
    refine am_Pn.gi (k := 5) rfl rfl am_o9 rfl rfl ?_
    refine am_Pn.bl 1 (y := (21, [some (.ref 9), some (.long x1), none, some (.int x2)], [.long x1, .int (s.1 9 5), .ref 10], sg_h s, 0, 0)) rfl ?_
    refine am_Pn.ls (a := 10) rfl rfl rfl (fun hi => ?_)
    replace h := h (am_in0 hi) (am_in1 hi)
    refine am_Pn.bl 1 (y := (23, [some (.ref 9), some (.long x1), none, some (.int x2)], [.ref 9], sg_h (sg_uM s 10 ((s.1 9 5).toInt.toNat) x1), 0, 0)) rfl ?_
    refine am_Pn.gr (k := 7) rfl rfl am_o9 rfl rfl ?_
    refine am_Pn.bl 1 (y := (27, [some (.ref 9), some (.long x1), none, some (.int x2)], [.ref 9, .ref 11], sg_h (sg_uM s 10 ((s.1 9 5).toInt.toNat) x1), 0, 0)) rfl ?_
    refine am_Pn.gi (k := 5) rfl rfl am_o9 rfl rfl ?_
    refine am_Pn.bl 1 (y := (31, [some (.ref 9), some (.long x1), none, some (.int x2)], [.int x2, .int (s.1 9 5), .ref 11], sg_h (sg_uM s 10 ((s.1 9 5).toInt.toNat) x1), 0, 0)) rfl ?_
    refine am_Pn.is (a := 11) rfl rfl rfl (fun hi => ?_)
    refine am_Pn.bl 2 (y := (34, [some (.ref 9), some (.long x1), none, some (.int x2)], [.ref 9, .ref 9], sg_h (sg_uA (sg_uM s 10 ((s.1 9 5).toInt.toNat) x1) 11 ((s.1 9 5).toInt.toNat) x2), 0, 0)) rfl ?_
    refine am_Pn.gi (k := 5) rfl rfl am_o9 rfl rfl ?_
    refine am_Pn.bl 2 (y := (39, [some (.ref 9), some (.long x1), none, some (.int x2)], [.int ((s.1 9 5) + (Int32.ofInt (1))), .ref 9], sg_h (sg_uA (sg_uM s 10 ((s.1 9 5).toInt.toNat) x1) 11 ((s.1 9 5).toInt.toNat) x2), 0, 0)) rfl ?_
    refine am_Pn.pi (k := 5) rfl rfl am_o9 rfl rfl ?_
    exact am_Pn.rV h rfl
def wp_XRules_addKind_9 (Ψ : sg_S → Prop) (x1 : Int64) (s : sg_S) : Prop := (((s.1 9 0).toInt < (8) → (am_SpV 68 [.ref 9, .long x1, .int ((Int32.ofInt (1)) <<< ((s.1 9 0) &&& 31))] s (fun s2 => (Ψ (sg_uI s2 9 0 ((s2.1 9 0) + (Int32.ofInt (1)))))))) ∧ (¬ (s.1 9 0).toInt < (8) → (Ψ s)))
set_option maxRecDepth 100000 in
theorem wp_XRules_addKind_9_ok {Ψ : sg_S → Prop} {x1 : Int64} {s : sg_S} (h : wp_XRules_addKind_9 Ψ x1 s) : am_SpV 67 [.ref 9, .long x1] s Ψ := by
  refine am_SpV.mk (r := am_r67) rfl rfl (fun call d al n hcl => ?_)
  unfold wp_XRules_addKind_9 at h
  refine am_Pn.bl 1 (y := (1, [some (.ref 9), some (.long x1), none], [.ref 9], sg_h s, 0, 0)) rfl ?_
  refine am_Pn.gi (k := 0) rfl rfl am_o9 rfl rfl ?_
  refine am_Pn.bl 1 (y := (6, [some (.ref 9), some (.long x1), none], [.int (Int32.ofInt (8)), .int (s.1 9 0)], sg_h s, 0, 0)) rfl ?_
  refine am_Pn.bF h (am_bge rfl rfl) rfl rfl (fun h => ?_) (fun h => ?_)
  · exact am_Pn.rV h rfl
  · refine am_Pn.bl 4 (y := (13, [some (.ref 9), some (.long x1), none], [.ref 9, .int (Int32.ofInt (1)), .long x1, .ref 9], sg_h s, 0, 0)) rfl ?_
    refine am_Pn.gi (k := 0) rfl rfl am_o9 rfl rfl ?_
    refine am_Pn.bl 1 (y := (17, [some (.ref 9), some (.long x1), none], [.int ((Int32.ofInt (1)) <<< ((s.1 9 0) &&& 31)), .long x1, .ref 9], sg_h s, 0, 0)) rfl ?_
    refine am_Pn.cvV hcl h rfl rfl rfl rfl rfl (fun s2 h => ?_)
    refine am_Pn.bl 2 (y := (22, [some (.ref 9), some (.long x1), none], [.ref 9, .ref 9], sg_h s2, 0, 0)) rfl ?_
    refine am_Pn.gi (k := 0) rfl rfl am_o9 rfl rfl ?_
    refine am_Pn.bl 2 (y := (27, [some (.ref 9), some (.long x1), none], [.int ((s2.1 9 0) + (Int32.ofInt (1))), .ref 9], sg_h s2, 0, 0)) rfl ?_
    refine am_Pn.pi (k := 0) rfl rfl am_o9 rfl rfl ?_
    exact am_Pn.rV h rfl
def wp_XRules_addGroup_9 (Ψ : sg_S → Prop) (x1 : Int64) (x2 : Int32) (s : sg_S) : Prop := (((s.1 9 1).toInt < (8) → (am_SpV 68 [.ref 9, .long x1, .int x2] s (fun s3 => (Ψ (sg_uI s3 9 1 ((s3.1 9 1) + (Int32.ofInt (1)))))))) ∧ (¬ (s.1 9 1).toInt < (8) → (Ψ s)))
set_option maxRecDepth 100000 in
theorem wp_XRules_addGroup_9_ok {Ψ : sg_S → Prop} {x1 : Int64} {x2 : Int32} {s : sg_S} (h : wp_XRules_addGroup_9 Ψ x1 x2 s) : am_SpV 69 [.ref 9, .long x1, .int x2] s Ψ := by
  refine am_SpV.mk (r := am_r69) rfl rfl (fun call d al n hcl => ?_)
  unfold wp_XRules_addGroup_9 at h
  refine am_Pn.bl 1 (y := (1, [some (.ref 9), some (.long x1), none, some (.int x2)], [.ref 9], sg_h s, 0, 0)) rfl ?_
  refine am_Pn.gi (k := 1) rfl rfl am_o9 rfl rfl ?_
  refine am_Pn.bl 1 (y := (6, [some (.ref 9), some (.long x1), none, some (.int x2)], [.int (Int32.ofInt (8)), .int (s.1 9 1)], sg_h s, 0, 0)) rfl ?_
  refine am_Pn.bF h (am_bge rfl rfl) rfl rfl (fun h => ?_) (fun h => ?_)
  · exact am_Pn.rV h rfl
  · refine am_Pn.bl 3 (y := (12, [some (.ref 9), some (.long x1), none, some (.int x2)], [.int x2, .long x1, .ref 9], sg_h s, 0, 0)) rfl ?_
    refine am_Pn.cvV hcl h rfl rfl rfl rfl rfl (fun s3 h => ?_)
    refine am_Pn.bl 2 (y := (17, [some (.ref 9), some (.long x1), none, some (.int x2)], [.ref 9, .ref 9], sg_h s3, 0, 0)) rfl ?_
    refine am_Pn.gi (k := 1) rfl rfl am_o9 rfl rfl ?_
    refine am_Pn.bl 2 (y := (22, [some (.ref 9), some (.long x1), none, some (.int x2)], [.int ((s3.1 9 1) + (Int32.ofInt (1))), .ref 9], sg_h s3, 0, 0)) rfl ?_
    refine am_Pn.pi (k := 1) rfl rfl am_o9 rfl rfl ?_
    exact am_Pn.rV h rfl
def wp_XRules_addRule_9 (Ψ : sg_S → Prop) (x1 : Int32) (x2 : Int32) (x3 : Int32) (x4 : Int32) (s : sg_S) : Prop := (((s.1 9 2).toInt < (12) → (0 ≤ (s.1 9 2).toInt → (s.1 9 2).toInt < (12) → (Ψ (sg_uI (sg_uA (sg_uA (sg_uA (sg_uA s 12 ((s.1 9 2).toInt.toNat) x1) 13 ((s.1 9 2).toInt.toNat) x2) 14 ((s.1 9 2).toInt.toNat) x3) 15 ((s.1 9 2).toInt.toNat) x4) 9 2 ((s.1 9 2) + (Int32.ofInt (1))))))) ∧ (¬ (s.1 9 2).toInt < (12) → (Ψ s)))
set_option maxRecDepth 100000 in
theorem wp_XRules_addRule_9_ok {Ψ : sg_S → Prop} {x1 : Int32} {x2 : Int32} {x3 : Int32} {x4 : Int32} {s : sg_S} (h : wp_XRules_addRule_9 Ψ x1 x2 x3 x4 s) : am_SpV 66 [.ref 9, .int x1, .int x2, .int x3, .int x4] s Ψ := by
  refine am_SpV.mk (r := am_r66) rfl rfl (fun call d al n hcl => ?_)
  unfold wp_XRules_addRule_9 at h
  refine am_Pn.bl 1 (y := (1, [some (.ref 9), some (.int x1), some (.int x2), some (.int x3), some (.int x4)], [.ref 9], sg_h s, 0, 0)) rfl ?_
  refine am_Pn.gi (k := 2) rfl rfl am_o9 rfl rfl ?_
  refine am_Pn.bl 1 (y := (6, [some (.ref 9), some (.int x1), some (.int x2), some (.int x3), some (.int x4)], [.int (Int32.ofInt (12)), .int (s.1 9 2)], sg_h s, 0, 0)) rfl ?_
  refine am_Pn.bF h (am_bge rfl rfl) rfl rfl (fun h => ?_) (fun h => ?_)
  · exact am_Pn.rV h rfl
  · refine am_Pn.bl 1 (y := (10, [some (.ref 9), some (.int x1), some (.int x2), some (.int x3), some (.int x4)], [.ref 9], sg_h s, 0, 0)) rfl ?_
    refine am_Pn.gr (k := 8) rfl rfl am_o9 rfl rfl ?_
    refine am_Pn.bl 1 (y := (14, [some (.ref 9), some (.int x1), some (.int x2), some (.int x3), some (.int x4)], [.ref 9, .ref 12], sg_h s, 0, 0)) rfl ?_
    refine am_Pn.gi (k := 2) rfl rfl am_o9 rfl rfl ?_
    refine am_Pn.bl 1 (y := (18, [some (.ref 9), some (.int x1), some (.int x2), some (.int x3), some (.int x4)], [.int x1, .int (s.1 9 2), .ref 12], sg_h s, 0, 0)) rfl ?_
    refine am_Pn.is (a := 12) rfl rfl rfl (fun hi => ?_)
    replace h := h (am_in0 hi) (am_in1 hi)
    refine am_Pn.bl 1 (y := (20, [some (.ref 9), some (.int x1), some (.int x2), some (.int x3), some (.int x4)], [.ref 9], sg_h (sg_uA s 12 ((s.1 9 2).toInt.toNat) x1), 0, 0)) rfl ?_
    refine am_Pn.gr (k := 9) rfl rfl am_o9 rfl rfl ?_
    refine am_Pn.bl 1 (y := (24, [some (.ref 9), some (.int x1), some (.int x2), some (.int x3), some (.int x4)], [.ref 9, .ref 13], sg_h (sg_uA s 12 ((s.1 9 2).toInt.toNat) x1), 0, 0)) rfl ?_
    refine am_Pn.gi (k := 2) rfl rfl am_o9 rfl rfl ?_
    refine am_Pn.bl 1 (y := (28, [some (.ref 9), some (.int x1), some (.int x2), some (.int x3), some (.int x4)], [.int x2, .int (s.1 9 2), .ref 13], sg_h (sg_uA s 12 ((s.1 9 2).toInt.toNat) x1), 0, 0)) rfl ?_
    refine am_Pn.is (a := 13) rfl rfl rfl (fun hi => ?_)
    refine am_Pn.bl 1 (y := (30, [some (.ref 9), some (.int x1), some (.int x2), some (.int x3), some (.int x4)], [.ref 9], sg_h (sg_uA (sg_uA s 12 ((s.1 9 2).toInt.toNat) x1) 13 ((s.1 9 2).toInt.toNat) x2), 0, 0)) rfl ?_
    refine am_Pn.gr (k := 10) rfl rfl am_o9 rfl rfl ?_
    refine am_Pn.bl 1 (y := (34, [some (.ref 9), some (.int x1), some (.int x2), some (.int x3), some (.int x4)], [.ref 9, .ref 14], sg_h (sg_uA (sg_uA s 12 ((s.1 9 2).toInt.toNat) x1) 13 ((s.1 9 2).toInt.toNat) x2), 0, 0)) rfl ?_
    refine am_Pn.gi (k := 2) rfl rfl am_o9 rfl rfl ?_
    refine am_Pn.bl 1 (y := (38, [some (.ref 9), some (.int x1), some (.int x2), some (.int x3), some (.int x4)], [.int x3, .int (s.1 9 2), .ref 14], sg_h (sg_uA (sg_uA s 12 ((s.1 9 2).toInt.toNat) x1) 13 ((s.1 9 2).toInt.toNat) x2), 0, 0)) rfl ?_
    refine am_Pn.is (a := 14) rfl rfl rfl (fun hi => ?_)
    refine am_Pn.bl 1 (y := (40, [some (.ref 9), some (.int x1), some (.int x2), some (.int x3), some (.int x4)], [.ref 9], sg_h (sg_uA (sg_uA (sg_uA s 12 ((s.1 9 2).toInt.toNat) x1) 13 ((s.1 9 2).toInt.toNat) x2) 14 ((s.1 9 2).toInt.toNat) x3), 0, 0)) rfl ?_
    refine am_Pn.gr (k := 11) rfl rfl am_o9 rfl rfl ?_
    refine am_Pn.bl 1 (y := (44, [some (.ref 9), some (.int x1), some (.int x2), some (.int x3), some (.int x4)], [.ref 9, .ref 15], sg_h (sg_uA (sg_uA (sg_uA s 12 ((s.1 9 2).toInt.toNat) x1) 13 ((s.1 9 2).toInt.toNat) x2) 14 ((s.1 9 2).toInt.toNat) x3), 0, 0)) rfl ?_
    refine am_Pn.gi (k := 2) rfl rfl am_o9 rfl rfl ?_
    refine am_Pn.bl 1 (y := (49, [some (.ref 9), some (.int x1), some (.int x2), some (.int x3), some (.int x4)], [.int x4, .int (s.1 9 2), .ref 15], sg_h (sg_uA (sg_uA (sg_uA s 12 ((s.1 9 2).toInt.toNat) x1) 13 ((s.1 9 2).toInt.toNat) x2) 14 ((s.1 9 2).toInt.toNat) x3), 0, 0)) rfl ?_
    refine am_Pn.is (a := 15) rfl rfl rfl (fun hi => ?_)
    refine am_Pn.bl 2 (y := (52, [some (.ref 9), some (.int x1), some (.int x2), some (.int x3), some (.int x4)], [.ref 9, .ref 9], sg_h (sg_uA (sg_uA (sg_uA (sg_uA s 12 ((s.1 9 2).toInt.toNat) x1) 13 ((s.1 9 2).toInt.toNat) x2) 14 ((s.1 9 2).toInt.toNat) x3) 15 ((s.1 9 2).toInt.toNat) x4), 0, 0)) rfl ?_
    refine am_Pn.gi (k := 2) rfl rfl am_o9 rfl rfl ?_
    refine am_Pn.bl 2 (y := (57, [some (.ref 9), some (.int x1), some (.int x2), some (.int x3), some (.int x4)], [.int ((s.1 9 2) + (Int32.ofInt (1))), .ref 9], sg_h (sg_uA (sg_uA (sg_uA (sg_uA s 12 ((s.1 9 2).toInt.toNat) x1) 13 ((s.1 9 2).toInt.toNat) x2) 14 ((s.1 9 2).toInt.toNat) x3) 15 ((s.1 9 2).toInt.toNat) x4), 0, 0)) rfl ?_
    refine am_Pn.pi (k := 2) rfl rfl am_o9 rfl rfl ?_
    exact am_Pn.rV h rfl
def wp_XRules_clear_9 (Ψ : sg_S → Prop) (s : sg_S) : Prop := (Ψ (sg_uI (sg_uI (sg_uI (sg_uI (sg_uI (sg_uI s 9 0 (Int32.ofInt (0))) 9 1 (Int32.ofInt (0))) 9 2 (Int32.ofInt (0))) 9 3 (Int32.ofInt (36))) 9 4 (Int32.ofInt (99))) 9 5 (Int32.ofInt (0))))
set_option maxRecDepth 100000 in
theorem wp_XRules_clear_9_ok {Ψ : sg_S → Prop} {s : sg_S} (h : wp_XRules_clear_9 Ψ  s) : am_SpV 64 [.ref 9] s Ψ := by
  refine am_SpV.mk (r := am_r64) rfl rfl (fun call d al n hcl => ?_)
  unfold wp_XRules_clear_9 at h
  refine am_Pn.bl 2 (y := (2, [some (.ref 9)], [.int (Int32.ofInt (0)), .ref 9], sg_h s, 0, 0)) rfl ?_
  refine am_Pn.pi (k := 0) rfl rfl am_o9 rfl rfl ?_
  refine am_Pn.bl 2 (y := (7, [some (.ref 9)], [.int (Int32.ofInt (0)), .ref 9], sg_h (sg_uI s 9 0 (Int32.ofInt (0))), 0, 0)) rfl ?_
  refine am_Pn.pi (k := 1) rfl rfl am_o9 rfl rfl ?_
  refine am_Pn.bl 2 (y := (12, [some (.ref 9)], [.int (Int32.ofInt (0)), .ref 9], sg_h (sg_uI (sg_uI s 9 0 (Int32.ofInt (0))) 9 1 (Int32.ofInt (0))), 0, 0)) rfl ?_
  refine am_Pn.pi (k := 2) rfl rfl am_o9 rfl rfl ?_
  refine am_Pn.bl 2 (y := (18, [some (.ref 9)], [.int (Int32.ofInt (36)), .ref 9], sg_h (sg_uI (sg_uI (sg_uI s 9 0 (Int32.ofInt (0))) 9 1 (Int32.ofInt (0))) 9 2 (Int32.ofInt (0))), 0, 0)) rfl ?_
  refine am_Pn.pi (k := 3) rfl rfl am_o9 rfl rfl ?_
  refine am_Pn.bl 2 (y := (24, [some (.ref 9)], [.int (Int32.ofInt (99)), .ref 9], sg_h (sg_uI (sg_uI (sg_uI (sg_uI s 9 0 (Int32.ofInt (0))) 9 1 (Int32.ofInt (0))) 9 2 (Int32.ofInt (0))) 9 3 (Int32.ofInt (36))), 0, 0)) rfl ?_
  refine am_Pn.pi (k := 4) rfl rfl am_o9 rfl rfl ?_
  refine am_Pn.bl 2 (y := (29, [some (.ref 9)], [.int (Int32.ofInt (0)), .ref 9], sg_h (sg_uI (sg_uI (sg_uI (sg_uI (sg_uI s 9 0 (Int32.ofInt (0))) 9 1 (Int32.ofInt (0))) 9 2 (Int32.ofInt (0))) 9 3 (Int32.ofInt (36))) 9 4 (Int32.ofInt (99))), 0, 0)) rfl ?_
  refine am_Pn.pi (k := 5) rfl rfl am_o9 rfl rfl ?_
  exact am_Pn.rV h rfl
def wp_XReader_readSign (Ψ : sg_S → Prop) (x1 : Int32) (s : sg_S) : Prop := (((s.1 8 5).toInt = (0) → (am_SpV 46 [.ref 8] s (fun s2 => (((s2.1 8 6).toInt = (4) → (((s2.1 8 8).toInt = x1.toInt → (Ψ s2)) ∧ (¬ (s2.1 8 8).toInt = x1.toInt → (am_SpV 52 [.ref 8, .int (Int32.ofInt (1))] s2 (fun s4 => (Ψ s4)))))) ∧ (¬ (s2.1 8 6).toInt = (4) → (am_SpV 52 [.ref 8, .int (Int32.ofInt (1))] s2 (fun s3 => (Ψ s3)))))))) ∧ (¬ (s.1 8 5).toInt = (0) → (Ψ s)))
set_option maxRecDepth 100000 in
theorem wp_XReader_readSign_ok {Ψ : sg_S → Prop} {x1 : Int32} {s : sg_S} (h : wp_XReader_readSign Ψ x1 s) : am_SpV 56 [.ref 8, .int x1] s Ψ := by
  refine am_SpV.mk (r := am_r56) rfl rfl (fun call d al n hcl => ?_)
  unfold wp_XReader_readSign at h
  refine am_Pn.bl 1 (y := (1, [some (.ref 8), some (.int x1)], [.ref 8], sg_h s, 0, 0)) rfl ?_
  refine am_Pn.gi (k := 5) rfl rfl am_o8 rfl rfl ?_
  refine am_Pn.zT h (am_beq rfl rfl) rfl rfl (fun h => ?_) (fun h => ?_)
  · refine am_Pn.bl 1 (y := (9, [some (.ref 8), some (.int x1)], [.ref 8], sg_h s, 0, 0)) rfl ?_
    refine am_Pn.cvV hcl h rfl rfl rfl rfl rfl (fun s2 h => ?_)
    refine am_Pn.bl 1 (y := (13, [some (.ref 8), some (.int x1)], [.ref 8], sg_h s2, 0, 0)) rfl ?_
    refine am_Pn.gi (k := 6) rfl rfl am_o8 rfl rfl ?_
    refine am_Pn.bl 1 (y := (17, [some (.ref 8), some (.int x1)], [.int (Int32.ofInt (4)), .int (s2.1 8 6)], sg_h s2, 0, 0)) rfl ?_
    refine am_Pn.bF h (am_bne rfl rfl) rfl rfl (fun h => ?_) (fun h => ?_)
    · refine am_Pn.bl 2 (y := (30, [some (.ref 8), some (.int x1)], [.int (Int32.ofInt (1)), .ref 8], sg_h s2, 0, 0)) rfl ?_
      refine am_Pn.cvV hcl h rfl rfl rfl rfl rfl (fun s3 h => ?_)
      exact am_Pn.rV h rfl
    · refine am_Pn.bl 1 (y := (21, [some (.ref 8), some (.int x1)], [.ref 8], sg_h s2, 0, 0)) rfl ?_
      refine am_Pn.gi (k := 8) rfl rfl am_o8 rfl rfl ?_
      refine am_Pn.bl 1 (y := (25, [some (.ref 8), some (.int x1)], [.int x1, .int (s2.1 8 8)], sg_h s2, 0, 0)) rfl ?_
      refine am_Pn.bT h (am_beq rfl rfl) rfl rfl (fun h => ?_) (fun h => ?_)
      · exact am_Pn.rV h rfl
      · refine am_Pn.bl 2 (y := (30, [some (.ref 8), some (.int x1)], [.int (Int32.ofInt (1)), .ref 8], sg_h s2, 0, 0)) rfl ?_
        refine am_Pn.cvV hcl h rfl rfl rfl rfl rfl (fun s4 h => ?_)
        exact am_Pn.rV h rfl
  · exact am_Pn.rV h rfl
def wp_XReader_readNumber (Ψ : Int32 → sg_S → Prop) (x1 : Int32) (x2 : Int32) (s : sg_S) : Prop := (((s.1 8 5).toInt = (0) → (am_SpV 46 [.ref 8] s (fun s3 => (((s3.1 8 6).toInt = (3) → (((s3.1 8 8).toInt < x1.toInt → (am_SpV 52 [.ref 8, .int (Int32.ofInt (5))] s3 (fun s4 => (Ψ (s4.1 8 8) s4)))) ∧ (¬ (s3.1 8 8).toInt < x1.toInt → ((x2.toInt < (s3.1 8 8).toInt → (am_SpV 52 [.ref 8, .int (Int32.ofInt (5))] s3 (fun s5 => (Ψ (s5.1 8 8) s5)))) ∧ (¬ x2.toInt < (s3.1 8 8).toInt → (Ψ (s3.1 8 8) s3)))))) ∧ (¬ (s3.1 8 6).toInt = (3) → (am_SpV 52 [.ref 8, .int (Int32.ofInt (1))] s3 (fun s6 => (Ψ (s6.1 8 8) s6)))))))) ∧ (¬ (s.1 8 5).toInt = (0) → (Ψ (Int32.ofInt (0)) s)))
set_option maxRecDepth 100000 in
theorem wp_XReader_readNumber_ok {Ψ : Int32 → sg_S → Prop} {x1 : Int32} {x2 : Int32} {s : sg_S} (h : wp_XReader_readNumber Ψ x1 x2 s) : am_SpI 55 [.ref 8, .int x1, .int x2] s Ψ := by
  refine am_SpI.mk (r := am_r55) rfl rfl (fun call d al n hcl => ?_)
  unfold wp_XReader_readNumber at h
  refine am_Pn.bl 1 (y := (1, [some (.ref 8), some (.int x1), some (.int x2)], [.ref 8], sg_h s, 0, 0)) rfl ?_
  refine am_Pn.gi (k := 5) rfl rfl am_o8 rfl rfl ?_
  refine am_Pn.zT h (am_beq rfl rfl) rfl rfl (fun h => ?_) (fun h => ?_)
  · refine am_Pn.bl 1 (y := (10, [some (.ref 8), some (.int x1), some (.int x2)], [.ref 8], sg_h s, 0, 0)) rfl ?_
    refine am_Pn.cvV hcl h rfl rfl rfl rfl rfl (fun s3 h => ?_)
    refine am_Pn.bl 1 (y := (14, [some (.ref 8), some (.int x1), some (.int x2)], [.ref 8], sg_h s3, 0, 0)) rfl ?_
    refine am_Pn.gi (k := 6) rfl rfl am_o8 rfl rfl ?_
    refine am_Pn.bl 1 (y := (18, [some (.ref 8), some (.int x1), some (.int x2)], [.int (Int32.ofInt (3)), .int (s3.1 8 6)], sg_h s3, 0, 0)) rfl ?_
    refine am_Pn.bT h (am_beq rfl rfl) rfl rfl (fun h => ?_) (fun h => ?_)
    · refine am_Pn.bl 1 (y := (30, [some (.ref 8), some (.int x1), some (.int x2)], [.ref 8], sg_h s3, 0, 0)) rfl ?_
      refine am_Pn.gi (k := 8) rfl rfl am_o8 rfl rfl ?_
      refine am_Pn.bl 1 (y := (34, [some (.ref 8), some (.int x1), some (.int x2)], [.int x1, .int (s3.1 8 8)], sg_h s3, 0, 0)) rfl ?_
      refine am_Pn.bT h (am_blt rfl rfl) rfl rfl (fun h => ?_) (fun h => ?_)
      · refine am_Pn.bl 2 (y := (47, [some (.ref 8), some (.int x1), some (.int x2)], [.int (Int32.ofInt (5)), .ref 8], sg_h s3, 0, 0)) rfl ?_
        refine am_Pn.cvV hcl h rfl rfl rfl rfl rfl (fun s4 h => ?_)
        refine am_Pn.bl 1 (y := (51, [some (.ref 8), some (.int x1), some (.int x2)], [.ref 8], sg_h s4, 0, 0)) rfl ?_
        refine am_Pn.gi (k := 8) rfl rfl am_o8 rfl rfl ?_
        exact am_Pn.rI h rfl
      · refine am_Pn.bl 1 (y := (38, [some (.ref 8), some (.int x1), some (.int x2)], [.ref 8], sg_h s3, 0, 0)) rfl ?_
        refine am_Pn.gi (k := 8) rfl rfl am_o8 rfl rfl ?_
        refine am_Pn.bl 1 (y := (42, [some (.ref 8), some (.int x1), some (.int x2)], [.int x2, .int (s3.1 8 8)], sg_h s3, 0, 0)) rfl ?_
        refine am_Pn.bF h (am_ble rfl rfl) rfl rfl (fun h => ?_) (fun h => ?_)
        · refine am_Pn.bl 1 (y := (51, [some (.ref 8), some (.int x1), some (.int x2)], [.ref 8], sg_h s3, 0, 0)) rfl ?_
          refine am_Pn.gi (k := 8) rfl rfl am_o8 rfl rfl ?_
          exact am_Pn.rI h rfl
        · refine am_Pn.bl 2 (y := (47, [some (.ref 8), some (.int x1), some (.int x2)], [.int (Int32.ofInt (5)), .ref 8], sg_h s3, 0, 0)) rfl ?_
          refine am_Pn.cvV hcl h rfl rfl rfl rfl rfl (fun s5 h => ?_)
          refine am_Pn.bl 1 (y := (51, [some (.ref 8), some (.int x1), some (.int x2)], [.ref 8], sg_h s5, 0, 0)) rfl ?_
          refine am_Pn.gi (k := 8) rfl rfl am_o8 rfl rfl ?_
          exact am_Pn.rI h rfl
    · refine am_Pn.bl 2 (y := (23, [some (.ref 8), some (.int x1), some (.int x2)], [.int (Int32.ofInt (1)), .ref 8], sg_h s3, 0, 0)) rfl ?_
      refine am_Pn.cvV hcl h rfl rfl rfl rfl rfl (fun s6 h => ?_)
      refine am_Pn.bl 2 (y := (51, [some (.ref 8), some (.int x1), some (.int x2)], [.ref 8], sg_h s6, 0, 0)) rfl ?_
      refine am_Pn.gi (k := 8) rfl rfl am_o8 rfl rfl ?_
      exact am_Pn.rI h rfl
  · refine am_Pn.bl 1 (y := (8, [some (.ref 8), some (.int x1), some (.int x2)], [.int (Int32.ofInt (0))], sg_h s, 0, 0)) rfl ?_
    exact am_Pn.rI h rfl
def wp_XReader_readNewName (Ψ : Int64 → sg_S → Prop) (s : sg_S) : Prop := (((s.1 8 5).toInt = (0) → (am_SpV 46 [.ref 8] s (fun s1 => (((s1.1 8 6).toInt = (2) → (am_SpI 65 [.ref 9, .long (s1.2.1 8 9)] s1 (fun x2 s2 => ((x2.toInt = (-1) → (Ψ (s2.2.1 8 9) s2)) ∧ (¬ x2.toInt = (-1) → (am_SpV 52 [.ref 8, .int (Int32.ofInt (3))] s2 (fun s3 => (Ψ (s3.2.1 8 9) s3)))))))) ∧ (¬ (s1.1 8 6).toInt = (2) → (am_SpV 52 [.ref 8, .int (Int32.ofInt (1))] s1 (fun s4 => (Ψ (s4.2.1 8 9) s4)))))))) ∧ (¬ (s.1 8 5).toInt = (0) → (Ψ (Int64.ofNat 0) s)))
set_option maxRecDepth 100000 in
theorem wp_XReader_readNewName_ok {Ψ : Int64 → sg_S → Prop} {s : sg_S} (h : wp_XReader_readNewName Ψ  s) : am_SpL 60 [.ref 8] s Ψ := by
  refine am_SpL.mk (r := am_r60) rfl rfl (fun call d al n hcl => ?_)
  unfold wp_XReader_readNewName at h
  refine am_Pn.bl 1 (y := (1, [some (.ref 8)], [.ref 8], sg_h s, 0, 0)) rfl ?_
  refine am_Pn.gi (k := 5) rfl rfl am_o8 rfl rfl ?_
  refine am_Pn.zT h (am_beq rfl rfl) rfl rfl (fun h => ?_) (fun h => ?_)
  · refine am_Pn.bl 1 (y := (10, [some (.ref 8)], [.ref 8], sg_h s, 0, 0)) rfl ?_
    refine am_Pn.cvV hcl h rfl rfl rfl rfl rfl (fun s1 h => ?_)
    refine am_Pn.bl 1 (y := (14, [some (.ref 8)], [.ref 8], sg_h s1, 0, 0)) rfl ?_
    refine am_Pn.gi (k := 6) rfl rfl am_o8 rfl rfl ?_
    refine am_Pn.bl 1 (y := (18, [some (.ref 8)], [.int (Int32.ofInt (2)), .int (s1.1 8 6)], sg_h s1, 0, 0)) rfl ?_
    refine am_Pn.bT h (am_beq rfl rfl) rfl rfl (fun h => ?_) (fun h => ?_)
    · refine am_Pn.bl 1 (y := (30, [some (.ref 8)], [.ref 8], sg_h s1, 0, 0)) rfl ?_
      refine am_Pn.gr (k := 0) rfl rfl am_o8 rfl rfl ?_
      refine am_Pn.bl 1 (y := (34, [some (.ref 8)], [.ref 8, .ref 9], sg_h s1, 0, 0)) rfl ?_
      refine am_Pn.gl (k := 9) rfl rfl am_o8 rfl rfl ?_
      refine am_Pn.cvI hcl h rfl rfl rfl rfl rfl (fun x2 s2 h => ?_)
      refine am_Pn.bl 1 (y := (41, [some (.ref 8)], [.int (Int32.ofInt (-1)), .int x2], sg_h s2, 0, 0)) rfl ?_
      refine am_Pn.bT h (am_beq rfl rfl) rfl rfl (fun h => ?_) (fun h => ?_)
      · refine am_Pn.bl 1 (y := (50, [some (.ref 8)], [.ref 8], sg_h s2, 0, 0)) rfl ?_
        refine am_Pn.gl (k := 9) rfl rfl am_o8 rfl rfl ?_
        exact am_Pn.rL h rfl
      · refine am_Pn.bl 2 (y := (46, [some (.ref 8)], [.int (Int32.ofInt (3)), .ref 8], sg_h s2, 0, 0)) rfl ?_
        refine am_Pn.cvV hcl h rfl rfl rfl rfl rfl (fun s3 h => ?_)
        refine am_Pn.bl 1 (y := (50, [some (.ref 8)], [.ref 8], sg_h s3, 0, 0)) rfl ?_
        refine am_Pn.gl (k := 9) rfl rfl am_o8 rfl rfl ?_
        exact am_Pn.rL h rfl
    · refine am_Pn.bl 2 (y := (23, [some (.ref 8)], [.int (Int32.ofInt (1)), .ref 8], sg_h s1, 0, 0)) rfl ?_
      refine am_Pn.cvV hcl h rfl rfl rfl rfl rfl (fun s4 h => ?_)
      refine am_Pn.bl 2 (y := (50, [some (.ref 8)], [.ref 8], sg_h s4, 0, 0)) rfl ?_
      refine am_Pn.gl (k := 9) rfl rfl am_o8 rfl rfl ?_
      exact am_Pn.rL h rfl
  · refine am_Pn.bl 1 (y := (8, [some (.ref 8)], [.long (Int64.ofNat 0)], sg_h s, 0, 0)) rfl ?_
    exact am_Pn.rL h rfl
def wp_XReader_readToldName (Ψ : Int32 → sg_S → Prop) (s : sg_S) : Prop := (((s.1 8 5).toInt = (0) → (am_SpV 46 [.ref 8] s (fun s1 => (((s1.1 8 6).toInt = (2) → (am_SpI 65 [.ref 9, .long (s1.2.1 8 9)] s1 (fun x4 s4 => (((s4.1 8 6).toInt = (2) → ((x4.toInt = (-1) → (am_SpV 52 [.ref 8, .int (Int32.ofInt (4))] s4 (fun s5 => (Ψ x4 s5)))) ∧ (¬ x4.toInt = (-1) → (Ψ x4 s4)))) ∧ (¬ (s4.1 8 6).toInt = (2) → (am_SpV 52 [.ref 8, .int (Int32.ofInt (1))] s4 (fun s6 => (Ψ x4 s6)))))))) ∧ (¬ (s1.1 8 6).toInt = (2) → (((s1.1 8 6).toInt = (2) → (((0) = (-1) → (am_SpV 52 [.ref 8, .int (Int32.ofInt (4))] s1 (fun s2 => (Ψ (Int32.ofInt (0)) s2)))) ∧ (¬ (0) = (-1) → (Ψ (Int32.ofInt (0)) s1)))) ∧ (¬ (s1.1 8 6).toInt = (2) → (am_SpV 52 [.ref 8, .int (Int32.ofInt (1))] s1 (fun s3 => (Ψ (Int32.ofInt (0)) s3)))))))))) ∧ (¬ (s.1 8 5).toInt = (0) → (Ψ (Int32.ofInt (0)) s)))
set_option maxRecDepth 100000 in
theorem wp_XReader_readToldName_ok {Ψ : Int32 → sg_S → Prop} {s : sg_S} (h : wp_XReader_readToldName Ψ  s) : am_SpI 57 [.ref 8] s Ψ := by
  refine am_SpI.mk (r := am_r57) rfl rfl (fun call d al n hcl => ?_)
  unfold wp_XReader_readToldName at h
  refine am_Pn.bl 1 (y := (1, [some (.ref 8), none], [.ref 8], sg_h s, 0, 0)) rfl ?_
  refine am_Pn.gi (k := 5) rfl rfl am_o8 rfl rfl ?_
  refine am_Pn.zT h (am_beq rfl rfl) rfl rfl (fun h => ?_) (fun h => ?_)
  · refine am_Pn.bl 1 (y := (10, [some (.ref 8), none], [.ref 8], sg_h s, 0, 0)) rfl ?_
    refine am_Pn.cvV hcl h rfl rfl rfl rfl rfl (fun s1 h => ?_)
    refine am_Pn.bl 1 (y := (14, [some (.ref 8), none], [.ref 8], sg_h s1, 0, 0)) rfl ?_
    refine am_Pn.gi (k := 6) rfl rfl am_o8 rfl rfl ?_
    refine am_Pn.bl 1 (y := (18, [some (.ref 8), none], [.int (Int32.ofInt (2)), .int (s1.1 8 6)], sg_h s1, 0, 0)) rfl ?_
    refine am_Pn.bF h (am_bne rfl rfl) rfl rfl (fun h => ?_) (fun h => ?_)
    · refine am_Pn.bl 3 (y := (38, [some (.ref 8), some (.int (Int32.ofInt (0)))], [.ref 8], sg_h s1, 0, 0)) rfl ?_
      refine am_Pn.gi (k := 6) rfl rfl am_o8 rfl rfl ?_
      refine am_Pn.bl 1 (y := (42, [some (.ref 8), some (.int (Int32.ofInt (0)))], [.int (Int32.ofInt (2)), .int (s1.1 8 6)], sg_h s1, 0, 0)) rfl ?_
      refine am_Pn.bT h (am_beq rfl rfl) rfl rfl (fun h => ?_) (fun h => ?_)
      · refine am_Pn.bl 2 (y := (55, [some (.ref 8), some (.int (Int32.ofInt (0)))], [.int (Int32.ofInt (-1)), .int (Int32.ofInt (0))], sg_h s1, 0, 0)) rfl ?_
        refine am_Pn.bF h (am_bne rfl rfl) rfl rfl (fun h => ?_) (fun h => ?_)
        · refine am_Pn.bl 1 (y := (64, [some (.ref 8), some (.int (Int32.ofInt (0)))], [.int (Int32.ofInt (0))], sg_h s1, 0, 0)) rfl ?_
          exact am_Pn.rI h rfl
        · refine am_Pn.bl 2 (y := (60, [some (.ref 8), some (.int (Int32.ofInt (0)))], [.int (Int32.ofInt (4)), .ref 8], sg_h s1, 0, 0)) rfl ?_
          refine am_Pn.cvV hcl h rfl rfl rfl rfl rfl (fun s2 h => ?_)
          refine am_Pn.bl 1 (y := (64, [some (.ref 8), some (.int (Int32.ofInt (0)))], [.int (Int32.ofInt (0))], sg_h s2, 0, 0)) rfl ?_
          exact am_Pn.rI h rfl
      · refine am_Pn.bl 2 (y := (47, [some (.ref 8), some (.int (Int32.ofInt (0)))], [.int (Int32.ofInt (1)), .ref 8], sg_h s1, 0, 0)) rfl ?_
        refine am_Pn.cvV hcl h rfl rfl rfl rfl rfl (fun s3 h => ?_)
        refine am_Pn.bl 2 (y := (64, [some (.ref 8), some (.int (Int32.ofInt (0)))], [.int (Int32.ofInt (0))], sg_h s3, 0, 0)) rfl ?_
        exact am_Pn.rI h rfl
    · refine am_Pn.bl 1 (y := (22, [some (.ref 8), none], [.ref 8], sg_h s1, 0, 0)) rfl ?_
      refine am_Pn.gr (k := 0) rfl rfl am_o8 rfl rfl ?_
      refine am_Pn.bl 1 (y := (26, [some (.ref 8), none], [.ref 8, .ref 9], sg_h s1, 0, 0)) rfl ?_
      refine am_Pn.gl (k := 9) rfl rfl am_o8 rfl rfl ?_
      refine am_Pn.cvI hcl h rfl rfl rfl rfl rfl (fun x4 s4 h => ?_)
      refine am_Pn.bl 3 (y := (38, [some (.ref 8), some (.int x4)], [.ref 8], sg_h s4, 0, 0)) rfl ?_
      refine am_Pn.gi (k := 6) rfl rfl am_o8 rfl rfl ?_
      refine am_Pn.bl 1 (y := (42, [some (.ref 8), some (.int x4)], [.int (Int32.ofInt (2)), .int (s4.1 8 6)], sg_h s4, 0, 0)) rfl ?_
      refine am_Pn.bT h (am_beq rfl rfl) rfl rfl (fun h => ?_) (fun h => ?_)
      · refine am_Pn.bl 2 (y := (55, [some (.ref 8), some (.int x4)], [.int (Int32.ofInt (-1)), .int x4], sg_h s4, 0, 0)) rfl ?_
        refine am_Pn.bF h (am_bne rfl rfl) rfl rfl (fun h => ?_) (fun h => ?_)
        · refine am_Pn.bl 1 (y := (64, [some (.ref 8), some (.int x4)], [.int x4], sg_h s4, 0, 0)) rfl ?_
          exact am_Pn.rI h rfl
        · refine am_Pn.bl 2 (y := (60, [some (.ref 8), some (.int x4)], [.int (Int32.ofInt (4)), .ref 8], sg_h s4, 0, 0)) rfl ?_
          refine am_Pn.cvV hcl h rfl rfl rfl rfl rfl (fun s5 h => ?_)
          refine am_Pn.bl 1 (y := (64, [some (.ref 8), some (.int x4)], [.int x4], sg_h s5, 0, 0)) rfl ?_
          exact am_Pn.rI h rfl
      · refine am_Pn.bl 2 (y := (47, [some (.ref 8), some (.int x4)], [.int (Int32.ofInt (1)), .ref 8], sg_h s4, 0, 0)) rfl ?_
        refine am_Pn.cvV hcl h rfl rfl rfl rfl rfl (fun s6 h => ?_)
        refine am_Pn.bl 2 (y := (64, [some (.ref 8), some (.int x4)], [.int x4], sg_h s6, 0, 0)) rfl ?_
        exact am_Pn.rI h rfl
  · refine am_Pn.bl 1 (y := (8, [some (.ref 8), none], [.int (Int32.ofInt (0))], sg_h s, 0, 0)) rfl ?_
    exact am_Pn.rI h rfl
