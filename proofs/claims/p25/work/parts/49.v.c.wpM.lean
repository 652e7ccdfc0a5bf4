/-! ===== what M's reader asks (printed by wip/ab/vg_read.py) ===== -/
def wp_M_isSmall (Ψ : Int32 → sg_S → Prop) (s : sg_S) : Prop := (((s.1 64 3).toInt < (s.1 64 2).toInt → (0 ≤ (s.1 64 3).toInt → (s.1 64 3).toInt < (600) → (((s.2.2.1 65 ((s.1 64 3).toInt.toNat)).toInt < (97) → (Ψ (Int32.ofInt (0)) s)) ∧ (¬ (s.2.2.1 65 ((s.1 64 3).toInt.toNat)).toInt < (97) → (((122) < (s.2.2.1 65 ((s.1 64 3).toInt.toNat)).toInt → (Ψ (Int32.ofInt (0)) s)) ∧ (¬ (122) < (s.2.2.1 65 ((s.1 64 3).toInt.toNat)).toInt → (Ψ (Int32.ofInt (1)) s))))))) ∧ (¬ (s.1 64 3).toInt < (s.1 64 2).toInt → (Ψ (Int32.ofInt (0)) s)))
set_option maxRecDepth 100000 in
theorem wp_M_isSmall_ok {Ψ : Int32 → sg_S → Prop} {s : sg_S} (h : wp_M_isSmall Ψ  s) : am_SpI 153 [.ref 64] s Ψ := by
  refine am_SpI.mk (r := am_r153) rfl rfl (fun call d al n hcl => ?_)
  unfold wp_M_isSmall at h
  refine am_Pn.bl 1 (y := (1, [some (.ref 64)], [.ref 64], sg_h s, 0, 0)) rfl ?_
  refine am_Pn.gi (k := 3) rfl rfl am_o64 rfl rfl ?_
  refine am_Pn.bl 1 (y := (5, [some (.ref 64)], [.ref 64, .int (s.1 64 3)], sg_h s, 0, 0)) rfl ?_
  refine am_Pn.gi (k := 2) rfl rfl am_o64 rfl rfl ?_
  refine am_Pn.bF h (am_bge rfl rfl) rfl rfl (fun h => ?_) (fun h => ?_)
  · refine am_Pn.bl 1 (y := (44, [some (.ref 64)], [.int (Int32.ofInt (0))], sg_h s, 0, 0)) rfl ?_
    exact am_Pn.rI h rfl
  · refine am_Pn.bl 1 (y := (12, [some (.ref 64)], [.ref 64], sg_h s, 0, 0)) rfl ?_
    refine am_Pn.gr (k := 1) rfl rfl am_o64 rfl rfl ?_
    refine am_Pn.bl 1 (y := (16, [some (.ref 64)], [.ref 64, .ref 65], sg_h s, 0, 0)) rfl ?_
    refine am_Pn.gi (k := 3) rfl rfl am_o64 rfl rfl ?_
    refine am_Pn.ba (a := 65) rfl rfl rfl rfl (fun hi => ?_)
    replace h := h (am_in0 hi) (am_in1 hi)
    refine am_Pn.bl 1 (y := (22, [some (.ref 64)], [.int (Int32.ofInt (97)), .int (s.2.2.1 65 ((s.1 64 3).toInt.toNat))], sg_h s, 0, 0)) rfl ?_
    refine am_Pn.bT h (am_blt rfl rfl) rfl rfl (fun h => ?_) (fun h => ?_)
    · refine am_Pn.bl 1 (y := (44, [some (.ref 64)], [.int (Int32.ofInt (0))], sg_h s, 0, 0)) rfl ?_
      exact am_Pn.rI h rfl
    · refine am_Pn.bl 1 (y := (26, [some (.ref 64)], [.ref 64], sg_h s, 0, 0)) rfl ?_
      refine am_Pn.gr (k := 1) rfl rfl am_o64 rfl rfl ?_
      refine am_Pn.bl 1 (y := (30, [some (.ref 64)], [.ref 64, .ref 65], sg_h s, 0, 0)) rfl ?_
      refine am_Pn.gi (k := 3) rfl rfl am_o64 rfl rfl ?_
      refine am_Pn.ba (a := 65) rfl rfl rfl rfl (fun hi => ?_)
      refine am_Pn.bl 1 (y := (36, [some (.ref 64)], [.int (Int32.ofInt (122)), .int (s.2.2.1 65 ((s.1 64 3).toInt.toNat))], sg_h s, 0, 0)) rfl ?_
      refine am_Pn.bT h (am_bgt rfl rfl) rfl rfl (fun h => ?_) (fun h => ?_)
      · refine am_Pn.bl 1 (y := (44, [some (.ref 64)], [.int (Int32.ofInt (0))], sg_h s, 0, 0)) rfl ?_
        exact am_Pn.rI h rfl
      · refine am_Pn.bl 2 (y := (44, [some (.ref 64)], [.int (Int32.ofInt (1))], sg_h s, 0, 0)) rfl ?_
        exact am_Pn.rI h rfl
def wp_M_isDigit (Ψ : Int32 → sg_S → Prop) (s : sg_S) : Prop := (((s.1 64 3).toInt < (s.1 64 2).toInt → (0 ≤ (s.1 64 3).toInt → (s.1 64 3).toInt < (600) → (((s.2.2.1 65 ((s.1 64 3).toInt.toNat)).toInt < (48) → (Ψ (Int32.ofInt (0)) s)) ∧ (¬ (s.2.2.1 65 ((s.1 64 3).toInt.toNat)).toInt < (48) → (((57) < (s.2.2.1 65 ((s.1 64 3).toInt.toNat)).toInt → (Ψ (Int32.ofInt (0)) s)) ∧ (¬ (57) < (s.2.2.1 65 ((s.1 64 3).toInt.toNat)).toInt → (Ψ (Int32.ofInt (1)) s))))))) ∧ (¬ (s.1 64 3).toInt < (s.1 64 2).toInt → (Ψ (Int32.ofInt (0)) s)))
set_option maxRecDepth 100000 in
theorem wp_M_isDigit_ok {Ψ : Int32 → sg_S → Prop} {s : sg_S} (h : wp_M_isDigit Ψ  s) : am_SpI 154 [.ref 64] s Ψ := by
  refine am_SpI.mk (r := am_r154) rfl rfl (fun call d al n hcl => ?_)
  unfold wp_M_isDigit at h
  refine am_Pn.bl 1 (y := (1, [some (.ref 64)], [.ref 64], sg_h s, 0, 0)) rfl ?_
  refine am_Pn.gi (k := 3) rfl rfl am_o64 rfl rfl ?_
  refine am_Pn.bl 1 (y := (5, [some (.ref 64)], [.ref 64, .int (s.1 64 3)], sg_h s, 0, 0)) rfl ?_
  refine am_Pn.gi (k := 2) rfl rfl am_o64 rfl rfl ?_
  refine am_Pn.bF h (am_bge rfl rfl) rfl rfl (fun h => ?_) (fun h => ?_)
  · refine am_Pn.bl 1 (y := (44, [some (.ref 64)], [.int (Int32.ofInt (0))], sg_h s, 0, 0)) rfl ?_
    exact am_Pn.rI h rfl
  · refine am_Pn.bl 1 (y := (12, [some (.ref 64)], [.ref 64], sg_h s, 0, 0)) rfl ?_
    refine am_Pn.gr (k := 1) rfl rfl am_o64 rfl rfl ?_
    refine am_Pn.bl 1 (y := (16, [some (.ref 64)], [.ref 64, .ref 65], sg_h s, 0, 0)) rfl ?_
    refine am_Pn.gi (k := 3) rfl rfl am_o64 rfl rfl ?_
    refine am_Pn.ba (a := 65) rfl rfl rfl rfl (fun hi => ?_)
    replace h := h (am_in0 hi) (am_in1 hi)
    refine am_Pn.bl 1 (y := (22, [some (.ref 64)], [.int (Int32.ofInt (48)), .int (s.2.2.1 65 ((s.1 64 3).toInt.toNat))], sg_h s, 0, 0)) rfl ?_
    refine am_Pn.bT h (am_blt rfl rfl) rfl rfl (fun h => ?_) (fun h => ?_)
    · refine am_Pn.bl 1 (y := (44, [some (.ref 64)], [.int (Int32.ofInt (0))], sg_h s, 0, 0)) rfl ?_
      exact am_Pn.rI h rfl
    · refine am_Pn.bl 1 (y := (26, [some (.ref 64)], [.ref 64], sg_h s, 0, 0)) rfl ?_
      refine am_Pn.gr (k := 1) rfl rfl am_o64 rfl rfl ?_
      refine am_Pn.bl 1 (y := (30, [some (.ref 64)], [.ref 64, .ref 65], sg_h s, 0, 0)) rfl ?_
      refine am_Pn.gi (k := 3) rfl rfl am_o64 rfl rfl ?_
      refine am_Pn.ba (a := 65) rfl rfl rfl rfl (fun hi => ?_)
      refine am_Pn.bl 1 (y := (36, [some (.ref 64)], [.int (Int32.ofInt (57)), .int (s.2.2.1 65 ((s.1 64 3).toInt.toNat))], sg_h s, 0, 0)) rfl ?_
      refine am_Pn.bT h (am_bgt rfl rfl) rfl rfl (fun h => ?_) (fun h => ?_)
      · refine am_Pn.bl 1 (y := (44, [some (.ref 64)], [.int (Int32.ofInt (0))], sg_h s, 0, 0)) rfl ?_
        exact am_Pn.rI h rfl
      · refine am_Pn.bl 2 (y := (44, [some (.ref 64)], [.int (Int32.ofInt (1))], sg_h s, 0, 0)) rfl ?_
        exact am_Pn.rI h rfl
def wp_M_next_0 (I0 :  sg_S → Prop) (I52 :  sg_S → Prop) (I189 :  sg_S → Prop) (I91 :  sg_S → Prop) (Ψ : sg_S → Prop) (s : sg_S) : Prop := (((s.1 64 3).toInt < (s.1 64 2).toInt → (0 ≤ (s.1 64 3).toInt → (s.1 64 3).toInt < (600) → (((s.2.2.1 65 ((s.1 64 3).toInt.toNat)).toInt = (32) → (I0 (sg_uI s 64 3 ((s.1 64 3) + (Int32.ofInt (1)))))) ∧ (¬ (s.2.2.1 65 ((s.1 64 3).toInt.toNat)).toInt = (32) → (((s.2.2.1 65 ((s.1 64 3).toInt.toNat)).toInt = (10) → (I0 (sg_uI s 64 3 ((s.1 64 3) + (Int32.ofInt (1)))))) ∧ (¬ (s.2.2.1 65 ((s.1 64 3).toInt.toNat)).toInt = (10) → (I52 s))))))) ∧ (¬ (s.1 64 3).toInt < (s.1 64 2).toInt → (I52 s)))
def wp_M_next_52 (I0 :  sg_S → Prop) (I52 :  sg_S → Prop) (I189 :  sg_S → Prop) (I91 :  sg_S → Prop) (Ψ : sg_S → Prop) (s : sg_S) : Prop := (((s.1 64 3).toInt = (s.1 64 2).toInt → (Ψ (sg_uI (sg_uL (sg_uI s 64 4 (s.1 64 3)) 64 8 (Int64.ofNat 0)) 64 5 (Int32.ofInt (0))))) ∧ (¬ (s.1 64 3).toInt = (s.1 64 2).toInt → (am_SpI 153 [.ref 64] (sg_uL (sg_uI s 64 4 (s.1 64 3)) 64 8 (Int64.ofNat 0)) (fun x1 s1 => ((x1.toInt = (0) → (am_SpI 154 [.ref 64] s1 (fun x2 s2 => ((x2.toInt = (0) → (0 ≤ (s2.1 64 3).toInt → (s2.1 64 3).toInt < (600) → (((s2.2.2.1 65 ((s2.1 64 3).toInt.toNat)).toInt64 = Int64.ofInt (59) → (Ψ (sg_uI (sg_uI (sg_uL s2 64 8 ((s2.2.2.1 65 ((s2.1 64 3).toInt.toNat)).toInt64)) 64 5 (Int32.ofInt (3))) 64 3 ((s2.1 64 3) + (Int32.ofInt (1)))))) ∧ (¬ (s2.2.2.1 65 ((s2.1 64 3).toInt.toNat)).toInt64 = Int64.ofInt (59) → (((s2.2.2.1 65 ((s2.1 64 3).toInt.toNat)).toInt64 = Int64.ofInt (61) → (Ψ (sg_uI (sg_uI (sg_uL s2 64 8 ((s2.2.2.1 65 ((s2.1 64 3).toInt.toNat)).toInt64)) 64 5 (Int32.ofInt (3))) 64 3 ((s2.1 64 3) + (Int32.ofInt (1)))))) ∧ (¬ (s2.2.2.1 65 ((s2.1 64 3).toInt.toNat)).toInt64 = Int64.ofInt (61) → (((s2.2.2.1 65 ((s2.1 64 3).toInt.toNat)).toInt64 = Int64.ofInt (44) → (Ψ (sg_uI (sg_uI (sg_uL s2 64 8 ((s2.2.2.1 65 ((s2.1 64 3).toInt.toNat)).toInt64)) 64 5 (Int32.ofInt (3))) 64 3 ((s2.1 64 3) + (Int32.ofInt (1)))))) ∧ (¬ (s2.2.2.1 65 ((s2.1 64 3).toInt.toNat)).toInt64 = Int64.ofInt (44) → (((s2.2.2.1 65 ((s2.1 64 3).toInt.toNat)).toInt64 = Int64.ofInt (45) → (Ψ (sg_uI (sg_uI (sg_uL s2 64 8 ((s2.2.2.1 65 ((s2.1 64 3).toInt.toNat)).toInt64)) 64 5 (Int32.ofInt (3))) 64 3 ((s2.1 64 3) + (Int32.ofInt (1)))))) ∧ (¬ (s2.2.2.1 65 ((s2.1 64 3).toInt.toNat)).toInt64 = Int64.ofInt (45) → (Ψ (sg_uI (sg_uI (sg_uL s2 64 8 ((s2.2.2.1 65 ((s2.1 64 3).toInt.toNat)).toInt64)) 64 5 (Int32.ofInt (4))) 64 3 ((s2.1 64 3) + (Int32.ofInt (1))))))))))))))) ∧ (¬ x2.toInt = (0) → (I189 s2)))))) ∧ (¬ x1.toInt = (0) → (I91 s1)))))))
def wp_M_next_189 (I0 :  sg_S → Prop) (I52 :  sg_S → Prop) (I189 :  sg_S → Prop) (I91 :  sg_S → Prop) (Ψ : sg_S → Prop) (s : sg_S) : Prop := (am_SpI 154 [.ref 64] s (fun x3 s3 => ((x3.toInt = (0) → (((3) < ((s3.1 64 3) - (s3.1 64 4)).toInt → (Ψ (sg_uI s3 64 5 (Int32.ofInt (4))))) ∧ (¬ (3) < ((s3.1 64 3) - (s3.1 64 4)).toInt → (Ψ (sg_uI s3 64 5 (Int32.ofInt (2))))))) ∧ (¬ x3.toInt = (0) → ((((s3.1 64 3) - (s3.1 64 4)).toInt < (3) → (0 ≤ (s3.1 64 3).toInt → (s3.1 64 3).toInt < (600) → (I189 (sg_uI (sg_uL s3 64 8 ((((Int64.ofInt (10)) * (s3.2.1 64 8)) + ((s3.2.2.1 65 ((s3.1 64 3).toInt.toNat)).toInt64)) - (Int64.ofInt (48)))) 64 3 ((s3.1 64 3) + (Int32.ofInt (1))))))) ∧ (¬ ((s3.1 64 3) - (s3.1 64 4)).toInt < (3) → (I189 (sg_uI (sg_uL s3 64 8 (Int64.ofNat 0)) 64 3 ((s3.1 64 3) + (Int32.ofInt (1)))))))))))
def wp_M_next_91 (I0 :  sg_S → Prop) (I52 :  sg_S → Prop) (I189 :  sg_S → Prop) (I91 :  sg_S → Prop) (Ψ : sg_S → Prop) (s : sg_S) : Prop := (am_SpI 153 [.ref 64] s (fun x4 s4 => ((x4.toInt = (0) → (((8) < ((s4.1 64 3) - (s4.1 64 4)).toInt → (Ψ (sg_uI s4 64 5 (Int32.ofInt (4))))) ∧ (¬ (8) < ((s4.1 64 3) - (s4.1 64 4)).toInt → (Ψ (sg_uI s4 64 5 (Int32.ofInt (1))))))) ∧ (¬ x4.toInt = (0) → ((((s4.1 64 3) - (s4.1 64 4)).toInt < (8) → (0 ≤ (s4.1 64 3).toInt → (s4.1 64 3).toInt < (600) → (I91 (sg_uI (sg_uL s4 64 8 ((((Int64.ofInt (27)) * (s4.2.1 64 8)) + ((s4.2.2.1 65 ((s4.1 64 3).toInt.toNat)).toInt64)) - (Int64.ofInt (96)))) 64 3 ((s4.1 64 3) + (Int32.ofInt (1))))))) ∧ (¬ ((s4.1 64 3) - (s4.1 64 4)).toInt < (8) → (I91 (sg_uI (sg_uL s4 64 8 (Int64.ofNat 0)) 64 3 ((s4.1 64 3) + (Int32.ofInt (1)))))))))))
def wp_M_next (I0 :  sg_S → Prop) (I52 :  sg_S → Prop) (I189 :  sg_S → Prop) (I91 :  sg_S → Prop) (Ψ : sg_S → Prop) (s : sg_S) : Prop := (I0 s)
set_option maxRecDepth 100000 in
theorem wp_M_next_ok {I0 :  sg_S → Prop} {I52 :  sg_S → Prop} {I189 :  sg_S → Prop} {I91 :  sg_S → Prop} {Ψ : sg_S → Prop} {s : sg_S} (k0 : ∀ (s : sg_S), I0  s → wp_M_next_0 I0 I52 I189 I91 Ψ   s) (k52 : ∀ (s : sg_S), I52  s → wp_M_next_52 I0 I52 I189 I91 Ψ   s) (k189 : ∀ (s : sg_S), I189  s → wp_M_next_189 I0 I52 I189 I91 Ψ   s) (k91 : ∀ (s : sg_S), I91  s → wp_M_next_91 I0 I52 I189 I91 Ψ   s) (h : wp_M_next I0 I52 I189 I91 Ψ  s) : am_SpV 152 [.ref 64] s Ψ := by
  refine am_SpV.mk (r := am_r152) rfl rfl (fun call d al n hcl => ?_)
  have key : ∀ n, (∀ (s : sg_S), I0  s → am_Pn call d (0, fun _ => 0) al am_r152 (am_PhV am_r152 Ψ) n (0, [some (.ref 64)], [], sg_h s, 0, 0)) ∧ (∀ (s : sg_S), I52  s → am_Pn call d (0, fun _ => 0) al am_r152 (am_PhV am_r152 Ψ) n (52, [some (.ref 64)], [], sg_h s, 0, 0)) ∧ (∀ (s : sg_S), I189  s → am_Pn call d (0, fun _ => 0) al am_r152 (am_PhV am_r152 Ψ) n (189, [some (.ref 64)], [], sg_h s, 0, 0)) ∧ (∀ (s : sg_S), I91  s → am_Pn call d (0, fun _ => 0) al am_r152 (am_PhV am_r152 Ψ) n (91, [some (.ref 64)], [], sg_h s, 0, 0)) := by
    intro n
    induction n with
    | zero => exact ⟨fun _ _ => am_Pn.zero, fun _ _ => am_Pn.zero, fun _ _ => am_Pn.zero, fun _ _ => am_Pn.zero⟩
    | succ n ih =>
      refine ⟨?_, ?_, ?_, ?_⟩
      · intro  s h
        replace h := k0  s h
        unfold wp_M_next_0 at h
        refine am_Pn.bl1 0 (y := (1, [some (.ref 64)], [.ref 64], sg_h s, 0, 0)) rfl ?_
        refine am_Pn.gi (k := 3) rfl rfl am_o64 rfl rfl ?_
        refine am_Pn.bl 1 (y := (5, [some (.ref 64)], [.ref 64, .int (s.1 64 3)], sg_h s, 0, 0)) rfl ?_
        refine am_Pn.gi (k := 2) rfl rfl am_o64 rfl rfl ?_
        refine am_Pn.bF h (am_bge rfl rfl) rfl rfl (fun h => ?_) (fun h => ?_)
        · exact (ih.2.1) s h
        · refine am_Pn.bl 1 (y := (12, [some (.ref 64)], [.ref 64], sg_h s, 0, 0)) rfl ?_
          refine am_Pn.gr (k := 1) rfl rfl am_o64 rfl rfl ?_
          refine am_Pn.bl 1 (y := (16, [some (.ref 64)], [.ref 64, .ref 65], sg_h s, 0, 0)) rfl ?_
          refine am_Pn.gi (k := 3) rfl rfl am_o64 rfl rfl ?_
          refine am_Pn.ba (a := 65) rfl rfl rfl rfl (fun hi => ?_)
          replace h := h (am_in0 hi) (am_in1 hi)
          refine am_Pn.bl 1 (y := (22, [some (.ref 64)], [.int (Int32.ofInt (32)), .int (s.2.2.1 65 ((s.1 64 3).toInt.toNat))], sg_h s, 0, 0)) rfl ?_
          refine am_Pn.bT h (am_beq rfl rfl) rfl rfl (fun h => ?_) (fun h => ?_)
          · refine am_Pn.bl 2 (y := (41, [some (.ref 64)], [.ref 64, .ref 64], sg_h s, 0, 0)) rfl ?_
            refine am_Pn.gi (k := 3) rfl rfl am_o64 rfl rfl ?_
            refine am_Pn.bl 2 (y := (46, [some (.ref 64)], [.int ((s.1 64 3) + (Int32.ofInt (1))), .ref 64], sg_h s, 0, 0)) rfl ?_
            refine am_Pn.pi (k := 3) rfl rfl am_o64 rfl rfl ?_
            refine am_Pn.bl 1 (y := (0, [some (.ref 64)], [], sg_h (sg_uI s 64 3 ((s.1 64 3) + (Int32.ofInt (1)))), 0, 0)) rfl ?_
            exact (ih.1) (sg_uI s 64 3 ((s.1 64 3) + (Int32.ofInt (1)))) h
          · refine am_Pn.bl 1 (y := (26, [some (.ref 64)], [.ref 64], sg_h s, 0, 0)) rfl ?_
            refine am_Pn.gr (k := 1) rfl rfl am_o64 rfl rfl ?_
            refine am_Pn.bl 1 (y := (30, [some (.ref 64)], [.ref 64, .ref 65], sg_h s, 0, 0)) rfl ?_
            refine am_Pn.gi (k := 3) rfl rfl am_o64 rfl rfl ?_
            refine am_Pn.ba (a := 65) rfl rfl rfl rfl (fun hi => ?_)
            refine am_Pn.bl 1 (y := (36, [some (.ref 64)], [.int (Int32.ofInt (10)), .int (s.2.2.1 65 ((s.1 64 3).toInt.toNat))], sg_h s, 0, 0)) rfl ?_
            refine am_Pn.bF h (am_bne rfl rfl) rfl rfl (fun h => ?_) (fun h => ?_)
            · exact (ih.2.1) s h
            · refine am_Pn.bl 2 (y := (41, [some (.ref 64)], [.ref 64, .ref 64], sg_h s, 0, 0)) rfl ?_
              refine am_Pn.gi (k := 3) rfl rfl am_o64 rfl rfl ?_
              refine am_Pn.bl 2 (y := (46, [some (.ref 64)], [.int ((s.1 64 3) + (Int32.ofInt (1))), .ref 64], sg_h s, 0, 0)) rfl ?_
              refine am_Pn.pi (k := 3) rfl rfl am_o64 rfl rfl ?_
              refine am_Pn.bl 1 (y := (0, [some (.ref 64)], [], sg_h (sg_uI s 64 3 ((s.1 64 3) + (Int32.ofInt (1)))), 0, 0)) rfl ?_
              exact (ih.1) (sg_uI s 64 3 ((s.1 64 3) + (Int32.ofInt (1)))) h
      · intro  s h
        replace h := k52  s h
        unfold wp_M_next_52 at h
        refine am_Pn.bl1 1 (y := (54, [some (.ref 64)], [.ref 64, .ref 64], sg_h s, 0, 0)) rfl ?_
        refine am_Pn.gi (k := 3) rfl rfl am_o64 rfl rfl ?_
        refine am_Pn.pi (k := 4) rfl rfl am_o64 rfl rfl ?_
        refine am_Pn.bl 2 (y := (62, [some (.ref 64)], [.long (Int64.ofNat 0), .ref 64], sg_h (sg_uI s 64 4 (s.1 64 3)), 0, 0)) rfl ?_
        refine am_Pn.pl (k := 8) rfl rfl am_o64 rfl rfl ?_
        refine am_Pn.bl 1 (y := (66, [some (.ref 64)], [.ref 64], sg_h (sg_uL (sg_uI s 64 4 (s.1 64 3)) 64 8 (Int64.ofNat 0)), 0, 0)) rfl ?_
        refine am_Pn.gi (k := 3) rfl rfl am_o64 rfl rfl ?_
        refine am_Pn.bl 1 (y := (70, [some (.ref 64)], [.ref 64, .int (s.1 64 3)], sg_h (sg_uL (sg_uI s 64 4 (s.1 64 3)) 64 8 (Int64.ofNat 0)), 0, 0)) rfl ?_
        refine am_Pn.gi (k := 2) rfl rfl am_o64 rfl rfl ?_
        refine am_Pn.bF h (am_bne rfl rfl) rfl rfl (fun h => ?_) (fun h => ?_)
        · refine am_Pn.bl 1 (y := (85, [some (.ref 64)], [.ref 64], sg_h (sg_uL (sg_uI s 64 4 (s.1 64 3)) 64 8 (Int64.ofNat 0)), 0, 0)) rfl ?_
          refine am_Pn.cvI hcl h rfl rfl rfl rfl rfl (fun x1 s1 h => ?_)
          refine am_Pn.zT h (am_beq rfl rfl) rfl rfl (fun h => ?_) (fun h => ?_)
          · refine am_Pn.bl 1 (y := (183, [some (.ref 64)], [.ref 64], sg_h s1, 0, 0)) rfl ?_
            refine am_Pn.cvI hcl h rfl rfl rfl rfl rfl (fun x2 s2 h => ?_)
            refine am_Pn.zT h (am_beq rfl rfl) rfl rfl (fun h => ?_) (fun h => ?_)
            · refine am_Pn.bl 2 (y := (280, [some (.ref 64)], [.ref 64, .ref 64], sg_h s2, 0, 0)) rfl ?_
              refine am_Pn.gr (k := 1) rfl rfl am_o64 rfl rfl ?_
              refine am_Pn.bl 1 (y := (284, [some (.ref 64)], [.ref 64, .ref 65, .ref 64], sg_h s2, 0, 0)) rfl ?_
              refine am_Pn.gi (k := 3) rfl rfl am_o64 rfl rfl ?_
              refine am_Pn.ba (a := 65) rfl rfl rfl rfl (fun hi => ?_)
              replace h := h (am_in0 hi) (am_in1 hi)
              refine am_Pn.bl 1 (y := (289, [some (.ref 64)], [.long ((s2.2.2.1 65 ((s2.1 64 3).toInt.toNat)).toInt64), .ref 64], sg_h s2, 0, 0)) rfl ?_
              refine am_Pn.pl (k := 8) rfl rfl am_o64 rfl rfl ?_
              refine am_Pn.bl 2 (y := (294, [some (.ref 64)], [.ref 64, .ref 64], sg_h (sg_uL s2 64 8 ((s2.2.2.1 65 ((s2.1 64 3).toInt.toNat)).toInt64)), 0, 0)) rfl ?_
              refine am_Pn.gl (k := 8) rfl rfl am_o64 rfl rfl ?_
              refine am_Pn.bl 2 (y := (301, [some (.ref 64)], [.int (lg_cmp ((s2.2.2.1 65 ((s2.1 64 3).toInt.toNat)).toInt64) (Int64.ofInt (59))), .ref 64], sg_h (sg_uL s2 64 8 ((s2.2.2.1 65 ((s2.1 64 3).toInt.toNat)).toInt64)), 0, 0)) rfl ?_
              refine am_Pn.zT h (am_leq) rfl rfl (fun h => ?_) (fun h => ?_)
              · refine am_Pn.bl 2 (y := (342, [some (.ref 64)], [.int (Int32.ofInt (3)), .ref 64], sg_h (sg_uL s2 64 8 ((s2.2.2.1 65 ((s2.1 64 3).toInt.toNat)).toInt64)), 0, 0)) rfl ?_
                refine am_Pn.pi (k := 5) rfl rfl am_o64 rfl rfl ?_
                refine am_Pn.bl 2 (y := (347, [some (.ref 64)], [.ref 64, .ref 64], sg_h (sg_uI (sg_uL s2 64 8 ((s2.2.2.1 65 ((s2.1 64 3).toInt.toNat)).toInt64)) 64 5 (Int32.ofInt (3))), 0, 0)) rfl ?_
                refine am_Pn.gi (k := 3) rfl rfl am_o64 rfl rfl ?_
                refine am_Pn.bl 2 (y := (352, [some (.ref 64)], [.int ((s2.1 64 3) + (Int32.ofInt (1))), .ref 64], sg_h (sg_uI (sg_uL s2 64 8 ((s2.2.2.1 65 ((s2.1 64 3).toInt.toNat)).toInt64)) 64 5 (Int32.ofInt (3))), 0, 0)) rfl ?_
                refine am_Pn.pi (k := 3) rfl rfl am_o64 rfl rfl ?_
                exact am_Pn.rV h rfl
              · refine am_Pn.bl 1 (y := (305, [some (.ref 64)], [.ref 64, .ref 64], sg_h (sg_uL s2 64 8 ((s2.2.2.1 65 ((s2.1 64 3).toInt.toNat)).toInt64)), 0, 0)) rfl ?_
                refine am_Pn.gl (k := 8) rfl rfl am_o64 rfl rfl ?_
                refine am_Pn.bl 2 (y := (312, [some (.ref 64)], [.int (lg_cmp ((s2.2.2.1 65 ((s2.1 64 3).toInt.toNat)).toInt64) (Int64.ofInt (61))), .ref 64], sg_h (sg_uL s2 64 8 ((s2.2.2.1 65 ((s2.1 64 3).toInt.toNat)).toInt64)), 0, 0)) rfl ?_
                refine am_Pn.zT h (am_leq) rfl rfl (fun h => ?_) (fun h => ?_)
                · refine am_Pn.bl 2 (y := (342, [some (.ref 64)], [.int (Int32.ofInt (3)), .ref 64], sg_h (sg_uL s2 64 8 ((s2.2.2.1 65 ((s2.1 64 3).toInt.toNat)).toInt64)), 0, 0)) rfl ?_
                  refine am_Pn.pi (k := 5) rfl rfl am_o64 rfl rfl ?_
                  refine am_Pn.bl 2 (y := (347, [some (.ref 64)], [.ref 64, .ref 64], sg_h (sg_uI (sg_uL s2 64 8 ((s2.2.2.1 65 ((s2.1 64 3).toInt.toNat)).toInt64)) 64 5 (Int32.ofInt (3))), 0, 0)) rfl ?_
                  refine am_Pn.gi (k := 3) rfl rfl am_o64 rfl rfl ?_
                  refine am_Pn.bl 2 (y := (352, [some (.ref 64)], [.int ((s2.1 64 3) + (Int32.ofInt (1))), .ref 64], sg_h (sg_uI (sg_uL s2 64 8 ((s2.2.2.1 65 ((s2.1 64 3).toInt.toNat)).toInt64)) 64 5 (Int32.ofInt (3))), 0, 0)) rfl ?_
                  refine am_Pn.pi (k := 3) rfl rfl am_o64 rfl rfl ?_
                  exact am_Pn.rV h rfl
                · refine am_Pn.bl 1 (y := (316, [some (.ref 64)], [.ref 64, .ref 64], sg_h (sg_uL s2 64 8 ((s2.2.2.1 65 ((s2.1 64 3).toInt.toNat)).toInt64)), 0, 0)) rfl ?_
                  refine am_Pn.gl (k := 8) rfl rfl am_o64 rfl rfl ?_
                  refine am_Pn.bl 2 (y := (323, [some (.ref 64)], [.int (lg_cmp ((s2.2.2.1 65 ((s2.1 64 3).toInt.toNat)).toInt64) (Int64.ofInt (44))), .ref 64], sg_h (sg_uL s2 64 8 ((s2.2.2.1 65 ((s2.1 64 3).toInt.toNat)).toInt64)), 0, 0)) rfl ?_
                  refine am_Pn.zT h (am_leq) rfl rfl (fun h => ?_) (fun h => ?_)
                  · refine am_Pn.bl 2 (y := (342, [some (.ref 64)], [.int (Int32.ofInt (3)), .ref 64], sg_h (sg_uL s2 64 8 ((s2.2.2.1 65 ((s2.1 64 3).toInt.toNat)).toInt64)), 0, 0)) rfl ?_
                    refine am_Pn.pi (k := 5) rfl rfl am_o64 rfl rfl ?_
                    refine am_Pn.bl 2 (y := (347, [some (.ref 64)], [.ref 64, .ref 64], sg_h (sg_uI (sg_uL s2 64 8 ((s2.2.2.1 65 ((s2.1 64 3).toInt.toNat)).toInt64)) 64 5 (Int32.ofInt (3))), 0, 0)) rfl ?_
                    refine am_Pn.gi (k := 3) rfl rfl am_o64 rfl rfl ?_
                    refine am_Pn.bl 2 (y := (352, [some (.ref 64)], [.int ((s2.1 64 3) + (Int32.ofInt (1))), .ref 64], sg_h (sg_uI (sg_uL s2 64 8 ((s2.2.2.1 65 ((s2.1 64 3).toInt.toNat)).toInt64)) 64 5 (Int32.ofInt (3))), 0, 0)) rfl ?_
                    refine am_Pn.pi (k := 3) rfl rfl am_o64 rfl rfl ?_
                    exact am_Pn.rV h rfl
                  · refine am_Pn.bl 1 (y := (327, [some (.ref 64)], [.ref 64, .ref 64], sg_h (sg_uL s2 64 8 ((s2.2.2.1 65 ((s2.1 64 3).toInt.toNat)).toInt64)), 0, 0)) rfl ?_
                    refine am_Pn.gl (k := 8) rfl rfl am_o64 rfl rfl ?_
                    refine am_Pn.bl 2 (y := (334, [some (.ref 64)], [.int (lg_cmp ((s2.2.2.1 65 ((s2.1 64 3).toInt.toNat)).toInt64) (Int64.ofInt (45))), .ref 64], sg_h (sg_uL s2 64 8 ((s2.2.2.1 65 ((s2.1 64 3).toInt.toNat)).toInt64)), 0, 0)) rfl ?_
                    refine am_Pn.zF h (am_lne) rfl rfl (fun h => ?_) (fun h => ?_)
                    · refine am_Pn.bl 1 (y := (342, [some (.ref 64)], [.int (Int32.ofInt (4)), .ref 64], sg_h (sg_uL s2 64 8 ((s2.2.2.1 65 ((s2.1 64 3).toInt.toNat)).toInt64)), 0, 0)) rfl ?_
                      refine am_Pn.pi (k := 5) rfl rfl am_o64 rfl rfl ?_
                      refine am_Pn.bl 2 (y := (347, [some (.ref 64)], [.ref 64, .ref 64], sg_h (sg_uI (sg_uL s2 64 8 ((s2.2.2.1 65 ((s2.1 64 3).toInt.toNat)).toInt64)) 64 5 (Int32.ofInt (4))), 0, 0)) rfl ?_
                      refine am_Pn.gi (k := 3) rfl rfl am_o64 rfl rfl ?_
                      refine am_Pn.bl 2 (y := (352, [some (.ref 64)], [.int ((s2.1 64 3) + (Int32.ofInt (1))), .ref 64], sg_h (sg_uI (sg_uL s2 64 8 ((s2.2.2.1 65 ((s2.1 64 3).toInt.toNat)).toInt64)) 64 5 (Int32.ofInt (4))), 0, 0)) rfl ?_
                      refine am_Pn.pi (k := 3) rfl rfl am_o64 rfl rfl ?_
                      exact am_Pn.rV h rfl
                    · refine am_Pn.bl 2 (y := (342, [some (.ref 64)], [.int (Int32.ofInt (3)), .ref 64], sg_h (sg_uL s2 64 8 ((s2.2.2.1 65 ((s2.1 64 3).toInt.toNat)).toInt64)), 0, 0)) rfl ?_
                      refine am_Pn.pi (k := 5) rfl rfl am_o64 rfl rfl ?_
                      refine am_Pn.bl 2 (y := (347, [some (.ref 64)], [.ref 64, .ref 64], sg_h (sg_uI (sg_uL s2 64 8 ((s2.2.2.1 65 ((s2.1 64 3).toInt.toNat)).toInt64)) 64 5 (Int32.ofInt (3))), 0, 0)) rfl ?_
                      refine am_Pn.gi (k := 3) rfl rfl am_o64 rfl rfl ?_
                      refine am_Pn.bl 2 (y := (352, [some (.ref 64)], [.int ((s2.1 64 3) + (Int32.ofInt (1))), .ref 64], sg_h (sg_uI (sg_uL s2 64 8 ((s2.2.2.1 65 ((s2.1 64 3).toInt.toNat)).toInt64)) 64 5 (Int32.ofInt (3))), 0, 0)) rfl ?_
                      refine am_Pn.pi (k := 3) rfl rfl am_o64 rfl rfl ?_
                      exact am_Pn.rV h rfl
            · exact (ih.2.2.1) s2 h
          · exact (ih.2.2.2) s1 h
        · refine am_Pn.bl 2 (y := (78, [some (.ref 64)], [.int (Int32.ofInt (0)), .ref 64], sg_h (sg_uL (sg_uI s 64 4 (s.1 64 3)) 64 8 (Int64.ofNat 0)), 0, 0)) rfl ?_
          refine am_Pn.pi (k := 5) rfl rfl am_o64 rfl rfl ?_
          refine am_Pn.bl 1 (y := (355, [some (.ref 64)], [], sg_h (sg_uI (sg_uL (sg_uI s 64 4 (s.1 64 3)) 64 8 (Int64.ofNat 0)) 64 5 (Int32.ofInt (0))), 0, 0)) rfl ?_
          exact am_Pn.rV h rfl
      · intro  s h
        replace h := k189  s h
        unfold wp_M_next_189 at h
        refine am_Pn.bl1 0 (y := (190, [some (.ref 64)], [.ref 64], sg_h s, 0, 0)) rfl ?_
        refine am_Pn.cvI hcl h rfl rfl rfl rfl rfl (fun x3 s3 h => ?_)
        refine am_Pn.zT h (am_beq rfl rfl) rfl rfl (fun h => ?_) (fun h => ?_)
        · refine am_Pn.bl 2 (y := (255, [some (.ref 64)], [.ref 64, .ref 64], sg_h s3, 0, 0)) rfl ?_
          refine am_Pn.gi (k := 3) rfl rfl am_o64 rfl rfl ?_
          refine am_Pn.bl 1 (y := (259, [some (.ref 64)], [.ref 64, .int (s3.1 64 3), .ref 64], sg_h s3, 0, 0)) rfl ?_
          refine am_Pn.gi (k := 4) rfl rfl am_o64 rfl rfl ?_
          refine am_Pn.bl 2 (y := (264, [some (.ref 64)], [.int (Int32.ofInt (3)), .int ((s3.1 64 3) - (s3.1 64 4)), .ref 64], sg_h s3, 0, 0)) rfl ?_
          refine am_Pn.bF h (am_ble rfl rfl) rfl rfl (fun h => ?_) (fun h => ?_)
          · refine am_Pn.bl 1 (y := (272, [some (.ref 64)], [.int (Int32.ofInt (2)), .ref 64], sg_h s3, 0, 0)) rfl ?_
            refine am_Pn.pi (k := 5) rfl rfl am_o64 rfl rfl ?_
            refine am_Pn.bl 1 (y := (355, [some (.ref 64)], [], sg_h (sg_uI s3 64 5 (Int32.ofInt (2))), 0, 0)) rfl ?_
            exact am_Pn.rV h rfl
          · refine am_Pn.bl 2 (y := (272, [some (.ref 64)], [.int (Int32.ofInt (4)), .ref 64], sg_h s3, 0, 0)) rfl ?_
            refine am_Pn.pi (k := 5) rfl rfl am_o64 rfl rfl ?_
            refine am_Pn.bl 1 (y := (355, [some (.ref 64)], [], sg_h (sg_uI s3 64 5 (Int32.ofInt (4))), 0, 0)) rfl ?_
            exact am_Pn.rV h rfl
        · refine am_Pn.bl 2 (y := (198, [some (.ref 64)], [.ref 64, .ref 64], sg_h s3, 0, 0)) rfl ?_
          refine am_Pn.gi (k := 3) rfl rfl am_o64 rfl rfl ?_
          refine am_Pn.bl 1 (y := (202, [some (.ref 64)], [.ref 64, .int (s3.1 64 3), .ref 64], sg_h s3, 0, 0)) rfl ?_
          refine am_Pn.gi (k := 4) rfl rfl am_o64 rfl rfl ?_
          refine am_Pn.bl 2 (y := (207, [some (.ref 64)], [.int (Int32.ofInt (3)), .int ((s3.1 64 3) - (s3.1 64 4)), .ref 64], sg_h s3, 0, 0)) rfl ?_
          refine am_Pn.bF h (am_bge rfl rfl) rfl rfl (fun h => ?_) (fun h => ?_)
          · refine am_Pn.bl 1 (y := (237, [some (.ref 64)], [.long (Int64.ofNat 0), .ref 64], sg_h s3, 0, 0)) rfl ?_
            refine am_Pn.pl (k := 8) rfl rfl am_o64 rfl rfl ?_
            refine am_Pn.bl 2 (y := (242, [some (.ref 64)], [.ref 64, .ref 64], sg_h (sg_uL s3 64 8 (Int64.ofNat 0)), 0, 0)) rfl ?_
            refine am_Pn.gi (k := 3) rfl rfl am_o64 rfl rfl ?_
            refine am_Pn.bl 2 (y := (247, [some (.ref 64)], [.int ((s3.1 64 3) + (Int32.ofInt (1))), .ref 64], sg_h (sg_uL s3 64 8 (Int64.ofNat 0)), 0, 0)) rfl ?_
            refine am_Pn.pi (k := 3) rfl rfl am_o64 rfl rfl ?_
            refine am_Pn.bl 1 (y := (189, [some (.ref 64)], [], sg_h (sg_uI (sg_uL s3 64 8 (Int64.ofNat 0)) 64 3 ((s3.1 64 3) + (Int32.ofInt (1)))), 0, 0)) rfl ?_
            exact (ih.2.2.1) (sg_uI (sg_uL s3 64 8 (Int64.ofNat 0)) 64 3 ((s3.1 64 3) + (Int32.ofInt (1)))) h
          · refine am_Pn.bl 2 (y := (214, [some (.ref 64)], [.ref 64, .long (Int64.ofInt (10)), .ref 64], sg_h s3, 0, 0)) rfl ?_
            refine am_Pn.gl (k := 8) rfl rfl am_o64 rfl rfl ?_
            refine am_Pn.bl 2 (y := (219, [some (.ref 64)], [.ref 64, .long ((Int64.ofInt (10)) * (s3.2.1 64 8)), .ref 64], sg_h s3, 0, 0)) rfl ?_
            refine am_Pn.gr (k := 1) rfl rfl am_o64 rfl rfl ?_
            refine am_Pn.bl 1 (y := (223, [some (.ref 64)], [.ref 64, .ref 65, .long ((Int64.ofInt (10)) * (s3.2.1 64 8)), .ref 64], sg_h s3, 0, 0)) rfl ?_
            refine am_Pn.gi (k := 3) rfl rfl am_o64 rfl rfl ?_
            refine am_Pn.ba (a := 65) rfl rfl rfl rfl (fun hi => ?_)
            replace h := h (am_in0 hi) (am_in1 hi)
            refine am_Pn.bl 5 (y := (237, [some (.ref 64)], [.long ((((Int64.ofInt (10)) * (s3.2.1 64 8)) + ((s3.2.2.1 65 ((s3.1 64 3).toInt.toNat)).toInt64)) - (Int64.ofInt (48))), .ref 64], sg_h s3, 0, 0)) rfl ?_
            refine am_Pn.pl (k := 8) rfl rfl am_o64 rfl rfl ?_
            refine am_Pn.bl 2 (y := (242, [some (.ref 64)], [.ref 64, .ref 64], sg_h (sg_uL s3 64 8 ((((Int64.ofInt (10)) * (s3.2.1 64 8)) + ((s3.2.2.1 65 ((s3.1 64 3).toInt.toNat)).toInt64)) - (Int64.ofInt (48)))), 0, 0)) rfl ?_
            refine am_Pn.gi (k := 3) rfl rfl am_o64 rfl rfl ?_
            refine am_Pn.bl 2 (y := (247, [some (.ref 64)], [.int ((s3.1 64 3) + (Int32.ofInt (1))), .ref 64], sg_h (sg_uL s3 64 8 ((((Int64.ofInt (10)) * (s3.2.1 64 8)) + ((s3.2.2.1 65 ((s3.1 64 3).toInt.toNat)).toInt64)) - (Int64.ofInt (48)))), 0, 0)) rfl ?_
            refine am_Pn.pi (k := 3) rfl rfl am_o64 rfl rfl ?_
            refine am_Pn.bl 1 (y := (189, [some (.ref 64)], [], sg_h (sg_uI (sg_uL s3 64 8 ((((Int64.ofInt (10)) * (s3.2.1 64 8)) + ((s3.2.2.1 65 ((s3.1 64 3).toInt.toNat)).toInt64)) - (Int64.ofInt (48)))) 64 3 ((s3.1 64 3) + (Int32.ofInt (1)))), 0, 0)) rfl ?_
            exact (ih.2.2.1) (sg_uI (sg_uL s3 64 8 ((((Int64.ofInt (10)) * (s3.2.1 64 8)) + ((s3.2.2.1 65 ((s3.1 64 3).toInt.toNat)).toInt64)) - (Int64.ofInt (48)))) 64 3 ((s3.1 64 3) + (Int32.ofInt (1)))) h
      · intro  s h
        replace h := k91  s h
        unfold wp_M_next_91 at h
        refine am_Pn.bl1 0 (y := (92, [some (.ref 64)], [.ref 64], sg_h s, 0, 0)) rfl ?_
        refine am_Pn.cvI hcl h rfl rfl rfl rfl rfl (fun x4 s4 h => ?_)
        refine am_Pn.zT h (am_beq rfl rfl) rfl rfl (fun h => ?_) (fun h => ?_)
        · refine am_Pn.bl 2 (y := (158, [some (.ref 64)], [.ref 64, .ref 64], sg_h s4, 0, 0)) rfl ?_
          refine am_Pn.gi (k := 3) rfl rfl am_o64 rfl rfl ?_
          refine am_Pn.bl 1 (y := (162, [some (.ref 64)], [.ref 64, .int (s4.1 64 3), .ref 64], sg_h s4, 0, 0)) rfl ?_
          refine am_Pn.gi (k := 4) rfl rfl am_o64 rfl rfl ?_
          refine am_Pn.bl 2 (y := (168, [some (.ref 64)], [.int (Int32.ofInt (8)), .int ((s4.1 64 3) - (s4.1 64 4)), .ref 64], sg_h s4, 0, 0)) rfl ?_
          refine am_Pn.bF h (am_ble rfl rfl) rfl rfl (fun h => ?_) (fun h => ?_)
          · refine am_Pn.bl 1 (y := (176, [some (.ref 64)], [.int (Int32.ofInt (1)), .ref 64], sg_h s4, 0, 0)) rfl ?_
            refine am_Pn.pi (k := 5) rfl rfl am_o64 rfl rfl ?_
            refine am_Pn.bl 1 (y := (355, [some (.ref 64)], [], sg_h (sg_uI s4 64 5 (Int32.ofInt (1))), 0, 0)) rfl ?_
            exact am_Pn.rV h rfl
          · refine am_Pn.bl 2 (y := (176, [some (.ref 64)], [.int (Int32.ofInt (4)), .ref 64], sg_h s4, 0, 0)) rfl ?_
            refine am_Pn.pi (k := 5) rfl rfl am_o64 rfl rfl ?_
            refine am_Pn.bl 1 (y := (355, [some (.ref 64)], [], sg_h (sg_uI s4 64 5 (Int32.ofInt (4))), 0, 0)) rfl ?_
            exact am_Pn.rV h rfl
        · refine am_Pn.bl 2 (y := (100, [some (.ref 64)], [.ref 64, .ref 64], sg_h s4, 0, 0)) rfl ?_
          refine am_Pn.gi (k := 3) rfl rfl am_o64 rfl rfl ?_
          refine am_Pn.bl 1 (y := (104, [some (.ref 64)], [.ref 64, .int (s4.1 64 3), .ref 64], sg_h s4, 0, 0)) rfl ?_
          refine am_Pn.gi (k := 4) rfl rfl am_o64 rfl rfl ?_
          refine am_Pn.bl 2 (y := (110, [some (.ref 64)], [.int (Int32.ofInt (8)), .int ((s4.1 64 3) - (s4.1 64 4)), .ref 64], sg_h s4, 0, 0)) rfl ?_
          refine am_Pn.bF h (am_bge rfl rfl) rfl rfl (fun h => ?_) (fun h => ?_)
          · refine am_Pn.bl 1 (y := (140, [some (.ref 64)], [.long (Int64.ofNat 0), .ref 64], sg_h s4, 0, 0)) rfl ?_
            refine am_Pn.pl (k := 8) rfl rfl am_o64 rfl rfl ?_
            refine am_Pn.bl 2 (y := (145, [some (.ref 64)], [.ref 64, .ref 64], sg_h (sg_uL s4 64 8 (Int64.ofNat 0)), 0, 0)) rfl ?_
            refine am_Pn.gi (k := 3) rfl rfl am_o64 rfl rfl ?_
            refine am_Pn.bl 2 (y := (150, [some (.ref 64)], [.int ((s4.1 64 3) + (Int32.ofInt (1))), .ref 64], sg_h (sg_uL s4 64 8 (Int64.ofNat 0)), 0, 0)) rfl ?_
            refine am_Pn.pi (k := 3) rfl rfl am_o64 rfl rfl ?_
            refine am_Pn.bl 1 (y := (91, [some (.ref 64)], [], sg_h (sg_uI (sg_uL s4 64 8 (Int64.ofNat 0)) 64 3 ((s4.1 64 3) + (Int32.ofInt (1)))), 0, 0)) rfl ?_
            exact (ih.2.2.2) (sg_uI (sg_uL s4 64 8 (Int64.ofNat 0)) 64 3 ((s4.1 64 3) + (Int32.ofInt (1)))) h
          · refine am_Pn.bl 2 (y := (117, [some (.ref 64)], [.ref 64, .long (Int64.ofInt (27)), .ref 64], sg_h s4, 0, 0)) rfl ?_
            refine am_Pn.gl (k := 8) rfl rfl am_o64 rfl rfl ?_
            refine am_Pn.bl 2 (y := (122, [some (.ref 64)], [.ref 64, .long ((Int64.ofInt (27)) * (s4.2.1 64 8)), .ref 64], sg_h s4, 0, 0)) rfl ?_
            refine am_Pn.gr (k := 1) rfl rfl am_o64 rfl rfl ?_
            refine am_Pn.bl 1 (y := (126, [some (.ref 64)], [.ref 64, .ref 65, .long ((Int64.ofInt (27)) * (s4.2.1 64 8)), .ref 64], sg_h s4, 0, 0)) rfl ?_
            refine am_Pn.gi (k := 3) rfl rfl am_o64 rfl rfl ?_
            refine am_Pn.ba (a := 65) rfl rfl rfl rfl (fun hi => ?_)
            replace h := h (am_in0 hi) (am_in1 hi)
            refine am_Pn.bl 5 (y := (140, [some (.ref 64)], [.long ((((Int64.ofInt (27)) * (s4.2.1 64 8)) + ((s4.2.2.1 65 ((s4.1 64 3).toInt.toNat)).toInt64)) - (Int64.ofInt (96))), .ref 64], sg_h s4, 0, 0)) rfl ?_
            refine am_Pn.pl (k := 8) rfl rfl am_o64 rfl rfl ?_
            refine am_Pn.bl 2 (y := (145, [some (.ref 64)], [.ref 64, .ref 64], sg_h (sg_uL s4 64 8 ((((Int64.ofInt (27)) * (s4.2.1 64 8)) + ((s4.2.2.1 65 ((s4.1 64 3).toInt.toNat)).toInt64)) - (Int64.ofInt (96)))), 0, 0)) rfl ?_
            refine am_Pn.gi (k := 3) rfl rfl am_o64 rfl rfl ?_
            refine am_Pn.bl 2 (y := (150, [some (.ref 64)], [.int ((s4.1 64 3) + (Int32.ofInt (1))), .ref 64], sg_h (sg_uL s4 64 8 ((((Int64.ofInt (27)) * (s4.2.1 64 8)) + ((s4.2.2.1 65 ((s4.1 64 3).toInt.toNat)).toInt64)) - (Int64.ofInt (96)))), 0, 0)) rfl ?_
            refine am_Pn.pi (k := 3) rfl rfl am_o64 rfl rfl ?_
            refine am_Pn.bl 1 (y := (91, [some (.ref 64)], [], sg_h (sg_uI (sg_uL s4 64 8 ((((Int64.ofInt (27)) * (s4.2.1 64 8)) + ((s4.2.2.1 65 ((s4.1 64 3).toInt.toNat)).toInt64)) - (Int64.ofInt (96)))) 64 3 ((s4.1 64 3) + (Int32.ofInt (1)))), 0, 0)) rfl ?_
            exact (ih.2.2.2) (sg_uI (sg_uL s4 64 8 ((((Int64.ofInt (27)) * (s4.2.1 64 8)) + ((s4.2.2.1 65 ((s4.1 64 3).toInt.toNat)).toInt64)) - (Int64.ofInt (96)))) 64 3 ((s4.1 64 3) + (Int32.ofInt (1)))) h
  unfold wp_M_next at h
  exact ((key n).1) s h
def wp_M_wrong (Ψ : sg_S → Prop) (x1 : Int32) (s : sg_S) : Prop := (((0) < (s.1 64 6).toInt → (Ψ s)) ∧ (¬ (0) < (s.1 64 6).toInt → (Ψ (sg_uI (sg_uI (sg_uI s 64 6 x1) 64 7 (s.1 64 4)) 64 5 (Int32.ofInt (0))))))
set_option maxRecDepth 100000 in
theorem wp_M_wrong_ok {Ψ : sg_S → Prop} {x1 : Int32} {s : sg_S} (h : wp_M_wrong Ψ x1 s) : am_SpV 157 [.ref 64, .int x1] s Ψ := by
  refine am_SpV.mk (r := am_r157) rfl rfl (fun call d al n hcl => ?_)
  unfold wp_M_wrong at h
  refine am_Pn.bl 1 (y := (1, [some (.ref 64), some (.int x1)], [.ref 64], sg_h s, 0, 0)) rfl ?_
  refine am_Pn.gi (k := 6) rfl rfl am_o64 rfl rfl ?_
  refine am_Pn.zF h (am_ble rfl rfl) rfl rfl (fun h => ?_) (fun h => ?_)
  · refine am_Pn.bl 2 (y := (10, [some (.ref 64), some (.int x1)], [.int x1, .ref 64], sg_h s, 0, 0)) rfl ?_
    refine am_Pn.pi (k := 6) rfl rfl am_o64 rfl rfl ?_
    refine am_Pn.bl 2 (y := (15, [some (.ref 64), some (.int x1)], [.ref 64, .ref 64], sg_h (sg_uI s 64 6 x1), 0, 0)) rfl ?_
    refine am_Pn.gi (k := 4) rfl rfl am_o64 rfl rfl ?_
    refine am_Pn.pi (k := 7) rfl rfl am_o64 rfl rfl ?_
    refine am_Pn.bl 2 (y := (23, [some (.ref 64), some (.int x1)], [.int (Int32.ofInt (0)), .ref 64], sg_h (sg_uI (sg_uI s 64 6 x1) 64 7 (s.1 64 4)), 0, 0)) rfl ?_
    refine am_Pn.pi (k := 5) rfl rfl am_o64 rfl rfl ?_
    exact am_Pn.rV h rfl
  · exact am_Pn.rV h rfl
def wp_M_keyword (Ψ : Int32 → sg_S → Prop) (s : sg_S) : Prop := (((s.1 64 5).toInt = (1) → ((s.2.1 64 8 = Int64.ofInt (47) → (Ψ (Int32.ofInt (0)) s)) ∧ (¬ s.2.1 64 8 = Int64.ofInt (47) → ((s.2.1 64 8 = Int64.ofInt (10631) → (Ψ (Int32.ofInt (1)) s)) ∧ (¬ s.2.1 64 8 = Int64.ofInt (10631) → ((s.2.1 64 8 = Int64.ofInt (13703) → (Ψ (Int32.ofInt (2)) s)) ∧ (¬ s.2.1 64 8 = Int64.ofInt (13703) → ((s.2.1 64 8 = Int64.ofInt (5146) → (Ψ (Int32.ofInt (3)) s)) ∧ (¬ s.2.1 64 8 = Int64.ofInt (5146) → ((s.2.1 64 8 = Int64.ofInt (267347) → (Ψ (Int32.ofInt (4)) s)) ∧ (¬ s.2.1 64 8 = Int64.ofInt (267347) → ((s.2.1 64 8 = Int64.ofInt (6476969) → (Ψ (Int32.ofInt (5)) s)) ∧ (¬ s.2.1 64 8 = Int64.ofInt (6476969) → ((s.2.1 64 8 = Int64.ofInt (670208) → (Ψ (Int32.ofInt (6)) s)) ∧ (¬ s.2.1 64 8 = Int64.ofInt (670208) → ((s.2.1 64 8 = Int64.ofInt (243146) → (Ψ (Int32.ofInt (7)) s)) ∧ (¬ s.2.1 64 8 = Int64.ofInt (243146) → ((s.2.1 64 8 = Int64.ofInt (10261586) → (Ψ (Int32.ofInt (8)) s)) ∧ (¬ s.2.1 64 8 = Int64.ofInt (10261586) → ((s.2.1 64 8 = Int64.ofInt (223456) → (Ψ (Int32.ofInt (9)) s)) ∧ (¬ s.2.1 64 8 = Int64.ofInt (223456) → ((s.2.1 64 8 = Int64.ofInt (4085899) → (Ψ (Int32.ofInt (10)) s)) ∧ (¬ s.2.1 64 8 = Int64.ofInt (4085899) → ((s.2.1 64 8 = Int64.ofInt (175125302) → (Ψ (Int32.ofInt (11)) s)) ∧ (¬ s.2.1 64 8 = Int64.ofInt (175125302) → ((s.2.1 64 8 = Int64.ofInt (5173474771) → (Ψ (Int32.ofInt (12)) s)) ∧ (¬ s.2.1 64 8 = Int64.ofInt (5173474771) → (Ψ (Int32.ofInt (-1)) s)))))))))))))))))))))))))))) ∧ (¬ (s.1 64 5).toInt = (1) → (Ψ (Int32.ofInt (-1)) s)))
set_option maxRecDepth 100000 in
theorem wp_M_keyword_ok {Ψ : Int32 → sg_S → Prop} {s : sg_S} (h : wp_M_keyword Ψ  s) : am_SpI 156 [.ref 64] s Ψ := by
  refine am_SpI.mk (r := am_r156) rfl rfl (fun call d al n hcl => ?_)
  unfold wp_M_keyword at h
  refine am_Pn.bl 1 (y := (1, [some (.ref 64)], [.ref 64], sg_h s, 0, 0)) rfl ?_
  refine am_Pn.gi (k := 5) rfl rfl am_o64 rfl rfl ?_
  refine am_Pn.bl 1 (y := (5, [some (.ref 64)], [.int (Int32.ofInt (1)), .int (s.1 64 5)], sg_h s, 0, 0)) rfl ?_
  refine am_Pn.bT h (am_beq rfl rfl) rfl rfl (fun h => ?_) (fun h => ?_)
  · refine am_Pn.bl 1 (y := (11, [some (.ref 64)], [.ref 64], sg_h s, 0, 0)) rfl ?_
    refine am_Pn.gl (k := 8) rfl rfl am_o64 rfl rfl ?_
    refine am_Pn.bl 2 (y := (18, [some (.ref 64)], [.int (lg_cmp (s.2.1 64 8) (Int64.ofInt (47)))], sg_h s, 0, 0)) rfl ?_
    refine am_Pn.zF h (am_lne) rfl rfl (fun h => ?_) (fun h => ?_)
    · refine am_Pn.bl 1 (y := (24, [some (.ref 64)], [.ref 64], sg_h s, 0, 0)) rfl ?_
      refine am_Pn.gl (k := 8) rfl rfl am_o64 rfl rfl ?_
      refine am_Pn.bl 2 (y := (31, [some (.ref 64)], [.int (lg_cmp (s.2.1 64 8) (Int64.ofInt (10631)))], sg_h s, 0, 0)) rfl ?_
      refine am_Pn.zF h (am_lne) rfl rfl (fun h => ?_) (fun h => ?_)
      · refine am_Pn.bl 1 (y := (37, [some (.ref 64)], [.ref 64], sg_h s, 0, 0)) rfl ?_
        refine am_Pn.gl (k := 8) rfl rfl am_o64 rfl rfl ?_
        refine am_Pn.bl 2 (y := (44, [some (.ref 64)], [.int (lg_cmp (s.2.1 64 8) (Int64.ofInt (13703)))], sg_h s, 0, 0)) rfl ?_
        refine am_Pn.zF h (am_lne) rfl rfl (fun h => ?_) (fun h => ?_)
        · refine am_Pn.bl 1 (y := (50, [some (.ref 64)], [.ref 64], sg_h s, 0, 0)) rfl ?_
          refine am_Pn.gl (k := 8) rfl rfl am_o64 rfl rfl ?_
          refine am_Pn.bl 2 (y := (57, [some (.ref 64)], [.int (lg_cmp (s.2.1 64 8) (Int64.ofInt (5146)))], sg_h s, 0, 0)) rfl ?_
          refine am_Pn.zF h (am_lne) rfl rfl (fun h => ?_) (fun h => ?_)
          · refine am_Pn.bl 1 (y := (63, [some (.ref 64)], [.ref 64], sg_h s, 0, 0)) rfl ?_
            refine am_Pn.gl (k := 8) rfl rfl am_o64 rfl rfl ?_
            refine am_Pn.bl 2 (y := (70, [some (.ref 64)], [.int (lg_cmp (s.2.1 64 8) (Int64.ofInt (267347)))], sg_h s, 0, 0)) rfl ?_
            refine am_Pn.zF h (am_lne) rfl rfl (fun h => ?_) (fun h => ?_)
            · refine am_Pn.bl 1 (y := (76, [some (.ref 64)], [.ref 64], sg_h s, 0, 0)) rfl ?_
              refine am_Pn.gl (k := 8) rfl rfl am_o64 rfl rfl ?_
              refine am_Pn.bl 2 (y := (83, [some (.ref 64)], [.int (lg_cmp (s.2.1 64 8) (Int64.ofInt (6476969)))], sg_h s, 0, 0)) rfl ?_
              refine am_Pn.zF h (am_lne) rfl rfl (fun h => ?_) (fun h => ?_)
              · refine am_Pn.bl 1 (y := (89, [some (.ref 64)], [.ref 64], sg_h s, 0, 0)) rfl ?_
                refine am_Pn.gl (k := 8) rfl rfl am_o64 rfl rfl ?_
                refine am_Pn.bl 2 (y := (96, [some (.ref 64)], [.int (lg_cmp (s.2.1 64 8) (Int64.ofInt (670208)))], sg_h s, 0, 0)) rfl ?_
                refine am_Pn.zF h (am_lne) rfl rfl (fun h => ?_) (fun h => ?_)
                · refine am_Pn.bl 1 (y := (103, [some (.ref 64)], [.ref 64], sg_h s, 0, 0)) rfl ?_
                  refine am_Pn.gl (k := 8) rfl rfl am_o64 rfl rfl ?_
                  refine am_Pn.bl 2 (y := (110, [some (.ref 64)], [.int (lg_cmp (s.2.1 64 8) (Int64.ofInt (243146)))], sg_h s, 0, 0)) rfl ?_
                  refine am_Pn.zF h (am_lne) rfl rfl (fun h => ?_) (fun h => ?_)
                  · refine am_Pn.bl 1 (y := (117, [some (.ref 64)], [.ref 64], sg_h s, 0, 0)) rfl ?_
                    refine am_Pn.gl (k := 8) rfl rfl am_o64 rfl rfl ?_
                    refine am_Pn.bl 2 (y := (124, [some (.ref 64)], [.int (lg_cmp (s.2.1 64 8) (Int64.ofInt (10261586)))], sg_h s, 0, 0)) rfl ?_
                    refine am_Pn.zF h (am_lne) rfl rfl (fun h => ?_) (fun h => ?_)
                    · refine am_Pn.bl 1 (y := (131, [some (.ref 64)], [.ref 64], sg_h s, 0, 0)) rfl ?_
                      refine am_Pn.gl (k := 8) rfl rfl am_o64 rfl rfl ?_
                      refine am_Pn.bl 2 (y := (138, [some (.ref 64)], [.int (lg_cmp (s.2.1 64 8) (Int64.ofInt (223456)))], sg_h s, 0, 0)) rfl ?_
                      refine am_Pn.zF h (am_lne) rfl rfl (fun h => ?_) (fun h => ?_)
                      · refine am_Pn.bl 1 (y := (145, [some (.ref 64)], [.ref 64], sg_h s, 0, 0)) rfl ?_
                        refine am_Pn.gl (k := 8) rfl rfl am_o64 rfl rfl ?_
                        refine am_Pn.bl 2 (y := (152, [some (.ref 64)], [.int (lg_cmp (s.2.1 64 8) (Int64.ofInt (4085899)))], sg_h s, 0, 0)) rfl ?_
                        refine am_Pn.zF h (am_lne) rfl rfl (fun h => ?_) (fun h => ?_)
                        · refine am_Pn.bl 1 (y := (159, [some (.ref 64)], [.ref 64], sg_h s, 0, 0)) rfl ?_
                          refine am_Pn.gl (k := 8) rfl rfl am_o64 rfl rfl ?_
                          refine am_Pn.bl 2 (y := (166, [some (.ref 64)], [.int (lg_cmp (s.2.1 64 8) (Int64.ofInt (175125302)))], sg_h s, 0, 0)) rfl ?_
                          refine am_Pn.zF h (am_lne) rfl rfl (fun h => ?_) (fun h => ?_)
                          · refine am_Pn.bl 1 (y := (173, [some (.ref 64)], [.ref 64], sg_h s, 0, 0)) rfl ?_
                            refine am_Pn.gl (k := 8) rfl rfl am_o64 rfl rfl ?_
                            refine am_Pn.bl 2 (y := (180, [some (.ref 64)], [.int (lg_cmp (s.2.1 64 8) (Int64.ofInt (5173474771)))], sg_h s, 0, 0)) rfl ?_
                            refine am_Pn.zF h (am_lne) rfl rfl (fun h => ?_) (fun h => ?_)
                            · refine am_Pn.bl 1 (y := (187, [some (.ref 64)], [.int (Int32.ofInt (-1))], sg_h s, 0, 0)) rfl ?_
                              exact am_Pn.rI h rfl
                            · refine am_Pn.bl 1 (y := (185, [some (.ref 64)], [.int (Int32.ofInt (12))], sg_h s, 0, 0)) rfl ?_
                              exact am_Pn.rI h rfl
                          · refine am_Pn.bl 1 (y := (171, [some (.ref 64)], [.int (Int32.ofInt (11))], sg_h s, 0, 0)) rfl ?_
                            exact am_Pn.rI h rfl
                        · refine am_Pn.bl 1 (y := (157, [some (.ref 64)], [.int (Int32.ofInt (10))], sg_h s, 0, 0)) rfl ?_
                          exact am_Pn.rI h rfl
                      · refine am_Pn.bl 1 (y := (143, [some (.ref 64)], [.int (Int32.ofInt (9))], sg_h s, 0, 0)) rfl ?_
                        exact am_Pn.rI h rfl
                    · refine am_Pn.bl 1 (y := (129, [some (.ref 64)], [.int (Int32.ofInt (8))], sg_h s, 0, 0)) rfl ?_
                      exact am_Pn.rI h rfl
                  · refine am_Pn.bl 1 (y := (115, [some (.ref 64)], [.int (Int32.ofInt (7))], sg_h s, 0, 0)) rfl ?_
                    exact am_Pn.rI h rfl
                · refine am_Pn.bl 1 (y := (101, [some (.ref 64)], [.int (Int32.ofInt (6))], sg_h s, 0, 0)) rfl ?_
                  exact am_Pn.rI h rfl
              · refine am_Pn.bl 1 (y := (87, [some (.ref 64)], [.int (Int32.ofInt (5))], sg_h s, 0, 0)) rfl ?_
                exact am_Pn.rI h rfl
            · refine am_Pn.bl 1 (y := (74, [some (.ref 64)], [.int (Int32.ofInt (4))], sg_h s, 0, 0)) rfl ?_
              exact am_Pn.rI h rfl
          · refine am_Pn.bl 1 (y := (61, [some (.ref 64)], [.int (Int32.ofInt (3))], sg_h s, 0, 0)) rfl ?_
            exact am_Pn.rI h rfl
        · refine am_Pn.bl 1 (y := (48, [some (.ref 64)], [.int (Int32.ofInt (2))], sg_h s, 0, 0)) rfl ?_
          exact am_Pn.rI h rfl
      · refine am_Pn.bl 1 (y := (35, [some (.ref 64)], [.int (Int32.ofInt (1))], sg_h s, 0, 0)) rfl ?_
        exact am_Pn.rI h rfl
    · refine am_Pn.bl 1 (y := (22, [some (.ref 64)], [.int (Int32.ofInt (0))], sg_h s, 0, 0)) rfl ?_
      exact am_Pn.rI h rfl
  · refine am_Pn.bl 1 (y := (9, [some (.ref 64)], [.int (Int32.ofInt (-1))], sg_h s, 0, 0)) rfl ?_
    exact am_Pn.rI h rfl
def wp_M_must (Ψ : sg_S → Prop) (x1 : Int32) (s : sg_S) : Prop := (((0) < (s.1 64 6).toInt → (Ψ s)) ∧ (¬ (0) < (s.1 64 6).toInt → (((s.1 64 5).toInt = (3) → ((s.2.1 64 8 = x1.toInt64 → (am_SpV 152 [.ref 64] s (fun s3 => (Ψ s3)))) ∧ (¬ s.2.1 64 8 = x1.toInt64 → (am_SpV 157 [.ref 64, .int (Int32.ofInt (1))] s (fun s4 => (Ψ s4)))))) ∧ (¬ (s.1 64 5).toInt = (3) → (am_SpV 157 [.ref 64, .int (Int32.ofInt (1))] s (fun s2 => (Ψ s2)))))))
set_option maxRecDepth 100000 in
theorem wp_M_must_ok {Ψ : sg_S → Prop} {x1 : Int32} {s : sg_S} (h : wp_M_must Ψ x1 s) : am_SpV 162 [.ref 64, .int x1] s Ψ := by
  refine am_SpV.mk (r := am_r162) rfl rfl (fun call d al n hcl => ?_)
  unfold wp_M_must at h
  refine am_Pn.bl 1 (y := (1, [some (.ref 64), some (.int x1)], [.ref 64], sg_h s, 0, 0)) rfl ?_
  refine am_Pn.gi (k := 6) rfl rfl am_o64 rfl rfl ?_
  refine am_Pn.zF h (am_ble rfl rfl) rfl rfl (fun h => ?_) (fun h => ?_)
  · refine am_Pn.bl 1 (y := (9, [some (.ref 64), some (.int x1)], [.ref 64], sg_h s, 0, 0)) rfl ?_
    refine am_Pn.gi (k := 5) rfl rfl am_o64 rfl rfl ?_
    refine am_Pn.bl 1 (y := (13, [some (.ref 64), some (.int x1)], [.int (Int32.ofInt (3)), .int (s.1 64 5)], sg_h s, 0, 0)) rfl ?_
    refine am_Pn.bF h (am_bne rfl rfl) rfl rfl (fun h => ?_) (fun h => ?_)
    · refine am_Pn.bl 2 (y := (28, [some (.ref 64), some (.int x1)], [.int (Int32.ofInt (1)), .ref 64], sg_h s, 0, 0)) rfl ?_
      refine am_Pn.cvV hcl h rfl rfl rfl rfl rfl (fun s2 h => ?_)
      refine am_Pn.bl 1 (y := (38, [some (.ref 64), some (.int x1)], [], sg_h s2, 0, 0)) rfl ?_
      exact am_Pn.rV h rfl
    · refine am_Pn.bl 1 (y := (17, [some (.ref 64), some (.int x1)], [.ref 64], sg_h s, 0, 0)) rfl ?_
      refine am_Pn.gl (k := 8) rfl rfl am_o64 rfl rfl ?_
      refine am_Pn.bl 3 (y := (23, [some (.ref 64), some (.int x1)], [.int (lg_cmp (s.2.1 64 8) (x1.toInt64))], sg_h s, 0, 0)) rfl ?_
      refine am_Pn.zT h (am_leq) rfl rfl (fun h => ?_) (fun h => ?_)
      · refine am_Pn.bl 1 (y := (35, [some (.ref 64), some (.int x1)], [.ref 64], sg_h s, 0, 0)) rfl ?_
        refine am_Pn.cvV hcl h rfl rfl rfl rfl rfl (fun s3 h => ?_)
        exact am_Pn.rV h rfl
      · refine am_Pn.bl 2 (y := (28, [some (.ref 64), some (.int x1)], [.int (Int32.ofInt (1)), .ref 64], sg_h s, 0, 0)) rfl ?_
        refine am_Pn.cvV hcl h rfl rfl rfl rfl rfl (fun s4 h => ?_)
        refine am_Pn.bl 1 (y := (38, [some (.ref 64), some (.int x1)], [], sg_h s4, 0, 0)) rfl ?_
        exact am_Pn.rV h rfl
  · exact am_Pn.rV h rfl
def wp_M_number (Ψ : Int32 → sg_S → Prop) (x1 : Int32) (x2 : Int32) (s : sg_S) : Prop := (((0) < (s.1 64 6).toInt → (Ψ (Int32.ofInt (0)) s)) ∧ (¬ (0) < (s.1 64 6).toInt → (((s.1 64 5).toInt = (2) → (((s.2.1 64 8).toInt < (x1.toInt64).toInt → (am_SpV 157 [.ref 64, .int (Int32.ofInt (5))] s (fun s3 => (Ψ (Int32.ofInt (0)) s3)))) ∧ (¬ (s.2.1 64 8).toInt < (x1.toInt64).toInt → (((x2.toInt64).toInt < (s.2.1 64 8).toInt → (am_SpV 157 [.ref 64, .int (Int32.ofInt (5))] s (fun s5 => (Ψ (Int32.ofInt (0)) s5)))) ∧ (¬ (x2.toInt64).toInt < (s.2.1 64 8).toInt → (am_SpV 152 [.ref 64] s (fun s4 => (Ψ ((s.2.1 64 8).toInt32) s4)))))))) ∧ (¬ (s.1 64 5).toInt = (2) → (am_SpV 157 [.ref 64, .int (Int32.ofInt (1))] s (fun s6 => (Ψ (Int32.ofInt (0)) s6)))))))
set_option maxRecDepth 100000 in
theorem wp_M_number_ok {Ψ : Int32 → sg_S → Prop} {x1 : Int32} {x2 : Int32} {s : sg_S} (h : wp_M_number Ψ x1 x2 s) : am_SpI 164 [.ref 64, .int x1, .int x2] s Ψ := by
  refine am_SpI.mk (r := am_r164) rfl rfl (fun call d al n hcl => ?_)
  unfold wp_M_number at h
  refine am_Pn.bl 1 (y := (1, [some (.ref 64), some (.int x1), some (.int x2), none], [.ref 64], sg_h s, 0, 0)) rfl ?_
  refine am_Pn.gi (k := 6) rfl rfl am_o64 rfl rfl ?_
  refine am_Pn.zF h (am_ble rfl rfl) rfl rfl (fun h => ?_) (fun h => ?_)
  · refine am_Pn.bl 1 (y := (10, [some (.ref 64), some (.int x1), some (.int x2), none], [.ref 64], sg_h s, 0, 0)) rfl ?_
    refine am_Pn.gi (k := 5) rfl rfl am_o64 rfl rfl ?_
    refine am_Pn.bl 1 (y := (14, [some (.ref 64), some (.int x1), some (.int x2), none], [.int (Int32.ofInt (2)), .int (s.1 64 5)], sg_h s, 0, 0)) rfl ?_
    refine am_Pn.bT h (am_beq rfl rfl) rfl rfl (fun h => ?_) (fun h => ?_)
    · refine am_Pn.bl 1 (y := (25, [some (.ref 64), some (.int x1), some (.int x2), none], [.ref 64], sg_h s, 0, 0)) rfl ?_
      refine am_Pn.gl (k := 8) rfl rfl am_o64 rfl rfl ?_
      refine am_Pn.bl 3 (y := (31, [some (.ref 64), some (.int x1), some (.int x2), none], [.int (lg_cmp (s.2.1 64 8) (x1.toInt64))], sg_h s, 0, 0)) rfl ?_
      refine am_Pn.zT h (am_llt) rfl rfl (fun h => ?_) (fun h => ?_)
      · refine am_Pn.bl 2 (y := (46, [some (.ref 64), some (.int x1), some (.int x2), none], [.int (Int32.ofInt (5)), .ref 64], sg_h s, 0, 0)) rfl ?_
        refine am_Pn.cvV hcl h rfl rfl rfl rfl rfl (fun s3 h => ?_)
        refine am_Pn.bl 1 (y := (50, [some (.ref 64), some (.int x1), some (.int x2), none], [.int (Int32.ofInt (0))], sg_h s3, 0, 0)) rfl ?_
        exact am_Pn.rI h rfl
      · refine am_Pn.bl 1 (y := (35, [some (.ref 64), some (.int x1), some (.int x2), none], [.ref 64], sg_h s, 0, 0)) rfl ?_
        refine am_Pn.gl (k := 8) rfl rfl am_o64 rfl rfl ?_
        refine am_Pn.bl 3 (y := (41, [some (.ref 64), some (.int x1), some (.int x2), none], [.int (lg_cmp (s.2.1 64 8) (x2.toInt64))], sg_h s, 0, 0)) rfl ?_
        refine am_Pn.zF h (am_lle) rfl rfl (fun h => ?_) (fun h => ?_)
        · refine am_Pn.bl 1 (y := (52, [some (.ref 64), some (.int x1), some (.int x2), none], [.ref 64], sg_h s, 0, 0)) rfl ?_
          refine am_Pn.gl (k := 8) rfl rfl am_o64 rfl rfl ?_
          refine am_Pn.bl 3 (y := (58, [some (.ref 64), some (.int x1), some (.int x2), some (.int ((s.2.1 64 8).toInt32))], [.ref 64], sg_h s, 0, 0)) rfl ?_
          refine am_Pn.cvV hcl h rfl rfl rfl rfl rfl (fun s4 h => ?_)
          refine am_Pn.bl 1 (y := (62, [some (.ref 64), some (.int x1), some (.int x2), some (.int ((s.2.1 64 8).toInt32))], [.int ((s.2.1 64 8).toInt32)], sg_h s4, 0, 0)) rfl ?_
          exact am_Pn.rI h rfl
        · refine am_Pn.bl 2 (y := (46, [some (.ref 64), some (.int x1), some (.int x2), none], [.int (Int32.ofInt (5)), .ref 64], sg_h s, 0, 0)) rfl ?_
          refine am_Pn.cvV hcl h rfl rfl rfl rfl rfl (fun s5 h => ?_)
          refine am_Pn.bl 1 (y := (50, [some (.ref 64), some (.int x1), some (.int x2), none], [.int (Int32.ofInt (0))], sg_h s5, 0, 0)) rfl ?_
          exact am_Pn.rI h rfl
    · refine am_Pn.bl 2 (y := (19, [some (.ref 64), some (.int x1), some (.int x2), none], [.int (Int32.ofInt (1)), .ref 64], sg_h s, 0, 0)) rfl ?_
      refine am_Pn.cvV hcl h rfl rfl rfl rfl rfl (fun s6 h => ?_)
      refine am_Pn.bl 1 (y := (23, [some (.ref 64), some (.int x1), some (.int x2), none], [.int (Int32.ofInt (0))], sg_h s6, 0, 0)) rfl ?_
      exact am_Pn.rI h rfl
  · refine am_Pn.bl 1 (y := (8, [some (.ref 64), some (.int x1), some (.int x2), none], [.int (Int32.ofInt (0))], sg_h s, 0, 0)) rfl ?_
    exact am_Pn.rI h rfl
def wp_M_nameHere_2 (I2 : Int32 →  sg_S → Prop) (Ψ : Int32 → sg_S → Prop) (l1 : Int32) (s : sg_S) : Prop := ((l1.toInt < (s.1 64 16).toInt → (0 ≤ l1.toInt → l1.toInt < (16) → ((s.2.2.2.1 66 (l1.toInt.toNat) = s.2.1 64 8 → (Ψ l1 s)) ∧ (¬ s.2.2.2.1 66 (l1.toInt.toNat) = s.2.1 64 8 → (I2 (l1 + Int32.ofInt (1)) s))))) ∧ (¬ l1.toInt < (s.1 64 16).toInt → (Ψ (Int32.ofInt (-1)) s)))
def wp_M_nameHere (I2 : Int32 →  sg_S → Prop) (Ψ : Int32 → sg_S → Prop) (s : sg_S) : Prop := (I2 (Int32.ofInt (0)) s)
set_option maxRecDepth 100000 in
theorem wp_M_nameHere_ok {I2 : Int32 →  sg_S → Prop} {Ψ : Int32 → sg_S → Prop} {s : sg_S} (k2 : ∀ (l1 : Int32) (s : sg_S), I2 l1 s → wp_M_nameHere_2 I2 Ψ  l1 s) (h : wp_M_nameHere I2 Ψ  s) : am_SpI 159 [.ref 64] s Ψ := by
  refine am_SpI.mk (r := am_r159) rfl rfl (fun call d al n hcl => ?_)
  have key : ∀ n, (∀ (l1 : Int32) (s : sg_S), I2 l1 s → am_Pn call d (0, fun _ => 0) al am_r159 (am_PhI am_r159 Ψ) n (2, [some (.ref 64), some (.int l1)], [], sg_h s, 0, 0)) := by
    intro n
    induction n with
    | zero => exact fun _ _ _ => am_Pn.zero
    | succ n ih =>
      intro l1 s h
      replace h := k2 l1 s h
      unfold wp_M_nameHere_2 at h
      refine am_Pn.bl1 1 (y := (4, [some (.ref 64), some (.int l1)], [.ref 64, .int l1], sg_h s, 0, 0)) rfl ?_
      refine am_Pn.gi (k := 16) rfl rfl am_o64 rfl rfl ?_
      refine am_Pn.bF h (am_bge rfl rfl) rfl rfl (fun h => ?_) (fun h => ?_)
      · refine am_Pn.bl 1 (y := (33, [some (.ref 64), some (.int l1)], [.int (Int32.ofInt (-1))], sg_h s, 0, 0)) rfl ?_
        exact am_Pn.rI h rfl
      · refine am_Pn.bl 1 (y := (11, [some (.ref 64), some (.int l1)], [.ref 64], sg_h s, 0, 0)) rfl ?_
        refine am_Pn.gr (k := 14) rfl rfl am_o64 rfl rfl ?_
        refine am_Pn.bl 1 (y := (15, [some (.ref 64), some (.int l1)], [.int l1, .ref 66], sg_h s, 0, 0)) rfl ?_
        refine am_Pn.la (a := 66) rfl rfl rfl (fun hi => ?_)
        replace h := h (am_in0 hi) (am_in1 hi)
        refine am_Pn.bl 1 (y := (17, [some (.ref 64), some (.int l1)], [.ref 64, .long (s.2.2.2.1 66 (l1.toInt.toNat))], sg_h s, 0, 0)) rfl ?_
        refine am_Pn.gl (k := 8) rfl rfl am_o64 rfl rfl ?_
        refine am_Pn.bl 1 (y := (21, [some (.ref 64), some (.int l1)], [.int (lg_cmp (s.2.2.2.1 66 (l1.toInt.toNat)) (s.2.1 64 8))], sg_h s, 0, 0)) rfl ?_
        refine am_Pn.zF h (am_lne) rfl rfl (fun h => ?_) (fun h => ?_)
        · refine am_Pn.bl 2 (y := (2, [some (.ref 64), some (.int (l1 + Int32.ofInt (1)))], [], sg_h s, 0, 0)) rfl ?_
          exact (ih) (l1 + Int32.ofInt (1)) s h
        · refine am_Pn.bl 1 (y := (25, [some (.ref 64), some (.int l1)], [.int l1], sg_h s, 0, 0)) rfl ?_
          exact am_Pn.rI h rfl
  unfold wp_M_nameHere at h
  refine am_Pn.bl 2 (y := (2, [some (.ref 64), some (.int (Int32.ofInt (0)))], [], sg_h s, 0, 0)) rfl ?_
  exact ((key n)) (Int32.ofInt (0)) s h
def wp_M_name (Ψ : Int32 → sg_S → Prop) (s : sg_S) : Prop := (((0) < (s.1 64 6).toInt → (Ψ (Int32.ofInt (0)) s)) ∧ (¬ (0) < (s.1 64 6).toInt → (((s.1 64 5).toInt = (1) → (am_SpI 156 [.ref 64] s (fun x2 s2 => ((x2.toInt = (-1) → (am_SpI 159 [.ref 64] s2 (fun x3 s3 => ((x3.toInt = (-1) → (am_SpV 157 [.ref 64, .int (Int32.ofInt (4))] s3 (fun s5 => (Ψ (Int32.ofInt (0)) s5)))) ∧ (¬ x3.toInt = (-1) → (am_SpV 152 [.ref 64] s3 (fun s4 => (0 ≤ x3.toInt → x3.toInt < (16) → (Ψ (s4.2.2.1 67 (x3.toInt.toNat)) s4))))))))) ∧ (¬ x2.toInt = (-1) → (am_SpV 157 [.ref 64, .int (Int32.ofInt (1))] s2 (fun s6 => (Ψ (Int32.ofInt (0)) s6)))))))) ∧ (¬ (s.1 64 5).toInt = (1) → (am_SpV 157 [.ref 64, .int (Int32.ofInt (1))] s (fun s1 => (Ψ (Int32.ofInt (0)) s1)))))))
set_option maxRecDepth 100000 in
theorem wp_M_name_ok {Ψ : Int32 → sg_S → Prop} {s : sg_S} (h : wp_M_name Ψ  s) : am_SpI 163 [.ref 64] s Ψ := by
  refine am_SpI.mk (r := am_r163) rfl rfl (fun call d al n hcl => ?_)
  unfold wp_M_name at h
  refine am_Pn.bl 1 (y := (1, [some (.ref 64), none], [.ref 64], sg_h s, 0, 0)) rfl ?_
  refine am_Pn.gi (k := 6) rfl rfl am_o64 rfl rfl ?_
  refine am_Pn.zF h (am_ble rfl rfl) rfl rfl (fun h => ?_) (fun h => ?_)
  · refine am_Pn.bl 1 (y := (10, [some (.ref 64), none], [.ref 64], sg_h s, 0, 0)) rfl ?_
    refine am_Pn.gi (k := 5) rfl rfl am_o64 rfl rfl ?_
    refine am_Pn.bl 1 (y := (14, [some (.ref 64), none], [.int (Int32.ofInt (1)), .int (s.1 64 5)], sg_h s, 0, 0)) rfl ?_
    refine am_Pn.bF h (am_bne rfl rfl) rfl rfl (fun h => ?_) (fun h => ?_)
    · refine am_Pn.bl 2 (y := (27, [some (.ref 64), none], [.int (Int32.ofInt (1)), .ref 64], sg_h s, 0, 0)) rfl ?_
      refine am_Pn.cvV hcl h rfl rfl rfl rfl rfl (fun s1 h => ?_)
      refine am_Pn.bl 1 (y := (31, [some (.ref 64), none], [.int (Int32.ofInt (0))], sg_h s1, 0, 0)) rfl ?_
      exact am_Pn.rI h rfl
    · refine am_Pn.bl 1 (y := (18, [some (.ref 64), none], [.ref 64], sg_h s, 0, 0)) rfl ?_
      refine am_Pn.cvI hcl h rfl rfl rfl rfl rfl (fun x2 s2 h => ?_)
      refine am_Pn.bl 1 (y := (22, [some (.ref 64), none], [.int (Int32.ofInt (-1)), .int x2], sg_h s2, 0, 0)) rfl ?_
      refine am_Pn.bT h (am_beq rfl rfl) rfl rfl (fun h => ?_) (fun h => ?_)
      · refine am_Pn.bl 1 (y := (33, [some (.ref 64), none], [.ref 64], sg_h s2, 0, 0)) rfl ?_
        refine am_Pn.cvI hcl h rfl rfl rfl rfl rfl (fun x3 s3 h => ?_)
        refine am_Pn.bl 3 (y := (39, [some (.ref 64), some (.int x3)], [.int (Int32.ofInt (-1)), .int x3], sg_h s3, 0, 0)) rfl ?_
        refine am_Pn.bF h (am_bne rfl rfl) rfl rfl (fun h => ?_) (fun h => ?_)
        · refine am_Pn.bl 1 (y := (50, [some (.ref 64), some (.int x3)], [.ref 64], sg_h s3, 0, 0)) rfl ?_
          refine am_Pn.cvV hcl h rfl rfl rfl rfl rfl (fun s4 h => ?_)
          refine am_Pn.bl 1 (y := (54, [some (.ref 64), some (.int x3)], [.ref 64], sg_h s4, 0, 0)) rfl ?_
          refine am_Pn.gr (k := 15) rfl rfl am_o64 rfl rfl ?_
          refine am_Pn.bl 1 (y := (58, [some (.ref 64), some (.int x3)], [.int x3, .ref 67], sg_h s4, 0, 0)) rfl ?_
          refine am_Pn.ia (a := 67) rfl rfl rfl rfl (fun hi => ?_)
          replace h := h (am_in0 hi) (am_in1 hi)
          exact am_Pn.rI h rfl
        · refine am_Pn.bl 2 (y := (44, [some (.ref 64), some (.int x3)], [.int (Int32.ofInt (4)), .ref 64], sg_h s3, 0, 0)) rfl ?_
          refine am_Pn.cvV hcl h rfl rfl rfl rfl rfl (fun s5 h => ?_)
          refine am_Pn.bl 1 (y := (48, [some (.ref 64), some (.int x3)], [.int (Int32.ofInt (0))], sg_h s5, 0, 0)) rfl ?_
          exact am_Pn.rI h rfl
      · refine am_Pn.bl 2 (y := (27, [some (.ref 64), none], [.int (Int32.ofInt (1)), .ref 64], sg_h s2, 0, 0)) rfl ?_
        refine am_Pn.cvV hcl h rfl rfl rfl rfl rfl (fun s6 h => ?_)
        refine am_Pn.bl 1 (y := (31, [some (.ref 64), none], [.int (Int32.ofInt (0))], sg_h s6, 0, 0)) rfl ?_
        exact am_Pn.rI h rfl
  · refine am_Pn.bl 1 (y := (8, [some (.ref 64), none], [.int (Int32.ofInt (0))], sg_h s, 0, 0)) rfl ?_
    exact am_Pn.rI h rfl
def wp_M_freshName (Ψ : Int64 → sg_S → Prop) (s : sg_S) : Prop := (((0) < (s.1 64 6).toInt → (Ψ (Int64.ofNat 0) s)) ∧ (¬ (0) < (s.1 64 6).toInt → (((s.1 64 5).toInt = (1) → (am_SpI 156 [.ref 64] s (fun x2 s2 => ((x2.toInt = (-1) → (am_SpI 159 [.ref 64] s2 (fun x3 s3 => ((x3.toInt = (-1) → (am_SpV 152 [.ref 64] s3 (fun s4 => (Ψ (s3.2.1 64 8) s4)))) ∧ (¬ x3.toInt = (-1) → (am_SpV 157 [.ref 64, .int (Int32.ofInt (3))] s3 (fun s5 => (Ψ (Int64.ofNat 0) s5)))))))) ∧ (¬ x2.toInt = (-1) → (am_SpV 157 [.ref 64, .int (Int32.ofInt (1))] s2 (fun s6 => (Ψ (Int64.ofNat 0) s6)))))))) ∧ (¬ (s.1 64 5).toInt = (1) → (am_SpV 157 [.ref 64, .int (Int32.ofInt (1))] s (fun s1 => (Ψ (Int64.ofNat 0) s1)))))))
set_option maxRecDepth 100000 in
theorem wp_M_freshName_ok {Ψ : Int64 → sg_S → Prop} {s : sg_S} (h : wp_M_freshName Ψ  s) : am_SpL 158 [.ref 64] s Ψ := by
  refine am_SpL.mk (r := am_r158) rfl rfl (fun call d al n hcl => ?_)
  unfold wp_M_freshName at h
  refine am_Pn.bl 1 (y := (1, [some (.ref 64), none, none], [.ref 64], sg_h s, 0, 0)) rfl ?_
  refine am_Pn.gi (k := 6) rfl rfl am_o64 rfl rfl ?_
  refine am_Pn.zF h (am_ble rfl rfl) rfl rfl (fun h => ?_) (fun h => ?_)
  · refine am_Pn.bl 1 (y := (10, [some (.ref 64), none, none], [.ref 64], sg_h s, 0, 0)) rfl ?_
    refine am_Pn.gi (k := 5) rfl rfl am_o64 rfl rfl ?_
    refine am_Pn.bl 1 (y := (14, [some (.ref 64), none, none], [.int (Int32.ofInt (1)), .int (s.1 64 5)], sg_h s, 0, 0)) rfl ?_
    refine am_Pn.bF h (am_bne rfl rfl) rfl rfl (fun h => ?_) (fun h => ?_)
    · refine am_Pn.bl 2 (y := (27, [some (.ref 64), none, none], [.int (Int32.ofInt (1)), .ref 64], sg_h s, 0, 0)) rfl ?_
      refine am_Pn.cvV hcl h rfl rfl rfl rfl rfl (fun s1 h => ?_)
      refine am_Pn.bl 1 (y := (31, [some (.ref 64), none, none], [.long (Int64.ofNat 0)], sg_h s1, 0, 0)) rfl ?_
      exact am_Pn.rL h rfl
    · refine am_Pn.bl 1 (y := (18, [some (.ref 64), none, none], [.ref 64], sg_h s, 0, 0)) rfl ?_
      refine am_Pn.cvI hcl h rfl rfl rfl rfl rfl (fun x2 s2 h => ?_)
      refine am_Pn.bl 1 (y := (22, [some (.ref 64), none, none], [.int (Int32.ofInt (-1)), .int x2], sg_h s2, 0, 0)) rfl ?_
      refine am_Pn.bT h (am_beq rfl rfl) rfl rfl (fun h => ?_) (fun h => ?_)
      · refine am_Pn.bl 1 (y := (33, [some (.ref 64), none, none], [.ref 64], sg_h s2, 0, 0)) rfl ?_
        refine am_Pn.cvI hcl h rfl rfl rfl rfl rfl (fun x3 s3 h => ?_)
        refine am_Pn.bl 1 (y := (37, [some (.ref 64), none, none], [.int (Int32.ofInt (-1)), .int x3], sg_h s3, 0, 0)) rfl ?_
        refine am_Pn.bT h (am_beq rfl rfl) rfl rfl (fun h => ?_) (fun h => ?_)
        · refine am_Pn.bl 1 (y := (48, [some (.ref 64), none, none], [.ref 64], sg_h s3, 0, 0)) rfl ?_
          refine am_Pn.gl (k := 8) rfl rfl am_o64 rfl rfl ?_
          refine am_Pn.bl 2 (y := (53, [some (.ref 64), some (.long (s3.2.1 64 8)), none], [.ref 64], sg_h s3, 0, 0)) rfl ?_
          refine am_Pn.cvV hcl h rfl rfl rfl rfl rfl (fun s4 h => ?_)
          refine am_Pn.bl 1 (y := (57, [some (.ref 64), some (.long (s3.2.1 64 8)), none], [.long (s3.2.1 64 8)], sg_h s4, 0, 0)) rfl ?_
          exact am_Pn.rL h rfl
        · refine am_Pn.bl 2 (y := (42, [some (.ref 64), none, none], [.int (Int32.ofInt (3)), .ref 64], sg_h s3, 0, 0)) rfl ?_
          refine am_Pn.cvV hcl h rfl rfl rfl rfl rfl (fun s5 h => ?_)
          refine am_Pn.bl 1 (y := (46, [some (.ref 64), none, none], [.long (Int64.ofNat 0)], sg_h s5, 0, 0)) rfl ?_
          exact am_Pn.rL h rfl
      · refine am_Pn.bl 2 (y := (27, [some (.ref 64), none, none], [.int (Int32.ofInt (1)), .ref 64], sg_h s2, 0, 0)) rfl ?_
        refine am_Pn.cvV hcl h rfl rfl rfl rfl rfl (fun s6 h => ?_)
        refine am_Pn.bl 1 (y := (31, [some (.ref 64), none, none], [.long (Int64.ofNat 0)], sg_h s6, 0, 0)) rfl ?_
        exact am_Pn.rL h rfl
  · refine am_Pn.bl 1 (y := (8, [some (.ref 64), none, none], [.long (Int64.ofNat 0)], sg_h s, 0, 0)) rfl ?_
    exact am_Pn.rL h rfl
def wp_M_names (Ψ : sg_S → Prop) (x1 : Int64) (x2 : Int32) (s : sg_S) : Prop := (0 ≤ (s.1 64 16).toInt → (s.1 64 16).toInt < (16) → (Ψ (sg_uI (sg_uA (sg_uM s 66 ((s.1 64 16).toInt.toNat) x1) 67 ((s.1 64 16).toInt.toNat) x2) 64 16 ((s.1 64 16) + (Int32.ofInt (1))))))
set_option maxRecDepth 100000 in
theorem wp_M_names_ok {Ψ : sg_S → Prop} {x1 : Int64} {x2 : Int32} {s : sg_S} (h : wp_M_names Ψ x1 x2 s) : am_SpV 160 [.ref 64, .long x1, .int x2] s Ψ := by
  refine am_SpV.mk (r := am_r160) rfl rfl (fun call d al n hcl => ?_)
  unfold wp_M_names at h
  refine am_Pn.bl 1 (y := (1, [some (.ref 64), some (.long x1), none, some (.int x2)], [.ref 64], sg_h s, 0, 0)) rfl ?_
  refine am_Pn.gr (k := 14) rfl rfl am_o64 rfl rfl ?_
  refine am_Pn.bl 1 (y := (5, [some (.ref 64), some (.long x1), none, some (.int x2)], [.ref 64, .ref 66], sg_h s, 0, 0)) rfl ?_
  refine am_Pn.gi (k := 16) rfl rfl am_o64 rfl rfl ?_
  refine am_Pn.bl 1 (y := (9, [some (.ref 64), some (.long x1), none, some (.int x2)], [.long x1, .int (s.1 64 16), .ref 66], sg_h s, 0, 0)) rfl ?_
  refine am_Pn.ls (a := 66) rfl rfl rfl (fun hi => ?_)
  replace h := h (am_in0 hi) (am_in1 hi)
  refine am_Pn.bl 1 (y := (11, [some (.ref 64), some (.long x1), none, some (.int x2)], [.ref 64], sg_h (sg_uM s 66 ((s.1 64 16).toInt.toNat) x1), 0, 0)) rfl ?_
  refine am_Pn.gr (k := 15) rfl rfl am_o64 rfl rfl ?_
  refine am_Pn.bl 1 (y := (15, [some (.ref 64), some (.long x1), none, some (.int x2)], [.ref 64, .ref 67], sg_h (sg_uM s 66 ((s.1 64 16).toInt.toNat) x1), 0, 0)) rfl ?_
  refine am_Pn.gi (k := 16) rfl rfl am_o64 rfl rfl ?_
  refine am_Pn.bl 1 (y := (19, [some (.ref 64), some (.long x1), none, some (.int x2)], [.int x2, .int (s.1 64 16), .ref 67], sg_h (sg_uM s 66 ((s.1 64 16).toInt.toNat) x1), 0, 0)) rfl ?_
  refine am_Pn.is (a := 67) rfl rfl rfl (fun hi => ?_)
  refine am_Pn.bl 2 (y := (22, [some (.ref 64), some (.long x1), none, some (.int x2)], [.ref 64, .ref 64], sg_h (sg_uA (sg_uM s 66 ((s.1 64 16).toInt.toNat) x1) 67 ((s.1 64 16).toInt.toNat) x2), 0, 0)) rfl ?_
  refine am_Pn.gi (k := 16) rfl rfl am_o64 rfl rfl ?_
  refine am_Pn.bl 2 (y := (27, [some (.ref 64), some (.long x1), none, some (.int x2)], [.int ((s.1 64 16) + (Int32.ofInt (1))), .ref 64], sg_h (sg_uA (sg_uM s 66 ((s.1 64 16).toInt.toNat) x1) 67 ((s.1 64 16).toInt.toNat) x2), 0, 0)) rfl ?_
  refine am_Pn.pi (k := 16) rfl rfl am_o64 rfl rfl ?_
  exact am_Pn.rV h rfl
