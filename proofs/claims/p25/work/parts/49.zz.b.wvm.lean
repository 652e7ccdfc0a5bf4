/-! ===== what M's verses ask (printed by wip/ab/vg_verse.py) ===== -/
def wp_M_told_4 (I4 : Int32 → Int32 →  sg_S → Prop) (Ψ : Int32 → sg_S → Prop) (x1 : Int32) (l2 : Int32) (l3 : Int32) (s : sg_S) : Prop := ((l3.toInt < (s.1 64 40).toInt → (0 ≤ l3.toInt → l3.toInt < (48) → (((s.2.2.1 83 (l3.toInt.toNat)).toInt = x1.toInt → (I4 (l2 + (Int32.ofInt (1))) (l3 + Int32.ofInt (1)) s)) ∧ (¬ (s.2.2.1 83 (l3.toInt.toNat)).toInt = x1.toInt → (I4 (l2 + (Int32.ofInt (0))) (l3 + Int32.ofInt (1)) s))))) ∧ (¬ l3.toInt < (s.1 64 40).toInt → (Ψ l2 s)))
def wp_M_told (I4 : Int32 → Int32 →  sg_S → Prop) (Ψ : Int32 → sg_S → Prop) (x1 : Int32) (s : sg_S) : Prop := (I4 (Int32.ofInt (0)) (Int32.ofInt (0)) s)
set_option maxRecDepth 100000 in
theorem wp_M_told_ok {I4 : Int32 → Int32 →  sg_S → Prop} {Ψ : Int32 → sg_S → Prop} {x1 : Int32} {s : sg_S} (k4 : ∀ (l2 : Int32) (l3 : Int32) (s : sg_S), I4 l2 l3 s → wp_M_told_4 I4 Ψ x1 l2 l3 s) (h : wp_M_told I4 Ψ x1 s) : am_SpI 170 [.ref 64, .int x1] s Ψ := by
  refine am_SpI.mk (r := am_r170) rfl rfl (fun call d al n hcl => ?_)
  have key : ∀ n, (∀ (l2 : Int32) (l3 : Int32) (s : sg_S), I4 l2 l3 s → am_Pn call d (0, fun _ => 0) al am_r170 (am_PhI am_r170 Ψ) n (4, [some (.ref 64), some (.int x1), some (.int l2), some (.int l3)], [], sg_h s, 0, 0)) := by
    intro n
    induction n with
    | zero => exact fun _ _ _ _ => am_Pn.zero
    | succ n ih =>
      intro l2 l3 s h
      replace h := k4 l2 l3 s h
      unfold wp_M_told_4 at h
      refine am_Pn.bl1 1 (y := (6, [some (.ref 64), some (.int x1), some (.int l2), some (.int l3)], [.ref 64, .int l3], sg_h s, 0, 0)) rfl ?_
      refine am_Pn.gi (k := 40) rfl rfl am_o64 rfl rfl ?_
      refine am_Pn.bF h (am_bge rfl rfl) rfl rfl (fun h => ?_) (fun h => ?_)
      · refine am_Pn.bl 1 (y := (37, [some (.ref 64), some (.int x1), some (.int l2), some (.int l3)], [.int l2], sg_h s, 0, 0)) rfl ?_
        exact am_Pn.rI h rfl
      · refine am_Pn.bl 2 (y := (14, [some (.ref 64), some (.int x1), some (.int l2), some (.int l3)], [.ref 64, .int l2], sg_h s, 0, 0)) rfl ?_
        refine am_Pn.gr (k := 41) rfl rfl am_o64 rfl rfl ?_
        refine am_Pn.bl 1 (y := (18, [some (.ref 64), some (.int x1), some (.int l2), some (.int l3)], [.int l3, .ref 83, .int l2], sg_h s, 0, 0)) rfl ?_
        refine am_Pn.ia (a := 83) rfl rfl rfl rfl (fun hi => ?_)
        replace h := h (am_in0 hi) (am_in1 hi)
        refine am_Pn.bl 1 (y := (20, [some (.ref 64), some (.int x1), some (.int l2), some (.int l3)], [.int x1, .int (s.2.2.1 83 (l3.toInt.toNat)), .int l2], sg_h s, 0, 0)) rfl ?_
        refine am_Pn.bF h (am_bne rfl rfl) rfl rfl (fun h => ?_) (fun h => ?_)
        · refine am_Pn.bl 5 (y := (4, [some (.ref 64), some (.int x1), some (.int (l2 + (Int32.ofInt (0)))), some (.int (l3 + Int32.ofInt (1)))], [], sg_h s, 0, 0)) rfl ?_
          exact (ih) (l2 + (Int32.ofInt (0))) (l3 + Int32.ofInt (1)) s h
        · refine am_Pn.bl 6 (y := (4, [some (.ref 64), some (.int x1), some (.int (l2 + (Int32.ofInt (1)))), some (.int (l3 + Int32.ofInt (1)))], [], sg_h s, 0, 0)) rfl ?_
          exact (ih) (l2 + (Int32.ofInt (1))) (l3 + Int32.ofInt (1)) s h
  unfold wp_M_told at h
  refine am_Pn.bl 4 (y := (4, [some (.ref 64), some (.int x1), some (.int (Int32.ofInt (0))), some (.int (Int32.ofInt (0)))], [], sg_h s, 0, 0)) rfl ?_
  exact ((key n)) (Int32.ofInt (0)) (Int32.ofInt (0)) s h
def wp_M_turn_17 (I17 : Int32 → Int32 →  sg_S → Prop) (I83 : Int32 →  sg_S → Prop) (Ψ : Int32 → sg_S → Prop) (l1 : Int32) (l2 : Int32) (s : sg_S) : Prop := ((l2.toInt < (s.1 64 30).toInt → (0 ≤ l2.toInt → l2.toInt < (12) → (((s.2.2.1 77 (l2.toInt.toNat)).toInt = (0) → ((l1.toInt = (-1) → (I83 l2 s)) ∧ (¬ l1.toInt = (-1) → (am_SpI 170 [.ref 64, .int l2] s (fun x1 s1 => (am_SpI 170 [.ref 64, .int l1] s1 (fun x2 s2 => ((x1.toInt < x2.toInt → (I83 l2 s2)) ∧ (¬ x1.toInt < x2.toInt → (am_SpI 170 [.ref 64, .int l2] s2 (fun x3 s3 => (am_SpI 170 [.ref 64, .int l1] s3 (fun x4 s4 => ((x3.toInt = x4.toInt → (0 ≤ l2.toInt → l2.toInt < (12) → (0 ≤ l1.toInt → l1.toInt < (12) → (((s4.2.2.1 76 (l2.toInt.toNat)).toInt < (s4.2.2.1 76 (l1.toInt.toNat)).toInt → (I83 l2 s4)) ∧ (¬ (s4.2.2.1 76 (l2.toInt.toNat)).toInt < (s4.2.2.1 76 (l1.toInt.toNat)).toInt → (I17 l1 (l2 + Int32.ofInt (1)) s4)))))) ∧ (¬ x3.toInt = x4.toInt → (I17 l1 (l2 + Int32.ofInt (1)) s4)))))))))))))))) ∧ (¬ (s.2.2.1 77 (l2.toInt.toNat)).toInt = (0) → (I17 l1 (l2 + Int32.ofInt (1)) s))))) ∧ (¬ l2.toInt < (s.1 64 30).toInt → (Ψ l1 s)))
def wp_M_turn_83 (I17 : Int32 → Int32 →  sg_S → Prop) (I83 : Int32 →  sg_S → Prop) (Ψ : Int32 → sg_S → Prop) (l2 : Int32) (s : sg_S) : Prop := (I17 l2 (l2 + Int32.ofInt (1)) s)
def wp_M_turn (I17 : Int32 → Int32 →  sg_S → Prop) (I83 : Int32 →  sg_S → Prop) (Ψ : Int32 → sg_S → Prop) (s : sg_S) : Prop := (((s.1 64 40).toInt = (s.1 64 24).toInt → (Ψ (Int32.ofInt (-1)) s)) ∧ (¬ (s.1 64 40).toInt = (s.1 64 24).toInt → (I17 (Int32.ofInt (-1)) (Int32.ofInt (0)) s)))
set_option maxRecDepth 100000 in
theorem wp_M_turn_ok {I17 : Int32 → Int32 →  sg_S → Prop} {I83 : Int32 →  sg_S → Prop} {Ψ : Int32 → sg_S → Prop} {s : sg_S} (k17 : ∀ (l1 : Int32) (l2 : Int32) (s : sg_S), I17 l1 l2 s → wp_M_turn_17 I17 I83 Ψ  l1 l2 s) (k83 : ∀ (l2 : Int32) (s : sg_S), I83 l2 s → wp_M_turn_83 I17 I83 Ψ  l2 s) (h : wp_M_turn I17 I83 Ψ  s) : am_SpI 169 [.ref 64] s Ψ := by
  refine am_SpI.mk (r := am_r169) rfl rfl (fun call d al n hcl => ?_)
  have key : ∀ n, (∀ (l1 : Int32) (l2 : Int32) (s : sg_S), I17 l1 l2 s → am_Pn call d (0, fun _ => 0) al am_r169 (am_PhI am_r169 Ψ) n (17, [some (.ref 64), some (.int l1), some (.int l2)], [], sg_h s, 0, 0)) ∧ (∀ (o1 : Option Value) (l2 : Int32) (s : sg_S), I83 l2 s → am_Pn call d (0, fun _ => 0) al am_r169 (am_PhI am_r169 Ψ) n (83, [some (.ref 64), o1, some (.int l2)], [], sg_h s, 0, 0)) := by
    intro n
    induction n with
    | zero => exact ⟨fun _ _ _ _ => am_Pn.zero, fun _ _ _ _ => am_Pn.zero⟩
    | succ n ih =>
      refine ⟨?_, ?_⟩
      · intro l1 l2 s h
        replace h := k17 l1 l2 s h
        unfold wp_M_turn_17 at h
        refine am_Pn.bl1 1 (y := (19, [some (.ref 64), some (.int l1), some (.int l2)], [.ref 64, .int l2], sg_h s, 0, 0)) rfl ?_
        refine am_Pn.gi (k := 30) rfl rfl am_o64 rfl rfl ?_
        refine am_Pn.bF h (am_bge rfl rfl) rfl rfl (fun h => ?_) (fun h => ?_)
        · refine am_Pn.bl 1 (y := (92, [some (.ref 64), some (.int l1), some (.int l2)], [.int l1], sg_h s, 0, 0)) rfl ?_
          exact am_Pn.rI h rfl
        · refine am_Pn.bl 1 (y := (26, [some (.ref 64), some (.int l1), some (.int l2)], [.ref 64], sg_h s, 0, 0)) rfl ?_
          refine am_Pn.gr (k := 32) rfl rfl am_o64 rfl rfl ?_
          refine am_Pn.bl 1 (y := (30, [some (.ref 64), some (.int l1), some (.int l2)], [.int l2, .ref 77], sg_h s, 0, 0)) rfl ?_
          refine am_Pn.ba (a := 77) rfl rfl rfl rfl (fun hi => ?_)
          replace h := h (am_in0 hi) (am_in1 hi)
          refine am_Pn.zT h (am_beq rfl rfl) rfl rfl (fun h => ?_) (fun h => ?_)
          · refine am_Pn.bl 2 (y := (39, [some (.ref 64), some (.int l1), some (.int l2)], [.int (Int32.ofInt (-1)), .int l1], sg_h s, 0, 0)) rfl ?_
            refine am_Pn.bT h (am_beq rfl rfl) rfl rfl (fun h => ?_) (fun h => ?_)
            · exact (ih.2) (some (.int l1)) l2 s h
            · refine am_Pn.bl 2 (y := (44, [some (.ref 64), some (.int l1), some (.int l2)], [.int l2, .ref 64], sg_h s, 0, 0)) rfl ?_
              refine am_Pn.cvI hcl h rfl rfl rfl rfl rfl (fun x1 s1 h => ?_)
              refine am_Pn.bl 2 (y := (49, [some (.ref 64), some (.int l1), some (.int l2)], [.int l1, .ref 64, .int x1], sg_h s1, 0, 0)) rfl ?_
              refine am_Pn.cvI hcl h rfl rfl rfl rfl rfl (fun x2 s2 h => ?_)
              refine am_Pn.bT h (am_blt rfl rfl) rfl rfl (fun h => ?_) (fun h => ?_)
              · exact (ih.2) (some (.int l1)) l2 s2 h
              · refine am_Pn.bl 2 (y := (57, [some (.ref 64), some (.int l1), some (.int l2)], [.int l2, .ref 64], sg_h s2, 0, 0)) rfl ?_
                refine am_Pn.cvI hcl h rfl rfl rfl rfl rfl (fun x3 s3 h => ?_)
                refine am_Pn.bl 2 (y := (62, [some (.ref 64), some (.int l1), some (.int l2)], [.int l1, .ref 64, .int x3], sg_h s3, 0, 0)) rfl ?_
                refine am_Pn.cvI hcl h rfl rfl rfl rfl rfl (fun x4 s4 h => ?_)
                refine am_Pn.bF h (am_bne rfl rfl) rfl rfl (fun h => ?_) (fun h => ?_)
                · refine am_Pn.bl 2 (y := (17, [some (.ref 64), some (.int l1), some (.int (l2 + Int32.ofInt (1)))], [], sg_h s4, 0, 0)) rfl ?_
                  exact (ih.1) l1 (l2 + Int32.ofInt (1)) s4 h
                · refine am_Pn.bl 1 (y := (69, [some (.ref 64), some (.int l1), some (.int l2)], [.ref 64], sg_h s4, 0, 0)) rfl ?_
                  refine am_Pn.gr (k := 31) rfl rfl am_o64 rfl rfl ?_
                  refine am_Pn.bl 1 (y := (73, [some (.ref 64), some (.int l1), some (.int l2)], [.int l2, .ref 76], sg_h s4, 0, 0)) rfl ?_
                  refine am_Pn.ia (a := 76) rfl rfl rfl rfl (fun hi => ?_)
                  replace h := h (am_in0 hi) (am_in1 hi)
                  refine am_Pn.bl 1 (y := (75, [some (.ref 64), some (.int l1), some (.int l2)], [.ref 64, .int (s4.2.2.1 76 (l2.toInt.toNat))], sg_h s4, 0, 0)) rfl ?_
                  refine am_Pn.gr (k := 31) rfl rfl am_o64 rfl rfl ?_
                  refine am_Pn.bl 1 (y := (79, [some (.ref 64), some (.int l1), some (.int l2)], [.int l1, .ref 76, .int (s4.2.2.1 76 (l2.toInt.toNat))], sg_h s4, 0, 0)) rfl ?_
                  refine am_Pn.ia (a := 76) rfl rfl rfl rfl (fun hi => ?_)
                  replace h := h (am_in0 hi) (am_in1 hi)
                  refine am_Pn.bF h (am_bge rfl rfl) rfl rfl (fun h => ?_) (fun h => ?_)
                  · refine am_Pn.bl 2 (y := (17, [some (.ref 64), some (.int l1), some (.int (l2 + Int32.ofInt (1)))], [], sg_h s4, 0, 0)) rfl ?_
                    exact (ih.1) l1 (l2 + Int32.ofInt (1)) s4 h
                  · exact (ih.2) (some (.int l1)) l2 s4 h
          · refine am_Pn.bl 3 (y := (17, [some (.ref 64), some (.int l1), some (.int (l2 + Int32.ofInt (1)))], [], sg_h s, 0, 0)) rfl ?_
            exact (ih.1) l1 (l2 + Int32.ofInt (1)) s h
      · intro o1 l2 s h
        replace h := k83 l2 s h
        unfold wp_M_turn_83 at h
        refine am_Pn.bl1 3 (y := (17, [some (.ref 64), some (.int l2), some (.int (l2 + Int32.ofInt (1)))], [], sg_h s, 0, 0)) rfl ?_
        exact (ih.1) l2 (l2 + Int32.ofInt (1)) s h
  unfold wp_M_turn at h
  refine am_Pn.bl 1 (y := (1, [some (.ref 64), none, none], [.ref 64], sg_h s, 0, 0)) rfl ?_
  refine am_Pn.gi (k := 40) rfl rfl am_o64 rfl rfl ?_
  refine am_Pn.bl 1 (y := (5, [some (.ref 64), none, none], [.ref 64, .int (s.1 64 40)], sg_h s, 0, 0)) rfl ?_
  refine am_Pn.gi (k := 24) rfl rfl am_o64 rfl rfl ?_
  refine am_Pn.bF h (am_bne rfl rfl) rfl rfl (fun h => ?_) (fun h => ?_)
  · refine am_Pn.bl 4 (y := (17, [some (.ref 64), some (.int (Int32.ofInt (-1))), some (.int (Int32.ofInt (0)))], [], sg_h s, 0, 0)) rfl ?_
    exact ((key n).1) (Int32.ofInt (-1)) (Int32.ofInt (0)) s h
  · refine am_Pn.bl 1 (y := (12, [some (.ref 64), none, none], [.int (Int32.ofInt (-1))], sg_h s, 0, 0)) rfl ?_
    exact am_Pn.rI h rfl
def wp_M_passes_9 (I9 : Int32 →  sg_S → Prop) (I35 : Int32 →  sg_S → Prop) (Ψ : sg_S → Prop) (x1 : Int32) (l2 : Int32) (s : sg_S) : Prop := ((l2.toInt < (s.1 64 30).toInt → (0 ≤ l2.toInt → l2.toInt < (12) → (((s.2.2.1 77 (l2.toInt.toNat)).toInt = (0) → (Ψ s)) ∧ (¬ (s.2.2.1 77 (l2.toInt.toNat)).toInt = (0) → (I9 (l2 + Int32.ofInt (1)) s))))) ∧ (¬ l2.toInt < (s.1 64 30).toInt → (I35 (Int32.ofInt (0)) s)))
def wp_M_passes_35 (I9 : Int32 →  sg_S → Prop) (I35 : Int32 →  sg_S → Prop) (Ψ : sg_S → Prop) (x1 : Int32) (l2 : Int32) (s : sg_S) : Prop := ((l2.toInt < (s.1 64 30).toInt → (0 ≤ l2.toInt → l2.toInt < (12) → (I35 (l2 + Int32.ofInt (1)) (sg_uA s 77 (l2.toInt.toNat) (vp_nar .boolean (Int32.ofInt (0))))))) ∧ (¬ l2.toInt < (s.1 64 30).toInt → (Ψ s)))
def wp_M_passes (I9 : Int32 →  sg_S → Prop) (I35 : Int32 →  sg_S → Prop) (Ψ : sg_S → Prop) (x1 : Int32) (s : sg_S) : Prop := (0 ≤ x1.toInt → x1.toInt < (12) → (I9 (Int32.ofInt (0)) (sg_uA s 77 (x1.toInt.toNat) (vp_nar .boolean (Int32.ofInt (1))))))
set_option maxRecDepth 100000 in
theorem wp_M_passes_ok {I9 : Int32 →  sg_S → Prop} {I35 : Int32 →  sg_S → Prop} {Ψ : sg_S → Prop} {x1 : Int32} {s : sg_S} (k9 : ∀ (l2 : Int32) (s : sg_S), I9 l2 s → wp_M_passes_9 I9 I35 Ψ x1 l2 s) (k35 : ∀ (l2 : Int32) (s : sg_S), I35 l2 s → wp_M_passes_35 I9 I35 Ψ x1 l2 s) (h : wp_M_passes I9 I35 Ψ x1 s) : am_SpV 172 [.ref 64, .int x1] s Ψ := by
  refine am_SpV.mk (r := am_r172) rfl rfl (fun call d al n hcl => ?_)
  have key : ∀ n, (∀ (l2 : Int32) (s : sg_S), I9 l2 s → am_Pn call d (0, fun _ => 0) al am_r172 (am_PhV am_r172 Ψ) n (9, [some (.ref 64), some (.int x1), some (.int l2)], [], sg_h s, 0, 0)) ∧ (∀ (l2 : Int32) (s : sg_S), I35 l2 s → am_Pn call d (0, fun _ => 0) al am_r172 (am_PhV am_r172 Ψ) n (35, [some (.ref 64), some (.int x1), some (.int l2)], [], sg_h s, 0, 0)) := by
    intro n
    induction n with
    | zero => exact ⟨fun _ _ _ => am_Pn.zero, fun _ _ _ => am_Pn.zero⟩
    | succ n ih =>
      refine ⟨?_, ?_⟩
      · intro l2 s h
        replace h := k9 l2 s h
        unfold wp_M_passes_9 at h
        refine am_Pn.bl1 1 (y := (11, [some (.ref 64), some (.int x1), some (.int l2)], [.ref 64, .int l2], sg_h s, 0, 0)) rfl ?_
        refine am_Pn.gi (k := 30) rfl rfl am_o64 rfl rfl ?_
        refine am_Pn.bF h (am_bge rfl rfl) rfl rfl (fun h => ?_) (fun h => ?_)
        · refine am_Pn.bl 2 (y := (35, [some (.ref 64), some (.int x1), some (.int (Int32.ofInt (0)))], [], sg_h s, 0, 0)) rfl ?_
          exact (ih.2) (Int32.ofInt (0)) s h
        · refine am_Pn.bl 1 (y := (18, [some (.ref 64), some (.int x1), some (.int l2)], [.ref 64], sg_h s, 0, 0)) rfl ?_
          refine am_Pn.gr (k := 32) rfl rfl am_o64 rfl rfl ?_
          refine am_Pn.bl 1 (y := (22, [some (.ref 64), some (.int x1), some (.int l2)], [.int l2, .ref 77], sg_h s, 0, 0)) rfl ?_
          refine am_Pn.ba (a := 77) rfl rfl rfl rfl (fun hi => ?_)
          replace h := h (am_in0 hi) (am_in1 hi)
          refine am_Pn.zF h (am_bne rfl rfl) rfl rfl (fun h => ?_) (fun h => ?_)
          · refine am_Pn.bl 2 (y := (9, [some (.ref 64), some (.int x1), some (.int (l2 + Int32.ofInt (1)))], [], sg_h s, 0, 0)) rfl ?_
            exact (ih.1) (l2 + Int32.ofInt (1)) s h
          · exact am_Pn.rV h rfl
      · intro l2 s h
        replace h := k35 l2 s h
        unfold wp_M_passes_35 at h
        refine am_Pn.bl1 1 (y := (37, [some (.ref 64), some (.int x1), some (.int l2)], [.ref 64, .int l2], sg_h s, 0, 0)) rfl ?_
        refine am_Pn.gi (k := 30) rfl rfl am_o64 rfl rfl ?_
        refine am_Pn.bF h (am_bge rfl rfl) rfl rfl (fun h => ?_) (fun h => ?_)
        · exact am_Pn.rV h rfl
        · refine am_Pn.bl 1 (y := (44, [some (.ref 64), some (.int x1), some (.int l2)], [.ref 64], sg_h s, 0, 0)) rfl ?_
          refine am_Pn.gr (k := 32) rfl rfl am_o64 rfl rfl ?_
          refine am_Pn.bl 2 (y := (49, [some (.ref 64), some (.int x1), some (.int l2)], [.int (Int32.ofInt (0)), .int l2, .ref 77], sg_h s, 0, 0)) rfl ?_
          refine am_Pn.bs (a := 77) rfl rfl rfl (fun hi => ?_)
          replace h := h (am_in0 hi) (am_in1 hi)
          refine am_Pn.bl 2 (y := (35, [some (.ref 64), some (.int x1), some (.int (l2 + Int32.ofInt (1)))], [], sg_h (sg_uA s 77 (l2.toInt.toNat) (vp_nar .boolean (Int32.ofInt (0)))), 0, 0)) rfl ?_
          exact (ih.2) (l2 + Int32.ofInt (1)) (sg_uA s 77 (l2.toInt.toNat) (vp_nar .boolean (Int32.ofInt (0)))) h
  unfold wp_M_passes at h
  refine am_Pn.bl 1 (y := (1, [some (.ref 64), some (.int x1), none], [.ref 64], sg_h s, 0, 0)) rfl ?_
  refine am_Pn.gr (k := 32) rfl rfl am_o64 rfl rfl ?_
  refine am_Pn.bl 2 (y := (6, [some (.ref 64), some (.int x1), none], [.int (Int32.ofInt (1)), .int x1, .ref 77], sg_h s, 0, 0)) rfl ?_
  refine am_Pn.bs (a := 77) rfl rfl rfl (fun hi => ?_)
  replace h := h (am_in0 hi) (am_in1 hi)
  refine am_Pn.bl 2 (y := (9, [some (.ref 64), some (.int x1), some (.int (Int32.ofInt (0)))], [], sg_h (sg_uA s 77 (x1.toInt.toNat) (vp_nar .boolean (Int32.ofInt (1)))), 0, 0)) rfl ?_
  exact ((key n).1) (Int32.ofInt (0)) (sg_uA s 77 (x1.toInt.toNat) (vp_nar .boolean (Int32.ofInt (1)))) h
def wp_M_pass (Ψ : Int32 → sg_S → Prop) (s : sg_S) : Prop := (am_SpI 169 [.ref 64] s (fun x1 s1 => ((x1.toInt = (-1) → (Ψ (Int32.ofInt (-1)) s1)) ∧ (¬ x1.toInt = (-1) → (am_SpV 172 [.ref 64, .int x1] s1 (fun s2 => (am_SpI 169 [.ref 64] s2 (fun x3 s3 => (Ψ x3 s3)))))))))
set_option maxRecDepth 100000 in
theorem wp_M_pass_ok {Ψ : Int32 → sg_S → Prop} {s : sg_S} (h : wp_M_pass Ψ  s) : am_SpI 171 [.ref 64] s Ψ := by
  refine am_SpI.mk (r := am_r171) rfl rfl (fun call d al n hcl => ?_)
  unfold wp_M_pass at h
  refine am_Pn.bl 1 (y := (1, [some (.ref 64), none], [.ref 64], sg_h s, 0, 0)) rfl ?_
  refine am_Pn.cvI hcl h rfl rfl rfl rfl rfl (fun x1 s1 h => ?_)
  refine am_Pn.bl 3 (y := (7, [some (.ref 64), some (.int x1)], [.int (Int32.ofInt (-1)), .int x1], sg_h s1, 0, 0)) rfl ?_
  refine am_Pn.bF h (am_bne rfl rfl) rfl rfl (fun h => ?_) (fun h => ?_)
  · refine am_Pn.bl 2 (y := (14, [some (.ref 64), some (.int x1)], [.int x1, .ref 64], sg_h s1, 0, 0)) rfl ?_
    refine am_Pn.cvV hcl h rfl rfl rfl rfl rfl (fun s2 h => ?_)
    refine am_Pn.bl 1 (y := (18, [some (.ref 64), some (.int x1)], [.ref 64], sg_h s2, 0, 0)) rfl ?_
    refine am_Pn.cvI hcl h rfl rfl rfl rfl rfl (fun x3 s3 h => ?_)
    exact am_Pn.rI h rfl
  · refine am_Pn.bl 1 (y := (11, [some (.ref 64), some (.int x1)], [.int (Int32.ofInt (-1))], sg_h s1, 0, 0)) rfl ?_
    exact am_Pn.rI h rfl
def wp_M_likingOf_5 (I5 : Int32 → Int32 →  sg_S → Prop) (I17 : Int32 → Int32 → Int32 →  sg_S → Prop) (Ψ : Int32 → sg_S → Prop) (x1 : Int32) (x2 : Int32) (l3 : Int32) (l4 : Int32) (s : sg_S) : Prop := ((l4.toInt < (s.1 64 21).toInt → (I17 l3 l4 (Int32.ofInt (0)) s)) ∧ (¬ l4.toInt < (s.1 64 21).toInt → (Ψ l3 s)))
def wp_M_likingOf_17 (I5 : Int32 → Int32 →  sg_S → Prop) (I17 : Int32 → Int32 → Int32 →  sg_S → Prop) (Ψ : Int32 → sg_S → Prop) (x1 : Int32) (x2 : Int32) (l3 : Int32) (l4 : Int32) (l5 : Int32) (s : sg_S) : Prop := ((l5.toInt < (s.1 64 21).toInt → ((((x1 >>> (l4 &&& 31)) &&& (Int32.ofInt (1))).toInt = (1) → ((((x2 >>> (l5 &&& 31)) &&& (Int32.ofInt (1))).toInt = (1) → (0 ≤ (((Int32.ofInt (8)) * l4) + l5).toInt → (((Int32.ofInt (8)) * l4) + l5).toInt < (64) → (I17 (l3 + (s.2.2.1 81 ((((Int32.ofInt (8)) * l4) + l5).toInt.toNat))) l4 (l5 + Int32.ofInt (1)) s))) ∧ (¬ ((x2 >>> (l5 &&& 31)) &&& (Int32.ofInt (1))).toInt = (1) → (I17 (l3 + (Int32.ofInt (0))) l4 (l5 + Int32.ofInt (1)) s)))) ∧ (¬ ((x1 >>> (l4 &&& 31)) &&& (Int32.ofInt (1))).toInt = (1) → (I17 (l3 + (Int32.ofInt (0))) l4 (l5 + Int32.ofInt (1)) s)))) ∧ (¬ l5.toInt < (s.1 64 21).toInt → (I5 l3 (l4 + Int32.ofInt (1)) s)))
def wp_M_likingOf (I5 : Int32 → Int32 →  sg_S → Prop) (I17 : Int32 → Int32 → Int32 →  sg_S → Prop) (Ψ : Int32 → sg_S → Prop) (x1 : Int32) (x2 : Int32) (s : sg_S) : Prop := (I5 (Int32.ofInt (0)) (Int32.ofInt (0)) s)
set_option maxRecDepth 100000 in
theorem wp_M_likingOf_ok {I5 : Int32 → Int32 →  sg_S → Prop} {I17 : Int32 → Int32 → Int32 →  sg_S → Prop} {Ψ : Int32 → sg_S → Prop} {x1 : Int32} {x2 : Int32} {s : sg_S} (k5 : ∀ (l3 : Int32) (l4 : Int32) (s : sg_S), I5 l3 l4 s → wp_M_likingOf_5 I5 I17 Ψ x1 x2 l3 l4 s) (k17 : ∀ (l3 : Int32) (l4 : Int32) (l5 : Int32) (s : sg_S), I17 l3 l4 l5 s → wp_M_likingOf_17 I5 I17 Ψ x1 x2 l3 l4 l5 s) (h : wp_M_likingOf I5 I17 Ψ x1 x2 s) : am_SpI 180 [.ref 64, .int x1, .int x2] s Ψ := by
  refine am_SpI.mk (r := am_r180) rfl rfl (fun call d al n hcl => ?_)
  have key : ∀ n, (∀ (o5 : Option Value) (l3 : Int32) (l4 : Int32) (s : sg_S), I5 l3 l4 s → am_Pn call d (0, fun _ => 0) al am_r180 (am_PhI am_r180 Ψ) n (5, [some (.ref 64), some (.int x1), some (.int x2), some (.int l3), some (.int l4), o5], [], sg_h s, 0, 0)) ∧ (∀ (l3 : Int32) (l4 : Int32) (l5 : Int32) (s : sg_S), I17 l3 l4 l5 s → am_Pn call d (0, fun _ => 0) al am_r180 (am_PhI am_r180 Ψ) n (17, [some (.ref 64), some (.int x1), some (.int x2), some (.int l3), some (.int l4), some (.int l5)], [], sg_h s, 0, 0)) := by
    intro n
    induction n with
    | zero => exact ⟨fun _ _ _ _ _ => am_Pn.zero, fun _ _ _ _ _ => am_Pn.zero⟩
    | succ n ih =>
      refine ⟨?_, ?_⟩
      · intro o5 l3 l4 s h
        replace h := k5 l3 l4 s h
        unfold wp_M_likingOf_5 at h
        refine am_Pn.bl1 1 (y := (8, [some (.ref 64), some (.int x1), some (.int x2), some (.int l3), some (.int l4), o5], [.ref 64, .int l4], sg_h s, 0, 0)) rfl ?_
        refine am_Pn.gi (k := 21) rfl rfl am_o64 rfl rfl ?_
        refine am_Pn.bF h (am_bge rfl rfl) rfl rfl (fun h => ?_) (fun h => ?_)
        · refine am_Pn.bl 1 (y := (79, [some (.ref 64), some (.int x1), some (.int x2), some (.int l3), some (.int l4), o5], [.int l3], sg_h s, 0, 0)) rfl ?_
          exact am_Pn.rI h rfl
        · refine am_Pn.bl 2 (y := (17, [some (.ref 64), some (.int x1), some (.int x2), some (.int l3), some (.int l4), some (.int (Int32.ofInt (0)))], [], sg_h s, 0, 0)) rfl ?_
          exact (ih.2) l3 l4 (Int32.ofInt (0)) s h
      · intro l3 l4 l5 s h
        replace h := k17 l3 l4 l5 s h
        unfold wp_M_likingOf_17 at h
        refine am_Pn.bl1 1 (y := (20, [some (.ref 64), some (.int x1), some (.int x2), some (.int l3), some (.int l4), some (.int l5)], [.ref 64, .int l5], sg_h s, 0, 0)) rfl ?_
        refine am_Pn.gi (k := 21) rfl rfl am_o64 rfl rfl ?_
        refine am_Pn.bF h (am_bge rfl rfl) rfl rfl (fun h => ?_) (fun h => ?_)
        · refine am_Pn.bl 2 (y := (5, [some (.ref 64), some (.int x1), some (.int x2), some (.int l3), some (.int (l4 + Int32.ofInt (1))), some (.int l5)], [], sg_h s, 0, 0)) rfl ?_
          exact (ih.1) (some (.int l5)) l3 (l4 + Int32.ofInt (1)) s h
        · refine am_Pn.bl 7 (y := (34, [some (.ref 64), some (.int x1), some (.int x2), some (.int l3), some (.int l4), some (.int l5)], [.int (Int32.ofInt (1)), .int ((x1 >>> (l4 &&& 31)) &&& (Int32.ofInt (1))), .int l3], sg_h s, 0, 0)) rfl ?_
          refine am_Pn.bF h (am_bne rfl rfl) rfl rfl (fun h => ?_) (fun h => ?_)
          · refine am_Pn.bl 5 (y := (17, [some (.ref 64), some (.int x1), some (.int x2), some (.int (l3 + (Int32.ofInt (0)))), some (.int l4), some (.int (l5 + Int32.ofInt (1)))], [], sg_h s, 0, 0)) rfl ?_
            exact (ih.2) (l3 + (Int32.ofInt (0))) l4 (l5 + Int32.ofInt (1)) s h
          · refine am_Pn.bl 6 (y := (44, [some (.ref 64), some (.int x1), some (.int x2), some (.int l3), some (.int l4), some (.int l5)], [.int (Int32.ofInt (1)), .int ((x2 >>> (l5 &&& 31)) &&& (Int32.ofInt (1))), .int l3], sg_h s, 0, 0)) rfl ?_
            refine am_Pn.bF h (am_bne rfl rfl) rfl rfl (fun h => ?_) (fun h => ?_)
            · refine am_Pn.bl 5 (y := (17, [some (.ref 64), some (.int x1), some (.int x2), some (.int (l3 + (Int32.ofInt (0)))), some (.int l4), some (.int (l5 + Int32.ofInt (1)))], [], sg_h s, 0, 0)) rfl ?_
              exact (ih.2) (l3 + (Int32.ofInt (0))) l4 (l5 + Int32.ofInt (1)) s h
            · refine am_Pn.bl 1 (y := (48, [some (.ref 64), some (.int x1), some (.int x2), some (.int l3), some (.int l4), some (.int l5)], [.ref 64, .int l3], sg_h s, 0, 0)) rfl ?_
              refine am_Pn.gr (k := 38) rfl rfl am_o64 rfl rfl ?_
              refine am_Pn.bl 5 (y := (59, [some (.ref 64), some (.int x1), some (.int x2), some (.int l3), some (.int l4), some (.int l5)], [.int (((Int32.ofInt (8)) * l4) + l5), .ref 81, .int l3], sg_h s, 0, 0)) rfl ?_
              refine am_Pn.ia (a := 81) rfl rfl rfl rfl (fun hi => ?_)
              replace h := h (am_in0 hi) (am_in1 hi)
              refine am_Pn.bl 5 (y := (17, [some (.ref 64), some (.int x1), some (.int x2), some (.int (l3 + (s.2.2.1 81 ((((Int32.ofInt (8)) * l4) + l5).toInt.toNat)))), some (.int l4), some (.int (l5 + Int32.ofInt (1)))], [], sg_h s, 0, 0)) rfl ?_
              exact (ih.2) (l3 + (s.2.2.1 81 ((((Int32.ofInt (8)) * l4) + l5).toInt.toNat))) l4 (l5 + Int32.ofInt (1)) s h
  unfold wp_M_likingOf at h
  refine am_Pn.bl 4 (y := (5, [some (.ref 64), some (.int x1), some (.int x2), some (.int (Int32.ofInt (0))), some (.int (Int32.ofInt (0))), none], [], sg_h s, 0, 0)) rfl ?_
  exact ((key n).1) none (Int32.ofInt (0)) (Int32.ofInt (0)) s h
def wp_M_areLinked (Ψ : Int32 → sg_S → Prop) (x1 : Int32) (x2 : Int32) (s : sg_S) : Prop := (((x1 &&& x2).toInt = (0) → (am_SpI 180 [.ref 64, .int x1, .int x2] s (fun x3 s3 => (((0) < x3.toInt → (Ψ (Int32.ofInt (1)) s3)) ∧ (¬ (0) < x3.toInt → (Ψ (Int32.ofInt (0)) s3)))))) ∧ (¬ (x1 &&& x2).toInt = (0) → (Ψ (Int32.ofInt (1)) s)))
set_option maxRecDepth 100000 in
theorem wp_M_areLinked_ok {Ψ : Int32 → sg_S → Prop} {x1 : Int32} {x2 : Int32} {s : sg_S} (h : wp_M_areLinked Ψ x1 x2 s) : am_SpI 190 [.ref 64, .int x1, .int x2] s Ψ := by
  refine am_SpI.mk (r := am_r190) rfl rfl (fun call d al n hcl => ?_)
  unfold wp_M_areLinked at h
  refine am_Pn.bl 3 (y := (3, [some (.ref 64), some (.int x1), some (.int x2)], [.int (x1 &&& x2)], sg_h s, 0, 0)) rfl ?_
  refine am_Pn.zF h (am_bne rfl rfl) rfl rfl (fun h => ?_) (fun h => ?_)
  · refine am_Pn.bl 2 (y := (20, [some (.ref 64), some (.int x1), some (.int x2)], [.int (Int32.ofInt (1))], sg_h s, 0, 0)) rfl ?_
    exact am_Pn.rI h rfl
  · refine am_Pn.bl 3 (y := (9, [some (.ref 64), some (.int x1), some (.int x2)], [.int x2, .int x1, .ref 64], sg_h s, 0, 0)) rfl ?_
    refine am_Pn.cvI hcl h rfl rfl rfl rfl rfl (fun x3 s3 h => ?_)
    refine am_Pn.zF h (am_ble rfl rfl) rfl rfl (fun h => ?_) (fun h => ?_)
    · refine am_Pn.bl 1 (y := (20, [some (.ref 64), some (.int x1), some (.int x2)], [.int (Int32.ofInt (0))], sg_h s3, 0, 0)) rfl ?_
      exact am_Pn.rI h rfl
    · refine am_Pn.bl 2 (y := (20, [some (.ref 64), some (.int x1), some (.int x2)], [.int (Int32.ofInt (1))], sg_h s3, 0, 0)) rfl ?_
      exact am_Pn.rI h rfl
def wp_M_worns_4 (I4 : Int32 → Int32 →  sg_S → Prop) (Ψ : Int32 → sg_S → Prop) (l1 : Int32) (l2 : Int32) (s : sg_S) : Prop := ((l2.toInt < (s.1 64 40).toInt → (0 ≤ l2.toInt → l2.toInt < (48) → (((s.2.2.1 86 (l2.toInt.toNat)).toInt = (0) → (I4 (l1 + (Int32.ofInt (0))) (l2 + Int32.ofInt (1)) s)) ∧ (¬ (s.2.2.1 86 (l2.toInt.toNat)).toInt = (0) → (I4 (l1 + (Int32.ofInt (1))) (l2 + Int32.ofInt (1)) s))))) ∧ (¬ l2.toInt < (s.1 64 40).toInt → (Ψ l1 s)))
def wp_M_worns (I4 : Int32 → Int32 →  sg_S → Prop) (Ψ : Int32 → sg_S → Prop) (s : sg_S) : Prop := (I4 (Int32.ofInt (0)) (Int32.ofInt (0)) s)
set_option maxRecDepth 100000 in
theorem wp_M_worns_ok {I4 : Int32 → Int32 →  sg_S → Prop} {Ψ : Int32 → sg_S → Prop} {s : sg_S} (k4 : ∀ (l1 : Int32) (l2 : Int32) (s : sg_S), I4 l1 l2 s → wp_M_worns_4 I4 Ψ  l1 l2 s) (h : wp_M_worns I4 Ψ  s) : am_SpI 183 [.ref 64] s Ψ := by
  refine am_SpI.mk (r := am_r183) rfl rfl (fun call d al n hcl => ?_)
  have key : ∀ n, (∀ (l1 : Int32) (l2 : Int32) (s : sg_S), I4 l1 l2 s → am_Pn call d (0, fun _ => 0) al am_r183 (am_PhI am_r183 Ψ) n (4, [some (.ref 64), some (.int l1), some (.int l2)], [], sg_h s, 0, 0)) := by
    intro n
    induction n with
    | zero => exact fun _ _ _ _ => am_Pn.zero
    | succ n ih =>
      intro l1 l2 s h
      replace h := k4 l1 l2 s h
      unfold wp_M_worns_4 at h
      refine am_Pn.bl1 1 (y := (6, [some (.ref 64), some (.int l1), some (.int l2)], [.ref 64, .int l2], sg_h s, 0, 0)) rfl ?_
      refine am_Pn.gi (k := 40) rfl rfl am_o64 rfl rfl ?_
      refine am_Pn.bF h (am_bge rfl rfl) rfl rfl (fun h => ?_) (fun h => ?_)
      · refine am_Pn.bl 1 (y := (36, [some (.ref 64), some (.int l1), some (.int l2)], [.int l1], sg_h s, 0, 0)) rfl ?_
        exact am_Pn.rI h rfl
      · refine am_Pn.bl 2 (y := (14, [some (.ref 64), some (.int l1), some (.int l2)], [.ref 64, .int l1], sg_h s, 0, 0)) rfl ?_
        refine am_Pn.gr (k := 44) rfl rfl am_o64 rfl rfl ?_
        refine am_Pn.bl 1 (y := (18, [some (.ref 64), some (.int l1), some (.int l2)], [.int l2, .ref 86, .int l1], sg_h s, 0, 0)) rfl ?_
        refine am_Pn.ba (a := 86) rfl rfl rfl rfl (fun hi => ?_)
        replace h := h (am_in0 hi) (am_in1 hi)
        refine am_Pn.zT h (am_beq rfl rfl) rfl rfl (fun h => ?_) (fun h => ?_)
        · refine am_Pn.bl 5 (y := (4, [some (.ref 64), some (.int (l1 + (Int32.ofInt (0)))), some (.int (l2 + Int32.ofInt (1)))], [], sg_h s, 0, 0)) rfl ?_
          exact (ih) (l1 + (Int32.ofInt (0))) (l2 + Int32.ofInt (1)) s h
        · refine am_Pn.bl 6 (y := (4, [some (.ref 64), some (.int (l1 + (Int32.ofInt (1)))), some (.int (l2 + Int32.ofInt (1)))], [], sg_h s, 0, 0)) rfl ?_
          exact (ih) (l1 + (Int32.ofInt (1))) (l2 + Int32.ofInt (1)) s h
  unfold wp_M_worns at h
  refine am_Pn.bl 4 (y := (4, [some (.ref 64), some (.int (Int32.ofInt (0))), some (.int (Int32.ofInt (0)))], [], sg_h s, 0, 0)) rfl ?_
  exact ((key n)) (Int32.ofInt (0)) (Int32.ofInt (0)) s h
def wp_M_setOf3 (Ψ : Int32 → sg_S → Prop) (x1 : Int32) (x2 : Int32) (x3 : Int32) (s : sg_S) : Prop := ((x1.toInt = (-1) → ((x2.toInt = (-1) → ((x3.toInt = (-1) → (Ψ (((Int32.ofInt (0)) ||| (Int32.ofInt (0))) ||| (Int32.ofInt (0))) s)) ∧ (¬ x3.toInt = (-1) → (am_SpI 177 [.ref 64, .int x3] s (fun x10 s10 => (Ψ (((Int32.ofInt (0)) ||| (Int32.ofInt (0))) ||| x10) s10)))))) ∧ (¬ x2.toInt = (-1) → (am_SpI 177 [.ref 64, .int x2] s (fun x8 s8 => ((x3.toInt = (-1) → (Ψ (((Int32.ofInt (0)) ||| x8) ||| (Int32.ofInt (0))) s8)) ∧ (¬ x3.toInt = (-1) → (am_SpI 177 [.ref 64, .int x3] s8 (fun x9 s9 => (Ψ (((Int32.ofInt (0)) ||| x8) ||| x9) s9)))))))))) ∧ (¬ x1.toInt = (-1) → (am_SpI 177 [.ref 64, .int x1] s (fun x4 s4 => ((x2.toInt = (-1) → ((x3.toInt = (-1) → (Ψ ((x4 ||| (Int32.ofInt (0))) ||| (Int32.ofInt (0))) s4)) ∧ (¬ x3.toInt = (-1) → (am_SpI 177 [.ref 64, .int x3] s4 (fun x7 s7 => (Ψ ((x4 ||| (Int32.ofInt (0))) ||| x7) s7)))))) ∧ (¬ x2.toInt = (-1) → (am_SpI 177 [.ref 64, .int x2] s4 (fun x5 s5 => ((x3.toInt = (-1) → (Ψ ((x4 ||| x5) ||| (Int32.ofInt (0))) s5)) ∧ (¬ x3.toInt = (-1) → (am_SpI 177 [.ref 64, .int x3] s5 (fun x6 s6 => (Ψ ((x4 ||| x5) ||| x6) s6)))))))))))))
set_option maxRecDepth 100000 in
theorem wp_M_setOf3_ok {Ψ : Int32 → sg_S → Prop} {x1 : Int32} {x2 : Int32} {x3 : Int32} {s : sg_S} (h : wp_M_setOf3 Ψ x1 x2 x3 s) : am_SpI 188 [.ref 64, .int x1, .int x2, .int x3] s Ψ := by
  refine am_SpI.mk (r := am_r188) rfl rfl (fun call d al n hcl => ?_)
  unfold wp_M_setOf3 at h
  refine am_Pn.bl 2 (y := (2, [some (.ref 64), some (.int x1), some (.int x2), some (.int x3)], [.int (Int32.ofInt (-1)), .int x1], sg_h s, 0, 0)) rfl ?_
  refine am_Pn.bF h (am_bne rfl rfl) rfl rfl (fun h => ?_) (fun h => ?_)
  · refine am_Pn.bl 2 (y := (11, [some (.ref 64), some (.int x1), some (.int x2), some (.int x3)], [.int x1, .ref 64], sg_h s, 0, 0)) rfl ?_
    refine am_Pn.cvI hcl h rfl rfl rfl rfl rfl (fun x4 s4 h => ?_)
    refine am_Pn.bl 2 (y := (16, [some (.ref 64), some (.int x1), some (.int x2), some (.int x3)], [.int (Int32.ofInt (-1)), .int x2, .int x4], sg_h s4, 0, 0)) rfl ?_
    refine am_Pn.bF h (am_bne rfl rfl) rfl rfl (fun h => ?_) (fun h => ?_)
    · refine am_Pn.bl 2 (y := (25, [some (.ref 64), some (.int x1), some (.int x2), some (.int x3)], [.int x2, .ref 64, .int x4], sg_h s4, 0, 0)) rfl ?_
      refine am_Pn.cvI hcl h rfl rfl rfl rfl rfl (fun x5 s5 h => ?_)
      refine am_Pn.bl 3 (y := (31, [some (.ref 64), some (.int x1), some (.int x2), some (.int x3)], [.int (Int32.ofInt (-1)), .int x3, .int (x4 ||| x5)], sg_h s5, 0, 0)) rfl ?_
      refine am_Pn.bF h (am_bne rfl rfl) rfl rfl (fun h => ?_) (fun h => ?_)
      · refine am_Pn.bl 2 (y := (40, [some (.ref 64), some (.int x1), some (.int x2), some (.int x3)], [.int x3, .ref 64, .int (x4 ||| x5)], sg_h s5, 0, 0)) rfl ?_
        refine am_Pn.cvI hcl h rfl rfl rfl rfl rfl (fun x6 s6 h => ?_)
        refine am_Pn.bl 1 (y := (44, [some (.ref 64), some (.int x1), some (.int x2), some (.int x3)], [.int ((x4 ||| x5) ||| x6)], sg_h s6, 0, 0)) rfl ?_
        exact am_Pn.rI h rfl
      · refine am_Pn.bl 3 (y := (44, [some (.ref 64), some (.int x1), some (.int x2), some (.int x3)], [.int ((x4 ||| x5) ||| (Int32.ofInt (0)))], sg_h s5, 0, 0)) rfl ?_
        exact am_Pn.rI h rfl
    · refine am_Pn.bl 5 (y := (31, [some (.ref 64), some (.int x1), some (.int x2), some (.int x3)], [.int (Int32.ofInt (-1)), .int x3, .int (x4 ||| (Int32.ofInt (0)))], sg_h s4, 0, 0)) rfl ?_
      refine am_Pn.bF h (am_bne rfl rfl) rfl rfl (fun h => ?_) (fun h => ?_)
      · refine am_Pn.bl 2 (y := (40, [some (.ref 64), some (.int x1), some (.int x2), some (.int x3)], [.int x3, .ref 64, .int (x4 ||| (Int32.ofInt (0)))], sg_h s4, 0, 0)) rfl ?_
        refine am_Pn.cvI hcl h rfl rfl rfl rfl rfl (fun x7 s7 h => ?_)
        refine am_Pn.bl 1 (y := (44, [some (.ref 64), some (.int x1), some (.int x2), some (.int x3)], [.int ((x4 ||| (Int32.ofInt (0))) ||| x7)], sg_h s7, 0, 0)) rfl ?_
        exact am_Pn.rI h rfl
      · refine am_Pn.bl 3 (y := (44, [some (.ref 64), some (.int x1), some (.int x2), some (.int x3)], [.int ((x4 ||| (Int32.ofInt (0))) ||| (Int32.ofInt (0)))], sg_h s4, 0, 0)) rfl ?_
        exact am_Pn.rI h rfl
  · refine am_Pn.bl 4 (y := (16, [some (.ref 64), some (.int x1), some (.int x2), some (.int x3)], [.int (Int32.ofInt (-1)), .int x2, .int (Int32.ofInt (0))], sg_h s, 0, 0)) rfl ?_
    refine am_Pn.bF h (am_bne rfl rfl) rfl rfl (fun h => ?_) (fun h => ?_)
    · refine am_Pn.bl 2 (y := (25, [some (.ref 64), some (.int x1), some (.int x2), some (.int x3)], [.int x2, .ref 64, .int (Int32.ofInt (0))], sg_h s, 0, 0)) rfl ?_
      refine am_Pn.cvI hcl h rfl rfl rfl rfl rfl (fun x8 s8 h => ?_)
      refine am_Pn.bl 3 (y := (31, [some (.ref 64), some (.int x1), some (.int x2), some (.int x3)], [.int (Int32.ofInt (-1)), .int x3, .int ((Int32.ofInt (0)) ||| x8)], sg_h s8, 0, 0)) rfl ?_
      refine am_Pn.bF h (am_bne rfl rfl) rfl rfl (fun h => ?_) (fun h => ?_)
      · refine am_Pn.bl 2 (y := (40, [some (.ref 64), some (.int x1), some (.int x2), some (.int x3)], [.int x3, .ref 64, .int ((Int32.ofInt (0)) ||| x8)], sg_h s8, 0, 0)) rfl ?_
        refine am_Pn.cvI hcl h rfl rfl rfl rfl rfl (fun x9 s9 h => ?_)
        refine am_Pn.bl 1 (y := (44, [some (.ref 64), some (.int x1), some (.int x2), some (.int x3)], [.int (((Int32.ofInt (0)) ||| x8) ||| x9)], sg_h s9, 0, 0)) rfl ?_
        exact am_Pn.rI h rfl
      · refine am_Pn.bl 3 (y := (44, [some (.ref 64), some (.int x1), some (.int x2), some (.int x3)], [.int (((Int32.ofInt (0)) ||| x8) ||| (Int32.ofInt (0)))], sg_h s8, 0, 0)) rfl ?_
        exact am_Pn.rI h rfl
    · refine am_Pn.bl 5 (y := (31, [some (.ref 64), some (.int x1), some (.int x2), some (.int x3)], [.int (Int32.ofInt (-1)), .int x3, .int ((Int32.ofInt (0)) ||| (Int32.ofInt (0)))], sg_h s, 0, 0)) rfl ?_
      refine am_Pn.bF h (am_bne rfl rfl) rfl rfl (fun h => ?_) (fun h => ?_)
      · refine am_Pn.bl 2 (y := (40, [some (.ref 64), some (.int x1), some (.int x2), some (.int x3)], [.int x3, .ref 64, .int ((Int32.ofInt (0)) ||| (Int32.ofInt (0)))], sg_h s, 0, 0)) rfl ?_
        refine am_Pn.cvI hcl h rfl rfl rfl rfl rfl (fun x10 s10 h => ?_)
        refine am_Pn.bl 1 (y := (44, [some (.ref 64), some (.int x1), some (.int x2), some (.int x3)], [.int (((Int32.ofInt (0)) ||| (Int32.ofInt (0))) ||| x10)], sg_h s10, 0, 0)) rfl ?_
        exact am_Pn.rI h rfl
      · refine am_Pn.bl 3 (y := (44, [some (.ref 64), some (.int x1), some (.int x2), some (.int x3)], [.int (((Int32.ofInt (0)) ||| (Int32.ofInt (0))) ||| (Int32.ofInt (0)))], sg_h s, 0, 0)) rfl ?_
        exact am_Pn.rI h rfl
def wp_M_isAgain_25 (I25 : Int32 →  sg_S → Prop) (Ψ : Int32 → sg_S → Prop) (x1 : Int32) (x2 : Int32) (x3 : Int32) (x4 : Int32) (x5 : Int32) (l6 : Int32) (s : sg_S) : Prop := ((l6.toInt < ((Int32.ofInt (3)) * (x4 - (Int32.ofInt (1)))).toInt → (0 ≤ l6.toInt → l6.toInt < (153) → (((s.2.2.1 85 (l6.toInt.toNat)).toInt = (-1) → (I25 (l6 + Int32.ofInt (1)) s)) ∧ (¬ (s.2.2.1 85 (l6.toInt.toNat)).toInt = (-1) → (((s.2.2.1 85 (l6.toInt.toNat)).toInt = x1.toInt → (Ψ (Int32.ofInt (1)) s)) ∧ (¬ (s.2.2.1 85 (l6.toInt.toNat)).toInt = x1.toInt → (((s.2.2.1 85 (l6.toInt.toNat)).toInt = x2.toInt → (Ψ (Int32.ofInt (1)) s)) ∧ (¬ (s.2.2.1 85 (l6.toInt.toNat)).toInt = x2.toInt → (((s.2.2.1 85 (l6.toInt.toNat)).toInt = x3.toInt → (Ψ (Int32.ofInt (1)) s)) ∧ (¬ (s.2.2.1 85 (l6.toInt.toNat)).toInt = x3.toInt → (I25 (l6 + Int32.ofInt (1)) s))))))))))) ∧ (¬ l6.toInt < ((Int32.ofInt (3)) * (x4 - (Int32.ofInt (1)))).toInt → (Ψ (Int32.ofInt (0)) s)))
def wp_M_isAgain (I25 : Int32 →  sg_S → Prop) (Ψ : Int32 → sg_S → Prop) (x1 : Int32) (x2 : Int32) (x3 : Int32) (x4 : Int32) (x5 : Int32) (s : sg_S) : Prop := ((((x4 - (Int32.ofInt (1))) - x5).toInt < (0) → (I25 ((Int32.ofInt (3)) * (Int32.ofInt (0))) s)) ∧ (¬ ((x4 - (Int32.ofInt (1))) - x5).toInt < (0) → (I25 ((Int32.ofInt (3)) * ((x4 - (Int32.ofInt (1))) - x5)) s)))
set_option maxRecDepth 100000 in
theorem wp_M_isAgain_ok {I25 : Int32 →  sg_S → Prop} {Ψ : Int32 → sg_S → Prop} {x1 : Int32} {x2 : Int32} {x3 : Int32} {x4 : Int32} {x5 : Int32} {s : sg_S} (k25 : ∀ (l6 : Int32) (s : sg_S), I25 l6 s → wp_M_isAgain_25 I25 Ψ x1 x2 x3 x4 x5 l6 s) (h : wp_M_isAgain I25 Ψ x1 x2 x3 x4 x5 s) : am_SpI 191 [.ref 64, .int x1, .int x2, .int x3, .int x4, .int x5] s Ψ := by
  refine am_SpI.mk (r := am_r191) rfl rfl (fun call d al n hcl => ?_)
  have key : ∀ n, (∀ (o7 : Option Value) (l6 : Int32) (s : sg_S), I25 l6 s → am_Pn call d (0, fun _ => 0) al am_r191 (am_PhI am_r191 Ψ) n (25, [some (.ref 64), some (.int x1), some (.int x2), some (.int x3), some (.int x4), some (.int x5), some (.int l6), o7], [], sg_h s, 0, 0)) := by
    intro n
    induction n with
    | zero => exact fun _ _ _ _ => am_Pn.zero
    | succ n ih =>
      intro o7 l6 s h
      replace h := k25 l6 s h
      unfold wp_M_isAgain_25 at h
      refine am_Pn.bl1 5 (y := (33, [some (.ref 64), some (.int x1), some (.int x2), some (.int x3), some (.int x4), some (.int x5), some (.int l6), o7], [.int ((Int32.ofInt (3)) * (x4 - (Int32.ofInt (1)))), .int l6], sg_h s, 0, 0)) rfl ?_
      refine am_Pn.bF h (am_bge rfl rfl) rfl rfl (fun h => ?_) (fun h => ?_)
      · refine am_Pn.bl 1 (y := (78, [some (.ref 64), some (.int x1), some (.int x2), some (.int x3), some (.int x4), some (.int x5), some (.int l6), o7], [.int (Int32.ofInt (0))], sg_h s, 0, 0)) rfl ?_
        exact am_Pn.rI h rfl
      · refine am_Pn.bl 1 (y := (37, [some (.ref 64), some (.int x1), some (.int x2), some (.int x3), some (.int x4), some (.int x5), some (.int l6), o7], [.ref 64], sg_h s, 0, 0)) rfl ?_
        refine am_Pn.gr (k := 43) rfl rfl am_o64 rfl rfl ?_
        refine am_Pn.bl 1 (y := (42, [some (.ref 64), some (.int x1), some (.int x2), some (.int x3), some (.int x4), some (.int x5), some (.int l6), o7], [.int l6, .ref 85], sg_h s, 0, 0)) rfl ?_
        refine am_Pn.ia (a := 85) rfl rfl rfl rfl (fun hi => ?_)
        replace h := h (am_in0 hi) (am_in1 hi)
        refine am_Pn.bl 3 (y := (48, [some (.ref 64), some (.int x1), some (.int x2), some (.int x3), some (.int x4), some (.int x5), some (.int l6), some (.int (s.2.2.1 85 (l6.toInt.toNat)))], [.int (Int32.ofInt (-1)), .int (s.2.2.1 85 (l6.toInt.toNat))], sg_h s, 0, 0)) rfl ?_
        refine am_Pn.bT h (am_beq rfl rfl) rfl rfl (fun h => ?_) (fun h => ?_)
        · refine am_Pn.bl 2 (y := (25, [some (.ref 64), some (.int x1), some (.int x2), some (.int x3), some (.int x4), some (.int x5), some (.int (l6 + Int32.ofInt (1))), some (.int (s.2.2.1 85 (l6.toInt.toNat)))], [], sg_h s, 0, 0)) rfl ?_
          exact (ih) (some (.int (s.2.2.1 85 (l6.toInt.toNat)))) (l6 + Int32.ofInt (1)) s h
        · refine am_Pn.bl 2 (y := (54, [some (.ref 64), some (.int x1), some (.int x2), some (.int x3), some (.int x4), some (.int x5), some (.int l6), some (.int (s.2.2.1 85 (l6.toInt.toNat)))], [.int x1, .int (s.2.2.1 85 (l6.toInt.toNat))], sg_h s, 0, 0)) rfl ?_
          refine am_Pn.bT h (am_beq rfl rfl) rfl rfl (fun h => ?_) (fun h => ?_)
          · refine am_Pn.bl 1 (y := (70, [some (.ref 64), some (.int x1), some (.int x2), some (.int x3), some (.int x4), some (.int x5), some (.int l6), some (.int (s.2.2.1 85 (l6.toInt.toNat)))], [.int (Int32.ofInt (1))], sg_h s, 0, 0)) rfl ?_
            exact am_Pn.rI h rfl
          · refine am_Pn.bl 2 (y := (60, [some (.ref 64), some (.int x1), some (.int x2), some (.int x3), some (.int x4), some (.int x5), some (.int l6), some (.int (s.2.2.1 85 (l6.toInt.toNat)))], [.int x2, .int (s.2.2.1 85 (l6.toInt.toNat))], sg_h s, 0, 0)) rfl ?_
            refine am_Pn.bT h (am_beq rfl rfl) rfl rfl (fun h => ?_) (fun h => ?_)
            · refine am_Pn.bl 1 (y := (70, [some (.ref 64), some (.int x1), some (.int x2), some (.int x3), some (.int x4), some (.int x5), some (.int l6), some (.int (s.2.2.1 85 (l6.toInt.toNat)))], [.int (Int32.ofInt (1))], sg_h s, 0, 0)) rfl ?_
              exact am_Pn.rI h rfl
            · refine am_Pn.bl 2 (y := (66, [some (.ref 64), some (.int x1), some (.int x2), some (.int x3), some (.int x4), some (.int x5), some (.int l6), some (.int (s.2.2.1 85 (l6.toInt.toNat)))], [.int x3, .int (s.2.2.1 85 (l6.toInt.toNat))], sg_h s, 0, 0)) rfl ?_
              refine am_Pn.bF h (am_bne rfl rfl) rfl rfl (fun h => ?_) (fun h => ?_)
              · refine am_Pn.bl 2 (y := (25, [some (.ref 64), some (.int x1), some (.int x2), some (.int x3), some (.int x4), some (.int x5), some (.int (l6 + Int32.ofInt (1))), some (.int (s.2.2.1 85 (l6.toInt.toNat)))], [], sg_h s, 0, 0)) rfl ?_
                exact (ih) (some (.int (s.2.2.1 85 (l6.toInt.toNat)))) (l6 + Int32.ofInt (1)) s h
              · refine am_Pn.bl 1 (y := (70, [some (.ref 64), some (.int x1), some (.int x2), some (.int x3), some (.int x4), some (.int x5), some (.int l6), some (.int (s.2.2.1 85 (l6.toInt.toNat)))], [.int (Int32.ofInt (1))], sg_h s, 0, 0)) rfl ?_
                exact am_Pn.rI h rfl
  unfold wp_M_isAgain at h
  refine am_Pn.bl 6 (y := (8, [some (.ref 64), some (.int x1), some (.int x2), some (.int x3), some (.int x4), some (.int x5), none, none], [.int ((x4 - (Int32.ofInt (1))) - x5), .int (Int32.ofInt (3))], sg_h s, 0, 0)) rfl ?_
  refine am_Pn.zF h (am_bge rfl rfl) rfl rfl (fun h => ?_) (fun h => ?_)
  · refine am_Pn.bl 7 (y := (25, [some (.ref 64), some (.int x1), some (.int x2), some (.int x3), some (.int x4), some (.int x5), some (.int ((Int32.ofInt (3)) * ((x4 - (Int32.ofInt (1))) - x5))), none], [], sg_h s, 0, 0)) rfl ?_
    exact ((key n)) none ((Int32.ofInt (3)) * ((x4 - (Int32.ofInt (1))) - x5)) s h
  · refine am_Pn.bl 4 (y := (25, [some (.ref 64), some (.int x1), some (.int x2), some (.int x3), some (.int x4), some (.int x5), some (.int ((Int32.ofInt (3)) * (Int32.ofInt (0)))), none], [], sg_h s, 0, 0)) rfl ?_
    exact ((key n)) none ((Int32.ofInt (3)) * (Int32.ofInt (0))) s h
def wp_M_alongNothing_16 (I16 : Int32 →  sg_S → Prop) (Ψ : sg_S → Prop) (l1 : Int32) (s : sg_S) : Prop := ((l1.toInt < (12) → ((l1.toInt < (s.1 64 23).toInt → (0 ≤ l1.toInt → l1.toInt < (12) → (((s.2.2.1 72 (l1.toInt.toNat)).toInt = (3) → (0 ≤ ((Int32.ofInt (2)) + l1).toInt → ((Int32.ofInt (2)) + l1).toInt < (14) → (I16 (l1 + Int32.ofInt (1)) (sg_uA s 82 (((Int32.ofInt (2)) + l1).toInt.toNat) (s.2.2.1 74 (l1.toInt.toNat)))))) ∧ (¬ (s.2.2.1 72 (l1.toInt.toNat)).toInt = (3) → (0 ≤ ((Int32.ofInt (2)) + l1).toInt → ((Int32.ofInt (2)) + l1).toInt < (14) → (I16 (l1 + Int32.ofInt (1)) (sg_uA s 82 (((Int32.ofInt (2)) + l1).toInt.toNat) (Int32.ofInt (0))))))))) ∧ (¬ l1.toInt < (s.1 64 23).toInt → (0 ≤ ((Int32.ofInt (2)) + l1).toInt → ((Int32.ofInt (2)) + l1).toInt < (14) → (I16 (l1 + Int32.ofInt (1)) (sg_uA s 82 (((Int32.ofInt (2)) + l1).toInt.toNat) (Int32.ofInt (0)))))))) ∧ (¬ l1.toInt < (12) → (Ψ s)))
def wp_M_alongNothing (I16 : Int32 →  sg_S → Prop) (Ψ : sg_S → Prop) (s : sg_S) : Prop := (I16 (Int32.ofInt (0)) (sg_uA (sg_uA s 82 (0) (Int32.ofInt (-1))) 82 (1) (Int32.ofInt (-1))))
set_option maxRecDepth 100000 in
theorem wp_M_alongNothing_ok {I16 : Int32 →  sg_S → Prop} {Ψ : sg_S → Prop} {s : sg_S} (k16 : ∀ (l1 : Int32) (s : sg_S), I16 l1 s → wp_M_alongNothing_16 I16 Ψ  l1 s) (h : wp_M_alongNothing I16 Ψ  s) : am_SpV 185 [.ref 64] s Ψ := by
  refine am_SpV.mk (r := am_r185) rfl rfl (fun call d al n hcl => ?_)
  have key : ∀ n, (∀ (l1 : Int32) (s : sg_S), I16 l1 s → am_Pn call d (0, fun _ => 0) al am_r185 (am_PhV am_r185 Ψ) n (16, [some (.ref 64), some (.int l1)], [], sg_h s, 0, 0)) := by
    intro n
    induction n with
    | zero => exact fun _ _ _ => am_Pn.zero
    | succ n ih =>
      intro l1 s h
      replace h := k16 l1 s h
      unfold wp_M_alongNothing_16 at h
      refine am_Pn.bl1 1 (y := (19, [some (.ref 64), some (.int l1)], [.int (Int32.ofInt (12)), .int l1], sg_h s, 0, 0)) rfl ?_
      refine am_Pn.bF h (am_bge rfl rfl) rfl rfl (fun h => ?_) (fun h => ?_)
      · exact am_Pn.rV h rfl
      · refine am_Pn.bl 1 (y := (23, [some (.ref 64), some (.int l1)], [.ref 64], sg_h s, 0, 0)) rfl ?_
        refine am_Pn.gr (k := 39) rfl rfl am_o64 rfl rfl ?_
        refine am_Pn.bl 5 (y := (31, [some (.ref 64), some (.int l1)], [.ref 64, .int l1, .int ((Int32.ofInt (2)) + l1), .ref 82], sg_h s, 0, 0)) rfl ?_
        refine am_Pn.gi (k := 23) rfl rfl am_o64 rfl rfl ?_
        refine am_Pn.bF h (am_bge rfl rfl) rfl rfl (fun h => ?_) (fun h => ?_)
        · refine am_Pn.bl 1 (y := (57, [some (.ref 64), some (.int l1)], [.int (Int32.ofInt (0)), .int ((Int32.ofInt (2)) + l1), .ref 82], sg_h s, 0, 0)) rfl ?_
          refine am_Pn.is (a := 82) rfl rfl rfl (fun hi => ?_)
          replace h := h (am_in0 hi) (am_in1 hi)
          refine am_Pn.bl 2 (y := (16, [some (.ref 64), some (.int (l1 + Int32.ofInt (1)))], [], sg_h (sg_uA s 82 (((Int32.ofInt (2)) + l1).toInt.toNat) (Int32.ofInt (0))), 0, 0)) rfl ?_
          exact (ih) (l1 + Int32.ofInt (1)) (sg_uA s 82 (((Int32.ofInt (2)) + l1).toInt.toNat) (Int32.ofInt (0))) h
        · refine am_Pn.bl 1 (y := (38, [some (.ref 64), some (.int l1)], [.ref 64, .int ((Int32.ofInt (2)) + l1), .ref 82], sg_h s, 0, 0)) rfl ?_
          refine am_Pn.gr (k := 26) rfl rfl am_o64 rfl rfl ?_
          refine am_Pn.bl 1 (y := (42, [some (.ref 64), some (.int l1)], [.int l1, .ref 72, .int ((Int32.ofInt (2)) + l1), .ref 82], sg_h s, 0, 0)) rfl ?_
          refine am_Pn.ia (a := 72) rfl rfl rfl rfl (fun hi => ?_)
          replace h := h (am_in0 hi) (am_in1 hi)
          refine am_Pn.bl 1 (y := (44, [some (.ref 64), some (.int l1)], [.int (Int32.ofInt (3)), .int (s.2.2.1 72 (l1.toInt.toNat)), .int ((Int32.ofInt (2)) + l1), .ref 82], sg_h s, 0, 0)) rfl ?_
          refine am_Pn.bF h (am_bne rfl rfl) rfl rfl (fun h => ?_) (fun h => ?_)
          · refine am_Pn.bl 1 (y := (57, [some (.ref 64), some (.int l1)], [.int (Int32.ofInt (0)), .int ((Int32.ofInt (2)) + l1), .ref 82], sg_h s, 0, 0)) rfl ?_
            refine am_Pn.is (a := 82) rfl rfl rfl (fun hi => ?_)
            replace h := h (am_in0 hi) (am_in1 hi)
            refine am_Pn.bl 2 (y := (16, [some (.ref 64), some (.int (l1 + Int32.ofInt (1)))], [], sg_h (sg_uA s 82 (((Int32.ofInt (2)) + l1).toInt.toNat) (Int32.ofInt (0))), 0, 0)) rfl ?_
            exact (ih) (l1 + Int32.ofInt (1)) (sg_uA s 82 (((Int32.ofInt (2)) + l1).toInt.toNat) (Int32.ofInt (0))) h
          · refine am_Pn.bl 1 (y := (48, [some (.ref 64), some (.int l1)], [.ref 64, .int ((Int32.ofInt (2)) + l1), .ref 82], sg_h s, 0, 0)) rfl ?_
            refine am_Pn.gr (k := 28) rfl rfl am_o64 rfl rfl ?_
            refine am_Pn.bl 1 (y := (52, [some (.ref 64), some (.int l1)], [.int l1, .ref 74, .int ((Int32.ofInt (2)) + l1), .ref 82], sg_h s, 0, 0)) rfl ?_
            refine am_Pn.ia (a := 74) rfl rfl rfl rfl (fun hi => ?_)
            refine am_Pn.bl 1 (y := (57, [some (.ref 64), some (.int l1)], [.int (s.2.2.1 74 (l1.toInt.toNat)), .int ((Int32.ofInt (2)) + l1), .ref 82], sg_h s, 0, 0)) rfl ?_
            refine am_Pn.is (a := 82) rfl rfl rfl (fun hi => ?_)
            replace h := h (am_in0 hi) (am_in1 hi)
            refine am_Pn.bl 2 (y := (16, [some (.ref 64), some (.int (l1 + Int32.ofInt (1)))], [], sg_h (sg_uA s 82 (((Int32.ofInt (2)) + l1).toInt.toNat) (s.2.2.1 74 (l1.toInt.toNat))), 0, 0)) rfl ?_
            exact (ih) (l1 + Int32.ofInt (1)) (sg_uA s 82 (((Int32.ofInt (2)) + l1).toInt.toNat) (s.2.2.1 74 (l1.toInt.toNat))) h
  unfold wp_M_alongNothing at h
  refine am_Pn.bl 1 (y := (1, [some (.ref 64), none], [.ref 64], sg_h s, 0, 0)) rfl ?_
  refine am_Pn.gr (k := 39) rfl rfl am_o64 rfl rfl ?_
  refine am_Pn.bl 2 (y := (6, [some (.ref 64), none], [.int (Int32.ofInt (-1)), .int (Int32.ofInt (0)), .ref 82], sg_h s, 0, 0)) rfl ?_
  refine am_Pn.is (a := 82) rfl rfl rfl (fun hi => ?_)
  refine am_Pn.bl 1 (y := (8, [some (.ref 64), none], [.ref 64], sg_h (sg_uA s 82 (0) (Int32.ofInt (-1))), 0, 0)) rfl ?_
  refine am_Pn.gr (k := 39) rfl rfl am_o64 rfl rfl ?_
  refine am_Pn.bl 2 (y := (13, [some (.ref 64), none], [.int (Int32.ofInt (-1)), .int (Int32.ofInt (1)), .ref 82], sg_h (sg_uA s 82 (0) (Int32.ofInt (-1))), 0, 0)) rfl ?_
  refine am_Pn.is (a := 82) rfl rfl rfl (fun hi => ?_)
  refine am_Pn.bl 2 (y := (16, [some (.ref 64), some (.int (Int32.ofInt (0)))], [], sg_h (sg_uA (sg_uA s 82 (0) (Int32.ofInt (-1))) 82 (1) (Int32.ofInt (-1))), 0, 0)) rfl ?_
  exact ((key n)) (Int32.ofInt (0)) (sg_uA (sg_uA s 82 (0) (Int32.ofInt (-1))) 82 (1) (Int32.ofInt (-1))) h
def wp_M_broken_2 (I2 : Int32 →  sg_S → Prop) (I28 : Int32 → Int32 →  sg_S → Prop) (I403 : Int32 → Int32 →  sg_S → Prop) (Ψ : Int32 → sg_S → Prop) (x1 : Int32) (x2 : Int32) (l3 : Int32) (s : sg_S) : Prop := ((l3.toInt < (s.1 64 23).toInt → (0 ≤ l3.toInt → l3.toInt < (12) → (((x1 &&& (s.2.2.1 73 (l3.toInt.toNat))).toInt = (0) → (I28 l3 (Int32.ofInt (0)) s)) ∧ (¬ (x1 &&& (s.2.2.1 73 (l3.toInt.toNat))).toInt = (0) → (I28 l3 (Int32.ofInt (1)) s))))) ∧ (¬ l3.toInt < (s.1 64 23).toInt → (Ψ (Int32.ofInt (-1)) s)))
def wp_M_broken_28 (I2 : Int32 →  sg_S → Prop) (I28 : Int32 → Int32 →  sg_S → Prop) (I403 : Int32 → Int32 →  sg_S → Prop) (Ψ : Int32 → sg_S → Prop) (x1 : Int32) (x2 : Int32) (l3 : Int32) (l4 : Int32) (s : sg_S) : Prop := (0 ≤ ((Int32.ofInt (2)) + l3).toInt → ((Int32.ofInt (2)) + l3).toInt < (14) → (0 ≤ l3.toInt → l3.toInt < (12) → (((s.2.2.1 72 (l3.toInt.toNat)).toInt = (0) → (am_SpI 168 [.int x2, .int (s.2.2.1 74 (l3.toInt.toNat)), .int (s.2.2.1 75 (l3.toInt.toNat))] s (fun x4 s4 => ((x4.toInt = (0) → (I403 l3 (Int32.ofInt (0)) s4)) ∧ (¬ x4.toInt = (0) → ((l4.toInt = (0) → (I403 l3 (Int32.ofInt (1)) s4)) ∧ (¬ l4.toInt = (0) → (I403 l3 (Int32.ofInt (0)) s4)))))))) ∧ ((s.2.2.1 72 (l3.toInt.toNat)).toInt = (1) → (am_SpI 168 [.int x2, .int (s.2.2.1 74 (l3.toInt.toNat)), .int (s.2.2.1 75 (l3.toInt.toNat))] s (fun x6 s6 => ((x6.toInt = (0) → (I403 l3 (Int32.ofInt (0)) s6)) ∧ (¬ x6.toInt = (0) → ((l4.toInt = (0) → (I403 l3 (Int32.ofInt (0)) s6)) ∧ (¬ l4.toInt = (0) → (I403 l3 (Int32.ofInt (1)) s6)))))))) ∧ ((s.2.2.1 72 (l3.toInt.toNat)).toInt = (2) → ((l4.toInt = (0) → (((0) < (s.2.2.1 82 (((Int32.ofInt (2)) + l3).toInt.toNat)).toInt → (((s.2.2.1 82 (((Int32.ofInt (2)) + l3).toInt.toNat)).toInt < (s.2.2.1 74 (l3.toInt.toNat)).toInt → (I403 l3 (Int32.ofInt (1)) s)) ∧ (¬ (s.2.2.1 82 (((Int32.ofInt (2)) + l3).toInt.toNat)).toInt < (s.2.2.1 74 (l3.toInt.toNat)).toInt → (I403 l3 (Int32.ofInt (0)) s)))) ∧ (¬ (0) < (s.2.2.1 82 (((Int32.ofInt (2)) + l3).toInt.toNat)).toInt → (I403 l3 (Int32.ofInt (0)) s)))) ∧ (¬ l4.toInt = (0) → (((s.2.2.1 75 (l3.toInt.toNat)).toInt < ((s.2.2.1 82 (((Int32.ofInt (2)) + l3).toInt.toNat)) + (Int32.ofInt (1))).toInt → (I403 l3 (Int32.ofInt (1)) s)) ∧ (¬ (s.2.2.1 75 (l3.toInt.toNat)).toInt < ((s.2.2.1 82 (((Int32.ofInt (2)) + l3).toInt.toNat)) + (Int32.ofInt (1))).toInt → ((x2.toInt = (s.1 64 24).toInt → ((((s.2.2.1 82 (((Int32.ofInt (2)) + l3).toInt.toNat)) + (Int32.ofInt (1))).toInt < (s.2.2.1 74 (l3.toInt.toNat)).toInt → (I403 l3 (Int32.ofInt (1)) s)) ∧ (¬ ((s.2.2.1 82 (((Int32.ofInt (2)) + l3).toInt.toNat)) + (Int32.ofInt (1))).toInt < (s.2.2.1 74 (l3.toInt.toNat)).toInt → (I403 l3 (Int32.ofInt (0)) s)))) ∧ (¬ x2.toInt = (s.1 64 24).toInt → (I403 l3 (Int32.ofInt (0)) s)))))))) ∧ ((s.2.2.1 72 (l3.toInt.toNat)).toInt = (3) → ((l4.toInt = (0) → (I403 l3 (Int32.ofInt (0)) s)) ∧ (¬ l4.toInt = (0) → (((0) < (s.2.2.1 82 (((Int32.ofInt (2)) + l3).toInt.toNat)).toInt → (((s.2.2.1 82 (((Int32.ofInt (2)) + l3).toInt.toNat)).toInt < (s.2.2.1 74 (l3.toInt.toNat)).toInt → (I403 l3 (Int32.ofInt (1)) s)) ∧ (¬ (s.2.2.1 82 (((Int32.ofInt (2)) + l3).toInt.toNat)).toInt < (s.2.2.1 74 (l3.toInt.toNat)).toInt → (I403 l3 (Int32.ofInt (0)) s)))) ∧ (¬ (0) < (s.2.2.1 82 (((Int32.ofInt (2)) + l3).toInt.toNat)).toInt → (I403 l3 (Int32.ofInt (0)) s)))))) ∧ ((s.2.2.1 72 (l3.toInt.toNat)).toInt = (4) → ((l4.toInt = (0) → (I403 l3 (Int32.ofInt (0)) s)) ∧ (¬ l4.toInt = (0) → (((s.2.2.1 74 (l3.toInt.toNat)).toInt < ((s.2.2.1 82 (((Int32.ofInt (2)) + l3).toInt.toNat)) + (Int32.ofInt (1))).toInt → (I403 l3 (Int32.ofInt (1)) s)) ∧ (¬ (s.2.2.1 74 (l3.toInt.toNat)).toInt < ((s.2.2.1 82 (((Int32.ofInt (2)) + l3).toInt.toNat)) + (Int32.ofInt (1))).toInt → (I403 l3 (Int32.ofInt (0)) s)))))) ∧ ((s.2.2.1 72 (l3.toInt.toNat)).toInt = (5) → ((l4.toInt = (0) → ((((((s.2.2.1 82 (((Int32.ofInt (2)) + l3).toInt.toNat)) + (Int32.ofInt (0))) + (s.1 64 24)) - x2).toInt < (s.2.2.1 74 (l3.toInt.toNat)).toInt → (I403 l3 (Int32.ofInt (1)) s)) ∧ (¬ ((((s.2.2.1 82 (((Int32.ofInt (2)) + l3).toInt.toNat)) + (Int32.ofInt (0))) + (s.1 64 24)) - x2).toInt < (s.2.2.1 74 (l3.toInt.toNat)).toInt → (I403 l3 (Int32.ofInt (0)) s)))) ∧ (¬ l4.toInt = (0) → ((((((s.2.2.1 82 (((Int32.ofInt (2)) + l3).toInt.toNat)) + (Int32.ofInt (1))) + (s.1 64 24)) - x2).toInt < (s.2.2.1 74 (l3.toInt.toNat)).toInt → (I403 l3 (Int32.ofInt (1)) s)) ∧ (¬ ((((s.2.2.1 82 (((Int32.ofInt (2)) + l3).toInt.toNat)) + (Int32.ofInt (1))) + (s.1 64 24)) - x2).toInt < (s.2.2.1 74 (l3.toInt.toNat)).toInt → (I403 l3 (Int32.ofInt (0)) s)))))) ∧ ((s.2.2.1 72 (l3.toInt.toNat)).toInt = (6) → (I403 l3 (Int32.ofInt (0)) s)) ∧ ((s.2.2.1 72 (l3.toInt.toNat)).toInt = (7) → (((s.2.2.1 82 (0)).toInt = (-1) → (I403 l3 (Int32.ofInt (0)) s)) ∧ (¬ (s.2.2.1 82 (0)).toInt = (-1) → (am_SpI 190 [.ref 64, .int x1, .int (s.2.2.1 82 (0))] s (fun x13 s13 => ((x13.toInt = (0) → (I403 l3 (Int32.ofInt (1)) s13)) ∧ (¬ x13.toInt = (0) → (I403 l3 (Int32.ofInt (0)) s13)))))))) ∧ ((s.2.2.1 72 (l3.toInt.toNat)).toInt = (8) → (((s.2.2.1 82 (1)).toInt = (-1) → (I403 l3 (Int32.ofInt (0)) s)) ∧ (¬ (s.2.2.1 82 (1)).toInt = (-1) → (am_SpI 190 [.ref 64, .int x1, .int (s.2.2.1 82 (1))] s (fun x15 s15 => ((x15.toInt = (0) → (I403 l3 (Int32.ofInt (0)) s15)) ∧ (¬ x15.toInt = (0) → (I403 l3 (Int32.ofInt (1)) s15)))))))) ∧ (((s.2.2.1 72 (l3.toInt.toNat)).toInt < (0) ∨ (8) < (s.2.2.1 72 (l3.toInt.toNat)).toInt) → (I403 l3 (Int32.ofInt (0)) s)))))
def wp_M_broken_403 (I2 : Int32 →  sg_S → Prop) (I28 : Int32 → Int32 →  sg_S → Prop) (I403 : Int32 → Int32 →  sg_S → Prop) (Ψ : Int32 → sg_S → Prop) (x1 : Int32) (x2 : Int32) (l3 : Int32) (l6 : Int32) (s : sg_S) : Prop := ((l6.toInt = (0) → (I2 (l3 + Int32.ofInt (1)) s)) ∧ (¬ l6.toInt = (0) → (Ψ l3 s)))
def wp_M_broken (I2 : Int32 →  sg_S → Prop) (I28 : Int32 → Int32 →  sg_S → Prop) (I403 : Int32 → Int32 →  sg_S → Prop) (Ψ : Int32 → sg_S → Prop) (x1 : Int32) (x2 : Int32) (s : sg_S) : Prop := (I2 (Int32.ofInt (0)) s)
set_option maxRecDepth 100000 in
theorem wp_M_broken_ok {I2 : Int32 →  sg_S → Prop} {I28 : Int32 → Int32 →  sg_S → Prop} {I403 : Int32 → Int32 →  sg_S → Prop} {Ψ : Int32 → sg_S → Prop} {x1 : Int32} {x2 : Int32} {s : sg_S} (k2 : ∀ (l3 : Int32) (s : sg_S), I2 l3 s → wp_M_broken_2 I2 I28 I403 Ψ x1 x2 l3 s) (k28 : ∀ (l3 : Int32) (l4 : Int32) (s : sg_S), I28 l3 l4 s → wp_M_broken_28 I2 I28 I403 Ψ x1 x2 l3 l4 s) (k403 : ∀ (l3 : Int32) (l6 : Int32) (s : sg_S), I403 l3 l6 s → wp_M_broken_403 I2 I28 I403 Ψ x1 x2 l3 l6 s) (h : wp_M_broken I2 I28 I403 Ψ x1 x2 s) : am_SpI 189 [.ref 64, .int x1, .int x2] s Ψ := by
  refine am_SpI.mk (r := am_r189) rfl rfl (fun call d al n hcl => ?_)
  have key : ∀ n, (∀ (o4 : Option Value) (o5 : Option Value) (o6 : Option Value) (l3 : Int32) (s : sg_S), I2 l3 s → am_Pn call d (0, fun _ => 0) al am_r189 (am_PhI am_r189 Ψ) n (2, [some (.ref 64), some (.int x1), some (.int x2), some (.int l3), o4, o5, o6], [], sg_h s, 0, 0)) ∧ (∀ (o5 : Option Value) (o6 : Option Value) (l3 : Int32) (l4 : Int32) (s : sg_S), I28 l3 l4 s → am_Pn call d (0, fun _ => 0) al am_r189 (am_PhI am_r189 Ψ) n (28, [some (.ref 64), some (.int x1), some (.int x2), some (.int l3), some (.int l4), o5, o6], [], sg_h s, 0, 0)) ∧ (∀ (o4 : Option Value) (o5 : Option Value) (l3 : Int32) (l6 : Int32) (s : sg_S), I403 l3 l6 s → am_Pn call d (0, fun _ => 0) al am_r189 (am_PhI am_r189 Ψ) n (403, [some (.ref 64), some (.int x1), some (.int x2), some (.int l3), o4, o5, some (.int l6)], [], sg_h s, 0, 0)) := by
    intro n
    induction n with
    | zero => exact ⟨fun _ _ _ _ _ _ => am_Pn.zero, fun _ _ _ _ _ _ => am_Pn.zero, fun _ _ _ _ _ _ => am_Pn.zero⟩
    | succ n ih =>
      refine ⟨?_, ?_, ?_⟩
      · intro o4 o5 o6 l3 s h
        replace h := k2 l3 s h
        unfold wp_M_broken_2 at h
        refine am_Pn.bl1 1 (y := (4, [some (.ref 64), some (.int x1), some (.int x2), some (.int l3), o4, o5, o6], [.ref 64, .int l3], sg_h s, 0, 0)) rfl ?_
        refine am_Pn.gi (k := 23) rfl rfl am_o64 rfl rfl ?_
        refine am_Pn.bF h (am_bge rfl rfl) rfl rfl (fun h => ?_) (fun h => ?_)
        · refine am_Pn.bl 1 (y := (417, [some (.ref 64), some (.int x1), some (.int x2), some (.int l3), o4, o5, o6], [.int (Int32.ofInt (-1))], sg_h s, 0, 0)) rfl ?_
          exact am_Pn.rI h rfl
        · refine am_Pn.bl 2 (y := (12, [some (.ref 64), some (.int x1), some (.int x2), some (.int l3), o4, o5, o6], [.ref 64, .int x1], sg_h s, 0, 0)) rfl ?_
          refine am_Pn.gr (k := 27) rfl rfl am_o64 rfl rfl ?_
          refine am_Pn.bl 1 (y := (16, [some (.ref 64), some (.int x1), some (.int x2), some (.int l3), o4, o5, o6], [.int l3, .ref 73, .int x1], sg_h s, 0, 0)) rfl ?_
          refine am_Pn.ia (a := 73) rfl rfl rfl rfl (fun hi => ?_)
          replace h := h (am_in0 hi) (am_in1 hi)
          refine am_Pn.bl 1 (y := (18, [some (.ref 64), some (.int x1), some (.int x2), some (.int l3), o4, o5, o6], [.int (x1 &&& (s.2.2.1 73 (l3.toInt.toNat)))], sg_h s, 0, 0)) rfl ?_
          refine am_Pn.zT h (am_beq rfl rfl) rfl rfl (fun h => ?_) (fun h => ?_)
          · refine am_Pn.bl 2 (y := (28, [some (.ref 64), some (.int x1), some (.int x2), some (.int l3), some (.int (Int32.ofInt (0))), o5, o6], [], sg_h s, 0, 0)) rfl ?_
            exact (ih.2.1) o5 o6 l3 (Int32.ofInt (0)) s h
          · refine am_Pn.bl 3 (y := (28, [some (.ref 64), some (.int x1), some (.int x2), some (.int l3), some (.int (Int32.ofInt (1))), o5, o6], [], sg_h s, 0, 0)) rfl ?_
            exact (ih.2.1) o5 o6 l3 (Int32.ofInt (1)) s h
      · intro o5 o6 l3 l4 s h
        replace h := k28 l3 l4 s h
        unfold wp_M_broken_28 at h
        refine am_Pn.bl1 0 (y := (29, [some (.ref 64), some (.int x1), some (.int x2), some (.int l3), some (.int l4), o5, o6], [.ref 64], sg_h s, 0, 0)) rfl ?_
        refine am_Pn.gr (k := 39) rfl rfl am_o64 rfl rfl ?_
        refine am_Pn.bl 3 (y := (35, [some (.ref 64), some (.int x1), some (.int x2), some (.int l3), some (.int l4), o5, o6], [.int ((Int32.ofInt (2)) + l3), .ref 82], sg_h s, 0, 0)) rfl ?_
        refine am_Pn.ia (a := 82) rfl rfl rfl rfl (fun hi => ?_)
        replace h := h (am_in0 hi) (am_in1 hi)
        refine am_Pn.bl 4 (y := (42, [some (.ref 64), some (.int x1), some (.int x2), some (.int l3), some (.int l4), some (.int (s.2.2.1 82 (((Int32.ofInt (2)) + l3).toInt.toNat))), some (.int (Int32.ofInt (0)))], [.ref 64], sg_h s, 0, 0)) rfl ?_
        refine am_Pn.gr (k := 26) rfl rfl am_o64 rfl rfl ?_
        refine am_Pn.bl 1 (y := (46, [some (.ref 64), some (.int x1), some (.int x2), some (.int l3), some (.int l4), some (.int (s.2.2.1 82 (((Int32.ofInt (2)) + l3).toInt.toNat))), some (.int (Int32.ofInt (0)))], [.int l3, .ref 72], sg_h s, 0, 0)) rfl ?_
        refine am_Pn.ia (a := 72) rfl rfl rfl rfl (fun hi => ?_)
        replace h := h (am_in0 hi) (am_in1 hi)
        by_cases hs3 : (s.2.2.1 72 (l3.toInt.toNat)).toInt = (0)
        · replace h := h.1 hs3
          refine am_Pn.tj (lo := 0) 0 (hs3.trans (by decide)) rfl rfl rfl rfl ?_
          refine am_Pn.bl 2 (y := (98, [some (.ref 64), some (.int x1), some (.int x2), some (.int l3), some (.int l4), some (.int (s.2.2.1 82 (((Int32.ofInt (2)) + l3).toInt.toNat))), some (.int (Int32.ofInt (0)))], [.ref 64, .int x2], sg_h s, 0, 0)) rfl ?_
          refine am_Pn.gr (k := 28) rfl rfl am_o64 rfl rfl ?_
          refine am_Pn.bl 1 (y := (102, [some (.ref 64), some (.int x1), some (.int x2), some (.int l3), some (.int l4), some (.int (s.2.2.1 82 (((Int32.ofInt (2)) + l3).toInt.toNat))), some (.int (Int32.ofInt (0)))], [.int l3, .ref 74, .int x2], sg_h s, 0, 0)) rfl ?_
          refine am_Pn.ia (a := 74) rfl rfl rfl rfl (fun hi => ?_)
          refine am_Pn.bl 1 (y := (104, [some (.ref 64), some (.int x1), some (.int x2), some (.int l3), some (.int l4), some (.int (s.2.2.1 82 (((Int32.ofInt (2)) + l3).toInt.toNat))), some (.int (Int32.ofInt (0)))], [.ref 64, .int (s.2.2.1 74 (l3.toInt.toNat)), .int x2], sg_h s, 0, 0)) rfl ?_
          refine am_Pn.gr (k := 29) rfl rfl am_o64 rfl rfl ?_
          refine am_Pn.bl 1 (y := (108, [some (.ref 64), some (.int x1), some (.int x2), some (.int l3), some (.int l4), some (.int (s.2.2.1 82 (((Int32.ofInt (2)) + l3).toInt.toNat))), some (.int (Int32.ofInt (0)))], [.int l3, .ref 75, .int (s.2.2.1 74 (l3.toInt.toNat)), .int x2], sg_h s, 0, 0)) rfl ?_
          refine am_Pn.ia (a := 75) rfl rfl rfl rfl (fun hi => ?_)
          refine am_Pn.csI hcl h rfl rfl rfl rfl rfl (fun x4 s4 h => ?_)
          refine am_Pn.zT h (am_beq rfl rfl) rfl rfl (fun h => ?_) (fun h => ?_)
          · refine am_Pn.bl 3 (y := (403, [some (.ref 64), some (.int x1), some (.int x2), some (.int l3), some (.int l4), some (.int (s.2.2.1 82 (((Int32.ofInt (2)) + l3).toInt.toNat))), some (.int (Int32.ofInt (0)))], [], sg_h s4, 0, 0)) rfl ?_
            exact (ih.2.2) (some (.int l4)) (some (.int (s.2.2.1 82 (((Int32.ofInt (2)) + l3).toInt.toNat)))) l3 (Int32.ofInt (0)) s4 h
          · refine am_Pn.bl 1 (y := (117, [some (.ref 64), some (.int x1), some (.int x2), some (.int l3), some (.int l4), some (.int (s.2.2.1 82 (((Int32.ofInt (2)) + l3).toInt.toNat))), some (.int (Int32.ofInt (0)))], [.int l4], sg_h s4, 0, 0)) rfl ?_
            refine am_Pn.zF h (am_bne rfl rfl) rfl rfl (fun h => ?_) (fun h => ?_)
            · refine am_Pn.bl 3 (y := (403, [some (.ref 64), some (.int x1), some (.int x2), some (.int l3), some (.int l4), some (.int (s.2.2.1 82 (((Int32.ofInt (2)) + l3).toInt.toNat))), some (.int (Int32.ofInt (0)))], [], sg_h s4, 0, 0)) rfl ?_
              exact (ih.2.2) (some (.int l4)) (some (.int (s.2.2.1 82 (((Int32.ofInt (2)) + l3).toInt.toNat)))) l3 (Int32.ofInt (0)) s4 h
            · refine am_Pn.bl 4 (y := (403, [some (.ref 64), some (.int x1), some (.int x2), some (.int l3), some (.int l4), some (.int (s.2.2.1 82 (((Int32.ofInt (2)) + l3).toInt.toNat))), some (.int (Int32.ofInt (1)))], [], sg_h s4, 0, 0)) rfl ?_
              exact (ih.2.2) (some (.int l4)) (some (.int (s.2.2.1 82 (((Int32.ofInt (2)) + l3).toInt.toNat)))) l3 (Int32.ofInt (1)) s4 h
        replace h := h.2
        by_cases hs5 : (s.2.2.1 72 (l3.toInt.toNat)).toInt = (1)
        · replace h := h.1 hs5
          refine am_Pn.tj (lo := 0) 1 (hs5.trans (by decide)) rfl rfl rfl rfl ?_
          refine am_Pn.bl 2 (y := (132, [some (.ref 64), some (.int x1), some (.int x2), some (.int l3), some (.int l4), some (.int (s.2.2.1 82 (((Int32.ofInt (2)) + l3).toInt.toNat))), some (.int (Int32.ofInt (0)))], [.ref 64, .int x2], sg_h s, 0, 0)) rfl ?_
          refine am_Pn.gr (k := 28) rfl rfl am_o64 rfl rfl ?_
          refine am_Pn.bl 1 (y := (136, [some (.ref 64), some (.int x1), some (.int x2), some (.int l3), some (.int l4), some (.int (s.2.2.1 82 (((Int32.ofInt (2)) + l3).toInt.toNat))), some (.int (Int32.ofInt (0)))], [.int l3, .ref 74, .int x2], sg_h s, 0, 0)) rfl ?_
          refine am_Pn.ia (a := 74) rfl rfl rfl rfl (fun hi => ?_)
          refine am_Pn.bl 1 (y := (138, [some (.ref 64), some (.int x1), some (.int x2), some (.int l3), some (.int l4), some (.int (s.2.2.1 82 (((Int32.ofInt (2)) + l3).toInt.toNat))), some (.int (Int32.ofInt (0)))], [.ref 64, .int (s.2.2.1 74 (l3.toInt.toNat)), .int x2], sg_h s, 0, 0)) rfl ?_
          refine am_Pn.gr (k := 29) rfl rfl am_o64 rfl rfl ?_
          refine am_Pn.bl 1 (y := (142, [some (.ref 64), some (.int x1), some (.int x2), some (.int l3), some (.int l4), some (.int (s.2.2.1 82 (((Int32.ofInt (2)) + l3).toInt.toNat))), some (.int (Int32.ofInt (0)))], [.int l3, .ref 75, .int (s.2.2.1 74 (l3.toInt.toNat)), .int x2], sg_h s, 0, 0)) rfl ?_
          refine am_Pn.ia (a := 75) rfl rfl rfl rfl (fun hi => ?_)
          refine am_Pn.csI hcl h rfl rfl rfl rfl rfl (fun x6 s6 h => ?_)
          refine am_Pn.zT h (am_beq rfl rfl) rfl rfl (fun h => ?_) (fun h => ?_)
          · refine am_Pn.bl 3 (y := (403, [some (.ref 64), some (.int x1), some (.int x2), some (.int l3), some (.int l4), some (.int (s.2.2.1 82 (((Int32.ofInt (2)) + l3).toInt.toNat))), some (.int (Int32.ofInt (0)))], [], sg_h s6, 0, 0)) rfl ?_
            exact (ih.2.2) (some (.int l4)) (some (.int (s.2.2.1 82 (((Int32.ofInt (2)) + l3).toInt.toNat)))) l3 (Int32.ofInt (0)) s6 h
          · refine am_Pn.bl 1 (y := (151, [some (.ref 64), some (.int x1), some (.int x2), some (.int l3), some (.int l4), some (.int (s.2.2.1 82 (((Int32.ofInt (2)) + l3).toInt.toNat))), some (.int (Int32.ofInt (0)))], [.int l4], sg_h s6, 0, 0)) rfl ?_
            refine am_Pn.zT h (am_beq rfl rfl) rfl rfl (fun h => ?_) (fun h => ?_)
            · refine am_Pn.bl 3 (y := (403, [some (.ref 64), some (.int x1), some (.int x2), some (.int l3), some (.int l4), some (.int (s.2.2.1 82 (((Int32.ofInt (2)) + l3).toInt.toNat))), some (.int (Int32.ofInt (0)))], [], sg_h s6, 0, 0)) rfl ?_
              exact (ih.2.2) (some (.int l4)) (some (.int (s.2.2.1 82 (((Int32.ofInt (2)) + l3).toInt.toNat)))) l3 (Int32.ofInt (0)) s6 h
            · refine am_Pn.bl 4 (y := (403, [some (.ref 64), some (.int x1), some (.int x2), some (.int l3), some (.int l4), some (.int (s.2.2.1 82 (((Int32.ofInt (2)) + l3).toInt.toNat))), some (.int (Int32.ofInt (1)))], [], sg_h s6, 0, 0)) rfl ?_
              exact (ih.2.2) (some (.int l4)) (some (.int (s.2.2.1 82 (((Int32.ofInt (2)) + l3).toInt.toNat)))) l3 (Int32.ofInt (1)) s6 h
        replace h := h.2
        by_cases hs7 : (s.2.2.1 72 (l3.toInt.toNat)).toInt = (2)
        · replace h := h.1 hs7
          refine am_Pn.tj (lo := 0) 2 (hs7.trans (by decide)) rfl rfl rfl rfl ?_
          refine am_Pn.bl 1 (y := (166, [some (.ref 64), some (.int x1), some (.int x2), some (.int l3), some (.int l4), some (.int (s.2.2.1 82 (((Int32.ofInt (2)) + l3).toInt.toNat))), some (.int (Int32.ofInt (0)))], [.int l4], sg_h s, 0, 0)) rfl ?_
          refine am_Pn.zT h (am_beq rfl rfl) rfl rfl (fun h => ?_) (fun h => ?_)
          · refine am_Pn.bl 1 (y := (213, [some (.ref 64), some (.int x1), some (.int x2), some (.int l3), some (.int l4), some (.int (s.2.2.1 82 (((Int32.ofInt (2)) + l3).toInt.toNat))), some (.int (Int32.ofInt (0)))], [.int (s.2.2.1 82 (((Int32.ofInt (2)) + l3).toInt.toNat))], sg_h s, 0, 0)) rfl ?_
            refine am_Pn.zF h (am_ble rfl rfl) rfl rfl (fun h => ?_) (fun h => ?_)
            · refine am_Pn.bl 3 (y := (403, [some (.ref 64), some (.int x1), some (.int x2), some (.int l3), some (.int l4), some (.int (s.2.2.1 82 (((Int32.ofInt (2)) + l3).toInt.toNat))), some (.int (Int32.ofInt (0)))], [], sg_h s, 0, 0)) rfl ?_
              exact (ih.2.2) (some (.int l4)) (some (.int (s.2.2.1 82 (((Int32.ofInt (2)) + l3).toInt.toNat)))) l3 (Int32.ofInt (0)) s h
            · refine am_Pn.bl 2 (y := (219, [some (.ref 64), some (.int x1), some (.int x2), some (.int l3), some (.int l4), some (.int (s.2.2.1 82 (((Int32.ofInt (2)) + l3).toInt.toNat))), some (.int (Int32.ofInt (0)))], [.ref 64, .int (s.2.2.1 82 (((Int32.ofInt (2)) + l3).toInt.toNat))], sg_h s, 0, 0)) rfl ?_
              refine am_Pn.gr (k := 28) rfl rfl am_o64 rfl rfl ?_
              refine am_Pn.bl 1 (y := (223, [some (.ref 64), some (.int x1), some (.int x2), some (.int l3), some (.int l4), some (.int (s.2.2.1 82 (((Int32.ofInt (2)) + l3).toInt.toNat))), some (.int (Int32.ofInt (0)))], [.int l3, .ref 74, .int (s.2.2.1 82 (((Int32.ofInt (2)) + l3).toInt.toNat))], sg_h s, 0, 0)) rfl ?_
              refine am_Pn.ia (a := 74) rfl rfl rfl rfl (fun hi => ?_)
              refine am_Pn.bF h (am_bge rfl rfl) rfl rfl (fun h => ?_) (fun h => ?_)
              · refine am_Pn.bl 3 (y := (403, [some (.ref 64), some (.int x1), some (.int x2), some (.int l3), some (.int l4), some (.int (s.2.2.1 82 (((Int32.ofInt (2)) + l3).toInt.toNat))), some (.int (Int32.ofInt (0)))], [], sg_h s, 0, 0)) rfl ?_
                exact (ih.2.2) (some (.int l4)) (some (.int (s.2.2.1 82 (((Int32.ofInt (2)) + l3).toInt.toNat)))) l3 (Int32.ofInt (0)) s h
              · refine am_Pn.bl 4 (y := (403, [some (.ref 64), some (.int x1), some (.int x2), some (.int l3), some (.int l4), some (.int (s.2.2.1 82 (((Int32.ofInt (2)) + l3).toInt.toNat))), some (.int (Int32.ofInt (1)))], [], sg_h s, 0, 0)) rfl ?_
                exact (ih.2.2) (some (.int l4)) (some (.int (s.2.2.1 82 (((Int32.ofInt (2)) + l3).toInt.toNat)))) l3 (Int32.ofInt (1)) s h
          · refine am_Pn.bl 4 (y := (174, [some (.ref 64), some (.int x1), some (.int x2), some (.int l3), some (.int l4), some (.int (s.2.2.1 82 (((Int32.ofInt (2)) + l3).toInt.toNat))), some (.int (Int32.ofInt (0)))], [.ref 64, .int ((s.2.2.1 82 (((Int32.ofInt (2)) + l3).toInt.toNat)) + (Int32.ofInt (1)))], sg_h s, 0, 0)) rfl ?_
            refine am_Pn.gr (k := 29) rfl rfl am_o64 rfl rfl ?_
            refine am_Pn.bl 1 (y := (178, [some (.ref 64), some (.int x1), some (.int x2), some (.int l3), some (.int l4), some (.int (s.2.2.1 82 (((Int32.ofInt (2)) + l3).toInt.toNat))), some (.int (Int32.ofInt (0)))], [.int l3, .ref 75, .int ((s.2.2.1 82 (((Int32.ofInt (2)) + l3).toInt.toNat)) + (Int32.ofInt (1)))], sg_h s, 0, 0)) rfl ?_
            refine am_Pn.ia (a := 75) rfl rfl rfl rfl (fun hi => ?_)
            refine am_Pn.bT h (am_bgt rfl rfl) rfl rfl (fun h => ?_) (fun h => ?_)
            · refine am_Pn.bl 4 (y := (403, [some (.ref 64), some (.int x1), some (.int x2), some (.int l3), some (.int l4), some (.int (s.2.2.1 82 (((Int32.ofInt (2)) + l3).toInt.toNat))), some (.int (Int32.ofInt (1)))], [], sg_h s, 0, 0)) rfl ?_
              exact (ih.2.2) (some (.int l4)) (some (.int (s.2.2.1 82 (((Int32.ofInt (2)) + l3).toInt.toNat)))) l3 (Int32.ofInt (1)) s h
            · refine am_Pn.bl 2 (y := (184, [some (.ref 64), some (.int x1), some (.int x2), some (.int l3), some (.int l4), some (.int (s.2.2.1 82 (((Int32.ofInt (2)) + l3).toInt.toNat))), some (.int (Int32.ofInt (0)))], [.ref 64, .int x2], sg_h s, 0, 0)) rfl ?_
              refine am_Pn.gi (k := 24) rfl rfl am_o64 rfl rfl ?_
              refine am_Pn.bF h (am_bne rfl rfl) rfl rfl (fun h => ?_) (fun h => ?_)
              · refine am_Pn.bl 4 (y := (403, [some (.ref 64), some (.int x1), some (.int x2), some (.int l3), some (.int l4), some (.int (s.2.2.1 82 (((Int32.ofInt (2)) + l3).toInt.toNat))), some (.int (Int32.ofInt (0)))], [], sg_h s, 0, 0)) rfl ?_
                exact (ih.2.2) (some (.int l4)) (some (.int (s.2.2.1 82 (((Int32.ofInt (2)) + l3).toInt.toNat)))) l3 (Int32.ofInt (0)) s h
              · refine am_Pn.bl 4 (y := (195, [some (.ref 64), some (.int x1), some (.int x2), some (.int l3), some (.int l4), some (.int (s.2.2.1 82 (((Int32.ofInt (2)) + l3).toInt.toNat))), some (.int (Int32.ofInt (0)))], [.ref 64, .int ((s.2.2.1 82 (((Int32.ofInt (2)) + l3).toInt.toNat)) + (Int32.ofInt (1)))], sg_h s, 0, 0)) rfl ?_
                refine am_Pn.gr (k := 28) rfl rfl am_o64 rfl rfl ?_
                refine am_Pn.bl 1 (y := (199, [some (.ref 64), some (.int x1), some (.int x2), some (.int l3), some (.int l4), some (.int (s.2.2.1 82 (((Int32.ofInt (2)) + l3).toInt.toNat))), some (.int (Int32.ofInt (0)))], [.int l3, .ref 74, .int ((s.2.2.1 82 (((Int32.ofInt (2)) + l3).toInt.toNat)) + (Int32.ofInt (1)))], sg_h s, 0, 0)) rfl ?_
                refine am_Pn.ia (a := 74) rfl rfl rfl rfl (fun hi => ?_)
                refine am_Pn.bF h (am_bge rfl rfl) rfl rfl (fun h => ?_) (fun h => ?_)
                · refine am_Pn.bl 4 (y := (403, [some (.ref 64), some (.int x1), some (.int x2), some (.int l3), some (.int l4), some (.int (s.2.2.1 82 (((Int32.ofInt (2)) + l3).toInt.toNat))), some (.int (Int32.ofInt (0)))], [], sg_h s, 0, 0)) rfl ?_
                  exact (ih.2.2) (some (.int l4)) (some (.int (s.2.2.1 82 (((Int32.ofInt (2)) + l3).toInt.toNat)))) l3 (Int32.ofInt (0)) s h
                · refine am_Pn.bl 4 (y := (403, [some (.ref 64), some (.int x1), some (.int x2), some (.int l3), some (.int l4), some (.int (s.2.2.1 82 (((Int32.ofInt (2)) + l3).toInt.toNat))), some (.int (Int32.ofInt (1)))], [], sg_h s, 0, 0)) rfl ?_
                  exact (ih.2.2) (some (.int l4)) (some (.int (s.2.2.1 82 (((Int32.ofInt (2)) + l3).toInt.toNat)))) l3 (Int32.ofInt (1)) s h
        replace h := h.2
        by_cases hs8 : (s.2.2.1 72 (l3.toInt.toNat)).toInt = (3)
        · replace h := h.1 hs8
          refine am_Pn.tj (lo := 0) 3 (hs8.trans (by decide)) rfl rfl rfl rfl ?_
          refine am_Pn.bl 1 (y := (239, [some (.ref 64), some (.int x1), some (.int x2), some (.int l3), some (.int l4), some (.int (s.2.2.1 82 (((Int32.ofInt (2)) + l3).toInt.toNat))), some (.int (Int32.ofInt (0)))], [.int l4], sg_h s, 0, 0)) rfl ?_
          refine am_Pn.zT h (am_beq rfl rfl) rfl rfl (fun h => ?_) (fun h => ?_)
          · refine am_Pn.bl 3 (y := (403, [some (.ref 64), some (.int x1), some (.int x2), some (.int l3), some (.int l4), some (.int (s.2.2.1 82 (((Int32.ofInt (2)) + l3).toInt.toNat))), some (.int (Int32.ofInt (0)))], [], sg_h s, 0, 0)) rfl ?_
            exact (ih.2.2) (some (.int l4)) (some (.int (s.2.2.1 82 (((Int32.ofInt (2)) + l3).toInt.toNat)))) l3 (Int32.ofInt (0)) s h
          · refine am_Pn.bl 1 (y := (244, [some (.ref 64), some (.int x1), some (.int x2), some (.int l3), some (.int l4), some (.int (s.2.2.1 82 (((Int32.ofInt (2)) + l3).toInt.toNat))), some (.int (Int32.ofInt (0)))], [.int (s.2.2.1 82 (((Int32.ofInt (2)) + l3).toInt.toNat))], sg_h s, 0, 0)) rfl ?_
            refine am_Pn.zF h (am_ble rfl rfl) rfl rfl (fun h => ?_) (fun h => ?_)
            · refine am_Pn.bl 3 (y := (403, [some (.ref 64), some (.int x1), some (.int x2), some (.int l3), some (.int l4), some (.int (s.2.2.1 82 (((Int32.ofInt (2)) + l3).toInt.toNat))), some (.int (Int32.ofInt (0)))], [], sg_h s, 0, 0)) rfl ?_
              exact (ih.2.2) (some (.int l4)) (some (.int (s.2.2.1 82 (((Int32.ofInt (2)) + l3).toInt.toNat)))) l3 (Int32.ofInt (0)) s h
            · refine am_Pn.bl 2 (y := (250, [some (.ref 64), some (.int x1), some (.int x2), some (.int l3), some (.int l4), some (.int (s.2.2.1 82 (((Int32.ofInt (2)) + l3).toInt.toNat))), some (.int (Int32.ofInt (0)))], [.ref 64, .int (s.2.2.1 82 (((Int32.ofInt (2)) + l3).toInt.toNat))], sg_h s, 0, 0)) rfl ?_
              refine am_Pn.gr (k := 28) rfl rfl am_o64 rfl rfl ?_
              refine am_Pn.bl 1 (y := (254, [some (.ref 64), some (.int x1), some (.int x2), some (.int l3), some (.int l4), some (.int (s.2.2.1 82 (((Int32.ofInt (2)) + l3).toInt.toNat))), some (.int (Int32.ofInt (0)))], [.int l3, .ref 74, .int (s.2.2.1 82 (((Int32.ofInt (2)) + l3).toInt.toNat))], sg_h s, 0, 0)) rfl ?_
              refine am_Pn.ia (a := 74) rfl rfl rfl rfl (fun hi => ?_)
              refine am_Pn.bF h (am_bge rfl rfl) rfl rfl (fun h => ?_) (fun h => ?_)
              · refine am_Pn.bl 3 (y := (403, [some (.ref 64), some (.int x1), some (.int x2), some (.int l3), some (.int l4), some (.int (s.2.2.1 82 (((Int32.ofInt (2)) + l3).toInt.toNat))), some (.int (Int32.ofInt (0)))], [], sg_h s, 0, 0)) rfl ?_
                exact (ih.2.2) (some (.int l4)) (some (.int (s.2.2.1 82 (((Int32.ofInt (2)) + l3).toInt.toNat)))) l3 (Int32.ofInt (0)) s h
              · refine am_Pn.bl 4 (y := (403, [some (.ref 64), some (.int x1), some (.int x2), some (.int l3), some (.int l4), some (.int (s.2.2.1 82 (((Int32.ofInt (2)) + l3).toInt.toNat))), some (.int (Int32.ofInt (1)))], [], sg_h s, 0, 0)) rfl ?_
                exact (ih.2.2) (some (.int l4)) (some (.int (s.2.2.1 82 (((Int32.ofInt (2)) + l3).toInt.toNat)))) l3 (Int32.ofInt (1)) s h
        replace h := h.2
        by_cases hs9 : (s.2.2.1 72 (l3.toInt.toNat)).toInt = (4)
        · replace h := h.1 hs9
          refine am_Pn.tj (lo := 0) 4 (hs9.trans (by decide)) rfl rfl rfl rfl ?_
          refine am_Pn.bl 1 (y := (270, [some (.ref 64), some (.int x1), some (.int x2), some (.int l3), some (.int l4), some (.int (s.2.2.1 82 (((Int32.ofInt (2)) + l3).toInt.toNat))), some (.int (Int32.ofInt (0)))], [.int l4], sg_h s, 0, 0)) rfl ?_
          refine am_Pn.zT h (am_beq rfl rfl) rfl rfl (fun h => ?_) (fun h => ?_)
          · refine am_Pn.bl 3 (y := (403, [some (.ref 64), some (.int x1), some (.int x2), some (.int l3), some (.int l4), some (.int (s.2.2.1 82 (((Int32.ofInt (2)) + l3).toInt.toNat))), some (.int (Int32.ofInt (0)))], [], sg_h s, 0, 0)) rfl ?_
            exact (ih.2.2) (some (.int l4)) (some (.int (s.2.2.1 82 (((Int32.ofInt (2)) + l3).toInt.toNat)))) l3 (Int32.ofInt (0)) s h
          · refine am_Pn.bl 4 (y := (278, [some (.ref 64), some (.int x1), some (.int x2), some (.int l3), some (.int l4), some (.int (s.2.2.1 82 (((Int32.ofInt (2)) + l3).toInt.toNat))), some (.int (Int32.ofInt (0)))], [.ref 64, .int ((s.2.2.1 82 (((Int32.ofInt (2)) + l3).toInt.toNat)) + (Int32.ofInt (1)))], sg_h s, 0, 0)) rfl ?_
            refine am_Pn.gr (k := 28) rfl rfl am_o64 rfl rfl ?_
            refine am_Pn.bl 1 (y := (282, [some (.ref 64), some (.int x1), some (.int x2), some (.int l3), some (.int l4), some (.int (s.2.2.1 82 (((Int32.ofInt (2)) + l3).toInt.toNat))), some (.int (Int32.ofInt (0)))], [.int l3, .ref 74, .int ((s.2.2.1 82 (((Int32.ofInt (2)) + l3).toInt.toNat)) + (Int32.ofInt (1)))], sg_h s, 0, 0)) rfl ?_
            refine am_Pn.ia (a := 74) rfl rfl rfl rfl (fun hi => ?_)
            refine am_Pn.bF h (am_ble rfl rfl) rfl rfl (fun h => ?_) (fun h => ?_)
            · refine am_Pn.bl 3 (y := (403, [some (.ref 64), some (.int x1), some (.int x2), some (.int l3), some (.int l4), some (.int (s.2.2.1 82 (((Int32.ofInt (2)) + l3).toInt.toNat))), some (.int (Int32.ofInt (0)))], [], sg_h s, 0, 0)) rfl ?_
              exact (ih.2.2) (some (.int l4)) (some (.int (s.2.2.1 82 (((Int32.ofInt (2)) + l3).toInt.toNat)))) l3 (Int32.ofInt (0)) s h
            · refine am_Pn.bl 4 (y := (403, [some (.ref 64), some (.int x1), some (.int x2), some (.int l3), some (.int l4), some (.int (s.2.2.1 82 (((Int32.ofInt (2)) + l3).toInt.toNat))), some (.int (Int32.ofInt (1)))], [], sg_h s, 0, 0)) rfl ?_
              exact (ih.2.2) (some (.int l4)) (some (.int (s.2.2.1 82 (((Int32.ofInt (2)) + l3).toInt.toNat)))) l3 (Int32.ofInt (1)) s h
        replace h := h.2
        by_cases hs10 : (s.2.2.1 72 (l3.toInt.toNat)).toInt = (5)
        · replace h := h.1 hs10
          refine am_Pn.tj (lo := 0) 5 (hs10.trans (by decide)) rfl rfl rfl rfl ?_
          refine am_Pn.bl 2 (y := (300, [some (.ref 64), some (.int x1), some (.int x2), some (.int l3), some (.int l4), some (.int (s.2.2.1 82 (((Int32.ofInt (2)) + l3).toInt.toNat))), some (.int (Int32.ofInt (0)))], [.int l4, .int (s.2.2.1 82 (((Int32.ofInt (2)) + l3).toInt.toNat))], sg_h s, 0, 0)) rfl ?_
          refine am_Pn.zT h (am_beq rfl rfl) rfl rfl (fun h => ?_) (fun h => ?_)
          · refine am_Pn.bl 3 (y := (310, [some (.ref 64), some (.int x1), some (.int x2), some (.int l3), some (.int l4), some (.int (s.2.2.1 82 (((Int32.ofInt (2)) + l3).toInt.toNat))), some (.int (Int32.ofInt (0)))], [.ref 64, .int ((s.2.2.1 82 (((Int32.ofInt (2)) + l3).toInt.toNat)) + (Int32.ofInt (0)))], sg_h s, 0, 0)) rfl ?_
            refine am_Pn.gi (k := 24) rfl rfl am_o64 rfl rfl ?_
            refine am_Pn.bl 4 (y := (317, [some (.ref 64), some (.int x1), some (.int x2), some (.int l3), some (.int l4), some (.int (s.2.2.1 82 (((Int32.ofInt (2)) + l3).toInt.toNat))), some (.int (Int32.ofInt (0)))], [.ref 64, .int ((((s.2.2.1 82 (((Int32.ofInt (2)) + l3).toInt.toNat)) + (Int32.ofInt (0))) + (s.1 64 24)) - x2)], sg_h s, 0, 0)) rfl ?_
            refine am_Pn.gr (k := 28) rfl rfl am_o64 rfl rfl ?_
            refine am_Pn.bl 1 (y := (321, [some (.ref 64), some (.int x1), some (.int x2), some (.int l3), some (.int l4), some (.int (s.2.2.1 82 (((Int32.ofInt (2)) + l3).toInt.toNat))), some (.int (Int32.ofInt (0)))], [.int l3, .ref 74, .int ((((s.2.2.1 82 (((Int32.ofInt (2)) + l3).toInt.toNat)) + (Int32.ofInt (0))) + (s.1 64 24)) - x2)], sg_h s, 0, 0)) rfl ?_
            refine am_Pn.ia (a := 74) rfl rfl rfl rfl (fun hi => ?_)
            refine am_Pn.bF h (am_bge rfl rfl) rfl rfl (fun h => ?_) (fun h => ?_)
            · refine am_Pn.bl 3 (y := (403, [some (.ref 64), some (.int x1), some (.int x2), some (.int l3), some (.int l4), some (.int (s.2.2.1 82 (((Int32.ofInt (2)) + l3).toInt.toNat))), some (.int (Int32.ofInt (0)))], [], sg_h s, 0, 0)) rfl ?_
              exact (ih.2.2) (some (.int l4)) (some (.int (s.2.2.1 82 (((Int32.ofInt (2)) + l3).toInt.toNat)))) l3 (Int32.ofInt (0)) s h
            · refine am_Pn.bl 4 (y := (403, [some (.ref 64), some (.int x1), some (.int x2), some (.int l3), some (.int l4), some (.int (s.2.2.1 82 (((Int32.ofInt (2)) + l3).toInt.toNat))), some (.int (Int32.ofInt (1)))], [], sg_h s, 0, 0)) rfl ?_
              exact (ih.2.2) (some (.int l4)) (some (.int (s.2.2.1 82 (((Int32.ofInt (2)) + l3).toInt.toNat)))) l3 (Int32.ofInt (1)) s h
          · refine am_Pn.bl 4 (y := (310, [some (.ref 64), some (.int x1), some (.int x2), some (.int l3), some (.int l4), some (.int (s.2.2.1 82 (((Int32.ofInt (2)) + l3).toInt.toNat))), some (.int (Int32.ofInt (0)))], [.ref 64, .int ((s.2.2.1 82 (((Int32.ofInt (2)) + l3).toInt.toNat)) + (Int32.ofInt (1)))], sg_h s, 0, 0)) rfl ?_
            refine am_Pn.gi (k := 24) rfl rfl am_o64 rfl rfl ?_
            refine am_Pn.bl 4 (y := (317, [some (.ref 64), some (.int x1), some (.int x2), some (.int l3), some (.int l4), some (.int (s.2.2.1 82 (((Int32.ofInt (2)) + l3).toInt.toNat))), some (.int (Int32.ofInt (0)))], [.ref 64, .int ((((s.2.2.1 82 (((Int32.ofInt (2)) + l3).toInt.toNat)) + (Int32.ofInt (1))) + (s.1 64 24)) - x2)], sg_h s, 0, 0)) rfl ?_
            refine am_Pn.gr (k := 28) rfl rfl am_o64 rfl rfl ?_
            refine am_Pn.bl 1 (y := (321, [some (.ref 64), some (.int x1), some (.int x2), some (.int l3), some (.int l4), some (.int (s.2.2.1 82 (((Int32.ofInt (2)) + l3).toInt.toNat))), some (.int (Int32.ofInt (0)))], [.int l3, .ref 74, .int ((((s.2.2.1 82 (((Int32.ofInt (2)) + l3).toInt.toNat)) + (Int32.ofInt (1))) + (s.1 64 24)) - x2)], sg_h s, 0, 0)) rfl ?_
            refine am_Pn.ia (a := 74) rfl rfl rfl rfl (fun hi => ?_)
            refine am_Pn.bF h (am_bge rfl rfl) rfl rfl (fun h => ?_) (fun h => ?_)
            · refine am_Pn.bl 3 (y := (403, [some (.ref 64), some (.int x1), some (.int x2), some (.int l3), some (.int l4), some (.int (s.2.2.1 82 (((Int32.ofInt (2)) + l3).toInt.toNat))), some (.int (Int32.ofInt (0)))], [], sg_h s, 0, 0)) rfl ?_
              exact (ih.2.2) (some (.int l4)) (some (.int (s.2.2.1 82 (((Int32.ofInt (2)) + l3).toInt.toNat)))) l3 (Int32.ofInt (0)) s h
            · refine am_Pn.bl 4 (y := (403, [some (.ref 64), some (.int x1), some (.int x2), some (.int l3), some (.int l4), some (.int (s.2.2.1 82 (((Int32.ofInt (2)) + l3).toInt.toNat))), some (.int (Int32.ofInt (1)))], [], sg_h s, 0, 0)) rfl ?_
              exact (ih.2.2) (some (.int l4)) (some (.int (s.2.2.1 82 (((Int32.ofInt (2)) + l3).toInt.toNat)))) l3 (Int32.ofInt (1)) s h
        replace h := h.2
        by_cases hs11 : (s.2.2.1 72 (l3.toInt.toNat)).toInt = (6)
        · replace h := h.1 hs11
          refine am_Pn.tj (lo := 0) 6 (hs11.trans (by decide)) rfl rfl rfl rfl ?_
          exact (ih.2.2) (some (.int l4)) (some (.int (s.2.2.1 82 (((Int32.ofInt (2)) + l3).toInt.toNat)))) l3 (Int32.ofInt (0)) s h
        replace h := h.2
        by_cases hs12 : (s.2.2.1 72 (l3.toInt.toNat)).toInt = (7)
        · replace h := h.1 hs12
          refine am_Pn.tj (lo := 0) 7 (hs12.trans (by decide)) rfl rfl rfl rfl ?_
          refine am_Pn.bl 1 (y := (336, [some (.ref 64), some (.int x1), some (.int x2), some (.int l3), some (.int l4), some (.int (s.2.2.1 82 (((Int32.ofInt (2)) + l3).toInt.toNat))), some (.int (Int32.ofInt (0)))], [.ref 64], sg_h s, 0, 0)) rfl ?_
          refine am_Pn.gr (k := 39) rfl rfl am_o64 rfl rfl ?_
          refine am_Pn.bl 1 (y := (340, [some (.ref 64), some (.int x1), some (.int x2), some (.int l3), some (.int l4), some (.int (s.2.2.1 82 (((Int32.ofInt (2)) + l3).toInt.toNat))), some (.int (Int32.ofInt (0)))], [.int (Int32.ofInt (0)), .ref 82], sg_h s, 0, 0)) rfl ?_
          refine am_Pn.ia (a := 82) rfl rfl rfl rfl (fun hi => ?_)
          refine am_Pn.bl 1 (y := (342, [some (.ref 64), some (.int x1), some (.int x2), some (.int l3), some (.int l4), some (.int (s.2.2.1 82 (((Int32.ofInt (2)) + l3).toInt.toNat))), some (.int (Int32.ofInt (0)))], [.int (Int32.ofInt (-1)), .int (s.2.2.1 82 (0))], sg_h s, 0, 0)) rfl ?_
          refine am_Pn.bT h (am_beq rfl rfl) rfl rfl (fun h => ?_) (fun h => ?_)
          · refine am_Pn.bl 3 (y := (403, [some (.ref 64), some (.int x1), some (.int x2), some (.int l3), some (.int l4), some (.int (s.2.2.1 82 (((Int32.ofInt (2)) + l3).toInt.toNat))), some (.int (Int32.ofInt (0)))], [], sg_h s, 0, 0)) rfl ?_
            exact (ih.2.2) (some (.int l4)) (some (.int (s.2.2.1 82 (((Int32.ofInt (2)) + l3).toInt.toNat)))) l3 (Int32.ofInt (0)) s h
          · refine am_Pn.bl 3 (y := (348, [some (.ref 64), some (.int x1), some (.int x2), some (.int l3), some (.int l4), some (.int (s.2.2.1 82 (((Int32.ofInt (2)) + l3).toInt.toNat))), some (.int (Int32.ofInt (0)))], [.ref 64, .int x1, .ref 64], sg_h s, 0, 0)) rfl ?_
            refine am_Pn.gr (k := 39) rfl rfl am_o64 rfl rfl ?_
            refine am_Pn.bl 1 (y := (352, [some (.ref 64), some (.int x1), some (.int x2), some (.int l3), some (.int l4), some (.int (s.2.2.1 82 (((Int32.ofInt (2)) + l3).toInt.toNat))), some (.int (Int32.ofInt (0)))], [.int (Int32.ofInt (0)), .ref 82, .int x1, .ref 64], sg_h s, 0, 0)) rfl ?_
            refine am_Pn.ia (a := 82) rfl rfl rfl rfl (fun hi => ?_)
            refine am_Pn.cvI hcl h rfl rfl rfl rfl rfl (fun x13 s13 h => ?_)
            refine am_Pn.zF h (am_bne rfl rfl) rfl rfl (fun h => ?_) (fun h => ?_)
            · refine am_Pn.bl 3 (y := (403, [some (.ref 64), some (.int x1), some (.int x2), some (.int l3), some (.int l4), some (.int (s.2.2.1 82 (((Int32.ofInt (2)) + l3).toInt.toNat))), some (.int (Int32.ofInt (0)))], [], sg_h s13, 0, 0)) rfl ?_
              exact (ih.2.2) (some (.int l4)) (some (.int (s.2.2.1 82 (((Int32.ofInt (2)) + l3).toInt.toNat)))) l3 (Int32.ofInt (0)) s13 h
            · refine am_Pn.bl 4 (y := (403, [some (.ref 64), some (.int x1), some (.int x2), some (.int l3), some (.int l4), some (.int (s.2.2.1 82 (((Int32.ofInt (2)) + l3).toInt.toNat))), some (.int (Int32.ofInt (1)))], [], sg_h s13, 0, 0)) rfl ?_
              exact (ih.2.2) (some (.int l4)) (some (.int (s.2.2.1 82 (((Int32.ofInt (2)) + l3).toInt.toNat)))) l3 (Int32.ofInt (1)) s13 h
        replace h := h.2
        by_cases hs14 : (s.2.2.1 72 (l3.toInt.toNat)).toInt = (8)
        · replace h := h.1 hs14
          refine am_Pn.tj (lo := 0) 8 (hs14.trans (by decide)) rfl rfl rfl rfl ?_
          refine am_Pn.bl 1 (y := (370, [some (.ref 64), some (.int x1), some (.int x2), some (.int l3), some (.int l4), some (.int (s.2.2.1 82 (((Int32.ofInt (2)) + l3).toInt.toNat))), some (.int (Int32.ofInt (0)))], [.ref 64], sg_h s, 0, 0)) rfl ?_
          refine am_Pn.gr (k := 39) rfl rfl am_o64 rfl rfl ?_
          refine am_Pn.bl 1 (y := (374, [some (.ref 64), some (.int x1), some (.int x2), some (.int l3), some (.int l4), some (.int (s.2.2.1 82 (((Int32.ofInt (2)) + l3).toInt.toNat))), some (.int (Int32.ofInt (0)))], [.int (Int32.ofInt (1)), .ref 82], sg_h s, 0, 0)) rfl ?_
          refine am_Pn.ia (a := 82) rfl rfl rfl rfl (fun hi => ?_)
          refine am_Pn.bl 1 (y := (376, [some (.ref 64), some (.int x1), some (.int x2), some (.int l3), some (.int l4), some (.int (s.2.2.1 82 (((Int32.ofInt (2)) + l3).toInt.toNat))), some (.int (Int32.ofInt (0)))], [.int (Int32.ofInt (-1)), .int (s.2.2.1 82 (1))], sg_h s, 0, 0)) rfl ?_
          refine am_Pn.bT h (am_beq rfl rfl) rfl rfl (fun h => ?_) (fun h => ?_)
          · refine am_Pn.bl 3 (y := (403, [some (.ref 64), some (.int x1), some (.int x2), some (.int l3), some (.int l4), some (.int (s.2.2.1 82 (((Int32.ofInt (2)) + l3).toInt.toNat))), some (.int (Int32.ofInt (0)))], [], sg_h s, 0, 0)) rfl ?_
            exact (ih.2.2) (some (.int l4)) (some (.int (s.2.2.1 82 (((Int32.ofInt (2)) + l3).toInt.toNat)))) l3 (Int32.ofInt (0)) s h
          · refine am_Pn.bl 3 (y := (382, [some (.ref 64), some (.int x1), some (.int x2), some (.int l3), some (.int l4), some (.int (s.2.2.1 82 (((Int32.ofInt (2)) + l3).toInt.toNat))), some (.int (Int32.ofInt (0)))], [.ref 64, .int x1, .ref 64], sg_h s, 0, 0)) rfl ?_
            refine am_Pn.gr (k := 39) rfl rfl am_o64 rfl rfl ?_
            refine am_Pn.bl 1 (y := (386, [some (.ref 64), some (.int x1), some (.int x2), some (.int l3), some (.int l4), some (.int (s.2.2.1 82 (((Int32.ofInt (2)) + l3).toInt.toNat))), some (.int (Int32.ofInt (0)))], [.int (Int32.ofInt (1)), .ref 82, .int x1, .ref 64], sg_h s, 0, 0)) rfl ?_
            refine am_Pn.ia (a := 82) rfl rfl rfl rfl (fun hi => ?_)
            refine am_Pn.cvI hcl h rfl rfl rfl rfl rfl (fun x15 s15 h => ?_)
            refine am_Pn.zT h (am_beq rfl rfl) rfl rfl (fun h => ?_) (fun h => ?_)
            · refine am_Pn.bl 3 (y := (403, [some (.ref 64), some (.int x1), some (.int x2), some (.int l3), some (.int l4), some (.int (s.2.2.1 82 (((Int32.ofInt (2)) + l3).toInt.toNat))), some (.int (Int32.ofInt (0)))], [], sg_h s15, 0, 0)) rfl ?_
              exact (ih.2.2) (some (.int l4)) (some (.int (s.2.2.1 82 (((Int32.ofInt (2)) + l3).toInt.toNat)))) l3 (Int32.ofInt (0)) s15 h
            · refine am_Pn.bl 4 (y := (403, [some (.ref 64), some (.int x1), some (.int x2), some (.int l3), some (.int l4), some (.int (s.2.2.1 82 (((Int32.ofInt (2)) + l3).toInt.toNat))), some (.int (Int32.ofInt (1)))], [], sg_h s15, 0, 0)) rfl ?_
              exact (ih.2.2) (some (.int l4)) (some (.int (s.2.2.1 82 (((Int32.ofInt (2)) + l3).toInt.toNat)))) l3 (Int32.ofInt (1)) s15 h
        replace h := h.2
        have hsd16 : (s.2.2.1 72 (l3.toInt.toNat)).toInt < (0) ∨ (8) < (s.2.2.1 72 (l3.toInt.toNat)).toInt := by omega
        refine am_Pn.td (lo := 0) (hi := 8) hsd16 rfl rfl ?_
        replace h := h (by omega)
        exact (ih.2.2) (some (.int l4)) (some (.int (s.2.2.1 82 (((Int32.ofInt (2)) + l3).toInt.toNat)))) l3 (Int32.ofInt (0)) s h
      · intro o4 o5 l3 l6 s h
        replace h := k403 l3 l6 s h
        unfold wp_M_broken_403 at h
        refine am_Pn.bl1 0 (y := (405, [some (.ref 64), some (.int x1), some (.int x2), some (.int l3), o4, o5, some (.int l6)], [.int l6], sg_h s, 0, 0)) rfl ?_
        refine am_Pn.zT h (am_beq rfl rfl) rfl rfl (fun h => ?_) (fun h => ?_)
        · refine am_Pn.bl 2 (y := (2, [some (.ref 64), some (.int x1), some (.int x2), some (.int (l3 + Int32.ofInt (1))), o4, o5, some (.int l6)], [], sg_h s, 0, 0)) rfl ?_
          exact (ih.1) o4 o5 (some (.int l6)) (l3 + Int32.ofInt (1)) s h
        · refine am_Pn.bl 1 (y := (409, [some (.ref 64), some (.int x1), some (.int x2), some (.int l3), o4, o5, some (.int l6)], [.int l3], sg_h s, 0, 0)) rfl ?_
          exact am_Pn.rI h rfl
  unfold wp_M_broken at h
  refine am_Pn.bl 2 (y := (2, [some (.ref 64), some (.int x1), some (.int x2), some (.int (Int32.ofInt (0))), none, none, none], [], sg_h s, 0, 0)) rfl ?_
  exact ((key n).1) none none none (Int32.ofInt (0)) s h
def wp_M_goesAlong_21 (I21 : Int32 →  sg_S → Prop) (I46 : Int32 → Int32 →  sg_S → Prop) (I213 : Int32 →  sg_S → Prop) (Ψ : sg_S → Prop) (x1 : Int32) (l2 : Int32) (s : sg_S) : Prop := ((l2.toInt < (s.1 64 23).toInt → (0 ≤ l2.toInt → l2.toInt < (12) → (((x1 &&& (s.2.2.1 73 (l2.toInt.toNat))).toInt = (0) → (I46 l2 (Int32.ofInt (0)) s)) ∧ (¬ (x1 &&& (s.2.2.1 73 (l2.toInt.toNat))).toInt = (0) → (I46 l2 (Int32.ofInt (1)) s))))) ∧ (¬ l2.toInt < (s.1 64 23).toInt → (Ψ s)))
def wp_M_goesAlong_46 (I21 : Int32 →  sg_S → Prop) (I46 : Int32 → Int32 →  sg_S → Prop) (I213 : Int32 →  sg_S → Prop) (Ψ : sg_S → Prop) (x1 : Int32) (l2 : Int32) (l3 : Int32) (s : sg_S) : Prop := (0 ≤ ((Int32.ofInt (2)) + l2).toInt → ((Int32.ofInt (2)) + l2).toInt < (14) → (0 ≤ l2.toInt → l2.toInt < (12) → (((s.2.2.1 72 (l2.toInt.toNat)).toInt = (2) → ((l3.toInt = (0) → (I213 l2 (sg_uA s 82 (((Int32.ofInt (2)) + l2).toInt.toNat) (Int32.ofInt (0))))) ∧ (¬ l3.toInt = (0) → (I213 l2 (sg_uA s 82 (((Int32.ofInt (2)) + l2).toInt.toNat) ((s.2.2.1 82 (((Int32.ofInt (2)) + l2).toInt.toNat)) + (Int32.ofInt (1)))))))) ∧ ((s.2.2.1 72 (l2.toInt.toNat)).toInt = (3) → ((l3.toInt = (0) → (((s.2.2.1 82 (((Int32.ofInt (2)) + l2).toInt.toNat)).toInt < (s.2.2.1 74 (l2.toInt.toNat)).toInt → (I213 l2 (sg_uA s 82 (((Int32.ofInt (2)) + l2).toInt.toNat) ((s.2.2.1 82 (((Int32.ofInt (2)) + l2).toInt.toNat)) + (Int32.ofInt (1)))))) ∧ (¬ (s.2.2.1 82 (((Int32.ofInt (2)) + l2).toInt.toNat)).toInt < (s.2.2.1 74 (l2.toInt.toNat)).toInt → (I213 l2 (sg_uA s 82 (((Int32.ofInt (2)) + l2).toInt.toNat) (s.2.2.1 82 (((Int32.ofInt (2)) + l2).toInt.toNat))))))) ∧ (¬ l3.toInt = (0) → (I213 l2 (sg_uA s 82 (((Int32.ofInt (2)) + l2).toInt.toNat) (Int32.ofInt (0))))))) ∧ ((s.2.2.1 72 (l2.toInt.toNat)).toInt = (4) → ((l3.toInt = (0) → (I213 l2 (sg_uA s 82 (((Int32.ofInt (2)) + l2).toInt.toNat) (s.2.2.1 82 (((Int32.ofInt (2)) + l2).toInt.toNat))))) ∧ (¬ l3.toInt = (0) → (I213 l2 (sg_uA s 82 (((Int32.ofInt (2)) + l2).toInt.toNat) ((s.2.2.1 82 (((Int32.ofInt (2)) + l2).toInt.toNat)) + (Int32.ofInt (1)))))))) ∧ ((s.2.2.1 72 (l2.toInt.toNat)).toInt = (5) → ((l3.toInt = (0) → (I213 l2 (sg_uA s 82 (((Int32.ofInt (2)) + l2).toInt.toNat) (s.2.2.1 82 (((Int32.ofInt (2)) + l2).toInt.toNat))))) ∧ (¬ l3.toInt = (0) → (((s.2.2.1 82 (((Int32.ofInt (2)) + l2).toInt.toNat)).toInt < (s.2.2.1 74 (l2.toInt.toNat)).toInt → (I213 l2 (sg_uA s 82 (((Int32.ofInt (2)) + l2).toInt.toNat) ((s.2.2.1 82 (((Int32.ofInt (2)) + l2).toInt.toNat)) + (Int32.ofInt (1)))))) ∧ (¬ (s.2.2.1 82 (((Int32.ofInt (2)) + l2).toInt.toNat)).toInt < (s.2.2.1 74 (l2.toInt.toNat)).toInt → (I213 l2 (sg_uA s 82 (((Int32.ofInt (2)) + l2).toInt.toNat) (s.2.2.1 82 (((Int32.ofInt (2)) + l2).toInt.toNat))))))))) ∧ (((s.2.2.1 72 (l2.toInt.toNat)).toInt < (2) ∨ (5) < (s.2.2.1 72 (l2.toInt.toNat)).toInt) → (I213 l2 s)))))
def wp_M_goesAlong_213 (I21 : Int32 →  sg_S → Prop) (I46 : Int32 → Int32 →  sg_S → Prop) (I213 : Int32 →  sg_S → Prop) (Ψ : sg_S → Prop) (x1 : Int32) (l2 : Int32) (s : sg_S) : Prop := (I21 (l2 + Int32.ofInt (1)) s)
def wp_M_goesAlong (I21 : Int32 →  sg_S → Prop) (I46 : Int32 → Int32 →  sg_S → Prop) (I213 : Int32 →  sg_S → Prop) (Ψ : sg_S → Prop) (x1 : Int32) (s : sg_S) : Prop := (I21 (Int32.ofInt (0)) (sg_uA (sg_uA s 82 (1) (s.2.2.1 82 (0))) 82 (0) x1))
set_option maxRecDepth 100000 in
theorem wp_M_goesAlong_ok {I21 : Int32 →  sg_S → Prop} {I46 : Int32 → Int32 →  sg_S → Prop} {I213 : Int32 →  sg_S → Prop} {Ψ : sg_S → Prop} {x1 : Int32} {s : sg_S} (k21 : ∀ (l2 : Int32) (s : sg_S), I21 l2 s → wp_M_goesAlong_21 I21 I46 I213 Ψ x1 l2 s) (k46 : ∀ (l2 : Int32) (l3 : Int32) (s : sg_S), I46 l2 l3 s → wp_M_goesAlong_46 I21 I46 I213 Ψ x1 l2 l3 s) (k213 : ∀ (l2 : Int32) (s : sg_S), I213 l2 s → wp_M_goesAlong_213 I21 I46 I213 Ψ x1 l2 s) (h : wp_M_goesAlong I21 I46 I213 Ψ x1 s) : am_SpV 186 [.ref 64, .int x1] s Ψ := by
  refine am_SpV.mk (r := am_r186) rfl rfl (fun call d al n hcl => ?_)
  have key : ∀ n, (∀ (o3 : Option Value) (o4 : Option Value) (l2 : Int32) (s : sg_S), I21 l2 s → am_Pn call d (0, fun _ => 0) al am_r186 (am_PhV am_r186 Ψ) n (21, [some (.ref 64), some (.int x1), some (.int l2), o3, o4], [], sg_h s, 0, 0)) ∧ (∀ (o4 : Option Value) (l2 : Int32) (l3 : Int32) (s : sg_S), I46 l2 l3 s → am_Pn call d (0, fun _ => 0) al am_r186 (am_PhV am_r186 Ψ) n (46, [some (.ref 64), some (.int x1), some (.int l2), some (.int l3), o4], [], sg_h s, 0, 0)) ∧ (∀ (o3 : Option Value) (o4 : Option Value) (l2 : Int32) (s : sg_S), I213 l2 s → am_Pn call d (0, fun _ => 0) al am_r186 (am_PhV am_r186 Ψ) n (213, [some (.ref 64), some (.int x1), some (.int l2), o3, o4], [], sg_h s, 0, 0)) := by
    intro n
    induction n with
    | zero => exact ⟨fun _ _ _ _ _ => am_Pn.zero, fun _ _ _ _ _ => am_Pn.zero, fun _ _ _ _ _ => am_Pn.zero⟩
    | succ n ih =>
      refine ⟨?_, ?_, ?_⟩
      · intro o3 o4 l2 s h
        replace h := k21 l2 s h
        unfold wp_M_goesAlong_21 at h
        refine am_Pn.bl1 1 (y := (23, [some (.ref 64), some (.int x1), some (.int l2), o3, o4], [.ref 64, .int l2], sg_h s, 0, 0)) rfl ?_
        refine am_Pn.gi (k := 23) rfl rfl am_o64 rfl rfl ?_
        refine am_Pn.bF h (am_bge rfl rfl) rfl rfl (fun h => ?_) (fun h => ?_)
        · exact am_Pn.rV h rfl
        · refine am_Pn.bl 2 (y := (31, [some (.ref 64), some (.int x1), some (.int l2), o3, o4], [.ref 64, .int x1], sg_h s, 0, 0)) rfl ?_
          refine am_Pn.gr (k := 27) rfl rfl am_o64 rfl rfl ?_
          refine am_Pn.bl 1 (y := (35, [some (.ref 64), some (.int x1), some (.int l2), o3, o4], [.int l2, .ref 73, .int x1], sg_h s, 0, 0)) rfl ?_
          refine am_Pn.ia (a := 73) rfl rfl rfl rfl (fun hi => ?_)
          replace h := h (am_in0 hi) (am_in1 hi)
          refine am_Pn.bl 1 (y := (37, [some (.ref 64), some (.int x1), some (.int l2), o3, o4], [.int (x1 &&& (s.2.2.1 73 (l2.toInt.toNat)))], sg_h s, 0, 0)) rfl ?_
          refine am_Pn.zT h (am_beq rfl rfl) rfl rfl (fun h => ?_) (fun h => ?_)
          · refine am_Pn.bl 2 (y := (46, [some (.ref 64), some (.int x1), some (.int l2), some (.int (Int32.ofInt (0))), o4], [], sg_h s, 0, 0)) rfl ?_
            exact (ih.2.1) o4 l2 (Int32.ofInt (0)) s h
          · refine am_Pn.bl 3 (y := (46, [some (.ref 64), some (.int x1), some (.int l2), some (.int (Int32.ofInt (1))), o4], [], sg_h s, 0, 0)) rfl ?_
            exact (ih.2.1) o4 l2 (Int32.ofInt (1)) s h
      · intro o4 l2 l3 s h
        replace h := k46 l2 l3 s h
        unfold wp_M_goesAlong_46 at h
        refine am_Pn.bl1 0 (y := (47, [some (.ref 64), some (.int x1), some (.int l2), some (.int l3), o4], [.ref 64], sg_h s, 0, 0)) rfl ?_
        refine am_Pn.gr (k := 39) rfl rfl am_o64 rfl rfl ?_
        refine am_Pn.bl 3 (y := (53, [some (.ref 64), some (.int x1), some (.int l2), some (.int l3), o4], [.int ((Int32.ofInt (2)) + l2), .ref 82], sg_h s, 0, 0)) rfl ?_
        refine am_Pn.ia (a := 82) rfl rfl rfl rfl (fun hi => ?_)
        replace h := h (am_in0 hi) (am_in1 hi)
        refine am_Pn.bl 2 (y := (57, [some (.ref 64), some (.int x1), some (.int l2), some (.int l3), some (.int (s.2.2.1 82 (((Int32.ofInt (2)) + l2).toInt.toNat)))], [.ref 64], sg_h s, 0, 0)) rfl ?_
        refine am_Pn.gr (k := 26) rfl rfl am_o64 rfl rfl ?_
        refine am_Pn.bl 1 (y := (61, [some (.ref 64), some (.int x1), some (.int l2), some (.int l3), some (.int (s.2.2.1 82 (((Int32.ofInt (2)) + l2).toInt.toNat)))], [.int l2, .ref 72], sg_h s, 0, 0)) rfl ?_
        refine am_Pn.ia (a := 72) rfl rfl rfl rfl (fun hi => ?_)
        replace h := h (am_in0 hi) (am_in1 hi)
        by_cases hs2 : (s.2.2.1 72 (l2.toInt.toNat)).toInt = (2)
        · replace h := h.1 hs2
          refine am_Pn.tj (lo := 2) 0 (hs2.trans (by decide)) rfl rfl rfl rfl ?_
          refine am_Pn.bl 1 (y := (93, [some (.ref 64), some (.int x1), some (.int l2), some (.int l3), some (.int (s.2.2.1 82 (((Int32.ofInt (2)) + l2).toInt.toNat)))], [.ref 64], sg_h s, 0, 0)) rfl ?_
          refine am_Pn.gr (k := 39) rfl rfl am_o64 rfl rfl ?_
          refine am_Pn.bl 4 (y := (100, [some (.ref 64), some (.int x1), some (.int l2), some (.int l3), some (.int (s.2.2.1 82 (((Int32.ofInt (2)) + l2).toInt.toNat)))], [.int l3, .int ((Int32.ofInt (2)) + l2), .ref 82], sg_h s, 0, 0)) rfl ?_
          refine am_Pn.zT h (am_beq rfl rfl) rfl rfl (fun h => ?_) (fun h => ?_)
          · refine am_Pn.bl 1 (y := (111, [some (.ref 64), some (.int x1), some (.int l2), some (.int l3), some (.int (s.2.2.1 82 (((Int32.ofInt (2)) + l2).toInt.toNat)))], [.int (Int32.ofInt (0)), .int ((Int32.ofInt (2)) + l2), .ref 82], sg_h s, 0, 0)) rfl ?_
            refine am_Pn.is (a := 82) rfl rfl rfl (fun hi => ?_)
            refine am_Pn.bl 1 (y := (213, [some (.ref 64), some (.int x1), some (.int l2), some (.int l3), some (.int (s.2.2.1 82 (((Int32.ofInt (2)) + l2).toInt.toNat)))], [], sg_h (sg_uA s 82 (((Int32.ofInt (2)) + l2).toInt.toNat) (Int32.ofInt (0))), 0, 0)) rfl ?_
            exact (ih.2.2) (some (.int l3)) (some (.int (s.2.2.1 82 (((Int32.ofInt (2)) + l2).toInt.toNat)))) l2 (sg_uA s 82 (((Int32.ofInt (2)) + l2).toInt.toNat) (Int32.ofInt (0))) h
          · refine am_Pn.bl 4 (y := (111, [some (.ref 64), some (.int x1), some (.int l2), some (.int l3), some (.int (s.2.2.1 82 (((Int32.ofInt (2)) + l2).toInt.toNat)))], [.int ((s.2.2.1 82 (((Int32.ofInt (2)) + l2).toInt.toNat)) + (Int32.ofInt (1))), .int ((Int32.ofInt (2)) + l2), .ref 82], sg_h s, 0, 0)) rfl ?_
            refine am_Pn.is (a := 82) rfl rfl rfl (fun hi => ?_)
            refine am_Pn.bl 1 (y := (213, [some (.ref 64), some (.int x1), some (.int l2), some (.int l3), some (.int (s.2.2.1 82 (((Int32.ofInt (2)) + l2).toInt.toNat)))], [], sg_h (sg_uA s 82 (((Int32.ofInt (2)) + l2).toInt.toNat) ((s.2.2.1 82 (((Int32.ofInt (2)) + l2).toInt.toNat)) + (Int32.ofInt (1)))), 0, 0)) rfl ?_
            exact (ih.2.2) (some (.int l3)) (some (.int (s.2.2.1 82 (((Int32.ofInt (2)) + l2).toInt.toNat)))) l2 (sg_uA s 82 (((Int32.ofInt (2)) + l2).toInt.toNat) ((s.2.2.1 82 (((Int32.ofInt (2)) + l2).toInt.toNat)) + (Int32.ofInt (1)))) h
        replace h := h.2
        by_cases hs3 : (s.2.2.1 72 (l2.toInt.toNat)).toInt = (3)
        · replace h := h.1 hs3
          refine am_Pn.tj (lo := 2) 1 (hs3.trans (by decide)) rfl rfl rfl rfl ?_
          refine am_Pn.bl 1 (y := (116, [some (.ref 64), some (.int x1), some (.int l2), some (.int l3), some (.int (s.2.2.1 82 (((Int32.ofInt (2)) + l2).toInt.toNat)))], [.ref 64], sg_h s, 0, 0)) rfl ?_
          refine am_Pn.gr (k := 39) rfl rfl am_o64 rfl rfl ?_
          refine am_Pn.bl 4 (y := (123, [some (.ref 64), some (.int x1), some (.int l2), some (.int l3), some (.int (s.2.2.1 82 (((Int32.ofInt (2)) + l2).toInt.toNat)))], [.int l3, .int ((Int32.ofInt (2)) + l2), .ref 82], sg_h s, 0, 0)) rfl ?_
          refine am_Pn.zT h (am_beq rfl rfl) rfl rfl (fun h => ?_) (fun h => ?_)
          · refine am_Pn.bl 2 (y := (133, [some (.ref 64), some (.int x1), some (.int l2), some (.int l3), some (.int (s.2.2.1 82 (((Int32.ofInt (2)) + l2).toInt.toNat)))], [.ref 64, .int (s.2.2.1 82 (((Int32.ofInt (2)) + l2).toInt.toNat)), .int ((Int32.ofInt (2)) + l2), .ref 82], sg_h s, 0, 0)) rfl ?_
            refine am_Pn.gr (k := 28) rfl rfl am_o64 rfl rfl ?_
            refine am_Pn.bl 1 (y := (137, [some (.ref 64), some (.int x1), some (.int l2), some (.int l3), some (.int (s.2.2.1 82 (((Int32.ofInt (2)) + l2).toInt.toNat)))], [.int l2, .ref 74, .int (s.2.2.1 82 (((Int32.ofInt (2)) + l2).toInt.toNat)), .int ((Int32.ofInt (2)) + l2), .ref 82], sg_h s, 0, 0)) rfl ?_
            refine am_Pn.ia (a := 74) rfl rfl rfl rfl (fun hi => ?_)
            refine am_Pn.bF h (am_bge rfl rfl) rfl rfl (fun h => ?_) (fun h => ?_)
            · refine am_Pn.bl 1 (y := (150, [some (.ref 64), some (.int x1), some (.int l2), some (.int l3), some (.int (s.2.2.1 82 (((Int32.ofInt (2)) + l2).toInt.toNat)))], [.int (s.2.2.1 82 (((Int32.ofInt (2)) + l2).toInt.toNat)), .int ((Int32.ofInt (2)) + l2), .ref 82], sg_h s, 0, 0)) rfl ?_
              refine am_Pn.is (a := 82) rfl rfl rfl (fun hi => ?_)
              refine am_Pn.bl 1 (y := (213, [some (.ref 64), some (.int x1), some (.int l2), some (.int l3), some (.int (s.2.2.1 82 (((Int32.ofInt (2)) + l2).toInt.toNat)))], [], sg_h (sg_uA s 82 (((Int32.ofInt (2)) + l2).toInt.toNat) (s.2.2.1 82 (((Int32.ofInt (2)) + l2).toInt.toNat))), 0, 0)) rfl ?_
              exact (ih.2.2) (some (.int l3)) (some (.int (s.2.2.1 82 (((Int32.ofInt (2)) + l2).toInt.toNat)))) l2 (sg_uA s 82 (((Int32.ofInt (2)) + l2).toInt.toNat) (s.2.2.1 82 (((Int32.ofInt (2)) + l2).toInt.toNat))) h
            · refine am_Pn.bl 4 (y := (150, [some (.ref 64), some (.int x1), some (.int l2), some (.int l3), some (.int (s.2.2.1 82 (((Int32.ofInt (2)) + l2).toInt.toNat)))], [.int ((s.2.2.1 82 (((Int32.ofInt (2)) + l2).toInt.toNat)) + (Int32.ofInt (1))), .int ((Int32.ofInt (2)) + l2), .ref 82], sg_h s, 0, 0)) rfl ?_
              refine am_Pn.is (a := 82) rfl rfl rfl (fun hi => ?_)
              refine am_Pn.bl 1 (y := (213, [some (.ref 64), some (.int x1), some (.int l2), some (.int l3), some (.int (s.2.2.1 82 (((Int32.ofInt (2)) + l2).toInt.toNat)))], [], sg_h (sg_uA s 82 (((Int32.ofInt (2)) + l2).toInt.toNat) ((s.2.2.1 82 (((Int32.ofInt (2)) + l2).toInt.toNat)) + (Int32.ofInt (1)))), 0, 0)) rfl ?_
              exact (ih.2.2) (some (.int l3)) (some (.int (s.2.2.1 82 (((Int32.ofInt (2)) + l2).toInt.toNat)))) l2 (sg_uA s 82 (((Int32.ofInt (2)) + l2).toInt.toNat) ((s.2.2.1 82 (((Int32.ofInt (2)) + l2).toInt.toNat)) + (Int32.ofInt (1)))) h
          · refine am_Pn.bl 2 (y := (150, [some (.ref 64), some (.int x1), some (.int l2), some (.int l3), some (.int (s.2.2.1 82 (((Int32.ofInt (2)) + l2).toInt.toNat)))], [.int (Int32.ofInt (0)), .int ((Int32.ofInt (2)) + l2), .ref 82], sg_h s, 0, 0)) rfl ?_
            refine am_Pn.is (a := 82) rfl rfl rfl (fun hi => ?_)
            refine am_Pn.bl 1 (y := (213, [some (.ref 64), some (.int x1), some (.int l2), some (.int l3), some (.int (s.2.2.1 82 (((Int32.ofInt (2)) + l2).toInt.toNat)))], [], sg_h (sg_uA s 82 (((Int32.ofInt (2)) + l2).toInt.toNat) (Int32.ofInt (0))), 0, 0)) rfl ?_
            exact (ih.2.2) (some (.int l3)) (some (.int (s.2.2.1 82 (((Int32.ofInt (2)) + l2).toInt.toNat)))) l2 (sg_uA s 82 (((Int32.ofInt (2)) + l2).toInt.toNat) (Int32.ofInt (0))) h
        replace h := h.2
        by_cases hs4 : (s.2.2.1 72 (l2.toInt.toNat)).toInt = (4)
        · replace h := h.1 hs4
          refine am_Pn.tj (lo := 2) 2 (hs4.trans (by decide)) rfl rfl rfl rfl ?_
          refine am_Pn.bl 1 (y := (155, [some (.ref 64), some (.int x1), some (.int l2), some (.int l3), some (.int (s.2.2.1 82 (((Int32.ofInt (2)) + l2).toInt.toNat)))], [.ref 64], sg_h s, 0, 0)) rfl ?_
          refine am_Pn.gr (k := 39) rfl rfl am_o64 rfl rfl ?_
          refine am_Pn.bl 4 (y := (162, [some (.ref 64), some (.int x1), some (.int l2), some (.int l3), some (.int (s.2.2.1 82 (((Int32.ofInt (2)) + l2).toInt.toNat)))], [.int l3, .int ((Int32.ofInt (2)) + l2), .ref 82], sg_h s, 0, 0)) rfl ?_
          refine am_Pn.zT h (am_beq rfl rfl) rfl rfl (fun h => ?_) (fun h => ?_)
          · refine am_Pn.bl 1 (y := (174, [some (.ref 64), some (.int x1), some (.int l2), some (.int l3), some (.int (s.2.2.1 82 (((Int32.ofInt (2)) + l2).toInt.toNat)))], [.int (s.2.2.1 82 (((Int32.ofInt (2)) + l2).toInt.toNat)), .int ((Int32.ofInt (2)) + l2), .ref 82], sg_h s, 0, 0)) rfl ?_
            refine am_Pn.is (a := 82) rfl rfl rfl (fun hi => ?_)
            refine am_Pn.bl 1 (y := (213, [some (.ref 64), some (.int x1), some (.int l2), some (.int l3), some (.int (s.2.2.1 82 (((Int32.ofInt (2)) + l2).toInt.toNat)))], [], sg_h (sg_uA s 82 (((Int32.ofInt (2)) + l2).toInt.toNat) (s.2.2.1 82 (((Int32.ofInt (2)) + l2).toInt.toNat))), 0, 0)) rfl ?_
            exact (ih.2.2) (some (.int l3)) (some (.int (s.2.2.1 82 (((Int32.ofInt (2)) + l2).toInt.toNat)))) l2 (sg_uA s 82 (((Int32.ofInt (2)) + l2).toInt.toNat) (s.2.2.1 82 (((Int32.ofInt (2)) + l2).toInt.toNat))) h
          · refine am_Pn.bl 4 (y := (174, [some (.ref 64), some (.int x1), some (.int l2), some (.int l3), some (.int (s.2.2.1 82 (((Int32.ofInt (2)) + l2).toInt.toNat)))], [.int ((s.2.2.1 82 (((Int32.ofInt (2)) + l2).toInt.toNat)) + (Int32.ofInt (1))), .int ((Int32.ofInt (2)) + l2), .ref 82], sg_h s, 0, 0)) rfl ?_
            refine am_Pn.is (a := 82) rfl rfl rfl (fun hi => ?_)
            refine am_Pn.bl 1 (y := (213, [some (.ref 64), some (.int x1), some (.int l2), some (.int l3), some (.int (s.2.2.1 82 (((Int32.ofInt (2)) + l2).toInt.toNat)))], [], sg_h (sg_uA s 82 (((Int32.ofInt (2)) + l2).toInt.toNat) ((s.2.2.1 82 (((Int32.ofInt (2)) + l2).toInt.toNat)) + (Int32.ofInt (1)))), 0, 0)) rfl ?_
            exact (ih.2.2) (some (.int l3)) (some (.int (s.2.2.1 82 (((Int32.ofInt (2)) + l2).toInt.toNat)))) l2 (sg_uA s 82 (((Int32.ofInt (2)) + l2).toInt.toNat) ((s.2.2.1 82 (((Int32.ofInt (2)) + l2).toInt.toNat)) + (Int32.ofInt (1)))) h
        replace h := h.2
        by_cases hs5 : (s.2.2.1 72 (l2.toInt.toNat)).toInt = (5)
        · replace h := h.1 hs5
          refine am_Pn.tj (lo := 2) 3 (hs5.trans (by decide)) rfl rfl rfl rfl ?_
          refine am_Pn.bl 1 (y := (179, [some (.ref 64), some (.int x1), some (.int l2), some (.int l3), some (.int (s.2.2.1 82 (((Int32.ofInt (2)) + l2).toInt.toNat)))], [.ref 64], sg_h s, 0, 0)) rfl ?_
          refine am_Pn.gr (k := 39) rfl rfl am_o64 rfl rfl ?_
          refine am_Pn.bl 4 (y := (186, [some (.ref 64), some (.int x1), some (.int l2), some (.int l3), some (.int (s.2.2.1 82 (((Int32.ofInt (2)) + l2).toInt.toNat)))], [.int l3, .int ((Int32.ofInt (2)) + l2), .ref 82], sg_h s, 0, 0)) rfl ?_
          refine am_Pn.zT h (am_beq rfl rfl) rfl rfl (fun h => ?_) (fun h => ?_)
          · refine am_Pn.bl 1 (y := (209, [some (.ref 64), some (.int x1), some (.int l2), some (.int l3), some (.int (s.2.2.1 82 (((Int32.ofInt (2)) + l2).toInt.toNat)))], [.int (s.2.2.1 82 (((Int32.ofInt (2)) + l2).toInt.toNat)), .int ((Int32.ofInt (2)) + l2), .ref 82], sg_h s, 0, 0)) rfl ?_
            refine am_Pn.is (a := 82) rfl rfl rfl (fun hi => ?_)
            refine am_Pn.bl 1 (y := (213, [some (.ref 64), some (.int x1), some (.int l2), some (.int l3), some (.int (s.2.2.1 82 (((Int32.ofInt (2)) + l2).toInt.toNat)))], [], sg_h (sg_uA s 82 (((Int32.ofInt (2)) + l2).toInt.toNat) (s.2.2.1 82 (((Int32.ofInt (2)) + l2).toInt.toNat))), 0, 0)) rfl ?_
            exact (ih.2.2) (some (.int l3)) (some (.int (s.2.2.1 82 (((Int32.ofInt (2)) + l2).toInt.toNat)))) l2 (sg_uA s 82 (((Int32.ofInt (2)) + l2).toInt.toNat) (s.2.2.1 82 (((Int32.ofInt (2)) + l2).toInt.toNat))) h
          · refine am_Pn.bl 2 (y := (192, [some (.ref 64), some (.int x1), some (.int l2), some (.int l3), some (.int (s.2.2.1 82 (((Int32.ofInt (2)) + l2).toInt.toNat)))], [.ref 64, .int (s.2.2.1 82 (((Int32.ofInt (2)) + l2).toInt.toNat)), .int ((Int32.ofInt (2)) + l2), .ref 82], sg_h s, 0, 0)) rfl ?_
            refine am_Pn.gr (k := 28) rfl rfl am_o64 rfl rfl ?_
            refine am_Pn.bl 1 (y := (196, [some (.ref 64), some (.int x1), some (.int l2), some (.int l3), some (.int (s.2.2.1 82 (((Int32.ofInt (2)) + l2).toInt.toNat)))], [.int l2, .ref 74, .int (s.2.2.1 82 (((Int32.ofInt (2)) + l2).toInt.toNat)), .int ((Int32.ofInt (2)) + l2), .ref 82], sg_h s, 0, 0)) rfl ?_
            refine am_Pn.ia (a := 74) rfl rfl rfl rfl (fun hi => ?_)
            refine am_Pn.bF h (am_bge rfl rfl) rfl rfl (fun h => ?_) (fun h => ?_)
            · refine am_Pn.bl 1 (y := (209, [some (.ref 64), some (.int x1), some (.int l2), some (.int l3), some (.int (s.2.2.1 82 (((Int32.ofInt (2)) + l2).toInt.toNat)))], [.int (s.2.2.1 82 (((Int32.ofInt (2)) + l2).toInt.toNat)), .int ((Int32.ofInt (2)) + l2), .ref 82], sg_h s, 0, 0)) rfl ?_
              refine am_Pn.is (a := 82) rfl rfl rfl (fun hi => ?_)
              refine am_Pn.bl 1 (y := (213, [some (.ref 64), some (.int x1), some (.int l2), some (.int l3), some (.int (s.2.2.1 82 (((Int32.ofInt (2)) + l2).toInt.toNat)))], [], sg_h (sg_uA s 82 (((Int32.ofInt (2)) + l2).toInt.toNat) (s.2.2.1 82 (((Int32.ofInt (2)) + l2).toInt.toNat))), 0, 0)) rfl ?_
              exact (ih.2.2) (some (.int l3)) (some (.int (s.2.2.1 82 (((Int32.ofInt (2)) + l2).toInt.toNat)))) l2 (sg_uA s 82 (((Int32.ofInt (2)) + l2).toInt.toNat) (s.2.2.1 82 (((Int32.ofInt (2)) + l2).toInt.toNat))) h
            · refine am_Pn.bl 4 (y := (209, [some (.ref 64), some (.int x1), some (.int l2), some (.int l3), some (.int (s.2.2.1 82 (((Int32.ofInt (2)) + l2).toInt.toNat)))], [.int ((s.2.2.1 82 (((Int32.ofInt (2)) + l2).toInt.toNat)) + (Int32.ofInt (1))), .int ((Int32.ofInt (2)) + l2), .ref 82], sg_h s, 0, 0)) rfl ?_
              refine am_Pn.is (a := 82) rfl rfl rfl (fun hi => ?_)
              refine am_Pn.bl 1 (y := (213, [some (.ref 64), some (.int x1), some (.int l2), some (.int l3), some (.int (s.2.2.1 82 (((Int32.ofInt (2)) + l2).toInt.toNat)))], [], sg_h (sg_uA s 82 (((Int32.ofInt (2)) + l2).toInt.toNat) ((s.2.2.1 82 (((Int32.ofInt (2)) + l2).toInt.toNat)) + (Int32.ofInt (1)))), 0, 0)) rfl ?_
              exact (ih.2.2) (some (.int l3)) (some (.int (s.2.2.1 82 (((Int32.ofInt (2)) + l2).toInt.toNat)))) l2 (sg_uA s 82 (((Int32.ofInt (2)) + l2).toInt.toNat) ((s.2.2.1 82 (((Int32.ofInt (2)) + l2).toInt.toNat)) + (Int32.ofInt (1)))) h
        replace h := h.2
        have hsd6 : (s.2.2.1 72 (l2.toInt.toNat)).toInt < (2) ∨ (5) < (s.2.2.1 72 (l2.toInt.toNat)).toInt := by omega
        refine am_Pn.td (lo := 2) (hi := 5) hsd6 rfl rfl ?_
        replace h := h (by omega)
        exact (ih.2.2) (some (.int l3)) (some (.int (s.2.2.1 82 (((Int32.ofInt (2)) + l2).toInt.toNat)))) l2 s h
      · intro o3 o4 l2 s h
        replace h := k213 l2 s h
        unfold wp_M_goesAlong_213 at h
        refine am_Pn.bl1 1 (y := (21, [some (.ref 64), some (.int x1), some (.int (l2 + Int32.ofInt (1))), o3, o4], [], sg_h s, 0, 0)) rfl ?_
        exact (ih.1) o3 o4 (l2 + Int32.ofInt (1)) s h
  unfold wp_M_goesAlong at h
  refine am_Pn.bl 1 (y := (1, [some (.ref 64), some (.int x1), none, none, none], [.ref 64], sg_h s, 0, 0)) rfl ?_
  refine am_Pn.gr (k := 39) rfl rfl am_o64 rfl rfl ?_
  refine am_Pn.bl 2 (y := (6, [some (.ref 64), some (.int x1), none, none, none], [.ref 64, .int (Int32.ofInt (1)), .ref 82], sg_h s, 0, 0)) rfl ?_
  refine am_Pn.gr (k := 39) rfl rfl am_o64 rfl rfl ?_
  refine am_Pn.bl 1 (y := (10, [some (.ref 64), some (.int x1), none, none, none], [.int (Int32.ofInt (0)), .ref 82, .int (Int32.ofInt (1)), .ref 82], sg_h s, 0, 0)) rfl ?_
  refine am_Pn.ia (a := 82) rfl rfl rfl rfl (fun hi => ?_)
  refine am_Pn.is (a := 82) rfl rfl rfl (fun hi => ?_)
  refine am_Pn.bl 1 (y := (13, [some (.ref 64), some (.int x1), none, none, none], [.ref 64], sg_h (sg_uA s 82 (1) (s.2.2.1 82 (0))), 0, 0)) rfl ?_
  refine am_Pn.gr (k := 39) rfl rfl am_o64 rfl rfl ?_
  refine am_Pn.bl 2 (y := (18, [some (.ref 64), some (.int x1), none, none, none], [.int x1, .int (Int32.ofInt (0)), .ref 82], sg_h (sg_uA s 82 (1) (s.2.2.1 82 (0))), 0, 0)) rfl ?_
  refine am_Pn.is (a := 82) rfl rfl rfl (fun hi => ?_)
  refine am_Pn.bl 2 (y := (21, [some (.ref 64), some (.int x1), some (.int (Int32.ofInt (0))), none, none], [], sg_h (sg_uA (sg_uA s 82 (1) (s.2.2.1 82 (0))) 82 (0) x1), 0, 0)) rfl ?_
  exact ((key n).1) none none (Int32.ofInt (0)) (sg_uA (sg_uA s 82 (1) (s.2.2.1 82 (0))) 82 (0) x1) h
def wp_M_alongSheet_6 (I6 : Int32 →  sg_S → Prop) (Ψ : sg_S → Prop) (l1 : Int32) (s : sg_S) : Prop := ((l1.toInt < (s.1 64 40).toInt → (0 ≤ l1.toInt → l1.toInt < (48) → (am_SpV 186 [.ref 64, .int (s.2.2.1 84 (l1.toInt.toNat))] s (fun s2 => (I6 (l1 + Int32.ofInt (1)) s2))))) ∧ (¬ l1.toInt < (s.1 64 40).toInt → (Ψ s)))
def wp_M_alongSheet (I6 : Int32 →  sg_S → Prop) (Ψ : sg_S → Prop) (s : sg_S) : Prop := (am_SpV 185 [.ref 64] s (fun s1 => (I6 (Int32.ofInt (0)) s1)))
set_option maxRecDepth 100000 in
theorem wp_M_alongSheet_ok {I6 : Int32 →  sg_S → Prop} {Ψ : sg_S → Prop} {s : sg_S} (k6 : ∀ (l1 : Int32) (s : sg_S), I6 l1 s → wp_M_alongSheet_6 I6 Ψ  l1 s) (h : wp_M_alongSheet I6 Ψ  s) : am_SpV 184 [.ref 64] s Ψ := by
  refine am_SpV.mk (r := am_r184) rfl rfl (fun call d al n hcl => ?_)
  have key : ∀ n, (∀ (l1 : Int32) (s : sg_S), I6 l1 s → am_Pn call d (0, fun _ => 0) al am_r184 (am_PhV am_r184 Ψ) n (6, [some (.ref 64), some (.int l1)], [], sg_h s, 0, 0)) := by
    intro n
    induction n with
    | zero => exact fun _ _ _ => am_Pn.zero
    | succ n ih =>
      intro l1 s h
      replace h := k6 l1 s h
      unfold wp_M_alongSheet_6 at h
      refine am_Pn.bl1 1 (y := (8, [some (.ref 64), some (.int l1)], [.ref 64, .int l1], sg_h s, 0, 0)) rfl ?_
      refine am_Pn.gi (k := 40) rfl rfl am_o64 rfl rfl ?_
      refine am_Pn.bF h (am_bge rfl rfl) rfl rfl (fun h => ?_) (fun h => ?_)
      · exact am_Pn.rV h rfl
      · refine am_Pn.bl 2 (y := (16, [some (.ref 64), some (.int l1)], [.ref 64, .ref 64], sg_h s, 0, 0)) rfl ?_
        refine am_Pn.gr (k := 42) rfl rfl am_o64 rfl rfl ?_
        refine am_Pn.bl 1 (y := (20, [some (.ref 64), some (.int l1)], [.int l1, .ref 84, .ref 64], sg_h s, 0, 0)) rfl ?_
        refine am_Pn.ia (a := 84) rfl rfl rfl rfl (fun hi => ?_)
        replace h := h (am_in0 hi) (am_in1 hi)
        refine am_Pn.cvV hcl h rfl rfl rfl rfl rfl (fun s2 h => ?_)
        refine am_Pn.bl 2 (y := (6, [some (.ref 64), some (.int (l1 + Int32.ofInt (1)))], [], sg_h s2, 0, 0)) rfl ?_
        exact (ih) (l1 + Int32.ofInt (1)) s2 h
  unfold wp_M_alongSheet at h
  refine am_Pn.bl 1 (y := (1, [some (.ref 64), none], [.ref 64], sg_h s, 0, 0)) rfl ?_
  refine am_Pn.cvV hcl h rfl rfl rfl rfl rfl (fun s1 h => ?_)
  refine am_Pn.bl 2 (y := (6, [some (.ref 64), some (.int (Int32.ofInt (0)))], [], sg_h s1, 0, 0)) rfl ?_
  exact ((key n)) (Int32.ofInt (0)) s1 h
def wp_M_brokenBy_18 (I18 : Int32 → Int32 →  sg_S → Prop) (Ψ : Int32 → sg_S → Prop) (x1 : Int32) (x2 : Int32) (x3 : Int32) (x4 : Int32) (l5 : Int32) (l6 : Int32) (s : sg_S) : Prop := ((l6.toInt < (s.1 64 23).toInt → ((l6.toInt = l5.toInt → (Ψ l6 s)) ∧ (¬ l6.toInt = l5.toInt → (0 ≤ l6.toInt → l6.toInt < (12) → (((s.2.2.1 72 (l6.toInt.toNat)).toInt = (6) → (am_SpI 191 [.ref 64, .int x1, .int x2, .int x3, .int x4, .int (s.2.2.1 74 (l6.toInt.toNat))] s (fun x7 s7 => ((x7.toInt = (0) → (I18 l5 (l6 + Int32.ofInt (1)) s7)) ∧ (¬ x7.toInt = (0) → (Ψ l6 s7)))))) ∧ (¬ (s.2.2.1 72 (l6.toInt.toNat)).toInt = (6) → (I18 l5 (l6 + Int32.ofInt (1)) s))))))) ∧ (¬ l6.toInt < (s.1 64 23).toInt → (Ψ (Int32.ofInt (-1)) s)))
def wp_M_brokenBy (I18 : Int32 → Int32 →  sg_S → Prop) (Ψ : Int32 → sg_S → Prop) (x1 : Int32) (x2 : Int32) (x3 : Int32) (x4 : Int32) (s : sg_S) : Prop := (am_SpI 188 [.ref 64, .int x1, .int x2, .int x3] s (fun x5 s5 => (am_SpI 189 [.ref 64, .int x5, .int x4] s5 (fun x6 s6 => (I18 x6 (Int32.ofInt (0)) s6)))))
set_option maxRecDepth 100000 in
theorem wp_M_brokenBy_ok {I18 : Int32 → Int32 →  sg_S → Prop} {Ψ : Int32 → sg_S → Prop} {x1 : Int32} {x2 : Int32} {x3 : Int32} {x4 : Int32} {s : sg_S} (k18 : ∀ (l5 : Int32) (l6 : Int32) (s : sg_S), I18 l5 l6 s → wp_M_brokenBy_18 I18 Ψ x1 x2 x3 x4 l5 l6 s) (h : wp_M_brokenBy I18 Ψ x1 x2 x3 x4 s) : am_SpI 187 [.ref 64, .int x1, .int x2, .int x3, .int x4] s Ψ := by
  refine am_SpI.mk (r := am_r187) rfl rfl (fun call d al n hcl => ?_)
  have key : ∀ n, (∀ (l5 : Int32) (l6 : Int32) (s : sg_S), I18 l5 l6 s → am_Pn call d (0, fun _ => 0) al am_r187 (am_PhI am_r187 Ψ) n (18, [some (.ref 64), some (.int x1), some (.int x2), some (.int x3), some (.int x4), some (.int l5), some (.int l6)], [], sg_h s, 0, 0)) := by
    intro n
    induction n with
    | zero => exact fun _ _ _ _ => am_Pn.zero
    | succ n ih =>
      intro l5 l6 s h
      replace h := k18 l5 l6 s h
      unfold wp_M_brokenBy_18 at h
      refine am_Pn.bl1 1 (y := (21, [some (.ref 64), some (.int x1), some (.int x2), some (.int x3), some (.int x4), some (.int l5), some (.int l6)], [.ref 64, .int l6], sg_h s, 0, 0)) rfl ?_
      refine am_Pn.gi (k := 23) rfl rfl am_o64 rfl rfl ?_
      refine am_Pn.bF h (am_bge rfl rfl) rfl rfl (fun h => ?_) (fun h => ?_)
      · refine am_Pn.bl 1 (y := (78, [some (.ref 64), some (.int x1), some (.int x2), some (.int x3), some (.int x4), some (.int l5), some (.int l6)], [.int (Int32.ofInt (-1))], sg_h s, 0, 0)) rfl ?_
        exact am_Pn.rI h rfl
      · refine am_Pn.bl 2 (y := (31, [some (.ref 64), some (.int x1), some (.int x2), some (.int x3), some (.int x4), some (.int l5), some (.int l6)], [.int l5, .int l6], sg_h s, 0, 0)) rfl ?_
        refine am_Pn.bF h (am_bne rfl rfl) rfl rfl (fun h => ?_) (fun h => ?_)
        · refine am_Pn.bl 1 (y := (38, [some (.ref 64), some (.int x1), some (.int x2), some (.int x3), some (.int x4), some (.int l5), some (.int l6)], [.ref 64], sg_h s, 0, 0)) rfl ?_
          refine am_Pn.gr (k := 26) rfl rfl am_o64 rfl rfl ?_
          refine am_Pn.bl 1 (y := (43, [some (.ref 64), some (.int x1), some (.int x2), some (.int x3), some (.int x4), some (.int l5), some (.int l6)], [.int l6, .ref 72], sg_h s, 0, 0)) rfl ?_
          refine am_Pn.ia (a := 72) rfl rfl rfl rfl (fun hi => ?_)
          replace h := h (am_in0 hi) (am_in1 hi)
          refine am_Pn.bl 1 (y := (46, [some (.ref 64), some (.int x1), some (.int x2), some (.int x3), some (.int x4), some (.int l5), some (.int l6)], [.int (Int32.ofInt (6)), .int (s.2.2.1 72 (l6.toInt.toNat))], sg_h s, 0, 0)) rfl ?_
          refine am_Pn.bF h (am_bne rfl rfl) rfl rfl (fun h => ?_) (fun h => ?_)
          · refine am_Pn.bl 2 (y := (18, [some (.ref 64), some (.int x1), some (.int x2), some (.int x3), some (.int x4), some (.int l5), some (.int (l6 + Int32.ofInt (1)))], [], sg_h s, 0, 0)) rfl ?_
            exact (ih) l5 (l6 + Int32.ofInt (1)) s h
          · refine am_Pn.bl 6 (y := (56, [some (.ref 64), some (.int x1), some (.int x2), some (.int x3), some (.int x4), some (.int l5), some (.int l6)], [.ref 64, .int x4, .int x3, .int x2, .int x1, .ref 64], sg_h s, 0, 0)) rfl ?_
            refine am_Pn.gr (k := 28) rfl rfl am_o64 rfl rfl ?_
            refine am_Pn.bl 1 (y := (61, [some (.ref 64), some (.int x1), some (.int x2), some (.int x3), some (.int x4), some (.int l5), some (.int l6)], [.int l6, .ref 74, .int x4, .int x3, .int x2, .int x1, .ref 64], sg_h s, 0, 0)) rfl ?_
            refine am_Pn.ia (a := 74) rfl rfl rfl rfl (fun hi => ?_)
            refine am_Pn.cvI hcl h rfl rfl rfl rfl rfl (fun x7 s7 h => ?_)
            refine am_Pn.zT h (am_beq rfl rfl) rfl rfl (fun h => ?_) (fun h => ?_)
            · refine am_Pn.bl 2 (y := (18, [some (.ref 64), some (.int x1), some (.int x2), some (.int x3), some (.int x4), some (.int l5), some (.int (l6 + Int32.ofInt (1)))], [], sg_h s7, 0, 0)) rfl ?_
              exact (ih) l5 (l6 + Int32.ofInt (1)) s7 h
            · refine am_Pn.bl 1 (y := (70, [some (.ref 64), some (.int x1), some (.int x2), some (.int x3), some (.int x4), some (.int l5), some (.int l6)], [.int l6], sg_h s7, 0, 0)) rfl ?_
              exact am_Pn.rI h rfl
        · refine am_Pn.bl 1 (y := (36, [some (.ref 64), some (.int x1), some (.int x2), some (.int x3), some (.int x4), some (.int l5), some (.int l6)], [.int l6], sg_h s, 0, 0)) rfl ?_
          exact am_Pn.rI h rfl
  unfold wp_M_brokenBy at h
  refine am_Pn.bl 5 (y := (5, [some (.ref 64), some (.int x1), some (.int x2), some (.int x3), some (.int x4), none, none], [.int x3, .int x2, .int x1, .ref 64, .ref 64], sg_h s, 0, 0)) rfl ?_
  refine am_Pn.cvI hcl h rfl rfl rfl rfl rfl (fun x5 s5 h => ?_)
  refine am_Pn.bl 1 (y := (10, [some (.ref 64), some (.int x1), some (.int x2), some (.int x3), some (.int x4), none, none], [.int x4, .int x5, .ref 64], sg_h s5, 0, 0)) rfl ?_
  refine am_Pn.cvI hcl h rfl rfl rfl rfl rfl (fun x6 s6 h => ?_)
  refine am_Pn.bl 3 (y := (18, [some (.ref 64), some (.int x1), some (.int x2), some (.int x3), some (.int x4), some (.int x6), some (.int (Int32.ofInt (0)))], [], sg_h s6, 0, 0)) rfl ?_
  exact ((key n)) x6 (Int32.ofInt (0)) s6 h
def wp_M_lays (Ψ : sg_S → Prop) (x1 : Int32) (x2 : Int32) (x3 : Int32) (x4 : Int32) (s : sg_S) : Prop := (0 ≤ ((Int32.ofInt (3)) * x1).toInt → ((Int32.ofInt (3)) * x1).toInt < (153) → (0 ≤ (((Int32.ofInt (3)) * x1) + (Int32.ofInt (1))).toInt → (((Int32.ofInt (3)) * x1) + (Int32.ofInt (1))).toInt < (153) → (0 ≤ (((Int32.ofInt (3)) * x1) + (Int32.ofInt (2))).toInt → (((Int32.ofInt (3)) * x1) + (Int32.ofInt (2))).toInt < (153) → (Ψ (sg_uA (sg_uA (sg_uA s 85 (((Int32.ofInt (3)) * x1).toInt.toNat) x2) 85 ((((Int32.ofInt (3)) * x1) + (Int32.ofInt (1))).toInt.toNat) x3) 85 ((((Int32.ofInt (3)) * x1) + (Int32.ofInt (2))).toInt.toNat) x4)))))
set_option maxRecDepth 100000 in
theorem wp_M_lays_ok {Ψ : sg_S → Prop} {x1 : Int32} {x2 : Int32} {x3 : Int32} {x4 : Int32} {s : sg_S} (h : wp_M_lays Ψ x1 x2 x3 x4 s) : am_SpV 192 [.ref 64, .int x1, .int x2, .int x3, .int x4] s Ψ := by
  refine am_SpV.mk (r := am_r192) rfl rfl (fun call d al n hcl => ?_)
  unfold wp_M_lays at h
  refine am_Pn.bl 1 (y := (1, [some (.ref 64), some (.int x1), some (.int x2), some (.int x3), some (.int x4)], [.ref 64], sg_h s, 0, 0)) rfl ?_
  refine am_Pn.gr (k := 43) rfl rfl am_o64 rfl rfl ?_
  refine am_Pn.bl 4 (y := (8, [some (.ref 64), some (.int x1), some (.int x2), some (.int x3), some (.int x4)], [.int x2, .int ((Int32.ofInt (3)) * x1), .ref 85], sg_h s, 0, 0)) rfl ?_
  refine am_Pn.is (a := 85) rfl rfl rfl (fun hi => ?_)
  replace h := h (am_in0 hi) (am_in1 hi)
  refine am_Pn.bl 1 (y := (10, [some (.ref 64), some (.int x1), some (.int x2), some (.int x3), some (.int x4)], [.ref 64], sg_h (sg_uA s 85 (((Int32.ofInt (3)) * x1).toInt.toNat) x2), 0, 0)) rfl ?_
  refine am_Pn.gr (k := 43) rfl rfl am_o64 rfl rfl ?_
  refine am_Pn.bl 6 (y := (19, [some (.ref 64), some (.int x1), some (.int x2), some (.int x3), some (.int x4)], [.int x3, .int (((Int32.ofInt (3)) * x1) + (Int32.ofInt (1))), .ref 85], sg_h (sg_uA s 85 (((Int32.ofInt (3)) * x1).toInt.toNat) x2), 0, 0)) rfl ?_
  refine am_Pn.is (a := 85) rfl rfl rfl (fun hi => ?_)
  replace h := h (am_in0 hi) (am_in1 hi)
  refine am_Pn.bl 1 (y := (21, [some (.ref 64), some (.int x1), some (.int x2), some (.int x3), some (.int x4)], [.ref 64], sg_h (sg_uA (sg_uA s 85 (((Int32.ofInt (3)) * x1).toInt.toNat) x2) 85 ((((Int32.ofInt (3)) * x1) + (Int32.ofInt (1))).toInt.toNat) x3), 0, 0)) rfl ?_
  refine am_Pn.gr (k := 43) rfl rfl am_o64 rfl rfl ?_
  refine am_Pn.bl 6 (y := (31, [some (.ref 64), some (.int x1), some (.int x2), some (.int x3), some (.int x4)], [.int x4, .int (((Int32.ofInt (3)) * x1) + (Int32.ofInt (2))), .ref 85], sg_h (sg_uA (sg_uA s 85 (((Int32.ofInt (3)) * x1).toInt.toNat) x2) 85 ((((Int32.ofInt (3)) * x1) + (Int32.ofInt (1))).toInt.toNat) x3), 0, 0)) rfl ?_
  refine am_Pn.is (a := 85) rfl rfl rfl (fun hi => ?_)
  replace h := h (am_in0 hi) (am_in1 hi)
  exact am_Pn.rV h rfl
def wp_M_verse_167 (I167 : Int32 → Int32 →  sg_S → Prop) (Ψ : Int32 → sg_S → Prop) (x1 : Int32) (x2 : Int32) (x3 : Int32) (x4 : Int32) (l6 : Int32) (l7 : Int32) (s : sg_S) : Prop := ((l7.toInt < (s.1 64 30).toInt → (0 ≤ l7.toInt → l7.toInt < (12) → (I167 l6 (l7 + Int32.ofInt (1)) (sg_uA s 77 (l7.toInt.toNat) (vp_nar .boolean (Int32.ofInt (0))))))) ∧ (¬ l7.toInt < (s.1 64 30).toInt → (Ψ (s.1 64 40) s)))
def wp_M_verse (I167 : Int32 → Int32 →  sg_S → Prop) (Ψ : Int32 → sg_S → Prop) (x1 : Int32) (x2 : Int32) (x3 : Int32) (x4 : Int32) (s : sg_S) : Prop := (am_SpI 169 [.ref 64] s (fun x5 s5 => ((x5.toInt = (-1) → (Ψ (Int32.ofInt (-1)) s5)) ∧ (¬ x5.toInt = (-1) → (am_SpI 182 [.int x2, .int x3, .int x4] s5 (fun x6 s6 => ((x6.toInt = (0) → (Ψ (Int32.ofInt (-1)) s6)) ∧ (¬ x6.toInt = (0) → (am_SpI 168 [.int x1, .int (Int32.ofInt (0)), .int (Int32.ofInt (999))] s6 (fun x7 s7 => ((x7.toInt = (0) → (Ψ (Int32.ofInt (-1)) s7)) ∧ (¬ x7.toInt = (0) → (am_SpI 183 [.ref 64] s7 (fun x8 s8 => (((0) < x8.toInt → (Ψ (Int32.ofInt (-9)) s8)) ∧ (¬ (0) < x8.toInt → (((s8.1 64 25).toInt < x1.toInt → (am_SpV 172 [.ref 64, .int x5] s8 (fun s13 => (Ψ (Int32.ofInt (-3)) s13)))) ∧ (¬ (s8.1 64 25).toInt < x1.toInt → (am_SpV 184 [.ref 64] s8 (fun s9 => (am_SpI 187 [.ref 64, .int x2, .int x3, .int x4, .int ((s9.1 64 40) + (Int32.ofInt (1)))] s9 (fun x10 s10 => ((x10.toInt = (-1) → (0 ≤ (s10.1 64 40).toInt → (s10.1 64 40).toInt < (48) → (am_SpI 188 [.ref 64, .int x2, .int x3, .int x4] (sg_uA s10 83 ((s10.1 64 40).toInt.toNat) x5) (fun x11 s11 => (0 ≤ (s10.1 64 40).toInt → (s10.1 64 40).toInt < (48) → (am_SpV 192 [.ref 64, .int (s11.1 64 40), .int x2, .int x3, .int x4] (sg_uA s11 84 ((s10.1 64 40).toInt.toNat) x11) (fun s12 => (0 ≤ (s12.1 64 40).toInt → (s12.1 64 40).toInt < (48) → (I167 x10 (Int32.ofInt (0)) (sg_uI (sg_uA (sg_uA s12 86 ((s12.1 64 40).toInt.toNat) (vp_nar .boolean (Int32.ofInt (0)))) 87 ((s12.1 64 40).toInt.toNat) x1) 64 40 ((s12.1 64 40) + (Int32.ofInt (1))))))))))))) ∧ (¬ x10.toInt = (-1) → (Ψ ((Int32.ofInt (-10)) - x10) s10)))))))))))))))))))))))))
set_option maxRecDepth 100000 in
theorem wp_M_verse_ok {I167 : Int32 → Int32 →  sg_S → Prop} {Ψ : Int32 → sg_S → Prop} {x1 : Int32} {x2 : Int32} {x3 : Int32} {x4 : Int32} {s : sg_S} (k167 : ∀ (l6 : Int32) (l7 : Int32) (s : sg_S), I167 l6 l7 s → wp_M_verse_167 I167 Ψ x1 x2 x3 x4 l6 l7 s) (h : wp_M_verse I167 Ψ x1 x2 x3 x4 s) : am_SpI 181 [.ref 64, .int x1, .int x2, .int x3, .int x4] s Ψ := by
  refine am_SpI.mk (r := am_r181) rfl rfl (fun call d al n hcl => ?_)
  have key : ∀ n, (∀ (o5 : Option Value) (l6 : Int32) (l7 : Int32) (s : sg_S), I167 l6 l7 s → am_Pn call d (0, fun _ => 0) al am_r181 (am_PhI am_r181 Ψ) n (167, [some (.ref 64), some (.int x1), some (.int x2), some (.int x3), some (.int x4), o5, some (.int l6), some (.int l7)], [], sg_h s, 0, 0)) := by
    intro n
    induction n with
    | zero => exact fun _ _ _ _ _ => am_Pn.zero
    | succ n ih =>
      intro o5 l6 l7 s h
      replace h := k167 l6 l7 s h
      unfold wp_M_verse_167 at h
      refine am_Pn.bl1 1 (y := (170, [some (.ref 64), some (.int x1), some (.int x2), some (.int x3), some (.int x4), o5, some (.int l6), some (.int l7)], [.ref 64, .int l7], sg_h s, 0, 0)) rfl ?_
      refine am_Pn.gi (k := 30) rfl rfl am_o64 rfl rfl ?_
      refine am_Pn.bF h (am_bge rfl rfl) rfl rfl (fun h => ?_) (fun h => ?_)
      · refine am_Pn.bl 1 (y := (191, [some (.ref 64), some (.int x1), some (.int x2), some (.int x3), some (.int x4), o5, some (.int l6), some (.int l7)], [.ref 64], sg_h s, 0, 0)) rfl ?_
        refine am_Pn.gi (k := 40) rfl rfl am_o64 rfl rfl ?_
        exact am_Pn.rI h rfl
      · refine am_Pn.bl 1 (y := (177, [some (.ref 64), some (.int x1), some (.int x2), some (.int x3), some (.int x4), o5, some (.int l6), some (.int l7)], [.ref 64], sg_h s, 0, 0)) rfl ?_
        refine am_Pn.gr (k := 32) rfl rfl am_o64 rfl rfl ?_
        refine am_Pn.bl 2 (y := (183, [some (.ref 64), some (.int x1), some (.int x2), some (.int x3), some (.int x4), o5, some (.int l6), some (.int l7)], [.int (Int32.ofInt (0)), .int l7, .ref 77], sg_h s, 0, 0)) rfl ?_
        refine am_Pn.bs (a := 77) rfl rfl rfl (fun hi => ?_)
        replace h := h (am_in0 hi) (am_in1 hi)
        refine am_Pn.bl 2 (y := (167, [some (.ref 64), some (.int x1), some (.int x2), some (.int x3), some (.int x4), o5, some (.int l6), some (.int (l7 + Int32.ofInt (1)))], [], sg_h (sg_uA s 77 (l7.toInt.toNat) (vp_nar .boolean (Int32.ofInt (0)))), 0, 0)) rfl ?_
        exact (ih) o5 l6 (l7 + Int32.ofInt (1)) (sg_uA s 77 (l7.toInt.toNat) (vp_nar .boolean (Int32.ofInt (0)))) h
  unfold wp_M_verse at h
  refine am_Pn.bl 1 (y := (1, [some (.ref 64), some (.int x1), some (.int x2), some (.int x3), some (.int x4), none, none, none], [.ref 64], sg_h s, 0, 0)) rfl ?_
  refine am_Pn.cvI hcl h rfl rfl rfl rfl rfl (fun x5 s5 h => ?_)
  refine am_Pn.bl 3 (y := (9, [some (.ref 64), some (.int x1), some (.int x2), some (.int x3), some (.int x4), some (.int x5), none, none], [.int (Int32.ofInt (-1)), .int x5], sg_h s5, 0, 0)) rfl ?_
  refine am_Pn.bT h (am_beq rfl rfl) rfl rfl (fun h => ?_) (fun h => ?_)
  · refine am_Pn.bl 1 (y := (34, [some (.ref 64), some (.int x1), some (.int x2), some (.int x3), some (.int x4), some (.int x5), none, none], [.int (Int32.ofInt (-1))], sg_h s5, 0, 0)) rfl ?_
    exact am_Pn.rI h rfl
  · refine am_Pn.bl 3 (y := (16, [some (.ref 64), some (.int x1), some (.int x2), some (.int x3), some (.int x4), some (.int x5), none, none], [.int x4, .int x3, .int x2], sg_h s5, 0, 0)) rfl ?_
    refine am_Pn.csI hcl h rfl rfl rfl rfl rfl (fun x6 s6 h => ?_)
    refine am_Pn.zT h (am_beq rfl rfl) rfl rfl (fun h => ?_) (fun h => ?_)
    · refine am_Pn.bl 1 (y := (34, [some (.ref 64), some (.int x1), some (.int x2), some (.int x3), some (.int x4), some (.int x5), none, none], [.int (Int32.ofInt (-1))], sg_h s6, 0, 0)) rfl ?_
      exact am_Pn.rI h rfl
    · refine am_Pn.bl 3 (y := (27, [some (.ref 64), some (.int x1), some (.int x2), some (.int x3), some (.int x4), some (.int x5), none, none], [.int (Int32.ofInt (999)), .int (Int32.ofInt (0)), .int x1], sg_h s6, 0, 0)) rfl ?_
      refine am_Pn.csI hcl h rfl rfl rfl rfl rfl (fun x7 s7 h => ?_)
      refine am_Pn.zF h (am_bne rfl rfl) rfl rfl (fun h => ?_) (fun h => ?_)
      · refine am_Pn.bl 1 (y := (36, [some (.ref 64), some (.int x1), some (.int x2), some (.int x3), some (.int x4), some (.int x5), none, none], [.ref 64], sg_h s7, 0, 0)) rfl ?_
        refine am_Pn.cvI hcl h rfl rfl rfl rfl rfl (fun x8 s8 h => ?_)
        refine am_Pn.zF h (am_ble rfl rfl) rfl rfl (fun h => ?_) (fun h => ?_)
        · refine am_Pn.bl 2 (y := (47, [some (.ref 64), some (.int x1), some (.int x2), some (.int x3), some (.int x4), some (.int x5), none, none], [.ref 64, .int x1], sg_h s8, 0, 0)) rfl ?_
          refine am_Pn.gi (k := 25) rfl rfl am_o64 rfl rfl ?_
          refine am_Pn.bF h (am_ble rfl rfl) rfl rfl (fun h => ?_) (fun h => ?_)
          · refine am_Pn.bl 1 (y := (63, [some (.ref 64), some (.int x1), some (.int x2), some (.int x3), some (.int x4), some (.int x5), none, none], [.ref 64], sg_h s8, 0, 0)) rfl ?_
            refine am_Pn.cvV hcl h rfl rfl rfl rfl rfl (fun s9 h => ?_)
            refine am_Pn.bl 5 (y := (72, [some (.ref 64), some (.int x1), some (.int x2), some (.int x3), some (.int x4), some (.int x5), none, none], [.ref 64, .int x4, .int x3, .int x2, .ref 64], sg_h s9, 0, 0)) rfl ?_
            refine am_Pn.gi (k := 40) rfl rfl am_o64 rfl rfl ?_
            refine am_Pn.bl 2 (y := (77, [some (.ref 64), some (.int x1), some (.int x2), some (.int x3), some (.int x4), some (.int x5), none, none], [.int ((s9.1 64 40) + (Int32.ofInt (1))), .int x4, .int x3, .int x2, .ref 64], sg_h s9, 0, 0)) rfl ?_
            refine am_Pn.cvI hcl h rfl rfl rfl rfl rfl (fun x10 s10 h => ?_)
            refine am_Pn.bl 3 (y := (85, [some (.ref 64), some (.int x1), some (.int x2), some (.int x3), some (.int x4), some (.int x5), some (.int x10), none], [.int (Int32.ofInt (-1)), .int x10], sg_h s10, 0, 0)) rfl ?_
            refine am_Pn.bT h (am_beq rfl rfl) rfl rfl (fun h => ?_) (fun h => ?_)
            · refine am_Pn.bl 1 (y := (95, [some (.ref 64), some (.int x1), some (.int x2), some (.int x3), some (.int x4), some (.int x5), some (.int x10), none], [.ref 64], sg_h s10, 0, 0)) rfl ?_
              refine am_Pn.gr (k := 41) rfl rfl am_o64 rfl rfl ?_
              refine am_Pn.bl 1 (y := (99, [some (.ref 64), some (.int x1), some (.int x2), some (.int x3), some (.int x4), some (.int x5), some (.int x10), none], [.ref 64, .ref 83], sg_h s10, 0, 0)) rfl ?_
              refine am_Pn.gi (k := 40) rfl rfl am_o64 rfl rfl ?_
              refine am_Pn.bl 1 (y := (104, [some (.ref 64), some (.int x1), some (.int x2), some (.int x3), some (.int x4), some (.int x5), some (.int x10), none], [.int x5, .int (s10.1 64 40), .ref 83], sg_h s10, 0, 0)) rfl ?_
              refine am_Pn.is (a := 83) rfl rfl rfl (fun hi => ?_)
              replace h := h (am_in0 hi) (am_in1 hi)
              refine am_Pn.bl 1 (y := (106, [some (.ref 64), some (.int x1), some (.int x2), some (.int x3), some (.int x4), some (.int x5), some (.int x10), none], [.ref 64], sg_h (sg_uA s10 83 ((s10.1 64 40).toInt.toNat) x5), 0, 0)) rfl ?_
              refine am_Pn.gr (k := 42) rfl rfl am_o64 rfl rfl ?_
              refine am_Pn.bl 1 (y := (110, [some (.ref 64), some (.int x1), some (.int x2), some (.int x3), some (.int x4), some (.int x5), some (.int x10), none], [.ref 64, .ref 84], sg_h (sg_uA s10 83 ((s10.1 64 40).toInt.toNat) x5), 0, 0)) rfl ?_
              refine am_Pn.gi (k := 40) rfl rfl am_o64 rfl rfl ?_
              refine am_Pn.bl 4 (y := (118, [some (.ref 64), some (.int x1), some (.int x2), some (.int x3), some (.int x4), some (.int x5), some (.int x10), none], [.int x4, .int x3, .int x2, .ref 64, .int (s10.1 64 40), .ref 84], sg_h (sg_uA s10 83 ((s10.1 64 40).toInt.toNat) x5), 0, 0)) rfl ?_
              refine am_Pn.cvI hcl h rfl rfl rfl rfl rfl (fun x11 s11 h => ?_)
              refine am_Pn.is (a := 84) rfl rfl rfl (fun hi => ?_)
              replace h := h (am_in0 hi) (am_in1 hi)
              refine am_Pn.bl 2 (y := (124, [some (.ref 64), some (.int x1), some (.int x2), some (.int x3), some (.int x4), some (.int x5), some (.int x10), none], [.ref 64, .ref 64], sg_h (sg_uA s11 84 ((s10.1 64 40).toInt.toNat) x11), 0, 0)) rfl ?_
              refine am_Pn.gi (k := 40) rfl rfl am_o64 rfl rfl ?_
              refine am_Pn.bl 3 (y := (131, [some (.ref 64), some (.int x1), some (.int x2), some (.int x3), some (.int x4), some (.int x5), some (.int x10), none], [.int x4, .int x3, .int x2, .int (s11.1 64 40), .ref 64], sg_h (sg_uA s11 84 ((s10.1 64 40).toInt.toNat) x11), 0, 0)) rfl ?_
              refine am_Pn.cvV hcl h rfl rfl rfl rfl rfl (fun s12 h => ?_)
              refine am_Pn.bl 1 (y := (135, [some (.ref 64), some (.int x1), some (.int x2), some (.int x3), some (.int x4), some (.int x5), some (.int x10), none], [.ref 64], sg_h s12, 0, 0)) rfl ?_
              refine am_Pn.gr (k := 44) rfl rfl am_o64 rfl rfl ?_
              refine am_Pn.bl 1 (y := (139, [some (.ref 64), some (.int x1), some (.int x2), some (.int x3), some (.int x4), some (.int x5), some (.int x10), none], [.ref 64, .ref 86], sg_h s12, 0, 0)) rfl ?_
              refine am_Pn.gi (k := 40) rfl rfl am_o64 rfl rfl ?_
              refine am_Pn.bl 1 (y := (143, [some (.ref 64), some (.int x1), some (.int x2), some (.int x3), some (.int x4), some (.int x5), some (.int x10), none], [.int (Int32.ofInt (0)), .int (s12.1 64 40), .ref 86], sg_h s12, 0, 0)) rfl ?_
              refine am_Pn.bs (a := 86) rfl rfl rfl (fun hi => ?_)
              replace h := h (am_in0 hi) (am_in1 hi)
              refine am_Pn.bl 1 (y := (145, [some (.ref 64), some (.int x1), some (.int x2), some (.int x3), some (.int x4), some (.int x5), some (.int x10), none], [.ref 64], sg_h (sg_uA s12 86 ((s12.1 64 40).toInt.toNat) (vp_nar .boolean (Int32.ofInt (0)))), 0, 0)) rfl ?_
              refine am_Pn.gr (k := 45) rfl rfl am_o64 rfl rfl ?_
              refine am_Pn.bl 1 (y := (149, [some (.ref 64), some (.int x1), some (.int x2), some (.int x3), some (.int x4), some (.int x5), some (.int x10), none], [.ref 64, .ref 87], sg_h (sg_uA s12 86 ((s12.1 64 40).toInt.toNat) (vp_nar .boolean (Int32.ofInt (0)))), 0, 0)) rfl ?_
              refine am_Pn.gi (k := 40) rfl rfl am_o64 rfl rfl ?_
              refine am_Pn.bl 1 (y := (153, [some (.ref 64), some (.int x1), some (.int x2), some (.int x3), some (.int x4), some (.int x5), some (.int x10), none], [.int x1, .int (s12.1 64 40), .ref 87], sg_h (sg_uA s12 86 ((s12.1 64 40).toInt.toNat) (vp_nar .boolean (Int32.ofInt (0)))), 0, 0)) rfl ?_
              refine am_Pn.is (a := 87) rfl rfl rfl (fun hi => ?_)
              refine am_Pn.bl 2 (y := (156, [some (.ref 64), some (.int x1), some (.int x2), some (.int x3), some (.int x4), some (.int x5), some (.int x10), none], [.ref 64, .ref 64], sg_h (sg_uA (sg_uA s12 86 ((s12.1 64 40).toInt.toNat) (vp_nar .boolean (Int32.ofInt (0)))) 87 ((s12.1 64 40).toInt.toNat) x1), 0, 0)) rfl ?_
              refine am_Pn.gi (k := 40) rfl rfl am_o64 rfl rfl ?_
              refine am_Pn.bl 2 (y := (161, [some (.ref 64), some (.int x1), some (.int x2), some (.int x3), some (.int x4), some (.int x5), some (.int x10), none], [.int ((s12.1 64 40) + (Int32.ofInt (1))), .ref 64], sg_h (sg_uA (sg_uA s12 86 ((s12.1 64 40).toInt.toNat) (vp_nar .boolean (Int32.ofInt (0)))) 87 ((s12.1 64 40).toInt.toNat) x1), 0, 0)) rfl ?_
              refine am_Pn.pi (k := 40) rfl rfl am_o64 rfl rfl ?_
              refine am_Pn.bl 2 (y := (167, [some (.ref 64), some (.int x1), some (.int x2), some (.int x3), some (.int x4), some (.int x5), some (.int x10), some (.int (Int32.ofInt (0)))], [], sg_h (sg_uI (sg_uA (sg_uA s12 86 ((s12.1 64 40).toInt.toNat) (vp_nar .boolean (Int32.ofInt (0)))) 87 ((s12.1 64 40).toInt.toNat) x1) 64 40 ((s12.1 64 40) + (Int32.ofInt (1)))), 0, 0)) rfl ?_
              exact ((key n)) (some (.int x5)) x10 (Int32.ofInt (0)) (sg_uI (sg_uA (sg_uA s12 86 ((s12.1 64 40).toInt.toNat) (vp_nar .boolean (Int32.ofInt (0)))) 87 ((s12.1 64 40).toInt.toNat) x1) 64 40 ((s12.1 64 40) + (Int32.ofInt (1)))) h
            · refine am_Pn.bl 3 (y := (93, [some (.ref 64), some (.int x1), some (.int x2), some (.int x3), some (.int x4), some (.int x5), some (.int x10), none], [.int ((Int32.ofInt (-10)) - x10)], sg_h s10, 0, 0)) rfl ?_
              exact am_Pn.rI h rfl
          · refine am_Pn.bl 2 (y := (56, [some (.ref 64), some (.int x1), some (.int x2), some (.int x3), some (.int x4), some (.int x5), none, none], [.int x5, .ref 64], sg_h s8, 0, 0)) rfl ?_
            refine am_Pn.cvV hcl h rfl rfl rfl rfl rfl (fun s13 h => ?_)
            refine am_Pn.bl 1 (y := (61, [some (.ref 64), some (.int x1), some (.int x2), some (.int x3), some (.int x4), some (.int x5), none, none], [.int (Int32.ofInt (-3))], sg_h s13, 0, 0)) rfl ?_
            exact am_Pn.rI h rfl
        · refine am_Pn.bl 1 (y := (44, [some (.ref 64), some (.int x1), some (.int x2), some (.int x3), some (.int x4), some (.int x5), none, none], [.int (Int32.ofInt (-9))], sg_h s8, 0, 0)) rfl ?_
          exact am_Pn.rI h rfl
      · refine am_Pn.bl 1 (y := (34, [some (.ref 64), some (.int x1), some (.int x2), some (.int x3), some (.int x4), some (.int x5), none, none], [.int (Int32.ofInt (-1))], sg_h s7, 0, 0)) rfl ?_
        exact am_Pn.rI h rfl
def wp_M_breaks (Ψ : Int32 → sg_S → Prop) (x1 : Int32) (x2 : Int32) (x3 : Int32) (s : sg_S) : Prop := (((s.1 64 40).toInt = (s.1 64 24).toInt → (Ψ (Int32.ofInt (-2)) s)) ∧ (¬ (s.1 64 40).toInt = (s.1 64 24).toInt → (am_SpI 182 [.int x1, .int x2, .int x3] s (fun x4 s4 => ((x4.toInt = (0) → (Ψ (Int32.ofInt (-2)) s4)) ∧ (¬ x4.toInt = (0) → (am_SpI 183 [.ref 64] s4 (fun x5 s5 => (((0) < x5.toInt → (Ψ (Int32.ofInt (-9)) s5)) ∧ (¬ (0) < x5.toInt → (am_SpV 184 [.ref 64] s5 (fun s6 => (am_SpI 187 [.ref 64, .int x1, .int x2, .int x3, .int ((s6.1 64 40) + (Int32.ofInt (1)))] s6 (fun x7 s7 => (Ψ x7 s7)))))))))))))))
set_option maxRecDepth 100000 in
theorem wp_M_breaks_ok {Ψ : Int32 → sg_S → Prop} {x1 : Int32} {x2 : Int32} {x3 : Int32} {s : sg_S} (h : wp_M_breaks Ψ x1 x2 x3 s) : am_SpI 193 [.ref 64, .int x1, .int x2, .int x3] s Ψ := by
  refine am_SpI.mk (r := am_r193) rfl rfl (fun call d al n hcl => ?_)
  unfold wp_M_breaks at h
  refine am_Pn.bl 1 (y := (1, [some (.ref 64), some (.int x1), some (.int x2), some (.int x3)], [.ref 64], sg_h s, 0, 0)) rfl ?_
  refine am_Pn.gi (k := 40) rfl rfl am_o64 rfl rfl ?_
  refine am_Pn.bl 1 (y := (5, [some (.ref 64), some (.int x1), some (.int x2), some (.int x3)], [.ref 64, .int (s.1 64 40)], sg_h s, 0, 0)) rfl ?_
  refine am_Pn.gi (k := 24) rfl rfl am_o64 rfl rfl ?_
  refine am_Pn.bT h (am_beq rfl rfl) rfl rfl (fun h => ?_) (fun h => ?_)
  · refine am_Pn.bl 1 (y := (22, [some (.ref 64), some (.int x1), some (.int x2), some (.int x3)], [.int (Int32.ofInt (-2))], sg_h s, 0, 0)) rfl ?_
    exact am_Pn.rI h rfl
  · refine am_Pn.bl 3 (y := (14, [some (.ref 64), some (.int x1), some (.int x2), some (.int x3)], [.int x3, .int x2, .int x1], sg_h s, 0, 0)) rfl ?_
    refine am_Pn.csI hcl h rfl rfl rfl rfl rfl (fun x4 s4 h => ?_)
    refine am_Pn.zF h (am_bne rfl rfl) rfl rfl (fun h => ?_) (fun h => ?_)
    · refine am_Pn.bl 1 (y := (24, [some (.ref 64), some (.int x1), some (.int x2), some (.int x3)], [.ref 64], sg_h s4, 0, 0)) rfl ?_
      refine am_Pn.cvI hcl h rfl rfl rfl rfl rfl (fun x5 s5 h => ?_)
      refine am_Pn.zF h (am_ble rfl rfl) rfl rfl (fun h => ?_) (fun h => ?_)
      · refine am_Pn.bl 1 (y := (34, [some (.ref 64), some (.int x1), some (.int x2), some (.int x3)], [.ref 64], sg_h s5, 0, 0)) rfl ?_
        refine am_Pn.cvV hcl h rfl rfl rfl rfl rfl (fun s6 h => ?_)
        refine am_Pn.bl 5 (y := (42, [some (.ref 64), some (.int x1), some (.int x2), some (.int x3)], [.ref 64, .int x3, .int x2, .int x1, .ref 64], sg_h s6, 0, 0)) rfl ?_
        refine am_Pn.gi (k := 40) rfl rfl am_o64 rfl rfl ?_
        refine am_Pn.bl 2 (y := (47, [some (.ref 64), some (.int x1), some (.int x2), some (.int x3)], [.int ((s6.1 64 40) + (Int32.ofInt (1))), .int x3, .int x2, .int x1, .ref 64], sg_h s6, 0, 0)) rfl ?_
        refine am_Pn.cvI hcl h rfl rfl rfl rfl rfl (fun x7 s7 h => ?_)
        exact am_Pn.rI h rfl
      · refine am_Pn.bl 1 (y := (32, [some (.ref 64), some (.int x1), some (.int x2), some (.int x3)], [.int (Int32.ofInt (-9))], sg_h s5, 0, 0)) rfl ?_
        exact am_Pn.rI h rfl
    · refine am_Pn.bl 1 (y := (22, [some (.ref 64), some (.int x1), some (.int x2), some (.int x3)], [.int (Int32.ofInt (-2))], sg_h s4, 0, 0)) rfl ?_
      exact am_Pn.rI h rfl
def wp_M_back_21 (I21 : Int32 →  sg_S → Prop) (Ψ : Int32 → sg_S → Prop) (l1 : Int32) (s : sg_S) : Prop := ((l1.toInt < (s.1 64 30).toInt → (0 ≤ l1.toInt → l1.toInt < (12) → (I21 (l1 + Int32.ofInt (1)) (sg_uA s 77 (l1.toInt.toNat) (vp_nar .boolean (Int32.ofInt (0))))))) ∧ (¬ l1.toInt < (s.1 64 30).toInt → (Ψ ((s.1 64 40) + (Int32.ofInt (1))) s)))
def wp_M_back (I21 : Int32 →  sg_S → Prop) (Ψ : Int32 → sg_S → Prop) (s : sg_S) : Prop := (((s.1 64 40).toInt = (0) → (Ψ (Int32.ofInt (-1)) s)) ∧ (¬ (s.1 64 40).toInt = (0) → (I21 (Int32.ofInt (0)) (sg_uI s 64 40 ((s.1 64 40) - (Int32.ofInt (1)))))))
set_option maxRecDepth 100000 in
theorem wp_M_back_ok {I21 : Int32 →  sg_S → Prop} {Ψ : Int32 → sg_S → Prop} {s : sg_S} (k21 : ∀ (l1 : Int32) (s : sg_S), I21 l1 s → wp_M_back_21 I21 Ψ  l1 s) (h : wp_M_back I21 Ψ  s) : am_SpI 194 [.ref 64] s Ψ := by
  refine am_SpI.mk (r := am_r194) rfl rfl (fun call d al n hcl => ?_)
  have key : ∀ n, (∀ (l1 : Int32) (s : sg_S), I21 l1 s → am_Pn call d (0, fun _ => 0) al am_r194 (am_PhI am_r194 Ψ) n (21, [some (.ref 64), some (.int l1)], [], sg_h s, 0, 0)) := by
    intro n
    induction n with
    | zero => exact fun _ _ _ => am_Pn.zero
    | succ n ih =>
      intro l1 s h
      replace h := k21 l1 s h
      unfold wp_M_back_21 at h
      refine am_Pn.bl1 1 (y := (23, [some (.ref 64), some (.int l1)], [.ref 64, .int l1], sg_h s, 0, 0)) rfl ?_
      refine am_Pn.gi (k := 30) rfl rfl am_o64 rfl rfl ?_
      refine am_Pn.bF h (am_bge rfl rfl) rfl rfl (fun h => ?_) (fun h => ?_)
      · refine am_Pn.bl 1 (y := (43, [some (.ref 64), some (.int l1)], [.ref 64], sg_h s, 0, 0)) rfl ?_
        refine am_Pn.gi (k := 40) rfl rfl am_o64 rfl rfl ?_
        refine am_Pn.bl 2 (y := (48, [some (.ref 64), some (.int l1)], [.int ((s.1 64 40) + (Int32.ofInt (1)))], sg_h s, 0, 0)) rfl ?_
        exact am_Pn.rI h rfl
      · refine am_Pn.bl 1 (y := (30, [some (.ref 64), some (.int l1)], [.ref 64], sg_h s, 0, 0)) rfl ?_
        refine am_Pn.gr (k := 32) rfl rfl am_o64 rfl rfl ?_
        refine am_Pn.bl 2 (y := (35, [some (.ref 64), some (.int l1)], [.int (Int32.ofInt (0)), .int l1, .ref 77], sg_h s, 0, 0)) rfl ?_
        refine am_Pn.bs (a := 77) rfl rfl rfl (fun hi => ?_)
        replace h := h (am_in0 hi) (am_in1 hi)
        refine am_Pn.bl 2 (y := (21, [some (.ref 64), some (.int (l1 + Int32.ofInt (1)))], [], sg_h (sg_uA s 77 (l1.toInt.toNat) (vp_nar .boolean (Int32.ofInt (0)))), 0, 0)) rfl ?_
        exact (ih) (l1 + Int32.ofInt (1)) (sg_uA s 77 (l1.toInt.toNat) (vp_nar .boolean (Int32.ofInt (0)))) h
  unfold wp_M_back at h
  refine am_Pn.bl 1 (y := (1, [some (.ref 64), none], [.ref 64], sg_h s, 0, 0)) rfl ?_
  refine am_Pn.gi (k := 40) rfl rfl am_o64 rfl rfl ?_
  refine am_Pn.zF h (am_bne rfl rfl) rfl rfl (fun h => ?_) (fun h => ?_)
  · refine am_Pn.bl 2 (y := (11, [some (.ref 64), none], [.ref 64, .ref 64], sg_h s, 0, 0)) rfl ?_
    refine am_Pn.gi (k := 40) rfl rfl am_o64 rfl rfl ?_
    refine am_Pn.bl 2 (y := (16, [some (.ref 64), none], [.int ((s.1 64 40) - (Int32.ofInt (1))), .ref 64], sg_h s, 0, 0)) rfl ?_
    refine am_Pn.pi (k := 40) rfl rfl am_o64 rfl rfl ?_
    refine am_Pn.bl 2 (y := (21, [some (.ref 64), some (.int (Int32.ofInt (0)))], [], sg_h (sg_uI s 64 40 ((s.1 64 40) - (Int32.ofInt (1)))), 0, 0)) rfl ?_
    exact ((key n)) (Int32.ofInt (0)) (sg_uI s 64 40 ((s.1 64 40) - (Int32.ofInt (1)))) h
  · refine am_Pn.bl 1 (y := (8, [some (.ref 64), none], [.int (Int32.ofInt (-1))], sg_h s, 0, 0)) rfl ?_
    exact am_Pn.rI h rfl
def wp_M_worn (Ψ : Int32 → sg_S → Prop) (x1 : Int32) (x2 : Int32) (s : sg_S) : Prop := (am_SpI 168 [.int x1, .int (Int32.ofInt (1)), .int (s.1 64 40)] s (fun x3 s3 => ((x3.toInt = (0) → (Ψ (Int32.ofInt (0)) s3)) ∧ (¬ x3.toInt = (0) → (0 ≤ (x1 - (Int32.ofInt (1))).toInt → (x1 - (Int32.ofInt (1))).toInt < (48) → (((s3.2.2.1 86 ((x1 - (Int32.ofInt (1))).toInt.toNat)).toInt = x2.toInt → (Ψ (Int32.ofInt (0)) s3)) ∧ (¬ (s3.2.2.1 86 ((x1 - (Int32.ofInt (1))).toInt.toNat)).toInt = x2.toInt → (Ψ (Int32.ofInt (1)) (sg_uA s3 86 ((x1 - (Int32.ofInt (1))).toInt.toNat) (vp_nar .boolean x2))))))))))
set_option maxRecDepth 100000 in
theorem wp_M_worn_ok {Ψ : Int32 → sg_S → Prop} {x1 : Int32} {x2 : Int32} {s : sg_S} (h : wp_M_worn Ψ x1 x2 s) : am_SpI 195 [.ref 64, .int x1, .int x2] s Ψ := by
  refine am_SpI.mk (r := am_r195) rfl rfl (fun call d al n hcl => ?_)
  unfold wp_M_worn at h
  refine am_Pn.bl 3 (y := (3, [some (.ref 64), some (.int x1), some (.int x2)], [.ref 64, .int (Int32.ofInt (1)), .int x1], sg_h s, 0, 0)) rfl ?_
  refine am_Pn.gi (k := 40) rfl rfl am_o64 rfl rfl ?_
  refine am_Pn.csI hcl h rfl rfl rfl rfl rfl (fun x3 s3 h => ?_)
  refine am_Pn.zT h (am_beq rfl rfl) rfl rfl (fun h => ?_) (fun h => ?_)
  · refine am_Pn.bl 1 (y := (25, [some (.ref 64), some (.int x1), some (.int x2)], [.int (Int32.ofInt (0))], sg_h s3, 0, 0)) rfl ?_
    exact am_Pn.rI h rfl
  · refine am_Pn.bl 1 (y := (13, [some (.ref 64), some (.int x1), some (.int x2)], [.ref 64], sg_h s3, 0, 0)) rfl ?_
    refine am_Pn.gr (k := 44) rfl rfl am_o64 rfl rfl ?_
    refine am_Pn.bl 3 (y := (19, [some (.ref 64), some (.int x1), some (.int x2)], [.int (x1 - (Int32.ofInt (1))), .ref 86], sg_h s3, 0, 0)) rfl ?_
    refine am_Pn.ba (a := 86) rfl rfl rfl rfl (fun hi => ?_)
    replace h := h (am_in0 hi) (am_in1 hi)
    refine am_Pn.bl 1 (y := (21, [some (.ref 64), some (.int x1), some (.int x2)], [.int x2, .int (s3.2.2.1 86 ((x1 - (Int32.ofInt (1))).toInt.toNat))], sg_h s3, 0, 0)) rfl ?_
    refine am_Pn.bF h (am_bne rfl rfl) rfl rfl (fun h => ?_) (fun h => ?_)
    · refine am_Pn.bl 1 (y := (27, [some (.ref 64), some (.int x1), some (.int x2)], [.ref 64], sg_h s3, 0, 0)) rfl ?_
      refine am_Pn.gr (k := 44) rfl rfl am_o64 rfl rfl ?_
      refine am_Pn.bl 4 (y := (34, [some (.ref 64), some (.int x1), some (.int x2)], [.int x2, .int (x1 - (Int32.ofInt (1))), .ref 86], sg_h s3, 0, 0)) rfl ?_
      refine am_Pn.bs (a := 86) rfl rfl rfl (fun hi => ?_)
      refine am_Pn.bl 1 (y := (36, [some (.ref 64), some (.int x1), some (.int x2)], [.int (Int32.ofInt (1))], sg_h (sg_uA s3 86 ((x1 - (Int32.ofInt (1))).toInt.toNat) (vp_nar .boolean x2)), 0, 0)) rfl ?_
      exact am_Pn.rI h rfl
    · refine am_Pn.bl 1 (y := (25, [some (.ref 64), some (.int x1), some (.int x2)], [.int (Int32.ofInt (0))], sg_h s3, 0, 0)) rfl ?_
      exact am_Pn.rI h rfl
def wp_M_verseOf (Ψ : Int32 → sg_S → Prop) (x1 : Int32) (x2 : Int32) (s : sg_S) : Prop := (am_SpI 168 [.int x1, .int (Int32.ofInt (1)), .int (s.1 64 40)] s (fun x3 s3 => ((x3.toInt = (0) → (Ψ (Int32.ofInt (-1)) s3)) ∧ (¬ x3.toInt = (0) → ((x2.toInt = (0) → (0 ≤ (x1 - (Int32.ofInt (1))).toInt → (x1 - (Int32.ofInt (1))).toInt < (48) → (Ψ (s3.2.2.1 83 ((x1 - (Int32.ofInt (1))).toInt.toNat)) s3))) ∧ (x2.toInt = (1) → (0 ≤ (x1 - (Int32.ofInt (1))).toInt → (x1 - (Int32.ofInt (1))).toInt < (48) → (Ψ (s3.2.2.1 84 ((x1 - (Int32.ofInt (1))).toInt.toNat)) s3))) ∧ (x2.toInt = (2) → (0 ≤ ((Int32.ofInt (3)) * (x1 - (Int32.ofInt (1)))).toInt → ((Int32.ofInt (3)) * (x1 - (Int32.ofInt (1)))).toInt < (153) → (Ψ (s3.2.2.1 85 (((Int32.ofInt (3)) * (x1 - (Int32.ofInt (1)))).toInt.toNat)) s3))) ∧ (x2.toInt = (3) → (0 ≤ (((Int32.ofInt (3)) * (x1 - (Int32.ofInt (1)))) + (Int32.ofInt (1))).toInt → (((Int32.ofInt (3)) * (x1 - (Int32.ofInt (1)))) + (Int32.ofInt (1))).toInt < (153) → (Ψ (s3.2.2.1 85 ((((Int32.ofInt (3)) * (x1 - (Int32.ofInt (1)))) + (Int32.ofInt (1))).toInt.toNat)) s3))) ∧ (x2.toInt = (4) → (0 ≤ (((Int32.ofInt (3)) * (x1 - (Int32.ofInt (1)))) + (Int32.ofInt (2))).toInt → (((Int32.ofInt (3)) * (x1 - (Int32.ofInt (1)))) + (Int32.ofInt (2))).toInt < (153) → (Ψ (s3.2.2.1 85 ((((Int32.ofInt (3)) * (x1 - (Int32.ofInt (1)))) + (Int32.ofInt (2))).toInt.toNat)) s3))) ∧ (x2.toInt = (5) → (0 ≤ (x1 - (Int32.ofInt (1))).toInt → (x1 - (Int32.ofInt (1))).toInt < (48) → (((s3.2.2.1 86 ((x1 - (Int32.ofInt (1))).toInt.toNat)).toInt = (0) → (Ψ (Int32.ofInt (0)) s3)) ∧ (¬ (s3.2.2.1 86 ((x1 - (Int32.ofInt (1))).toInt.toNat)).toInt = (0) → (Ψ (Int32.ofInt (1)) s3))))) ∧ (x2.toInt = (6) → (0 ≤ (x1 - (Int32.ofInt (1))).toInt → (x1 - (Int32.ofInt (1))).toInt < (48) → (Ψ (s3.2.2.1 87 ((x1 - (Int32.ofInt (1))).toInt.toNat)) s3))) ∧ (x2.toInt = (7) → (((0) < (x1 - (Int32.ofInt (1))).toInt → (0 ≤ (x1 - (Int32.ofInt (1))).toInt → (x1 - (Int32.ofInt (1))).toInt < (48) → (0 ≤ ((x1 - (Int32.ofInt (1))) - (Int32.ofInt (1))).toInt → ((x1 - (Int32.ofInt (1))) - (Int32.ofInt (1))).toInt < (48) → (am_SpI 190 [.ref 64, .int (s3.2.2.1 84 ((x1 - (Int32.ofInt (1))).toInt.toNat)), .int (s3.2.2.1 84 (((x1 - (Int32.ofInt (1))) - (Int32.ofInt (1))).toInt.toNat))] s3 (fun x12 s12 => ((x12.toInt = (0) → (Ψ (Int32.ofInt (0)) s12)) ∧ (¬ x12.toInt = (0) → (Ψ (Int32.ofInt (1)) s12)))))))) ∧ (¬ (0) < (x1 - (Int32.ofInt (1))).toInt → (Ψ (Int32.ofInt (0)) s3)))) ∧ (x2.toInt = (8) → (((1) < (x1 - (Int32.ofInt (1))).toInt → (0 ≤ (x1 - (Int32.ofInt (1))).toInt → (x1 - (Int32.ofInt (1))).toInt < (48) → (0 ≤ ((x1 - (Int32.ofInt (1))) - (Int32.ofInt (2))).toInt → ((x1 - (Int32.ofInt (1))) - (Int32.ofInt (2))).toInt < (48) → (am_SpI 190 [.ref 64, .int (s3.2.2.1 84 ((x1 - (Int32.ofInt (1))).toInt.toNat)), .int (s3.2.2.1 84 (((x1 - (Int32.ofInt (1))) - (Int32.ofInt (2))).toInt.toNat))] s3 (fun x14 s14 => ((x14.toInt = (0) → (Ψ (Int32.ofInt (0)) s14)) ∧ (¬ x14.toInt = (0) → (Ψ (Int32.ofInt (1)) s14)))))))) ∧ (¬ (1) < (x1 - (Int32.ofInt (1))).toInt → (Ψ (Int32.ofInt (0)) s3)))) ∧ ((x2.toInt < (0) ∨ (8) < x2.toInt) → (Ψ (Int32.ofInt (-1)) s3)))))))
set_option maxRecDepth 100000 in
theorem wp_M_verseOf_ok {Ψ : Int32 → sg_S → Prop} {x1 : Int32} {x2 : Int32} {s : sg_S} (h : wp_M_verseOf Ψ x1 x2 s) : am_SpI 209 [.ref 64, .int x1, .int x2] s Ψ := by
  refine am_SpI.mk (r := am_r209) rfl rfl (fun call d al n hcl => ?_)
  unfold wp_M_verseOf at h
  refine am_Pn.bl 3 (y := (3, [some (.ref 64), some (.int x1), some (.int x2), none], [.ref 64, .int (Int32.ofInt (1)), .int x1], sg_h s, 0, 0)) rfl ?_
  refine am_Pn.gi (k := 40) rfl rfl am_o64 rfl rfl ?_
  refine am_Pn.csI hcl h rfl rfl rfl rfl rfl (fun x3 s3 h => ?_)
  refine am_Pn.zF h (am_bne rfl rfl) rfl rfl (fun h => ?_) (fun h => ?_)
  · refine am_Pn.bl 5 (y := (19, [some (.ref 64), some (.int x1), some (.int x2), some (.int (x1 - (Int32.ofInt (1))))], [.int x2], sg_h s3, 0, 0)) rfl ?_
    by_cases hs4 : x2.toInt = (0)
    · replace h := h.1 hs4
      refine am_Pn.tj (lo := 0) 0 (hs4.trans (by decide)) rfl rfl rfl rfl ?_
      refine am_Pn.bl 1 (y := (69, [some (.ref 64), some (.int x1), some (.int x2), some (.int (x1 - (Int32.ofInt (1))))], [.ref 64], sg_h s3, 0, 0)) rfl ?_
      refine am_Pn.gr (k := 41) rfl rfl am_o64 rfl rfl ?_
      refine am_Pn.bl 1 (y := (73, [some (.ref 64), some (.int x1), some (.int x2), some (.int (x1 - (Int32.ofInt (1))))], [.int (x1 - (Int32.ofInt (1))), .ref 83], sg_h s3, 0, 0)) rfl ?_
      refine am_Pn.ia (a := 83) rfl rfl rfl rfl (fun hi => ?_)
      replace h := h (am_in0 hi) (am_in1 hi)
      exact am_Pn.rI h rfl
    replace h := h.2
    by_cases hs5 : x2.toInt = (1)
    · replace h := h.1 hs5
      refine am_Pn.tj (lo := 0) 1 (hs5.trans (by decide)) rfl rfl rfl rfl ?_
      refine am_Pn.bl 1 (y := (76, [some (.ref 64), some (.int x1), some (.int x2), some (.int (x1 - (Int32.ofInt (1))))], [.ref 64], sg_h s3, 0, 0)) rfl ?_
      refine am_Pn.gr (k := 42) rfl rfl am_o64 rfl rfl ?_
      refine am_Pn.bl 1 (y := (80, [some (.ref 64), some (.int x1), some (.int x2), some (.int (x1 - (Int32.ofInt (1))))], [.int (x1 - (Int32.ofInt (1))), .ref 84], sg_h s3, 0, 0)) rfl ?_
      refine am_Pn.ia (a := 84) rfl rfl rfl rfl (fun hi => ?_)
      replace h := h (am_in0 hi) (am_in1 hi)
      exact am_Pn.rI h rfl
    replace h := h.2
    by_cases hs6 : x2.toInt = (2)
    · replace h := h.1 hs6
      refine am_Pn.tj (lo := 0) 2 (hs6.trans (by decide)) rfl rfl rfl rfl ?_
      refine am_Pn.bl 1 (y := (83, [some (.ref 64), some (.int x1), some (.int x2), some (.int (x1 - (Int32.ofInt (1))))], [.ref 64], sg_h s3, 0, 0)) rfl ?_
      refine am_Pn.gr (k := 43) rfl rfl am_o64 rfl rfl ?_
      refine am_Pn.bl 3 (y := (89, [some (.ref 64), some (.int x1), some (.int x2), some (.int (x1 - (Int32.ofInt (1))))], [.int ((Int32.ofInt (3)) * (x1 - (Int32.ofInt (1)))), .ref 85], sg_h s3, 0, 0)) rfl ?_
      refine am_Pn.ia (a := 85) rfl rfl rfl rfl (fun hi => ?_)
      replace h := h (am_in0 hi) (am_in1 hi)
      exact am_Pn.rI h rfl
    replace h := h.2
    by_cases hs7 : x2.toInt = (3)
    · replace h := h.1 hs7
      refine am_Pn.tj (lo := 0) 3 (hs7.trans (by decide)) rfl rfl rfl rfl ?_
      refine am_Pn.bl 1 (y := (92, [some (.ref 64), some (.int x1), some (.int x2), some (.int (x1 - (Int32.ofInt (1))))], [.ref 64], sg_h s3, 0, 0)) rfl ?_
      refine am_Pn.gr (k := 43) rfl rfl am_o64 rfl rfl ?_
      refine am_Pn.bl 5 (y := (100, [some (.ref 64), some (.int x1), some (.int x2), some (.int (x1 - (Int32.ofInt (1))))], [.int (((Int32.ofInt (3)) * (x1 - (Int32.ofInt (1)))) + (Int32.ofInt (1))), .ref 85], sg_h s3, 0, 0)) rfl ?_
      refine am_Pn.ia (a := 85) rfl rfl rfl rfl (fun hi => ?_)
      replace h := h (am_in0 hi) (am_in1 hi)
      exact am_Pn.rI h rfl
    replace h := h.2
    by_cases hs8 : x2.toInt = (4)
    · replace h := h.1 hs8
      refine am_Pn.tj (lo := 0) 4 (hs8.trans (by decide)) rfl rfl rfl rfl ?_
      refine am_Pn.bl 1 (y := (103, [some (.ref 64), some (.int x1), some (.int x2), some (.int (x1 - (Int32.ofInt (1))))], [.ref 64], sg_h s3, 0, 0)) rfl ?_
      refine am_Pn.gr (k := 43) rfl rfl am_o64 rfl rfl ?_
      refine am_Pn.bl 5 (y := (111, [some (.ref 64), some (.int x1), some (.int x2), some (.int (x1 - (Int32.ofInt (1))))], [.int (((Int32.ofInt (3)) * (x1 - (Int32.ofInt (1)))) + (Int32.ofInt (2))), .ref 85], sg_h s3, 0, 0)) rfl ?_
      refine am_Pn.ia (a := 85) rfl rfl rfl rfl (fun hi => ?_)
      replace h := h (am_in0 hi) (am_in1 hi)
      exact am_Pn.rI h rfl
    replace h := h.2
    by_cases hs9 : x2.toInt = (5)
    · replace h := h.1 hs9
      refine am_Pn.tj (lo := 0) 5 (hs9.trans (by decide)) rfl rfl rfl rfl ?_
      refine am_Pn.bl 1 (y := (114, [some (.ref 64), some (.int x1), some (.int x2), some (.int (x1 - (Int32.ofInt (1))))], [.ref 64], sg_h s3, 0, 0)) rfl ?_
      refine am_Pn.gr (k := 44) rfl rfl am_o64 rfl rfl ?_
      refine am_Pn.bl 1 (y := (118, [some (.ref 64), some (.int x1), some (.int x2), some (.int (x1 - (Int32.ofInt (1))))], [.int (x1 - (Int32.ofInt (1))), .ref 86], sg_h s3, 0, 0)) rfl ?_
      refine am_Pn.ba (a := 86) rfl rfl rfl rfl (fun hi => ?_)
      replace h := h (am_in0 hi) (am_in1 hi)
      refine am_Pn.zT h (am_beq rfl rfl) rfl rfl (fun h => ?_) (fun h => ?_)
      · refine am_Pn.bl 1 (y := (127, [some (.ref 64), some (.int x1), some (.int x2), some (.int (x1 - (Int32.ofInt (1))))], [.int (Int32.ofInt (0))], sg_h s3, 0, 0)) rfl ?_
        exact am_Pn.rI h rfl
      · refine am_Pn.bl 2 (y := (127, [some (.ref 64), some (.int x1), some (.int x2), some (.int (x1 - (Int32.ofInt (1))))], [.int (Int32.ofInt (1))], sg_h s3, 0, 0)) rfl ?_
        exact am_Pn.rI h rfl
    replace h := h.2
    by_cases hs10 : x2.toInt = (6)
    · replace h := h.1 hs10
      refine am_Pn.tj (lo := 0) 6 (hs10.trans (by decide)) rfl rfl rfl rfl ?_
      refine am_Pn.bl 1 (y := (129, [some (.ref 64), some (.int x1), some (.int x2), some (.int (x1 - (Int32.ofInt (1))))], [.ref 64], sg_h s3, 0, 0)) rfl ?_
      refine am_Pn.gr (k := 45) rfl rfl am_o64 rfl rfl ?_
      refine am_Pn.bl 1 (y := (133, [some (.ref 64), some (.int x1), some (.int x2), some (.int (x1 - (Int32.ofInt (1))))], [.int (x1 - (Int32.ofInt (1))), .ref 87], sg_h s3, 0, 0)) rfl ?_
      refine am_Pn.ia (a := 87) rfl rfl rfl rfl (fun hi => ?_)
      replace h := h (am_in0 hi) (am_in1 hi)
      exact am_Pn.rI h rfl
    replace h := h.2
    by_cases hs11 : x2.toInt = (7)
    · replace h := h.1 hs11
      refine am_Pn.tj (lo := 0) 7 (hs11.trans (by decide)) rfl rfl rfl rfl ?_
      refine am_Pn.bl 1 (y := (136, [some (.ref 64), some (.int x1), some (.int x2), some (.int (x1 - (Int32.ofInt (1))))], [.int (x1 - (Int32.ofInt (1)))], sg_h s3, 0, 0)) rfl ?_
      refine am_Pn.zF h (am_ble rfl rfl) rfl rfl (fun h => ?_) (fun h => ?_)
      · refine am_Pn.bl 1 (y := (165, [some (.ref 64), some (.int x1), some (.int x2), some (.int (x1 - (Int32.ofInt (1))))], [.int (Int32.ofInt (0))], sg_h s3, 0, 0)) rfl ?_
        exact am_Pn.rI h rfl
      · refine am_Pn.bl 2 (y := (141, [some (.ref 64), some (.int x1), some (.int x2), some (.int (x1 - (Int32.ofInt (1))))], [.ref 64, .ref 64], sg_h s3, 0, 0)) rfl ?_
        refine am_Pn.gr (k := 42) rfl rfl am_o64 rfl rfl ?_
        refine am_Pn.bl 1 (y := (145, [some (.ref 64), some (.int x1), some (.int x2), some (.int (x1 - (Int32.ofInt (1))))], [.int (x1 - (Int32.ofInt (1))), .ref 84, .ref 64], sg_h s3, 0, 0)) rfl ?_
        refine am_Pn.ia (a := 84) rfl rfl rfl rfl (fun hi => ?_)
        replace h := h (am_in0 hi) (am_in1 hi)
        refine am_Pn.bl 1 (y := (147, [some (.ref 64), some (.int x1), some (.int x2), some (.int (x1 - (Int32.ofInt (1))))], [.ref 64, .int (s3.2.2.1 84 ((x1 - (Int32.ofInt (1))).toInt.toNat)), .ref 64], sg_h s3, 0, 0)) rfl ?_
        refine am_Pn.gr (k := 42) rfl rfl am_o64 rfl rfl ?_
        refine am_Pn.bl 3 (y := (153, [some (.ref 64), some (.int x1), some (.int x2), some (.int (x1 - (Int32.ofInt (1))))], [.int ((x1 - (Int32.ofInt (1))) - (Int32.ofInt (1))), .ref 84, .int (s3.2.2.1 84 ((x1 - (Int32.ofInt (1))).toInt.toNat)), .ref 64], sg_h s3, 0, 0)) rfl ?_
        refine am_Pn.ia (a := 84) rfl rfl rfl rfl (fun hi => ?_)
        replace h := h (am_in0 hi) (am_in1 hi)
        refine am_Pn.cvI hcl h rfl rfl rfl rfl rfl (fun x12 s12 h => ?_)
        refine am_Pn.zT h (am_beq rfl rfl) rfl rfl (fun h => ?_) (fun h => ?_)
        · refine am_Pn.bl 1 (y := (165, [some (.ref 64), some (.int x1), some (.int x2), some (.int (x1 - (Int32.ofInt (1))))], [.int (Int32.ofInt (0))], sg_h s12, 0, 0)) rfl ?_
          exact am_Pn.rI h rfl
        · refine am_Pn.bl 2 (y := (165, [some (.ref 64), some (.int x1), some (.int x2), some (.int (x1 - (Int32.ofInt (1))))], [.int (Int32.ofInt (1))], sg_h s12, 0, 0)) rfl ?_
          exact am_Pn.rI h rfl
    replace h := h.2
    by_cases hs13 : x2.toInt = (8)
    · replace h := h.1 hs13
      refine am_Pn.tj (lo := 0) 8 (hs13.trans (by decide)) rfl rfl rfl rfl ?_
      refine am_Pn.bl 2 (y := (168, [some (.ref 64), some (.int x1), some (.int x2), some (.int (x1 - (Int32.ofInt (1))))], [.int (Int32.ofInt (1)), .int (x1 - (Int32.ofInt (1)))], sg_h s3, 0, 0)) rfl ?_
      refine am_Pn.bF h (am_ble rfl rfl) rfl rfl (fun h => ?_) (fun h => ?_)
      · refine am_Pn.bl 1 (y := (197, [some (.ref 64), some (.int x1), some (.int x2), some (.int (x1 - (Int32.ofInt (1))))], [.int (Int32.ofInt (0))], sg_h s3, 0, 0)) rfl ?_
        exact am_Pn.rI h rfl
      · refine am_Pn.bl 2 (y := (173, [some (.ref 64), some (.int x1), some (.int x2), some (.int (x1 - (Int32.ofInt (1))))], [.ref 64, .ref 64], sg_h s3, 0, 0)) rfl ?_
        refine am_Pn.gr (k := 42) rfl rfl am_o64 rfl rfl ?_
        refine am_Pn.bl 1 (y := (177, [some (.ref 64), some (.int x1), some (.int x2), some (.int (x1 - (Int32.ofInt (1))))], [.int (x1 - (Int32.ofInt (1))), .ref 84, .ref 64], sg_h s3, 0, 0)) rfl ?_
        refine am_Pn.ia (a := 84) rfl rfl rfl rfl (fun hi => ?_)
        replace h := h (am_in0 hi) (am_in1 hi)
        refine am_Pn.bl 1 (y := (179, [some (.ref 64), some (.int x1), some (.int x2), some (.int (x1 - (Int32.ofInt (1))))], [.ref 64, .int (s3.2.2.1 84 ((x1 - (Int32.ofInt (1))).toInt.toNat)), .ref 64], sg_h s3, 0, 0)) rfl ?_
        refine am_Pn.gr (k := 42) rfl rfl am_o64 rfl rfl ?_
        refine am_Pn.bl 3 (y := (185, [some (.ref 64), some (.int x1), some (.int x2), some (.int (x1 - (Int32.ofInt (1))))], [.int ((x1 - (Int32.ofInt (1))) - (Int32.ofInt (2))), .ref 84, .int (s3.2.2.1 84 ((x1 - (Int32.ofInt (1))).toInt.toNat)), .ref 64], sg_h s3, 0, 0)) rfl ?_
        refine am_Pn.ia (a := 84) rfl rfl rfl rfl (fun hi => ?_)
        replace h := h (am_in0 hi) (am_in1 hi)
        refine am_Pn.cvI hcl h rfl rfl rfl rfl rfl (fun x14 s14 h => ?_)
        refine am_Pn.zT h (am_beq rfl rfl) rfl rfl (fun h => ?_) (fun h => ?_)
        · refine am_Pn.bl 1 (y := (197, [some (.ref 64), some (.int x1), some (.int x2), some (.int (x1 - (Int32.ofInt (1))))], [.int (Int32.ofInt (0))], sg_h s14, 0, 0)) rfl ?_
          exact am_Pn.rI h rfl
        · refine am_Pn.bl 2 (y := (197, [some (.ref 64), some (.int x1), some (.int x2), some (.int (x1 - (Int32.ofInt (1))))], [.int (Int32.ofInt (1))], sg_h s14, 0, 0)) rfl ?_
          exact am_Pn.rI h rfl
    replace h := h.2
    have hsd15 : x2.toInt < (0) ∨ (8) < x2.toInt := by omega
    refine am_Pn.td (lo := 0) (hi := 8) hsd15 rfl rfl ?_
    replace h := h (by omega)
    refine am_Pn.bl 1 (y := (199, [some (.ref 64), some (.int x1), some (.int x2), some (.int (x1 - (Int32.ofInt (1))))], [.int (Int32.ofInt (-1))], sg_h s3, 0, 0)) rfl ?_
    exact am_Pn.rI h rfl
  · refine am_Pn.bl 1 (y := (13, [some (.ref 64), some (.int x1), some (.int x2), none], [.int (Int32.ofInt (-1))], sg_h s3, 0, 0)) rfl ?_
    exact am_Pn.rI h rfl
def wp_M_poetOf (Ψ : Int32 → sg_S → Prop) (x1 : Int32) (x2 : Int32) (s : sg_S) : Prop := (am_SpI 168 [.int x1, .int (Int32.ofInt (0)), .int ((s.1 64 30) - (Int32.ofInt (1)))] s (fun x3 s3 => ((x3.toInt = (0) → (Ψ (Int32.ofInt (-1)) s3)) ∧ (¬ x3.toInt = (0) → ((x2.toInt = (0) → (0 ≤ x1.toInt → x1.toInt < (12) → (Ψ (s3.2.2.1 76 (x1.toInt.toNat)) s3))) ∧ (¬ x2.toInt = (0) → ((x2.toInt = (1) → (am_SpI 170 [.ref 64, .int x1] s3 (fun x4 s4 => (Ψ x4 s4)))) ∧ (¬ x2.toInt = (1) → ((x2.toInt = (2) → (0 ≤ x1.toInt → x1.toInt < (12) → (((s3.2.2.1 77 (x1.toInt.toNat)).toInt = (0) → (Ψ (Int32.ofInt (0)) s3)) ∧ (¬ (s3.2.2.1 77 (x1.toInt.toNat)).toInt = (0) → (Ψ (Int32.ofInt (1)) s3))))) ∧ (¬ x2.toInt = (2) → (Ψ (Int32.ofInt (-1)) s3)))))))))))
set_option maxRecDepth 100000 in
theorem wp_M_poetOf_ok {Ψ : Int32 → sg_S → Prop} {x1 : Int32} {x2 : Int32} {s : sg_S} (h : wp_M_poetOf Ψ x1 x2 s) : am_SpI 210 [.ref 64, .int x1, .int x2] s Ψ := by
  refine am_SpI.mk (r := am_r210) rfl rfl (fun call d al n hcl => ?_)
  unfold wp_M_poetOf at h
  refine am_Pn.bl 3 (y := (3, [some (.ref 64), some (.int x1), some (.int x2)], [.ref 64, .int (Int32.ofInt (0)), .int x1], sg_h s, 0, 0)) rfl ?_
  refine am_Pn.gi (k := 30) rfl rfl am_o64 rfl rfl ?_
  refine am_Pn.bl 2 (y := (8, [some (.ref 64), some (.int x1), some (.int x2)], [.int ((s.1 64 30) - (Int32.ofInt (1))), .int (Int32.ofInt (0)), .int x1], sg_h s, 0, 0)) rfl ?_
  refine am_Pn.csI hcl h rfl rfl rfl rfl rfl (fun x3 s3 h => ?_)
  refine am_Pn.zF h (am_bne rfl rfl) rfl rfl (fun h => ?_) (fun h => ?_)
  · refine am_Pn.bl 1 (y := (17, [some (.ref 64), some (.int x1), some (.int x2)], [.int x2], sg_h s3, 0, 0)) rfl ?_
    refine am_Pn.zF h (am_bne rfl rfl) rfl rfl (fun h => ?_) (fun h => ?_)
    · refine am_Pn.bl 2 (y := (31, [some (.ref 64), some (.int x1), some (.int x2)], [.int (Int32.ofInt (1)), .int x2], sg_h s3, 0, 0)) rfl ?_
      refine am_Pn.bF h (am_bne rfl rfl) rfl rfl (fun h => ?_) (fun h => ?_)
      · refine am_Pn.bl 2 (y := (44, [some (.ref 64), some (.int x1), some (.int x2)], [.int (Int32.ofInt (2)), .int x2], sg_h s3, 0, 0)) rfl ?_
        refine am_Pn.bF h (am_bne rfl rfl) rfl rfl (fun h => ?_) (fun h => ?_)
        · refine am_Pn.bl 1 (y := (65, [some (.ref 64), some (.int x1), some (.int x2)], [.int (Int32.ofInt (-1))], sg_h s3, 0, 0)) rfl ?_
          exact am_Pn.rI h rfl
        · refine am_Pn.bl 1 (y := (48, [some (.ref 64), some (.int x1), some (.int x2)], [.ref 64], sg_h s3, 0, 0)) rfl ?_
          refine am_Pn.gr (k := 32) rfl rfl am_o64 rfl rfl ?_
          refine am_Pn.bl 1 (y := (52, [some (.ref 64), some (.int x1), some (.int x2)], [.int x1, .ref 77], sg_h s3, 0, 0)) rfl ?_
          refine am_Pn.ba (a := 77) rfl rfl rfl rfl (fun hi => ?_)
          replace h := h (am_in0 hi) (am_in1 hi)
          refine am_Pn.zT h (am_beq rfl rfl) rfl rfl (fun h => ?_) (fun h => ?_)
          · refine am_Pn.bl 2 (y := (65, [some (.ref 64), some (.int x1), some (.int x2)], [.int (Int32.ofInt (0))], sg_h s3, 0, 0)) rfl ?_
            exact am_Pn.rI h rfl
          · refine am_Pn.bl 2 (y := (65, [some (.ref 64), some (.int x1), some (.int x2)], [.int (Int32.ofInt (1))], sg_h s3, 0, 0)) rfl ?_
            exact am_Pn.rI h rfl
      · refine am_Pn.bl 2 (y := (36, [some (.ref 64), some (.int x1), some (.int x2)], [.int x1, .ref 64], sg_h s3, 0, 0)) rfl ?_
        refine am_Pn.cvI hcl h rfl rfl rfl rfl rfl (fun x4 s4 h => ?_)
        refine am_Pn.bl 1 (y := (65, [some (.ref 64), some (.int x1), some (.int x2)], [.int x4], sg_h s4, 0, 0)) rfl ?_
        exact am_Pn.rI h rfl
    · refine am_Pn.bl 1 (y := (21, [some (.ref 64), some (.int x1), some (.int x2)], [.ref 64], sg_h s3, 0, 0)) rfl ?_
      refine am_Pn.gr (k := 31) rfl rfl am_o64 rfl rfl ?_
      refine am_Pn.bl 1 (y := (25, [some (.ref 64), some (.int x1), some (.int x2)], [.int x1, .ref 76], sg_h s3, 0, 0)) rfl ?_
      refine am_Pn.ia (a := 76) rfl rfl rfl rfl (fun hi => ?_)
      replace h := h (am_in0 hi) (am_in1 hi)
      refine am_Pn.bl 1 (y := (65, [some (.ref 64), some (.int x1), some (.int x2)], [.int (s3.2.2.1 76 (x1.toInt.toNat))], sg_h s3, 0, 0)) rfl ?_
      exact am_Pn.rI h rfl
  · refine am_Pn.bl 1 (y := (15, [some (.ref 64), some (.int x1), some (.int x2)], [.int (Int32.ofInt (-1))], sg_h s3, 0, 0)) rfl ?_
    exact am_Pn.rI h rfl
def wp_M_ruleOf_85 (I85 : Int32 → Int32 →  sg_S → Prop) (Ψ : Int32 → sg_S → Prop) (x1 : Int32) (x2 : Int32) (l3 : Int32) (l4 : Int32) (s : sg_S) : Prop := ((l4.toInt < (s.1 64 40).toInt → (0 ≤ l4.toInt → l4.toInt < (48) → (0 ≤ x1.toInt → x1.toInt < (12) → ((((s.2.2.1 84 (l4.toInt.toNat)) &&& (s.2.2.1 73 (x1.toInt.toNat))).toInt = (0) → (I85 (l3 + (Int32.ofInt (0))) (l4 + Int32.ofInt (1)) s)) ∧ (¬ ((s.2.2.1 84 (l4.toInt.toNat)) &&& (s.2.2.1 73 (x1.toInt.toNat))).toInt = (0) → (I85 (l3 + (Int32.ofInt (1))) (l4 + Int32.ofInt (1)) s)))))) ∧ (¬ l4.toInt < (s.1 64 40).toInt → (Ψ l3 s)))
def wp_M_ruleOf (I85 : Int32 → Int32 →  sg_S → Prop) (Ψ : Int32 → sg_S → Prop) (x1 : Int32) (x2 : Int32) (s : sg_S) : Prop := (am_SpI 168 [.int x1, .int (Int32.ofInt (0)), .int ((s.1 64 23) - (Int32.ofInt (1)))] s (fun x3 s3 => ((x3.toInt = (0) → (Ψ (Int32.ofInt (-1)) s3)) ∧ (¬ x3.toInt = (0) → ((x2.toInt = (0) → (0 ≤ x1.toInt → x1.toInt < (12) → (Ψ (s3.2.2.1 72 (x1.toInt.toNat)) s3))) ∧ (x2.toInt = (1) → (0 ≤ x1.toInt → x1.toInt < (12) → (Ψ (s3.2.2.1 73 (x1.toInt.toNat)) s3))) ∧ (x2.toInt = (2) → (0 ≤ x1.toInt → x1.toInt < (12) → (Ψ (s3.2.2.1 74 (x1.toInt.toNat)) s3))) ∧ (x2.toInt = (3) → (0 ≤ x1.toInt → x1.toInt < (12) → (Ψ (s3.2.2.1 75 (x1.toInt.toNat)) s3))) ∧ (x2.toInt = (4) → (I85 (Int32.ofInt (0)) (Int32.ofInt (0)) s3)) ∧ ((x2.toInt < (0) ∨ (4) < x2.toInt) → (Ψ (Int32.ofInt (-1)) s3)))))))
set_option maxRecDepth 100000 in
theorem wp_M_ruleOf_ok {I85 : Int32 → Int32 →  sg_S → Prop} {Ψ : Int32 → sg_S → Prop} {x1 : Int32} {x2 : Int32} {s : sg_S} (k85 : ∀ (l3 : Int32) (l4 : Int32) (s : sg_S), I85 l3 l4 s → wp_M_ruleOf_85 I85 Ψ x1 x2 l3 l4 s) (h : wp_M_ruleOf I85 Ψ x1 x2 s) : am_SpI 211 [.ref 64, .int x1, .int x2] s Ψ := by
  refine am_SpI.mk (r := am_r211) rfl rfl (fun call d al n hcl => ?_)
  have key : ∀ n, (∀ (l3 : Int32) (l4 : Int32) (s : sg_S), I85 l3 l4 s → am_Pn call d (0, fun _ => 0) al am_r211 (am_PhI am_r211 Ψ) n (85, [some (.ref 64), some (.int x1), some (.int x2), some (.int l3), some (.int l4)], [], sg_h s, 0, 0)) := by
    intro n
    induction n with
    | zero => exact fun _ _ _ _ => am_Pn.zero
    | succ n ih =>
      intro l3 l4 s h
      replace h := k85 l3 l4 s h
      unfold wp_M_ruleOf_85 at h
      refine am_Pn.bl1 1 (y := (88, [some (.ref 64), some (.int x1), some (.int x2), some (.int l3), some (.int l4)], [.ref 64, .int l4], sg_h s, 0, 0)) rfl ?_
      refine am_Pn.gi (k := 40) rfl rfl am_o64 rfl rfl ?_
      refine am_Pn.bF h (am_bge rfl rfl) rfl rfl (fun h => ?_) (fun h => ?_)
      · refine am_Pn.bl 1 (y := (126, [some (.ref 64), some (.int x1), some (.int x2), some (.int l3), some (.int l4)], [.int l3], sg_h s, 0, 0)) rfl ?_
        exact am_Pn.rI h rfl
      · refine am_Pn.bl 2 (y := (96, [some (.ref 64), some (.int x1), some (.int x2), some (.int l3), some (.int l4)], [.ref 64, .int l3], sg_h s, 0, 0)) rfl ?_
        refine am_Pn.gr (k := 42) rfl rfl am_o64 rfl rfl ?_
        refine am_Pn.bl 1 (y := (101, [some (.ref 64), some (.int x1), some (.int x2), some (.int l3), some (.int l4)], [.int l4, .ref 84, .int l3], sg_h s, 0, 0)) rfl ?_
        refine am_Pn.ia (a := 84) rfl rfl rfl rfl (fun hi => ?_)
        replace h := h (am_in0 hi) (am_in1 hi)
        refine am_Pn.bl 1 (y := (103, [some (.ref 64), some (.int x1), some (.int x2), some (.int l3), some (.int l4)], [.ref 64, .int (s.2.2.1 84 (l4.toInt.toNat)), .int l3], sg_h s, 0, 0)) rfl ?_
        refine am_Pn.gr (k := 27) rfl rfl am_o64 rfl rfl ?_
        refine am_Pn.bl 1 (y := (107, [some (.ref 64), some (.int x1), some (.int x2), some (.int l3), some (.int l4)], [.int x1, .ref 73, .int (s.2.2.1 84 (l4.toInt.toNat)), .int l3], sg_h s, 0, 0)) rfl ?_
        refine am_Pn.ia (a := 73) rfl rfl rfl rfl (fun hi => ?_)
        replace h := h (am_in0 hi) (am_in1 hi)
        refine am_Pn.bl 1 (y := (109, [some (.ref 64), some (.int x1), some (.int x2), some (.int l3), some (.int l4)], [.int ((s.2.2.1 84 (l4.toInt.toNat)) &&& (s.2.2.1 73 (x1.toInt.toNat))), .int l3], sg_h s, 0, 0)) rfl ?_
        refine am_Pn.zT h (am_beq rfl rfl) rfl rfl (fun h => ?_) (fun h => ?_)
        · refine am_Pn.bl 5 (y := (85, [some (.ref 64), some (.int x1), some (.int x2), some (.int (l3 + (Int32.ofInt (0)))), some (.int (l4 + Int32.ofInt (1)))], [], sg_h s, 0, 0)) rfl ?_
          exact (ih) (l3 + (Int32.ofInt (0))) (l4 + Int32.ofInt (1)) s h
        · refine am_Pn.bl 6 (y := (85, [some (.ref 64), some (.int x1), some (.int x2), some (.int (l3 + (Int32.ofInt (1)))), some (.int (l4 + Int32.ofInt (1)))], [], sg_h s, 0, 0)) rfl ?_
          exact (ih) (l3 + (Int32.ofInt (1))) (l4 + Int32.ofInt (1)) s h
  unfold wp_M_ruleOf at h
  refine am_Pn.bl 3 (y := (3, [some (.ref 64), some (.int x1), some (.int x2), none, none], [.ref 64, .int (Int32.ofInt (0)), .int x1], sg_h s, 0, 0)) rfl ?_
  refine am_Pn.gi (k := 23) rfl rfl am_o64 rfl rfl ?_
  refine am_Pn.bl 2 (y := (8, [some (.ref 64), some (.int x1), some (.int x2), none, none], [.int ((s.1 64 23) - (Int32.ofInt (1))), .int (Int32.ofInt (0)), .int x1], sg_h s, 0, 0)) rfl ?_
  refine am_Pn.csI hcl h rfl rfl rfl rfl rfl (fun x3 s3 h => ?_)
  refine am_Pn.zF h (am_bne rfl rfl) rfl rfl (fun h => ?_) (fun h => ?_)
  · refine am_Pn.bl 1 (y := (17, [some (.ref 64), some (.int x1), some (.int x2), none, none], [.int x2], sg_h s3, 0, 0)) rfl ?_
    by_cases hs4 : x2.toInt = (0)
    · replace h := h.1 hs4
      refine am_Pn.tj (lo := 0) 0 (hs4.trans (by decide)) rfl rfl rfl rfl ?_
      refine am_Pn.bl 1 (y := (53, [some (.ref 64), some (.int x1), some (.int x2), none, none], [.ref 64], sg_h s3, 0, 0)) rfl ?_
      refine am_Pn.gr (k := 26) rfl rfl am_o64 rfl rfl ?_
      refine am_Pn.bl 1 (y := (57, [some (.ref 64), some (.int x1), some (.int x2), none, none], [.int x1, .ref 72], sg_h s3, 0, 0)) rfl ?_
      refine am_Pn.ia (a := 72) rfl rfl rfl rfl (fun hi => ?_)
      replace h := h (am_in0 hi) (am_in1 hi)
      exact am_Pn.rI h rfl
    replace h := h.2
    by_cases hs5 : x2.toInt = (1)
    · replace h := h.1 hs5
      refine am_Pn.tj (lo := 0) 1 (hs5.trans (by decide)) rfl rfl rfl rfl ?_
      refine am_Pn.bl 1 (y := (60, [some (.ref 64), some (.int x1), some (.int x2), none, none], [.ref 64], sg_h s3, 0, 0)) rfl ?_
      refine am_Pn.gr (k := 27) rfl rfl am_o64 rfl rfl ?_
      refine am_Pn.bl 1 (y := (64, [some (.ref 64), some (.int x1), some (.int x2), none, none], [.int x1, .ref 73], sg_h s3, 0, 0)) rfl ?_
      refine am_Pn.ia (a := 73) rfl rfl rfl rfl (fun hi => ?_)
      replace h := h (am_in0 hi) (am_in1 hi)
      exact am_Pn.rI h rfl
    replace h := h.2
    by_cases hs6 : x2.toInt = (2)
    · replace h := h.1 hs6
      refine am_Pn.tj (lo := 0) 2 (hs6.trans (by decide)) rfl rfl rfl rfl ?_
      refine am_Pn.bl 1 (y := (67, [some (.ref 64), some (.int x1), some (.int x2), none, none], [.ref 64], sg_h s3, 0, 0)) rfl ?_
      refine am_Pn.gr (k := 28) rfl rfl am_o64 rfl rfl ?_
      refine am_Pn.bl 1 (y := (71, [some (.ref 64), some (.int x1), some (.int x2), none, none], [.int x1, .ref 74], sg_h s3, 0, 0)) rfl ?_
      refine am_Pn.ia (a := 74) rfl rfl rfl rfl (fun hi => ?_)
      replace h := h (am_in0 hi) (am_in1 hi)
      exact am_Pn.rI h rfl
    replace h := h.2
    by_cases hs7 : x2.toInt = (3)
    · replace h := h.1 hs7
      refine am_Pn.tj (lo := 0) 3 (hs7.trans (by decide)) rfl rfl rfl rfl ?_
      refine am_Pn.bl 1 (y := (74, [some (.ref 64), some (.int x1), some (.int x2), none, none], [.ref 64], sg_h s3, 0, 0)) rfl ?_
      refine am_Pn.gr (k := 29) rfl rfl am_o64 rfl rfl ?_
      refine am_Pn.bl 1 (y := (78, [some (.ref 64), some (.int x1), some (.int x2), none, none], [.int x1, .ref 75], sg_h s3, 0, 0)) rfl ?_
      refine am_Pn.ia (a := 75) rfl rfl rfl rfl (fun hi => ?_)
      replace h := h (am_in0 hi) (am_in1 hi)
      exact am_Pn.rI h rfl
    replace h := h.2
    by_cases hs8 : x2.toInt = (4)
    · replace h := h.1 hs8
      refine am_Pn.tj (lo := 0) 4 (hs8.trans (by decide)) rfl rfl rfl rfl ?_
      refine am_Pn.bl 4 (y := (85, [some (.ref 64), some (.int x1), some (.int x2), some (.int (Int32.ofInt (0))), some (.int (Int32.ofInt (0)))], [], sg_h s3, 0, 0)) rfl ?_
      exact ((key n)) (Int32.ofInt (0)) (Int32.ofInt (0)) s3 h
    replace h := h.2
    have hsd9 : x2.toInt < (0) ∨ (4) < x2.toInt := by omega
    refine am_Pn.td (lo := 0) (hi := 4) hsd9 rfl rfl ?_
    replace h := h (by omega)
    refine am_Pn.bl 1 (y := (128, [some (.ref 64), some (.int x1), some (.int x2), none, none], [.int (Int32.ofInt (-1))], sg_h s3, 0, 0)) rfl ?_
    exact am_Pn.rI h rfl
  · refine am_Pn.bl 1 (y := (15, [some (.ref 64), some (.int x1), some (.int x2), none, none], [.int (Int32.ofInt (-1))], sg_h s3, 0, 0)) rfl ?_
    exact am_Pn.rI h rfl
