/-! ===== what M's liking asks (printed by wip/ab/vg_lik.py) ===== -/
def wp_M_liking (Ψ : Int32 → sg_S → Prop) (x1 : Int32) (x2 : Int32) (s : sg_S) : Prop := (am_SpI 175 [.ref 64, .int x1] s (fun x3 s3 => ((x3.toInt = (0) → (((1 : Int) = (0) → (am_SpI 180 [.ref 64, .int x1, .int x2] (sg_uI s3 64 0 (Int32.ofInt (1))) (fun x4 s4 => (Ψ x4 s4)))) ∧ (¬ (1 : Int) = (0) → (Ψ (Int32.ofInt (0)) (sg_uI s3 64 0 (Int32.ofInt (1))))))) ∧ (¬ x3.toInt = (0) → (am_SpI 175 [.ref 64, .int x2] s3 (fun x5 s5 => ((x5.toInt = (0) → (((1 : Int) = (0) → (am_SpI 180 [.ref 64, .int x1, .int x2] (sg_uI s5 64 0 (Int32.ofInt (1))) (fun x6 s6 => (Ψ x6 s6)))) ∧ (¬ (1 : Int) = (0) → (Ψ (Int32.ofInt (0)) (sg_uI s5 64 0 (Int32.ofInt (1))))))) ∧ (¬ x5.toInt = (0) → (((0 : Int) = (0) → (am_SpI 180 [.ref 64, .int x1, .int x2] (sg_uI s5 64 0 (Int32.ofInt (0))) (fun x7 s7 => (Ψ x7 s7)))) ∧ (¬ (0 : Int) = (0) → (Ψ (Int32.ofInt (0)) (sg_uI s5 64 0 (Int32.ofInt (0))))))))))))))
set_option maxRecDepth 100000 in
theorem wp_M_liking_ok {Ψ : Int32 → sg_S → Prop} {x1 : Int32} {x2 : Int32} {s : sg_S} (h : wp_M_liking Ψ x1 x2 s) : am_SpI 179 [.ref 64, .int x1, .int x2] s Ψ := by
  refine am_SpI.mk (r := am_r179) rfl rfl (fun call d al n hcl => ?_)
  unfold wp_M_liking at h
  refine am_Pn.bl 3 (y := (3, [some (.ref 64), some (.int x1), some (.int x2)], [.int x1, .ref 64, .ref 64], sg_h s, 0, 0)) rfl ?_
  refine am_Pn.cvI hcl h rfl rfl rfl rfl rfl (fun x3 s3 h => ?_)
  refine am_Pn.zT h (am_beq rfl rfl) rfl rfl (fun h => ?_) (fun h => ?_)
  · refine am_Pn.bl 1 (y := (22, [some (.ref 64), some (.int x1), some (.int x2)], [.int (Int32.ofInt (1)), .ref 64], sg_h s3, 0, 0)) rfl ?_
    refine am_Pn.pi (k := 0) rfl rfl am_o64 rfl rfl ?_
    refine am_Pn.bl 1 (y := (26, [some (.ref 64), some (.int x1), some (.int x2)], [.ref 64], sg_h (sg_uI s3 64 0 (Int32.ofInt (1))), 0, 0)) rfl ?_
    refine am_Pn.gi (k := 0) rfl rfl am_o64 rfl rfl ?_
    refine am_Pn.zF h (am_bne (x := (sg_uI s3 64 0 (Int32.ofInt (1))).1 64 0) (y := 0) (v := 1) (w := 0) rfl rfl) rfl rfl (fun h => ?_) (fun h => ?_)
    · refine am_Pn.bl 1 (y := (42, [some (.ref 64), some (.int x1), some (.int x2)], [.int (Int32.ofInt (0))], sg_h (sg_uI s3 64 0 (Int32.ofInt (1))), 0, 0)) rfl ?_
      exact am_Pn.rI h rfl
    · refine am_Pn.bl 3 (y := (35, [some (.ref 64), some (.int x1), some (.int x2)], [.int x2, .int x1, .ref 64], sg_h (sg_uI s3 64 0 (Int32.ofInt (1))), 0, 0)) rfl ?_
      refine am_Pn.cvI hcl h rfl rfl rfl rfl rfl (fun x4 s4 h => ?_)
      refine am_Pn.bl 1 (y := (42, [some (.ref 64), some (.int x1), some (.int x2)], [.int x4], sg_h s4, 0, 0)) rfl ?_
      exact am_Pn.rI h rfl
  · refine am_Pn.bl 2 (y := (11, [some (.ref 64), some (.int x1), some (.int x2)], [.int x2, .ref 64, .ref 64], sg_h s3, 0, 0)) rfl ?_
    refine am_Pn.cvI hcl h rfl rfl rfl rfl rfl (fun x5 s5 h => ?_)
    refine am_Pn.zT h (am_beq rfl rfl) rfl rfl (fun h => ?_) (fun h => ?_)
    · refine am_Pn.bl 1 (y := (22, [some (.ref 64), some (.int x1), some (.int x2)], [.int (Int32.ofInt (1)), .ref 64], sg_h s5, 0, 0)) rfl ?_
      refine am_Pn.pi (k := 0) rfl rfl am_o64 rfl rfl ?_
      refine am_Pn.bl 1 (y := (26, [some (.ref 64), some (.int x1), some (.int x2)], [.ref 64], sg_h (sg_uI s5 64 0 (Int32.ofInt (1))), 0, 0)) rfl ?_
      refine am_Pn.gi (k := 0) rfl rfl am_o64 rfl rfl ?_
      refine am_Pn.zF h (am_bne (x := (sg_uI s5 64 0 (Int32.ofInt (1))).1 64 0) (y := 0) (v := 1) (w := 0) rfl rfl) rfl rfl (fun h => ?_) (fun h => ?_)
      · refine am_Pn.bl 1 (y := (42, [some (.ref 64), some (.int x1), some (.int x2)], [.int (Int32.ofInt (0))], sg_h (sg_uI s5 64 0 (Int32.ofInt (1))), 0, 0)) rfl ?_
        exact am_Pn.rI h rfl
      · refine am_Pn.bl 3 (y := (35, [some (.ref 64), some (.int x1), some (.int x2)], [.int x2, .int x1, .ref 64], sg_h (sg_uI s5 64 0 (Int32.ofInt (1))), 0, 0)) rfl ?_
        refine am_Pn.cvI hcl h rfl rfl rfl rfl rfl (fun x6 s6 h => ?_)
        refine am_Pn.bl 1 (y := (42, [some (.ref 64), some (.int x1), some (.int x2)], [.int x6], sg_h s6, 0, 0)) rfl ?_
        exact am_Pn.rI h rfl
    · refine am_Pn.bl 2 (y := (22, [some (.ref 64), some (.int x1), some (.int x2)], [.int (Int32.ofInt (0)), .ref 64], sg_h s5, 0, 0)) rfl ?_
      refine am_Pn.pi (k := 0) rfl rfl am_o64 rfl rfl ?_
      refine am_Pn.bl 1 (y := (26, [some (.ref 64), some (.int x1), some (.int x2)], [.ref 64], sg_h (sg_uI s5 64 0 (Int32.ofInt (0))), 0, 0)) rfl ?_
      refine am_Pn.gi (k := 0) rfl rfl am_o64 rfl rfl ?_
      refine am_Pn.zF h (am_bne (x := (sg_uI s5 64 0 (Int32.ofInt (0))).1 64 0) (y := 0) (v := 0) (w := 0) rfl rfl) rfl rfl (fun h => ?_) (fun h => ?_)
      · refine am_Pn.bl 1 (y := (42, [some (.ref 64), some (.int x1), some (.int x2)], [.int (Int32.ofInt (0))], sg_h (sg_uI s5 64 0 (Int32.ofInt (0))), 0, 0)) rfl ?_
        exact am_Pn.rI h rfl
      · refine am_Pn.bl 3 (y := (35, [some (.ref 64), some (.int x1), some (.int x2)], [.int x2, .int x1, .ref 64], sg_h (sg_uI s5 64 0 (Int32.ofInt (0))), 0, 0)) rfl ?_
        refine am_Pn.cvI hcl h rfl rfl rfl rfl rfl (fun x7 s7 h => ?_)
        refine am_Pn.bl 1 (y := (42, [some (.ref 64), some (.int x1), some (.int x2)], [.int x7], sg_h s7, 0, 0)) rfl ?_
        exact am_Pn.rI h rfl
