/-! ===== what M's reader asks, tellings (printed by wip/ab/vg_read.py) ===== -/
def wp_M_group_16 (I16 : Int64 → Int32 →  sg_S → Prop) (I56 : Int64 → Int32 →  sg_S → Prop) (Ψ : sg_S → Prop) (l1 : Int64) (l3 : Int32) (s : sg_S) : Prop := (((s.1 64 6).toInt = (0) → (((s.1 64 5).toInt = (3) → ((s.2.1 64 8 = Int64.ofInt (44) → (am_SpV 152 [.ref 64] s (fun s4 => (am_SpI 163 [.ref 64] s4 (fun x5 s5 => (I16 l1 (l3 ||| x5) s5)))))) ∧ (¬ s.2.1 64 8 = Int64.ofInt (44) → (I56 l1 l3 s)))) ∧ (¬ (s.1 64 5).toInt = (3) → (I56 l1 l3 s)))) ∧ (¬ (s.1 64 6).toInt = (0) → (I56 l1 l3 s)))
def wp_M_group_56 (I16 : Int64 → Int32 →  sg_S → Prop) (I56 : Int64 → Int32 →  sg_S → Prop) (Ψ : sg_S → Prop) (l1 : Int64) (l3 : Int32) (s : sg_S) : Prop := (((0) < (s.1 64 6).toInt → (Ψ s)) ∧ (¬ (0) < (s.1 64 6).toInt → (am_SpV 160 [.ref 64, .long l1, .int l3] s (fun s6 => (Ψ (sg_uI s6 64 10 ((s6.1 64 10) + (Int32.ofInt (1)))))))))
def wp_M_group (I16 : Int64 → Int32 →  sg_S → Prop) (I56 : Int64 → Int32 →  sg_S → Prop) (Ψ : sg_S → Prop) (s : sg_S) : Prop := (am_SpL 158 [.ref 64] s (fun x1 s1 => (am_SpV 162 [.ref 64, .int (Int32.ofInt (61))] s1 (fun s2 => (am_SpI 163 [.ref 64] s2 (fun x3 s3 => (I16 x1 x3 s3)))))))
set_option maxRecDepth 100000 in
theorem wp_M_group_ok {I16 : Int64 → Int32 →  sg_S → Prop} {I56 : Int64 → Int32 →  sg_S → Prop} {Ψ : sg_S → Prop} {s : sg_S} (k16 : ∀ (l1 : Int64) (l3 : Int32) (s : sg_S), I16 l1 l3 s → wp_M_group_16 I16 I56 Ψ  l1 l3 s) (k56 : ∀ (l1 : Int64) (l3 : Int32) (s : sg_S), I56 l1 l3 s → wp_M_group_56 I16 I56 Ψ  l1 l3 s) (h : wp_M_group I16 I56 Ψ  s) : am_SpV 161 [.ref 64] s Ψ := by
  refine am_SpV.mk (r := am_r161) rfl rfl (fun call d al n hcl => ?_)
  have key : ∀ n, (∀ (l1 : Int64) (l3 : Int32) (s : sg_S), I16 l1 l3 s → am_Pn call d (0, fun _ => 0) al am_r161 (am_PhV am_r161 Ψ) n (16, [some (.ref 64), some (.long l1), none, some (.int l3)], [], sg_h s, 0, 0)) ∧ (∀ (l1 : Int64) (l3 : Int32) (s : sg_S), I56 l1 l3 s → am_Pn call d (0, fun _ => 0) al am_r161 (am_PhV am_r161 Ψ) n (56, [some (.ref 64), some (.long l1), none, some (.int l3)], [], sg_h s, 0, 0)) := by
    intro n
    induction n with
    | zero => exact ⟨fun _ _ _ _ => am_Pn.zero, fun _ _ _ _ => am_Pn.zero⟩
    | succ n ih =>
      refine ⟨?_, ?_⟩
      · intro l1 l3 s h
        replace h := k16 l1 l3 s h
        unfold wp_M_group_16 at h
        refine am_Pn.bl1 0 (y := (17, [some (.ref 64), some (.long l1), none, some (.int l3)], [.ref 64], sg_h s, 0, 0)) rfl ?_
        refine am_Pn.gi (k := 6) rfl rfl am_o64 rfl rfl ?_
        refine am_Pn.zF h (am_bne rfl rfl) rfl rfl (fun h => ?_) (fun h => ?_)
        · exact (ih.2) l1 l3 s h
        · refine am_Pn.bl 1 (y := (24, [some (.ref 64), some (.long l1), none, some (.int l3)], [.ref 64], sg_h s, 0, 0)) rfl ?_
          refine am_Pn.gi (k := 5) rfl rfl am_o64 rfl rfl ?_
          refine am_Pn.bl 1 (y := (28, [some (.ref 64), some (.long l1), none, some (.int l3)], [.int (Int32.ofInt (3)), .int (s.1 64 5)], sg_h s, 0, 0)) rfl ?_
          refine am_Pn.bF h (am_bne rfl rfl) rfl rfl (fun h => ?_) (fun h => ?_)
          · exact (ih.2) l1 l3 s h
          · refine am_Pn.bl 1 (y := (32, [some (.ref 64), some (.long l1), none, some (.int l3)], [.ref 64], sg_h s, 0, 0)) rfl ?_
            refine am_Pn.gl (k := 8) rfl rfl am_o64 rfl rfl ?_
            refine am_Pn.bl 2 (y := (39, [some (.ref 64), some (.long l1), none, some (.int l3)], [.int (lg_cmp (s.2.1 64 8) (Int64.ofInt (44)))], sg_h s, 0, 0)) rfl ?_
            refine am_Pn.zF h (am_lne) rfl rfl (fun h => ?_) (fun h => ?_)
            · exact (ih.2) l1 l3 s h
            · refine am_Pn.bl 1 (y := (43, [some (.ref 64), some (.long l1), none, some (.int l3)], [.ref 64], sg_h s, 0, 0)) rfl ?_
              refine am_Pn.cvV hcl h rfl rfl rfl rfl rfl (fun s4 h => ?_)
              refine am_Pn.bl 2 (y := (48, [some (.ref 64), some (.long l1), none, some (.int l3)], [.ref 64, .int l3], sg_h s4, 0, 0)) rfl ?_
              refine am_Pn.cvI hcl h rfl rfl rfl rfl rfl (fun x5 s5 h => ?_)
              refine am_Pn.bl 3 (y := (16, [some (.ref 64), some (.long l1), none, some (.int (l3 ||| x5))], [], sg_h s5, 0, 0)) rfl ?_
              exact (ih.1) l1 (l3 ||| x5) s5 h
      · intro l1 l3 s h
        replace h := k56 l1 l3 s h
        unfold wp_M_group_56 at h
        refine am_Pn.bl1 0 (y := (57, [some (.ref 64), some (.long l1), none, some (.int l3)], [.ref 64], sg_h s, 0, 0)) rfl ?_
        refine am_Pn.gi (k := 6) rfl rfl am_o64 rfl rfl ?_
        refine am_Pn.zF h (am_ble rfl rfl) rfl rfl (fun h => ?_) (fun h => ?_)
        · refine am_Pn.bl 3 (y := (67, [some (.ref 64), some (.long l1), none, some (.int l3)], [.int l3, .long l1, .ref 64], sg_h s, 0, 0)) rfl ?_
          refine am_Pn.cvV hcl h rfl rfl rfl rfl rfl (fun s6 h => ?_)
          refine am_Pn.bl 2 (y := (72, [some (.ref 64), some (.long l1), none, some (.int l3)], [.ref 64, .ref 64], sg_h s6, 0, 0)) rfl ?_
          refine am_Pn.gi (k := 10) rfl rfl am_o64 rfl rfl ?_
          refine am_Pn.bl 2 (y := (77, [some (.ref 64), some (.long l1), none, some (.int l3)], [.int ((s6.1 64 10) + (Int32.ofInt (1))), .ref 64], sg_h s6, 0, 0)) rfl ?_
          refine am_Pn.pi (k := 10) rfl rfl am_o64 rfl rfl ?_
          exact am_Pn.rV h rfl
        · exact am_Pn.rV h rfl
  unfold wp_M_group at h
  refine am_Pn.bl 1 (y := (1, [some (.ref 64), none, none, none], [.ref 64], sg_h s, 0, 0)) rfl ?_
  refine am_Pn.cvL hcl h rfl rfl rfl rfl rfl (fun x1 s1 h => ?_)
  refine am_Pn.bl 3 (y := (8, [some (.ref 64), some (.long x1), none, none], [.int (Int32.ofInt (61)), .ref 64], sg_h s1, 0, 0)) rfl ?_
  refine am_Pn.cvV hcl h rfl rfl rfl rfl rfl (fun s2 h => ?_)
  refine am_Pn.bl 1 (y := (12, [some (.ref 64), some (.long x1), none, none], [.ref 64], sg_h s2, 0, 0)) rfl ?_
  refine am_Pn.cvI hcl h rfl rfl rfl rfl rfl (fun x3 s3 h => ?_)
  refine am_Pn.bl 1 (y := (16, [some (.ref 64), some (.long x1), none, some (.int x3)], [], sg_h s3, 0, 0)) rfl ?_
  exact ((key n).1) x1 x3 s3 h
def wp_M_rule_16 (I16 :  sg_S → Prop) (I98 : Int32 →  sg_S → Prop) (I153 : Int32 → Int32 → Int32 →  sg_S → Prop) (Ψ : sg_S → Prop) (x1 : Int32) (s : sg_S) : Prop := (am_SpI 164 [.ref 64, .int (Int32.ofInt (1)), .int (Int32.ofInt (48))] s (fun x7 s7 => (am_SpV 162 [.ref 64, .int (Int32.ofInt (45))] s7 (fun s8 => (am_SpI 164 [.ref 64, .int x7, .int (Int32.ofInt (48))] s8 (fun x9 s9 => (am_SpI 163 [.ref 64] s9 (fun x10 s10 => (I153 x7 x9 x10 s10)))))))))
def wp_M_rule_98 (I16 :  sg_S → Prop) (I98 : Int32 →  sg_S → Prop) (I153 : Int32 → Int32 → Int32 →  sg_S → Prop) (Ψ : sg_S → Prop) (x1 : Int32) (l3 : Int32) (s : sg_S) : Prop := (am_SpI 163 [.ref 64] s (fun x11 s11 => ((x1.toInt = (3) → (am_SpI 164 [.ref 64, .int (Int32.ofInt (1)), .int (Int32.ofInt (9))] s11 (fun x14 s14 => (I153 x14 l3 x11 s14)))) ∧ (¬ x1.toInt = (3) → ((x1.toInt = (4) → (am_SpI 164 [.ref 64, .int (Int32.ofInt (0)), .int (Int32.ofInt (48))] s11 (fun x13 s13 => (I153 x13 l3 x11 s13)))) ∧ (¬ x1.toInt = (4) → (am_SpI 164 [.ref 64, .int (Int32.ofInt (1)), .int (Int32.ofInt (48))] s11 (fun x12 s12 => (I153 x12 l3 x11 s12)))))))))
def wp_M_rule_153 (I16 :  sg_S → Prop) (I98 : Int32 →  sg_S → Prop) (I153 : Int32 → Int32 → Int32 →  sg_S → Prop) (Ψ : sg_S → Prop) (x1 : Int32) (l2 : Int32) (l3 : Int32) (l4 : Int32) (s : sg_S) : Prop := (0 ≤ (s.1 64 11).toInt → (s.1 64 11).toInt < (12) → (Ψ (sg_uI (sg_uA (sg_uA (sg_uA (sg_uA s 68 ((s.1 64 11).toInt.toNat) x1) 69 ((s.1 64 11).toInt.toNat) l4) 70 ((s.1 64 11).toInt.toNat) l2) 71 ((s.1 64 11).toInt.toNat) l3) 64 11 ((s.1 64 11) + (Int32.ofInt (1))))))
def wp_M_rule (I16 :  sg_S → Prop) (I98 : Int32 →  sg_S → Prop) (I153 : Int32 → Int32 → Int32 →  sg_S → Prop) (Ψ : sg_S → Prop) (x1 : Int32) (s : sg_S) : Prop := ((x1.toInt = (0) → (I16 s)) ∧ (¬ x1.toInt = (0) → ((x1.toInt = (1) → (I16 s)) ∧ (¬ x1.toInt = (1) → ((x1.toInt = (2) → (am_SpI 163 [.ref 64] s (fun x3 s3 => (am_SpI 164 [.ref 64, .int (Int32.ofInt (1)), .int (Int32.ofInt (9))] s3 (fun x4 s4 => (am_SpV 162 [.ref 64, .int (Int32.ofInt (45))] s4 (fun s5 => (am_SpI 164 [.ref 64, .int x4, .int (Int32.ofInt (9))] s5 (fun x6 s6 => (I153 x4 x6 x3 s6)))))))))) ∧ (¬ x1.toInt = (2) → ((x1.toInt = (3) → (I98 (Int32.ofInt (0)) s)) ∧ (¬ x1.toInt = (3) → ((x1.toInt = (4) → (I98 (Int32.ofInt (0)) s)) ∧ (¬ x1.toInt = (4) → ((x1.toInt = (5) → (I98 (Int32.ofInt (0)) s)) ∧ (¬ x1.toInt = (5) → ((x1.toInt = (6) → (am_SpI 164 [.ref 64, .int (Int32.ofInt (1)), .int (Int32.ofInt (9))] s (fun x2 s2 => (I153 x2 (Int32.ofInt (0)) (Int32.ofInt (0)) s2)))) ∧ (¬ x1.toInt = (6) → (I153 (Int32.ofInt (0)) (Int32.ofInt (0)) (Int32.ofInt (0)) s)))))))))))))))
set_option maxRecDepth 100000 in
theorem wp_M_rule_ok {I16 :  sg_S → Prop} {I98 : Int32 →  sg_S → Prop} {I153 : Int32 → Int32 → Int32 →  sg_S → Prop} {Ψ : sg_S → Prop} {x1 : Int32} {s : sg_S} (k16 : ∀ (s : sg_S), I16  s → wp_M_rule_16 I16 I98 I153 Ψ x1  s) (k98 : ∀ (l3 : Int32) (s : sg_S), I98 l3 s → wp_M_rule_98 I16 I98 I153 Ψ x1 l3 s) (k153 : ∀ (l2 : Int32) (l3 : Int32) (l4 : Int32) (s : sg_S), I153 l2 l3 l4 s → wp_M_rule_153 I16 I98 I153 Ψ x1 l2 l3 l4 s) (h : wp_M_rule I16 I98 I153 Ψ x1 s) : am_SpV 165 [.ref 64, .int x1] s Ψ := by
  refine am_SpV.mk (r := am_r165) rfl rfl (fun call d al n hcl => ?_)
  have key : ∀ n, (∀ (o2 : Option Value) (o3 : Option Value) (o4 : Option Value) (s : sg_S), I16  s → am_Pn call d (0, fun _ => 0) al am_r165 (am_PhV am_r165 Ψ) n (16, [some (.ref 64), some (.int x1), o2, o3, o4], [], sg_h s, 0, 0)) ∧ (∀ (o2 : Option Value) (o4 : Option Value) (l3 : Int32) (s : sg_S), I98 l3 s → am_Pn call d (0, fun _ => 0) al am_r165 (am_PhV am_r165 Ψ) n (98, [some (.ref 64), some (.int x1), o2, some (.int l3), o4], [], sg_h s, 0, 0)) ∧ (∀ (l2 : Int32) (l3 : Int32) (l4 : Int32) (s : sg_S), I153 l2 l3 l4 s → am_Pn call d (0, fun _ => 0) al am_r165 (am_PhV am_r165 Ψ) n (153, [some (.ref 64), some (.int x1), some (.int l2), some (.int l3), some (.int l4)], [], sg_h s, 0, 0)) := by
    intro n
    induction n with
    | zero => exact ⟨fun _ _ _ _ _ => am_Pn.zero, fun _ _ _ _ _ => am_Pn.zero, fun _ _ _ _ _ => am_Pn.zero⟩
    | succ n ih =>
      refine ⟨?_, ?_, ?_⟩
      · intro o2 o3 o4 s h
        replace h := k16  s h
        unfold wp_M_rule_16 at h
        refine am_Pn.bl1 2 (y := (20, [some (.ref 64), some (.int x1), o2, o3, o4], [.int (Int32.ofInt (48)), .int (Int32.ofInt (1)), .ref 64], sg_h s, 0, 0)) rfl ?_
        refine am_Pn.cvI hcl h rfl rfl rfl rfl rfl (fun x7 s7 h => ?_)
        refine am_Pn.bl 3 (y := (27, [some (.ref 64), some (.int x1), some (.int x7), o3, o4], [.int (Int32.ofInt (45)), .ref 64], sg_h s7, 0, 0)) rfl ?_
        refine am_Pn.cvV hcl h rfl rfl rfl rfl rfl (fun s8 h => ?_)
        refine am_Pn.bl 3 (y := (34, [some (.ref 64), some (.int x1), some (.int x7), o3, o4], [.int (Int32.ofInt (48)), .int x7, .ref 64], sg_h s8, 0, 0)) rfl ?_
        refine am_Pn.cvI hcl h rfl rfl rfl rfl rfl (fun x9 s9 h => ?_)
        refine am_Pn.bl 2 (y := (39, [some (.ref 64), some (.int x1), some (.int x7), some (.int x9), o4], [.ref 64], sg_h s9, 0, 0)) rfl ?_
        refine am_Pn.cvI hcl h rfl rfl rfl rfl rfl (fun x10 s10 h => ?_)
        refine am_Pn.bl 2 (y := (153, [some (.ref 64), some (.int x1), some (.int x7), some (.int x9), some (.int x10)], [], sg_h s10, 0, 0)) rfl ?_
        exact (ih.2.2) x7 x9 x10 s10 h
      · intro o2 o4 l3 s h
        replace h := k98 l3 s h
        unfold wp_M_rule_98 at h
        refine am_Pn.bl1 0 (y := (99, [some (.ref 64), some (.int x1), o2, some (.int l3), o4], [.ref 64], sg_h s, 0, 0)) rfl ?_
        refine am_Pn.cvI hcl h rfl rfl rfl rfl rfl (fun x11 s11 h => ?_)
        refine am_Pn.bl 3 (y := (106, [some (.ref 64), some (.int x1), o2, some (.int l3), some (.int x11)], [.int (Int32.ofInt (3)), .int x1], sg_h s11, 0, 0)) rfl ?_
        refine am_Pn.bF h (am_bne rfl rfl) rfl rfl (fun h => ?_) (fun h => ?_)
        · refine am_Pn.bl 3 (y := (122, [some (.ref 64), some (.int x1), o2, some (.int l3), some (.int x11)], [.int (Int32.ofInt (4)), .int x1, .ref 64], sg_h s11, 0, 0)) rfl ?_
          refine am_Pn.bF h (am_bne rfl rfl) rfl rfl (fun h => ?_) (fun h => ?_)
          · refine am_Pn.bl 2 (y := (132, [some (.ref 64), some (.int x1), o2, some (.int l3), some (.int x11)], [.int (Int32.ofInt (48)), .int (Int32.ofInt (1)), .ref 64], sg_h s11, 0, 0)) rfl ?_
            refine am_Pn.cvI hcl h rfl rfl rfl rfl rfl (fun x12 s12 h => ?_)
            refine am_Pn.bl 2 (y := (153, [some (.ref 64), some (.int x1), some (.int x12), some (.int l3), some (.int x11)], [], sg_h s12, 0, 0)) rfl ?_
            exact (ih.2.2) x12 l3 x11 s12 h
          · refine am_Pn.bl 3 (y := (132, [some (.ref 64), some (.int x1), o2, some (.int l3), some (.int x11)], [.int (Int32.ofInt (48)), .int (Int32.ofInt (0)), .ref 64], sg_h s11, 0, 0)) rfl ?_
            refine am_Pn.cvI hcl h rfl rfl rfl rfl rfl (fun x13 s13 h => ?_)
            refine am_Pn.bl 2 (y := (153, [some (.ref 64), some (.int x1), some (.int x13), some (.int l3), some (.int x11)], [], sg_h s13, 0, 0)) rfl ?_
            exact (ih.2.2) x13 l3 x11 s13 h
        · refine am_Pn.bl 3 (y := (113, [some (.ref 64), some (.int x1), o2, some (.int l3), some (.int x11)], [.int (Int32.ofInt (9)), .int (Int32.ofInt (1)), .ref 64], sg_h s11, 0, 0)) rfl ?_
          refine am_Pn.cvI hcl h rfl rfl rfl rfl rfl (fun x14 s14 h => ?_)
          refine am_Pn.bl 3 (y := (153, [some (.ref 64), some (.int x1), some (.int x14), some (.int l3), some (.int x11)], [], sg_h s14, 0, 0)) rfl ?_
          exact (ih.2.2) x14 l3 x11 s14 h
      · intro l2 l3 l4 s h
        replace h := k153 l2 l3 l4 s h
        unfold wp_M_rule_153 at h
        refine am_Pn.bl1 0 (y := (154, [some (.ref 64), some (.int x1), some (.int l2), some (.int l3), some (.int l4)], [.ref 64], sg_h s, 0, 0)) rfl ?_
        refine am_Pn.gr (k := 17) rfl rfl am_o64 rfl rfl ?_
        refine am_Pn.bl 1 (y := (158, [some (.ref 64), some (.int x1), some (.int l2), some (.int l3), some (.int l4)], [.ref 64, .ref 68], sg_h s, 0, 0)) rfl ?_
        refine am_Pn.gi (k := 11) rfl rfl am_o64 rfl rfl ?_
        refine am_Pn.bl 1 (y := (162, [some (.ref 64), some (.int x1), some (.int l2), some (.int l3), some (.int l4)], [.int x1, .int (s.1 64 11), .ref 68], sg_h s, 0, 0)) rfl ?_
        refine am_Pn.is (a := 68) rfl rfl rfl (fun hi => ?_)
        replace h := h (am_in0 hi) (am_in1 hi)
        refine am_Pn.bl 1 (y := (164, [some (.ref 64), some (.int x1), some (.int l2), some (.int l3), some (.int l4)], [.ref 64], sg_h (sg_uA s 68 ((s.1 64 11).toInt.toNat) x1), 0, 0)) rfl ?_
        refine am_Pn.gr (k := 18) rfl rfl am_o64 rfl rfl ?_
        refine am_Pn.bl 1 (y := (168, [some (.ref 64), some (.int x1), some (.int l2), some (.int l3), some (.int l4)], [.ref 64, .ref 69], sg_h (sg_uA s 68 ((s.1 64 11).toInt.toNat) x1), 0, 0)) rfl ?_
        refine am_Pn.gi (k := 11) rfl rfl am_o64 rfl rfl ?_
        refine am_Pn.bl 1 (y := (173, [some (.ref 64), some (.int x1), some (.int l2), some (.int l3), some (.int l4)], [.int l4, .int (s.1 64 11), .ref 69], sg_h (sg_uA s 68 ((s.1 64 11).toInt.toNat) x1), 0, 0)) rfl ?_
        refine am_Pn.is (a := 69) rfl rfl rfl (fun hi => ?_)
        refine am_Pn.bl 1 (y := (175, [some (.ref 64), some (.int x1), some (.int l2), some (.int l3), some (.int l4)], [.ref 64], sg_h (sg_uA (sg_uA s 68 ((s.1 64 11).toInt.toNat) x1) 69 ((s.1 64 11).toInt.toNat) l4), 0, 0)) rfl ?_
        refine am_Pn.gr (k := 19) rfl rfl am_o64 rfl rfl ?_
        refine am_Pn.bl 1 (y := (179, [some (.ref 64), some (.int x1), some (.int l2), some (.int l3), some (.int l4)], [.ref 64, .ref 70], sg_h (sg_uA (sg_uA s 68 ((s.1 64 11).toInt.toNat) x1) 69 ((s.1 64 11).toInt.toNat) l4), 0, 0)) rfl ?_
        refine am_Pn.gi (k := 11) rfl rfl am_o64 rfl rfl ?_
        refine am_Pn.bl 1 (y := (183, [some (.ref 64), some (.int x1), some (.int l2), some (.int l3), some (.int l4)], [.int l2, .int (s.1 64 11), .ref 70], sg_h (sg_uA (sg_uA s 68 ((s.1 64 11).toInt.toNat) x1) 69 ((s.1 64 11).toInt.toNat) l4), 0, 0)) rfl ?_
        refine am_Pn.is (a := 70) rfl rfl rfl (fun hi => ?_)
        refine am_Pn.bl 1 (y := (185, [some (.ref 64), some (.int x1), some (.int l2), some (.int l3), some (.int l4)], [.ref 64], sg_h (sg_uA (sg_uA (sg_uA s 68 ((s.1 64 11).toInt.toNat) x1) 69 ((s.1 64 11).toInt.toNat) l4) 70 ((s.1 64 11).toInt.toNat) l2), 0, 0)) rfl ?_
        refine am_Pn.gr (k := 20) rfl rfl am_o64 rfl rfl ?_
        refine am_Pn.bl 1 (y := (189, [some (.ref 64), some (.int x1), some (.int l2), some (.int l3), some (.int l4)], [.ref 64, .ref 71], sg_h (sg_uA (sg_uA (sg_uA s 68 ((s.1 64 11).toInt.toNat) x1) 69 ((s.1 64 11).toInt.toNat) l4) 70 ((s.1 64 11).toInt.toNat) l2), 0, 0)) rfl ?_
        refine am_Pn.gi (k := 11) rfl rfl am_o64 rfl rfl ?_
        refine am_Pn.bl 1 (y := (193, [some (.ref 64), some (.int x1), some (.int l2), some (.int l3), some (.int l4)], [.int l3, .int (s.1 64 11), .ref 71], sg_h (sg_uA (sg_uA (sg_uA s 68 ((s.1 64 11).toInt.toNat) x1) 69 ((s.1 64 11).toInt.toNat) l4) 70 ((s.1 64 11).toInt.toNat) l2), 0, 0)) rfl ?_
        refine am_Pn.is (a := 71) rfl rfl rfl (fun hi => ?_)
        refine am_Pn.bl 2 (y := (196, [some (.ref 64), some (.int x1), some (.int l2), some (.int l3), some (.int l4)], [.ref 64, .ref 64], sg_h (sg_uA (sg_uA (sg_uA (sg_uA s 68 ((s.1 64 11).toInt.toNat) x1) 69 ((s.1 64 11).toInt.toNat) l4) 70 ((s.1 64 11).toInt.toNat) l2) 71 ((s.1 64 11).toInt.toNat) l3), 0, 0)) rfl ?_
        refine am_Pn.gi (k := 11) rfl rfl am_o64 rfl rfl ?_
        refine am_Pn.bl 2 (y := (201, [some (.ref 64), some (.int x1), some (.int l2), some (.int l3), some (.int l4)], [.int ((s.1 64 11) + (Int32.ofInt (1))), .ref 64], sg_h (sg_uA (sg_uA (sg_uA (sg_uA s 68 ((s.1 64 11).toInt.toNat) x1) 69 ((s.1 64 11).toInt.toNat) l4) 70 ((s.1 64 11).toInt.toNat) l2) 71 ((s.1 64 11).toInt.toNat) l3), 0, 0)) rfl ?_
        refine am_Pn.pi (k := 11) rfl rfl am_o64 rfl rfl ?_
        exact am_Pn.rV h rfl
  unfold wp_M_rule at h
  refine am_Pn.bl 7 (y := (8, [some (.ref 64), some (.int x1), some (.int (Int32.ofInt (0))), some (.int (Int32.ofInt (0))), some (.int (Int32.ofInt (0)))], [.int x1], sg_h s, 0, 0)) rfl ?_
  refine am_Pn.zT h (am_beq rfl rfl) rfl rfl (fun h => ?_) (fun h => ?_)
  · exact ((key n).1) (some (.int (Int32.ofInt (0)))) (some (.int (Int32.ofInt (0)))) (some (.int (Int32.ofInt (0)))) s h
  · refine am_Pn.bl 2 (y := (13, [some (.ref 64), some (.int x1), some (.int (Int32.ofInt (0))), some (.int (Int32.ofInt (0))), some (.int (Int32.ofInt (0)))], [.int (Int32.ofInt (1)), .int x1], sg_h s, 0, 0)) rfl ?_
    refine am_Pn.bF h (am_bne rfl rfl) rfl rfl (fun h => ?_) (fun h => ?_)
    · refine am_Pn.bl 2 (y := (49, [some (.ref 64), some (.int x1), some (.int (Int32.ofInt (0))), some (.int (Int32.ofInt (0))), some (.int (Int32.ofInt (0)))], [.int (Int32.ofInt (2)), .int x1], sg_h s, 0, 0)) rfl ?_
      refine am_Pn.bF h (am_bne rfl rfl) rfl rfl (fun h => ?_) (fun h => ?_)
      · refine am_Pn.bl 2 (y := (85, [some (.ref 64), some (.int x1), some (.int (Int32.ofInt (0))), some (.int (Int32.ofInt (0))), some (.int (Int32.ofInt (0)))], [.int (Int32.ofInt (3)), .int x1], sg_h s, 0, 0)) rfl ?_
        refine am_Pn.bT h (am_beq rfl rfl) rfl rfl (fun h => ?_) (fun h => ?_)
        · exact ((key n).2.1) (some (.int (Int32.ofInt (0)))) (some (.int (Int32.ofInt (0)))) (Int32.ofInt (0)) s h
        · refine am_Pn.bl 2 (y := (90, [some (.ref 64), some (.int x1), some (.int (Int32.ofInt (0))), some (.int (Int32.ofInt (0))), some (.int (Int32.ofInt (0)))], [.int (Int32.ofInt (4)), .int x1], sg_h s, 0, 0)) rfl ?_
          refine am_Pn.bT h (am_beq rfl rfl) rfl rfl (fun h => ?_) (fun h => ?_)
          · exact ((key n).2.1) (some (.int (Int32.ofInt (0)))) (some (.int (Int32.ofInt (0)))) (Int32.ofInt (0)) s h
          · refine am_Pn.bl 2 (y := (95, [some (.ref 64), some (.int x1), some (.int (Int32.ofInt (0))), some (.int (Int32.ofInt (0))), some (.int (Int32.ofInt (0)))], [.int (Int32.ofInt (5)), .int x1], sg_h s, 0, 0)) rfl ?_
            refine am_Pn.bF h (am_bne rfl rfl) rfl rfl (fun h => ?_) (fun h => ?_)
            · refine am_Pn.bl 2 (y := (142, [some (.ref 64), some (.int x1), some (.int (Int32.ofInt (0))), some (.int (Int32.ofInt (0))), some (.int (Int32.ofInt (0)))], [.int (Int32.ofInt (6)), .int x1], sg_h s, 0, 0)) rfl ?_
              refine am_Pn.bF h (am_bne rfl rfl) rfl rfl (fun h => ?_) (fun h => ?_)
              · exact ((key n).2.2) (Int32.ofInt (0)) (Int32.ofInt (0)) (Int32.ofInt (0)) s h
              · refine am_Pn.bl 3 (y := (149, [some (.ref 64), some (.int x1), some (.int (Int32.ofInt (0))), some (.int (Int32.ofInt (0))), some (.int (Int32.ofInt (0)))], [.int (Int32.ofInt (9)), .int (Int32.ofInt (1)), .ref 64], sg_h s, 0, 0)) rfl ?_
                refine am_Pn.cvI hcl h rfl rfl rfl rfl rfl (fun x2 s2 h => ?_)
                refine am_Pn.bl 1 (y := (153, [some (.ref 64), some (.int x1), some (.int x2), some (.int (Int32.ofInt (0))), some (.int (Int32.ofInt (0)))], [], sg_h s2, 0, 0)) rfl ?_
                exact ((key n).2.2) x2 (Int32.ofInt (0)) (Int32.ofInt (0)) s2 h
            · exact ((key n).2.1) (some (.int (Int32.ofInt (0)))) (some (.int (Int32.ofInt (0)))) (Int32.ofInt (0)) s h
      · refine am_Pn.bl 1 (y := (53, [some (.ref 64), some (.int x1), some (.int (Int32.ofInt (0))), some (.int (Int32.ofInt (0))), some (.int (Int32.ofInt (0)))], [.ref 64], sg_h s, 0, 0)) rfl ?_
        refine am_Pn.cvI hcl h rfl rfl rfl rfl rfl (fun x3 s3 h => ?_)
        refine am_Pn.bl 4 (y := (62, [some (.ref 64), some (.int x1), some (.int (Int32.ofInt (0))), some (.int (Int32.ofInt (0))), some (.int x3)], [.int (Int32.ofInt (9)), .int (Int32.ofInt (1)), .ref 64], sg_h s3, 0, 0)) rfl ?_
        refine am_Pn.cvI hcl h rfl rfl rfl rfl rfl (fun x4 s4 h => ?_)
        refine am_Pn.bl 3 (y := (69, [some (.ref 64), some (.int x1), some (.int x4), some (.int (Int32.ofInt (0))), some (.int x3)], [.int (Int32.ofInt (45)), .ref 64], sg_h s4, 0, 0)) rfl ?_
        refine am_Pn.cvV hcl h rfl rfl rfl rfl rfl (fun s5 h => ?_)
        refine am_Pn.bl 3 (y := (76, [some (.ref 64), some (.int x1), some (.int x4), some (.int (Int32.ofInt (0))), some (.int x3)], [.int (Int32.ofInt (9)), .int x4, .ref 64], sg_h s5, 0, 0)) rfl ?_
        refine am_Pn.cvI hcl h rfl rfl rfl rfl rfl (fun x6 s6 h => ?_)
        refine am_Pn.bl 2 (y := (153, [some (.ref 64), some (.int x1), some (.int x4), some (.int x6), some (.int x3)], [], sg_h s6, 0, 0)) rfl ?_
        exact ((key n).2.2) x4 x6 x3 s6 h
    · exact ((key n).1) (some (.int (Int32.ofInt (0)))) (some (.int (Int32.ofInt (0)))) (some (.int (Int32.ofInt (0)))) s h
def wp_M_telling_71 (I71 : Int32 →  sg_S → Prop) (I63 :  sg_S → Prop) (Ψ : sg_S → Prop) (l1 : Int32) (s : sg_S) : Prop := (am_SpV 152 [.ref 64] s (fun s3 => ((l1.toInt = (9) → (am_SpL 158 [.ref 64] s3 (fun x8 s8 => (((0) < (s8.1 64 6).toInt → (Ψ s8)) ∧ (¬ (0) < (s8.1 64 6).toInt → (am_SpV 160 [.ref 64, .long x8, .int ((Int32.ofInt (1)) <<< ((s8.1 64 9) &&& 31))] s8 (fun s9 => (Ψ (sg_uI s9 64 9 ((s9.1 64 9) + (Int32.ofInt (1)))))))))))) ∧ (¬ l1.toInt = (9) → ((l1.toInt = (10) → (am_SpV 161 [.ref 64] s3 (fun s7 => (Ψ s7)))) ∧ (¬ l1.toInt = (10) → ((l1.toInt = (11) → (am_SpI 164 [.ref 64, .int (Int32.ofInt (1)), .int (Int32.ofInt (48))] s3 (fun x6 s6 => (Ψ (sg_uI s6 64 12 x6))))) ∧ (¬ l1.toInt = (11) → ((l1.toInt = (12) → (am_SpI 164 [.ref 64, .int (Int32.ofInt (1)), .int (Int32.ofInt (99))] s3 (fun x5 s5 => (Ψ (sg_uI s5 64 13 x5))))) ∧ (¬ l1.toInt = (12) → (am_SpV 165 [.ref 64, .int l1] s3 (fun s4 => (Ψ s4)))))))))))))
def wp_M_telling_63 (I71 : Int32 →  sg_S → Prop) (I63 :  sg_S → Prop) (Ψ : sg_S → Prop) (s : sg_S) : Prop := (am_SpV 157 [.ref 64, .int (Int32.ofInt (2))] s (fun s10 => (Ψ s10)))
def wp_M_telling (I71 : Int32 →  sg_S → Prop) (I63 :  sg_S → Prop) (Ψ : sg_S → Prop) (s : sg_S) : Prop := (am_SpI 156 [.ref 64] s (fun x1 s1 => ((x1.toInt = (-1) → (am_SpV 157 [.ref 64, .int (Int32.ofInt (1))] s1 (fun s2 => (Ψ s2)))) ∧ (¬ x1.toInt = (-1) → ((x1.toInt = (9) → (((s1.1 64 9).toInt = (8) → (I63 s1)) ∧ (¬ (s1.1 64 9).toInt = (8) → ((x1.toInt = (10) → (((s1.1 64 10).toInt = (8) → (I63 s1)) ∧ (¬ (s1.1 64 10).toInt = (8) → ((x1.toInt < (9) → (((s1.1 64 11).toInt = (12) → (I63 s1)) ∧ (¬ (s1.1 64 11).toInt = (12) → (I71 x1 s1)))) ∧ (¬ x1.toInt < (9) → (I71 x1 s1)))))) ∧ (¬ x1.toInt = (10) → ((x1.toInt < (9) → (((s1.1 64 11).toInt = (12) → (I63 s1)) ∧ (¬ (s1.1 64 11).toInt = (12) → (I71 x1 s1)))) ∧ (¬ x1.toInt < (9) → (I71 x1 s1)))))))) ∧ (¬ x1.toInt = (9) → ((x1.toInt = (10) → (((s1.1 64 10).toInt = (8) → (I63 s1)) ∧ (¬ (s1.1 64 10).toInt = (8) → ((x1.toInt < (9) → (((s1.1 64 11).toInt = (12) → (I63 s1)) ∧ (¬ (s1.1 64 11).toInt = (12) → (I71 x1 s1)))) ∧ (¬ x1.toInt < (9) → (I71 x1 s1)))))) ∧ (¬ x1.toInt = (10) → ((x1.toInt < (9) → (((s1.1 64 11).toInt = (12) → (I63 s1)) ∧ (¬ (s1.1 64 11).toInt = (12) → (I71 x1 s1)))) ∧ (¬ x1.toInt < (9) → (I71 x1 s1)))))))))))
set_option maxRecDepth 100000 in
theorem wp_M_telling_ok {I71 : Int32 →  sg_S → Prop} {I63 :  sg_S → Prop} {Ψ : sg_S → Prop} {s : sg_S} (k71 : ∀ (l1 : Int32) (s : sg_S), I71 l1 s → wp_M_telling_71 I71 I63 Ψ  l1 s) (k63 : ∀ (s : sg_S), I63  s → wp_M_telling_63 I71 I63 Ψ   s) (h : wp_M_telling I71 I63 Ψ  s) : am_SpV 155 [.ref 64] s Ψ := by
  refine am_SpV.mk (r := am_r155) rfl rfl (fun call d al n hcl => ?_)
  have key : ∀ n, (∀ (o2 : Option Value) (o3 : Option Value) (l1 : Int32) (s : sg_S), I71 l1 s → am_Pn call d (0, fun _ => 0) al am_r155 (am_PhV am_r155 Ψ) n (71, [some (.ref 64), some (.int l1), o2, o3], [], sg_h s, 0, 0)) ∧ (∀ (o1 : Option Value) (o2 : Option Value) (o3 : Option Value) (s : sg_S), I63  s → am_Pn call d (0, fun _ => 0) al am_r155 (am_PhV am_r155 Ψ) n (63, [some (.ref 64), o1, o2, o3], [], sg_h s, 0, 0)) := by
    intro n
    induction n with
    | zero => exact ⟨fun _ _ _ _ _ => am_Pn.zero, fun _ _ _ _ _ => am_Pn.zero⟩
    | succ n ih =>
      refine ⟨?_, ?_⟩
      · intro o2 o3 l1 s h
        replace h := k71 l1 s h
        unfold wp_M_telling_71 at h
        refine am_Pn.bl1 0 (y := (72, [some (.ref 64), some (.int l1), o2, o3], [.ref 64], sg_h s, 0, 0)) rfl ?_
        refine am_Pn.cvV hcl h rfl rfl rfl rfl rfl (fun s3 h => ?_)
        refine am_Pn.bl 2 (y := (78, [some (.ref 64), some (.int l1), o2, o3], [.int (Int32.ofInt (9)), .int l1], sg_h s3, 0, 0)) rfl ?_
        refine am_Pn.bF h (am_bne rfl rfl) rfl rfl (fun h => ?_) (fun h => ?_)
        · refine am_Pn.bl 2 (y := (121, [some (.ref 64), some (.int l1), o2, o3], [.int (Int32.ofInt (10)), .int l1], sg_h s3, 0, 0)) rfl ?_
          refine am_Pn.bF h (am_bne rfl rfl) rfl rfl (fun h => ?_) (fun h => ?_)
          · refine am_Pn.bl 2 (y := (134, [some (.ref 64), some (.int l1), o2, o3], [.int (Int32.ofInt (11)), .int l1], sg_h s3, 0, 0)) rfl ?_
            refine am_Pn.bF h (am_bne rfl rfl) rfl rfl (fun h => ?_) (fun h => ?_)
            · refine am_Pn.bl 2 (y := (154, [some (.ref 64), some (.int l1), o2, o3], [.int (Int32.ofInt (12)), .int l1], sg_h s3, 0, 0)) rfl ?_
              refine am_Pn.bF h (am_bne rfl rfl) rfl rfl (fun h => ?_) (fun h => ?_)
              · refine am_Pn.bl 2 (y := (173, [some (.ref 64), some (.int l1), o2, o3], [.int l1, .ref 64], sg_h s3, 0, 0)) rfl ?_
                refine am_Pn.cvV hcl h rfl rfl rfl rfl rfl (fun s4 h => ?_)
                exact am_Pn.rV h rfl
              · refine am_Pn.bl 4 (y := (162, [some (.ref 64), some (.int l1), o2, o3], [.int (Int32.ofInt (99)), .int (Int32.ofInt (1)), .ref 64, .ref 64], sg_h s3, 0, 0)) rfl ?_
                refine am_Pn.cvI hcl h rfl rfl rfl rfl rfl (fun x5 s5 h => ?_)
                refine am_Pn.pi (k := 13) rfl rfl am_o64 rfl rfl ?_
                refine am_Pn.bl 1 (y := (176, [some (.ref 64), some (.int l1), o2, o3], [], sg_h (sg_uI s5 64 13 x5), 0, 0)) rfl ?_
                exact am_Pn.rV h rfl
            · refine am_Pn.bl 4 (y := (142, [some (.ref 64), some (.int l1), o2, o3], [.int (Int32.ofInt (48)), .int (Int32.ofInt (1)), .ref 64, .ref 64], sg_h s3, 0, 0)) rfl ?_
              refine am_Pn.cvI hcl h rfl rfl rfl rfl rfl (fun x6 s6 h => ?_)
              refine am_Pn.pi (k := 12) rfl rfl am_o64 rfl rfl ?_
              refine am_Pn.bl 1 (y := (176, [some (.ref 64), some (.int l1), o2, o3], [], sg_h (sg_uI s6 64 12 x6), 0, 0)) rfl ?_
              exact am_Pn.rV h rfl
          · refine am_Pn.bl 1 (y := (125, [some (.ref 64), some (.int l1), o2, o3], [.ref 64], sg_h s3, 0, 0)) rfl ?_
            refine am_Pn.cvV hcl h rfl rfl rfl rfl rfl (fun s7 h => ?_)
            refine am_Pn.bl 1 (y := (176, [some (.ref 64), some (.int l1), o2, o3], [], sg_h s7, 0, 0)) rfl ?_
            exact am_Pn.rV h rfl
        · refine am_Pn.bl 1 (y := (82, [some (.ref 64), some (.int l1), o2, o3], [.ref 64], sg_h s3, 0, 0)) rfl ?_
          refine am_Pn.cvL hcl h rfl rfl rfl rfl rfl (fun x8 s8 h => ?_)
          refine am_Pn.bl 2 (y := (87, [some (.ref 64), some (.int l1), some (.long x8), none], [.ref 64], sg_h s8, 0, 0)) rfl ?_
          refine am_Pn.gi (k := 6) rfl rfl am_o64 rfl rfl ?_
          refine am_Pn.zF h (am_ble rfl rfl) rfl rfl (fun h => ?_) (fun h => ?_)
          · refine am_Pn.bl 4 (y := (98, [some (.ref 64), some (.int l1), some (.long x8), none], [.ref 64, .int (Int32.ofInt (1)), .long x8, .ref 64], sg_h s8, 0, 0)) rfl ?_
            refine am_Pn.gi (k := 9) rfl rfl am_o64 rfl rfl ?_
            refine am_Pn.bl 1 (y := (102, [some (.ref 64), some (.int l1), some (.long x8), none], [.int ((Int32.ofInt (1)) <<< ((s8.1 64 9) &&& 31)), .long x8, .ref 64], sg_h s8, 0, 0)) rfl ?_
            refine am_Pn.cvV hcl h rfl rfl rfl rfl rfl (fun s9 h => ?_)
            refine am_Pn.bl 2 (y := (107, [some (.ref 64), some (.int l1), some (.long x8), none], [.ref 64, .ref 64], sg_h s9, 0, 0)) rfl ?_
            refine am_Pn.gi (k := 9) rfl rfl am_o64 rfl rfl ?_
            refine am_Pn.bl 2 (y := (112, [some (.ref 64), some (.int l1), some (.long x8), none], [.int ((s9.1 64 9) + (Int32.ofInt (1))), .ref 64], sg_h s9, 0, 0)) rfl ?_
            refine am_Pn.pi (k := 9) rfl rfl am_o64 rfl rfl ?_
            refine am_Pn.bl 1 (y := (176, [some (.ref 64), some (.int l1), some (.long x8), none], [], sg_h (sg_uI s9 64 9 ((s9.1 64 9) + (Int32.ofInt (1)))), 0, 0)) rfl ?_
            exact am_Pn.rV h rfl
          · exact am_Pn.rV h rfl
      · intro o1 o2 o3 s h
        replace h := k63  s h
        unfold wp_M_telling_63 at h
        refine am_Pn.bl1 1 (y := (65, [some (.ref 64), o1, o2, o3], [.int (Int32.ofInt (2)), .ref 64], sg_h s, 0, 0)) rfl ?_
        refine am_Pn.cvV hcl h rfl rfl rfl rfl rfl (fun s10 h => ?_)
        refine am_Pn.bl 1 (y := (176, [some (.ref 64), o1, o2, o3], [], sg_h s10, 0, 0)) rfl ?_
        exact am_Pn.rV h rfl
  unfold wp_M_telling at h
  refine am_Pn.bl 1 (y := (1, [some (.ref 64), none, none, none], [.ref 64], sg_h s, 0, 0)) rfl ?_
  refine am_Pn.cvI hcl h rfl rfl rfl rfl rfl (fun x1 s1 h => ?_)
  refine am_Pn.bl 3 (y := (7, [some (.ref 64), some (.int x1), none, none], [.int (Int32.ofInt (-1)), .int x1], sg_h s1, 0, 0)) rfl ?_
  refine am_Pn.bF h (am_bne rfl rfl) rfl rfl (fun h => ?_) (fun h => ?_)
  · refine am_Pn.bl 2 (y := (21, [some (.ref 64), some (.int x1), none, none], [.int (Int32.ofInt (9)), .int x1], sg_h s1, 0, 0)) rfl ?_
    refine am_Pn.bF h (am_bne rfl rfl) rfl rfl (fun h => ?_) (fun h => ?_)
    · refine am_Pn.bl 2 (y := (36, [some (.ref 64), some (.int x1), none, none], [.int (Int32.ofInt (10)), .int x1], sg_h s1, 0, 0)) rfl ?_
      refine am_Pn.bF h (am_bne rfl rfl) rfl rfl (fun h => ?_) (fun h => ?_)
      · refine am_Pn.bl 2 (y := (51, [some (.ref 64), some (.int x1), none, none], [.int (Int32.ofInt (9)), .int x1], sg_h s1, 0, 0)) rfl ?_
        refine am_Pn.bF h (am_bge rfl rfl) rfl rfl (fun h => ?_) (fun h => ?_)
        · exact ((key n).1) none none x1 s1 h
        · refine am_Pn.bl 1 (y := (55, [some (.ref 64), some (.int x1), none, none], [.ref 64], sg_h s1, 0, 0)) rfl ?_
          refine am_Pn.gi (k := 11) rfl rfl am_o64 rfl rfl ?_
          refine am_Pn.bl 1 (y := (60, [some (.ref 64), some (.int x1), none, none], [.int (Int32.ofInt (12)), .int (s1.1 64 11)], sg_h s1, 0, 0)) rfl ?_
          refine am_Pn.bF h (am_bne rfl rfl) rfl rfl (fun h => ?_) (fun h => ?_)
          · exact ((key n).1) none none x1 s1 h
          · exact ((key n).2) (some (.int x1)) none none s1 h
      · refine am_Pn.bl 1 (y := (40, [some (.ref 64), some (.int x1), none, none], [.ref 64], sg_h s1, 0, 0)) rfl ?_
        refine am_Pn.gi (k := 10) rfl rfl am_o64 rfl rfl ?_
        refine am_Pn.bl 1 (y := (45, [some (.ref 64), some (.int x1), none, none], [.int (Int32.ofInt (8)), .int (s1.1 64 10)], sg_h s1, 0, 0)) rfl ?_
        refine am_Pn.bT h (am_beq rfl rfl) rfl rfl (fun h => ?_) (fun h => ?_)
        · exact ((key n).2) (some (.int x1)) none none s1 h
        · refine am_Pn.bl 2 (y := (51, [some (.ref 64), some (.int x1), none, none], [.int (Int32.ofInt (9)), .int x1], sg_h s1, 0, 0)) rfl ?_
          refine am_Pn.bF h (am_bge rfl rfl) rfl rfl (fun h => ?_) (fun h => ?_)
          · exact ((key n).1) none none x1 s1 h
          · refine am_Pn.bl 1 (y := (55, [some (.ref 64), some (.int x1), none, none], [.ref 64], sg_h s1, 0, 0)) rfl ?_
            refine am_Pn.gi (k := 11) rfl rfl am_o64 rfl rfl ?_
            refine am_Pn.bl 1 (y := (60, [some (.ref 64), some (.int x1), none, none], [.int (Int32.ofInt (12)), .int (s1.1 64 11)], sg_h s1, 0, 0)) rfl ?_
            refine am_Pn.bF h (am_bne rfl rfl) rfl rfl (fun h => ?_) (fun h => ?_)
            · exact ((key n).1) none none x1 s1 h
            · exact ((key n).2) (some (.int x1)) none none s1 h
    · refine am_Pn.bl 1 (y := (25, [some (.ref 64), some (.int x1), none, none], [.ref 64], sg_h s1, 0, 0)) rfl ?_
      refine am_Pn.gi (k := 9) rfl rfl am_o64 rfl rfl ?_
      refine am_Pn.bl 1 (y := (30, [some (.ref 64), some (.int x1), none, none], [.int (Int32.ofInt (8)), .int (s1.1 64 9)], sg_h s1, 0, 0)) rfl ?_
      refine am_Pn.bT h (am_beq rfl rfl) rfl rfl (fun h => ?_) (fun h => ?_)
      · exact ((key n).2) (some (.int x1)) none none s1 h
      · refine am_Pn.bl 2 (y := (36, [some (.ref 64), some (.int x1), none, none], [.int (Int32.ofInt (10)), .int x1], sg_h s1, 0, 0)) rfl ?_
        refine am_Pn.bF h (am_bne rfl rfl) rfl rfl (fun h => ?_) (fun h => ?_)
        · refine am_Pn.bl 2 (y := (51, [some (.ref 64), some (.int x1), none, none], [.int (Int32.ofInt (9)), .int x1], sg_h s1, 0, 0)) rfl ?_
          refine am_Pn.bF h (am_bge rfl rfl) rfl rfl (fun h => ?_) (fun h => ?_)
          · exact ((key n).1) none none x1 s1 h
          · refine am_Pn.bl 1 (y := (55, [some (.ref 64), some (.int x1), none, none], [.ref 64], sg_h s1, 0, 0)) rfl ?_
            refine am_Pn.gi (k := 11) rfl rfl am_o64 rfl rfl ?_
            refine am_Pn.bl 1 (y := (60, [some (.ref 64), some (.int x1), none, none], [.int (Int32.ofInt (12)), .int (s1.1 64 11)], sg_h s1, 0, 0)) rfl ?_
            refine am_Pn.bF h (am_bne rfl rfl) rfl rfl (fun h => ?_) (fun h => ?_)
            · exact ((key n).1) none none x1 s1 h
            · exact ((key n).2) (some (.int x1)) none none s1 h
        · refine am_Pn.bl 1 (y := (40, [some (.ref 64), some (.int x1), none, none], [.ref 64], sg_h s1, 0, 0)) rfl ?_
          refine am_Pn.gi (k := 10) rfl rfl am_o64 rfl rfl ?_
          refine am_Pn.bl 1 (y := (45, [some (.ref 64), some (.int x1), none, none], [.int (Int32.ofInt (8)), .int (s1.1 64 10)], sg_h s1, 0, 0)) rfl ?_
          refine am_Pn.bT h (am_beq rfl rfl) rfl rfl (fun h => ?_) (fun h => ?_)
          · exact ((key n).2) (some (.int x1)) none none s1 h
          · refine am_Pn.bl 2 (y := (51, [some (.ref 64), some (.int x1), none, none], [.int (Int32.ofInt (9)), .int x1], sg_h s1, 0, 0)) rfl ?_
            refine am_Pn.bF h (am_bge rfl rfl) rfl rfl (fun h => ?_) (fun h => ?_)
            · exact ((key n).1) none none x1 s1 h
            · refine am_Pn.bl 1 (y := (55, [some (.ref 64), some (.int x1), none, none], [.ref 64], sg_h s1, 0, 0)) rfl ?_
              refine am_Pn.gi (k := 11) rfl rfl am_o64 rfl rfl ?_
              refine am_Pn.bl 1 (y := (60, [some (.ref 64), some (.int x1), none, none], [.int (Int32.ofInt (12)), .int (s1.1 64 11)], sg_h s1, 0, 0)) rfl ?_
              refine am_Pn.bF h (am_bne rfl rfl) rfl rfl (fun h => ?_) (fun h => ?_)
              · exact ((key n).1) none none x1 s1 h
              · exact ((key n).2) (some (.int x1)) none none s1 h
  · refine am_Pn.bl 2 (y := (12, [some (.ref 64), some (.int x1), none, none], [.int (Int32.ofInt (1)), .ref 64], sg_h s1, 0, 0)) rfl ?_
    refine am_Pn.cvV hcl h rfl rfl rfl rfl rfl (fun s2 h => ?_)
    refine am_Pn.bl 1 (y := (176, [some (.ref 64), some (.int x1), none, none], [], sg_h s2, 0, 0)) rfl ?_
    exact am_Pn.rV h rfl
def wp_M_read_46 (I46 :  sg_S → Prop) (Ψ : Int32 → sg_S → Prop) (s : sg_S) : Prop := (((s.1 64 6).toInt = (0) → (((s.1 64 5).toInt = (0) → (((0) < (s.1 64 6).toInt → (Ψ ((s.1 64 6) + ((Int32.ofInt (10)) * (s.1 64 7))) (sg_uI s 64 2 (Int32.ofInt (0))))) ∧ (¬ (0) < (s.1 64 6).toInt → (am_SpV 166 [.ref 64] (sg_uI s 64 2 (Int32.ofInt (0))) (fun s3 => (Ψ (Int32.ofInt (0)) s3)))))) ∧ (¬ (s.1 64 5).toInt = (0) → (am_SpV 155 [.ref 64] s (fun s4 => (am_SpV 162 [.ref 64, .int (Int32.ofInt (59))] s4 (fun s5 => (I46 s5)))))))) ∧ (¬ (s.1 64 6).toInt = (0) → (((0) < (s.1 64 6).toInt → (Ψ ((s.1 64 6) + ((Int32.ofInt (10)) * (s.1 64 7))) (sg_uI s 64 2 (Int32.ofInt (0))))) ∧ (¬ (0) < (s.1 64 6).toInt → (am_SpV 166 [.ref 64] (sg_uI s 64 2 (Int32.ofInt (0))) (fun s2 => (Ψ (Int32.ofInt (0)) s2)))))))
def wp_M_read (I46 :  sg_S → Prop) (Ψ : Int32 → sg_S → Prop) (s : sg_S) : Prop := (am_SpV 152 [.ref 64] (sg_uI (sg_uI (sg_uI (sg_uI (sg_uI (sg_uI (sg_uI (sg_uI s 64 3 (Int32.ofInt (0))) 64 6 (Int32.ofInt (0))) 64 9 (Int32.ofInt (0))) 64 10 (Int32.ofInt (0))) 64 11 (Int32.ofInt (0))) 64 16 (Int32.ofInt (0))) 64 12 (Int32.ofInt (36))) 64 13 (Int32.ofInt (99))) (fun s1 => (I46 s1)))
set_option maxRecDepth 100000 in
theorem wp_M_read_ok {I46 :  sg_S → Prop} {Ψ : Int32 → sg_S → Prop} {s : sg_S} (k46 : ∀ (s : sg_S), I46  s → wp_M_read_46 I46 Ψ   s) (h : wp_M_read I46 Ψ  s) : am_SpI 151 [.ref 64] s Ψ := by
  refine am_SpI.mk (r := am_r151) rfl rfl (fun call d al n hcl => ?_)
  have key : ∀ n, (∀ (s : sg_S), I46  s → am_Pn call d (0, fun _ => 0) al am_r151 (am_PhI am_r151 Ψ) n (46, [some (.ref 64)], [], sg_h s, 0, 0)) := by
    intro n
    induction n with
    | zero => exact fun _ _ => am_Pn.zero
    | succ n ih =>
      intro  s h
      replace h := k46  s h
      unfold wp_M_read_46 at h
      refine am_Pn.bl1 0 (y := (47, [some (.ref 64)], [.ref 64], sg_h s, 0, 0)) rfl ?_
      refine am_Pn.gi (k := 6) rfl rfl am_o64 rfl rfl ?_
      refine am_Pn.zF h (am_bne rfl rfl) rfl rfl (fun h => ?_) (fun h => ?_)
      · refine am_Pn.bl 2 (y := (75, [some (.ref 64)], [.int (Int32.ofInt (0)), .ref 64], sg_h s, 0, 0)) rfl ?_
        refine am_Pn.pi (k := 2) rfl rfl am_o64 rfl rfl ?_
        refine am_Pn.bl 1 (y := (79, [some (.ref 64)], [.ref 64], sg_h (sg_uI s 64 2 (Int32.ofInt (0))), 0, 0)) rfl ?_
        refine am_Pn.gi (k := 6) rfl rfl am_o64 rfl rfl ?_
        refine am_Pn.zF h (am_ble rfl rfl) rfl rfl (fun h => ?_) (fun h => ?_)
        · refine am_Pn.bl 1 (y := (99, [some (.ref 64)], [.ref 64], sg_h (sg_uI s 64 2 (Int32.ofInt (0))), 0, 0)) rfl ?_
          refine am_Pn.cvV hcl h rfl rfl rfl rfl rfl (fun s2 h => ?_)
          refine am_Pn.bl 1 (y := (103, [some (.ref 64)], [.int (Int32.ofInt (0))], sg_h s2, 0, 0)) rfl ?_
          exact am_Pn.rI h rfl
        · refine am_Pn.bl 1 (y := (86, [some (.ref 64)], [.ref 64], sg_h (sg_uI s 64 2 (Int32.ofInt (0))), 0, 0)) rfl ?_
          refine am_Pn.gi (k := 6) rfl rfl am_o64 rfl rfl ?_
          refine am_Pn.bl 2 (y := (92, [some (.ref 64)], [.ref 64, .int (Int32.ofInt (10)), .int (s.1 64 6)], sg_h (sg_uI s 64 2 (Int32.ofInt (0))), 0, 0)) rfl ?_
          refine am_Pn.gi (k := 7) rfl rfl am_o64 rfl rfl ?_
          refine am_Pn.bl 2 (y := (97, [some (.ref 64)], [.int ((s.1 64 6) + ((Int32.ofInt (10)) * (s.1 64 7)))], sg_h (sg_uI s 64 2 (Int32.ofInt (0))), 0, 0)) rfl ?_
          exact am_Pn.rI h rfl
      · refine am_Pn.bl 1 (y := (54, [some (.ref 64)], [.ref 64], sg_h s, 0, 0)) rfl ?_
        refine am_Pn.gi (k := 5) rfl rfl am_o64 rfl rfl ?_
        refine am_Pn.zT h (am_beq rfl rfl) rfl rfl (fun h => ?_) (fun h => ?_)
        · refine am_Pn.bl 2 (y := (75, [some (.ref 64)], [.int (Int32.ofInt (0)), .ref 64], sg_h s, 0, 0)) rfl ?_
          refine am_Pn.pi (k := 2) rfl rfl am_o64 rfl rfl ?_
          refine am_Pn.bl 1 (y := (79, [some (.ref 64)], [.ref 64], sg_h (sg_uI s 64 2 (Int32.ofInt (0))), 0, 0)) rfl ?_
          refine am_Pn.gi (k := 6) rfl rfl am_o64 rfl rfl ?_
          refine am_Pn.zF h (am_ble rfl rfl) rfl rfl (fun h => ?_) (fun h => ?_)
          · refine am_Pn.bl 1 (y := (99, [some (.ref 64)], [.ref 64], sg_h (sg_uI s 64 2 (Int32.ofInt (0))), 0, 0)) rfl ?_
            refine am_Pn.cvV hcl h rfl rfl rfl rfl rfl (fun s3 h => ?_)
            refine am_Pn.bl 1 (y := (103, [some (.ref 64)], [.int (Int32.ofInt (0))], sg_h s3, 0, 0)) rfl ?_
            exact am_Pn.rI h rfl
          · refine am_Pn.bl 1 (y := (86, [some (.ref 64)], [.ref 64], sg_h (sg_uI s 64 2 (Int32.ofInt (0))), 0, 0)) rfl ?_
            refine am_Pn.gi (k := 6) rfl rfl am_o64 rfl rfl ?_
            refine am_Pn.bl 2 (y := (92, [some (.ref 64)], [.ref 64, .int (Int32.ofInt (10)), .int (s.1 64 6)], sg_h (sg_uI s 64 2 (Int32.ofInt (0))), 0, 0)) rfl ?_
            refine am_Pn.gi (k := 7) rfl rfl am_o64 rfl rfl ?_
            refine am_Pn.bl 2 (y := (97, [some (.ref 64)], [.int ((s.1 64 6) + ((Int32.ofInt (10)) * (s.1 64 7)))], sg_h (sg_uI s 64 2 (Int32.ofInt (0))), 0, 0)) rfl ?_
            exact am_Pn.rI h rfl
        · refine am_Pn.bl 1 (y := (61, [some (.ref 64)], [.ref 64], sg_h s, 0, 0)) rfl ?_
          refine am_Pn.cvV hcl h rfl rfl rfl rfl rfl (fun s4 h => ?_)
          refine am_Pn.bl 2 (y := (67, [some (.ref 64)], [.int (Int32.ofInt (59)), .ref 64], sg_h s4, 0, 0)) rfl ?_
          refine am_Pn.cvV hcl h rfl rfl rfl rfl rfl (fun s5 h => ?_)
          refine am_Pn.bl 1 (y := (46, [some (.ref 64)], [], sg_h s5, 0, 0)) rfl ?_
          exact (ih) s5 h
  unfold wp_M_read at h
  refine am_Pn.bl 2 (y := (2, [some (.ref 64)], [.int (Int32.ofInt (0)), .ref 64], sg_h s, 0, 0)) rfl ?_
  refine am_Pn.pi (k := 3) rfl rfl am_o64 rfl rfl ?_
  refine am_Pn.bl 2 (y := (7, [some (.ref 64)], [.int (Int32.ofInt (0)), .ref 64], sg_h (sg_uI s 64 3 (Int32.ofInt (0))), 0, 0)) rfl ?_
  refine am_Pn.pi (k := 6) rfl rfl am_o64 rfl rfl ?_
  refine am_Pn.bl 2 (y := (12, [some (.ref 64)], [.int (Int32.ofInt (0)), .ref 64], sg_h (sg_uI (sg_uI s 64 3 (Int32.ofInt (0))) 64 6 (Int32.ofInt (0))), 0, 0)) rfl ?_
  refine am_Pn.pi (k := 9) rfl rfl am_o64 rfl rfl ?_
  refine am_Pn.bl 2 (y := (17, [some (.ref 64)], [.int (Int32.ofInt (0)), .ref 64], sg_h (sg_uI (sg_uI (sg_uI s 64 3 (Int32.ofInt (0))) 64 6 (Int32.ofInt (0))) 64 9 (Int32.ofInt (0))), 0, 0)) rfl ?_
  refine am_Pn.pi (k := 10) rfl rfl am_o64 rfl rfl ?_
  refine am_Pn.bl 2 (y := (22, [some (.ref 64)], [.int (Int32.ofInt (0)), .ref 64], sg_h (sg_uI (sg_uI (sg_uI (sg_uI s 64 3 (Int32.ofInt (0))) 64 6 (Int32.ofInt (0))) 64 9 (Int32.ofInt (0))) 64 10 (Int32.ofInt (0))), 0, 0)) rfl ?_
  refine am_Pn.pi (k := 11) rfl rfl am_o64 rfl rfl ?_
  refine am_Pn.bl 2 (y := (27, [some (.ref 64)], [.int (Int32.ofInt (0)), .ref 64], sg_h (sg_uI (sg_uI (sg_uI (sg_uI (sg_uI s 64 3 (Int32.ofInt (0))) 64 6 (Int32.ofInt (0))) 64 9 (Int32.ofInt (0))) 64 10 (Int32.ofInt (0))) 64 11 (Int32.ofInt (0))), 0, 0)) rfl ?_
  refine am_Pn.pi (k := 16) rfl rfl am_o64 rfl rfl ?_
  refine am_Pn.bl 2 (y := (33, [some (.ref 64)], [.int (Int32.ofInt (36)), .ref 64], sg_h (sg_uI (sg_uI (sg_uI (sg_uI (sg_uI (sg_uI s 64 3 (Int32.ofInt (0))) 64 6 (Int32.ofInt (0))) 64 9 (Int32.ofInt (0))) 64 10 (Int32.ofInt (0))) 64 11 (Int32.ofInt (0))) 64 16 (Int32.ofInt (0))), 0, 0)) rfl ?_
  refine am_Pn.pi (k := 12) rfl rfl am_o64 rfl rfl ?_
  refine am_Pn.bl 2 (y := (39, [some (.ref 64)], [.int (Int32.ofInt (99)), .ref 64], sg_h (sg_uI (sg_uI (sg_uI (sg_uI (sg_uI (sg_uI (sg_uI s 64 3 (Int32.ofInt (0))) 64 6 (Int32.ofInt (0))) 64 9 (Int32.ofInt (0))) 64 10 (Int32.ofInt (0))) 64 11 (Int32.ofInt (0))) 64 16 (Int32.ofInt (0))) 64 12 (Int32.ofInt (36))), 0, 0)) rfl ?_
  refine am_Pn.pi (k := 13) rfl rfl am_o64 rfl rfl ?_
  refine am_Pn.bl 1 (y := (43, [some (.ref 64)], [.ref 64], sg_h (sg_uI (sg_uI (sg_uI (sg_uI (sg_uI (sg_uI (sg_uI (sg_uI s 64 3 (Int32.ofInt (0))) 64 6 (Int32.ofInt (0))) 64 9 (Int32.ofInt (0))) 64 10 (Int32.ofInt (0))) 64 11 (Int32.ofInt (0))) 64 16 (Int32.ofInt (0))) 64 12 (Int32.ofInt (36))) 64 13 (Int32.ofInt (99))), 0, 0)) rfl ?_
  refine am_Pn.cvV hcl h rfl rfl rfl rfl rfl (fun s1 h => ?_)
  exact ((key n)) s1 h
