/-! ===== what beginning anew asks (printed by wip/ab/vg_anew.py) ===== -/
def wp_Arrays_fill_23_5 (I5 : Int32 → Int32 →  sg_S → Prop) (Ψ : sg_S → Prop) (x2 : Int32) (l2 : Int32) (l3 : Int32) (s : sg_S) : Prop := ((l2.toInt < l3.toInt → (0 ≤ l2.toInt → l2.toInt < (64) → (I5 (l2 + Int32.ofInt (1)) l3 (sg_uA s 23 (l2.toInt.toNat) x2)))) ∧ (¬ l2.toInt < l3.toInt → (Ψ s)))
def wp_Arrays_fill_23 (I5 : Int32 → Int32 →  sg_S → Prop) (Ψ : sg_S → Prop) (x2 : Int32) (s : sg_S) : Prop := (I5 (Int32.ofInt (0)) (Int32.ofNat 64) s)
set_option maxRecDepth 100000 in
theorem wp_Arrays_fill_23_ok {I5 : Int32 → Int32 →  sg_S → Prop} {Ψ : sg_S → Prop} {x2 : Int32} {s : sg_S} (k5 : ∀ (l2 : Int32) (l3 : Int32) (s : sg_S), I5 l2 l3 s → wp_Arrays_fill_23_5 I5 Ψ x2 l2 l3 s) (h : wp_Arrays_fill_23 I5 Ψ x2 s) : am_SpV 213 [.ref 23, .int x2] s Ψ := by
  refine am_SpV.mk (r := am_r213) rfl rfl (fun call d al n hcl => ?_)
  have key : ∀ n, (∀ (l2 : Int32) (l3 : Int32) (s : sg_S), I5 l2 l3 s → am_Pn call d (0, fun _ => 0) al am_r213 (am_PhV am_r213 Ψ) n (5, [some (.ref 23), some (.int x2), some (.int l2), some (.int l3)], [], sg_h s, 0, 0)) := by
    intro n
    induction n with
    | zero => exact fun _ _ _ _ => am_Pn.zero
    | succ n ih =>
      intro l2 l3 s h
      replace h := k5 l2 l3 s h
      unfold wp_Arrays_fill_23_5 at h
      refine am_Pn.bl1 1 (y := (7, [some (.ref 23), some (.int x2), some (.int l2), some (.int l3)], [.int l3, .int l2], sg_h s, 0, 0)) rfl ?_
      refine am_Pn.bF h (am_bge rfl rfl) rfl rfl (fun h => ?_) (fun h => ?_)
      · exact am_Pn.rV h rfl
      · refine am_Pn.bl 3 (y := (13, [some (.ref 23), some (.int x2), some (.int l2), some (.int l3)], [.int x2, .int l2, .ref 23], sg_h s, 0, 0)) rfl ?_
        refine am_Pn.is (a := 23) rfl rfl rfl (fun hi => ?_)
        replace h := h (am_in0 hi) (am_in1 hi)
        refine am_Pn.bl 2 (y := (5, [some (.ref 23), some (.int x2), some (.int (l2 + Int32.ofInt (1))), some (.int l3)], [], sg_h (sg_uA s 23 (l2.toInt.toNat) x2), 0, 0)) rfl ?_
        exact (ih) (l2 + Int32.ofInt (1)) l3 (sg_uA s 23 (l2.toInt.toNat) x2) h
  unfold wp_Arrays_fill_23 at h
  refine am_Pn.bl 3 (y := (3, [some (.ref 23), some (.int x2), some (.int (Int32.ofInt (0))), none], [.ref 23], sg_h s, 0, 0)) rfl ?_
  refine am_Pn.an (a := 23) rfl rfl rfl rfl rfl ?_
  refine am_Pn.bl 1 (y := (5, [some (.ref 23), some (.int x2), some (.int (Int32.ofInt (0))), some (.int (Int32.ofNat 64))], [], sg_h s, 0, 0)) rfl ?_
  exact ((key n)) (Int32.ofInt (0)) (Int32.ofNat 64) s h
def wp_Arrays_fill_26_5 (I5 : Int32 → Int32 →  sg_S → Prop) (Ψ : sg_S → Prop) (x2 : Int32) (l2 : Int32) (l3 : Int32) (s : sg_S) : Prop := ((l2.toInt < l3.toInt → (0 ≤ l2.toInt → l2.toInt < (12) → (I5 (l2 + Int32.ofInt (1)) l3 (sg_uA s 26 (l2.toInt.toNat) x2)))) ∧ (¬ l2.toInt < l3.toInt → (Ψ s)))
def wp_Arrays_fill_26 (I5 : Int32 → Int32 →  sg_S → Prop) (Ψ : sg_S → Prop) (x2 : Int32) (s : sg_S) : Prop := (I5 (Int32.ofInt (0)) (Int32.ofNat 12) s)
set_option maxRecDepth 100000 in
theorem wp_Arrays_fill_26_ok {I5 : Int32 → Int32 →  sg_S → Prop} {Ψ : sg_S → Prop} {x2 : Int32} {s : sg_S} (k5 : ∀ (l2 : Int32) (l3 : Int32) (s : sg_S), I5 l2 l3 s → wp_Arrays_fill_26_5 I5 Ψ x2 l2 l3 s) (h : wp_Arrays_fill_26 I5 Ψ x2 s) : am_SpV 213 [.ref 26, .int x2] s Ψ := by
  refine am_SpV.mk (r := am_r213) rfl rfl (fun call d al n hcl => ?_)
  have key : ∀ n, (∀ (l2 : Int32) (l3 : Int32) (s : sg_S), I5 l2 l3 s → am_Pn call d (0, fun _ => 0) al am_r213 (am_PhV am_r213 Ψ) n (5, [some (.ref 26), some (.int x2), some (.int l2), some (.int l3)], [], sg_h s, 0, 0)) := by
    intro n
    induction n with
    | zero => exact fun _ _ _ _ => am_Pn.zero
    | succ n ih =>
      intro l2 l3 s h
      replace h := k5 l2 l3 s h
      unfold wp_Arrays_fill_26_5 at h
      refine am_Pn.bl1 1 (y := (7, [some (.ref 26), some (.int x2), some (.int l2), some (.int l3)], [.int l3, .int l2], sg_h s, 0, 0)) rfl ?_
      refine am_Pn.bF h (am_bge rfl rfl) rfl rfl (fun h => ?_) (fun h => ?_)
      · exact am_Pn.rV h rfl
      · refine am_Pn.bl 3 (y := (13, [some (.ref 26), some (.int x2), some (.int l2), some (.int l3)], [.int x2, .int l2, .ref 26], sg_h s, 0, 0)) rfl ?_
        refine am_Pn.is (a := 26) rfl rfl rfl (fun hi => ?_)
        replace h := h (am_in0 hi) (am_in1 hi)
        refine am_Pn.bl 2 (y := (5, [some (.ref 26), some (.int x2), some (.int (l2 + Int32.ofInt (1))), some (.int l3)], [], sg_h (sg_uA s 26 (l2.toInt.toNat) x2), 0, 0)) rfl ?_
        exact (ih) (l2 + Int32.ofInt (1)) l3 (sg_uA s 26 (l2.toInt.toNat) x2) h
  unfold wp_Arrays_fill_26 at h
  refine am_Pn.bl 3 (y := (3, [some (.ref 26), some (.int x2), some (.int (Int32.ofInt (0))), none], [.ref 26], sg_h s, 0, 0)) rfl ?_
  refine am_Pn.an (a := 26) rfl rfl rfl rfl rfl ?_
  refine am_Pn.bl 1 (y := (5, [some (.ref 26), some (.int x2), some (.int (Int32.ofInt (0))), some (.int (Int32.ofNat 12))], [], sg_h s, 0, 0)) rfl ?_
  exact ((key n)) (Int32.ofInt (0)) (Int32.ofNat 12) s h
def wp_Arrays_fill_37_5 (I5 : Int32 → Int32 →  sg_S → Prop) (Ψ : sg_S → Prop) (x2 : Int32) (l2 : Int32) (l3 : Int32) (s : sg_S) : Prop := ((l2.toInt < l3.toInt → (0 ≤ l2.toInt → l2.toInt < (49) → (I5 (l2 + Int32.ofInt (1)) l3 (sg_uA s 37 (l2.toInt.toNat) x2)))) ∧ (¬ l2.toInt < l3.toInt → (Ψ s)))
def wp_Arrays_fill_37 (I5 : Int32 → Int32 →  sg_S → Prop) (Ψ : sg_S → Prop) (x2 : Int32) (s : sg_S) : Prop := (I5 (Int32.ofInt (0)) (Int32.ofNat 49) s)
set_option maxRecDepth 100000 in
theorem wp_Arrays_fill_37_ok {I5 : Int32 → Int32 →  sg_S → Prop} {Ψ : sg_S → Prop} {x2 : Int32} {s : sg_S} (k5 : ∀ (l2 : Int32) (l3 : Int32) (s : sg_S), I5 l2 l3 s → wp_Arrays_fill_37_5 I5 Ψ x2 l2 l3 s) (h : wp_Arrays_fill_37 I5 Ψ x2 s) : am_SpV 213 [.ref 37, .int x2] s Ψ := by
  refine am_SpV.mk (r := am_r213) rfl rfl (fun call d al n hcl => ?_)
  have key : ∀ n, (∀ (l2 : Int32) (l3 : Int32) (s : sg_S), I5 l2 l3 s → am_Pn call d (0, fun _ => 0) al am_r213 (am_PhV am_r213 Ψ) n (5, [some (.ref 37), some (.int x2), some (.int l2), some (.int l3)], [], sg_h s, 0, 0)) := by
    intro n
    induction n with
    | zero => exact fun _ _ _ _ => am_Pn.zero
    | succ n ih =>
      intro l2 l3 s h
      replace h := k5 l2 l3 s h
      unfold wp_Arrays_fill_37_5 at h
      refine am_Pn.bl1 1 (y := (7, [some (.ref 37), some (.int x2), some (.int l2), some (.int l3)], [.int l3, .int l2], sg_h s, 0, 0)) rfl ?_
      refine am_Pn.bF h (am_bge rfl rfl) rfl rfl (fun h => ?_) (fun h => ?_)
      · exact am_Pn.rV h rfl
      · refine am_Pn.bl 3 (y := (13, [some (.ref 37), some (.int x2), some (.int l2), some (.int l3)], [.int x2, .int l2, .ref 37], sg_h s, 0, 0)) rfl ?_
        refine am_Pn.is (a := 37) rfl rfl rfl (fun hi => ?_)
        replace h := h (am_in0 hi) (am_in1 hi)
        refine am_Pn.bl 2 (y := (5, [some (.ref 37), some (.int x2), some (.int (l2 + Int32.ofInt (1))), some (.int l3)], [], sg_h (sg_uA s 37 (l2.toInt.toNat) x2), 0, 0)) rfl ?_
        exact (ih) (l2 + Int32.ofInt (1)) l3 (sg_uA s 37 (l2.toInt.toNat) x2) h
  unfold wp_Arrays_fill_37 at h
  refine am_Pn.bl 3 (y := (3, [some (.ref 37), some (.int x2), some (.int (Int32.ofInt (0))), none], [.ref 37], sg_h s, 0, 0)) rfl ?_
  refine am_Pn.an (a := 37) rfl rfl rfl rfl rfl ?_
  refine am_Pn.bl 1 (y := (5, [some (.ref 37), some (.int x2), some (.int (Int32.ofInt (0))), some (.int (Int32.ofNat 49))], [], sg_h s, 0, 0)) rfl ?_
  exact ((key n)) (Int32.ofInt (0)) (Int32.ofNat 49) s h
def wp_Arrays_fill_38_5 (I5 : Int32 → Int32 →  sg_S → Prop) (Ψ : sg_S → Prop) (x2 : Int32) (l2 : Int32) (l3 : Int32) (s : sg_S) : Prop := ((l2.toInt < l3.toInt → (0 ≤ l2.toInt → l2.toInt < (49) → (I5 (l2 + Int32.ofInt (1)) l3 (sg_uA s 38 (l2.toInt.toNat) x2)))) ∧ (¬ l2.toInt < l3.toInt → (Ψ s)))
def wp_Arrays_fill_38 (I5 : Int32 → Int32 →  sg_S → Prop) (Ψ : sg_S → Prop) (x2 : Int32) (s : sg_S) : Prop := (I5 (Int32.ofInt (0)) (Int32.ofNat 49) s)
set_option maxRecDepth 100000 in
theorem wp_Arrays_fill_38_ok {I5 : Int32 → Int32 →  sg_S → Prop} {Ψ : sg_S → Prop} {x2 : Int32} {s : sg_S} (k5 : ∀ (l2 : Int32) (l3 : Int32) (s : sg_S), I5 l2 l3 s → wp_Arrays_fill_38_5 I5 Ψ x2 l2 l3 s) (h : wp_Arrays_fill_38 I5 Ψ x2 s) : am_SpV 213 [.ref 38, .int x2] s Ψ := by
  refine am_SpV.mk (r := am_r213) rfl rfl (fun call d al n hcl => ?_)
  have key : ∀ n, (∀ (l2 : Int32) (l3 : Int32) (s : sg_S), I5 l2 l3 s → am_Pn call d (0, fun _ => 0) al am_r213 (am_PhV am_r213 Ψ) n (5, [some (.ref 38), some (.int x2), some (.int l2), some (.int l3)], [], sg_h s, 0, 0)) := by
    intro n
    induction n with
    | zero => exact fun _ _ _ _ => am_Pn.zero
    | succ n ih =>
      intro l2 l3 s h
      replace h := k5 l2 l3 s h
      unfold wp_Arrays_fill_38_5 at h
      refine am_Pn.bl1 1 (y := (7, [some (.ref 38), some (.int x2), some (.int l2), some (.int l3)], [.int l3, .int l2], sg_h s, 0, 0)) rfl ?_
      refine am_Pn.bF h (am_bge rfl rfl) rfl rfl (fun h => ?_) (fun h => ?_)
      · exact am_Pn.rV h rfl
      · refine am_Pn.bl 3 (y := (13, [some (.ref 38), some (.int x2), some (.int l2), some (.int l3)], [.int x2, .int l2, .ref 38], sg_h s, 0, 0)) rfl ?_
        refine am_Pn.is (a := 38) rfl rfl rfl (fun hi => ?_)
        replace h := h (am_in0 hi) (am_in1 hi)
        refine am_Pn.bl 2 (y := (5, [some (.ref 38), some (.int x2), some (.int (l2 + Int32.ofInt (1))), some (.int l3)], [], sg_h (sg_uA s 38 (l2.toInt.toNat) x2), 0, 0)) rfl ?_
        exact (ih) (l2 + Int32.ofInt (1)) l3 (sg_uA s 38 (l2.toInt.toNat) x2) h
  unfold wp_Arrays_fill_38 at h
  refine am_Pn.bl 3 (y := (3, [some (.ref 38), some (.int x2), some (.int (Int32.ofInt (0))), none], [.ref 38], sg_h s, 0, 0)) rfl ?_
  refine am_Pn.an (a := 38) rfl rfl rfl rfl rfl ?_
  refine am_Pn.bl 1 (y := (5, [some (.ref 38), some (.int x2), some (.int (Int32.ofInt (0))), some (.int (Int32.ofNat 49))], [], sg_h s, 0, 0)) rfl ?_
  exact ((key n)) (Int32.ofInt (0)) (Int32.ofNat 49) s h
def wp_XRules_copyOf_1_9_42 (I42 : Int32 →  sg_S → Prop) (Ψ : sg_S → Prop) (l2 : Int32) (s : sg_S) : Prop := ((l2.toInt < (12) → (0 ≤ l2.toInt → l2.toInt < (12) → (I42 (l2 + Int32.ofInt (1)) (sg_uA (sg_uA (sg_uA (sg_uA s 4 (l2.toInt.toNat) (s.2.2.1 12 (l2.toInt.toNat))) 5 (l2.toInt.toNat) (s.2.2.1 13 (l2.toInt.toNat))) 6 (l2.toInt.toNat) (s.2.2.1 14 (l2.toInt.toNat))) 7 (l2.toInt.toNat) (s.2.2.1 15 (l2.toInt.toNat)))))) ∧ (¬ l2.toInt < (12) → (Ψ s)))
def wp_XRules_copyOf_1_9 (I42 : Int32 →  sg_S → Prop) (Ψ : sg_S → Prop) (s : sg_S) : Prop := (I42 (Int32.ofInt (0)) (sg_uI (sg_uI (sg_uI (sg_uI (sg_uI s 1 0 (s.1 9 0)) 1 1 (s.1 9 1)) 1 2 (s.1 9 2)) 1 3 (s.1 9 3)) 1 4 (s.1 9 4)))
set_option maxRecDepth 100000 in
theorem wp_XRules_copyOf_1_9_ok {I42 : Int32 →  sg_S → Prop} {Ψ : sg_S → Prop} {s : sg_S} (k42 : ∀ (l2 : Int32) (s : sg_S), I42 l2 s → wp_XRules_copyOf_1_9_42 I42 Ψ  l2 s) (h : wp_XRules_copyOf_1_9 I42 Ψ  s) : am_SpV 70 [.ref 1, .ref 9] s Ψ := by
  refine am_SpV.mk (r := am_r70) rfl rfl (fun call d al n hcl => ?_)
  have key : ∀ n, (∀ (l2 : Int32) (s : sg_S), I42 l2 s → am_Pn call d (0, fun _ => 0) al am_r70 (am_PhV am_r70 Ψ) n (42, [some (.ref 1), some (.ref 9), some (.int l2)], [], sg_h s, 0, 0)) := by
    intro n
    induction n with
    | zero => exact fun _ _ _ => am_Pn.zero
    | succ n ih =>
      intro l2 s h
      replace h := k42 l2 s h
      unfold wp_XRules_copyOf_1_9_42 at h
      refine am_Pn.bl1 1 (y := (45, [some (.ref 1), some (.ref 9), some (.int l2)], [.int (Int32.ofInt (12)), .int l2], sg_h s, 0, 0)) rfl ?_
      refine am_Pn.bF h (am_bge rfl rfl) rfl rfl (fun h => ?_) (fun h => ?_)
      · exact am_Pn.rV h rfl
      · refine am_Pn.bl 1 (y := (49, [some (.ref 1), some (.ref 9), some (.int l2)], [.ref 1], sg_h s, 0, 0)) rfl ?_
        refine am_Pn.gr (k := 8) rfl rfl am_o1 rfl rfl ?_
        refine am_Pn.bl 2 (y := (54, [some (.ref 1), some (.ref 9), some (.int l2)], [.ref 9, .int l2, .ref 4], sg_h s, 0, 0)) rfl ?_
        refine am_Pn.gr (k := 8) rfl rfl am_o9 rfl rfl ?_
        refine am_Pn.bl 1 (y := (58, [some (.ref 1), some (.ref 9), some (.int l2)], [.int l2, .ref 12, .int l2, .ref 4], sg_h s, 0, 0)) rfl ?_
        refine am_Pn.ia (a := 12) rfl rfl rfl rfl (fun hi => ?_)
        replace h := h (am_in0 hi) (am_in1 hi)
        refine am_Pn.is (a := 4) rfl rfl rfl (fun hi => ?_)
        refine am_Pn.bl 1 (y := (61, [some (.ref 1), some (.ref 9), some (.int l2)], [.ref 1], sg_h (sg_uA s 4 (l2.toInt.toNat) (s.2.2.1 12 (l2.toInt.toNat))), 0, 0)) rfl ?_
        refine am_Pn.gr (k := 9) rfl rfl am_o1 rfl rfl ?_
        refine am_Pn.bl 2 (y := (66, [some (.ref 1), some (.ref 9), some (.int l2)], [.ref 9, .int l2, .ref 5], sg_h (sg_uA s 4 (l2.toInt.toNat) (s.2.2.1 12 (l2.toInt.toNat))), 0, 0)) rfl ?_
        refine am_Pn.gr (k := 9) rfl rfl am_o9 rfl rfl ?_
        refine am_Pn.bl 1 (y := (70, [some (.ref 1), some (.ref 9), some (.int l2)], [.int l2, .ref 13, .int l2, .ref 5], sg_h (sg_uA s 4 (l2.toInt.toNat) (s.2.2.1 12 (l2.toInt.toNat))), 0, 0)) rfl ?_
        refine am_Pn.ia (a := 13) rfl rfl rfl rfl (fun hi => ?_)
        refine am_Pn.is (a := 5) rfl rfl rfl (fun hi => ?_)
        refine am_Pn.bl 1 (y := (73, [some (.ref 1), some (.ref 9), some (.int l2)], [.ref 1], sg_h (sg_uA (sg_uA s 4 (l2.toInt.toNat) (s.2.2.1 12 (l2.toInt.toNat))) 5 (l2.toInt.toNat) (s.2.2.1 13 (l2.toInt.toNat))), 0, 0)) rfl ?_
        refine am_Pn.gr (k := 10) rfl rfl am_o1 rfl rfl ?_
        refine am_Pn.bl 2 (y := (78, [some (.ref 1), some (.ref 9), some (.int l2)], [.ref 9, .int l2, .ref 6], sg_h (sg_uA (sg_uA s 4 (l2.toInt.toNat) (s.2.2.1 12 (l2.toInt.toNat))) 5 (l2.toInt.toNat) (s.2.2.1 13 (l2.toInt.toNat))), 0, 0)) rfl ?_
        refine am_Pn.gr (k := 10) rfl rfl am_o9 rfl rfl ?_
        refine am_Pn.bl 1 (y := (82, [some (.ref 1), some (.ref 9), some (.int l2)], [.int l2, .ref 14, .int l2, .ref 6], sg_h (sg_uA (sg_uA s 4 (l2.toInt.toNat) (s.2.2.1 12 (l2.toInt.toNat))) 5 (l2.toInt.toNat) (s.2.2.1 13 (l2.toInt.toNat))), 0, 0)) rfl ?_
        refine am_Pn.ia (a := 14) rfl rfl rfl rfl (fun hi => ?_)
        refine am_Pn.is (a := 6) rfl rfl rfl (fun hi => ?_)
        refine am_Pn.bl 1 (y := (85, [some (.ref 1), some (.ref 9), some (.int l2)], [.ref 1], sg_h (sg_uA (sg_uA (sg_uA s 4 (l2.toInt.toNat) (s.2.2.1 12 (l2.toInt.toNat))) 5 (l2.toInt.toNat) (s.2.2.1 13 (l2.toInt.toNat))) 6 (l2.toInt.toNat) (s.2.2.1 14 (l2.toInt.toNat))), 0, 0)) rfl ?_
        refine am_Pn.gr (k := 11) rfl rfl am_o1 rfl rfl ?_
        refine am_Pn.bl 2 (y := (90, [some (.ref 1), some (.ref 9), some (.int l2)], [.ref 9, .int l2, .ref 7], sg_h (sg_uA (sg_uA (sg_uA s 4 (l2.toInt.toNat) (s.2.2.1 12 (l2.toInt.toNat))) 5 (l2.toInt.toNat) (s.2.2.1 13 (l2.toInt.toNat))) 6 (l2.toInt.toNat) (s.2.2.1 14 (l2.toInt.toNat))), 0, 0)) rfl ?_
        refine am_Pn.gr (k := 11) rfl rfl am_o9 rfl rfl ?_
        refine am_Pn.bl 1 (y := (94, [some (.ref 1), some (.ref 9), some (.int l2)], [.int l2, .ref 15, .int l2, .ref 7], sg_h (sg_uA (sg_uA (sg_uA s 4 (l2.toInt.toNat) (s.2.2.1 12 (l2.toInt.toNat))) 5 (l2.toInt.toNat) (s.2.2.1 13 (l2.toInt.toNat))) 6 (l2.toInt.toNat) (s.2.2.1 14 (l2.toInt.toNat))), 0, 0)) rfl ?_
        refine am_Pn.ia (a := 15) rfl rfl rfl rfl (fun hi => ?_)
        refine am_Pn.is (a := 7) rfl rfl rfl (fun hi => ?_)
        refine am_Pn.bl 2 (y := (42, [some (.ref 1), some (.ref 9), some (.int (l2 + Int32.ofInt (1)))], [], sg_h (sg_uA (sg_uA (sg_uA (sg_uA s 4 (l2.toInt.toNat) (s.2.2.1 12 (l2.toInt.toNat))) 5 (l2.toInt.toNat) (s.2.2.1 13 (l2.toInt.toNat))) 6 (l2.toInt.toNat) (s.2.2.1 14 (l2.toInt.toNat))) 7 (l2.toInt.toNat) (s.2.2.1 15 (l2.toInt.toNat))), 0, 0)) rfl ?_
        exact (ih) (l2 + Int32.ofInt (1)) (sg_uA (sg_uA (sg_uA (sg_uA s 4 (l2.toInt.toNat) (s.2.2.1 12 (l2.toInt.toNat))) 5 (l2.toInt.toNat) (s.2.2.1 13 (l2.toInt.toNat))) 6 (l2.toInt.toNat) (s.2.2.1 14 (l2.toInt.toNat))) 7 (l2.toInt.toNat) (s.2.2.1 15 (l2.toInt.toNat))) h
  unfold wp_XRules_copyOf_1_9 at h
  refine am_Pn.bl 2 (y := (2, [some (.ref 1), some (.ref 9), none], [.ref 9, .ref 1], sg_h s, 0, 0)) rfl ?_
  refine am_Pn.gi (k := 0) rfl rfl am_o9 rfl rfl ?_
  refine am_Pn.pi (k := 0) rfl rfl am_o1 rfl rfl ?_
  refine am_Pn.bl 2 (y := (10, [some (.ref 1), some (.ref 9), none], [.ref 9, .ref 1], sg_h (sg_uI s 1 0 (s.1 9 0)), 0, 0)) rfl ?_
  refine am_Pn.gi (k := 1) rfl rfl am_o9 rfl rfl ?_
  refine am_Pn.pi (k := 1) rfl rfl am_o1 rfl rfl ?_
  refine am_Pn.bl 2 (y := (18, [some (.ref 1), some (.ref 9), none], [.ref 9, .ref 1], sg_h (sg_uI (sg_uI s 1 0 (s.1 9 0)) 1 1 (s.1 9 1)), 0, 0)) rfl ?_
  refine am_Pn.gi (k := 2) rfl rfl am_o9 rfl rfl ?_
  refine am_Pn.pi (k := 2) rfl rfl am_o1 rfl rfl ?_
  refine am_Pn.bl 2 (y := (26, [some (.ref 1), some (.ref 9), none], [.ref 9, .ref 1], sg_h (sg_uI (sg_uI (sg_uI s 1 0 (s.1 9 0)) 1 1 (s.1 9 1)) 1 2 (s.1 9 2)), 0, 0)) rfl ?_
  refine am_Pn.gi (k := 3) rfl rfl am_o9 rfl rfl ?_
  refine am_Pn.pi (k := 3) rfl rfl am_o1 rfl rfl ?_
  refine am_Pn.bl 2 (y := (34, [some (.ref 1), some (.ref 9), none], [.ref 9, .ref 1], sg_h (sg_uI (sg_uI (sg_uI (sg_uI s 1 0 (s.1 9 0)) 1 1 (s.1 9 1)) 1 2 (s.1 9 2)) 1 3 (s.1 9 3)), 0, 0)) rfl ?_
  refine am_Pn.gi (k := 4) rfl rfl am_o9 rfl rfl ?_
  refine am_Pn.pi (k := 4) rfl rfl am_o1 rfl rfl ?_
  refine am_Pn.bl 2 (y := (42, [some (.ref 1), some (.ref 9), some (.int (Int32.ofInt (0)))], [], sg_h (sg_uI (sg_uI (sg_uI (sg_uI (sg_uI s 1 0 (s.1 9 0)) 1 1 (s.1 9 1)) 1 2 (s.1 9 2)) 1 3 (s.1 9 3)) 1 4 (s.1 9 4)), 0, 0)) rfl ?_
  exact ((key n)) (Int32.ofInt (0)) (sg_uI (sg_uI (sg_uI (sg_uI (sg_uI s 1 0 (s.1 9 0)) 1 1 (s.1 9 1)) 1 2 (s.1 9 2)) 1 3 (s.1 9 3)) 1 4 (s.1 9 4)) h
def wp_XRules_firstNumber_1 (Ψ : Int32 → sg_S → Prop) (x1 : Int32) (s : sg_S) : Prop := (0 ≤ x1.toInt → x1.toInt < (12) → (((s.2.2.1 4 (x1.toInt.toNat)).toInt = (3) → (Ψ (s.2.2.1 6 (x1.toInt.toNat)) s)) ∧ (¬ (s.2.2.1 4 (x1.toInt.toNat)).toInt = (3) → (Ψ (Int32.ofInt (0)) s))))
set_option maxRecDepth 100000 in
theorem wp_XRules_firstNumber_1_ok {Ψ : Int32 → sg_S → Prop} {x1 : Int32} {s : sg_S} (h : wp_XRules_firstNumber_1 Ψ x1 s) : am_SpI 71 [.ref 1, .int x1] s Ψ := by
  refine am_SpI.mk (r := am_r71) rfl rfl (fun call d al n hcl => ?_)
  unfold wp_XRules_firstNumber_1 at h
  refine am_Pn.bl 1 (y := (1, [some (.ref 1), some (.int x1)], [.ref 1], sg_h s, 0, 0)) rfl ?_
  refine am_Pn.gr (k := 8) rfl rfl am_o1 rfl rfl ?_
  refine am_Pn.bl 1 (y := (5, [some (.ref 1), some (.int x1)], [.int x1, .ref 4], sg_h s, 0, 0)) rfl ?_
  refine am_Pn.ia (a := 4) rfl rfl rfl rfl (fun hi => ?_)
  replace h := h (am_in0 hi) (am_in1 hi)
  refine am_Pn.bl 1 (y := (7, [some (.ref 1), some (.int x1)], [.int (Int32.ofInt (3)), .int (s.2.2.1 4 (x1.toInt.toNat))], sg_h s, 0, 0)) rfl ?_
  refine am_Pn.bF h (am_bne rfl rfl) rfl rfl (fun h => ?_) (fun h => ?_)
  · refine am_Pn.bl 1 (y := (20, [some (.ref 1), some (.int x1)], [.int (Int32.ofInt (0))], sg_h s, 0, 0)) rfl ?_
    exact am_Pn.rI h rfl
  · refine am_Pn.bl 1 (y := (11, [some (.ref 1), some (.int x1)], [.ref 1], sg_h s, 0, 0)) rfl ?_
    refine am_Pn.gr (k := 10) rfl rfl am_o1 rfl rfl ?_
    refine am_Pn.bl 1 (y := (15, [some (.ref 1), some (.int x1)], [.int x1, .ref 6], sg_h s, 0, 0)) rfl ?_
    refine am_Pn.ia (a := 6) rfl rfl rfl rfl (fun hi => ?_)
    refine am_Pn.bl 1 (y := (20, [some (.ref 1), some (.int x1)], [.int (s.2.2.1 6 (x1.toInt.toNat))], sg_h s, 0, 0)) rfl ?_
    exact am_Pn.rI h rfl
def wp_XValues_clear (Ψ : sg_S → Prop) (s : sg_S) : Prop := (am_SpV 213 [.ref 23, .int (Int32.ofInt (0))] s (fun s1 => (Ψ s1)))
set_option maxRecDepth 100000 in
theorem wp_XValues_clear_ok {Ψ : sg_S → Prop} {s : sg_S} (h : wp_XValues_clear Ψ  s) : am_SpV 114 [.ref 22] s Ψ := by
  refine am_SpV.mk (r := am_r114) rfl rfl (fun call d al n hcl => ?_)
  unfold wp_XValues_clear at h
  refine am_Pn.bl 1 (y := (1, [some (.ref 22)], [.ref 22], sg_h s, 0, 0)) rfl ?_
  refine am_Pn.gr (k := 0) rfl rfl am_o22 rfl rfl ?_
  refine am_Pn.bl 1 (y := (5, [some (.ref 22)], [.int (Int32.ofInt (0)), .ref 23], sg_h s, 0, 0)) rfl ?_
  refine am_Pn.csV hcl h rfl rfl rfl rfl rfl (fun s1 h => ?_)
  exact am_Pn.rV h rfl
def wp_XBook_clear (Ψ : sg_S → Prop) (s : sg_S) : Prop := (Ψ (sg_uI s 18 1 (Int32.ofInt (0))))
set_option maxRecDepth 100000 in
theorem wp_XBook_clear_ok {Ψ : sg_S → Prop} {s : sg_S} (h : wp_XBook_clear Ψ  s) : am_SpV 1 [.ref 18] s Ψ := by
  refine am_SpV.mk (r := am_r1) rfl rfl (fun call d al n hcl => ?_)
  unfold wp_XBook_clear at h
  refine am_Pn.bl 2 (y := (2, [some (.ref 18)], [.int (Int32.ofInt (0)), .ref 18], sg_h s, 0, 0)) rfl ?_
  refine am_Pn.pi (k := 1) rfl rfl am_o18 rfl rfl ?_
  exact am_Pn.rV h rfl
def wp_XPoets_forgetPasses_2 (I2 : Int32 →  sg_S → Prop) (Ψ : sg_S → Prop) (l1 : Int32) (s : sg_S) : Prop := ((l1.toInt < (s.1 24 0).toInt → (0 ≤ l1.toInt → l1.toInt < (12) → (I2 (l1 + Int32.ofInt (1)) (sg_uA s 27 (l1.toInt.toNat) (vp_nar .boolean (Int32.ofInt (0))))))) ∧ (¬ l1.toInt < (s.1 24 0).toInt → (Ψ s)))
def wp_XPoets_forgetPasses (I2 : Int32 →  sg_S → Prop) (Ψ : sg_S → Prop) (s : sg_S) : Prop := (I2 (Int32.ofInt (0)) s)
set_option maxRecDepth 100000 in
theorem wp_XPoets_forgetPasses_ok {I2 : Int32 →  sg_S → Prop} {Ψ : sg_S → Prop} {s : sg_S} (k2 : ∀ (l1 : Int32) (s : sg_S), I2 l1 s → wp_XPoets_forgetPasses_2 I2 Ψ  l1 s) (h : wp_XPoets_forgetPasses I2 Ψ  s) : am_SpV 35 [.ref 24] s Ψ := by
  refine am_SpV.mk (r := am_r35) rfl rfl (fun call d al n hcl => ?_)
  have key : ∀ n, (∀ (l1 : Int32) (s : sg_S), I2 l1 s → am_Pn call d (0, fun _ => 0) al am_r35 (am_PhV am_r35 Ψ) n (2, [some (.ref 24), some (.int l1)], [], sg_h s, 0, 0)) := by
    intro n
    induction n with
    | zero => exact fun _ _ _ => am_Pn.zero
    | succ n ih =>
      intro l1 s h
      replace h := k2 l1 s h
      unfold wp_XPoets_forgetPasses_2 at h
      refine am_Pn.bl1 1 (y := (4, [some (.ref 24), some (.int l1)], [.ref 24, .int l1], sg_h s, 0, 0)) rfl ?_
      refine am_Pn.gi (k := 0) rfl rfl am_o24 rfl rfl ?_
      refine am_Pn.bF h (am_bge rfl rfl) rfl rfl (fun h => ?_) (fun h => ?_)
      · exact am_Pn.rV h rfl
      · refine am_Pn.bl 1 (y := (11, [some (.ref 24), some (.int l1)], [.ref 24], sg_h s, 0, 0)) rfl ?_
        refine am_Pn.gr (k := 3) rfl rfl am_o24 rfl rfl ?_
        refine am_Pn.bl 2 (y := (16, [some (.ref 24), some (.int l1)], [.int (Int32.ofInt (0)), .int l1, .ref 27], sg_h s, 0, 0)) rfl ?_
        refine am_Pn.bs (a := 27) rfl rfl rfl (fun hi => ?_)
        replace h := h (am_in0 hi) (am_in1 hi)
        refine am_Pn.bl 2 (y := (2, [some (.ref 24), some (.int (l1 + Int32.ofInt (1)))], [], sg_h (sg_uA s 27 (l1.toInt.toNat) (vp_nar .boolean (Int32.ofInt (0)))), 0, 0)) rfl ?_
        exact (ih) (l1 + Int32.ofInt (1)) (sg_uA s 27 (l1.toInt.toNat) (vp_nar .boolean (Int32.ofInt (0)))) h
  unfold wp_XPoets_forgetPasses at h
  refine am_Pn.bl 2 (y := (2, [some (.ref 24), some (.int (Int32.ofInt (0)))], [], sg_h s, 0, 0)) rfl ?_
  exact ((key n)) (Int32.ofInt (0)) s h
def wp_XPoets_leaveSheet (Ψ : sg_S → Prop) (s : sg_S) : Prop := (am_SpV 213 [.ref 26, .int (Int32.ofInt (0))] s (fun s1 => (am_SpV 35 [.ref 24] s1 (fun s2 => (Ψ s2)))))
set_option maxRecDepth 100000 in
theorem wp_XPoets_leaveSheet_ok {Ψ : sg_S → Prop} {s : sg_S} (h : wp_XPoets_leaveSheet Ψ  s) : am_SpV 34 [.ref 24] s Ψ := by
  refine am_SpV.mk (r := am_r34) rfl rfl (fun call d al n hcl => ?_)
  unfold wp_XPoets_leaveSheet at h
  refine am_Pn.bl 1 (y := (1, [some (.ref 24)], [.ref 24], sg_h s, 0, 0)) rfl ?_
  refine am_Pn.gr (k := 2) rfl rfl am_o24 rfl rfl ?_
  refine am_Pn.bl 1 (y := (5, [some (.ref 24)], [.int (Int32.ofInt (0)), .ref 26], sg_h s, 0, 0)) rfl ?_
  refine am_Pn.csV hcl h rfl rfl rfl rfl rfl (fun s1 h => ?_)
  refine am_Pn.bl 1 (y := (9, [some (.ref 24)], [.ref 24], sg_h s1, 0, 0)) rfl ?_
  refine am_Pn.cvV hcl h rfl rfl rfl rfl rfl (fun s2 h => ?_)
  exact am_Pn.rV h rfl
def wp_XSheet_clear_12 (I12 : Int32 →  sg_S → Prop) (I33 : Int32 →  sg_S → Prop) (Ψ : sg_S → Prop) (l1 : Int32) (s : sg_S) : Prop := (((48) < l1.toInt → (I33 (Int32.ofInt (0)) s)) ∧ (¬ (48) < l1.toInt → (0 ≤ l1.toInt → l1.toInt < (49) → (I12 (l1 + Int32.ofInt (1)) (sg_uA s 33 (l1.toInt.toNat) (vp_nar .boolean (Int32.ofInt (0))))))))
def wp_XSheet_clear_33 (I12 : Int32 →  sg_S → Prop) (I33 : Int32 →  sg_S → Prop) (Ψ : sg_S → Prop) (l1 : Int32) (s : sg_S) : Prop := ((l1.toInt < (s.1 1 2).toInt → (am_SpI 71 [.ref 1, .int l1] s (fun x1 s1 => (0 ≤ l1.toInt → l1.toInt < (588) → (I33 (l1 + Int32.ofInt (1)) (sg_uA s1 34 (l1.toInt.toNat) x1)))))) ∧ (¬ l1.toInt < (s.1 1 2).toInt → (Ψ s)))
def wp_XSheet_clear (I12 : Int32 →  sg_S → Prop) (I33 : Int32 →  sg_S → Prop) (Ψ : sg_S → Prop) (s : sg_S) : Prop := (I12 (Int32.ofInt (0)) (sg_uI (sg_uI s 28 2 (Int32.ofInt (0))) 28 3 (Int32.ofInt (0))))
set_option maxRecDepth 100000 in
theorem wp_XSheet_clear_ok {I12 : Int32 →  sg_S → Prop} {I33 : Int32 →  sg_S → Prop} {Ψ : sg_S → Prop} {s : sg_S} (k12 : ∀ (l1 : Int32) (s : sg_S), I12 l1 s → wp_XSheet_clear_12 I12 I33 Ψ  l1 s) (k33 : ∀ (l1 : Int32) (s : sg_S), I33 l1 s → wp_XSheet_clear_33 I12 I33 Ψ  l1 s) (h : wp_XSheet_clear I12 I33 Ψ  s) : am_SpV 81 [.ref 28] s Ψ := by
  refine am_SpV.mk (r := am_r81) rfl rfl (fun call d al n hcl => ?_)
  have key : ∀ n, (∀ (l1 : Int32) (s : sg_S), I12 l1 s → am_Pn call d (0, fun _ => 0) al am_r81 (am_PhV am_r81 Ψ) n (12, [some (.ref 28), some (.int l1)], [], sg_h s, 0, 0)) ∧ (∀ (l1 : Int32) (s : sg_S), I33 l1 s → am_Pn call d (0, fun _ => 0) al am_r81 (am_PhV am_r81 Ψ) n (33, [some (.ref 28), some (.int l1)], [], sg_h s, 0, 0)) := by
    intro n
    induction n with
    | zero => exact ⟨fun _ _ _ => am_Pn.zero, fun _ _ _ => am_Pn.zero⟩
    | succ n ih =>
      refine ⟨?_, ?_⟩
      · intro l1 s h
        replace h := k12 l1 s h
        unfold wp_XSheet_clear_12 at h
        refine am_Pn.bl1 1 (y := (15, [some (.ref 28), some (.int l1)], [.int (Int32.ofInt (48)), .int l1], sg_h s, 0, 0)) rfl ?_
        refine am_Pn.bT h (am_bgt rfl rfl) rfl rfl (fun h => ?_) (fun h => ?_)
        · refine am_Pn.bl 2 (y := (33, [some (.ref 28), some (.int (Int32.ofInt (0)))], [], sg_h s, 0, 0)) rfl ?_
          exact (ih.2) (Int32.ofInt (0)) s h
        · refine am_Pn.bl 1 (y := (19, [some (.ref 28), some (.int l1)], [.ref 28], sg_h s, 0, 0)) rfl ?_
          refine am_Pn.gr (k := 8) rfl rfl am_o28 rfl rfl ?_
          refine am_Pn.bl 2 (y := (24, [some (.ref 28), some (.int l1)], [.int (Int32.ofInt (0)), .int l1, .ref 33], sg_h s, 0, 0)) rfl ?_
          refine am_Pn.bs (a := 33) rfl rfl rfl (fun hi => ?_)
          replace h := h (am_in0 hi) (am_in1 hi)
          refine am_Pn.bl 2 (y := (12, [some (.ref 28), some (.int (l1 + Int32.ofInt (1)))], [], sg_h (sg_uA s 33 (l1.toInt.toNat) (vp_nar .boolean (Int32.ofInt (0)))), 0, 0)) rfl ?_
          exact (ih.1) (l1 + Int32.ofInt (1)) (sg_uA s 33 (l1.toInt.toNat) (vp_nar .boolean (Int32.ofInt (0)))) h
      · intro l1 s h
        replace h := k33 l1 s h
        unfold wp_XSheet_clear_33 at h
        refine am_Pn.bl1 1 (y := (35, [some (.ref 28), some (.int l1)], [.ref 28, .int l1], sg_h s, 0, 0)) rfl ?_
        refine am_Pn.gr (k := 0) rfl rfl am_o28 rfl rfl ?_
        refine am_Pn.gi (k := 2) rfl rfl am_o1 rfl rfl ?_
        refine am_Pn.bF h (am_bge rfl rfl) rfl rfl (fun h => ?_) (fun h => ?_)
        · exact am_Pn.rV h rfl
        · refine am_Pn.bl 1 (y := (45, [some (.ref 28), some (.int l1)], [.ref 28], sg_h s, 0, 0)) rfl ?_
          refine am_Pn.gr (k := 9) rfl rfl am_o28 rfl rfl ?_
          refine am_Pn.bl 2 (y := (50, [some (.ref 28), some (.int l1)], [.ref 28, .int l1, .ref 34], sg_h s, 0, 0)) rfl ?_
          refine am_Pn.gr (k := 0) rfl rfl am_o28 rfl rfl ?_
          refine am_Pn.bl 1 (y := (54, [some (.ref 28), some (.int l1)], [.int l1, .ref 1, .int l1, .ref 34], sg_h s, 0, 0)) rfl ?_
          refine am_Pn.cvI hcl h rfl rfl rfl rfl rfl (fun x1 s1 h => ?_)
          refine am_Pn.is (a := 34) rfl rfl rfl (fun hi => ?_)
          replace h := h (am_in0 hi) (am_in1 hi)
          refine am_Pn.bl 2 (y := (33, [some (.ref 28), some (.int (l1 + Int32.ofInt (1)))], [], sg_h (sg_uA s1 34 (l1.toInt.toNat) x1), 0, 0)) rfl ?_
          exact (ih.2) (l1 + Int32.ofInt (1)) (sg_uA s1 34 (l1.toInt.toNat) x1) h
  unfold wp_XSheet_clear at h
  refine am_Pn.bl 2 (y := (2, [some (.ref 28), none], [.int (Int32.ofInt (0)), .ref 28], sg_h s, 0, 0)) rfl ?_
  refine am_Pn.pi (k := 2) rfl rfl am_o28 rfl rfl ?_
  refine am_Pn.bl 2 (y := (7, [some (.ref 28), none], [.int (Int32.ofInt (0)), .ref 28], sg_h (sg_uI s 28 2 (Int32.ofInt (0))), 0, 0)) rfl ?_
  refine am_Pn.pi (k := 3) rfl rfl am_o28 rfl rfl ?_
  refine am_Pn.bl 2 (y := (12, [some (.ref 28), some (.int (Int32.ofInt (0)))], [], sg_h (sg_uI (sg_uI s 28 2 (Int32.ofInt (0))) 28 3 (Int32.ofInt (0))), 0, 0)) rfl ?_
  exact ((key n).1) (Int32.ofInt (0)) (sg_uI (sg_uI s 28 2 (Int32.ofInt (0))) 28 3 (Int32.ofInt (0))) h
def wp_XEnding_forget (Ψ : sg_S → Prop) (s : sg_S) : Prop := (am_SpV 213 [.ref 37, .int (Int32.ofInt (-1))] (sg_uI s 35 4 (Int32.ofInt (0))) (fun s1 => (am_SpV 213 [.ref 38, .int (Int32.ofInt (-1))] s1 (fun s2 => (Ψ s2)))))
set_option maxRecDepth 100000 in
theorem wp_XEnding_forget_ok {Ψ : sg_S → Prop} {s : sg_S} (h : wp_XEnding_forget Ψ  s) : am_SpV 11 [.ref 35] s Ψ := by
  refine am_SpV.mk (r := am_r11) rfl rfl (fun call d al n hcl => ?_)
  unfold wp_XEnding_forget at h
  refine am_Pn.bl 2 (y := (2, [some (.ref 35)], [.int (Int32.ofInt (0)), .ref 35], sg_h s, 0, 0)) rfl ?_
  refine am_Pn.pi (k := 4) rfl rfl am_o35 rfl rfl ?_
  refine am_Pn.bl 1 (y := (6, [some (.ref 35)], [.ref 35], sg_h (sg_uI s 35 4 (Int32.ofInt (0))), 0, 0)) rfl ?_
  refine am_Pn.gr (k := 5) rfl rfl am_o35 rfl rfl ?_
  refine am_Pn.bl 1 (y := (10, [some (.ref 35)], [.int (Int32.ofInt (-1)), .ref 37], sg_h (sg_uI s 35 4 (Int32.ofInt (0))), 0, 0)) rfl ?_
  refine am_Pn.csV hcl h rfl rfl rfl rfl rfl (fun s1 h => ?_)
  refine am_Pn.bl 1 (y := (14, [some (.ref 35)], [.ref 35], sg_h s1, 0, 0)) rfl ?_
  refine am_Pn.gr (k := 6) rfl rfl am_o35 rfl rfl ?_
  refine am_Pn.bl 1 (y := (18, [some (.ref 35)], [.int (Int32.ofInt (-1)), .ref 38], sg_h s1, 0, 0)) rfl ?_
  refine am_Pn.csV hcl h rfl rfl rfl rfl rfl (fun s2 h => ?_)
  exact am_Pn.rV h rfl
def wp_XEnding_clear (Ψ : sg_S → Prop) (s : sg_S) : Prop := (am_SpV 11 [.ref 35] (sg_uI s 35 3 (Int32.ofInt (0))) (fun s1 => (Ψ s1)))
set_option maxRecDepth 100000 in
theorem wp_XEnding_clear_ok {Ψ : sg_S → Prop} {s : sg_S} (h : wp_XEnding_clear Ψ  s) : am_SpV 10 [.ref 35] s Ψ := by
  refine am_SpV.mk (r := am_r10) rfl rfl (fun call d al n hcl => ?_)
  unfold wp_XEnding_clear at h
  refine am_Pn.bl 2 (y := (2, [some (.ref 35)], [.int (Int32.ofInt (0)), .ref 35], sg_h s, 0, 0)) rfl ?_
  refine am_Pn.pi (k := 3) rfl rfl am_o35 rfl rfl ?_
  refine am_Pn.bl 1 (y := (6, [some (.ref 35)], [.ref 35], sg_h (sg_uI s 35 3 (Int32.ofInt (0))), 0, 0)) rfl ?_
  refine am_Pn.cvV hcl h rfl rfl rfl rfl rfl (fun s1 h => ?_)
  exact am_Pn.rV h rfl
def wp_XStore_forgetBest (Ψ : sg_S → Prop) (s : sg_S) : Prop := (Ψ (sg_uI s 58 7 (Int32.ofInt (0))))
set_option maxRecDepth 100000 in
theorem wp_XStore_forgetBest_ok {Ψ : sg_S → Prop} {s : sg_S} (h : wp_XStore_forgetBest Ψ  s) : am_SpV 107 [.ref 58] s Ψ := by
  refine am_SpV.mk (r := am_r107) rfl rfl (fun call d al n hcl => ?_)
  unfold wp_XStore_forgetBest at h
  refine am_Pn.bl 2 (y := (2, [some (.ref 58)], [.int (Int32.ofInt (0)), .ref 58], sg_h s, 0, 0)) rfl ?_
  refine am_Pn.pi (k := 7) rfl rfl am_o58 rfl rfl ?_
  exact am_Pn.rV h rfl
def wp_XStore_clear (Ψ : sg_S → Prop) (s : sg_S) : Prop := (am_SpV 107 [.ref 58] (sg_uI s 58 4 (Int32.ofInt (0))) (fun s1 => (Ψ s1)))
set_option maxRecDepth 100000 in
theorem wp_XStore_clear_ok {Ψ : sg_S → Prop} {s : sg_S} (h : wp_XStore_clear Ψ  s) : am_SpV 106 [.ref 58] s Ψ := by
  refine am_SpV.mk (r := am_r106) rfl rfl (fun call d al n hcl => ?_)
  unfold wp_XStore_clear at h
  refine am_Pn.bl 2 (y := (2, [some (.ref 58)], [.int (Int32.ofInt (0)), .ref 58], sg_h s, 0, 0)) rfl ?_
  refine am_Pn.pi (k := 4) rfl rfl am_o58 rfl rfl ?_
  refine am_Pn.bl 1 (y := (6, [some (.ref 58)], [.ref 58], sg_h (sg_uI s 58 4 (Int32.ofInt (0))), 0, 0)) rfl ?_
  refine am_Pn.cvV hcl h rfl rfl rfl rfl rfl (fun s1 h => ?_)
  exact am_Pn.rV h rfl
def wp_X_beginAnew (Ψ : sg_S → Prop) (s : sg_S) : Prop := (am_SpV 114 [.ref 22] s (fun s1 => (am_SpV 1 [.ref 18] s1 (fun s2 => (am_SpV 34 [.ref 24] s2 (fun s3 => (am_SpV 81 [.ref 28] s3 (fun s4 => (am_SpV 10 [.ref 35] s4 (fun s5 => (am_SpV 106 [.ref 58] s5 (fun s6 => (Ψ s6)))))))))))))
set_option maxRecDepth 100000 in
theorem wp_X_beginAnew_ok {Ψ : sg_S → Prop} {s : sg_S} (h : wp_X_beginAnew Ψ  s) : am_SpV 121 [.ref 0] s Ψ := by
  refine am_SpV.mk (r := am_r121) rfl rfl (fun call d al n hcl => ?_)
  unfold wp_X_beginAnew at h
  refine am_Pn.bl 1 (y := (1, [some (.ref 0)], [.ref 0], sg_h s, 0, 0)) rfl ?_
  refine am_Pn.gr (k := 3) rfl rfl am_o0 rfl rfl ?_
  refine am_Pn.cvV hcl h rfl rfl rfl rfl rfl (fun s1 h => ?_)
  refine am_Pn.bl 1 (y := (8, [some (.ref 0)], [.ref 0], sg_h s1, 0, 0)) rfl ?_
  refine am_Pn.gr (k := 2) rfl rfl am_o0 rfl rfl ?_
  refine am_Pn.cvV hcl h rfl rfl rfl rfl rfl (fun s2 h => ?_)
  refine am_Pn.bl 1 (y := (15, [some (.ref 0)], [.ref 0], sg_h s2, 0, 0)) rfl ?_
  refine am_Pn.gr (k := 4) rfl rfl am_o0 rfl rfl ?_
  refine am_Pn.cvV hcl h rfl rfl rfl rfl rfl (fun s3 h => ?_)
  refine am_Pn.bl 1 (y := (22, [some (.ref 0)], [.ref 0], sg_h s3, 0, 0)) rfl ?_
  refine am_Pn.gr (k := 5) rfl rfl am_o0 rfl rfl ?_
  refine am_Pn.cvV hcl h rfl rfl rfl rfl rfl (fun s4 h => ?_)
  refine am_Pn.bl 1 (y := (29, [some (.ref 0)], [.ref 0], sg_h s4, 0, 0)) rfl ?_
  refine am_Pn.gr (k := 6) rfl rfl am_o0 rfl rfl ?_
  refine am_Pn.cvV hcl h rfl rfl rfl rfl rfl (fun s5 h => ?_)
  refine am_Pn.bl 1 (y := (36, [some (.ref 0)], [.ref 0], sg_h s5, 0, 0)) rfl ?_
  refine am_Pn.gr (k := 7) rfl rfl am_o0 rfl rfl ?_
  refine am_Pn.cvV hcl h rfl rfl rfl rfl rfl (fun s6 h => ?_)
  exact am_Pn.rV h rfl
def wp_M_begins_42 (I42 : Int32 →  sg_S → Prop) (I106 : Int32 →  sg_S → Prop) (I162 : Int32 →  sg_S → Prop) (Ψ : sg_S → Prop) (l1 : Int32) (s : sg_S) : Prop := ((l1.toInt < (s.1 64 23).toInt → (0 ≤ l1.toInt → l1.toInt < (12) → (I42 (l1 + Int32.ofInt (1)) (sg_uA (sg_uA (sg_uA (sg_uA s 72 (l1.toInt.toNat) (s.2.2.1 68 (l1.toInt.toNat))) 73 (l1.toInt.toNat) (s.2.2.1 69 (l1.toInt.toNat))) 74 (l1.toInt.toNat) (s.2.2.1 70 (l1.toInt.toNat))) 75 (l1.toInt.toNat) (s.2.2.1 71 (l1.toInt.toNat)))))) ∧ (¬ l1.toInt < (s.1 64 23).toInt → (I106 (Int32.ofInt (0)) s)))
def wp_M_begins_106 (I42 : Int32 →  sg_S → Prop) (I106 : Int32 →  sg_S → Prop) (I162 : Int32 →  sg_S → Prop) (Ψ : sg_S → Prop) (l1 : Int32) (s : sg_S) : Prop := ((l1.toInt < (64) → (0 ≤ l1.toInt → l1.toInt < (64) → (I106 (l1 + Int32.ofInt (1)) (sg_uA s 81 (l1.toInt.toNat) (Int32.ofInt (0)))))) ∧ (¬ l1.toInt < (64) → (I162 (Int32.ofInt (0)) (sg_uI (sg_uI (sg_uI (sg_uI (sg_uI (sg_uI (sg_uI s 64 34 (Int32.ofInt (0))) 64 40 (Int32.ofInt (0))) 64 46 (Int32.ofInt (0))) 64 58 (Int32.ofInt (0))) 64 56 (Int32.ofInt (0))) 64 55 (Int32.ofInt (0))) 64 60 (Int32.ofInt (0))))))
def wp_M_begins_162 (I42 : Int32 →  sg_S → Prop) (I106 : Int32 →  sg_S → Prop) (I162 : Int32 →  sg_S → Prop) (Ψ : sg_S → Prop) (l1 : Int32) (s : sg_S) : Prop := ((l1.toInt < (12) → (0 ≤ l1.toInt → l1.toInt < (12) → (I162 (l1 + Int32.ofInt (1)) (sg_uA s 77 (l1.toInt.toNat) (vp_nar .boolean (Int32.ofInt (0))))))) ∧ (¬ l1.toInt < (12) → (Ψ s)))
def wp_M_begins (I42 : Int32 →  sg_S → Prop) (I106 : Int32 →  sg_S → Prop) (I162 : Int32 →  sg_S → Prop) (Ψ : sg_S → Prop) (s : sg_S) : Prop := (I42 (Int32.ofInt (0)) (sg_uI (sg_uI (sg_uI (sg_uI (sg_uI s 64 21 (s.1 64 9)) 64 22 (s.1 64 10)) 64 23 (s.1 64 11)) 64 24 (s.1 64 12)) 64 25 (s.1 64 13)))
set_option maxRecDepth 100000 in
theorem wp_M_begins_ok {I42 : Int32 →  sg_S → Prop} {I106 : Int32 →  sg_S → Prop} {I162 : Int32 →  sg_S → Prop} {Ψ : sg_S → Prop} {s : sg_S} (k42 : ∀ (l1 : Int32) (s : sg_S), I42 l1 s → wp_M_begins_42 I42 I106 I162 Ψ  l1 s) (k106 : ∀ (l1 : Int32) (s : sg_S), I106 l1 s → wp_M_begins_106 I42 I106 I162 Ψ  l1 s) (k162 : ∀ (l1 : Int32) (s : sg_S), I162 l1 s → wp_M_begins_162 I42 I106 I162 Ψ  l1 s) (h : wp_M_begins I42 I106 I162 Ψ  s) : am_SpV 166 [.ref 64] s Ψ := by
  refine am_SpV.mk (r := am_r166) rfl rfl (fun call d al n hcl => ?_)
  have key : ∀ n, (∀ (l1 : Int32) (s : sg_S), I42 l1 s → am_Pn call d (0, fun _ => 0) al am_r166 (am_PhV am_r166 Ψ) n (42, [some (.ref 64), some (.int l1)], [], sg_h s, 0, 0)) ∧ (∀ (l1 : Int32) (s : sg_S), I106 l1 s → am_Pn call d (0, fun _ => 0) al am_r166 (am_PhV am_r166 Ψ) n (106, [some (.ref 64), some (.int l1)], [], sg_h s, 0, 0)) ∧ (∀ (l1 : Int32) (s : sg_S), I162 l1 s → am_Pn call d (0, fun _ => 0) al am_r166 (am_PhV am_r166 Ψ) n (162, [some (.ref 64), some (.int l1)], [], sg_h s, 0, 0)) := by
    intro n
    induction n with
    | zero => exact ⟨fun _ _ _ => am_Pn.zero, fun _ _ _ => am_Pn.zero, fun _ _ _ => am_Pn.zero⟩
    | succ n ih =>
      refine ⟨?_, ?_, ?_⟩
      · intro l1 s h
        replace h := k42 l1 s h
        unfold wp_M_begins_42 at h
        refine am_Pn.bl1 1 (y := (44, [some (.ref 64), some (.int l1)], [.ref 64, .int l1], sg_h s, 0, 0)) rfl ?_
        refine am_Pn.gi (k := 23) rfl rfl am_o64 rfl rfl ?_
        refine am_Pn.bF h (am_bge rfl rfl) rfl rfl (fun h => ?_) (fun h => ?_)
        · refine am_Pn.bl 2 (y := (106, [some (.ref 64), some (.int (Int32.ofInt (0)))], [], sg_h s, 0, 0)) rfl ?_
          exact (ih.2.1) (Int32.ofInt (0)) s h
        · refine am_Pn.bl 1 (y := (51, [some (.ref 64), some (.int l1)], [.ref 64], sg_h s, 0, 0)) rfl ?_
          refine am_Pn.gr (k := 26) rfl rfl am_o64 rfl rfl ?_
          refine am_Pn.bl 2 (y := (56, [some (.ref 64), some (.int l1)], [.ref 64, .int l1, .ref 72], sg_h s, 0, 0)) rfl ?_
          refine am_Pn.gr (k := 17) rfl rfl am_o64 rfl rfl ?_
          refine am_Pn.bl 1 (y := (60, [some (.ref 64), some (.int l1)], [.int l1, .ref 68, .int l1, .ref 72], sg_h s, 0, 0)) rfl ?_
          refine am_Pn.ia (a := 68) rfl rfl rfl rfl (fun hi => ?_)
          replace h := h (am_in0 hi) (am_in1 hi)
          refine am_Pn.is (a := 72) rfl rfl rfl (fun hi => ?_)
          refine am_Pn.bl 1 (y := (63, [some (.ref 64), some (.int l1)], [.ref 64], sg_h (sg_uA s 72 (l1.toInt.toNat) (s.2.2.1 68 (l1.toInt.toNat))), 0, 0)) rfl ?_
          refine am_Pn.gr (k := 27) rfl rfl am_o64 rfl rfl ?_
          refine am_Pn.bl 2 (y := (68, [some (.ref 64), some (.int l1)], [.ref 64, .int l1, .ref 73], sg_h (sg_uA s 72 (l1.toInt.toNat) (s.2.2.1 68 (l1.toInt.toNat))), 0, 0)) rfl ?_
          refine am_Pn.gr (k := 18) rfl rfl am_o64 rfl rfl ?_
          refine am_Pn.bl 1 (y := (72, [some (.ref 64), some (.int l1)], [.int l1, .ref 69, .int l1, .ref 73], sg_h (sg_uA s 72 (l1.toInt.toNat) (s.2.2.1 68 (l1.toInt.toNat))), 0, 0)) rfl ?_
          refine am_Pn.ia (a := 69) rfl rfl rfl rfl (fun hi => ?_)
          refine am_Pn.is (a := 73) rfl rfl rfl (fun hi => ?_)
          refine am_Pn.bl 1 (y := (75, [some (.ref 64), some (.int l1)], [.ref 64], sg_h (sg_uA (sg_uA s 72 (l1.toInt.toNat) (s.2.2.1 68 (l1.toInt.toNat))) 73 (l1.toInt.toNat) (s.2.2.1 69 (l1.toInt.toNat))), 0, 0)) rfl ?_
          refine am_Pn.gr (k := 28) rfl rfl am_o64 rfl rfl ?_
          refine am_Pn.bl 2 (y := (80, [some (.ref 64), some (.int l1)], [.ref 64, .int l1, .ref 74], sg_h (sg_uA (sg_uA s 72 (l1.toInt.toNat) (s.2.2.1 68 (l1.toInt.toNat))) 73 (l1.toInt.toNat) (s.2.2.1 69 (l1.toInt.toNat))), 0, 0)) rfl ?_
          refine am_Pn.gr (k := 19) rfl rfl am_o64 rfl rfl ?_
          refine am_Pn.bl 1 (y := (84, [some (.ref 64), some (.int l1)], [.int l1, .ref 70, .int l1, .ref 74], sg_h (sg_uA (sg_uA s 72 (l1.toInt.toNat) (s.2.2.1 68 (l1.toInt.toNat))) 73 (l1.toInt.toNat) (s.2.2.1 69 (l1.toInt.toNat))), 0, 0)) rfl ?_
          refine am_Pn.ia (a := 70) rfl rfl rfl rfl (fun hi => ?_)
          refine am_Pn.is (a := 74) rfl rfl rfl (fun hi => ?_)
          refine am_Pn.bl 1 (y := (87, [some (.ref 64), some (.int l1)], [.ref 64], sg_h (sg_uA (sg_uA (sg_uA s 72 (l1.toInt.toNat) (s.2.2.1 68 (l1.toInt.toNat))) 73 (l1.toInt.toNat) (s.2.2.1 69 (l1.toInt.toNat))) 74 (l1.toInt.toNat) (s.2.2.1 70 (l1.toInt.toNat))), 0, 0)) rfl ?_
          refine am_Pn.gr (k := 29) rfl rfl am_o64 rfl rfl ?_
          refine am_Pn.bl 2 (y := (92, [some (.ref 64), some (.int l1)], [.ref 64, .int l1, .ref 75], sg_h (sg_uA (sg_uA (sg_uA s 72 (l1.toInt.toNat) (s.2.2.1 68 (l1.toInt.toNat))) 73 (l1.toInt.toNat) (s.2.2.1 69 (l1.toInt.toNat))) 74 (l1.toInt.toNat) (s.2.2.1 70 (l1.toInt.toNat))), 0, 0)) rfl ?_
          refine am_Pn.gr (k := 20) rfl rfl am_o64 rfl rfl ?_
          refine am_Pn.bl 1 (y := (96, [some (.ref 64), some (.int l1)], [.int l1, .ref 71, .int l1, .ref 75], sg_h (sg_uA (sg_uA (sg_uA s 72 (l1.toInt.toNat) (s.2.2.1 68 (l1.toInt.toNat))) 73 (l1.toInt.toNat) (s.2.2.1 69 (l1.toInt.toNat))) 74 (l1.toInt.toNat) (s.2.2.1 70 (l1.toInt.toNat))), 0, 0)) rfl ?_
          refine am_Pn.ia (a := 71) rfl rfl rfl rfl (fun hi => ?_)
          refine am_Pn.is (a := 75) rfl rfl rfl (fun hi => ?_)
          refine am_Pn.bl 2 (y := (42, [some (.ref 64), some (.int (l1 + Int32.ofInt (1)))], [], sg_h (sg_uA (sg_uA (sg_uA (sg_uA s 72 (l1.toInt.toNat) (s.2.2.1 68 (l1.toInt.toNat))) 73 (l1.toInt.toNat) (s.2.2.1 69 (l1.toInt.toNat))) 74 (l1.toInt.toNat) (s.2.2.1 70 (l1.toInt.toNat))) 75 (l1.toInt.toNat) (s.2.2.1 71 (l1.toInt.toNat))), 0, 0)) rfl ?_
          exact (ih.1) (l1 + Int32.ofInt (1)) (sg_uA (sg_uA (sg_uA (sg_uA s 72 (l1.toInt.toNat) (s.2.2.1 68 (l1.toInt.toNat))) 73 (l1.toInt.toNat) (s.2.2.1 69 (l1.toInt.toNat))) 74 (l1.toInt.toNat) (s.2.2.1 70 (l1.toInt.toNat))) 75 (l1.toInt.toNat) (s.2.2.1 71 (l1.toInt.toNat))) h
      · intro l1 s h
        replace h := k106 l1 s h
        unfold wp_M_begins_106 at h
        refine am_Pn.bl1 1 (y := (109, [some (.ref 64), some (.int l1)], [.int (Int32.ofInt (64)), .int l1], sg_h s, 0, 0)) rfl ?_
        refine am_Pn.bF h (am_bge rfl rfl) rfl rfl (fun h => ?_) (fun h => ?_)
        · refine am_Pn.bl 2 (y := (127, [some (.ref 64), some (.int l1)], [.int (Int32.ofInt (0)), .ref 64], sg_h s, 0, 0)) rfl ?_
          refine am_Pn.pi (k := 34) rfl rfl am_o64 rfl rfl ?_
          refine am_Pn.bl 2 (y := (132, [some (.ref 64), some (.int l1)], [.int (Int32.ofInt (0)), .ref 64], sg_h (sg_uI s 64 34 (Int32.ofInt (0))), 0, 0)) rfl ?_
          refine am_Pn.pi (k := 40) rfl rfl am_o64 rfl rfl ?_
          refine am_Pn.bl 2 (y := (137, [some (.ref 64), some (.int l1)], [.int (Int32.ofInt (0)), .ref 64], sg_h (sg_uI (sg_uI s 64 34 (Int32.ofInt (0))) 64 40 (Int32.ofInt (0))), 0, 0)) rfl ?_
          refine am_Pn.pi (k := 46) rfl rfl am_o64 rfl rfl ?_
          refine am_Pn.bl 2 (y := (142, [some (.ref 64), some (.int l1)], [.int (Int32.ofInt (0)), .ref 64], sg_h (sg_uI (sg_uI (sg_uI s 64 34 (Int32.ofInt (0))) 64 40 (Int32.ofInt (0))) 64 46 (Int32.ofInt (0))), 0, 0)) rfl ?_
          refine am_Pn.pi (k := 58) rfl rfl am_o64 rfl rfl ?_
          refine am_Pn.bl 2 (y := (147, [some (.ref 64), some (.int l1)], [.int (Int32.ofInt (0)), .ref 64], sg_h (sg_uI (sg_uI (sg_uI (sg_uI s 64 34 (Int32.ofInt (0))) 64 40 (Int32.ofInt (0))) 64 46 (Int32.ofInt (0))) 64 58 (Int32.ofInt (0))), 0, 0)) rfl ?_
          refine am_Pn.pi (k := 56) rfl rfl am_o64 rfl rfl ?_
          refine am_Pn.bl 2 (y := (152, [some (.ref 64), some (.int l1)], [.int (Int32.ofInt (0)), .ref 64], sg_h (sg_uI (sg_uI (sg_uI (sg_uI (sg_uI s 64 34 (Int32.ofInt (0))) 64 40 (Int32.ofInt (0))) 64 46 (Int32.ofInt (0))) 64 58 (Int32.ofInt (0))) 64 56 (Int32.ofInt (0))), 0, 0)) rfl ?_
          refine am_Pn.pi (k := 55) rfl rfl am_o64 rfl rfl ?_
          refine am_Pn.bl 2 (y := (157, [some (.ref 64), some (.int l1)], [.int (Int32.ofInt (0)), .ref 64], sg_h (sg_uI (sg_uI (sg_uI (sg_uI (sg_uI (sg_uI s 64 34 (Int32.ofInt (0))) 64 40 (Int32.ofInt (0))) 64 46 (Int32.ofInt (0))) 64 58 (Int32.ofInt (0))) 64 56 (Int32.ofInt (0))) 64 55 (Int32.ofInt (0))), 0, 0)) rfl ?_
          refine am_Pn.pi (k := 60) rfl rfl am_o64 rfl rfl ?_
          refine am_Pn.bl 2 (y := (162, [some (.ref 64), some (.int (Int32.ofInt (0)))], [], sg_h (sg_uI (sg_uI (sg_uI (sg_uI (sg_uI (sg_uI (sg_uI s 64 34 (Int32.ofInt (0))) 64 40 (Int32.ofInt (0))) 64 46 (Int32.ofInt (0))) 64 58 (Int32.ofInt (0))) 64 56 (Int32.ofInt (0))) 64 55 (Int32.ofInt (0))) 64 60 (Int32.ofInt (0))), 0, 0)) rfl ?_
          exact (ih.2.2) (Int32.ofInt (0)) (sg_uI (sg_uI (sg_uI (sg_uI (sg_uI (sg_uI (sg_uI s 64 34 (Int32.ofInt (0))) 64 40 (Int32.ofInt (0))) 64 46 (Int32.ofInt (0))) 64 58 (Int32.ofInt (0))) 64 56 (Int32.ofInt (0))) 64 55 (Int32.ofInt (0))) 64 60 (Int32.ofInt (0))) h
        · refine am_Pn.bl 1 (y := (113, [some (.ref 64), some (.int l1)], [.ref 64], sg_h s, 0, 0)) rfl ?_
          refine am_Pn.gr (k := 38) rfl rfl am_o64 rfl rfl ?_
          refine am_Pn.bl 2 (y := (118, [some (.ref 64), some (.int l1)], [.int (Int32.ofInt (0)), .int l1, .ref 81], sg_h s, 0, 0)) rfl ?_
          refine am_Pn.is (a := 81) rfl rfl rfl (fun hi => ?_)
          replace h := h (am_in0 hi) (am_in1 hi)
          refine am_Pn.bl 2 (y := (106, [some (.ref 64), some (.int (l1 + Int32.ofInt (1)))], [], sg_h (sg_uA s 81 (l1.toInt.toNat) (Int32.ofInt (0))), 0, 0)) rfl ?_
          exact (ih.2.1) (l1 + Int32.ofInt (1)) (sg_uA s 81 (l1.toInt.toNat) (Int32.ofInt (0))) h
      · intro l1 s h
        replace h := k162 l1 s h
        unfold wp_M_begins_162 at h
        refine am_Pn.bl1 1 (y := (165, [some (.ref 64), some (.int l1)], [.int (Int32.ofInt (12)), .int l1], sg_h s, 0, 0)) rfl ?_
        refine am_Pn.bF h (am_bge rfl rfl) rfl rfl (fun h => ?_) (fun h => ?_)
        · exact am_Pn.rV h rfl
        · refine am_Pn.bl 1 (y := (169, [some (.ref 64), some (.int l1)], [.ref 64], sg_h s, 0, 0)) rfl ?_
          refine am_Pn.gr (k := 32) rfl rfl am_o64 rfl rfl ?_
          refine am_Pn.bl 2 (y := (174, [some (.ref 64), some (.int l1)], [.int (Int32.ofInt (0)), .int l1, .ref 77], sg_h s, 0, 0)) rfl ?_
          refine am_Pn.bs (a := 77) rfl rfl rfl (fun hi => ?_)
          replace h := h (am_in0 hi) (am_in1 hi)
          refine am_Pn.bl 2 (y := (162, [some (.ref 64), some (.int (l1 + Int32.ofInt (1)))], [], sg_h (sg_uA s 77 (l1.toInt.toNat) (vp_nar .boolean (Int32.ofInt (0)))), 0, 0)) rfl ?_
          exact (ih.2.2) (l1 + Int32.ofInt (1)) (sg_uA s 77 (l1.toInt.toNat) (vp_nar .boolean (Int32.ofInt (0)))) h
  unfold wp_M_begins at h
  refine am_Pn.bl 2 (y := (2, [some (.ref 64), none], [.ref 64, .ref 64], sg_h s, 0, 0)) rfl ?_
  refine am_Pn.gi (k := 9) rfl rfl am_o64 rfl rfl ?_
  refine am_Pn.pi (k := 21) rfl rfl am_o64 rfl rfl ?_
  refine am_Pn.bl 2 (y := (10, [some (.ref 64), none], [.ref 64, .ref 64], sg_h (sg_uI s 64 21 (s.1 64 9)), 0, 0)) rfl ?_
  refine am_Pn.gi (k := 10) rfl rfl am_o64 rfl rfl ?_
  refine am_Pn.pi (k := 22) rfl rfl am_o64 rfl rfl ?_
  refine am_Pn.bl 2 (y := (18, [some (.ref 64), none], [.ref 64, .ref 64], sg_h (sg_uI (sg_uI s 64 21 (s.1 64 9)) 64 22 (s.1 64 10)), 0, 0)) rfl ?_
  refine am_Pn.gi (k := 11) rfl rfl am_o64 rfl rfl ?_
  refine am_Pn.pi (k := 23) rfl rfl am_o64 rfl rfl ?_
  refine am_Pn.bl 2 (y := (26, [some (.ref 64), none], [.ref 64, .ref 64], sg_h (sg_uI (sg_uI (sg_uI s 64 21 (s.1 64 9)) 64 22 (s.1 64 10)) 64 23 (s.1 64 11)), 0, 0)) rfl ?_
  refine am_Pn.gi (k := 12) rfl rfl am_o64 rfl rfl ?_
  refine am_Pn.pi (k := 24) rfl rfl am_o64 rfl rfl ?_
  refine am_Pn.bl 2 (y := (34, [some (.ref 64), none], [.ref 64, .ref 64], sg_h (sg_uI (sg_uI (sg_uI (sg_uI s 64 21 (s.1 64 9)) 64 22 (s.1 64 10)) 64 23 (s.1 64 11)) 64 24 (s.1 64 12)), 0, 0)) rfl ?_
  refine am_Pn.gi (k := 13) rfl rfl am_o64 rfl rfl ?_
  refine am_Pn.pi (k := 25) rfl rfl am_o64 rfl rfl ?_
  refine am_Pn.bl 2 (y := (42, [some (.ref 64), some (.int (Int32.ofInt (0)))], [], sg_h (sg_uI (sg_uI (sg_uI (sg_uI (sg_uI s 64 21 (s.1 64 9)) 64 22 (s.1 64 10)) 64 23 (s.1 64 11)) 64 24 (s.1 64 12)) 64 25 (s.1 64 13)), 0, 0)) rfl ?_
  exact ((key n).1) (Int32.ofInt (0)) (sg_uI (sg_uI (sg_uI (sg_uI (sg_uI s 64 21 (s.1 64 9)) 64 22 (s.1 64 10)) 64 23 (s.1 64 11)) 64 24 (s.1 64 12)) 64 25 (s.1 64 13)) h
