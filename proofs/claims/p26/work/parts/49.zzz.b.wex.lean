/-! ===== what X's ends asks (printed by wip/ab/vg_ends.py) ===== -/
def wp_XStates_clear_39 (Ψ : sg_S → Prop) (s : sg_S) : Prop := (Ψ (sg_uI (sg_uI s 39 2 (Int32.ofInt (0))) 39 4 ((s.1 39 4) + (Int32.ofInt (1)))))
set_option maxRecDepth 100000 in
theorem wp_XStates_clear_39_ok {Ψ : sg_S → Prop} {s : sg_S} (h : wp_XStates_clear_39 Ψ  s) : am_SpV 96 [.ref 39] s Ψ := by
  refine am_SpV.mk (r := am_r96) rfl rfl (fun call d al n hcl => ?_)
  unfold wp_XStates_clear_39 at h
  refine am_Pn.bl 2 (y := (2, [some (.ref 39)], [.int (Int32.ofInt (0)), .ref 39], sg_h s, 0, 0)) rfl ?_
  refine am_Pn.pi (k := 2) rfl rfl am_o39 rfl rfl ?_
  refine am_Pn.bl 2 (y := (7, [some (.ref 39)], [.ref 39, .ref 39], sg_h (sg_uI s 39 2 (Int32.ofInt (0))), 0, 0)) rfl ?_
  refine am_Pn.gi (k := 4) rfl rfl am_o39 rfl rfl ?_
  refine am_Pn.bl 2 (y := (12, [some (.ref 39)], [.int ((s.1 39 4) + (Int32.ofInt (1))), .ref 39], sg_h (sg_uI s 39 2 (Int32.ofInt (0))), 0, 0)) rfl ?_
  refine am_Pn.pi (k := 4) rfl rfl am_o39 rfl rfl ?_
  exact am_Pn.rV h rfl
def wp_XStates_clear_43 (Ψ : sg_S → Prop) (s : sg_S) : Prop := (Ψ (sg_uI (sg_uI s 43 2 (Int32.ofInt (0))) 43 4 ((s.1 43 4) + (Int32.ofInt (1)))))
set_option maxRecDepth 100000 in
theorem wp_XStates_clear_43_ok {Ψ : sg_S → Prop} {s : sg_S} (h : wp_XStates_clear_43 Ψ  s) : am_SpV 96 [.ref 43] s Ψ := by
  refine am_SpV.mk (r := am_r96) rfl rfl (fun call d al n hcl => ?_)
  unfold wp_XStates_clear_43 at h
  refine am_Pn.bl 2 (y := (2, [some (.ref 43)], [.int (Int32.ofInt (0)), .ref 43], sg_h s, 0, 0)) rfl ?_
  refine am_Pn.pi (k := 2) rfl rfl am_o43 rfl rfl ?_
  refine am_Pn.bl 2 (y := (7, [some (.ref 43)], [.ref 43, .ref 43], sg_h (sg_uI s 43 2 (Int32.ofInt (0))), 0, 0)) rfl ?_
  refine am_Pn.gi (k := 4) rfl rfl am_o43 rfl rfl ?_
  refine am_Pn.bl 2 (y := (12, [some (.ref 43)], [.int ((s.1 43 4) + (Int32.ofInt (1))), .ref 43], sg_h (sg_uI s 43 2 (Int32.ofInt (0))), 0, 0)) rfl ?_
  refine am_Pn.pi (k := 4) rfl rfl am_o43 rfl rfl ?_
  exact am_Pn.rV h rfl
def wp_XStates_lowPart (Ψ : Int64 → sg_S → Prop) (x1 : Int32) (x2 : Int64) (s : sg_S) : Prop := ((x1.toInt < (10) → (Ψ (x2 <<< ((x1 * (Int32.ofInt (6))).toInt64 &&& 63)) s)) ∧ (¬ x1.toInt < (10) → (Ψ (Int64.ofNat 0) s)))
set_option maxRecDepth 100000 in
theorem wp_XStates_lowPart_ok {Ψ : Int64 → sg_S → Prop} {x1 : Int32} {x2 : Int64} {s : sg_S} (h : wp_XStates_lowPart Ψ x1 x2 s) : am_SpL 97 [.int x1, .long x2] s Ψ := by
  refine am_SpL.mk (r := am_r97) rfl rfl (fun call d al n hcl => ?_)
  unfold wp_XStates_lowPart at h
  refine am_Pn.bl 2 (y := (3, [some (.int x1), some (.long x2), none], [.int (Int32.ofInt (10)), .int x1], sg_h s, 0, 0)) rfl ?_
  refine am_Pn.bF h (am_bge rfl rfl) rfl rfl (fun h => ?_) (fun h => ?_)
  · refine am_Pn.bl 1 (y := (16, [some (.int x1), some (.long x2), none], [.long (Int64.ofNat 0)], sg_h s, 0, 0)) rfl ?_
    exact am_Pn.rL h rfl
  · refine am_Pn.bl 6 (y := (16, [some (.int x1), some (.long x2), none], [.long (x2 <<< ((x1 * (Int32.ofInt (6))).toInt64 &&& 63))], sg_h s, 0, 0)) rfl ?_
    exact am_Pn.rL h rfl
def wp_XStates_highPart (Ψ : Int64 → sg_S → Prop) (x1 : Int32) (x2 : Int64) (s : sg_S) : Prop := ((x1.toInt < (10) → (Ψ (Int64.ofNat 0) s)) ∧ (¬ x1.toInt < (10) → (Ψ (x2 <<< (((x1 - (Int32.ofInt (10))) * (Int32.ofInt (6))).toInt64 &&& 63)) s)))
set_option maxRecDepth 100000 in
theorem wp_XStates_highPart_ok {Ψ : Int64 → sg_S → Prop} {x1 : Int32} {x2 : Int64} {s : sg_S} (h : wp_XStates_highPart Ψ x1 x2 s) : am_SpL 98 [.int x1, .long x2] s Ψ := by
  refine am_SpL.mk (r := am_r98) rfl rfl (fun call d al n hcl => ?_)
  unfold wp_XStates_highPart at h
  refine am_Pn.bl 2 (y := (3, [some (.int x1), some (.long x2), none], [.int (Int32.ofInt (10)), .int x1], sg_h s, 0, 0)) rfl ?_
  refine am_Pn.bF h (am_bge rfl rfl) rfl rfl (fun h => ?_) (fun h => ?_)
  · refine am_Pn.bl 7 (y := (19, [some (.int x1), some (.long x2), none], [.long (x2 <<< (((x1 - (Int32.ofInt (10))) * (Int32.ofInt (6))).toInt64 &&& 63))], sg_h s, 0, 0)) rfl ?_
    exact am_Pn.rL h rfl
  · refine am_Pn.bl 2 (y := (19, [some (.int x1), some (.long x2), none], [.long (Int64.ofNat 0)], sg_h s, 0, 0)) rfl ?_
    exact am_Pn.rL h rfl
def wp_XStates_setsPart (Ψ : Int64 → sg_S → Prop) (x1 : Int64) (x2 : Int64) (s : sg_S) : Prop := (Ψ ((x1 <<< ((Int32.ofInt (12)).toInt64 &&& 63)) + (x2 <<< ((Int32.ofInt (20)).toInt64 &&& 63))) s)
set_option maxRecDepth 100000 in
theorem wp_XStates_setsPart_ok {Ψ : Int64 → sg_S → Prop} {x1 : Int64} {x2 : Int64} {s : sg_S} (h : wp_XStates_setsPart Ψ x1 x2 s) : am_SpL 104 [.long x1, .long x2] s Ψ := by
  refine am_SpL.mk (r := am_r104) rfl rfl (fun call d al n hcl => ?_)
  unfold wp_XStates_setsPart at h
  refine am_Pn.bl 7 (y := (9, [some (.long x1), none, some (.long x2), none], [.long ((x1 <<< ((Int32.ofInt (12)).toInt64 &&& 63)) + (x2 <<< ((Int32.ofInt (20)).toInt64 &&& 63)))], sg_h s, 0, 0)) rfl ?_
  exact am_Pn.rL h rfl
def wp_XStates_lay_39_30 (I30 : Int32 → Int32 →  sg_S → Prop) (Ψ : Int32 → sg_S → Prop) (x1 : Int64) (x2 : Int64) (l7 : Int32) (l8 : Int32) (s : sg_S) : Prop := ((l8.toInt < (1024) → (0 ≤ ((l7 + l8) &&& (Int32.ofInt (1023))).toInt → ((l7 + l8) &&& (Int32.ofInt (1023))).toInt < (1024) → (((((s.2.2.1 42 (((l7 + l8) &&& (Int32.ofInt (1023))).toInt.toNat)).toUInt32 >>> ((Int32.ofInt (9)).toUInt32 &&& Int32.toUInt32 31)).toInt32).toInt = (s.1 39 4).toInt → (0 ≤ ((s.2.2.1 42 (((l7 + l8) &&& (Int32.ofInt (1023))).toInt.toNat)) &&& (Int32.ofInt (511))).toInt → ((s.2.2.1 42 (((l7 + l8) &&& (Int32.ofInt (1023))).toInt.toNat)) &&& (Int32.ofInt (511))).toInt < (400) → ((s.2.2.2.1 40 (((s.2.2.1 42 (((l7 + l8) &&& (Int32.ofInt (1023))).toInt.toNat)) &&& (Int32.ofInt (511))).toInt.toNat) = x1 → ((s.2.2.2.1 41 (((s.2.2.1 42 (((l7 + l8) &&& (Int32.ofInt (1023))).toInt.toNat)) &&& (Int32.ofInt (511))).toInt.toNat) = x2 → (Ψ ((s.2.2.1 42 (((l7 + l8) &&& (Int32.ofInt (1023))).toInt.toNat)) &&& (Int32.ofInt (511))) s)) ∧ (¬ s.2.2.2.1 41 (((s.2.2.1 42 (((l7 + l8) &&& (Int32.ofInt (1023))).toInt.toNat)) &&& (Int32.ofInt (511))).toInt.toNat) = x2 → (I30 l7 (l8 + Int32.ofInt (1)) s)))) ∧ (¬ s.2.2.2.1 40 (((s.2.2.1 42 (((l7 + l8) &&& (Int32.ofInt (1023))).toInt.toNat)) &&& (Int32.ofInt (511))).toInt.toNat) = x1 → (I30 l7 (l8 + Int32.ofInt (1)) s))))) ∧ (¬ (((s.2.2.1 42 (((l7 + l8) &&& (Int32.ofInt (1023))).toInt.toNat)).toUInt32 >>> ((Int32.ofInt (9)).toUInt32 &&& Int32.toUInt32 31)).toInt32).toInt = (s.1 39 4).toInt → (am_SpI 100 [.ref 39, .int ((l7 + l8) &&& (Int32.ofInt (1023))), .long x1, .long x2] s (fun x3 s3 => (Ψ x3 s3))))))) ∧ (¬ l8.toInt < (1024) → (Ψ (Int32.ofInt (-4)) s)))
def wp_XStates_lay_39 (I30 : Int32 → Int32 →  sg_S → Prop) (Ψ : Int32 → sg_S → Prop) (x1 : Int64) (x2 : Int64) (s : sg_S) : Prop := (I30 ((((((x1 * (Int64.ofInt (-7046029254386353131))) + (x2 * (Int64.ofInt (-4417276706812531889)))).toUInt64 >>> ((Int32.ofInt (40)).toInt64.toUInt64 &&& Int64.toUInt64 63)).toInt64) ^^^ ((((x1 * (Int64.ofInt (-7046029254386353131))) + (x2 * (Int64.ofInt (-4417276706812531889)))).toUInt64 >>> ((Int32.ofInt (20)).toInt64.toUInt64 &&& Int64.toUInt64 63)).toInt64)).toInt32) (Int32.ofInt (0)) s)
set_option maxRecDepth 100000 in
theorem wp_XStates_lay_39_ok {I30 : Int32 → Int32 →  sg_S → Prop} {Ψ : Int32 → sg_S → Prop} {x1 : Int64} {x2 : Int64} {s : sg_S} (k30 : ∀ (l7 : Int32) (l8 : Int32) (s : sg_S), I30 l7 l8 s → wp_XStates_lay_39_30 I30 Ψ x1 x2 l7 l8 s) (h : wp_XStates_lay_39 I30 Ψ x1 x2 s) : am_SpI 99 [.ref 39, .long x1, .long x2] s Ψ := by
  refine am_SpI.mk (r := am_r99) rfl rfl (fun call d al n hcl => ?_)
  have key : ∀ n, (∀ (o5 : Option Value) (o6 : Option Value) (o9 : Option Value) (o10 : Option Value) (l7 : Int32) (l8 : Int32) (s : sg_S), I30 l7 l8 s → am_Pn call d (0, fun _ => 0) al am_r99 (am_PhI am_r99 Ψ) n (30, [some (.ref 39), some (.long x1), none, some (.long x2), none, o5, o6, some (.int l7), some (.int l8), o9, o10], [], sg_h s, 0, 0)) := by
    intro n
    induction n with
    | zero => exact fun _ _ _ _ _ _ _ _ => am_Pn.zero
    | succ n ih =>
      intro o5 o6 o9 o10 l7 l8 s h
      replace h := k30 l7 l8 s h
      unfold wp_XStates_lay_39_30 at h
      refine am_Pn.bl1 1 (y := (35, [some (.ref 39), some (.long x1), none, some (.long x2), none, o5, o6, some (.int l7), some (.int l8), o9, o10], [.int (Int32.ofInt (1024)), .int l8], sg_h s, 0, 0)) rfl ?_
      refine am_Pn.bF h (am_bge rfl rfl) rfl rfl (fun h => ?_) (fun h => ?_)
      · refine am_Pn.bl 1 (y := (123, [some (.ref 39), some (.long x1), none, some (.long x2), none, o5, o6, some (.int l7), some (.int l8), o9, o10], [.int (Int32.ofInt (-4))], sg_h s, 0, 0)) rfl ?_
        exact am_Pn.rI h rfl
      · refine am_Pn.bl 7 (y := (50, [some (.ref 39), some (.long x1), none, some (.long x2), none, o5, o6, some (.int l7), some (.int l8), some (.int ((l7 + l8) &&& (Int32.ofInt (1023)))), o10], [.ref 39], sg_h s, 0, 0)) rfl ?_
        refine am_Pn.gr (k := 3) rfl rfl am_o39 rfl rfl ?_
        refine am_Pn.bl 1 (y := (55, [some (.ref 39), some (.long x1), none, some (.long x2), none, o5, o6, some (.int l7), some (.int l8), some (.int ((l7 + l8) &&& (Int32.ofInt (1023)))), o10], [.int ((l7 + l8) &&& (Int32.ofInt (1023))), .ref 42], sg_h s, 0, 0)) rfl ?_
        refine am_Pn.ia (a := 42) rfl rfl rfl rfl (fun hi => ?_)
        replace h := h (am_in0 hi) (am_in1 hi)
        refine am_Pn.bl 3 (y := (60, [some (.ref 39), some (.long x1), none, some (.long x2), none, o5, o6, some (.int l7), some (.int l8), some (.int ((l7 + l8) &&& (Int32.ofInt (1023)))), o10], [.ref 39, .int (((s.2.2.1 42 (((l7 + l8) &&& (Int32.ofInt (1023))).toInt.toNat)).toUInt32 >>> ((Int32.ofInt (9)).toUInt32 &&& Int32.toUInt32 31)).toInt32)], sg_h s, 0, 0)) rfl ?_
        refine am_Pn.gi (k := 4) rfl rfl am_o39 rfl rfl ?_
        refine am_Pn.bT h (am_beq rfl rfl) rfl rfl (fun h => ?_) (fun h => ?_)
        · refine am_Pn.bl 1 (y := (76, [some (.ref 39), some (.long x1), none, some (.long x2), none, o5, o6, some (.int l7), some (.int l8), some (.int ((l7 + l8) &&& (Int32.ofInt (1023)))), o10], [.ref 39], sg_h s, 0, 0)) rfl ?_
          refine am_Pn.gr (k := 3) rfl rfl am_o39 rfl rfl ?_
          refine am_Pn.bl 1 (y := (81, [some (.ref 39), some (.long x1), none, some (.long x2), none, o5, o6, some (.int l7), some (.int l8), some (.int ((l7 + l8) &&& (Int32.ofInt (1023)))), o10], [.int ((l7 + l8) &&& (Int32.ofInt (1023))), .ref 42], sg_h s, 0, 0)) rfl ?_
          refine am_Pn.ia (a := 42) rfl rfl rfl rfl (fun hi => ?_)
          refine am_Pn.bl 4 (y := (89, [some (.ref 39), some (.long x1), none, some (.long x2), none, o5, o6, some (.int l7), some (.int l8), some (.int ((l7 + l8) &&& (Int32.ofInt (1023)))), some (.int ((s.2.2.1 42 (((l7 + l8) &&& (Int32.ofInt (1023))).toInt.toNat)) &&& (Int32.ofInt (511))))], [.ref 39], sg_h s, 0, 0)) rfl ?_
          refine am_Pn.gr (k := 0) rfl rfl am_o39 rfl rfl ?_
          refine am_Pn.bl 1 (y := (94, [some (.ref 39), some (.long x1), none, some (.long x2), none, o5, o6, some (.int l7), some (.int l8), some (.int ((l7 + l8) &&& (Int32.ofInt (1023)))), some (.int ((s.2.2.1 42 (((l7 + l8) &&& (Int32.ofInt (1023))).toInt.toNat)) &&& (Int32.ofInt (511))))], [.int ((s.2.2.1 42 (((l7 + l8) &&& (Int32.ofInt (1023))).toInt.toNat)) &&& (Int32.ofInt (511))), .ref 40], sg_h s, 0, 0)) rfl ?_
          refine am_Pn.la (a := 40) rfl rfl rfl (fun hi => ?_)
          replace h := h (am_in0 hi) (am_in1 hi)
          refine am_Pn.bl 2 (y := (97, [some (.ref 39), some (.long x1), none, some (.long x2), none, o5, o6, some (.int l7), some (.int l8), some (.int ((l7 + l8) &&& (Int32.ofInt (1023)))), some (.int ((s.2.2.1 42 (((l7 + l8) &&& (Int32.ofInt (1023))).toInt.toNat)) &&& (Int32.ofInt (511))))], [.int (lg_cmp (s.2.2.2.1 40 (((s.2.2.1 42 (((l7 + l8) &&& (Int32.ofInt (1023))).toInt.toNat)) &&& (Int32.ofInt (511))).toInt.toNat)) x1)], sg_h s, 0, 0)) rfl ?_
          refine am_Pn.zF h (am_lne) rfl rfl (fun h => ?_) (fun h => ?_)
          · refine am_Pn.bl 2 (y := (30, [some (.ref 39), some (.long x1), none, some (.long x2), none, o5, o6, some (.int l7), some (.int (l8 + Int32.ofInt (1))), some (.int ((l7 + l8) &&& (Int32.ofInt (1023)))), some (.int ((s.2.2.1 42 (((l7 + l8) &&& (Int32.ofInt (1023))).toInt.toNat)) &&& (Int32.ofInt (511))))], [], sg_h s, 0, 0)) rfl ?_
            exact (ih) o5 o6 (some (.int ((l7 + l8) &&& (Int32.ofInt (1023))))) (some (.int ((s.2.2.1 42 (((l7 + l8) &&& (Int32.ofInt (1023))).toInt.toNat)) &&& (Int32.ofInt (511))))) l7 (l8 + Int32.ofInt (1)) s h
          · refine am_Pn.bl 1 (y := (101, [some (.ref 39), some (.long x1), none, some (.long x2), none, o5, o6, some (.int l7), some (.int l8), some (.int ((l7 + l8) &&& (Int32.ofInt (1023)))), some (.int ((s.2.2.1 42 (((l7 + l8) &&& (Int32.ofInt (1023))).toInt.toNat)) &&& (Int32.ofInt (511))))], [.ref 39], sg_h s, 0, 0)) rfl ?_
            refine am_Pn.gr (k := 1) rfl rfl am_o39 rfl rfl ?_
            refine am_Pn.bl 1 (y := (106, [some (.ref 39), some (.long x1), none, some (.long x2), none, o5, o6, some (.int l7), some (.int l8), some (.int ((l7 + l8) &&& (Int32.ofInt (1023)))), some (.int ((s.2.2.1 42 (((l7 + l8) &&& (Int32.ofInt (1023))).toInt.toNat)) &&& (Int32.ofInt (511))))], [.int ((s.2.2.1 42 (((l7 + l8) &&& (Int32.ofInt (1023))).toInt.toNat)) &&& (Int32.ofInt (511))), .ref 41], sg_h s, 0, 0)) rfl ?_
            refine am_Pn.la (a := 41) rfl rfl rfl (fun hi => ?_)
            refine am_Pn.bl 2 (y := (109, [some (.ref 39), some (.long x1), none, some (.long x2), none, o5, o6, some (.int l7), some (.int l8), some (.int ((l7 + l8) &&& (Int32.ofInt (1023)))), some (.int ((s.2.2.1 42 (((l7 + l8) &&& (Int32.ofInt (1023))).toInt.toNat)) &&& (Int32.ofInt (511))))], [.int (lg_cmp (s.2.2.2.1 41 (((s.2.2.1 42 (((l7 + l8) &&& (Int32.ofInt (1023))).toInt.toNat)) &&& (Int32.ofInt (511))).toInt.toNat)) x2)], sg_h s, 0, 0)) rfl ?_
            refine am_Pn.zF h (am_lne) rfl rfl (fun h => ?_) (fun h => ?_)
            · refine am_Pn.bl 2 (y := (30, [some (.ref 39), some (.long x1), none, some (.long x2), none, o5, o6, some (.int l7), some (.int (l8 + Int32.ofInt (1))), some (.int ((l7 + l8) &&& (Int32.ofInt (1023)))), some (.int ((s.2.2.1 42 (((l7 + l8) &&& (Int32.ofInt (1023))).toInt.toNat)) &&& (Int32.ofInt (511))))], [], sg_h s, 0, 0)) rfl ?_
              exact (ih) o5 o6 (some (.int ((l7 + l8) &&& (Int32.ofInt (1023))))) (some (.int ((s.2.2.1 42 (((l7 + l8) &&& (Int32.ofInt (1023))).toInt.toNat)) &&& (Int32.ofInt (511))))) l7 (l8 + Int32.ofInt (1)) s h
            · refine am_Pn.bl 1 (y := (114, [some (.ref 39), some (.long x1), none, some (.long x2), none, o5, o6, some (.int l7), some (.int l8), some (.int ((l7 + l8) &&& (Int32.ofInt (1023)))), some (.int ((s.2.2.1 42 (((l7 + l8) &&& (Int32.ofInt (1023))).toInt.toNat)) &&& (Int32.ofInt (511))))], [.int ((s.2.2.1 42 (((l7 + l8) &&& (Int32.ofInt (1023))).toInt.toNat)) &&& (Int32.ofInt (511)))], sg_h s, 0, 0)) rfl ?_
              exact am_Pn.rI h rfl
        · refine am_Pn.bl 4 (y := (71, [some (.ref 39), some (.long x1), none, some (.long x2), none, o5, o6, some (.int l7), some (.int l8), some (.int ((l7 + l8) &&& (Int32.ofInt (1023)))), o10], [.long x2, .long x1, .int ((l7 + l8) &&& (Int32.ofInt (1023))), .ref 39], sg_h s, 0, 0)) rfl ?_
          refine am_Pn.cvI hcl h rfl rfl rfl rfl rfl (fun x3 s3 h => ?_)
          exact am_Pn.rI h rfl
  unfold wp_XStates_lay_39 at h
  refine am_Pn.bl 19 (y := (30, [some (.ref 39), some (.long x1), none, some (.long x2), none, some (.long ((x1 * (Int64.ofInt (-7046029254386353131))) + (x2 * (Int64.ofInt (-4417276706812531889))))), none, some (.int ((((((x1 * (Int64.ofInt (-7046029254386353131))) + (x2 * (Int64.ofInt (-4417276706812531889)))).toUInt64 >>> ((Int32.ofInt (40)).toInt64.toUInt64 &&& Int64.toUInt64 63)).toInt64) ^^^ ((((x1 * (Int64.ofInt (-7046029254386353131))) + (x2 * (Int64.ofInt (-4417276706812531889)))).toUInt64 >>> ((Int32.ofInt (20)).toInt64.toUInt64 &&& Int64.toUInt64 63)).toInt64)).toInt32)), some (.int (Int32.ofInt (0))), none, none], [], sg_h s, 0, 0)) rfl ?_
  exact ((key n)) (some (.long ((x1 * (Int64.ofInt (-7046029254386353131))) + (x2 * (Int64.ofInt (-4417276706812531889)))))) none none none ((((((x1 * (Int64.ofInt (-7046029254386353131))) + (x2 * (Int64.ofInt (-4417276706812531889)))).toUInt64 >>> ((Int32.ofInt (40)).toInt64.toUInt64 &&& Int64.toUInt64 63)).toInt64) ^^^ ((((x1 * (Int64.ofInt (-7046029254386353131))) + (x2 * (Int64.ofInt (-4417276706812531889)))).toUInt64 >>> ((Int32.ofInt (20)).toInt64.toUInt64 &&& Int64.toUInt64 63)).toInt64)).toInt32) (Int32.ofInt (0)) s h
def wp_XStates_lay_43_30 (I30 : Int32 → Int32 →  sg_S → Prop) (Ψ : Int32 → sg_S → Prop) (x1 : Int64) (x2 : Int64) (l7 : Int32) (l8 : Int32) (s : sg_S) : Prop := ((l8.toInt < (1024) → (0 ≤ ((l7 + l8) &&& (Int32.ofInt (1023))).toInt → ((l7 + l8) &&& (Int32.ofInt (1023))).toInt < (1024) → (((((s.2.2.1 46 (((l7 + l8) &&& (Int32.ofInt (1023))).toInt.toNat)).toUInt32 >>> ((Int32.ofInt (9)).toUInt32 &&& Int32.toUInt32 31)).toInt32).toInt = (s.1 43 4).toInt → (0 ≤ ((s.2.2.1 46 (((l7 + l8) &&& (Int32.ofInt (1023))).toInt.toNat)) &&& (Int32.ofInt (511))).toInt → ((s.2.2.1 46 (((l7 + l8) &&& (Int32.ofInt (1023))).toInt.toNat)) &&& (Int32.ofInt (511))).toInt < (400) → ((s.2.2.2.1 44 (((s.2.2.1 46 (((l7 + l8) &&& (Int32.ofInt (1023))).toInt.toNat)) &&& (Int32.ofInt (511))).toInt.toNat) = x1 → ((s.2.2.2.1 45 (((s.2.2.1 46 (((l7 + l8) &&& (Int32.ofInt (1023))).toInt.toNat)) &&& (Int32.ofInt (511))).toInt.toNat) = x2 → (Ψ ((s.2.2.1 46 (((l7 + l8) &&& (Int32.ofInt (1023))).toInt.toNat)) &&& (Int32.ofInt (511))) s)) ∧ (¬ s.2.2.2.1 45 (((s.2.2.1 46 (((l7 + l8) &&& (Int32.ofInt (1023))).toInt.toNat)) &&& (Int32.ofInt (511))).toInt.toNat) = x2 → (I30 l7 (l8 + Int32.ofInt (1)) s)))) ∧ (¬ s.2.2.2.1 44 (((s.2.2.1 46 (((l7 + l8) &&& (Int32.ofInt (1023))).toInt.toNat)) &&& (Int32.ofInt (511))).toInt.toNat) = x1 → (I30 l7 (l8 + Int32.ofInt (1)) s))))) ∧ (¬ (((s.2.2.1 46 (((l7 + l8) &&& (Int32.ofInt (1023))).toInt.toNat)).toUInt32 >>> ((Int32.ofInt (9)).toUInt32 &&& Int32.toUInt32 31)).toInt32).toInt = (s.1 43 4).toInt → (am_SpI 100 [.ref 43, .int ((l7 + l8) &&& (Int32.ofInt (1023))), .long x1, .long x2] s (fun x3 s3 => (Ψ x3 s3))))))) ∧ (¬ l8.toInt < (1024) → (Ψ (Int32.ofInt (-4)) s)))
def wp_XStates_lay_43 (I30 : Int32 → Int32 →  sg_S → Prop) (Ψ : Int32 → sg_S → Prop) (x1 : Int64) (x2 : Int64) (s : sg_S) : Prop := (I30 ((((((x1 * (Int64.ofInt (-7046029254386353131))) + (x2 * (Int64.ofInt (-4417276706812531889)))).toUInt64 >>> ((Int32.ofInt (40)).toInt64.toUInt64 &&& Int64.toUInt64 63)).toInt64) ^^^ ((((x1 * (Int64.ofInt (-7046029254386353131))) + (x2 * (Int64.ofInt (-4417276706812531889)))).toUInt64 >>> ((Int32.ofInt (20)).toInt64.toUInt64 &&& Int64.toUInt64 63)).toInt64)).toInt32) (Int32.ofInt (0)) s)
set_option maxRecDepth 100000 in
theorem wp_XStates_lay_43_ok {I30 : Int32 → Int32 →  sg_S → Prop} {Ψ : Int32 → sg_S → Prop} {x1 : Int64} {x2 : Int64} {s : sg_S} (k30 : ∀ (l7 : Int32) (l8 : Int32) (s : sg_S), I30 l7 l8 s → wp_XStates_lay_43_30 I30 Ψ x1 x2 l7 l8 s) (h : wp_XStates_lay_43 I30 Ψ x1 x2 s) : am_SpI 99 [.ref 43, .long x1, .long x2] s Ψ := by
  refine am_SpI.mk (r := am_r99) rfl rfl (fun call d al n hcl => ?_)
  have key : ∀ n, (∀ (o5 : Option Value) (o6 : Option Value) (o9 : Option Value) (o10 : Option Value) (l7 : Int32) (l8 : Int32) (s : sg_S), I30 l7 l8 s → am_Pn call d (0, fun _ => 0) al am_r99 (am_PhI am_r99 Ψ) n (30, [some (.ref 43), some (.long x1), none, some (.long x2), none, o5, o6, some (.int l7), some (.int l8), o9, o10], [], sg_h s, 0, 0)) := by
    intro n
    induction n with
    | zero => exact fun _ _ _ _ _ _ _ _ => am_Pn.zero
    | succ n ih =>
      intro o5 o6 o9 o10 l7 l8 s h
      replace h := k30 l7 l8 s h
      unfold wp_XStates_lay_43_30 at h
      refine am_Pn.bl1 1 (y := (35, [some (.ref 43), some (.long x1), none, some (.long x2), none, o5, o6, some (.int l7), some (.int l8), o9, o10], [.int (Int32.ofInt (1024)), .int l8], sg_h s, 0, 0)) rfl ?_
      refine am_Pn.bF h (am_bge rfl rfl) rfl rfl (fun h => ?_) (fun h => ?_)
      · refine am_Pn.bl 1 (y := (123, [some (.ref 43), some (.long x1), none, some (.long x2), none, o5, o6, some (.int l7), some (.int l8), o9, o10], [.int (Int32.ofInt (-4))], sg_h s, 0, 0)) rfl ?_
        exact am_Pn.rI h rfl
      · refine am_Pn.bl 7 (y := (50, [some (.ref 43), some (.long x1), none, some (.long x2), none, o5, o6, some (.int l7), some (.int l8), some (.int ((l7 + l8) &&& (Int32.ofInt (1023)))), o10], [.ref 43], sg_h s, 0, 0)) rfl ?_
        refine am_Pn.gr (k := 3) rfl rfl am_o43 rfl rfl ?_
        refine am_Pn.bl 1 (y := (55, [some (.ref 43), some (.long x1), none, some (.long x2), none, o5, o6, some (.int l7), some (.int l8), some (.int ((l7 + l8) &&& (Int32.ofInt (1023)))), o10], [.int ((l7 + l8) &&& (Int32.ofInt (1023))), .ref 46], sg_h s, 0, 0)) rfl ?_
        refine am_Pn.ia (a := 46) rfl rfl rfl rfl (fun hi => ?_)
        replace h := h (am_in0 hi) (am_in1 hi)
        refine am_Pn.bl 3 (y := (60, [some (.ref 43), some (.long x1), none, some (.long x2), none, o5, o6, some (.int l7), some (.int l8), some (.int ((l7 + l8) &&& (Int32.ofInt (1023)))), o10], [.ref 43, .int (((s.2.2.1 46 (((l7 + l8) &&& (Int32.ofInt (1023))).toInt.toNat)).toUInt32 >>> ((Int32.ofInt (9)).toUInt32 &&& Int32.toUInt32 31)).toInt32)], sg_h s, 0, 0)) rfl ?_
        refine am_Pn.gi (k := 4) rfl rfl am_o43 rfl rfl ?_
        refine am_Pn.bT h (am_beq rfl rfl) rfl rfl (fun h => ?_) (fun h => ?_)
        · refine am_Pn.bl 1 (y := (76, [some (.ref 43), some (.long x1), none, some (.long x2), none, o5, o6, some (.int l7), some (.int l8), some (.int ((l7 + l8) &&& (Int32.ofInt (1023)))), o10], [.ref 43], sg_h s, 0, 0)) rfl ?_
          refine am_Pn.gr (k := 3) rfl rfl am_o43 rfl rfl ?_
          refine am_Pn.bl 1 (y := (81, [some (.ref 43), some (.long x1), none, some (.long x2), none, o5, o6, some (.int l7), some (.int l8), some (.int ((l7 + l8) &&& (Int32.ofInt (1023)))), o10], [.int ((l7 + l8) &&& (Int32.ofInt (1023))), .ref 46], sg_h s, 0, 0)) rfl ?_
          refine am_Pn.ia (a := 46) rfl rfl rfl rfl (fun hi => ?_)
          refine am_Pn.bl 4 (y := (89, [some (.ref 43), some (.long x1), none, some (.long x2), none, o5, o6, some (.int l7), some (.int l8), some (.int ((l7 + l8) &&& (Int32.ofInt (1023)))), some (.int ((s.2.2.1 46 (((l7 + l8) &&& (Int32.ofInt (1023))).toInt.toNat)) &&& (Int32.ofInt (511))))], [.ref 43], sg_h s, 0, 0)) rfl ?_
          refine am_Pn.gr (k := 0) rfl rfl am_o43 rfl rfl ?_
          refine am_Pn.bl 1 (y := (94, [some (.ref 43), some (.long x1), none, some (.long x2), none, o5, o6, some (.int l7), some (.int l8), some (.int ((l7 + l8) &&& (Int32.ofInt (1023)))), some (.int ((s.2.2.1 46 (((l7 + l8) &&& (Int32.ofInt (1023))).toInt.toNat)) &&& (Int32.ofInt (511))))], [.int ((s.2.2.1 46 (((l7 + l8) &&& (Int32.ofInt (1023))).toInt.toNat)) &&& (Int32.ofInt (511))), .ref 44], sg_h s, 0, 0)) rfl ?_
          refine am_Pn.la (a := 44) rfl rfl rfl (fun hi => ?_)
          replace h := h (am_in0 hi) (am_in1 hi)
          refine am_Pn.bl 2 (y := (97, [some (.ref 43), some (.long x1), none, some (.long x2), none, o5, o6, some (.int l7), some (.int l8), some (.int ((l7 + l8) &&& (Int32.ofInt (1023)))), some (.int ((s.2.2.1 46 (((l7 + l8) &&& (Int32.ofInt (1023))).toInt.toNat)) &&& (Int32.ofInt (511))))], [.int (lg_cmp (s.2.2.2.1 44 (((s.2.2.1 46 (((l7 + l8) &&& (Int32.ofInt (1023))).toInt.toNat)) &&& (Int32.ofInt (511))).toInt.toNat)) x1)], sg_h s, 0, 0)) rfl ?_
          refine am_Pn.zF h (am_lne) rfl rfl (fun h => ?_) (fun h => ?_)
          · refine am_Pn.bl 2 (y := (30, [some (.ref 43), some (.long x1), none, some (.long x2), none, o5, o6, some (.int l7), some (.int (l8 + Int32.ofInt (1))), some (.int ((l7 + l8) &&& (Int32.ofInt (1023)))), some (.int ((s.2.2.1 46 (((l7 + l8) &&& (Int32.ofInt (1023))).toInt.toNat)) &&& (Int32.ofInt (511))))], [], sg_h s, 0, 0)) rfl ?_
            exact (ih) o5 o6 (some (.int ((l7 + l8) &&& (Int32.ofInt (1023))))) (some (.int ((s.2.2.1 46 (((l7 + l8) &&& (Int32.ofInt (1023))).toInt.toNat)) &&& (Int32.ofInt (511))))) l7 (l8 + Int32.ofInt (1)) s h
          · refine am_Pn.bl 1 (y := (101, [some (.ref 43), some (.long x1), none, some (.long x2), none, o5, o6, some (.int l7), some (.int l8), some (.int ((l7 + l8) &&& (Int32.ofInt (1023)))), some (.int ((s.2.2.1 46 (((l7 + l8) &&& (Int32.ofInt (1023))).toInt.toNat)) &&& (Int32.ofInt (511))))], [.ref 43], sg_h s, 0, 0)) rfl ?_
            refine am_Pn.gr (k := 1) rfl rfl am_o43 rfl rfl ?_
            refine am_Pn.bl 1 (y := (106, [some (.ref 43), some (.long x1), none, some (.long x2), none, o5, o6, some (.int l7), some (.int l8), some (.int ((l7 + l8) &&& (Int32.ofInt (1023)))), some (.int ((s.2.2.1 46 (((l7 + l8) &&& (Int32.ofInt (1023))).toInt.toNat)) &&& (Int32.ofInt (511))))], [.int ((s.2.2.1 46 (((l7 + l8) &&& (Int32.ofInt (1023))).toInt.toNat)) &&& (Int32.ofInt (511))), .ref 45], sg_h s, 0, 0)) rfl ?_
            refine am_Pn.la (a := 45) rfl rfl rfl (fun hi => ?_)
            refine am_Pn.bl 2 (y := (109, [some (.ref 43), some (.long x1), none, some (.long x2), none, o5, o6, some (.int l7), some (.int l8), some (.int ((l7 + l8) &&& (Int32.ofInt (1023)))), some (.int ((s.2.2.1 46 (((l7 + l8) &&& (Int32.ofInt (1023))).toInt.toNat)) &&& (Int32.ofInt (511))))], [.int (lg_cmp (s.2.2.2.1 45 (((s.2.2.1 46 (((l7 + l8) &&& (Int32.ofInt (1023))).toInt.toNat)) &&& (Int32.ofInt (511))).toInt.toNat)) x2)], sg_h s, 0, 0)) rfl ?_
            refine am_Pn.zF h (am_lne) rfl rfl (fun h => ?_) (fun h => ?_)
            · refine am_Pn.bl 2 (y := (30, [some (.ref 43), some (.long x1), none, some (.long x2), none, o5, o6, some (.int l7), some (.int (l8 + Int32.ofInt (1))), some (.int ((l7 + l8) &&& (Int32.ofInt (1023)))), some (.int ((s.2.2.1 46 (((l7 + l8) &&& (Int32.ofInt (1023))).toInt.toNat)) &&& (Int32.ofInt (511))))], [], sg_h s, 0, 0)) rfl ?_
              exact (ih) o5 o6 (some (.int ((l7 + l8) &&& (Int32.ofInt (1023))))) (some (.int ((s.2.2.1 46 (((l7 + l8) &&& (Int32.ofInt (1023))).toInt.toNat)) &&& (Int32.ofInt (511))))) l7 (l8 + Int32.ofInt (1)) s h
            · refine am_Pn.bl 1 (y := (114, [some (.ref 43), some (.long x1), none, some (.long x2), none, o5, o6, some (.int l7), some (.int l8), some (.int ((l7 + l8) &&& (Int32.ofInt (1023)))), some (.int ((s.2.2.1 46 (((l7 + l8) &&& (Int32.ofInt (1023))).toInt.toNat)) &&& (Int32.ofInt (511))))], [.int ((s.2.2.1 46 (((l7 + l8) &&& (Int32.ofInt (1023))).toInt.toNat)) &&& (Int32.ofInt (511)))], sg_h s, 0, 0)) rfl ?_
              exact am_Pn.rI h rfl
        · refine am_Pn.bl 4 (y := (71, [some (.ref 43), some (.long x1), none, some (.long x2), none, o5, o6, some (.int l7), some (.int l8), some (.int ((l7 + l8) &&& (Int32.ofInt (1023)))), o10], [.long x2, .long x1, .int ((l7 + l8) &&& (Int32.ofInt (1023))), .ref 43], sg_h s, 0, 0)) rfl ?_
          refine am_Pn.cvI hcl h rfl rfl rfl rfl rfl (fun x3 s3 h => ?_)
          exact am_Pn.rI h rfl
  unfold wp_XStates_lay_43 at h
  refine am_Pn.bl 19 (y := (30, [some (.ref 43), some (.long x1), none, some (.long x2), none, some (.long ((x1 * (Int64.ofInt (-7046029254386353131))) + (x2 * (Int64.ofInt (-4417276706812531889))))), none, some (.int ((((((x1 * (Int64.ofInt (-7046029254386353131))) + (x2 * (Int64.ofInt (-4417276706812531889)))).toUInt64 >>> ((Int32.ofInt (40)).toInt64.toUInt64 &&& Int64.toUInt64 63)).toInt64) ^^^ ((((x1 * (Int64.ofInt (-7046029254386353131))) + (x2 * (Int64.ofInt (-4417276706812531889)))).toUInt64 >>> ((Int32.ofInt (20)).toInt64.toUInt64 &&& Int64.toUInt64 63)).toInt64)).toInt32)), some (.int (Int32.ofInt (0))), none, none], [], sg_h s, 0, 0)) rfl ?_
  exact ((key n)) (some (.long ((x1 * (Int64.ofInt (-7046029254386353131))) + (x2 * (Int64.ofInt (-4417276706812531889)))))) none none none ((((((x1 * (Int64.ofInt (-7046029254386353131))) + (x2 * (Int64.ofInt (-4417276706812531889)))).toUInt64 >>> ((Int32.ofInt (40)).toInt64.toUInt64 &&& Int64.toUInt64 63)).toInt64) ^^^ ((((x1 * (Int64.ofInt (-7046029254386353131))) + (x2 * (Int64.ofInt (-4417276706812531889)))).toUInt64 >>> ((Int32.ofInt (20)).toInt64.toUInt64 &&& Int64.toUInt64 63)).toInt64)).toInt32) (Int32.ofInt (0)) s h
def wp_XStates_layInSlot_39 (Ψ : Int32 → sg_S → Prop) (x1 : Int32) (x2 : Int64) (x3 : Int64) (s : sg_S) : Prop := (((s.1 39 2).toInt < (400) → (0 ≤ (s.1 39 2).toInt → (s.1 39 2).toInt < (400) → (0 ≤ x1.toInt → x1.toInt < (1024) → (Ψ (((s.1 39 2) + (Int32.ofInt (1))) - (Int32.ofInt (1))) (sg_uI (sg_uA (sg_uM (sg_uM s 40 ((s.1 39 2).toInt.toNat) x2) 41 ((s.1 39 2).toInt.toNat) x3) 42 (x1.toInt.toNat) (((s.1 39 4) <<< ((Int32.ofInt (9)) &&& 31)) ||| (s.1 39 2))) 39 2 ((s.1 39 2) + (Int32.ofInt (1)))))))) ∧ (¬ (s.1 39 2).toInt < (400) → (Ψ (Int32.ofInt (-4)) s)))
set_option maxRecDepth 100000 in
theorem wp_XStates_layInSlot_39_ok {Ψ : Int32 → sg_S → Prop} {x1 : Int32} {x2 : Int64} {x3 : Int64} {s : sg_S} (h : wp_XStates_layInSlot_39 Ψ x1 x2 x3 s) : am_SpI 100 [.ref 39, .int x1, .long x2, .long x3] s Ψ := by
  refine am_SpI.mk (r := am_r100) rfl rfl (fun call d al n hcl => ?_)
  unfold wp_XStates_layInSlot_39 at h
  refine am_Pn.bl 1 (y := (1, [some (.ref 39), some (.int x1), some (.long x2), none, some (.long x3), none], [.ref 39], sg_h s, 0, 0)) rfl ?_
  refine am_Pn.gi (k := 2) rfl rfl am_o39 rfl rfl ?_
  refine am_Pn.bl 1 (y := (7, [some (.ref 39), some (.int x1), some (.long x2), none, some (.long x3), none], [.int (Int32.ofInt (400)), .int (s.1 39 2)], sg_h s, 0, 0)) rfl ?_
  refine am_Pn.bT h (am_blt rfl rfl) rfl rfl (fun h => ?_) (fun h => ?_)
  · refine am_Pn.bl 1 (y := (14, [some (.ref 39), some (.int x1), some (.long x2), none, some (.long x3), none], [.ref 39], sg_h s, 0, 0)) rfl ?_
    refine am_Pn.gr (k := 0) rfl rfl am_o39 rfl rfl ?_
    refine am_Pn.bl 1 (y := (18, [some (.ref 39), some (.int x1), some (.long x2), none, some (.long x3), none], [.ref 39, .ref 40], sg_h s, 0, 0)) rfl ?_
    refine am_Pn.gi (k := 2) rfl rfl am_o39 rfl rfl ?_
    refine am_Pn.bl 1 (y := (22, [some (.ref 39), some (.int x1), some (.long x2), none, some (.long x3), none], [.long x2, .int (s.1 39 2), .ref 40], sg_h s, 0, 0)) rfl ?_
    refine am_Pn.ls (a := 40) rfl rfl rfl (fun hi => ?_)
    replace h := h (am_in0 hi) (am_in1 hi)
    refine am_Pn.bl 1 (y := (24, [some (.ref 39), some (.int x1), some (.long x2), none, some (.long x3), none], [.ref 39], sg_h (sg_uM s 40 ((s.1 39 2).toInt.toNat) x2), 0, 0)) rfl ?_
    refine am_Pn.gr (k := 1) rfl rfl am_o39 rfl rfl ?_
    refine am_Pn.bl 1 (y := (28, [some (.ref 39), some (.int x1), some (.long x2), none, some (.long x3), none], [.ref 39, .ref 41], sg_h (sg_uM s 40 ((s.1 39 2).toInt.toNat) x2), 0, 0)) rfl ?_
    refine am_Pn.gi (k := 2) rfl rfl am_o39 rfl rfl ?_
    refine am_Pn.bl 1 (y := (33, [some (.ref 39), some (.int x1), some (.long x2), none, some (.long x3), none], [.long x3, .int (s.1 39 2), .ref 41], sg_h (sg_uM s 40 ((s.1 39 2).toInt.toNat) x2), 0, 0)) rfl ?_
    refine am_Pn.ls (a := 41) rfl rfl rfl (fun hi => ?_)
    refine am_Pn.bl 1 (y := (35, [some (.ref 39), some (.int x1), some (.long x2), none, some (.long x3), none], [.ref 39], sg_h (sg_uM (sg_uM s 40 ((s.1 39 2).toInt.toNat) x2) 41 ((s.1 39 2).toInt.toNat) x3), 0, 0)) rfl ?_
    refine am_Pn.gr (k := 3) rfl rfl am_o39 rfl rfl ?_
    refine am_Pn.bl 2 (y := (40, [some (.ref 39), some (.int x1), some (.long x2), none, some (.long x3), none], [.ref 39, .int x1, .ref 42], sg_h (sg_uM (sg_uM s 40 ((s.1 39 2).toInt.toNat) x2) 41 ((s.1 39 2).toInt.toNat) x3), 0, 0)) rfl ?_
    refine am_Pn.gi (k := 4) rfl rfl am_o39 rfl rfl ?_
    refine am_Pn.bl 3 (y := (47, [some (.ref 39), some (.int x1), some (.long x2), none, some (.long x3), none], [.ref 39, .int ((s.1 39 4) <<< ((Int32.ofInt (9)) &&& 31)), .int x1, .ref 42], sg_h (sg_uM (sg_uM s 40 ((s.1 39 2).toInt.toNat) x2) 41 ((s.1 39 2).toInt.toNat) x3), 0, 0)) rfl ?_
    refine am_Pn.gi (k := 2) rfl rfl am_o39 rfl rfl ?_
    refine am_Pn.bl 1 (y := (51, [some (.ref 39), some (.int x1), some (.long x2), none, some (.long x3), none], [.int (((s.1 39 4) <<< ((Int32.ofInt (9)) &&& 31)) ||| (s.1 39 2)), .int x1, .ref 42], sg_h (sg_uM (sg_uM s 40 ((s.1 39 2).toInt.toNat) x2) 41 ((s.1 39 2).toInt.toNat) x3), 0, 0)) rfl ?_
    refine am_Pn.is (a := 42) rfl rfl rfl (fun hi => ?_)
    replace h := h (am_in0 hi) (am_in1 hi)
    refine am_Pn.bl 2 (y := (54, [some (.ref 39), some (.int x1), some (.long x2), none, some (.long x3), none], [.ref 39, .ref 39], sg_h (sg_uA (sg_uM (sg_uM s 40 ((s.1 39 2).toInt.toNat) x2) 41 ((s.1 39 2).toInt.toNat) x3) 42 (x1.toInt.toNat) (((s.1 39 4) <<< ((Int32.ofInt (9)) &&& 31)) ||| (s.1 39 2))), 0, 0)) rfl ?_
    refine am_Pn.gi (k := 2) rfl rfl am_o39 rfl rfl ?_
    refine am_Pn.bl 2 (y := (59, [some (.ref 39), some (.int x1), some (.long x2), none, some (.long x3), none], [.int ((s.1 39 2) + (Int32.ofInt (1))), .ref 39], sg_h (sg_uA (sg_uM (sg_uM s 40 ((s.1 39 2).toInt.toNat) x2) 41 ((s.1 39 2).toInt.toNat) x3) 42 (x1.toInt.toNat) (((s.1 39 4) <<< ((Int32.ofInt (9)) &&& 31)) ||| (s.1 39 2))), 0, 0)) rfl ?_
    refine am_Pn.pi (k := 2) rfl rfl am_o39 rfl rfl ?_
    refine am_Pn.bl 1 (y := (63, [some (.ref 39), some (.int x1), some (.long x2), none, some (.long x3), none], [.ref 39], sg_h (sg_uI (sg_uA (sg_uM (sg_uM s 40 ((s.1 39 2).toInt.toNat) x2) 41 ((s.1 39 2).toInt.toNat) x3) 42 (x1.toInt.toNat) (((s.1 39 4) <<< ((Int32.ofInt (9)) &&& 31)) ||| (s.1 39 2))) 39 2 ((s.1 39 2) + (Int32.ofInt (1)))), 0, 0)) rfl ?_
    refine am_Pn.gi (k := 2) rfl rfl am_o39 rfl rfl ?_
    refine am_Pn.bl 2 (y := (68, [some (.ref 39), some (.int x1), some (.long x2), none, some (.long x3), none], [.int (((s.1 39 2) + (Int32.ofInt (1))) - (Int32.ofInt (1)))], sg_h (sg_uI (sg_uA (sg_uM (sg_uM s 40 ((s.1 39 2).toInt.toNat) x2) 41 ((s.1 39 2).toInt.toNat) x3) 42 (x1.toInt.toNat) (((s.1 39 4) <<< ((Int32.ofInt (9)) &&& 31)) ||| (s.1 39 2))) 39 2 ((s.1 39 2) + (Int32.ofInt (1)))), 0, 0)) rfl ?_
    exact am_Pn.rI h rfl
  · refine am_Pn.bl 1 (y := (12, [some (.ref 39), some (.int x1), some (.long x2), none, some (.long x3), none], [.int (Int32.ofInt (-4))], sg_h s, 0, 0)) rfl ?_
    exact am_Pn.rI h rfl
def wp_XStates_layInSlot_43 (Ψ : Int32 → sg_S → Prop) (x1 : Int32) (x2 : Int64) (x3 : Int64) (s : sg_S) : Prop := (((s.1 43 2).toInt < (400) → (0 ≤ (s.1 43 2).toInt → (s.1 43 2).toInt < (400) → (0 ≤ x1.toInt → x1.toInt < (1024) → (Ψ (((s.1 43 2) + (Int32.ofInt (1))) - (Int32.ofInt (1))) (sg_uI (sg_uA (sg_uM (sg_uM s 44 ((s.1 43 2).toInt.toNat) x2) 45 ((s.1 43 2).toInt.toNat) x3) 46 (x1.toInt.toNat) (((s.1 43 4) <<< ((Int32.ofInt (9)) &&& 31)) ||| (s.1 43 2))) 43 2 ((s.1 43 2) + (Int32.ofInt (1)))))))) ∧ (¬ (s.1 43 2).toInt < (400) → (Ψ (Int32.ofInt (-4)) s)))
set_option maxRecDepth 100000 in
theorem wp_XStates_layInSlot_43_ok {Ψ : Int32 → sg_S → Prop} {x1 : Int32} {x2 : Int64} {x3 : Int64} {s : sg_S} (h : wp_XStates_layInSlot_43 Ψ x1 x2 x3 s) : am_SpI 100 [.ref 43, .int x1, .long x2, .long x3] s Ψ := by
  refine am_SpI.mk (r := am_r100) rfl rfl (fun call d al n hcl => ?_)
  unfold wp_XStates_layInSlot_43 at h
  refine am_Pn.bl 1 (y := (1, [some (.ref 43), some (.int x1), some (.long x2), none, some (.long x3), none], [.ref 43], sg_h s, 0, 0)) rfl ?_
  refine am_Pn.gi (k := 2) rfl rfl am_o43 rfl rfl ?_
  refine am_Pn.bl 1 (y := (7, [some (.ref 43), some (.int x1), some (.long x2), none, some (.long x3), none], [.int (Int32.ofInt (400)), .int (s.1 43 2)], sg_h s, 0, 0)) rfl ?_
  refine am_Pn.bT h (am_blt rfl rfl) rfl rfl (fun h => ?_) (fun h => ?_)
  · refine am_Pn.bl 1 (y := (14, [some (.ref 43), some (.int x1), some (.long x2), none, some (.long x3), none], [.ref 43], sg_h s, 0, 0)) rfl ?_
    refine am_Pn.gr (k := 0) rfl rfl am_o43 rfl rfl ?_
    refine am_Pn.bl 1 (y := (18, [some (.ref 43), some (.int x1), some (.long x2), none, some (.long x3), none], [.ref 43, .ref 44], sg_h s, 0, 0)) rfl ?_
    refine am_Pn.gi (k := 2) rfl rfl am_o43 rfl rfl ?_
    refine am_Pn.bl 1 (y := (22, [some (.ref 43), some (.int x1), some (.long x2), none, some (.long x3), none], [.long x2, .int (s.1 43 2), .ref 44], sg_h s, 0, 0)) rfl ?_
    refine am_Pn.ls (a := 44) rfl rfl rfl (fun hi => ?_)
    replace h := h (am_in0 hi) (am_in1 hi)
    refine am_Pn.bl 1 (y := (24, [some (.ref 43), some (.int x1), some (.long x2), none, some (.long x3), none], [.ref 43], sg_h (sg_uM s 44 ((s.1 43 2).toInt.toNat) x2), 0, 0)) rfl ?_
    refine am_Pn.gr (k := 1) rfl rfl am_o43 rfl rfl ?_
    refine am_Pn.bl 1 (y := (28, [some (.ref 43), some (.int x1), some (.long x2), none, some (.long x3), none], [.ref 43, .ref 45], sg_h (sg_uM s 44 ((s.1 43 2).toInt.toNat) x2), 0, 0)) rfl ?_
    refine am_Pn.gi (k := 2) rfl rfl am_o43 rfl rfl ?_
    refine am_Pn.bl 1 (y := (33, [some (.ref 43), some (.int x1), some (.long x2), none, some (.long x3), none], [.long x3, .int (s.1 43 2), .ref 45], sg_h (sg_uM s 44 ((s.1 43 2).toInt.toNat) x2), 0, 0)) rfl ?_
    refine am_Pn.ls (a := 45) rfl rfl rfl (fun hi => ?_)
    refine am_Pn.bl 1 (y := (35, [some (.ref 43), some (.int x1), some (.long x2), none, some (.long x3), none], [.ref 43], sg_h (sg_uM (sg_uM s 44 ((s.1 43 2).toInt.toNat) x2) 45 ((s.1 43 2).toInt.toNat) x3), 0, 0)) rfl ?_
    refine am_Pn.gr (k := 3) rfl rfl am_o43 rfl rfl ?_
    refine am_Pn.bl 2 (y := (40, [some (.ref 43), some (.int x1), some (.long x2), none, some (.long x3), none], [.ref 43, .int x1, .ref 46], sg_h (sg_uM (sg_uM s 44 ((s.1 43 2).toInt.toNat) x2) 45 ((s.1 43 2).toInt.toNat) x3), 0, 0)) rfl ?_
    refine am_Pn.gi (k := 4) rfl rfl am_o43 rfl rfl ?_
    refine am_Pn.bl 3 (y := (47, [some (.ref 43), some (.int x1), some (.long x2), none, some (.long x3), none], [.ref 43, .int ((s.1 43 4) <<< ((Int32.ofInt (9)) &&& 31)), .int x1, .ref 46], sg_h (sg_uM (sg_uM s 44 ((s.1 43 2).toInt.toNat) x2) 45 ((s.1 43 2).toInt.toNat) x3), 0, 0)) rfl ?_
    refine am_Pn.gi (k := 2) rfl rfl am_o43 rfl rfl ?_
    refine am_Pn.bl 1 (y := (51, [some (.ref 43), some (.int x1), some (.long x2), none, some (.long x3), none], [.int (((s.1 43 4) <<< ((Int32.ofInt (9)) &&& 31)) ||| (s.1 43 2)), .int x1, .ref 46], sg_h (sg_uM (sg_uM s 44 ((s.1 43 2).toInt.toNat) x2) 45 ((s.1 43 2).toInt.toNat) x3), 0, 0)) rfl ?_
    refine am_Pn.is (a := 46) rfl rfl rfl (fun hi => ?_)
    replace h := h (am_in0 hi) (am_in1 hi)
    refine am_Pn.bl 2 (y := (54, [some (.ref 43), some (.int x1), some (.long x2), none, some (.long x3), none], [.ref 43, .ref 43], sg_h (sg_uA (sg_uM (sg_uM s 44 ((s.1 43 2).toInt.toNat) x2) 45 ((s.1 43 2).toInt.toNat) x3) 46 (x1.toInt.toNat) (((s.1 43 4) <<< ((Int32.ofInt (9)) &&& 31)) ||| (s.1 43 2))), 0, 0)) rfl ?_
    refine am_Pn.gi (k := 2) rfl rfl am_o43 rfl rfl ?_
    refine am_Pn.bl 2 (y := (59, [some (.ref 43), some (.int x1), some (.long x2), none, some (.long x3), none], [.int ((s.1 43 2) + (Int32.ofInt (1))), .ref 43], sg_h (sg_uA (sg_uM (sg_uM s 44 ((s.1 43 2).toInt.toNat) x2) 45 ((s.1 43 2).toInt.toNat) x3) 46 (x1.toInt.toNat) (((s.1 43 4) <<< ((Int32.ofInt (9)) &&& 31)) ||| (s.1 43 2))), 0, 0)) rfl ?_
    refine am_Pn.pi (k := 2) rfl rfl am_o43 rfl rfl ?_
    refine am_Pn.bl 1 (y := (63, [some (.ref 43), some (.int x1), some (.long x2), none, some (.long x3), none], [.ref 43], sg_h (sg_uI (sg_uA (sg_uM (sg_uM s 44 ((s.1 43 2).toInt.toNat) x2) 45 ((s.1 43 2).toInt.toNat) x3) 46 (x1.toInt.toNat) (((s.1 43 4) <<< ((Int32.ofInt (9)) &&& 31)) ||| (s.1 43 2))) 43 2 ((s.1 43 2) + (Int32.ofInt (1)))), 0, 0)) rfl ?_
    refine am_Pn.gi (k := 2) rfl rfl am_o43 rfl rfl ?_
    refine am_Pn.bl 2 (y := (68, [some (.ref 43), some (.int x1), some (.long x2), none, some (.long x3), none], [.int (((s.1 43 2) + (Int32.ofInt (1))) - (Int32.ofInt (1)))], sg_h (sg_uI (sg_uA (sg_uM (sg_uM s 44 ((s.1 43 2).toInt.toNat) x2) 45 ((s.1 43 2).toInt.toNat) x3) 46 (x1.toInt.toNat) (((s.1 43 4) <<< ((Int32.ofInt (9)) &&& 31)) ||| (s.1 43 2))) 43 2 ((s.1 43 2) + (Int32.ofInt (1)))), 0, 0)) rfl ?_
    exact am_Pn.rI h rfl
  · refine am_Pn.bl 1 (y := (12, [some (.ref 43), some (.int x1), some (.long x2), none, some (.long x3), none], [.int (Int32.ofInt (-4))], sg_h s, 0, 0)) rfl ?_
    exact am_Pn.rI h rfl
def wp_XStates_setOf_39 (Ψ : Int32 → sg_S → Prop) (x1 : Int32) (s : sg_S) : Prop := (0 ≤ x1.toInt → x1.toInt < (400) → (Ψ (((((s.2.2.2.1 41 (x1.toInt.toNat)).toUInt64 >>> ((Int32.ofInt (12)).toInt64.toUInt64 &&& Int64.toUInt64 63)).toInt64).toInt32) &&& (Int32.ofInt (255))) s))
set_option maxRecDepth 100000 in
theorem wp_XStates_setOf_39_ok {Ψ : Int32 → sg_S → Prop} {x1 : Int32} {s : sg_S} (h : wp_XStates_setOf_39 Ψ x1 s) : am_SpI 101 [.ref 39, .int x1] s Ψ := by
  refine am_SpI.mk (r := am_r101) rfl rfl (fun call d al n hcl => ?_)
  unfold wp_XStates_setOf_39 at h
  refine am_Pn.bl 1 (y := (1, [some (.ref 39), some (.int x1)], [.ref 39], sg_h s, 0, 0)) rfl ?_
  refine am_Pn.gr (k := 1) rfl rfl am_o39 rfl rfl ?_
  refine am_Pn.bl 1 (y := (5, [some (.ref 39), some (.int x1)], [.int x1, .ref 41], sg_h s, 0, 0)) rfl ?_
  refine am_Pn.la (a := 41) rfl rfl rfl (fun hi => ?_)
  replace h := h (am_in0 hi) (am_in1 hi)
  refine am_Pn.bl 5 (y := (14, [some (.ref 39), some (.int x1)], [.int (((((s.2.2.2.1 41 (x1.toInt.toNat)).toUInt64 >>> ((Int32.ofInt (12)).toInt64.toUInt64 &&& Int64.toUInt64 63)).toInt64).toInt32) &&& (Int32.ofInt (255)))], sg_h s, 0, 0)) rfl ?_
  exact am_Pn.rI h rfl
def wp_XStates_setOf_43 (Ψ : Int32 → sg_S → Prop) (x1 : Int32) (s : sg_S) : Prop := (0 ≤ x1.toInt → x1.toInt < (400) → (Ψ (((((s.2.2.2.1 45 (x1.toInt.toNat)).toUInt64 >>> ((Int32.ofInt (12)).toInt64.toUInt64 &&& Int64.toUInt64 63)).toInt64).toInt32) &&& (Int32.ofInt (255))) s))
set_option maxRecDepth 100000 in
theorem wp_XStates_setOf_43_ok {Ψ : Int32 → sg_S → Prop} {x1 : Int32} {s : sg_S} (h : wp_XStates_setOf_43 Ψ x1 s) : am_SpI 101 [.ref 43, .int x1] s Ψ := by
  refine am_SpI.mk (r := am_r101) rfl rfl (fun call d al n hcl => ?_)
  unfold wp_XStates_setOf_43 at h
  refine am_Pn.bl 1 (y := (1, [some (.ref 43), some (.int x1)], [.ref 43], sg_h s, 0, 0)) rfl ?_
  refine am_Pn.gr (k := 1) rfl rfl am_o43 rfl rfl ?_
  refine am_Pn.bl 1 (y := (5, [some (.ref 43), some (.int x1)], [.int x1, .ref 45], sg_h s, 0, 0)) rfl ?_
  refine am_Pn.la (a := 45) rfl rfl rfl (fun hi => ?_)
  replace h := h (am_in0 hi) (am_in1 hi)
  refine am_Pn.bl 5 (y := (14, [some (.ref 43), some (.int x1)], [.int (((((s.2.2.2.1 45 (x1.toInt.toNat)).toUInt64 >>> ((Int32.ofInt (12)).toInt64.toUInt64 &&& Int64.toUInt64 63)).toInt64).toInt32) &&& (Int32.ofInt (255)))], sg_h s, 0, 0)) rfl ?_
  exact am_Pn.rI h rfl
def wp_XStates_setAhead_39 (Ψ : Int32 → sg_S → Prop) (x1 : Int32) (s : sg_S) : Prop := (0 ≤ x1.toInt → x1.toInt < (400) → (Ψ (((((s.2.2.2.1 41 (x1.toInt.toNat)).toUInt64 >>> ((Int32.ofInt (20)).toInt64.toUInt64 &&& Int64.toUInt64 63)).toInt64).toInt32) &&& (Int32.ofInt (255))) s))
set_option maxRecDepth 100000 in
theorem wp_XStates_setAhead_39_ok {Ψ : Int32 → sg_S → Prop} {x1 : Int32} {s : sg_S} (h : wp_XStates_setAhead_39 Ψ x1 s) : am_SpI 102 [.ref 39, .int x1] s Ψ := by
  refine am_SpI.mk (r := am_r102) rfl rfl (fun call d al n hcl => ?_)
  unfold wp_XStates_setAhead_39 at h
  refine am_Pn.bl 1 (y := (1, [some (.ref 39), some (.int x1)], [.ref 39], sg_h s, 0, 0)) rfl ?_
  refine am_Pn.gr (k := 1) rfl rfl am_o39 rfl rfl ?_
  refine am_Pn.bl 1 (y := (5, [some (.ref 39), some (.int x1)], [.int x1, .ref 41], sg_h s, 0, 0)) rfl ?_
  refine am_Pn.la (a := 41) rfl rfl rfl (fun hi => ?_)
  replace h := h (am_in0 hi) (am_in1 hi)
  refine am_Pn.bl 5 (y := (14, [some (.ref 39), some (.int x1)], [.int (((((s.2.2.2.1 41 (x1.toInt.toNat)).toUInt64 >>> ((Int32.ofInt (20)).toInt64.toUInt64 &&& Int64.toUInt64 63)).toInt64).toInt32) &&& (Int32.ofInt (255)))], sg_h s, 0, 0)) rfl ?_
  exact am_Pn.rI h rfl
def wp_XStates_setAhead_43 (Ψ : Int32 → sg_S → Prop) (x1 : Int32) (s : sg_S) : Prop := (0 ≤ x1.toInt → x1.toInt < (400) → (Ψ (((((s.2.2.2.1 45 (x1.toInt.toNat)).toUInt64 >>> ((Int32.ofInt (20)).toInt64.toUInt64 &&& Int64.toUInt64 63)).toInt64).toInt32) &&& (Int32.ofInt (255))) s))
set_option maxRecDepth 100000 in
theorem wp_XStates_setAhead_43_ok {Ψ : Int32 → sg_S → Prop} {x1 : Int32} {s : sg_S} (h : wp_XStates_setAhead_43 Ψ x1 s) : am_SpI 102 [.ref 43, .int x1] s Ψ := by
  refine am_SpI.mk (r := am_r102) rfl rfl (fun call d al n hcl => ?_)
  unfold wp_XStates_setAhead_43 at h
  refine am_Pn.bl 1 (y := (1, [some (.ref 43), some (.int x1)], [.ref 43], sg_h s, 0, 0)) rfl ?_
  refine am_Pn.gr (k := 1) rfl rfl am_o43 rfl rfl ?_
  refine am_Pn.bl 1 (y := (5, [some (.ref 43), some (.int x1)], [.int x1, .ref 45], sg_h s, 0, 0)) rfl ?_
  refine am_Pn.la (a := 45) rfl rfl rfl (fun hi => ?_)
  replace h := h (am_in0 hi) (am_in1 hi)
  refine am_Pn.bl 5 (y := (14, [some (.ref 43), some (.int x1)], [.int (((((s.2.2.2.1 45 (x1.toInt.toNat)).toUInt64 >>> ((Int32.ofInt (20)).toInt64.toUInt64 &&& Int64.toUInt64 63)).toInt64).toInt32) &&& (Int32.ofInt (255)))], sg_h s, 0, 0)) rfl ?_
  exact am_Pn.rI h rfl
def wp_XStates_numberOf_39 (Ψ : Int32 → sg_S → Prop) (x1 : Int32) (x2 : Int32) (s : sg_S) : Prop := ((x2.toInt < (10) → (0 ≤ x1.toInt → x1.toInt < (400) → (Ψ (((((s.2.2.2.1 40 (x1.toInt.toNat)).toUInt64 >>> ((x2 * (Int32.ofInt (6))).toInt64.toUInt64 &&& Int64.toUInt64 63)).toInt64).toInt32) &&& (Int32.ofInt (63))) s))) ∧ (¬ x2.toInt < (10) → (0 ≤ x1.toInt → x1.toInt < (400) → (Ψ (((((s.2.2.2.1 41 (x1.toInt.toNat)).toUInt64 >>> (((x2 - (Int32.ofInt (10))) * (Int32.ofInt (6))).toInt64.toUInt64 &&& Int64.toUInt64 63)).toInt64).toInt32) &&& (Int32.ofInt (63))) s))))
set_option maxRecDepth 100000 in
theorem wp_XStates_numberOf_39_ok {Ψ : Int32 → sg_S → Prop} {x1 : Int32} {x2 : Int32} {s : sg_S} (h : wp_XStates_numberOf_39 Ψ x1 x2 s) : am_SpI 103 [.ref 39, .int x1, .int x2] s Ψ := by
  refine am_SpI.mk (r := am_r103) rfl rfl (fun call d al n hcl => ?_)
  unfold wp_XStates_numberOf_39 at h
  refine am_Pn.bl 2 (y := (3, [some (.ref 39), some (.int x1), some (.int x2), none, none], [.int (Int32.ofInt (10)), .int x2], sg_h s, 0, 0)) rfl ?_
  refine am_Pn.bF h (am_bge rfl rfl) rfl rfl (fun h => ?_) (fun h => ?_)
  · refine am_Pn.bl 1 (y := (21, [some (.ref 39), some (.int x1), some (.int x2), none, none], [.ref 39], sg_h s, 0, 0)) rfl ?_
    refine am_Pn.gr (k := 1) rfl rfl am_o39 rfl rfl ?_
    refine am_Pn.bl 1 (y := (25, [some (.ref 39), some (.int x1), some (.int x2), none, none], [.int x1, .ref 41], sg_h s, 0, 0)) rfl ?_
    refine am_Pn.la (a := 41) rfl rfl rfl (fun hi => ?_)
    replace h := h (am_in0 hi) (am_in1 hi)
    refine am_Pn.bl 11 (y := (40, [some (.ref 39), some (.int x1), some (.int x2), some (.long (((s.2.2.2.1 41 (x1.toInt.toNat)).toUInt64 >>> (((x2 - (Int32.ofInt (10))) * (Int32.ofInt (6))).toInt64.toUInt64 &&& Int64.toUInt64 63)).toInt64)), none], [.int (((((s.2.2.2.1 41 (x1.toInt.toNat)).toUInt64 >>> (((x2 - (Int32.ofInt (10))) * (Int32.ofInt (6))).toInt64.toUInt64 &&& Int64.toUInt64 63)).toInt64).toInt32) &&& (Int32.ofInt (63)))], sg_h s, 0, 0)) rfl ?_
    exact am_Pn.rI h rfl
  · refine am_Pn.bl 1 (y := (7, [some (.ref 39), some (.int x1), some (.int x2), none, none], [.ref 39], sg_h s, 0, 0)) rfl ?_
    refine am_Pn.gr (k := 0) rfl rfl am_o39 rfl rfl ?_
    refine am_Pn.bl 1 (y := (11, [some (.ref 39), some (.int x1), some (.int x2), none, none], [.int x1, .ref 40], sg_h s, 0, 0)) rfl ?_
    refine am_Pn.la (a := 40) rfl rfl rfl (fun hi => ?_)
    replace h := h (am_in0 hi) (am_in1 hi)
    refine am_Pn.bl 10 (y := (40, [some (.ref 39), some (.int x1), some (.int x2), some (.long (((s.2.2.2.1 40 (x1.toInt.toNat)).toUInt64 >>> ((x2 * (Int32.ofInt (6))).toInt64.toUInt64 &&& Int64.toUInt64 63)).toInt64)), none], [.int (((((s.2.2.2.1 40 (x1.toInt.toNat)).toUInt64 >>> ((x2 * (Int32.ofInt (6))).toInt64.toUInt64 &&& Int64.toUInt64 63)).toInt64).toInt32) &&& (Int32.ofInt (63)))], sg_h s, 0, 0)) rfl ?_
    exact am_Pn.rI h rfl
def wp_XStates_numberOf_43 (Ψ : Int32 → sg_S → Prop) (x1 : Int32) (x2 : Int32) (s : sg_S) : Prop := ((x2.toInt < (10) → (0 ≤ x1.toInt → x1.toInt < (400) → (Ψ (((((s.2.2.2.1 44 (x1.toInt.toNat)).toUInt64 >>> ((x2 * (Int32.ofInt (6))).toInt64.toUInt64 &&& Int64.toUInt64 63)).toInt64).toInt32) &&& (Int32.ofInt (63))) s))) ∧ (¬ x2.toInt < (10) → (0 ≤ x1.toInt → x1.toInt < (400) → (Ψ (((((s.2.2.2.1 45 (x1.toInt.toNat)).toUInt64 >>> (((x2 - (Int32.ofInt (10))) * (Int32.ofInt (6))).toInt64.toUInt64 &&& Int64.toUInt64 63)).toInt64).toInt32) &&& (Int32.ofInt (63))) s))))
set_option maxRecDepth 100000 in
theorem wp_XStates_numberOf_43_ok {Ψ : Int32 → sg_S → Prop} {x1 : Int32} {x2 : Int32} {s : sg_S} (h : wp_XStates_numberOf_43 Ψ x1 x2 s) : am_SpI 103 [.ref 43, .int x1, .int x2] s Ψ := by
  refine am_SpI.mk (r := am_r103) rfl rfl (fun call d al n hcl => ?_)
  unfold wp_XStates_numberOf_43 at h
  refine am_Pn.bl 2 (y := (3, [some (.ref 43), some (.int x1), some (.int x2), none, none], [.int (Int32.ofInt (10)), .int x2], sg_h s, 0, 0)) rfl ?_
  refine am_Pn.bF h (am_bge rfl rfl) rfl rfl (fun h => ?_) (fun h => ?_)
  · refine am_Pn.bl 1 (y := (21, [some (.ref 43), some (.int x1), some (.int x2), none, none], [.ref 43], sg_h s, 0, 0)) rfl ?_
    refine am_Pn.gr (k := 1) rfl rfl am_o43 rfl rfl ?_
    refine am_Pn.bl 1 (y := (25, [some (.ref 43), some (.int x1), some (.int x2), none, none], [.int x1, .ref 45], sg_h s, 0, 0)) rfl ?_
    refine am_Pn.la (a := 45) rfl rfl rfl (fun hi => ?_)
    replace h := h (am_in0 hi) (am_in1 hi)
    refine am_Pn.bl 11 (y := (40, [some (.ref 43), some (.int x1), some (.int x2), some (.long (((s.2.2.2.1 45 (x1.toInt.toNat)).toUInt64 >>> (((x2 - (Int32.ofInt (10))) * (Int32.ofInt (6))).toInt64.toUInt64 &&& Int64.toUInt64 63)).toInt64)), none], [.int (((((s.2.2.2.1 45 (x1.toInt.toNat)).toUInt64 >>> (((x2 - (Int32.ofInt (10))) * (Int32.ofInt (6))).toInt64.toUInt64 &&& Int64.toUInt64 63)).toInt64).toInt32) &&& (Int32.ofInt (63)))], sg_h s, 0, 0)) rfl ?_
    exact am_Pn.rI h rfl
  · refine am_Pn.bl 1 (y := (7, [some (.ref 43), some (.int x1), some (.int x2), none, none], [.ref 43], sg_h s, 0, 0)) rfl ?_
    refine am_Pn.gr (k := 0) rfl rfl am_o43 rfl rfl ?_
    refine am_Pn.bl 1 (y := (11, [some (.ref 43), some (.int x1), some (.int x2), none, none], [.int x1, .ref 44], sg_h s, 0, 0)) rfl ?_
    refine am_Pn.la (a := 44) rfl rfl rfl (fun hi => ?_)
    replace h := h (am_in0 hi) (am_in1 hi)
    refine am_Pn.bl 10 (y := (40, [some (.ref 43), some (.int x1), some (.int x2), some (.long (((s.2.2.2.1 44 (x1.toInt.toNat)).toUInt64 >>> ((x2 * (Int32.ofInt (6))).toInt64.toUInt64 &&& Int64.toUInt64 63)).toInt64)), none], [.int (((((s.2.2.2.1 44 (x1.toInt.toNat)).toUInt64 >>> ((x2 * (Int32.ofInt (6))).toInt64.toUInt64 &&& Int64.toUInt64 63)).toInt64).toInt32) &&& (Int32.ofInt (63)))], sg_h s, 0, 0)) rfl ?_
    exact am_Pn.rI h rfl
def wp_Arrays_fill_53_5 (I5 : Int32 → Int32 →  sg_S → Prop) (Ψ : sg_S → Prop) (x2 : Int32) (l2 : Int32) (l3 : Int32) (s : sg_S) : Prop := ((l2.toInt < l3.toInt → (0 ≤ l2.toInt → l2.toInt < (256) → (I5 (l2 + Int32.ofInt (1)) l3 (sg_uA s 53 (l2.toInt.toNat) x2)))) ∧ (¬ l2.toInt < l3.toInt → (Ψ s)))
def wp_Arrays_fill_53 (I5 : Int32 → Int32 →  sg_S → Prop) (Ψ : sg_S → Prop) (x2 : Int32) (s : sg_S) : Prop := (I5 (Int32.ofInt (0)) (Int32.ofNat 256) s)
set_option maxRecDepth 100000 in
theorem wp_Arrays_fill_53_ok {I5 : Int32 → Int32 →  sg_S → Prop} {Ψ : sg_S → Prop} {x2 : Int32} {s : sg_S} (k5 : ∀ (l2 : Int32) (l3 : Int32) (s : sg_S), I5 l2 l3 s → wp_Arrays_fill_53_5 I5 Ψ x2 l2 l3 s) (h : wp_Arrays_fill_53 I5 Ψ x2 s) : am_SpV 213 [.ref 53, .int x2] s Ψ := by
  refine am_SpV.mk (r := am_r213) rfl rfl (fun call d al n hcl => ?_)
  have key : ∀ n, (∀ (l2 : Int32) (l3 : Int32) (s : sg_S), I5 l2 l3 s → am_Pn call d (0, fun _ => 0) al am_r213 (am_PhV am_r213 Ψ) n (5, [some (.ref 53), some (.int x2), some (.int l2), some (.int l3)], [], sg_h s, 0, 0)) := by
    intro n
    induction n with
    | zero => exact fun _ _ _ _ => am_Pn.zero
    | succ n ih =>
      intro l2 l3 s h
      replace h := k5 l2 l3 s h
      unfold wp_Arrays_fill_53_5 at h
      refine am_Pn.bl1 1 (y := (7, [some (.ref 53), some (.int x2), some (.int l2), some (.int l3)], [.int l3, .int l2], sg_h s, 0, 0)) rfl ?_
      refine am_Pn.bF h (am_bge rfl rfl) rfl rfl (fun h => ?_) (fun h => ?_)
      · exact am_Pn.rV h rfl
      · refine am_Pn.bl 3 (y := (13, [some (.ref 53), some (.int x2), some (.int l2), some (.int l3)], [.int x2, .int l2, .ref 53], sg_h s, 0, 0)) rfl ?_
        refine am_Pn.is (a := 53) rfl rfl rfl (fun hi => ?_)
        replace h := h (am_in0 hi) (am_in1 hi)
        refine am_Pn.bl 2 (y := (5, [some (.ref 53), some (.int x2), some (.int (l2 + Int32.ofInt (1))), some (.int l3)], [], sg_h (sg_uA s 53 (l2.toInt.toNat) x2), 0, 0)) rfl ?_
        exact (ih) (l2 + Int32.ofInt (1)) l3 (sg_uA s 53 (l2.toInt.toNat) x2) h
  unfold wp_Arrays_fill_53 at h
  refine am_Pn.bl 3 (y := (3, [some (.ref 53), some (.int x2), some (.int (Int32.ofInt (0))), none], [.ref 53], sg_h s, 0, 0)) rfl ?_
  refine am_Pn.an (a := 53) rfl rfl rfl rfl rfl ?_
  refine am_Pn.bl 1 (y := (5, [some (.ref 53), some (.int x2), some (.int (Int32.ofInt (0))), some (.int (Int32.ofNat 256))], [], sg_h s, 0, 0)) rfl ?_
  exact ((key n)) (Int32.ofInt (0)) (Int32.ofNat 256) s h
def wp_XCandidates_clear (Ψ : sg_S → Prop) (s : sg_S) : Prop := (am_SpV 213 [.ref 53, .int (Int32.ofInt (-1))] (sg_uI s 50 4 (Int32.ofInt (0))) (fun s1 => (Ψ s1)))
set_option maxRecDepth 100000 in
theorem wp_XCandidates_clear_ok {Ψ : sg_S → Prop} {s : sg_S} (h : wp_XCandidates_clear Ψ  s) : am_SpV 6 [.ref 50] s Ψ := by
  refine am_SpV.mk (r := am_r6) rfl rfl (fun call d al n hcl => ?_)
  unfold wp_XCandidates_clear at h
  refine am_Pn.bl 2 (y := (2, [some (.ref 50)], [.int (Int32.ofInt (0)), .ref 50], sg_h s, 0, 0)) rfl ?_
  refine am_Pn.pi (k := 4) rfl rfl am_o50 rfl rfl ?_
  refine am_Pn.bl 1 (y := (6, [some (.ref 50)], [.ref 50], sg_h (sg_uI s 50 4 (Int32.ofInt (0))), 0, 0)) rfl ?_
  refine am_Pn.gr (k := 5) rfl rfl am_o50 rfl rfl ?_
  refine am_Pn.bl 1 (y := (10, [some (.ref 50)], [.int (Int32.ofInt (-1)), .ref 53], sg_h (sg_uI s 50 4 (Int32.ofInt (0))), 0, 0)) rfl ?_
  refine am_Pn.csV hcl h rfl rfl rfl rfl rfl (fun s1 h => ?_)
  exact am_Pn.rV h rfl
def wp_XCandidates_add_14 (I14 : Int32 → Int32 →  sg_S → Prop) (Ψ : sg_S → Prop) (x1 : Int32) (l2 : Int32) (l3 : Int32) (s : sg_S) : Prop := ((l3.toInt < (s.1 1 2).toInt → (am_SpI 74 [.ref 1, .int l3, .int x1] s (fun x2 s2 => ((x2.toInt = (0) → (I14 l2 (l3 + Int32.ofInt (1)) s2)) ∧ (¬ x2.toInt = (0) → (I14 (l2 ||| ((Int32.ofInt (1)) <<< (l3 &&& 31))) (l3 + Int32.ofInt (1)) s2)))))) ∧ (¬ l3.toInt < (s.1 1 2).toInt → (0 ≤ (s.1 50 4).toInt → (s.1 50 4).toInt < (16) → (Ψ (sg_uI (sg_uA (sg_uA s 51 ((s.1 50 4).toInt.toNat) x1) 52 ((s.1 50 4).toInt.toNat) l2) 50 4 ((s.1 50 4) + (Int32.ofInt (1))))))))
def wp_XCandidates_add (I14 : Int32 → Int32 →  sg_S → Prop) (Ψ : sg_S → Prop) (x1 : Int32) (s : sg_S) : Prop := (((s.1 50 4).toInt < (16) → (I14 (Int32.ofInt (0)) (Int32.ofInt (0)) s)) ∧ (¬ (s.1 50 4).toInt < (16) → (Ψ s)))
set_option maxRecDepth 100000 in
theorem wp_XCandidates_add_ok {I14 : Int32 → Int32 →  sg_S → Prop} {Ψ : sg_S → Prop} {x1 : Int32} {s : sg_S} (k14 : ∀ (l2 : Int32) (l3 : Int32) (s : sg_S), I14 l2 l3 s → wp_XCandidates_add_14 I14 Ψ x1 l2 l3 s) (h : wp_XCandidates_add I14 Ψ x1 s) : am_SpV 7 [.ref 50, .int x1] s Ψ := by
  refine am_SpV.mk (r := am_r7) rfl rfl (fun call d al n hcl => ?_)
  have key : ∀ n, (∀ (l2 : Int32) (l3 : Int32) (s : sg_S), I14 l2 l3 s → am_Pn call d (0, fun _ => 0) al am_r7 (am_PhV am_r7 Ψ) n (14, [some (.ref 50), some (.int x1), some (.int l2), some (.int l3)], [], sg_h s, 0, 0)) := by
    intro n
    induction n with
    | zero => exact fun _ _ _ _ => am_Pn.zero
    | succ n ih =>
      intro l2 l3 s h
      replace h := k14 l2 l3 s h
      unfold wp_XCandidates_add_14 at h
      refine am_Pn.bl1 1 (y := (16, [some (.ref 50), some (.int x1), some (.int l2), some (.int l3)], [.ref 50, .int l3], sg_h s, 0, 0)) rfl ?_
      refine am_Pn.gr (k := 0) rfl rfl am_o50 rfl rfl ?_
      refine am_Pn.gi (k := 2) rfl rfl am_o1 rfl rfl ?_
      refine am_Pn.bF h (am_bge rfl rfl) rfl rfl (fun h => ?_) (fun h => ?_)
      · refine am_Pn.bl 1 (y := (50, [some (.ref 50), some (.int x1), some (.int l2), some (.int l3)], [.ref 50], sg_h s, 0, 0)) rfl ?_
        refine am_Pn.gr (k := 2) rfl rfl am_o50 rfl rfl ?_
        refine am_Pn.bl 1 (y := (54, [some (.ref 50), some (.int x1), some (.int l2), some (.int l3)], [.ref 50, .ref 51], sg_h s, 0, 0)) rfl ?_
        refine am_Pn.gi (k := 4) rfl rfl am_o50 rfl rfl ?_
        refine am_Pn.bl 1 (y := (58, [some (.ref 50), some (.int x1), some (.int l2), some (.int l3)], [.int x1, .int (s.1 50 4), .ref 51], sg_h s, 0, 0)) rfl ?_
        refine am_Pn.is (a := 51) rfl rfl rfl (fun hi => ?_)
        replace h := h (am_in0 hi) (am_in1 hi)
        refine am_Pn.bl 1 (y := (60, [some (.ref 50), some (.int x1), some (.int l2), some (.int l3)], [.ref 50], sg_h (sg_uA s 51 ((s.1 50 4).toInt.toNat) x1), 0, 0)) rfl ?_
        refine am_Pn.gr (k := 3) rfl rfl am_o50 rfl rfl ?_
        refine am_Pn.bl 1 (y := (64, [some (.ref 50), some (.int x1), some (.int l2), some (.int l3)], [.ref 50, .ref 52], sg_h (sg_uA s 51 ((s.1 50 4).toInt.toNat) x1), 0, 0)) rfl ?_
        refine am_Pn.gi (k := 4) rfl rfl am_o50 rfl rfl ?_
        refine am_Pn.bl 1 (y := (68, [some (.ref 50), some (.int x1), some (.int l2), some (.int l3)], [.int l2, .int (s.1 50 4), .ref 52], sg_h (sg_uA s 51 ((s.1 50 4).toInt.toNat) x1), 0, 0)) rfl ?_
        refine am_Pn.is (a := 52) rfl rfl rfl (fun hi => ?_)
        refine am_Pn.bl 2 (y := (71, [some (.ref 50), some (.int x1), some (.int l2), some (.int l3)], [.ref 50, .ref 50], sg_h (sg_uA (sg_uA s 51 ((s.1 50 4).toInt.toNat) x1) 52 ((s.1 50 4).toInt.toNat) l2), 0, 0)) rfl ?_
        refine am_Pn.gi (k := 4) rfl rfl am_o50 rfl rfl ?_
        refine am_Pn.bl 2 (y := (76, [some (.ref 50), some (.int x1), some (.int l2), some (.int l3)], [.int ((s.1 50 4) + (Int32.ofInt (1))), .ref 50], sg_h (sg_uA (sg_uA s 51 ((s.1 50 4).toInt.toNat) x1) 52 ((s.1 50 4).toInt.toNat) l2), 0, 0)) rfl ?_
        refine am_Pn.pi (k := 4) rfl rfl am_o50 rfl rfl ?_
        exact am_Pn.rV h rfl
      · refine am_Pn.bl 1 (y := (26, [some (.ref 50), some (.int x1), some (.int l2), some (.int l3)], [.ref 50], sg_h s, 0, 0)) rfl ?_
        refine am_Pn.gr (k := 0) rfl rfl am_o50 rfl rfl ?_
        refine am_Pn.bl 2 (y := (31, [some (.ref 50), some (.int x1), some (.int l2), some (.int l3)], [.int x1, .int l3, .ref 1], sg_h s, 0, 0)) rfl ?_
        refine am_Pn.cvI hcl h rfl rfl rfl rfl rfl (fun x2 s2 h => ?_)
        refine am_Pn.zT h (am_beq rfl rfl) rfl rfl (fun h => ?_) (fun h => ?_)
        · refine am_Pn.bl 2 (y := (14, [some (.ref 50), some (.int x1), some (.int l2), some (.int (l3 + Int32.ofInt (1)))], [], sg_h s2, 0, 0)) rfl ?_
          exact (ih) l2 (l3 + Int32.ofInt (1)) s2 h
        · refine am_Pn.bl 8 (y := (14, [some (.ref 50), some (.int x1), some (.int (l2 ||| ((Int32.ofInt (1)) <<< (l3 &&& 31)))), some (.int (l3 + Int32.ofInt (1)))], [], sg_h s2, 0, 0)) rfl ?_
          exact (ih) (l2 ||| ((Int32.ofInt (1)) <<< (l3 &&& 31))) (l3 + Int32.ofInt (1)) s2 h
  unfold wp_XCandidates_add at h
  refine am_Pn.bl 1 (y := (1, [some (.ref 50), some (.int x1), none, none], [.ref 50], sg_h s, 0, 0)) rfl ?_
  refine am_Pn.gi (k := 4) rfl rfl am_o50 rfl rfl ?_
  refine am_Pn.bl 1 (y := (6, [some (.ref 50), some (.int x1), none, none], [.int (Int32.ofInt (16)), .int (s.1 50 4)], sg_h s, 0, 0)) rfl ?_
  refine am_Pn.bT h (am_blt rfl rfl) rfl rfl (fun h => ?_) (fun h => ?_)
  · refine am_Pn.bl 4 (y := (14, [some (.ref 50), some (.int x1), some (.int (Int32.ofInt (0))), some (.int (Int32.ofInt (0)))], [], sg_h s, 0, 0)) rfl ?_
    exact ((key n)) (Int32.ofInt (0)) (Int32.ofInt (0)) s h
  · exact am_Pn.rV h rfl
def wp_XCandidates_linkedTo_21 (I21 : Int32 → Int32 → Int32 →  sg_S → Prop) (Ψ : Int32 → sg_S → Prop) (x1 : Int32) (l2 : Int32) (l3 : Int32) (l4 : Int32) (s : sg_S) : Prop := ((l4.toInt < (s.1 50 4).toInt → (0 ≤ l4.toInt → l4.toInt < (16) → (am_SpI 116 [.ref 22, .int l2, .int (s.2.2.1 51 (l4.toInt.toNat))] s (fun x2 s2 => ((x2.toInt = (0) → (I21 l2 l3 (l4 + Int32.ofInt (1)) s2)) ∧ (¬ x2.toInt = (0) → (I21 l2 (l3 ||| ((Int32.ofInt (1)) <<< (l4 &&& 31))) (l4 + Int32.ofInt (1)) s2))))))) ∧ (¬ l4.toInt < (s.1 50 4).toInt → (0 ≤ l2.toInt → l2.toInt < (256) → (Ψ ((sg_uA s 53 (l2.toInt.toNat) l3).2.2.1 53 (l2.toInt.toNat)) (sg_uA s 53 (l2.toInt.toNat) l3)))))
def wp_XCandidates_linkedTo (I21 : Int32 → Int32 → Int32 →  sg_S → Prop) (Ψ : Int32 → sg_S → Prop) (x1 : Int32) (s : sg_S) : Prop := (0 ≤ (x1 &&& (Int32.ofInt (255))).toInt → (x1 &&& (Int32.ofInt (255))).toInt < (256) → (((s.2.2.1 53 ((x1 &&& (Int32.ofInt (255))).toInt.toNat)).toInt = (-1) → (I21 (x1 &&& (Int32.ofInt (255))) (Int32.ofInt (0)) (Int32.ofInt (0)) s)) ∧ (¬ (s.2.2.1 53 ((x1 &&& (Int32.ofInt (255))).toInt.toNat)).toInt = (-1) → (Ψ (s.2.2.1 53 ((x1 &&& (Int32.ofInt (255))).toInt.toNat)) s))))
set_option maxRecDepth 100000 in
theorem wp_XCandidates_linkedTo_ok {I21 : Int32 → Int32 → Int32 →  sg_S → Prop} {Ψ : Int32 → sg_S → Prop} {x1 : Int32} {s : sg_S} (k21 : ∀ (l2 : Int32) (l3 : Int32) (l4 : Int32) (s : sg_S), I21 l2 l3 l4 s → wp_XCandidates_linkedTo_21 I21 Ψ x1 l2 l3 l4 s) (h : wp_XCandidates_linkedTo I21 Ψ x1 s) : am_SpI 8 [.ref 50, .int x1] s Ψ := by
  refine am_SpI.mk (r := am_r8) rfl rfl (fun call d al n hcl => ?_)
  have key : ∀ n, (∀ (l2 : Int32) (l3 : Int32) (l4 : Int32) (s : sg_S), I21 l2 l3 l4 s → am_Pn call d (0, fun _ => 0) al am_r8 (am_PhI am_r8 Ψ) n (21, [some (.ref 50), some (.int x1), some (.int l2), some (.int l3), some (.int l4)], [], sg_h s, 0, 0)) := by
    intro n
    induction n with
    | zero => exact fun _ _ _ _ _ => am_Pn.zero
    | succ n ih =>
      intro l2 l3 l4 s h
      replace h := k21 l2 l3 l4 s h
      unfold wp_XCandidates_linkedTo_21 at h
      refine am_Pn.bl1 1 (y := (24, [some (.ref 50), some (.int x1), some (.int l2), some (.int l3), some (.int l4)], [.ref 50, .int l4], sg_h s, 0, 0)) rfl ?_
      refine am_Pn.gi (k := 4) rfl rfl am_o50 rfl rfl ?_
      refine am_Pn.bF h (am_bge rfl rfl) rfl rfl (fun h => ?_) (fun h => ?_)
      · refine am_Pn.bl 1 (y := (62, [some (.ref 50), some (.int x1), some (.int l2), some (.int l3), some (.int l4)], [.ref 50], sg_h s, 0, 0)) rfl ?_
        refine am_Pn.gr (k := 5) rfl rfl am_o50 rfl rfl ?_
        refine am_Pn.bl 2 (y := (67, [some (.ref 50), some (.int x1), some (.int l2), some (.int l3), some (.int l4)], [.int l3, .int l2, .ref 53], sg_h s, 0, 0)) rfl ?_
        refine am_Pn.is (a := 53) rfl rfl rfl (fun hi => ?_)
        replace h := h (am_in0 hi) (am_in1 hi)
        refine am_Pn.bl 1 (y := (69, [some (.ref 50), some (.int x1), some (.int l2), some (.int l3), some (.int l4)], [.ref 50], sg_h (sg_uA s 53 (l2.toInt.toNat) l3), 0, 0)) rfl ?_
        refine am_Pn.gr (k := 5) rfl rfl am_o50 rfl rfl ?_
        refine am_Pn.bl 1 (y := (73, [some (.ref 50), some (.int x1), some (.int l2), some (.int l3), some (.int l4)], [.int l2, .ref 53], sg_h (sg_uA s 53 (l2.toInt.toNat) l3), 0, 0)) rfl ?_
        refine am_Pn.ia (a := 53) rfl rfl rfl rfl (fun hi => ?_)
        exact am_Pn.rI h rfl
      · refine am_Pn.bl 1 (y := (31, [some (.ref 50), some (.int x1), some (.int l2), some (.int l3), some (.int l4)], [.ref 50], sg_h s, 0, 0)) rfl ?_
        refine am_Pn.gr (k := 1) rfl rfl am_o50 rfl rfl ?_
        refine am_Pn.bl 2 (y := (36, [some (.ref 50), some (.int x1), some (.int l2), some (.int l3), some (.int l4)], [.ref 50, .int l2, .ref 22], sg_h s, 0, 0)) rfl ?_
        refine am_Pn.gr (k := 2) rfl rfl am_o50 rfl rfl ?_
        refine am_Pn.bl 1 (y := (41, [some (.ref 50), some (.int x1), some (.int l2), some (.int l3), some (.int l4)], [.int l4, .ref 51, .int l2, .ref 22], sg_h s, 0, 0)) rfl ?_
        refine am_Pn.ia (a := 51) rfl rfl rfl rfl (fun hi => ?_)
        replace h := h (am_in0 hi) (am_in1 hi)
        refine am_Pn.cvI hcl h rfl rfl rfl rfl rfl (fun x2 s2 h => ?_)
        refine am_Pn.zT h (am_beq rfl rfl) rfl rfl (fun h => ?_) (fun h => ?_)
        · refine am_Pn.bl 2 (y := (21, [some (.ref 50), some (.int x1), some (.int l2), some (.int l3), some (.int (l4 + Int32.ofInt (1)))], [], sg_h s2, 0, 0)) rfl ?_
          exact (ih) l2 l3 (l4 + Int32.ofInt (1)) s2 h
        · refine am_Pn.bl 8 (y := (21, [some (.ref 50), some (.int x1), some (.int l2), some (.int (l3 ||| ((Int32.ofInt (1)) <<< (l4 &&& 31)))), some (.int (l4 + Int32.ofInt (1)))], [], sg_h s2, 0, 0)) rfl ?_
          exact (ih) l2 (l3 ||| ((Int32.ofInt (1)) <<< (l4 &&& 31))) (l4 + Int32.ofInt (1)) s2 h
  unfold wp_XCandidates_linkedTo at h
  refine am_Pn.bl 5 (y := (7, [some (.ref 50), some (.int x1), some (.int (x1 &&& (Int32.ofInt (255)))), none, none], [.ref 50], sg_h s, 0, 0)) rfl ?_
  refine am_Pn.gr (k := 5) rfl rfl am_o50 rfl rfl ?_
  refine am_Pn.bl 1 (y := (11, [some (.ref 50), some (.int x1), some (.int (x1 &&& (Int32.ofInt (255)))), none, none], [.int (x1 &&& (Int32.ofInt (255))), .ref 53], sg_h s, 0, 0)) rfl ?_
  refine am_Pn.ia (a := 53) rfl rfl rfl rfl (fun hi => ?_)
  replace h := h (am_in0 hi) (am_in1 hi)
  refine am_Pn.bl 1 (y := (13, [some (.ref 50), some (.int x1), some (.int (x1 &&& (Int32.ofInt (255)))), none, none], [.int (Int32.ofInt (-1)), .int (s.2.2.1 53 ((x1 &&& (Int32.ofInt (255))).toInt.toNat))], sg_h s, 0, 0)) rfl ?_
  refine am_Pn.bF h (am_bne rfl rfl) rfl rfl (fun h => ?_) (fun h => ?_)
  · refine am_Pn.bl 1 (y := (69, [some (.ref 50), some (.int x1), some (.int (x1 &&& (Int32.ofInt (255)))), none, none], [.ref 50], sg_h s, 0, 0)) rfl ?_
    refine am_Pn.gr (k := 5) rfl rfl am_o50 rfl rfl ?_
    refine am_Pn.bl 1 (y := (73, [some (.ref 50), some (.int x1), some (.int (x1 &&& (Int32.ofInt (255)))), none, none], [.int (x1 &&& (Int32.ofInt (255))), .ref 53], sg_h s, 0, 0)) rfl ?_
    refine am_Pn.ia (a := 53) rfl rfl rfl rfl (fun hi => ?_)
    exact am_Pn.rI h rfl
  · refine am_Pn.bl 4 (y := (21, [some (.ref 50), some (.int x1), some (.int (x1 &&& (Int32.ofInt (255)))), some (.int (Int32.ofInt (0))), some (.int (Int32.ofInt (0)))], [], sg_h s, 0, 0)) rfl ?_
    exact ((key n)) (x1 &&& (Int32.ofInt (255))) (Int32.ofInt (0)) (Int32.ofInt (0)) s h
def wp_XRules_hasSort_1_2 (I2 : Int32 →  sg_S → Prop) (Ψ : Int32 → sg_S → Prop) (x1 : Int32) (l2 : Int32) (s : sg_S) : Prop := ((l2.toInt < (s.1 1 2).toInt → (0 ≤ l2.toInt → l2.toInt < (12) → (((s.2.2.1 4 (l2.toInt.toNat)).toInt = x1.toInt → (Ψ (Int32.ofInt (1)) s)) ∧ (¬ (s.2.2.1 4 (l2.toInt.toNat)).toInt = x1.toInt → (I2 (l2 + Int32.ofInt (1)) s))))) ∧ (¬ l2.toInt < (s.1 1 2).toInt → (Ψ (Int32.ofInt (0)) s)))
def wp_XRules_hasSort_1 (I2 : Int32 →  sg_S → Prop) (Ψ : Int32 → sg_S → Prop) (x1 : Int32) (s : sg_S) : Prop := (I2 (Int32.ofInt (0)) s)
set_option maxRecDepth 100000 in
theorem wp_XRules_hasSort_1_ok {I2 : Int32 →  sg_S → Prop} {Ψ : Int32 → sg_S → Prop} {x1 : Int32} {s : sg_S} (k2 : ∀ (l2 : Int32) (s : sg_S), I2 l2 s → wp_XRules_hasSort_1_2 I2 Ψ x1 l2 s) (h : wp_XRules_hasSort_1 I2 Ψ x1 s) : am_SpI 79 [.ref 1, .int x1] s Ψ := by
  refine am_SpI.mk (r := am_r79) rfl rfl (fun call d al n hcl => ?_)
  have key : ∀ n, (∀ (l2 : Int32) (s : sg_S), I2 l2 s → am_Pn call d (0, fun _ => 0) al am_r79 (am_PhI am_r79 Ψ) n (2, [some (.ref 1), some (.int x1), some (.int l2)], [], sg_h s, 0, 0)) := by
    intro n
    induction n with
    | zero => exact fun _ _ _ => am_Pn.zero
    | succ n ih =>
      intro l2 s h
      replace h := k2 l2 s h
      unfold wp_XRules_hasSort_1_2 at h
      refine am_Pn.bl1 1 (y := (4, [some (.ref 1), some (.int x1), some (.int l2)], [.ref 1, .int l2], sg_h s, 0, 0)) rfl ?_
      refine am_Pn.gi (k := 2) rfl rfl am_o1 rfl rfl ?_
      refine am_Pn.bF h (am_bge rfl rfl) rfl rfl (fun h => ?_) (fun h => ?_)
      · refine am_Pn.bl 1 (y := (29, [some (.ref 1), some (.int x1), some (.int l2)], [.int (Int32.ofInt (0))], sg_h s, 0, 0)) rfl ?_
        exact am_Pn.rI h rfl
      · refine am_Pn.bl 1 (y := (11, [some (.ref 1), some (.int x1), some (.int l2)], [.ref 1], sg_h s, 0, 0)) rfl ?_
        refine am_Pn.gr (k := 8) rfl rfl am_o1 rfl rfl ?_
        refine am_Pn.bl 1 (y := (15, [some (.ref 1), some (.int x1), some (.int l2)], [.int l2, .ref 4], sg_h s, 0, 0)) rfl ?_
        refine am_Pn.ia (a := 4) rfl rfl rfl rfl (fun hi => ?_)
        replace h := h (am_in0 hi) (am_in1 hi)
        refine am_Pn.bl 1 (y := (17, [some (.ref 1), some (.int x1), some (.int l2)], [.int x1, .int (s.2.2.1 4 (l2.toInt.toNat))], sg_h s, 0, 0)) rfl ?_
        refine am_Pn.bF h (am_bne rfl rfl) rfl rfl (fun h => ?_) (fun h => ?_)
        · refine am_Pn.bl 2 (y := (2, [some (.ref 1), some (.int x1), some (.int (l2 + Int32.ofInt (1)))], [], sg_h s, 0, 0)) rfl ?_
          exact (ih) (l2 + Int32.ofInt (1)) s h
        · refine am_Pn.bl 1 (y := (21, [some (.ref 1), some (.int x1), some (.int l2)], [.int (Int32.ofInt (1))], sg_h s, 0, 0)) rfl ?_
          exact am_Pn.rI h rfl
  unfold wp_XRules_hasSort_1 at h
  refine am_Pn.bl 2 (y := (2, [some (.ref 1), some (.int x1), some (.int (Int32.ofInt (0)))], [], sg_h s, 0, 0)) rfl ?_
  exact ((key n)) (Int32.ofInt (0)) s h
def wp_XRules_isCounting_1 (Ψ : Int32 → sg_S → Prop) (x1 : Int32) (s : sg_S) : Prop := (0 ≤ x1.toInt → x1.toInt < (12) → (((s.2.2.1 4 (x1.toInt.toNat)).toInt = (2) → (Ψ (Int32.ofInt (1)) s)) ∧ (¬ (s.2.2.1 4 (x1.toInt.toNat)).toInt = (2) → (((s.2.2.1 4 (x1.toInt.toNat)).toInt = (3) → (Ψ (Int32.ofInt (1)) s)) ∧ (¬ (s.2.2.1 4 (x1.toInt.toNat)).toInt = (3) → (((s.2.2.1 4 (x1.toInt.toNat)).toInt = (4) → (Ψ (Int32.ofInt (1)) s)) ∧ (¬ (s.2.2.1 4 (x1.toInt.toNat)).toInt = (4) → (((s.2.2.1 4 (x1.toInt.toNat)).toInt = (5) → (Ψ (Int32.ofInt (1)) s)) ∧ (¬ (s.2.2.1 4 (x1.toInt.toNat)).toInt = (5) → (Ψ (Int32.ofInt (0)) s))))))))))
set_option maxRecDepth 100000 in
theorem wp_XRules_isCounting_1_ok {Ψ : Int32 → sg_S → Prop} {x1 : Int32} {s : sg_S} (h : wp_XRules_isCounting_1 Ψ x1 s) : am_SpI 78 [.ref 1, .int x1] s Ψ := by
  refine am_SpI.mk (r := am_r78) rfl rfl (fun call d al n hcl => ?_)
  unfold wp_XRules_isCounting_1 at h
  refine am_Pn.bl 1 (y := (1, [some (.ref 1), some (.int x1), none], [.ref 1], sg_h s, 0, 0)) rfl ?_
  refine am_Pn.gr (k := 8) rfl rfl am_o1 rfl rfl ?_
  refine am_Pn.bl 1 (y := (5, [some (.ref 1), some (.int x1), none], [.int x1, .ref 4], sg_h s, 0, 0)) rfl ?_
  refine am_Pn.ia (a := 4) rfl rfl rfl rfl (fun hi => ?_)
  replace h := h (am_in0 hi) (am_in1 hi)
  refine am_Pn.bl 3 (y := (9, [some (.ref 1), some (.int x1), some (.int (s.2.2.1 4 (x1.toInt.toNat)))], [.int (Int32.ofInt (2)), .int (s.2.2.1 4 (x1.toInt.toNat))], sg_h s, 0, 0)) rfl ?_
  refine am_Pn.bT h (am_beq rfl rfl) rfl rfl (fun h => ?_) (fun h => ?_)
  · refine am_Pn.bl 2 (y := (32, [some (.ref 1), some (.int x1), some (.int (s.2.2.1 4 (x1.toInt.toNat)))], [.int (Int32.ofInt (1))], sg_h s, 0, 0)) rfl ?_
    exact am_Pn.rI h rfl
  · refine am_Pn.bl 2 (y := (14, [some (.ref 1), some (.int x1), some (.int (s.2.2.1 4 (x1.toInt.toNat)))], [.int (Int32.ofInt (3)), .int (s.2.2.1 4 (x1.toInt.toNat))], sg_h s, 0, 0)) rfl ?_
    refine am_Pn.bT h (am_beq rfl rfl) rfl rfl (fun h => ?_) (fun h => ?_)
    · refine am_Pn.bl 2 (y := (32, [some (.ref 1), some (.int x1), some (.int (s.2.2.1 4 (x1.toInt.toNat)))], [.int (Int32.ofInt (1))], sg_h s, 0, 0)) rfl ?_
      exact am_Pn.rI h rfl
    · refine am_Pn.bl 2 (y := (19, [some (.ref 1), some (.int x1), some (.int (s.2.2.1 4 (x1.toInt.toNat)))], [.int (Int32.ofInt (4)), .int (s.2.2.1 4 (x1.toInt.toNat))], sg_h s, 0, 0)) rfl ?_
      refine am_Pn.bT h (am_beq rfl rfl) rfl rfl (fun h => ?_) (fun h => ?_)
      · refine am_Pn.bl 2 (y := (32, [some (.ref 1), some (.int x1), some (.int (s.2.2.1 4 (x1.toInt.toNat)))], [.int (Int32.ofInt (1))], sg_h s, 0, 0)) rfl ?_
        exact am_Pn.rI h rfl
      · refine am_Pn.bl 2 (y := (24, [some (.ref 1), some (.int x1), some (.int (s.2.2.1 4 (x1.toInt.toNat)))], [.int (Int32.ofInt (5)), .int (s.2.2.1 4 (x1.toInt.toNat))], sg_h s, 0, 0)) rfl ?_
        refine am_Pn.bF h (am_bne rfl rfl) rfl rfl (fun h => ?_) (fun h => ?_)
        · refine am_Pn.bl 1 (y := (32, [some (.ref 1), some (.int x1), some (.int (s.2.2.1 4 (x1.toInt.toNat)))], [.int (Int32.ofInt (0))], sg_h s, 0, 0)) rfl ?_
          exact am_Pn.rI h rfl
        · refine am_Pn.bl 2 (y := (32, [some (.ref 1), some (.int x1), some (.int (s.2.2.1 4 (x1.toInt.toNat)))], [.int (Int32.ofInt (1))], sg_h s, 0, 0)) rfl ?_
          exact am_Pn.rI h rfl
def wp_XOnward_takeRules_7 (I7 : Int32 →  sg_S → Prop) (Ψ : sg_S → Prop) (l1 : Int32) (s : sg_S) : Prop := ((l1.toInt < (s.1 1 2).toInt → (am_SpI 78 [.ref 1, .int l1] s (fun x1 s1 => ((x1.toInt = (0) → (I7 (l1 + Int32.ofInt (1)) s1)) ∧ (¬ x1.toInt = (0) → (0 ≤ (s1.1 54 2).toInt → (s1.1 54 2).toInt < (12) → (I7 (l1 + Int32.ofInt (1)) (sg_uI (sg_uA s1 55 ((s1.1 54 2).toInt.toNat) l1) 54 2 ((s1.1 54 2) + (Int32.ofInt (1))))))))))) ∧ (¬ l1.toInt < (s.1 1 2).toInt → (Ψ s)))
def wp_XOnward_takeRules (I7 : Int32 →  sg_S → Prop) (Ψ : sg_S → Prop) (s : sg_S) : Prop := (I7 (Int32.ofInt (0)) (sg_uI s 54 2 (Int32.ofInt (0))))
set_option maxRecDepth 100000 in
theorem wp_XOnward_takeRules_ok {I7 : Int32 →  sg_S → Prop} {Ψ : sg_S → Prop} {s : sg_S} (k7 : ∀ (l1 : Int32) (s : sg_S), I7 l1 s → wp_XOnward_takeRules_7 I7 Ψ  l1 s) (h : wp_XOnward_takeRules I7 Ψ  s) : am_SpV 26 [.ref 54] s Ψ := by
  refine am_SpV.mk (r := am_r26) rfl rfl (fun call d al n hcl => ?_)
  have key : ∀ n, (∀ (l1 : Int32) (s : sg_S), I7 l1 s → am_Pn call d (0, fun _ => 0) al am_r26 (am_PhV am_r26 Ψ) n (7, [some (.ref 54), some (.int l1)], [], sg_h s, 0, 0)) := by
    intro n
    induction n with
    | zero => exact fun _ _ _ => am_Pn.zero
    | succ n ih =>
      intro l1 s h
      replace h := k7 l1 s h
      unfold wp_XOnward_takeRules_7 at h
      refine am_Pn.bl1 1 (y := (9, [some (.ref 54), some (.int l1)], [.ref 54, .int l1], sg_h s, 0, 0)) rfl ?_
      refine am_Pn.gr (k := 0) rfl rfl am_o54 rfl rfl ?_
      refine am_Pn.gi (k := 2) rfl rfl am_o1 rfl rfl ?_
      refine am_Pn.bF h (am_bge rfl rfl) rfl rfl (fun h => ?_) (fun h => ?_)
      · exact am_Pn.rV h rfl
      · refine am_Pn.bl 1 (y := (19, [some (.ref 54), some (.int l1)], [.ref 54], sg_h s, 0, 0)) rfl ?_
        refine am_Pn.gr (k := 0) rfl rfl am_o54 rfl rfl ?_
        refine am_Pn.bl 1 (y := (23, [some (.ref 54), some (.int l1)], [.int l1, .ref 1], sg_h s, 0, 0)) rfl ?_
        refine am_Pn.cvI hcl h rfl rfl rfl rfl rfl (fun x1 s1 h => ?_)
        refine am_Pn.zT h (am_beq rfl rfl) rfl rfl (fun h => ?_) (fun h => ?_)
        · refine am_Pn.bl 2 (y := (7, [some (.ref 54), some (.int (l1 + Int32.ofInt (1)))], [], sg_h s1, 0, 0)) rfl ?_
          exact (ih) (l1 + Int32.ofInt (1)) s1 h
        · refine am_Pn.bl 1 (y := (30, [some (.ref 54), some (.int l1)], [.ref 54], sg_h s1, 0, 0)) rfl ?_
          refine am_Pn.gr (k := 1) rfl rfl am_o54 rfl rfl ?_
          refine am_Pn.bl 1 (y := (34, [some (.ref 54), some (.int l1)], [.ref 54, .ref 55], sg_h s1, 0, 0)) rfl ?_
          refine am_Pn.gi (k := 2) rfl rfl am_o54 rfl rfl ?_
          refine am_Pn.bl 1 (y := (38, [some (.ref 54), some (.int l1)], [.int l1, .int (s1.1 54 2), .ref 55], sg_h s1, 0, 0)) rfl ?_
          refine am_Pn.is (a := 55) rfl rfl rfl (fun hi => ?_)
          replace h := h (am_in0 hi) (am_in1 hi)
          refine am_Pn.bl 2 (y := (41, [some (.ref 54), some (.int l1)], [.ref 54, .ref 54], sg_h (sg_uA s1 55 ((s1.1 54 2).toInt.toNat) l1), 0, 0)) rfl ?_
          refine am_Pn.gi (k := 2) rfl rfl am_o54 rfl rfl ?_
          refine am_Pn.bl 2 (y := (46, [some (.ref 54), some (.int l1)], [.int ((s1.1 54 2) + (Int32.ofInt (1))), .ref 54], sg_h (sg_uA s1 55 ((s1.1 54 2).toInt.toNat) l1), 0, 0)) rfl ?_
          refine am_Pn.pi (k := 2) rfl rfl am_o54 rfl rfl ?_
          refine am_Pn.bl 2 (y := (7, [some (.ref 54), some (.int (l1 + Int32.ofInt (1)))], [], sg_h (sg_uI (sg_uA s1 55 ((s1.1 54 2).toInt.toNat) l1) 54 2 ((s1.1 54 2) + (Int32.ofInt (1)))), 0, 0)) rfl ?_
          exact (ih) (l1 + Int32.ofInt (1)) (sg_uI (sg_uA s1 55 ((s1.1 54 2).toInt.toNat) l1) 54 2 ((s1.1 54 2) + (Int32.ofInt (1)))) h
  unfold wp_XOnward_takeRules at h
  refine am_Pn.bl 2 (y := (2, [some (.ref 54), none], [.int (Int32.ofInt (0)), .ref 54], sg_h s, 0, 0)) rfl ?_
  refine am_Pn.pi (k := 2) rfl rfl am_o54 rfl rfl ?_
  refine am_Pn.bl 2 (y := (7, [some (.ref 54), some (.int (Int32.ofInt (0)))], [], sg_h (sg_uI s 54 2 (Int32.ofInt (0))), 0, 0)) rfl ?_
  exact ((key n)) (Int32.ofInt (0)) (sg_uI s 54 2 (Int32.ofInt (0))) h
def wp_XOnward_layFirst_F_8 (I8 : Int64 → Int64 → Int32 →  sg_S → Prop) (Ψ : Int32 → sg_S → Prop) (F : Nat) (l2 : Int64) (l4 : Int64) (l6 : Int32) (s : sg_S) : Prop := ((l6.toInt < (s.1 54 2).toInt → (0 ≤ l6.toInt → l6.toInt < (12) → (am_SpI 71 [.ref 1, .int (s.2.2.1 55 (l6.toInt.toNat))] s (fun x3 s3 => (am_SpL 97 [.int l6, .long (x3.toInt64)] s3 (fun x4 s4 => (am_SpL 98 [.int l6, .long (x3.toInt64)] s4 (fun x5 s5 => (I8 (l2 + x4) (l4 + x5) (l6 + Int32.ofInt (1)) s5))))))))) ∧ (¬ l6.toInt < (s.1 54 2).toInt → (am_SpI 99 [.ref F, .long l2, .long l4] s (fun x2 s2 => (Ψ x2 s2)))))
def wp_XOnward_layFirst_F (I8 : Int64 → Int64 → Int32 →  sg_S → Prop) (Ψ : Int32 → sg_S → Prop) (F : Nat) (s : sg_S) : Prop := (I8 (Int64.ofNat 0) (Int64.ofNat 0) (Int32.ofInt (0)) s)
set_option maxRecDepth 100000 in
theorem wp_XOnward_layFirst_F_ok {I8 : Int64 → Int64 → Int32 →  sg_S → Prop} {Ψ : Int32 → sg_S → Prop} {F : Nat} {s : sg_S} (k8 : ∀ (l2 : Int64) (l4 : Int64) (l6 : Int32) (s : sg_S), I8 l2 l4 l6 s → wp_XOnward_layFirst_F_8 I8 Ψ F l2 l4 l6 s) (h : wp_XOnward_layFirst_F I8 Ψ F s) : am_SpI 27 [.ref 54, .ref F] s Ψ := by
  refine am_SpI.mk (r := am_r27) rfl rfl (fun call d al n hcl => ?_)
  have key : ∀ n, (∀ (o7 : Option Value) (l2 : Int64) (l4 : Int64) (l6 : Int32) (s : sg_S), I8 l2 l4 l6 s → am_Pn call d (0, fun _ => 0) al am_r27 (am_PhI am_r27 Ψ) n (8, [some (.ref 54), some (.ref F), some (.long l2), none, some (.long l4), none, some (.int l6), o7], [], sg_h s, 0, 0)) := by
    intro n
    induction n with
    | zero => exact fun _ _ _ _ _ _ => am_Pn.zero
    | succ n ih =>
      intro o7 l2 l4 l6 s h
      replace h := k8 l2 l4 l6 s h
      unfold wp_XOnward_layFirst_F_8 at h
      refine am_Pn.bl1 1 (y := (11, [some (.ref 54), some (.ref F), some (.long l2), none, some (.long l4), none, some (.int l6), o7], [.ref 54, .int l6], sg_h s, 0, 0)) rfl ?_
      refine am_Pn.gi (k := 2) rfl rfl am_o54 rfl rfl ?_
      refine am_Pn.bF h (am_bge rfl rfl) rfl rfl (fun h => ?_) (fun h => ?_)
      · refine am_Pn.bl 3 (y := (67, [some (.ref 54), some (.ref F), some (.long l2), none, some (.long l4), none, some (.int l6), o7], [.long l4, .long l2, .ref F], sg_h s, 0, 0)) rfl ?_
        refine am_Pn.cvI hcl h rfl rfl rfl rfl rfl (fun x2 s2 h => ?_)
        exact am_Pn.rI h rfl
      · refine am_Pn.bl 1 (y := (18, [some (.ref 54), some (.ref F), some (.long l2), none, some (.long l4), none, some (.int l6), o7], [.ref 54], sg_h s, 0, 0)) rfl ?_
        refine am_Pn.gr (k := 0) rfl rfl am_o54 rfl rfl ?_
        refine am_Pn.bl 1 (y := (22, [some (.ref 54), some (.ref F), some (.long l2), none, some (.long l4), none, some (.int l6), o7], [.ref 54, .ref 1], sg_h s, 0, 0)) rfl ?_
        refine am_Pn.gr (k := 1) rfl rfl am_o54 rfl rfl ?_
        refine am_Pn.bl 1 (y := (27, [some (.ref 54), some (.ref F), some (.long l2), none, some (.long l4), none, some (.int l6), o7], [.int l6, .ref 55, .ref 1], sg_h s, 0, 0)) rfl ?_
        refine am_Pn.ia (a := 55) rfl rfl rfl rfl (fun hi => ?_)
        replace h := h (am_in0 hi) (am_in1 hi)
        refine am_Pn.cvI hcl h rfl rfl rfl rfl rfl (fun x3 s3 h => ?_)
        refine am_Pn.bl 5 (y := (39, [some (.ref 54), some (.ref F), some (.long l2), none, some (.long l4), none, some (.int l6), some (.int x3)], [.long (x3.toInt64), .int l6, .long l2], sg_h s3, 0, 0)) rfl ?_
        refine am_Pn.csL hcl h rfl rfl rfl rfl rfl (fun x4 s4 h => ?_)
        refine am_Pn.bl 6 (y := (51, [some (.ref 54), some (.ref F), some (.long (l2 + x4)), none, some (.long l4), none, some (.int l6), some (.int x3)], [.long (x3.toInt64), .int l6, .long l4], sg_h s4, 0, 0)) rfl ?_
        refine am_Pn.csL hcl h rfl rfl rfl rfl rfl (fun x5 s5 h => ?_)
        refine am_Pn.bl 4 (y := (8, [some (.ref 54), some (.ref F), some (.long (l2 + x4)), none, some (.long (l4 + x5)), none, some (.int (l6 + Int32.ofInt (1))), some (.int x3)], [], sg_h s5, 0, 0)) rfl ?_
        exact (ih) (some (.int x3)) (l2 + x4) (l4 + x5) (l6 + Int32.ofInt (1)) s5 h
  unfold wp_XOnward_layFirst_F at h
  refine am_Pn.bl 6 (y := (8, [some (.ref 54), some (.ref F), some (.long (Int64.ofNat 0)), none, some (.long (Int64.ofNat 0)), none, some (.int (Int32.ofInt (0))), none], [], sg_h s, 0, 0)) rfl ?_
  exact ((key n)) none (Int64.ofNat 0) (Int64.ofNat 0) (Int32.ofInt (0)) s h
def wp_XOnward_takePlace_17 (I17 : Int32 →  sg_S → Prop) (Ψ : sg_S → Prop) (x1 : Int32) (l2 : Int32) (s : sg_S) : Prop := ((l2.toInt < (s.1 1 2).toInt → (am_SpI 78 [.ref 1, .int l2] s (fun x2 s2 => ((x2.toInt = (0) → (am_SpI 76 [.ref 1, .int l2, .int (Int32.ofInt (0)), .int (s2.1 54 3), .int (Int32.ofInt (1))] s2 (fun x3 s3 => ((x3.toInt = (0) → (am_SpI 76 [.ref 1, .int l2, .int (Int32.ofInt (0)), .int (s3.1 54 3), .int (Int32.ofInt (0))] (sg_uI s3 54 4 ((s2.1 54 4) ||| (Int32.ofInt (0)))) (fun x4 s4 => ((x4.toInt = (0) → (I17 (l2 + Int32.ofInt (1)) (sg_uI s4 54 5 ((s3.1 54 5) ||| (Int32.ofInt (0)))))) ∧ (¬ x4.toInt = (0) → (I17 (l2 + Int32.ofInt (1)) (sg_uI s4 54 5 ((s3.1 54 5) ||| ((Int32.ofInt (1)) <<< (l2 &&& 31)))))))))) ∧ (¬ x3.toInt = (0) → (am_SpI 76 [.ref 1, .int l2, .int (Int32.ofInt (0)), .int (s3.1 54 3), .int (Int32.ofInt (0))] (sg_uI s3 54 4 ((s2.1 54 4) ||| ((Int32.ofInt (1)) <<< (l2 &&& 31)))) (fun x5 s5 => ((x5.toInt = (0) → (I17 (l2 + Int32.ofInt (1)) (sg_uI s5 54 5 ((s3.1 54 5) ||| (Int32.ofInt (0)))))) ∧ (¬ x5.toInt = (0) → (I17 (l2 + Int32.ofInt (1)) (sg_uI s5 54 5 ((s3.1 54 5) ||| ((Int32.ofInt (1)) <<< (l2 &&& 31)))))))))))))) ∧ (¬ x2.toInt = (0) → (I17 (l2 + Int32.ofInt (1)) s2)))))) ∧ (¬ l2.toInt < (s.1 1 2).toInt → (Ψ s)))
def wp_XOnward_takePlace (I17 : Int32 →  sg_S → Prop) (Ψ : sg_S → Prop) (x1 : Int32) (s : sg_S) : Prop := (I17 (Int32.ofInt (0)) (sg_uI (sg_uI (sg_uI s 54 3 x1) 54 4 (Int32.ofInt (0))) 54 5 (Int32.ofInt (0))))
set_option maxRecDepth 100000 in
theorem wp_XOnward_takePlace_ok {I17 : Int32 →  sg_S → Prop} {Ψ : sg_S → Prop} {x1 : Int32} {s : sg_S} (k17 : ∀ (l2 : Int32) (s : sg_S), I17 l2 s → wp_XOnward_takePlace_17 I17 Ψ x1 l2 s) (h : wp_XOnward_takePlace I17 Ψ x1 s) : am_SpV 28 [.ref 54, .int x1] s Ψ := by
  refine am_SpV.mk (r := am_r28) rfl rfl (fun call d al n hcl => ?_)
  have key : ∀ n, (∀ (l2 : Int32) (s : sg_S), I17 l2 s → am_Pn call d (0, fun _ => 0) al am_r28 (am_PhV am_r28 Ψ) n (17, [some (.ref 54), some (.int x1), some (.int l2)], [], sg_h s, 0, 0)) := by
    intro n
    induction n with
    | zero => exact fun _ _ _ => am_Pn.zero
    | succ n ih =>
      intro l2 s h
      replace h := k17 l2 s h
      unfold wp_XOnward_takePlace_17 at h
      refine am_Pn.bl1 1 (y := (19, [some (.ref 54), some (.int x1), some (.int l2)], [.ref 54, .int l2], sg_h s, 0, 0)) rfl ?_
      refine am_Pn.gr (k := 0) rfl rfl am_o54 rfl rfl ?_
      refine am_Pn.gi (k := 2) rfl rfl am_o1 rfl rfl ?_
      refine am_Pn.bF h (am_bge rfl rfl) rfl rfl (fun h => ?_) (fun h => ?_)
      · exact am_Pn.rV h rfl
      · refine am_Pn.bl 1 (y := (29, [some (.ref 54), some (.int x1), some (.int l2)], [.ref 54], sg_h s, 0, 0)) rfl ?_
        refine am_Pn.gr (k := 0) rfl rfl am_o54 rfl rfl ?_
        refine am_Pn.bl 1 (y := (33, [some (.ref 54), some (.int x1), some (.int l2)], [.int l2, .ref 1], sg_h s, 0, 0)) rfl ?_
        refine am_Pn.cvI hcl h rfl rfl rfl rfl rfl (fun x2 s2 h => ?_)
        refine am_Pn.zF h (am_bne rfl rfl) rfl rfl (fun h => ?_) (fun h => ?_)
        · refine am_Pn.bl 2 (y := (17, [some (.ref 54), some (.int x1), some (.int (l2 + Int32.ofInt (1)))], [], sg_h s2, 0, 0)) rfl ?_
          exact (ih) (l2 + Int32.ofInt (1)) s2 h
        · refine am_Pn.bl 2 (y := (41, [some (.ref 54), some (.int x1), some (.int l2)], [.ref 54, .ref 54], sg_h s2, 0, 0)) rfl ?_
          refine am_Pn.gi (k := 4) rfl rfl am_o54 rfl rfl ?_
          refine am_Pn.bl 1 (y := (45, [some (.ref 54), some (.int x1), some (.int l2)], [.ref 54, .int (s2.1 54 4), .ref 54], sg_h s2, 0, 0)) rfl ?_
          refine am_Pn.gr (k := 0) rfl rfl am_o54 rfl rfl ?_
          refine am_Pn.bl 3 (y := (51, [some (.ref 54), some (.int x1), some (.int l2)], [.ref 54, .int (Int32.ofInt (0)), .int l2, .ref 1, .int (s2.1 54 4), .ref 54], sg_h s2, 0, 0)) rfl ?_
          refine am_Pn.gi (k := 3) rfl rfl am_o54 rfl rfl ?_
          refine am_Pn.bl 1 (y := (55, [some (.ref 54), some (.int x1), some (.int l2)], [.int (Int32.ofInt (1)), .int (s2.1 54 3), .int (Int32.ofInt (0)), .int l2, .ref 1, .int (s2.1 54 4), .ref 54], sg_h s2, 0, 0)) rfl ?_
          refine am_Pn.cvI hcl h rfl rfl rfl rfl rfl (fun x3 s3 h => ?_)
          refine am_Pn.zT h (am_beq rfl rfl) rfl rfl (fun h => ?_) (fun h => ?_)
          · refine am_Pn.bl 2 (y := (69, [some (.ref 54), some (.int x1), some (.int l2)], [.int ((s2.1 54 4) ||| (Int32.ofInt (0))), .ref 54], sg_h s3, 0, 0)) rfl ?_
            refine am_Pn.pi (k := 4) rfl rfl am_o54 rfl rfl ?_
            refine am_Pn.bl 2 (y := (74, [some (.ref 54), some (.int x1), some (.int l2)], [.ref 54, .ref 54], sg_h (sg_uI s3 54 4 ((s2.1 54 4) ||| (Int32.ofInt (0)))), 0, 0)) rfl ?_
            refine am_Pn.gi (k := 5) rfl rfl am_o54 rfl rfl ?_
            refine am_Pn.bl 1 (y := (78, [some (.ref 54), some (.int x1), some (.int l2)], [.ref 54, .int (s3.1 54 5), .ref 54], sg_h (sg_uI s3 54 4 ((s2.1 54 4) ||| (Int32.ofInt (0)))), 0, 0)) rfl ?_
            refine am_Pn.gr (k := 0) rfl rfl am_o54 rfl rfl ?_
            refine am_Pn.bl 3 (y := (84, [some (.ref 54), some (.int x1), some (.int l2)], [.ref 54, .int (Int32.ofInt (0)), .int l2, .ref 1, .int (s3.1 54 5), .ref 54], sg_h (sg_uI s3 54 4 ((s2.1 54 4) ||| (Int32.ofInt (0)))), 0, 0)) rfl ?_
            refine am_Pn.gi (k := 3) rfl rfl am_o54 rfl rfl ?_
            refine am_Pn.bl 1 (y := (88, [some (.ref 54), some (.int x1), some (.int l2)], [.int (Int32.ofInt (0)), .int (s3.1 54 3), .int (Int32.ofInt (0)), .int l2, .ref 1, .int (s3.1 54 5), .ref 54], sg_h (sg_uI s3 54 4 ((s2.1 54 4) ||| (Int32.ofInt (0)))), 0, 0)) rfl ?_
            refine am_Pn.cvI hcl h rfl rfl rfl rfl rfl (fun x4 s4 h => ?_)
            refine am_Pn.zT h (am_beq rfl rfl) rfl rfl (fun h => ?_) (fun h => ?_)
            · refine am_Pn.bl 2 (y := (102, [some (.ref 54), some (.int x1), some (.int l2)], [.int ((s3.1 54 5) ||| (Int32.ofInt (0))), .ref 54], sg_h s4, 0, 0)) rfl ?_
              refine am_Pn.pi (k := 5) rfl rfl am_o54 rfl rfl ?_
              refine am_Pn.bl 2 (y := (17, [some (.ref 54), some (.int x1), some (.int (l2 + Int32.ofInt (1)))], [], sg_h (sg_uI s4 54 5 ((s3.1 54 5) ||| (Int32.ofInt (0)))), 0, 0)) rfl ?_
              exact (ih) (l2 + Int32.ofInt (1)) (sg_uI s4 54 5 ((s3.1 54 5) ||| (Int32.ofInt (0)))) h
            · refine am_Pn.bl 5 (y := (102, [some (.ref 54), some (.int x1), some (.int l2)], [.int ((s3.1 54 5) ||| ((Int32.ofInt (1)) <<< (l2 &&& 31))), .ref 54], sg_h s4, 0, 0)) rfl ?_
              refine am_Pn.pi (k := 5) rfl rfl am_o54 rfl rfl ?_
              refine am_Pn.bl 2 (y := (17, [some (.ref 54), some (.int x1), some (.int (l2 + Int32.ofInt (1)))], [], sg_h (sg_uI s4 54 5 ((s3.1 54 5) ||| ((Int32.ofInt (1)) <<< (l2 &&& 31)))), 0, 0)) rfl ?_
              exact (ih) (l2 + Int32.ofInt (1)) (sg_uI s4 54 5 ((s3.1 54 5) ||| ((Int32.ofInt (1)) <<< (l2 &&& 31)))) h
          · refine am_Pn.bl 5 (y := (69, [some (.ref 54), some (.int x1), some (.int l2)], [.int ((s2.1 54 4) ||| ((Int32.ofInt (1)) <<< (l2 &&& 31))), .ref 54], sg_h s3, 0, 0)) rfl ?_
            refine am_Pn.pi (k := 4) rfl rfl am_o54 rfl rfl ?_
            refine am_Pn.bl 2 (y := (74, [some (.ref 54), some (.int x1), some (.int l2)], [.ref 54, .ref 54], sg_h (sg_uI s3 54 4 ((s2.1 54 4) ||| ((Int32.ofInt (1)) <<< (l2 &&& 31)))), 0, 0)) rfl ?_
            refine am_Pn.gi (k := 5) rfl rfl am_o54 rfl rfl ?_
            refine am_Pn.bl 1 (y := (78, [some (.ref 54), some (.int x1), some (.int l2)], [.ref 54, .int (s3.1 54 5), .ref 54], sg_h (sg_uI s3 54 4 ((s2.1 54 4) ||| ((Int32.ofInt (1)) <<< (l2 &&& 31)))), 0, 0)) rfl ?_
            refine am_Pn.gr (k := 0) rfl rfl am_o54 rfl rfl ?_
            refine am_Pn.bl 3 (y := (84, [some (.ref 54), some (.int x1), some (.int l2)], [.ref 54, .int (Int32.ofInt (0)), .int l2, .ref 1, .int (s3.1 54 5), .ref 54], sg_h (sg_uI s3 54 4 ((s2.1 54 4) ||| ((Int32.ofInt (1)) <<< (l2 &&& 31)))), 0, 0)) rfl ?_
            refine am_Pn.gi (k := 3) rfl rfl am_o54 rfl rfl ?_
            refine am_Pn.bl 1 (y := (88, [some (.ref 54), some (.int x1), some (.int l2)], [.int (Int32.ofInt (0)), .int (s3.1 54 3), .int (Int32.ofInt (0)), .int l2, .ref 1, .int (s3.1 54 5), .ref 54], sg_h (sg_uI s3 54 4 ((s2.1 54 4) ||| ((Int32.ofInt (1)) <<< (l2 &&& 31)))), 0, 0)) rfl ?_
            refine am_Pn.cvI hcl h rfl rfl rfl rfl rfl (fun x5 s5 h => ?_)
            refine am_Pn.zT h (am_beq rfl rfl) rfl rfl (fun h => ?_) (fun h => ?_)
            · refine am_Pn.bl 2 (y := (102, [some (.ref 54), some (.int x1), some (.int l2)], [.int ((s3.1 54 5) ||| (Int32.ofInt (0))), .ref 54], sg_h s5, 0, 0)) rfl ?_
              refine am_Pn.pi (k := 5) rfl rfl am_o54 rfl rfl ?_
              refine am_Pn.bl 2 (y := (17, [some (.ref 54), some (.int x1), some (.int (l2 + Int32.ofInt (1)))], [], sg_h (sg_uI s5 54 5 ((s3.1 54 5) ||| (Int32.ofInt (0)))), 0, 0)) rfl ?_
              exact (ih) (l2 + Int32.ofInt (1)) (sg_uI s5 54 5 ((s3.1 54 5) ||| (Int32.ofInt (0)))) h
            · refine am_Pn.bl 5 (y := (102, [some (.ref 54), some (.int x1), some (.int l2)], [.int ((s3.1 54 5) ||| ((Int32.ofInt (1)) <<< (l2 &&& 31))), .ref 54], sg_h s5, 0, 0)) rfl ?_
              refine am_Pn.pi (k := 5) rfl rfl am_o54 rfl rfl ?_
              refine am_Pn.bl 2 (y := (17, [some (.ref 54), some (.int x1), some (.int (l2 + Int32.ofInt (1)))], [], sg_h (sg_uI s5 54 5 ((s3.1 54 5) ||| ((Int32.ofInt (1)) <<< (l2 &&& 31)))), 0, 0)) rfl ?_
              exact (ih) (l2 + Int32.ofInt (1)) (sg_uI s5 54 5 ((s3.1 54 5) ||| ((Int32.ofInt (1)) <<< (l2 &&& 31)))) h
  unfold wp_XOnward_takePlace at h
  refine am_Pn.bl 2 (y := (2, [some (.ref 54), some (.int x1), none], [.int x1, .ref 54], sg_h s, 0, 0)) rfl ?_
  refine am_Pn.pi (k := 3) rfl rfl am_o54 rfl rfl ?_
  refine am_Pn.bl 2 (y := (7, [some (.ref 54), some (.int x1), none], [.int (Int32.ofInt (0)), .ref 54], sg_h (sg_uI s 54 3 x1), 0, 0)) rfl ?_
  refine am_Pn.pi (k := 4) rfl rfl am_o54 rfl rfl ?_
  refine am_Pn.bl 2 (y := (12, [some (.ref 54), some (.int x1), none], [.int (Int32.ofInt (0)), .ref 54], sg_h (sg_uI (sg_uI s 54 3 x1) 54 4 (Int32.ofInt (0))), 0, 0)) rfl ?_
  refine am_Pn.pi (k := 5) rfl rfl am_o54 rfl rfl ?_
  refine am_Pn.bl 2 (y := (17, [some (.ref 54), some (.int x1), some (.int (Int32.ofInt (0)))], [], sg_h (sg_uI (sg_uI (sg_uI s 54 3 x1) 54 4 (Int32.ofInt (0))) 54 5 (Int32.ofInt (0))), 0, 0)) rfl ?_
  exact ((key n)) (Int32.ofInt (0)) (sg_uI (sg_uI (sg_uI s 54 3 x1) 54 4 (Int32.ofInt (0))) 54 5 (Int32.ofInt (0))) h
def wp_XOnward_takeState_F_28 (I28 : Int32 →  sg_S → Prop) (Ψ : sg_S → Prop) (F : Nat) (x2 : Int32) (l3 : Int32) (s : sg_S) : Prop := ((l3.toInt < (s.1 54 2).toInt → (0 ≤ l3.toInt → l3.toInt < (12) → (am_SpI 103 [.ref F, .int x2, .int l3] s (fun x3 s3 => (am_SpI 76 [.ref 1, .int (s.2.2.1 55 (l3.toInt.toNat)), .int x3, .int (s3.1 54 3), .int (Int32.ofInt (1))] s3 (fun x4 s4 => ((x4.toInt = (0) → (am_SpI 76 [.ref 1, .int (s.2.2.1 55 (l3.toInt.toNat)), .int x3, .int (s4.1 54 3), .int (Int32.ofInt (0))] (sg_uI s4 54 6 ((s3.1 54 6) ||| (Int32.ofInt (0)))) (fun x5 s5 => ((x5.toInt = (0) → (am_SpI 75 [.ref 1, .int (s.2.2.1 55 (l3.toInt.toNat)), .int x3, .int (Int32.ofInt (1))] (sg_uI s5 54 7 ((s4.1 54 7) ||| (Int32.ofInt (0)))) (fun x6 s6 => (am_SpI 75 [.ref 1, .int (s.2.2.1 55 (l3.toInt.toNat)), .int x3, .int (Int32.ofInt (0))] s6 (fun x7 s7 => (am_SpV 30 [.ref 54, .int l3, .int x6, .int x7] s7 (fun s8 => (I28 (l3 + Int32.ofInt (1)) s8)))))))) ∧ (¬ x5.toInt = (0) → (am_SpI 75 [.ref 1, .int (s.2.2.1 55 (l3.toInt.toNat)), .int x3, .int (Int32.ofInt (1))] (sg_uI s5 54 7 ((s4.1 54 7) ||| ((Int32.ofInt (1)) <<< ((s.2.2.1 55 (l3.toInt.toNat)) &&& 31)))) (fun x9 s9 => (am_SpI 75 [.ref 1, .int (s.2.2.1 55 (l3.toInt.toNat)), .int x3, .int (Int32.ofInt (0))] s9 (fun x10 s10 => (am_SpV 30 [.ref 54, .int l3, .int x9, .int x10] s10 (fun s11 => (I28 (l3 + Int32.ofInt (1)) s11)))))))))))) ∧ (¬ x4.toInt = (0) → (am_SpI 76 [.ref 1, .int (s.2.2.1 55 (l3.toInt.toNat)), .int x3, .int (s4.1 54 3), .int (Int32.ofInt (0))] (sg_uI s4 54 6 ((s3.1 54 6) ||| ((Int32.ofInt (1)) <<< ((s.2.2.1 55 (l3.toInt.toNat)) &&& 31)))) (fun x12 s12 => ((x12.toInt = (0) → (am_SpI 75 [.ref 1, .int (s.2.2.1 55 (l3.toInt.toNat)), .int x3, .int (Int32.ofInt (1))] (sg_uI s12 54 7 ((s4.1 54 7) ||| (Int32.ofInt (0)))) (fun x13 s13 => (am_SpI 75 [.ref 1, .int (s.2.2.1 55 (l3.toInt.toNat)), .int x3, .int (Int32.ofInt (0))] s13 (fun x14 s14 => (am_SpV 30 [.ref 54, .int l3, .int x13, .int x14] s14 (fun s15 => (I28 (l3 + Int32.ofInt (1)) s15)))))))) ∧ (¬ x12.toInt = (0) → (am_SpI 75 [.ref 1, .int (s.2.2.1 55 (l3.toInt.toNat)), .int x3, .int (Int32.ofInt (1))] (sg_uI s12 54 7 ((s4.1 54 7) ||| ((Int32.ofInt (1)) <<< ((s.2.2.1 55 (l3.toInt.toNat)) &&& 31)))) (fun x16 s16 => (am_SpI 75 [.ref 1, .int (s.2.2.1 55 (l3.toInt.toNat)), .int x3, .int (Int32.ofInt (0))] s16 (fun x17 s17 => (am_SpV 30 [.ref 54, .int l3, .int x16, .int x17] s17 (fun s18 => (I28 (l3 + Int32.ofInt (1)) s18))))))))))))))))))) ∧ (¬ l3.toInt < (s.1 54 2).toInt → (Ψ s)))
def wp_XOnward_takeState_F (I28 : Int32 →  sg_S → Prop) (Ψ : sg_S → Prop) (F : Nat) (x2 : Int32) (s : sg_S) : Prop := (I28 (Int32.ofInt (0)) (sg_uL (sg_uL (sg_uI (sg_uI s 54 6 (s.1 54 4)) 54 7 (s.1 54 5)) 54 8 (Int64.ofNat 0)) 54 9 (Int64.ofNat 0)))
set_option maxRecDepth 100000 in
theorem wp_XOnward_takeState_F_ok {I28 : Int32 →  sg_S → Prop} {Ψ : sg_S → Prop} {F : Nat} {x2 : Int32} {s : sg_S} (k28 : ∀ (l3 : Int32) (s : sg_S), I28 l3 s → wp_XOnward_takeState_F_28 I28 Ψ F x2 l3 s) (h : wp_XOnward_takeState_F I28 Ψ F x2 s) : am_SpV 29 [.ref 54, .ref F, .int x2] s Ψ := by
  refine am_SpV.mk (r := am_r29) rfl rfl (fun call d al n hcl => ?_)
  have key : ∀ n, (∀ (o4 : Option Value) (o5 : Option Value) (l3 : Int32) (s : sg_S), I28 l3 s → am_Pn call d (0, fun _ => 0) al am_r29 (am_PhV am_r29 Ψ) n (28, [some (.ref 54), some (.ref F), some (.int x2), some (.int l3), o4, o5], [], sg_h s, 0, 0)) := by
    intro n
    induction n with
    | zero => exact fun _ _ _ _ _ => am_Pn.zero
    | succ n ih =>
      intro o4 o5 l3 s h
      replace h := k28 l3 s h
      unfold wp_XOnward_takeState_F_28 at h
      refine am_Pn.bl1 1 (y := (30, [some (.ref 54), some (.ref F), some (.int x2), some (.int l3), o4, o5], [.ref 54, .int l3], sg_h s, 0, 0)) rfl ?_
      refine am_Pn.gi (k := 2) rfl rfl am_o54 rfl rfl ?_
      refine am_Pn.bF h (am_bge rfl rfl) rfl rfl (fun h => ?_) (fun h => ?_)
      · exact am_Pn.rV h rfl
      · refine am_Pn.bl 1 (y := (37, [some (.ref 54), some (.ref F), some (.int x2), some (.int l3), o4, o5], [.ref 54], sg_h s, 0, 0)) rfl ?_
        refine am_Pn.gr (k := 1) rfl rfl am_o54 rfl rfl ?_
        refine am_Pn.bl 1 (y := (41, [some (.ref 54), some (.ref F), some (.int x2), some (.int l3), o4, o5], [.int l3, .ref 55], sg_h s, 0, 0)) rfl ?_
        refine am_Pn.ia (a := 55) rfl rfl rfl rfl (fun hi => ?_)
        replace h := h (am_in0 hi) (am_in1 hi)
        refine am_Pn.bl 4 (y := (47, [some (.ref 54), some (.ref F), some (.int x2), some (.int l3), some (.int (s.2.2.1 55 (l3.toInt.toNat))), o5], [.int l3, .int x2, .ref F], sg_h s, 0, 0)) rfl ?_
        refine am_Pn.cvI hcl h rfl rfl rfl rfl rfl (fun x3 s3 h => ?_)
        refine am_Pn.bl 3 (y := (54, [some (.ref 54), some (.ref F), some (.int x2), some (.int l3), some (.int (s.2.2.1 55 (l3.toInt.toNat))), some (.int x3)], [.ref 54, .ref 54], sg_h s3, 0, 0)) rfl ?_
        refine am_Pn.gi (k := 6) rfl rfl am_o54 rfl rfl ?_
        refine am_Pn.bl 1 (y := (58, [some (.ref 54), some (.ref F), some (.int x2), some (.int l3), some (.int (s.2.2.1 55 (l3.toInt.toNat))), some (.int x3)], [.ref 54, .int (s3.1 54 6), .ref 54], sg_h s3, 0, 0)) rfl ?_
        refine am_Pn.gr (k := 0) rfl rfl am_o54 rfl rfl ?_
        refine am_Pn.bl 3 (y := (66, [some (.ref 54), some (.ref F), some (.int x2), some (.int l3), some (.int (s.2.2.1 55 (l3.toInt.toNat))), some (.int x3)], [.ref 54, .int x3, .int (s.2.2.1 55 (l3.toInt.toNat)), .ref 1, .int (s3.1 54 6), .ref 54], sg_h s3, 0, 0)) rfl ?_
        refine am_Pn.gi (k := 3) rfl rfl am_o54 rfl rfl ?_
        refine am_Pn.bl 1 (y := (70, [some (.ref 54), some (.ref F), some (.int x2), some (.int l3), some (.int (s.2.2.1 55 (l3.toInt.toNat))), some (.int x3)], [.int (Int32.ofInt (1)), .int (s3.1 54 3), .int x3, .int (s.2.2.1 55 (l3.toInt.toNat)), .ref 1, .int (s3.1 54 6), .ref 54], sg_h s3, 0, 0)) rfl ?_
        refine am_Pn.cvI hcl h rfl rfl rfl rfl rfl (fun x4 s4 h => ?_)
        refine am_Pn.zT h (am_beq rfl rfl) rfl rfl (fun h => ?_) (fun h => ?_)
        · refine am_Pn.bl 2 (y := (85, [some (.ref 54), some (.ref F), some (.int x2), some (.int l3), some (.int (s.2.2.1 55 (l3.toInt.toNat))), some (.int x3)], [.int ((s3.1 54 6) ||| (Int32.ofInt (0))), .ref 54], sg_h s4, 0, 0)) rfl ?_
          refine am_Pn.pi (k := 6) rfl rfl am_o54 rfl rfl ?_
          refine am_Pn.bl 2 (y := (90, [some (.ref 54), some (.ref F), some (.int x2), some (.int l3), some (.int (s.2.2.1 55 (l3.toInt.toNat))), some (.int x3)], [.ref 54, .ref 54], sg_h (sg_uI s4 54 6 ((s3.1 54 6) ||| (Int32.ofInt (0)))), 0, 0)) rfl ?_
          refine am_Pn.gi (k := 7) rfl rfl am_o54 rfl rfl ?_
          refine am_Pn.bl 1 (y := (94, [some (.ref 54), some (.ref F), some (.int x2), some (.int l3), some (.int (s.2.2.1 55 (l3.toInt.toNat))), some (.int x3)], [.ref 54, .int (s4.1 54 7), .ref 54], sg_h (sg_uI s4 54 6 ((s3.1 54 6) ||| (Int32.ofInt (0)))), 0, 0)) rfl ?_
          refine am_Pn.gr (k := 0) rfl rfl am_o54 rfl rfl ?_
          refine am_Pn.bl 3 (y := (102, [some (.ref 54), some (.ref F), some (.int x2), some (.int l3), some (.int (s.2.2.1 55 (l3.toInt.toNat))), some (.int x3)], [.ref 54, .int x3, .int (s.2.2.1 55 (l3.toInt.toNat)), .ref 1, .int (s4.1 54 7), .ref 54], sg_h (sg_uI s4 54 6 ((s3.1 54 6) ||| (Int32.ofInt (0)))), 0, 0)) rfl ?_
          refine am_Pn.gi (k := 3) rfl rfl am_o54 rfl rfl ?_
          refine am_Pn.bl 1 (y := (106, [some (.ref 54), some (.ref F), some (.int x2), some (.int l3), some (.int (s.2.2.1 55 (l3.toInt.toNat))), some (.int x3)], [.int (Int32.ofInt (0)), .int (s4.1 54 3), .int x3, .int (s.2.2.1 55 (l3.toInt.toNat)), .ref 1, .int (s4.1 54 7), .ref 54], sg_h (sg_uI s4 54 6 ((s3.1 54 6) ||| (Int32.ofInt (0)))), 0, 0)) rfl ?_
          refine am_Pn.cvI hcl h rfl rfl rfl rfl rfl (fun x5 s5 h => ?_)
          refine am_Pn.zT h (am_beq rfl rfl) rfl rfl (fun h => ?_) (fun h => ?_)
          · refine am_Pn.bl 2 (y := (121, [some (.ref 54), some (.ref F), some (.int x2), some (.int l3), some (.int (s.2.2.1 55 (l3.toInt.toNat))), some (.int x3)], [.int ((s4.1 54 7) ||| (Int32.ofInt (0))), .ref 54], sg_h s5, 0, 0)) rfl ?_
            refine am_Pn.pi (k := 7) rfl rfl am_o54 rfl rfl ?_
            refine am_Pn.bl 3 (y := (127, [some (.ref 54), some (.ref F), some (.int x2), some (.int l3), some (.int (s.2.2.1 55 (l3.toInt.toNat))), some (.int x3)], [.ref 54, .int l3, .ref 54], sg_h (sg_uI s5 54 7 ((s4.1 54 7) ||| (Int32.ofInt (0)))), 0, 0)) rfl ?_
            refine am_Pn.gr (k := 0) rfl rfl am_o54 rfl rfl ?_
            refine am_Pn.bl 3 (y := (135, [some (.ref 54), some (.ref F), some (.int x2), some (.int l3), some (.int (s.2.2.1 55 (l3.toInt.toNat))), some (.int x3)], [.int (Int32.ofInt (1)), .int x3, .int (s.2.2.1 55 (l3.toInt.toNat)), .ref 1, .int l3, .ref 54], sg_h (sg_uI s5 54 7 ((s4.1 54 7) ||| (Int32.ofInt (0)))), 0, 0)) rfl ?_
            refine am_Pn.cvI hcl h rfl rfl rfl rfl rfl (fun x6 s6 h => ?_)
            refine am_Pn.bl 1 (y := (139, [some (.ref 54), some (.ref F), some (.int x2), some (.int l3), some (.int (s.2.2.1 55 (l3.toInt.toNat))), some (.int x3)], [.ref 54, .int x6, .int l3, .ref 54], sg_h s6, 0, 0)) rfl ?_
            refine am_Pn.gr (k := 0) rfl rfl am_o54 rfl rfl ?_
            refine am_Pn.bl 3 (y := (147, [some (.ref 54), some (.ref F), some (.int x2), some (.int l3), some (.int (s.2.2.1 55 (l3.toInt.toNat))), some (.int x3)], [.int (Int32.ofInt (0)), .int x3, .int (s.2.2.1 55 (l3.toInt.toNat)), .ref 1, .int x6, .int l3, .ref 54], sg_h s6, 0, 0)) rfl ?_
            refine am_Pn.cvI hcl h rfl rfl rfl rfl rfl (fun x7 s7 h => ?_)
            refine am_Pn.cvV hcl h rfl rfl rfl rfl rfl (fun s8 h => ?_)
            refine am_Pn.bl 2 (y := (28, [some (.ref 54), some (.ref F), some (.int x2), some (.int (l3 + Int32.ofInt (1))), some (.int (s.2.2.1 55 (l3.toInt.toNat))), some (.int x3)], [], sg_h s8, 0, 0)) rfl ?_
            exact (ih) (some (.int (s.2.2.1 55 (l3.toInt.toNat)))) (some (.int x3)) (l3 + Int32.ofInt (1)) s8 h
          · refine am_Pn.bl 5 (y := (121, [some (.ref 54), some (.ref F), some (.int x2), some (.int l3), some (.int (s.2.2.1 55 (l3.toInt.toNat))), some (.int x3)], [.int ((s4.1 54 7) ||| ((Int32.ofInt (1)) <<< ((s.2.2.1 55 (l3.toInt.toNat)) &&& 31))), .ref 54], sg_h s5, 0, 0)) rfl ?_
            refine am_Pn.pi (k := 7) rfl rfl am_o54 rfl rfl ?_
            refine am_Pn.bl 3 (y := (127, [some (.ref 54), some (.ref F), some (.int x2), some (.int l3), some (.int (s.2.2.1 55 (l3.toInt.toNat))), some (.int x3)], [.ref 54, .int l3, .ref 54], sg_h (sg_uI s5 54 7 ((s4.1 54 7) ||| ((Int32.ofInt (1)) <<< ((s.2.2.1 55 (l3.toInt.toNat)) &&& 31)))), 0, 0)) rfl ?_
            refine am_Pn.gr (k := 0) rfl rfl am_o54 rfl rfl ?_
            refine am_Pn.bl 3 (y := (135, [some (.ref 54), some (.ref F), some (.int x2), some (.int l3), some (.int (s.2.2.1 55 (l3.toInt.toNat))), some (.int x3)], [.int (Int32.ofInt (1)), .int x3, .int (s.2.2.1 55 (l3.toInt.toNat)), .ref 1, .int l3, .ref 54], sg_h (sg_uI s5 54 7 ((s4.1 54 7) ||| ((Int32.ofInt (1)) <<< ((s.2.2.1 55 (l3.toInt.toNat)) &&& 31)))), 0, 0)) rfl ?_
            refine am_Pn.cvI hcl h rfl rfl rfl rfl rfl (fun x9 s9 h => ?_)
            refine am_Pn.bl 1 (y := (139, [some (.ref 54), some (.ref F), some (.int x2), some (.int l3), some (.int (s.2.2.1 55 (l3.toInt.toNat))), some (.int x3)], [.ref 54, .int x9, .int l3, .ref 54], sg_h s9, 0, 0)) rfl ?_
            refine am_Pn.gr (k := 0) rfl rfl am_o54 rfl rfl ?_
            refine am_Pn.bl 3 (y := (147, [some (.ref 54), some (.ref F), some (.int x2), some (.int l3), some (.int (s.2.2.1 55 (l3.toInt.toNat))), some (.int x3)], [.int (Int32.ofInt (0)), .int x3, .int (s.2.2.1 55 (l3.toInt.toNat)), .ref 1, .int x9, .int l3, .ref 54], sg_h s9, 0, 0)) rfl ?_
            refine am_Pn.cvI hcl h rfl rfl rfl rfl rfl (fun x10 s10 h => ?_)
            refine am_Pn.cvV hcl h rfl rfl rfl rfl rfl (fun s11 h => ?_)
            refine am_Pn.bl 2 (y := (28, [some (.ref 54), some (.ref F), some (.int x2), some (.int (l3 + Int32.ofInt (1))), some (.int (s.2.2.1 55 (l3.toInt.toNat))), some (.int x3)], [], sg_h s11, 0, 0)) rfl ?_
            exact (ih) (some (.int (s.2.2.1 55 (l3.toInt.toNat)))) (some (.int x3)) (l3 + Int32.ofInt (1)) s11 h
        · refine am_Pn.bl 5 (y := (85, [some (.ref 54), some (.ref F), some (.int x2), some (.int l3), some (.int (s.2.2.1 55 (l3.toInt.toNat))), some (.int x3)], [.int ((s3.1 54 6) ||| ((Int32.ofInt (1)) <<< ((s.2.2.1 55 (l3.toInt.toNat)) &&& 31))), .ref 54], sg_h s4, 0, 0)) rfl ?_
          refine am_Pn.pi (k := 6) rfl rfl am_o54 rfl rfl ?_
          refine am_Pn.bl 2 (y := (90, [some (.ref 54), some (.ref F), some (.int x2), some (.int l3), some (.int (s.2.2.1 55 (l3.toInt.toNat))), some (.int x3)], [.ref 54, .ref 54], sg_h (sg_uI s4 54 6 ((s3.1 54 6) ||| ((Int32.ofInt (1)) <<< ((s.2.2.1 55 (l3.toInt.toNat)) &&& 31)))), 0, 0)) rfl ?_
          refine am_Pn.gi (k := 7) rfl rfl am_o54 rfl rfl ?_
          refine am_Pn.bl 1 (y := (94, [some (.ref 54), some (.ref F), some (.int x2), some (.int l3), some (.int (s.2.2.1 55 (l3.toInt.toNat))), some (.int x3)], [.ref 54, .int (s4.1 54 7), .ref 54], sg_h (sg_uI s4 54 6 ((s3.1 54 6) ||| ((Int32.ofInt (1)) <<< ((s.2.2.1 55 (l3.toInt.toNat)) &&& 31)))), 0, 0)) rfl ?_
          refine am_Pn.gr (k := 0) rfl rfl am_o54 rfl rfl ?_
          refine am_Pn.bl 3 (y := (102, [some (.ref 54), some (.ref F), some (.int x2), some (.int l3), some (.int (s.2.2.1 55 (l3.toInt.toNat))), some (.int x3)], [.ref 54, .int x3, .int (s.2.2.1 55 (l3.toInt.toNat)), .ref 1, .int (s4.1 54 7), .ref 54], sg_h (sg_uI s4 54 6 ((s3.1 54 6) ||| ((Int32.ofInt (1)) <<< ((s.2.2.1 55 (l3.toInt.toNat)) &&& 31)))), 0, 0)) rfl ?_
          refine am_Pn.gi (k := 3) rfl rfl am_o54 rfl rfl ?_
          refine am_Pn.bl 1 (y := (106, [some (.ref 54), some (.ref F), some (.int x2), some (.int l3), some (.int (s.2.2.1 55 (l3.toInt.toNat))), some (.int x3)], [.int (Int32.ofInt (0)), .int (s4.1 54 3), .int x3, .int (s.2.2.1 55 (l3.toInt.toNat)), .ref 1, .int (s4.1 54 7), .ref 54], sg_h (sg_uI s4 54 6 ((s3.1 54 6) ||| ((Int32.ofInt (1)) <<< ((s.2.2.1 55 (l3.toInt.toNat)) &&& 31)))), 0, 0)) rfl ?_
          refine am_Pn.cvI hcl h rfl rfl rfl rfl rfl (fun x12 s12 h => ?_)
          refine am_Pn.zT h (am_beq rfl rfl) rfl rfl (fun h => ?_) (fun h => ?_)
          · refine am_Pn.bl 2 (y := (121, [some (.ref 54), some (.ref F), some (.int x2), some (.int l3), some (.int (s.2.2.1 55 (l3.toInt.toNat))), some (.int x3)], [.int ((s4.1 54 7) ||| (Int32.ofInt (0))), .ref 54], sg_h s12, 0, 0)) rfl ?_
            refine am_Pn.pi (k := 7) rfl rfl am_o54 rfl rfl ?_
            refine am_Pn.bl 3 (y := (127, [some (.ref 54), some (.ref F), some (.int x2), some (.int l3), some (.int (s.2.2.1 55 (l3.toInt.toNat))), some (.int x3)], [.ref 54, .int l3, .ref 54], sg_h (sg_uI s12 54 7 ((s4.1 54 7) ||| (Int32.ofInt (0)))), 0, 0)) rfl ?_
            refine am_Pn.gr (k := 0) rfl rfl am_o54 rfl rfl ?_
            refine am_Pn.bl 3 (y := (135, [some (.ref 54), some (.ref F), some (.int x2), some (.int l3), some (.int (s.2.2.1 55 (l3.toInt.toNat))), some (.int x3)], [.int (Int32.ofInt (1)), .int x3, .int (s.2.2.1 55 (l3.toInt.toNat)), .ref 1, .int l3, .ref 54], sg_h (sg_uI s12 54 7 ((s4.1 54 7) ||| (Int32.ofInt (0)))), 0, 0)) rfl ?_
            refine am_Pn.cvI hcl h rfl rfl rfl rfl rfl (fun x13 s13 h => ?_)
            refine am_Pn.bl 1 (y := (139, [some (.ref 54), some (.ref F), some (.int x2), some (.int l3), some (.int (s.2.2.1 55 (l3.toInt.toNat))), some (.int x3)], [.ref 54, .int x13, .int l3, .ref 54], sg_h s13, 0, 0)) rfl ?_
            refine am_Pn.gr (k := 0) rfl rfl am_o54 rfl rfl ?_
            refine am_Pn.bl 3 (y := (147, [some (.ref 54), some (.ref F), some (.int x2), some (.int l3), some (.int (s.2.2.1 55 (l3.toInt.toNat))), some (.int x3)], [.int (Int32.ofInt (0)), .int x3, .int (s.2.2.1 55 (l3.toInt.toNat)), .ref 1, .int x13, .int l3, .ref 54], sg_h s13, 0, 0)) rfl ?_
            refine am_Pn.cvI hcl h rfl rfl rfl rfl rfl (fun x14 s14 h => ?_)
            refine am_Pn.cvV hcl h rfl rfl rfl rfl rfl (fun s15 h => ?_)
            refine am_Pn.bl 2 (y := (28, [some (.ref 54), some (.ref F), some (.int x2), some (.int (l3 + Int32.ofInt (1))), some (.int (s.2.2.1 55 (l3.toInt.toNat))), some (.int x3)], [], sg_h s15, 0, 0)) rfl ?_
            exact (ih) (some (.int (s.2.2.1 55 (l3.toInt.toNat)))) (some (.int x3)) (l3 + Int32.ofInt (1)) s15 h
          · refine am_Pn.bl 5 (y := (121, [some (.ref 54), some (.ref F), some (.int x2), some (.int l3), some (.int (s.2.2.1 55 (l3.toInt.toNat))), some (.int x3)], [.int ((s4.1 54 7) ||| ((Int32.ofInt (1)) <<< ((s.2.2.1 55 (l3.toInt.toNat)) &&& 31))), .ref 54], sg_h s12, 0, 0)) rfl ?_
            refine am_Pn.pi (k := 7) rfl rfl am_o54 rfl rfl ?_
            refine am_Pn.bl 3 (y := (127, [some (.ref 54), some (.ref F), some (.int x2), some (.int l3), some (.int (s.2.2.1 55 (l3.toInt.toNat))), some (.int x3)], [.ref 54, .int l3, .ref 54], sg_h (sg_uI s12 54 7 ((s4.1 54 7) ||| ((Int32.ofInt (1)) <<< ((s.2.2.1 55 (l3.toInt.toNat)) &&& 31)))), 0, 0)) rfl ?_
            refine am_Pn.gr (k := 0) rfl rfl am_o54 rfl rfl ?_
            refine am_Pn.bl 3 (y := (135, [some (.ref 54), some (.ref F), some (.int x2), some (.int l3), some (.int (s.2.2.1 55 (l3.toInt.toNat))), some (.int x3)], [.int (Int32.ofInt (1)), .int x3, .int (s.2.2.1 55 (l3.toInt.toNat)), .ref 1, .int l3, .ref 54], sg_h (sg_uI s12 54 7 ((s4.1 54 7) ||| ((Int32.ofInt (1)) <<< ((s.2.2.1 55 (l3.toInt.toNat)) &&& 31)))), 0, 0)) rfl ?_
            refine am_Pn.cvI hcl h rfl rfl rfl rfl rfl (fun x16 s16 h => ?_)
            refine am_Pn.bl 1 (y := (139, [some (.ref 54), some (.ref F), some (.int x2), some (.int l3), some (.int (s.2.2.1 55 (l3.toInt.toNat))), some (.int x3)], [.ref 54, .int x16, .int l3, .ref 54], sg_h s16, 0, 0)) rfl ?_
            refine am_Pn.gr (k := 0) rfl rfl am_o54 rfl rfl ?_
            refine am_Pn.bl 3 (y := (147, [some (.ref 54), some (.ref F), some (.int x2), some (.int l3), some (.int (s.2.2.1 55 (l3.toInt.toNat))), some (.int x3)], [.int (Int32.ofInt (0)), .int x3, .int (s.2.2.1 55 (l3.toInt.toNat)), .ref 1, .int x16, .int l3, .ref 54], sg_h s16, 0, 0)) rfl ?_
            refine am_Pn.cvI hcl h rfl rfl rfl rfl rfl (fun x17 s17 h => ?_)
            refine am_Pn.cvV hcl h rfl rfl rfl rfl rfl (fun s18 h => ?_)
            refine am_Pn.bl 2 (y := (28, [some (.ref 54), some (.ref F), some (.int x2), some (.int (l3 + Int32.ofInt (1))), some (.int (s.2.2.1 55 (l3.toInt.toNat))), some (.int x3)], [], sg_h s18, 0, 0)) rfl ?_
            exact (ih) (some (.int (s.2.2.1 55 (l3.toInt.toNat)))) (some (.int x3)) (l3 + Int32.ofInt (1)) s18 h
  unfold wp_XOnward_takeState_F at h
  refine am_Pn.bl 2 (y := (2, [some (.ref 54), some (.ref F), some (.int x2), none, none, none], [.ref 54, .ref 54], sg_h s, 0, 0)) rfl ?_
  refine am_Pn.gi (k := 4) rfl rfl am_o54 rfl rfl ?_
  refine am_Pn.pi (k := 6) rfl rfl am_o54 rfl rfl ?_
  refine am_Pn.bl 2 (y := (10, [some (.ref 54), some (.ref F), some (.int x2), none, none, none], [.ref 54, .ref 54], sg_h (sg_uI s 54 6 (s.1 54 4)), 0, 0)) rfl ?_
  refine am_Pn.gi (k := 5) rfl rfl am_o54 rfl rfl ?_
  refine am_Pn.pi (k := 7) rfl rfl am_o54 rfl rfl ?_
  refine am_Pn.bl 2 (y := (18, [some (.ref 54), some (.ref F), some (.int x2), none, none, none], [.long (Int64.ofNat 0), .ref 54], sg_h (sg_uI (sg_uI s 54 6 (s.1 54 4)) 54 7 (s.1 54 5)), 0, 0)) rfl ?_
  refine am_Pn.pl (k := 8) rfl rfl am_o54 rfl rfl ?_
  refine am_Pn.bl 2 (y := (23, [some (.ref 54), some (.ref F), some (.int x2), none, none, none], [.long (Int64.ofNat 0), .ref 54], sg_h (sg_uL (sg_uI (sg_uI s 54 6 (s.1 54 4)) 54 7 (s.1 54 5)) 54 8 (Int64.ofNat 0)), 0, 0)) rfl ?_
  refine am_Pn.pl (k := 9) rfl rfl am_o54 rfl rfl ?_
  refine am_Pn.bl 2 (y := (28, [some (.ref 54), some (.ref F), some (.int x2), some (.int (Int32.ofInt (0))), none, none], [], sg_h (sg_uL (sg_uL (sg_uI (sg_uI s 54 6 (s.1 54 4)) 54 7 (s.1 54 5)) 54 8 (Int64.ofNat 0)) 54 9 (Int64.ofNat 0)), 0, 0)) rfl ?_
  exact ((key n)) none none (Int32.ofInt (0)) (sg_uL (sg_uL (sg_uI (sg_uI s 54 6 (s.1 54 4)) 54 7 (s.1 54 5)) 54 8 (Int64.ofNat 0)) 54 9 (Int64.ofNat 0)) h
def wp_XOnward_takeNumbers (Ψ : sg_S → Prop) (x1 : Int32) (x2 : Int32) (x3 : Int32) (s : sg_S) : Prop := (am_SpL 97 [.int x1, .long (x3.toInt64)] s (fun x4 s4 => (am_SpL 98 [.int x1, .long (x3.toInt64)] (sg_uL s4 54 8 ((s.2.1 54 8) + x4)) (fun x5 s5 => (am_SpL 97 [.int x1, .long (x2.toInt64)] (sg_uL s5 54 9 ((s4.2.1 54 9) + x5)) (fun x6 s6 => (am_SpL 97 [.int x1, .long (x3.toInt64)] s6 (fun x7 s7 => (0 ≤ x1.toInt → x1.toInt < (12) → (am_SpL 98 [.int x1, .long (x2.toInt64)] (sg_uM s7 56 (x1.toInt.toNat) (x6 - x7)) (fun x8 s8 => (am_SpL 98 [.int x1, .long (x3.toInt64)] s8 (fun x9 s9 => (0 ≤ x1.toInt → x1.toInt < (12) → (Ψ (sg_uM s9 57 (x1.toInt.toNat) (x8 - x9)))))))))))))))))
set_option maxRecDepth 100000 in
theorem wp_XOnward_takeNumbers_ok {Ψ : sg_S → Prop} {x1 : Int32} {x2 : Int32} {x3 : Int32} {s : sg_S} (h : wp_XOnward_takeNumbers Ψ x1 x2 x3 s) : am_SpV 30 [.ref 54, .int x1, .int x2, .int x3] s Ψ := by
  refine am_SpV.mk (r := am_r30) rfl rfl (fun call d al n hcl => ?_)
  unfold wp_XOnward_takeNumbers at h
  refine am_Pn.bl 2 (y := (2, [some (.ref 54), some (.int x1), some (.int x2), some (.int x3)], [.ref 54, .ref 54], sg_h s, 0, 0)) rfl ?_
  refine am_Pn.gl (k := 8) rfl rfl am_o54 rfl rfl ?_
  refine am_Pn.bl 3 (y := (8, [some (.ref 54), some (.int x1), some (.int x2), some (.int x3)], [.long (x3.toInt64), .int x1, .long (s.2.1 54 8), .ref 54], sg_h s, 0, 0)) rfl ?_
  refine am_Pn.csL hcl h rfl rfl rfl rfl rfl (fun x4 s4 h => ?_)
  refine am_Pn.bl 1 (y := (12, [some (.ref 54), some (.int x1), some (.int x2), some (.int x3)], [.long ((s.2.1 54 8) + x4), .ref 54], sg_h s4, 0, 0)) rfl ?_
  refine am_Pn.pl (k := 8) rfl rfl am_o54 rfl rfl ?_
  refine am_Pn.bl 2 (y := (17, [some (.ref 54), some (.int x1), some (.int x2), some (.int x3)], [.ref 54, .ref 54], sg_h (sg_uL s4 54 8 ((s.2.1 54 8) + x4)), 0, 0)) rfl ?_
  refine am_Pn.gl (k := 9) rfl rfl am_o54 rfl rfl ?_
  refine am_Pn.bl 3 (y := (23, [some (.ref 54), some (.int x1), some (.int x2), some (.int x3)], [.long (x3.toInt64), .int x1, .long (s4.2.1 54 9), .ref 54], sg_h (sg_uL s4 54 8 ((s.2.1 54 8) + x4)), 0, 0)) rfl ?_
  refine am_Pn.csL hcl h rfl rfl rfl rfl rfl (fun x5 s5 h => ?_)
  refine am_Pn.bl 1 (y := (27, [some (.ref 54), some (.int x1), some (.int x2), some (.int x3)], [.long ((s4.2.1 54 9) + x5), .ref 54], sg_h s5, 0, 0)) rfl ?_
  refine am_Pn.pl (k := 9) rfl rfl am_o54 rfl rfl ?_
  refine am_Pn.bl 1 (y := (31, [some (.ref 54), some (.int x1), some (.int x2), some (.int x3)], [.ref 54], sg_h (sg_uL s5 54 9 ((s4.2.1 54 9) + x5)), 0, 0)) rfl ?_
  refine am_Pn.gr (k := 10) rfl rfl am_o54 rfl rfl ?_
  refine am_Pn.bl 4 (y := (38, [some (.ref 54), some (.int x1), some (.int x2), some (.int x3)], [.long (x2.toInt64), .int x1, .int x1, .ref 56], sg_h (sg_uL s5 54 9 ((s4.2.1 54 9) + x5)), 0, 0)) rfl ?_
  refine am_Pn.csL hcl h rfl rfl rfl rfl rfl (fun x6 s6 h => ?_)
  refine am_Pn.bl 3 (y := (44, [some (.ref 54), some (.int x1), some (.int x2), some (.int x3)], [.long (x3.toInt64), .int x1, .long x6, .int x1, .ref 56], sg_h s6, 0, 0)) rfl ?_
  refine am_Pn.csL hcl h rfl rfl rfl rfl rfl (fun x7 s7 h => ?_)
  refine am_Pn.bl 1 (y := (48, [some (.ref 54), some (.int x1), some (.int x2), some (.int x3)], [.long (x6 - x7), .int x1, .ref 56], sg_h s7, 0, 0)) rfl ?_
  refine am_Pn.ls (a := 56) rfl rfl rfl (fun hi => ?_)
  replace h := h (am_in0 hi) (am_in1 hi)
  refine am_Pn.bl 1 (y := (50, [some (.ref 54), some (.int x1), some (.int x2), some (.int x3)], [.ref 54], sg_h (sg_uM s7 56 (x1.toInt.toNat) (x6 - x7)), 0, 0)) rfl ?_
  refine am_Pn.gr (k := 11) rfl rfl am_o54 rfl rfl ?_
  refine am_Pn.bl 4 (y := (57, [some (.ref 54), some (.int x1), some (.int x2), some (.int x3)], [.long (x2.toInt64), .int x1, .int x1, .ref 57], sg_h (sg_uM s7 56 (x1.toInt.toNat) (x6 - x7)), 0, 0)) rfl ?_
  refine am_Pn.csL hcl h rfl rfl rfl rfl rfl (fun x8 s8 h => ?_)
  refine am_Pn.bl 3 (y := (63, [some (.ref 54), some (.int x1), some (.int x2), some (.int x3)], [.long (x3.toInt64), .int x1, .long x8, .int x1, .ref 57], sg_h s8, 0, 0)) rfl ?_
  refine am_Pn.csL hcl h rfl rfl rfl rfl rfl (fun x9 s9 h => ?_)
  refine am_Pn.bl 1 (y := (67, [some (.ref 54), some (.int x1), some (.int x2), some (.int x3)], [.long (x8 - x9), .int x1, .ref 57], sg_h s9, 0, 0)) rfl ?_
  refine am_Pn.ls (a := 57) rfl rfl rfl (fun hi => ?_)
  replace h := h (am_in0 hi) (am_in1 hi)
  exact am_Pn.rV h rfl
def wp_XOnward_allows (Ψ : Int32 → sg_S → Prop) (x1 : Int32) (s : sg_S) : Prop := (((x1 &&& (s.1 54 6)).toInt = (0) → ((((x1 ^^^ (Int32.ofInt (-1))) &&& (s.1 54 7)).toInt = (0) → (Ψ (Int32.ofInt (1)) s)) ∧ (¬ ((x1 ^^^ (Int32.ofInt (-1))) &&& (s.1 54 7)).toInt = (0) → (Ψ (Int32.ofInt (0)) s)))) ∧ (¬ (x1 &&& (s.1 54 6)).toInt = (0) → (Ψ (Int32.ofInt (0)) s)))
set_option maxRecDepth 100000 in
theorem wp_XOnward_allows_ok {Ψ : Int32 → sg_S → Prop} {x1 : Int32} {s : sg_S} (h : wp_XOnward_allows Ψ x1 s) : am_SpI 31 [.ref 54, .int x1] s Ψ := by
  refine am_SpI.mk (r := am_r31) rfl rfl (fun call d al n hcl => ?_)
  unfold wp_XOnward_allows at h
  refine am_Pn.bl 2 (y := (2, [some (.ref 54), some (.int x1)], [.ref 54, .int x1], sg_h s, 0, 0)) rfl ?_
  refine am_Pn.gi (k := 6) rfl rfl am_o54 rfl rfl ?_
  refine am_Pn.bl 1 (y := (6, [some (.ref 54), some (.int x1)], [.int (x1 &&& (s.1 54 6))], sg_h s, 0, 0)) rfl ?_
  refine am_Pn.zF h (am_bne rfl rfl) rfl rfl (fun h => ?_) (fun h => ?_)
  · refine am_Pn.bl 1 (y := (25, [some (.ref 54), some (.int x1)], [.int (Int32.ofInt (0))], sg_h s, 0, 0)) rfl ?_
    exact am_Pn.rI h rfl
  · refine am_Pn.bl 4 (y := (13, [some (.ref 54), some (.int x1)], [.ref 54, .int (x1 ^^^ (Int32.ofInt (-1)))], sg_h s, 0, 0)) rfl ?_
    refine am_Pn.gi (k := 7) rfl rfl am_o54 rfl rfl ?_
    refine am_Pn.bl 1 (y := (17, [some (.ref 54), some (.int x1)], [.int ((x1 ^^^ (Int32.ofInt (-1))) &&& (s.1 54 7))], sg_h s, 0, 0)) rfl ?_
    refine am_Pn.zF h (am_bne rfl rfl) rfl rfl (fun h => ?_) (fun h => ?_)
    · refine am_Pn.bl 1 (y := (25, [some (.ref 54), some (.int x1)], [.int (Int32.ofInt (0))], sg_h s, 0, 0)) rfl ?_
      exact am_Pn.rI h rfl
    · refine am_Pn.bl 2 (y := (25, [some (.ref 54), some (.int x1)], [.int (Int32.ofInt (1))], sg_h s, 0, 0)) rfl ?_
      exact am_Pn.rI h rfl
def wp_XOnward_layNext_F_24 (I24 : Int64 → Int64 → Int32 →  sg_S → Prop) (Ψ : Int32 → sg_S → Prop) (F : Nat) (x2 : Int32) (x3 : Int32) (x4 : Int32) (l5 : Int64) (l7 : Int64) (l9 : Int32) (s : sg_S) : Prop := ((l9.toInt < (s.1 54 2).toInt → (0 ≤ l9.toInt → l9.toInt < (12) → ((((x2 >>> ((s.2.2.1 55 (l9.toInt.toNat)) &&& 31)) &&& (Int32.ofInt (1))).toInt = (0) → (I24 l5 l7 (l9 + Int32.ofInt (1)) s)) ∧ (¬ ((x2 >>> ((s.2.2.1 55 (l9.toInt.toNat)) &&& 31)) &&& (Int32.ofInt (1))).toInt = (0) → (I24 (l5 + (s.2.2.2.1 56 (l9.toInt.toNat))) (l7 + (s.2.2.2.1 57 (l9.toInt.toNat))) (l9 + Int32.ofInt (1)) s))))) ∧ (¬ l9.toInt < (s.1 54 2).toInt → (am_SpI 99 [.ref F, .long l5, .long l7] s (fun x6 s6 => (Ψ x6 s6)))))
def wp_XOnward_layNext_F (I24 : Int64 → Int64 → Int32 →  sg_S → Prop) (Ψ : Int32 → sg_S → Prop) (F : Nat) (x2 : Int32) (x3 : Int32) (x4 : Int32) (s : sg_S) : Prop := (am_SpL 104 [.long (x3.toInt64), .long (x4.toInt64)] s (fun x5 s5 => (I24 (s.2.1 54 8) ((s.2.1 54 9) + x5) (Int32.ofInt (0)) s5)))
set_option maxRecDepth 100000 in
theorem wp_XOnward_layNext_F_ok {I24 : Int64 → Int64 → Int32 →  sg_S → Prop} {Ψ : Int32 → sg_S → Prop} {F : Nat} {x2 : Int32} {x3 : Int32} {x4 : Int32} {s : sg_S} (k24 : ∀ (l5 : Int64) (l7 : Int64) (l9 : Int32) (s : sg_S), I24 l5 l7 l9 s → wp_XOnward_layNext_F_24 I24 Ψ F x2 x3 x4 l5 l7 l9 s) (h : wp_XOnward_layNext_F I24 Ψ F x2 x3 x4 s) : am_SpI 32 [.ref 54, .ref F, .int x2, .int x3, .int x4] s Ψ := by
  refine am_SpI.mk (r := am_r32) rfl rfl (fun call d al n hcl => ?_)
  have key : ∀ n, (∀ (l5 : Int64) (l7 : Int64) (l9 : Int32) (s : sg_S), I24 l5 l7 l9 s → am_Pn call d (0, fun _ => 0) al am_r32 (am_PhI am_r32 Ψ) n (24, [some (.ref 54), some (.ref F), some (.int x2), some (.int x3), some (.int x4), some (.long l5), none, some (.long l7), none, some (.int l9)], [], sg_h s, 0, 0)) := by
    intro n
    induction n with
    | zero => exact fun _ _ _ _ _ => am_Pn.zero
    | succ n ih =>
      intro l5 l7 l9 s h
      replace h := k24 l5 l7 l9 s h
      unfold wp_XOnward_layNext_F_24 at h
      refine am_Pn.bl1 1 (y := (27, [some (.ref 54), some (.ref F), some (.int x2), some (.int x3), some (.int x4), some (.long l5), none, some (.long l7), none, some (.int l9)], [.ref 54, .int l9], sg_h s, 0, 0)) rfl ?_
      refine am_Pn.gi (k := 2) rfl rfl am_o54 rfl rfl ?_
      refine am_Pn.bF h (am_bge rfl rfl) rfl rfl (fun h => ?_) (fun h => ?_)
      · refine am_Pn.bl 3 (y := (82, [some (.ref 54), some (.ref F), some (.int x2), some (.int x3), some (.int x4), some (.long l5), none, some (.long l7), none, some (.int l9)], [.long l7, .long l5, .ref F], sg_h s, 0, 0)) rfl ?_
        refine am_Pn.cvI hcl h rfl rfl rfl rfl rfl (fun x6 s6 h => ?_)
        exact am_Pn.rI h rfl
      · refine am_Pn.bl 2 (y := (35, [some (.ref 54), some (.ref F), some (.int x2), some (.int x3), some (.int x4), some (.long l5), none, some (.long l7), none, some (.int l9)], [.ref 54, .int x2], sg_h s, 0, 0)) rfl ?_
        refine am_Pn.gr (k := 1) rfl rfl am_o54 rfl rfl ?_
        refine am_Pn.bl 1 (y := (40, [some (.ref 54), some (.ref F), some (.int x2), some (.int x3), some (.int x4), some (.long l5), none, some (.long l7), none, some (.int l9)], [.int l9, .ref 55, .int x2], sg_h s, 0, 0)) rfl ?_
        refine am_Pn.ia (a := 55) rfl rfl rfl rfl (fun hi => ?_)
        replace h := h (am_in0 hi) (am_in1 hi)
        refine am_Pn.bl 3 (y := (44, [some (.ref 54), some (.ref F), some (.int x2), some (.int x3), some (.int x4), some (.long l5), none, some (.long l7), none, some (.int l9)], [.int ((x2 >>> ((s.2.2.1 55 (l9.toInt.toNat)) &&& 31)) &&& (Int32.ofInt (1)))], sg_h s, 0, 0)) rfl ?_
        refine am_Pn.zT h (am_beq rfl rfl) rfl rfl (fun h => ?_) (fun h => ?_)
        · refine am_Pn.bl 2 (y := (24, [some (.ref 54), some (.ref F), some (.int x2), some (.int x3), some (.int x4), some (.long l5), none, some (.long l7), none, some (.int (l9 + Int32.ofInt (1)))], [], sg_h s, 0, 0)) rfl ?_
          exact (ih) l5 l7 (l9 + Int32.ofInt (1)) s h
        · refine am_Pn.bl 2 (y := (50, [some (.ref 54), some (.ref F), some (.int x2), some (.int x3), some (.int x4), some (.long l5), none, some (.long l7), none, some (.int l9)], [.ref 54, .long l5], sg_h s, 0, 0)) rfl ?_
          refine am_Pn.gr (k := 10) rfl rfl am_o54 rfl rfl ?_
          refine am_Pn.bl 1 (y := (55, [some (.ref 54), some (.ref F), some (.int x2), some (.int x3), some (.int x4), some (.long l5), none, some (.long l7), none, some (.int l9)], [.int l9, .ref 56, .long l5], sg_h s, 0, 0)) rfl ?_
          refine am_Pn.la (a := 56) rfl rfl rfl (fun hi => ?_)
          refine am_Pn.bl 4 (y := (62, [some (.ref 54), some (.ref F), some (.int x2), some (.int x3), some (.int x4), some (.long (l5 + (s.2.2.2.1 56 (l9.toInt.toNat)))), none, some (.long l7), none, some (.int l9)], [.ref 54, .long l7], sg_h s, 0, 0)) rfl ?_
          refine am_Pn.gr (k := 11) rfl rfl am_o54 rfl rfl ?_
          refine am_Pn.bl 1 (y := (67, [some (.ref 54), some (.ref F), some (.int x2), some (.int x3), some (.int x4), some (.long (l5 + (s.2.2.2.1 56 (l9.toInt.toNat)))), none, some (.long l7), none, some (.int l9)], [.int l9, .ref 57, .long l7], sg_h s, 0, 0)) rfl ?_
          refine am_Pn.la (a := 57) rfl rfl rfl (fun hi => ?_)
          refine am_Pn.bl 4 (y := (24, [some (.ref 54), some (.ref F), some (.int x2), some (.int x3), some (.int x4), some (.long (l5 + (s.2.2.2.1 56 (l9.toInt.toNat)))), none, some (.long (l7 + (s.2.2.2.1 57 (l9.toInt.toNat)))), none, some (.int (l9 + Int32.ofInt (1)))], [], sg_h s, 0, 0)) rfl ?_
          exact (ih) (l5 + (s.2.2.2.1 56 (l9.toInt.toNat))) (l7 + (s.2.2.2.1 57 (l9.toInt.toNat))) (l9 + Int32.ofInt (1)) s h
  unfold wp_XOnward_layNext_F at h
  refine am_Pn.bl 1 (y := (1, [some (.ref 54), some (.ref F), some (.int x2), some (.int x3), some (.int x4), none, none, none, none, none], [.ref 54], sg_h s, 0, 0)) rfl ?_
  refine am_Pn.gl (k := 8) rfl rfl am_o54 rfl rfl ?_
  refine am_Pn.bl 2 (y := (7, [some (.ref 54), some (.ref F), some (.int x2), some (.int x3), some (.int x4), some (.long (s.2.1 54 8)), none, none, none, none], [.ref 54], sg_h s, 0, 0)) rfl ?_
  refine am_Pn.gl (k := 9) rfl rfl am_o54 rfl rfl ?_
  refine am_Pn.bl 4 (y := (15, [some (.ref 54), some (.ref F), some (.int x2), some (.int x3), some (.int x4), some (.long (s.2.1 54 8)), none, none, none, none], [.long (x4.toInt64), .long (x3.toInt64), .long (s.2.1 54 9)], sg_h s, 0, 0)) rfl ?_
  refine am_Pn.csL hcl h rfl rfl rfl rfl rfl (fun x5 s5 h => ?_)
  refine am_Pn.bl 4 (y := (24, [some (.ref 54), some (.ref F), some (.int x2), some (.int x3), some (.int x4), some (.long (s.2.1 54 8)), none, some (.long ((s.2.1 54 9) + x5)), none, some (.int (Int32.ofInt (0)))], [], sg_h s5, 0, 0)) rfl ?_
  exact ((key n)) (s.2.1 54 8) ((s.2.1 54 9) + x5) (Int32.ofInt (0)) s5 h
def wp_XEnding_stands (Ψ : Int32 → sg_S → Prop) (x1 : Int32) (s : sg_S) : Prop := (am_SpI 91 [.ref 28, .int x1] s (fun x2 s2 => ((x2.toInt = (0) → (Ψ (Int32.ofInt (0)) s2)) ∧ (¬ x2.toInt = (0) → (0 ≤ x1.toInt → x1.toInt < (49) → (((s2.2.2.1 33 (x1.toInt.toNat)).toInt = (0) → (Ψ (Int32.ofInt (1)) s2)) ∧ (¬ (s2.2.2.1 33 (x1.toInt.toNat)).toInt = (0) → (Ψ (Int32.ofInt (0)) s2))))))))
set_option maxRecDepth 100000 in
theorem wp_XEnding_stands_ok {Ψ : Int32 → sg_S → Prop} {x1 : Int32} {s : sg_S} (h : wp_XEnding_stands Ψ x1 s) : am_SpI 16 [.ref 35, .int x1] s Ψ := by
  refine am_SpI.mk (r := am_r16) rfl rfl (fun call d al n hcl => ?_)
  unfold wp_XEnding_stands at h
  refine am_Pn.bl 1 (y := (1, [some (.ref 35), some (.int x1)], [.ref 35], sg_h s, 0, 0)) rfl ?_
  refine am_Pn.gr (k := 1) rfl rfl am_o35 rfl rfl ?_
  refine am_Pn.bl 1 (y := (5, [some (.ref 35), some (.int x1)], [.int x1, .ref 28], sg_h s, 0, 0)) rfl ?_
  refine am_Pn.cvI hcl h rfl rfl rfl rfl rfl (fun x2 s2 h => ?_)
  refine am_Pn.zT h (am_beq rfl rfl) rfl rfl (fun h => ?_) (fun h => ?_)
  · refine am_Pn.bl 1 (y := (28, [some (.ref 35), some (.int x1)], [.int (Int32.ofInt (0))], sg_h s2, 0, 0)) rfl ?_
    exact am_Pn.rI h rfl
  · refine am_Pn.bl 1 (y := (12, [some (.ref 35), some (.int x1)], [.ref 35], sg_h s2, 0, 0)) rfl ?_
    refine am_Pn.gr (k := 1) rfl rfl am_o35 rfl rfl ?_
    refine am_Pn.gr (k := 8) rfl rfl am_o28 rfl rfl ?_
    refine am_Pn.bl 1 (y := (19, [some (.ref 35), some (.int x1)], [.int x1, .ref 33], sg_h s2, 0, 0)) rfl ?_
    refine am_Pn.ba (a := 33) rfl rfl rfl rfl (fun hi => ?_)
    replace h := h (am_in0 hi) (am_in1 hi)
    refine am_Pn.zF h (am_bne rfl rfl) rfl rfl (fun h => ?_) (fun h => ?_)
    · refine am_Pn.bl 1 (y := (28, [some (.ref 35), some (.int x1)], [.int (Int32.ofInt (0))], sg_h s2, 0, 0)) rfl ?_
      exact am_Pn.rI h rfl
    · refine am_Pn.bl 2 (y := (28, [some (.ref 35), some (.int x1)], [.int (Int32.ofInt (1))], sg_h s2, 0, 0)) rfl ?_
      exact am_Pn.rI h rfl
def wp_XEnding_candidateCount (Ψ : Int32 → sg_S → Prop) (x1 : Int32) (s : sg_S) : Prop := (am_SpI 16 [.ref 35, .int x1] s (fun x2 s2 => ((x2.toInt = (0) → (Ψ (s2.1 35 3) s2)) ∧ (¬ x2.toInt = (0) → (Ψ (Int32.ofInt (1)) s2)))))
set_option maxRecDepth 100000 in
theorem wp_XEnding_candidateCount_ok {Ψ : Int32 → sg_S → Prop} {x1 : Int32} {s : sg_S} (h : wp_XEnding_candidateCount Ψ x1 s) : am_SpI 22 [.ref 35, .int x1] s Ψ := by
  refine am_SpI.mk (r := am_r22) rfl rfl (fun call d al n hcl => ?_)
  unfold wp_XEnding_candidateCount at h
  refine am_Pn.bl 2 (y := (2, [some (.ref 35), some (.int x1)], [.int x1, .ref 35], sg_h s, 0, 0)) rfl ?_
  refine am_Pn.cvI hcl h rfl rfl rfl rfl rfl (fun x2 s2 h => ?_)
  refine am_Pn.zT h (am_beq rfl rfl) rfl rfl (fun h => ?_) (fun h => ?_)
  · refine am_Pn.bl 1 (y := (13, [some (.ref 35), some (.int x1)], [.ref 35], sg_h s2, 0, 0)) rfl ?_
    refine am_Pn.gi (k := 3) rfl rfl am_o35 rfl rfl ?_
    exact am_Pn.rI h rfl
  · refine am_Pn.bl 2 (y := (16, [some (.ref 35), some (.int x1)], [.int (Int32.ofInt (1))], sg_h s2, 0, 0)) rfl ?_
    exact am_Pn.rI h rfl
def wp_XEnding_rowOf (Ψ : Int32 → sg_S → Prop) (x1 : Int32) (x2 : Int32) (s : sg_S) : Prop := (Ψ (((x1 * (Int32.ofInt (400))) + x2) * (Int32.ofInt (16))) s)
set_option maxRecDepth 100000 in
theorem wp_XEnding_rowOf_ok {Ψ : Int32 → sg_S → Prop} {x1 : Int32} {x2 : Int32} {s : sg_S} (h : wp_XEnding_rowOf Ψ x1 x2 s) : am_SpI 19 [.int x1, .int x2] s Ψ := by
  refine am_SpI.mk (r := am_r19) rfl rfl (fun call d al n hcl => ?_)
  unfold wp_XEnding_rowOf at h
  refine am_Pn.bl 7 (y := (10, [some (.int x1), some (.int x2)], [.int (((x1 * (Int32.ofInt (400))) + x2) * (Int32.ofInt (16)))], sg_h s, 0, 0)) rfl ?_
  exact am_Pn.rI h rfl
def wp_XEnding_leastOf_2 (I2 : Int32 →  sg_S → Prop) (Ψ : Int32 → sg_S → Prop) (x1 : Int32) (l1 : Int32) (s : sg_S) : Prop := ((l1.toInt < (16) → ((((x1 >>> (l1 &&& 31)) &&& (Int32.ofInt (1))).toInt = (0) → (I2 (l1 + Int32.ofInt (1)) s)) ∧ (¬ ((x1 >>> (l1 &&& 31)) &&& (Int32.ofInt (1))).toInt = (0) → (Ψ l1 s)))) ∧ (¬ l1.toInt < (16) → (Ψ (Int32.ofInt (-1)) s)))
def wp_XEnding_leastOf (I2 : Int32 →  sg_S → Prop) (Ψ : Int32 → sg_S → Prop) (x1 : Int32) (s : sg_S) : Prop := (I2 (Int32.ofInt (0)) s)
set_option maxRecDepth 100000 in
theorem wp_XEnding_leastOf_ok {I2 : Int32 →  sg_S → Prop} {Ψ : Int32 → sg_S → Prop} {x1 : Int32} {s : sg_S} (k2 : ∀ (l1 : Int32) (s : sg_S), I2 l1 s → wp_XEnding_leastOf_2 I2 Ψ x1 l1 s) (h : wp_XEnding_leastOf I2 Ψ x1 s) : am_SpI 23 [.int x1] s Ψ := by
  refine am_SpI.mk (r := am_r23) rfl rfl (fun call d al n hcl => ?_)
  have key : ∀ n, (∀ (l1 : Int32) (s : sg_S), I2 l1 s → am_Pn call d (0, fun _ => 0) al am_r23 (am_PhI am_r23 Ψ) n (2, [some (.int x1), some (.int l1)], [], sg_h s, 0, 0)) := by
    intro n
    induction n with
    | zero => exact fun _ _ _ => am_Pn.zero
    | succ n ih =>
      intro l1 s h
      replace h := k2 l1 s h
      unfold wp_XEnding_leastOf_2 at h
      refine am_Pn.bl1 1 (y := (5, [some (.int x1), some (.int l1)], [.int (Int32.ofInt (16)), .int l1], sg_h s, 0, 0)) rfl ?_
      refine am_Pn.bF h (am_bge rfl rfl) rfl rfl (fun h => ?_) (fun h => ?_)
      · refine am_Pn.bl 1 (y := (25, [some (.int x1), some (.int l1)], [.int (Int32.ofInt (-1))], sg_h s, 0, 0)) rfl ?_
        exact am_Pn.rI h rfl
      · refine am_Pn.bl 5 (y := (13, [some (.int x1), some (.int l1)], [.int ((x1 >>> (l1 &&& 31)) &&& (Int32.ofInt (1)))], sg_h s, 0, 0)) rfl ?_
        refine am_Pn.zT h (am_beq rfl rfl) rfl rfl (fun h => ?_) (fun h => ?_)
        · refine am_Pn.bl 2 (y := (2, [some (.int x1), some (.int (l1 + Int32.ofInt (1)))], [], sg_h s, 0, 0)) rfl ?_
          exact (ih) (l1 + Int32.ofInt (1)) s h
        · refine am_Pn.bl 1 (y := (17, [some (.int x1), some (.int l1)], [.int l1], sg_h s, 0, 0)) rfl ?_
          exact am_Pn.rI h rfl
  unfold wp_XEnding_leastOf at h
  refine am_Pn.bl 2 (y := (2, [some (.int x1), some (.int (Int32.ofInt (0)))], [], sg_h s, 0, 0)) rfl ?_
  exact ((key n)) (Int32.ofInt (0)) s h
def wp_XEnding_leadingFrom_20 (I20 : Int32 → Int32 → Int32 →  sg_S → Prop) (Ψ : Int32 → sg_S → Prop) (x1 : Int32) (x2 : Int32) (l3 : Int32) (l4 : Int32) (l5 : Int32) (s : sg_S) : Prop := ((l5.toInt < (0) → (Ψ l3 s)) ∧ (¬ l5.toInt < (0) → (0 ≤ (l4 + l5).toInt → (l4 + l5).toInt < (307200) → (((s.2.2.1 48 ((l4 + l5).toInt.toNat)).toInt < (0) → (I20 l3 l4 (l5 + Int32.ofInt (-1)) s)) ∧ (¬ (s.2.2.1 48 ((l4 + l5).toInt.toNat)).toInt < (0) → (0 ≤ ((x2 * (Int32.ofInt (400))) + (s.2.2.1 48 ((l4 + l5).toInt.toNat))).toInt → ((x2 * (Int32.ofInt (400))) + (s.2.2.1 48 ((l4 + l5).toInt.toNat))).toInt < (19600) → (((s.2.2.1 49 (((x2 * (Int32.ofInt (400))) + (s.2.2.1 48 ((l4 + l5).toInt.toNat))).toInt.toNat)).toInt < (0) → (I20 l3 l4 (l5 + Int32.ofInt (-1)) s)) ∧ (¬ (s.2.2.1 49 (((x2 * (Int32.ofInt (400))) + (s.2.2.1 48 ((l4 + l5).toInt.toNat))).toInt.toNat)).toInt < (0) → (I20 (l3 ||| ((Int32.ofInt (1)) <<< (l5 &&& 31))) l4 (l5 + Int32.ofInt (-1)) s)))))))))
def wp_XEnding_leadingFrom (I20 : Int32 → Int32 → Int32 →  sg_S → Prop) (Ψ : Int32 → sg_S → Prop) (x1 : Int32) (x2 : Int32) (s : sg_S) : Prop := (am_SpI 19 [.int (x2 - (Int32.ofInt (1))), .int x1] s (fun x3 s3 => (am_SpI 22 [.ref 35, .int x2] s3 (fun x4 s4 => (I20 (Int32.ofInt (0)) x3 (x4 - (Int32.ofInt (1))) s4)))))
set_option maxRecDepth 100000 in
theorem wp_XEnding_leadingFrom_ok {I20 : Int32 → Int32 → Int32 →  sg_S → Prop} {Ψ : Int32 → sg_S → Prop} {x1 : Int32} {x2 : Int32} {s : sg_S} (k20 : ∀ (l3 : Int32) (l4 : Int32) (l5 : Int32) (s : sg_S), I20 l3 l4 l5 s → wp_XEnding_leadingFrom_20 I20 Ψ x1 x2 l3 l4 l5 s) (h : wp_XEnding_leadingFrom I20 Ψ x1 x2 s) : am_SpI 21 [.ref 35, .int x1, .int x2] s Ψ := by
  refine am_SpI.mk (r := am_r21) rfl rfl (fun call d al n hcl => ?_)
  have key : ∀ n, (∀ (o6 : Option Value) (l3 : Int32) (l4 : Int32) (l5 : Int32) (s : sg_S), I20 l3 l4 l5 s → am_Pn call d (0, fun _ => 0) al am_r21 (am_PhI am_r21 Ψ) n (20, [some (.ref 35), some (.int x1), some (.int x2), some (.int l3), some (.int l4), some (.int l5), o6], [], sg_h s, 0, 0)) := by
    intro n
    induction n with
    | zero => exact fun _ _ _ _ _ _ => am_Pn.zero
    | succ n ih =>
      intro o6 l3 l4 l5 s h
      replace h := k20 l3 l4 l5 s h
      unfold wp_XEnding_leadingFrom_20 at h
      refine am_Pn.bl1 0 (y := (22, [some (.ref 35), some (.int x1), some (.int x2), some (.int l3), some (.int l4), some (.int l5), o6], [.int l5], sg_h s, 0, 0)) rfl ?_
      refine am_Pn.zT h (am_blt rfl rfl) rfl rfl (fun h => ?_) (fun h => ?_)
      · refine am_Pn.bl 1 (y := (72, [some (.ref 35), some (.int x1), some (.int x2), some (.int l3), some (.int l4), some (.int l5), o6], [.int l3], sg_h s, 0, 0)) rfl ?_
        exact am_Pn.rI h rfl
      · refine am_Pn.bl 1 (y := (26, [some (.ref 35), some (.int x1), some (.int x2), some (.int l3), some (.int l4), some (.int l5), o6], [.ref 35], sg_h s, 0, 0)) rfl ?_
        refine am_Pn.gr (k := 13) rfl rfl am_o35 rfl rfl ?_
        refine am_Pn.bl 3 (y := (34, [some (.ref 35), some (.int x1), some (.int x2), some (.int l3), some (.int l4), some (.int l5), o6], [.int (l4 + l5), .ref 48], sg_h s, 0, 0)) rfl ?_
        refine am_Pn.sa (a := 48) rfl rfl rfl (fun hi => ?_)
        replace h := h (am_in0 hi) (am_in1 hi)
        refine am_Pn.bl 2 (y := (39, [some (.ref 35), some (.int x1), some (.int x2), some (.int l3), some (.int l4), some (.int l5), some (.int (s.2.2.1 48 ((l4 + l5).toInt.toNat)))], [.int (s.2.2.1 48 ((l4 + l5).toInt.toNat))], sg_h s, 0, 0)) rfl ?_
        refine am_Pn.zT h (am_blt rfl rfl) rfl rfl (fun h => ?_) (fun h => ?_)
        · refine am_Pn.bl 2 (y := (20, [some (.ref 35), some (.int x1), some (.int x2), some (.int l3), some (.int l4), some (.int (l5 + Int32.ofInt (-1))), some (.int (s.2.2.1 48 ((l4 + l5).toInt.toNat)))], [], sg_h s, 0, 0)) rfl ?_
          exact (ih) (some (.int (s.2.2.1 48 ((l4 + l5).toInt.toNat)))) l3 l4 (l5 + Int32.ofInt (-1)) s h
        · refine am_Pn.bl 1 (y := (43, [some (.ref 35), some (.int x1), some (.int x2), some (.int l3), some (.int l4), some (.int l5), some (.int (s.2.2.1 48 ((l4 + l5).toInt.toNat)))], [.ref 35], sg_h s, 0, 0)) rfl ?_
          refine am_Pn.gr (k := 14) rfl rfl am_o35 rfl rfl ?_
          refine am_Pn.bl 5 (y := (54, [some (.ref 35), some (.int x1), some (.int x2), some (.int l3), some (.int l4), some (.int l5), some (.int (s.2.2.1 48 ((l4 + l5).toInt.toNat)))], [.int ((x2 * (Int32.ofInt (400))) + (s.2.2.1 48 ((l4 + l5).toInt.toNat))), .ref 49], sg_h s, 0, 0)) rfl ?_
          refine am_Pn.ba (a := 49) rfl rfl rfl rfl (fun hi => ?_)
          replace h := h (am_in0 hi) (am_in1 hi)
          refine am_Pn.zT h (am_blt rfl rfl) rfl rfl (fun h => ?_) (fun h => ?_)
          · refine am_Pn.bl 2 (y := (20, [some (.ref 35), some (.int x1), some (.int x2), some (.int l3), some (.int l4), some (.int (l5 + Int32.ofInt (-1))), some (.int (s.2.2.1 48 ((l4 + l5).toInt.toNat)))], [], sg_h s, 0, 0)) rfl ?_
            exact (ih) (some (.int (s.2.2.1 48 ((l4 + l5).toInt.toNat)))) l3 l4 (l5 + Int32.ofInt (-1)) s h
          · refine am_Pn.bl 8 (y := (20, [some (.ref 35), some (.int x1), some (.int x2), some (.int (l3 ||| ((Int32.ofInt (1)) <<< (l5 &&& 31)))), some (.int l4), some (.int (l5 + Int32.ofInt (-1))), some (.int (s.2.2.1 48 ((l4 + l5).toInt.toNat)))], [], sg_h s, 0, 0)) rfl ?_
            exact (ih) (some (.int (s.2.2.1 48 ((l4 + l5).toInt.toNat)))) (l3 ||| ((Int32.ofInt (1)) <<< (l5 &&& 31))) l4 (l5 + Int32.ofInt (-1)) s h
  unfold wp_XEnding_leadingFrom at h
  refine am_Pn.bl 6 (y := (6, [some (.ref 35), some (.int x1), some (.int x2), some (.int (Int32.ofInt (0))), none, none, none], [.int x1, .int (x2 - (Int32.ofInt (1)))], sg_h s, 0, 0)) rfl ?_
  refine am_Pn.csI hcl h rfl rfl rfl rfl rfl (fun x3 s3 h => ?_)
  refine am_Pn.bl 3 (y := (13, [some (.ref 35), some (.int x1), some (.int x2), some (.int (Int32.ofInt (0))), some (.int x3), none, none], [.int x2, .ref 35], sg_h s3, 0, 0)) rfl ?_
  refine am_Pn.cvI hcl h rfl rfl rfl rfl rfl (fun x4 s4 h => ?_)
  refine am_Pn.bl 3 (y := (20, [some (.ref 35), some (.int x1), some (.int x2), some (.int (Int32.ofInt (0))), some (.int x3), some (.int (x4 - (Int32.ofInt (1)))), none], [], sg_h s4, 0, 0)) rfl ?_
  exact ((key n)) none (Int32.ofInt (0)) x3 (x4 - (Int32.ofInt (1))) s4 h
def wp_XEnding_lookBack_10 (I10 : Int32 → Int32 →  sg_S → Prop) (I41 : Int32 → Int32 →  sg_S → Prop) (I51 : Int32 → Int32 → Int32 → Int32 →  sg_S → Prop) (Ψ : sg_S → Prop) (l1 : Int32) (l2 : Int32) (s : sg_S) : Prop := (0 ≤ l1.toInt → l1.toInt < (49) → ((l2.toInt < (s.2.2.1 47 (l1.toInt.toNat)).toInt → (0 ≤ ((l1 * (Int32.ofInt (400))) + l2).toInt → ((l1 * (Int32.ofInt (400))) + l2).toInt < (19600) → (I10 l1 (l2 + Int32.ofInt (1)) (sg_uA s 49 (((l1 * (Int32.ofInt (400))) + l2).toInt.toNat) (vp_nar .byte (Int32.ofInt (0))))))) ∧ (¬ l2.toInt < (s.2.2.1 47 (l1.toInt.toNat)).toInt → (I41 l1 l1 s))))
def wp_XEnding_lookBack_41 (I10 : Int32 → Int32 →  sg_S → Prop) (I41 : Int32 → Int32 →  sg_S → Prop) (I51 : Int32 → Int32 → Int32 → Int32 →  sg_S → Prop) (Ψ : sg_S → Prop) (l1 : Int32) (l2 : Int32) (s : sg_S) : Prop := ((l2.toInt < (1) → (Ψ s)) ∧ (¬ l2.toInt < (1) → (I51 l1 l2 (Int32.ofInt (0)) (Int32.ofInt (0)) s)))
def wp_XEnding_lookBack_51 (I10 : Int32 → Int32 →  sg_S → Prop) (I41 : Int32 → Int32 →  sg_S → Prop) (I51 : Int32 → Int32 → Int32 → Int32 →  sg_S → Prop) (Ψ : sg_S → Prop) (l1 : Int32) (l2 : Int32) (l3 : Int32) (l4 : Int32) (s : sg_S) : Prop := (0 ≤ (l2 - (Int32.ofInt (1))).toInt → (l2 - (Int32.ofInt (1))).toInt < (49) → ((l4.toInt < (s.2.2.1 47 ((l2 - (Int32.ofInt (1))).toInt.toNat)).toInt → (am_SpI 21 [.ref 35, .int l4, .int l2] s (fun x2 s2 => (am_SpI 23 [.int x2] s2 (fun x3 s3 => (0 ≤ (((l2 - (Int32.ofInt (1))) * (Int32.ofInt (400))) + l4).toInt → (((l2 - (Int32.ofInt (1))) * (Int32.ofInt (400))) + l4).toInt < (19600) → (I51 l1 l2 (l3 ||| x2) (l4 + Int32.ofInt (1)) (sg_uA s3 49 ((((l2 - (Int32.ofInt (1))) * (Int32.ofInt (400))) + l4).toInt.toNat) (vp_nar .byte (x3.toInt8.toInt32)))))))))) ∧ (¬ l4.toInt < (s.2.2.1 47 ((l2 - (Int32.ofInt (1))).toInt.toNat)).toInt → (am_SpI 16 [.ref 35, .int l2] s (fun x1 s1 => ((x1.toInt = (0) → (0 ≤ l2.toInt → l2.toInt < (49) → (I41 l1 (l2 + Int32.ofInt (-1)) (sg_uA s1 38 (l2.toInt.toNat) l3)))) ∧ (¬ x1.toInt = (0) → (0 ≤ l2.toInt → l2.toInt < (49) → (I41 l1 (l2 + Int32.ofInt (-1)) (sg_uA s1 38 (l2.toInt.toNat) (Int32.ofInt (-1))))))))))))
def wp_XEnding_lookBack (I10 : Int32 → Int32 →  sg_S → Prop) (I41 : Int32 → Int32 →  sg_S → Prop) (I51 : Int32 → Int32 → Int32 → Int32 →  sg_S → Prop) (Ψ : sg_S → Prop) (s : sg_S) : Prop := (I10 (s.1 1 3) (Int32.ofInt (0)) s)
set_option maxRecDepth 100000 in
theorem wp_XEnding_lookBack_ok {I10 : Int32 → Int32 →  sg_S → Prop} {I41 : Int32 → Int32 →  sg_S → Prop} {I51 : Int32 → Int32 → Int32 → Int32 →  sg_S → Prop} {Ψ : sg_S → Prop} {s : sg_S} (k10 : ∀ (l1 : Int32) (l2 : Int32) (s : sg_S), I10 l1 l2 s → wp_XEnding_lookBack_10 I10 I41 I51 Ψ  l1 l2 s) (k41 : ∀ (l1 : Int32) (l2 : Int32) (s : sg_S), I41 l1 l2 s → wp_XEnding_lookBack_41 I10 I41 I51 Ψ  l1 l2 s) (k51 : ∀ (l1 : Int32) (l2 : Int32) (l3 : Int32) (l4 : Int32) (s : sg_S), I51 l1 l2 l3 l4 s → wp_XEnding_lookBack_51 I10 I41 I51 Ψ  l1 l2 l3 l4 s) (h : wp_XEnding_lookBack I10 I41 I51 Ψ  s) : am_SpV 20 [.ref 35] s Ψ := by
  refine am_SpV.mk (r := am_r20) rfl rfl (fun call d al n hcl => ?_)
  have key : ∀ n, (∀ (o3 : Option Value) (o4 : Option Value) (o5 : Option Value) (l1 : Int32) (l2 : Int32) (s : sg_S), I10 l1 l2 s → am_Pn call d (0, fun _ => 0) al am_r20 (am_PhV am_r20 Ψ) n (10, [some (.ref 35), some (.int l1), some (.int l2), o3, o4, o5], [], sg_h s, 0, 0)) ∧ (∀ (o3 : Option Value) (o4 : Option Value) (o5 : Option Value) (l1 : Int32) (l2 : Int32) (s : sg_S), I41 l1 l2 s → am_Pn call d (0, fun _ => 0) al am_r20 (am_PhV am_r20 Ψ) n (41, [some (.ref 35), some (.int l1), some (.int l2), o3, o4, o5], [], sg_h s, 0, 0)) ∧ (∀ (o5 : Option Value) (l1 : Int32) (l2 : Int32) (l3 : Int32) (l4 : Int32) (s : sg_S), I51 l1 l2 l3 l4 s → am_Pn call d (0, fun _ => 0) al am_r20 (am_PhV am_r20 Ψ) n (51, [some (.ref 35), some (.int l1), some (.int l2), some (.int l3), some (.int l4), o5], [], sg_h s, 0, 0)) := by
    intro n
    induction n with
    | zero => exact ⟨fun _ _ _ _ _ _ _ => am_Pn.zero, fun _ _ _ _ _ _ _ => am_Pn.zero, fun _ _ _ _ _ _ _ => am_Pn.zero⟩
    | succ n ih =>
      refine ⟨?_, ?_, ?_⟩
      · intro o3 o4 o5 l1 l2 s h
        replace h := k10 l1 l2 s h
        unfold wp_XEnding_lookBack_10 at h
        refine am_Pn.bl1 1 (y := (12, [some (.ref 35), some (.int l1), some (.int l2), o3, o4, o5], [.ref 35, .int l2], sg_h s, 0, 0)) rfl ?_
        refine am_Pn.gr (k := 12) rfl rfl am_o35 rfl rfl ?_
        refine am_Pn.bl 1 (y := (16, [some (.ref 35), some (.int l1), some (.int l2), o3, o4, o5], [.int l1, .ref 47, .int l2], sg_h s, 0, 0)) rfl ?_
        refine am_Pn.ia (a := 47) rfl rfl rfl rfl (fun hi => ?_)
        replace h := h (am_in0 hi) (am_in1 hi)
        refine am_Pn.bF h (am_bge rfl rfl) rfl rfl (fun h => ?_) (fun h => ?_)
        · refine am_Pn.bl 2 (y := (41, [some (.ref 35), some (.int l1), some (.int l1), o3, o4, o5], [], sg_h s, 0, 0)) rfl ?_
          exact (ih.2.1) o3 o4 o5 l1 l1 s h
        · refine am_Pn.bl 1 (y := (21, [some (.ref 35), some (.int l1), some (.int l2), o3, o4, o5], [.ref 35], sg_h s, 0, 0)) rfl ?_
          refine am_Pn.gr (k := 14) rfl rfl am_o35 rfl rfl ?_
          refine am_Pn.bl 6 (y := (32, [some (.ref 35), some (.int l1), some (.int l2), o3, o4, o5], [.int (Int32.ofInt (0)), .int ((l1 * (Int32.ofInt (400))) + l2), .ref 49], sg_h s, 0, 0)) rfl ?_
          refine am_Pn.ys (a := 49) rfl rfl rfl (fun hi => ?_)
          replace h := h (am_in0 hi) (am_in1 hi)
          refine am_Pn.bl 2 (y := (10, [some (.ref 35), some (.int l1), some (.int (l2 + Int32.ofInt (1))), o3, o4, o5], [], sg_h (sg_uA s 49 (((l1 * (Int32.ofInt (400))) + l2).toInt.toNat) (vp_nar .byte (Int32.ofInt (0)))), 0, 0)) rfl ?_
          exact (ih.1) o3 o4 o5 l1 (l2 + Int32.ofInt (1)) (sg_uA s 49 (((l1 * (Int32.ofInt (400))) + l2).toInt.toNat) (vp_nar .byte (Int32.ofInt (0)))) h
      · intro o3 o4 o5 l1 l2 s h
        replace h := k41 l1 l2 s h
        unfold wp_XEnding_lookBack_41 at h
        refine am_Pn.bl1 1 (y := (43, [some (.ref 35), some (.int l1), some (.int l2), o3, o4, o5], [.int (Int32.ofInt (1)), .int l2], sg_h s, 0, 0)) rfl ?_
        refine am_Pn.bT h (am_blt rfl rfl) rfl rfl (fun h => ?_) (fun h => ?_)
        · exact am_Pn.rV h rfl
        · refine am_Pn.bl 4 (y := (51, [some (.ref 35), some (.int l1), some (.int l2), some (.int (Int32.ofInt (0))), some (.int (Int32.ofInt (0))), o5], [], sg_h s, 0, 0)) rfl ?_
          exact (ih.2.2) o5 l1 l2 (Int32.ofInt (0)) (Int32.ofInt (0)) s h
      · intro o5 l1 l2 l3 l4 s h
        replace h := k51 l1 l2 l3 l4 s h
        unfold wp_XEnding_lookBack_51 at h
        refine am_Pn.bl1 1 (y := (54, [some (.ref 35), some (.int l1), some (.int l2), some (.int l3), some (.int l4), o5], [.ref 35, .int l4], sg_h s, 0, 0)) rfl ?_
        refine am_Pn.gr (k := 12) rfl rfl am_o35 rfl rfl ?_
        refine am_Pn.bl 3 (y := (60, [some (.ref 35), some (.int l1), some (.int l2), some (.int l3), some (.int l4), o5], [.int (l2 - (Int32.ofInt (1))), .ref 47, .int l4], sg_h s, 0, 0)) rfl ?_
        refine am_Pn.ia (a := 47) rfl rfl rfl rfl (fun hi => ?_)
        replace h := h (am_in0 hi) (am_in1 hi)
        refine am_Pn.bF h (am_bge rfl rfl) rfl rfl (fun h => ?_) (fun h => ?_)
        · refine am_Pn.bl 1 (y := (106, [some (.ref 35), some (.int l1), some (.int l2), some (.int l3), some (.int l4), o5], [.ref 35], sg_h s, 0, 0)) rfl ?_
          refine am_Pn.gr (k := 6) rfl rfl am_o35 rfl rfl ?_
          refine am_Pn.bl 3 (y := (112, [some (.ref 35), some (.int l1), some (.int l2), some (.int l3), some (.int l4), o5], [.int l2, .ref 35, .int l2, .ref 38], sg_h s, 0, 0)) rfl ?_
          refine am_Pn.cvI hcl h rfl rfl rfl rfl rfl (fun x1 s1 h => ?_)
          refine am_Pn.zT h (am_beq rfl rfl) rfl rfl (fun h => ?_) (fun h => ?_)
          · refine am_Pn.bl 1 (y := (123, [some (.ref 35), some (.int l1), some (.int l2), some (.int l3), some (.int l4), o5], [.int l3, .int l2, .ref 38], sg_h s1, 0, 0)) rfl ?_
            refine am_Pn.is (a := 38) rfl rfl rfl (fun hi => ?_)
            replace h := h (am_in0 hi) (am_in1 hi)
            refine am_Pn.bl 2 (y := (41, [some (.ref 35), some (.int l1), some (.int (l2 + Int32.ofInt (-1))), some (.int l3), some (.int l4), o5], [], sg_h (sg_uA s1 38 (l2.toInt.toNat) l3), 0, 0)) rfl ?_
            exact (ih.2.1) (some (.int l3)) (some (.int l4)) o5 l1 (l2 + Int32.ofInt (-1)) (sg_uA s1 38 (l2.toInt.toNat) l3) h
          · refine am_Pn.bl 2 (y := (123, [some (.ref 35), some (.int l1), some (.int l2), some (.int l3), some (.int l4), o5], [.int (Int32.ofInt (-1)), .int l2, .ref 38], sg_h s1, 0, 0)) rfl ?_
            refine am_Pn.is (a := 38) rfl rfl rfl (fun hi => ?_)
            replace h := h (am_in0 hi) (am_in1 hi)
            refine am_Pn.bl 2 (y := (41, [some (.ref 35), some (.int l1), some (.int (l2 + Int32.ofInt (-1))), some (.int l3), some (.int l4), o5], [], sg_h (sg_uA s1 38 (l2.toInt.toNat) (Int32.ofInt (-1))), 0, 0)) rfl ?_
            exact (ih.2.1) (some (.int l3)) (some (.int l4)) o5 l1 (l2 + Int32.ofInt (-1)) (sg_uA s1 38 (l2.toInt.toNat) (Int32.ofInt (-1))) h
        · refine am_Pn.bl 3 (y := (68, [some (.ref 35), some (.int l1), some (.int l2), some (.int l3), some (.int l4), o5], [.int l2, .int l4, .ref 35], sg_h s, 0, 0)) rfl ?_
          refine am_Pn.cvI hcl h rfl rfl rfl rfl rfl (fun x2 s2 h => ?_)
          refine am_Pn.bl 2 (y := (74, [some (.ref 35), some (.int l1), some (.int l2), some (.int l3), some (.int l4), some (.int x2)], [.ref 35], sg_h s2, 0, 0)) rfl ?_
          refine am_Pn.gr (k := 14) rfl rfl am_o35 rfl rfl ?_
          refine am_Pn.bl 8 (y := (89, [some (.ref 35), some (.int l1), some (.int l2), some (.int l3), some (.int l4), some (.int x2)], [.int x2, .int (((l2 - (Int32.ofInt (1))) * (Int32.ofInt (400))) + l4), .ref 49], sg_h s2, 0, 0)) rfl ?_
          refine am_Pn.csI hcl h rfl rfl rfl rfl rfl (fun x3 s3 h => ?_)
          refine am_Pn.bl 1 (y := (93, [some (.ref 35), some (.int l1), some (.int l2), some (.int l3), some (.int l4), some (.int x2)], [.int (x3.toInt8.toInt32), .int (((l2 - (Int32.ofInt (1))) * (Int32.ofInt (400))) + l4), .ref 49], sg_h s3, 0, 0)) rfl ?_
          refine am_Pn.ys (a := 49) rfl rfl rfl (fun hi => ?_)
          replace h := h (am_in0 hi) (am_in1 hi)
          refine am_Pn.bl 6 (y := (51, [some (.ref 35), some (.int l1), some (.int l2), some (.int (l3 ||| x2)), some (.int (l4 + Int32.ofInt (1))), some (.int x2)], [], sg_h (sg_uA s3 49 ((((l2 - (Int32.ofInt (1))) * (Int32.ofInt (400))) + l4).toInt.toNat) (vp_nar .byte (x3.toInt8.toInt32))), 0, 0)) rfl ?_
          exact (ih.2.2) (some (.int x2)) l1 l2 (l3 ||| x2) (l4 + Int32.ofInt (1)) (sg_uA s3 49 ((((l2 - (Int32.ofInt (1))) * (Int32.ofInt (400))) + l4).toInt.toNat) (vp_nar .byte (x3.toInt8.toInt32))) h
  unfold wp_XEnding_lookBack at h
  refine am_Pn.bl 1 (y := (1, [some (.ref 35), none, none, none, none, none], [.ref 35], sg_h s, 0, 0)) rfl ?_
  refine am_Pn.gr (k := 0) rfl rfl am_o35 rfl rfl ?_
  refine am_Pn.gi (k := 3) rfl rfl am_o1 rfl rfl ?_
  refine am_Pn.bl 3 (y := (10, [some (.ref 35), some (.int (s.1 1 3)), some (.int (Int32.ofInt (0))), none, none, none], [], sg_h s, 0, 0)) rfl ?_
  exact ((key n).1) none none none (s.1 1 3) (Int32.ofInt (0)) s h
def wp_XEnding_walk_4 (I4 : Int32 → Int32 →  sg_S → Prop) (Ψ : sg_S → Prop) (l1 : Int32) (l2 : Int32) (s : sg_S) : Prop := (((s.1 1 3).toInt < l2.toInt → (Ψ s)) ∧ (¬ (s.1 1 3).toInt < l2.toInt → ((l1.toInt < (0) → (Ψ s)) ∧ (¬ l1.toInt < (0) → (0 ≤ (((l2 - (Int32.ofInt (1))) * (Int32.ofInt (400))) + l1).toInt → (((l2 - (Int32.ofInt (1))) * (Int32.ofInt (400))) + l1).toInt < (19600) → (((s.2.2.1 49 ((((l2 - (Int32.ofInt (1))) * (Int32.ofInt (400))) + l1).toInt.toNat)).toInt < (0) → (Ψ s)) ∧ (¬ (s.2.2.1 49 ((((l2 - (Int32.ofInt (1))) * (Int32.ofInt (400))) + l1).toInt.toNat)).toInt < (0) → (am_SpI 16 [.ref 35, .int l2] s (fun x1 s1 => ((x1.toInt = (0) → (0 ≤ l2.toInt → l2.toInt < (49) → (am_SpI 19 [.int (l2 - (Int32.ofInt (1))), .int l1] (sg_uA s1 37 (l2.toInt.toNat) (s.2.2.1 49 ((((l2 - (Int32.ofInt (1))) * (Int32.ofInt (400))) + l1).toInt.toNat))) (fun x2 s2 => (0 ≤ (x2 + (s.2.2.1 49 ((((l2 - (Int32.ofInt (1))) * (Int32.ofInt (400))) + l1).toInt.toNat))).toInt → (x2 + (s.2.2.1 49 ((((l2 - (Int32.ofInt (1))) * (Int32.ofInt (400))) + l1).toInt.toNat))).toInt < (307200) → (I4 (s2.2.2.1 48 ((x2 + (s.2.2.1 49 ((((l2 - (Int32.ofInt (1))) * (Int32.ofInt (400))) + l1).toInt.toNat))).toInt.toNat)) (l2 + Int32.ofInt (1)) s2)))))) ∧ (¬ x1.toInt = (0) → (0 ≤ l2.toInt → l2.toInt < (49) → (am_SpI 19 [.int (l2 - (Int32.ofInt (1))), .int l1] (sg_uA s1 37 (l2.toInt.toNat) (Int32.ofInt (-1))) (fun x3 s3 => (0 ≤ (x3 + (s.2.2.1 49 ((((l2 - (Int32.ofInt (1))) * (Int32.ofInt (400))) + l1).toInt.toNat))).toInt → (x3 + (s.2.2.1 49 ((((l2 - (Int32.ofInt (1))) * (Int32.ofInt (400))) + l1).toInt.toNat))).toInt < (307200) → (I4 (s3.2.2.1 48 ((x3 + (s.2.2.1 49 ((((l2 - (Int32.ofInt (1))) * (Int32.ofInt (400))) + l1).toInt.toNat))).toInt.toNat)) (l2 + Int32.ofInt (1)) s3))))))))))))))))
def wp_XEnding_walk (I4 : Int32 → Int32 →  sg_S → Prop) (Ψ : sg_S → Prop) (s : sg_S) : Prop := (I4 (Int32.ofInt (0)) (Int32.ofInt (1)) s)
set_option maxRecDepth 100000 in
theorem wp_XEnding_walk_ok {I4 : Int32 → Int32 →  sg_S → Prop} {Ψ : sg_S → Prop} {s : sg_S} (k4 : ∀ (l1 : Int32) (l2 : Int32) (s : sg_S), I4 l1 l2 s → wp_XEnding_walk_4 I4 Ψ  l1 l2 s) (h : wp_XEnding_walk I4 Ψ  s) : am_SpV 24 [.ref 35] s Ψ := by
  refine am_SpV.mk (r := am_r24) rfl rfl (fun call d al n hcl => ?_)
  have key : ∀ n, (∀ (o3 : Option Value) (l1 : Int32) (l2 : Int32) (s : sg_S), I4 l1 l2 s → am_Pn call d (0, fun _ => 0) al am_r24 (am_PhV am_r24 Ψ) n (4, [some (.ref 35), some (.int l1), some (.int l2), o3], [], sg_h s, 0, 0)) := by
    intro n
    induction n with
    | zero => exact fun _ _ _ _ _ => am_Pn.zero
    | succ n ih =>
      intro o3 l1 l2 s h
      replace h := k4 l1 l2 s h
      unfold wp_XEnding_walk_4 at h
      refine am_Pn.bl1 1 (y := (6, [some (.ref 35), some (.int l1), some (.int l2), o3], [.ref 35, .int l2], sg_h s, 0, 0)) rfl ?_
      refine am_Pn.gr (k := 0) rfl rfl am_o35 rfl rfl ?_
      refine am_Pn.gi (k := 3) rfl rfl am_o1 rfl rfl ?_
      refine am_Pn.bT h (am_bgt rfl rfl) rfl rfl (fun h => ?_) (fun h => ?_)
      · exact am_Pn.rV h rfl
      · refine am_Pn.bl 1 (y := (16, [some (.ref 35), some (.int l1), some (.int l2), o3], [.int l1], sg_h s, 0, 0)) rfl ?_
        refine am_Pn.zT h (am_blt rfl rfl) rfl rfl (fun h => ?_) (fun h => ?_)
        · exact am_Pn.rV h rfl
        · refine am_Pn.bl 1 (y := (20, [some (.ref 35), some (.int l1), some (.int l2), o3], [.ref 35], sg_h s, 0, 0)) rfl ?_
          refine am_Pn.gr (k := 14) rfl rfl am_o35 rfl rfl ?_
          refine am_Pn.bl 7 (y := (32, [some (.ref 35), some (.int l1), some (.int l2), o3], [.int (((l2 - (Int32.ofInt (1))) * (Int32.ofInt (400))) + l1), .ref 49], sg_h s, 0, 0)) rfl ?_
          refine am_Pn.ba (a := 49) rfl rfl rfl rfl (fun hi => ?_)
          replace h := h (am_in0 hi) (am_in1 hi)
          refine am_Pn.bl 2 (y := (35, [some (.ref 35), some (.int l1), some (.int l2), some (.int (s.2.2.1 49 ((((l2 - (Int32.ofInt (1))) * (Int32.ofInt (400))) + l1).toInt.toNat)))], [.int (s.2.2.1 49 ((((l2 - (Int32.ofInt (1))) * (Int32.ofInt (400))) + l1).toInt.toNat))], sg_h s, 0, 0)) rfl ?_
          refine am_Pn.zF h (am_bge rfl rfl) rfl rfl (fun h => ?_) (fun h => ?_)
          · refine am_Pn.bl 1 (y := (40, [some (.ref 35), some (.int l1), some (.int l2), some (.int (s.2.2.1 49 ((((l2 - (Int32.ofInt (1))) * (Int32.ofInt (400))) + l1).toInt.toNat)))], [.ref 35], sg_h s, 0, 0)) rfl ?_
            refine am_Pn.gr (k := 5) rfl rfl am_o35 rfl rfl ?_
            refine am_Pn.bl 3 (y := (46, [some (.ref 35), some (.int l1), some (.int l2), some (.int (s.2.2.1 49 ((((l2 - (Int32.ofInt (1))) * (Int32.ofInt (400))) + l1).toInt.toNat)))], [.int l2, .ref 35, .int l2, .ref 37], sg_h s, 0, 0)) rfl ?_
            refine am_Pn.cvI hcl h rfl rfl rfl rfl rfl (fun x1 s1 h => ?_)
            refine am_Pn.zT h (am_beq rfl rfl) rfl rfl (fun h => ?_) (fun h => ?_)
            · refine am_Pn.bl 1 (y := (57, [some (.ref 35), some (.int l1), some (.int l2), some (.int (s.2.2.1 49 ((((l2 - (Int32.ofInt (1))) * (Int32.ofInt (400))) + l1).toInt.toNat)))], [.int (s.2.2.1 49 ((((l2 - (Int32.ofInt (1))) * (Int32.ofInt (400))) + l1).toInt.toNat)), .int l2, .ref 37], sg_h s1, 0, 0)) rfl ?_
              refine am_Pn.is (a := 37) rfl rfl rfl (fun hi => ?_)
              replace h := h (am_in0 hi) (am_in1 hi)
              refine am_Pn.bl 1 (y := (59, [some (.ref 35), some (.int l1), some (.int l2), some (.int (s.2.2.1 49 ((((l2 - (Int32.ofInt (1))) * (Int32.ofInt (400))) + l1).toInt.toNat)))], [.ref 35], sg_h (sg_uA s1 37 (l2.toInt.toNat) (s.2.2.1 49 ((((l2 - (Int32.ofInt (1))) * (Int32.ofInt (400))) + l1).toInt.toNat))), 0, 0)) rfl ?_
              refine am_Pn.gr (k := 13) rfl rfl am_o35 rfl rfl ?_
              refine am_Pn.bl 4 (y := (66, [some (.ref 35), some (.int l1), some (.int l2), some (.int (s.2.2.1 49 ((((l2 - (Int32.ofInt (1))) * (Int32.ofInt (400))) + l1).toInt.toNat)))], [.int l1, .int (l2 - (Int32.ofInt (1))), .ref 48], sg_h (sg_uA s1 37 (l2.toInt.toNat) (s.2.2.1 49 ((((l2 - (Int32.ofInt (1))) * (Int32.ofInt (400))) + l1).toInt.toNat))), 0, 0)) rfl ?_
              refine am_Pn.csI hcl h rfl rfl rfl rfl rfl (fun x2 s2 h => ?_)
              refine am_Pn.bl 2 (y := (71, [some (.ref 35), some (.int l1), some (.int l2), some (.int (s.2.2.1 49 ((((l2 - (Int32.ofInt (1))) * (Int32.ofInt (400))) + l1).toInt.toNat)))], [.int (x2 + (s.2.2.1 49 ((((l2 - (Int32.ofInt (1))) * (Int32.ofInt (400))) + l1).toInt.toNat))), .ref 48], sg_h s2, 0, 0)) rfl ?_
              refine am_Pn.sa (a := 48) rfl rfl rfl (fun hi => ?_)
              replace h := h (am_in0 hi) (am_in1 hi)
              refine am_Pn.bl 3 (y := (4, [some (.ref 35), some (.int (s2.2.2.1 48 ((x2 + (s.2.2.1 49 ((((l2 - (Int32.ofInt (1))) * (Int32.ofInt (400))) + l1).toInt.toNat))).toInt.toNat))), some (.int (l2 + Int32.ofInt (1))), some (.int (s.2.2.1 49 ((((l2 - (Int32.ofInt (1))) * (Int32.ofInt (400))) + l1).toInt.toNat)))], [], sg_h s2, 0, 0)) rfl ?_
              exact (ih) (some (.int (s.2.2.1 49 ((((l2 - (Int32.ofInt (1))) * (Int32.ofInt (400))) + l1).toInt.toNat)))) (s2.2.2.1 48 ((x2 + (s.2.2.1 49 ((((l2 - (Int32.ofInt (1))) * (Int32.ofInt (400))) + l1).toInt.toNat))).toInt.toNat)) (l2 + Int32.ofInt (1)) s2 h
            · refine am_Pn.bl 2 (y := (57, [some (.ref 35), some (.int l1), some (.int l2), some (.int (s.2.2.1 49 ((((l2 - (Int32.ofInt (1))) * (Int32.ofInt (400))) + l1).toInt.toNat)))], [.int (Int32.ofInt (-1)), .int l2, .ref 37], sg_h s1, 0, 0)) rfl ?_
              refine am_Pn.is (a := 37) rfl rfl rfl (fun hi => ?_)
              replace h := h (am_in0 hi) (am_in1 hi)
              refine am_Pn.bl 1 (y := (59, [some (.ref 35), some (.int l1), some (.int l2), some (.int (s.2.2.1 49 ((((l2 - (Int32.ofInt (1))) * (Int32.ofInt (400))) + l1).toInt.toNat)))], [.ref 35], sg_h (sg_uA s1 37 (l2.toInt.toNat) (Int32.ofInt (-1))), 0, 0)) rfl ?_
              refine am_Pn.gr (k := 13) rfl rfl am_o35 rfl rfl ?_
              refine am_Pn.bl 4 (y := (66, [some (.ref 35), some (.int l1), some (.int l2), some (.int (s.2.2.1 49 ((((l2 - (Int32.ofInt (1))) * (Int32.ofInt (400))) + l1).toInt.toNat)))], [.int l1, .int (l2 - (Int32.ofInt (1))), .ref 48], sg_h (sg_uA s1 37 (l2.toInt.toNat) (Int32.ofInt (-1))), 0, 0)) rfl ?_
              refine am_Pn.csI hcl h rfl rfl rfl rfl rfl (fun x3 s3 h => ?_)
              refine am_Pn.bl 2 (y := (71, [some (.ref 35), some (.int l1), some (.int l2), some (.int (s.2.2.1 49 ((((l2 - (Int32.ofInt (1))) * (Int32.ofInt (400))) + l1).toInt.toNat)))], [.int (x3 + (s.2.2.1 49 ((((l2 - (Int32.ofInt (1))) * (Int32.ofInt (400))) + l1).toInt.toNat))), .ref 48], sg_h s3, 0, 0)) rfl ?_
              refine am_Pn.sa (a := 48) rfl rfl rfl (fun hi => ?_)
              replace h := h (am_in0 hi) (am_in1 hi)
              refine am_Pn.bl 3 (y := (4, [some (.ref 35), some (.int (s3.2.2.1 48 ((x3 + (s.2.2.1 49 ((((l2 - (Int32.ofInt (1))) * (Int32.ofInt (400))) + l1).toInt.toNat))).toInt.toNat))), some (.int (l2 + Int32.ofInt (1))), some (.int (s.2.2.1 49 ((((l2 - (Int32.ofInt (1))) * (Int32.ofInt (400))) + l1).toInt.toNat)))], [], sg_h s3, 0, 0)) rfl ?_
              exact (ih) (some (.int (s.2.2.1 49 ((((l2 - (Int32.ofInt (1))) * (Int32.ofInt (400))) + l1).toInt.toNat)))) (s3.2.2.1 48 ((x3 + (s.2.2.1 49 ((((l2 - (Int32.ofInt (1))) * (Int32.ofInt (400))) + l1).toInt.toNat))).toInt.toNat)) (l2 + Int32.ofInt (1)) s3 h
          · exact am_Pn.rV h rfl
  unfold wp_XEnding_walk at h
  refine am_Pn.bl 4 (y := (4, [some (.ref 35), some (.int (Int32.ofInt (0))), some (.int (Int32.ofInt (1))), none], [], sg_h s, 0, 0)) rfl ?_
  exact ((key n)) none (Int32.ofInt (0)) (Int32.ofInt (1)) s h
def wp_XEnding_gather_55 (I55 : Int32 →  sg_S → Prop) (Ψ : sg_S → Prop) (x1 : Int32) (l2 : Int32) (s : sg_S) : Prop := ((l2.toInt < (s.1 35 3).toInt → (0 ≤ l2.toInt → l2.toInt < (16) → (am_SpV 7 [.ref 50, .int (s.2.2.1 36 (l2.toInt.toNat))] s (fun s6 => (I55 (l2 + Int32.ofInt (1)) s6))))) ∧ (¬ l2.toInt < (s.1 35 3).toInt → (Ψ (sg_uI s 35 8 (Int32.ofInt (1))))))
def wp_XEnding_gather (I55 : Int32 →  sg_S → Prop) (Ψ : sg_S → Prop) (x1 : Int32) (s : sg_S) : Prop := (am_SpI 16 [.ref 35, .int x1] s (fun x2 s2 => ((x2.toInt = (0) → (((s2.1 35 8).toInt = (0) → (am_SpV 6 [.ref 50] s2 (fun s3 => (I55 (Int32.ofInt (0)) s3)))) ∧ (¬ (s2.1 35 8).toInt = (0) → (Ψ s2)))) ∧ (¬ x2.toInt = (0) → (am_SpV 6 [.ref 50] s2 (fun s4 => (0 ≤ x1.toInt → x1.toInt < (49) → (am_SpV 7 [.ref 50, .int (s4.2.2.1 30 (x1.toInt.toNat))] s4 (fun s5 => (Ψ (sg_uI s5 35 8 (Int32.ofInt (0)))))))))))))
set_option maxRecDepth 100000 in
theorem wp_XEnding_gather_ok {I55 : Int32 →  sg_S → Prop} {Ψ : sg_S → Prop} {x1 : Int32} {s : sg_S} (k55 : ∀ (l2 : Int32) (s : sg_S), I55 l2 s → wp_XEnding_gather_55 I55 Ψ x1 l2 s) (h : wp_XEnding_gather I55 Ψ x1 s) : am_SpV 15 [.ref 35, .int x1] s Ψ := by
  refine am_SpV.mk (r := am_r15) rfl rfl (fun call d al n hcl => ?_)
  have key : ∀ n, (∀ (l2 : Int32) (s : sg_S), I55 l2 s → am_Pn call d (0, fun _ => 0) al am_r15 (am_PhV am_r15 Ψ) n (55, [some (.ref 35), some (.int x1), some (.int l2)], [], sg_h s, 0, 0)) := by
    intro n
    induction n with
    | zero => exact fun _ _ _ => am_Pn.zero
    | succ n ih =>
      intro l2 s h
      replace h := k55 l2 s h
      unfold wp_XEnding_gather_55 at h
      refine am_Pn.bl1 1 (y := (57, [some (.ref 35), some (.int x1), some (.int l2)], [.ref 35, .int l2], sg_h s, 0, 0)) rfl ?_
      refine am_Pn.gi (k := 3) rfl rfl am_o35 rfl rfl ?_
      refine am_Pn.bF h (am_bge rfl rfl) rfl rfl (fun h => ?_) (fun h => ?_)
      · refine am_Pn.bl 2 (y := (84, [some (.ref 35), some (.int x1), some (.int l2)], [.int (Int32.ofInt (1)), .ref 35], sg_h s, 0, 0)) rfl ?_
        refine am_Pn.pi (k := 8) rfl rfl am_o35 rfl rfl ?_
        exact am_Pn.rV h rfl
      · refine am_Pn.bl 1 (y := (64, [some (.ref 35), some (.int x1), some (.int l2)], [.ref 35], sg_h s, 0, 0)) rfl ?_
        refine am_Pn.gr (k := 7) rfl rfl am_o35 rfl rfl ?_
        refine am_Pn.bl 1 (y := (68, [some (.ref 35), some (.int x1), some (.int l2)], [.ref 35, .ref 50], sg_h s, 0, 0)) rfl ?_
        refine am_Pn.gr (k := 2) rfl rfl am_o35 rfl rfl ?_
        refine am_Pn.bl 1 (y := (72, [some (.ref 35), some (.int x1), some (.int l2)], [.int l2, .ref 36, .ref 50], sg_h s, 0, 0)) rfl ?_
        refine am_Pn.ia (a := 36) rfl rfl rfl rfl (fun hi => ?_)
        replace h := h (am_in0 hi) (am_in1 hi)
        refine am_Pn.cvV hcl h rfl rfl rfl rfl rfl (fun s6 h => ?_)
        refine am_Pn.bl 2 (y := (55, [some (.ref 35), some (.int x1), some (.int (l2 + Int32.ofInt (1)))], [], sg_h s6, 0, 0)) rfl ?_
        exact (ih) (l2 + Int32.ofInt (1)) s6 h
  unfold wp_XEnding_gather at h
  refine am_Pn.bl 2 (y := (2, [some (.ref 35), some (.int x1), none], [.int x1, .ref 35], sg_h s, 0, 0)) rfl ?_
  refine am_Pn.cvI hcl h rfl rfl rfl rfl rfl (fun x2 s2 h => ?_)
  refine am_Pn.zT h (am_beq rfl rfl) rfl rfl (fun h => ?_) (fun h => ?_)
  · refine am_Pn.bl 1 (y := (40, [some (.ref 35), some (.int x1), none], [.ref 35], sg_h s2, 0, 0)) rfl ?_
    refine am_Pn.gi (k := 8) rfl rfl am_o35 rfl rfl ?_
    refine am_Pn.zF h (am_bne rfl rfl) rfl rfl (fun h => ?_) (fun h => ?_)
    · exact am_Pn.rV h rfl
    · refine am_Pn.bl 1 (y := (47, [some (.ref 35), some (.int x1), none], [.ref 35], sg_h s2, 0, 0)) rfl ?_
      refine am_Pn.gr (k := 7) rfl rfl am_o35 rfl rfl ?_
      refine am_Pn.cvV hcl h rfl rfl rfl rfl rfl (fun s3 h => ?_)
      refine am_Pn.bl 2 (y := (55, [some (.ref 35), some (.int x1), some (.int (Int32.ofInt (0)))], [], sg_h s3, 0, 0)) rfl ?_
      exact ((key n)) (Int32.ofInt (0)) s3 h
  · refine am_Pn.bl 1 (y := (9, [some (.ref 35), some (.int x1), none], [.ref 35], sg_h s2, 0, 0)) rfl ?_
    refine am_Pn.gr (k := 7) rfl rfl am_o35 rfl rfl ?_
    refine am_Pn.cvV hcl h rfl rfl rfl rfl rfl (fun s4 h => ?_)
    refine am_Pn.bl 1 (y := (16, [some (.ref 35), some (.int x1), none], [.ref 35], sg_h s4, 0, 0)) rfl ?_
    refine am_Pn.gr (k := 7) rfl rfl am_o35 rfl rfl ?_
    refine am_Pn.bl 1 (y := (20, [some (.ref 35), some (.int x1), none], [.ref 35, .ref 50], sg_h s4, 0, 0)) rfl ?_
    refine am_Pn.gr (k := 1) rfl rfl am_o35 rfl rfl ?_
    refine am_Pn.gr (k := 5) rfl rfl am_o28 rfl rfl ?_
    refine am_Pn.bl 1 (y := (27, [some (.ref 35), some (.int x1), none], [.int x1, .ref 30, .ref 50], sg_h s4, 0, 0)) rfl ?_
    refine am_Pn.ia (a := 30) rfl rfl rfl rfl (fun hi => ?_)
    replace h := h (am_in0 hi) (am_in1 hi)
    refine am_Pn.cvV hcl h rfl rfl rfl rfl rfl (fun s5 h => ?_)
    refine am_Pn.bl 2 (y := (33, [some (.ref 35), some (.int x1), none], [.int (Int32.ofInt (0)), .ref 35], sg_h s5, 0, 0)) rfl ?_
    refine am_Pn.pi (k := 8) rfl rfl am_o35 rfl rfl ?_
    refine am_Pn.bl 1 (y := (87, [some (.ref 35), some (.int x1), none], [], sg_h (sg_uI s5 35 8 (Int32.ofInt (0))), 0, 0)) rfl ?_
    exact am_Pn.rV h rfl
def wp_XEnding_fillFrom_12 (I12 : Int32 → Int32 →  sg_S → Prop) (Ψ : Int32 → sg_S → Prop) (x1 : Int32) (x2 : Int32) (x3 : Int32) (l4 : Int32) (l5 : Int32) (s : sg_S) : Prop := ((l5.toInt < (s.1 50 4).toInt → ((((x3 >>> (l5 &&& 31)) &&& (Int32.ofInt (1))).toInt = (0) → (((-1) = (-4) → (Ψ (Int32.ofInt (0)) s)) ∧ (¬ (-1) = (-4) → (0 ≤ (l4 + l5).toInt → (l4 + l5).toInt < (307200) → (I12 l4 (l5 + Int32.ofInt (1)) (sg_uA s 48 ((l4 + l5).toInt.toNat) (vp_nar .short ((Int32.ofInt (-1)).toInt16.toInt32)))))))) ∧ (¬ ((x3 >>> (l5 &&& 31)) &&& (Int32.ofInt (1))).toInt = (0) → (0 ≤ l5.toInt → l5.toInt < (16) → (am_SpI 31 [.ref 54, .int (s.2.2.1 52 (l5.toInt.toNat))] s (fun x5 s5 => ((x5.toInt = (0) → (((-1) = (-4) → (Ψ (Int32.ofInt (0)) s5)) ∧ (¬ (-1) = (-4) → (0 ≤ (l4 + l5).toInt → (l4 + l5).toInt < (307200) → (I12 l4 (l5 + Int32.ofInt (1)) (sg_uA s5 48 ((l4 + l5).toInt.toNat) (vp_nar .short ((Int32.ofInt (-1)).toInt16.toInt32)))))))) ∧ (¬ x5.toInt = (0) → (0 ≤ l5.toInt → l5.toInt < (16) → (am_SpI 101 [.ref (s5.2.2.2.2 35 10), .int x1] s5 (fun x6 s6 => (am_SpI 32 [.ref 54, .ref (s5.2.2.2.2 35 11), .int (s5.2.2.1 52 (l5.toInt.toNat)), .int (s5.2.2.1 51 (l5.toInt.toNat)), .int x6] s6 (fun x7 s7 => ((x7.toInt = (-4) → (Ψ (Int32.ofInt (0)) s7)) ∧ (¬ x7.toInt = (-4) → (0 ≤ (l4 + l5).toInt → (l4 + l5).toInt < (307200) → (I12 l4 (l5 + Int32.ofInt (1)) (sg_uA s7 48 ((l4 + l5).toInt.toNat) (vp_nar .short (x7.toInt16.toInt32)))))))))))))))))))) ∧ (¬ l5.toInt < (s.1 50 4).toInt → (Ψ (Int32.ofInt (1)) s)))
def wp_XEnding_fillFrom (I12 : Int32 → Int32 →  sg_S → Prop) (Ψ : Int32 → sg_S → Prop) (x1 : Int32) (x2 : Int32) (x3 : Int32) (s : sg_S) : Prop := (am_SpI 19 [.int (x2 - (Int32.ofInt (1))), .int x1] s (fun x4 s4 => (I12 x4 (Int32.ofInt (0)) s4)))
set_option maxRecDepth 100000 in
theorem wp_XEnding_fillFrom_ok {I12 : Int32 → Int32 →  sg_S → Prop} {Ψ : Int32 → sg_S → Prop} {x1 : Int32} {x2 : Int32} {x3 : Int32} {s : sg_S} (k12 : ∀ (l4 : Int32) (l5 : Int32) (s : sg_S), I12 l4 l5 s → wp_XEnding_fillFrom_12 I12 Ψ x1 x2 x3 l4 l5 s) (h : wp_XEnding_fillFrom I12 Ψ x1 x2 x3 s) : am_SpI 18 [.ref 35, .int x1, .int x2, .int x3] s Ψ := by
  refine am_SpI.mk (r := am_r18) rfl rfl (fun call d al n hcl => ?_)
  have key : ∀ n, (∀ (o6 : Option Value) (l4 : Int32) (l5 : Int32) (s : sg_S), I12 l4 l5 s → am_Pn call d (0, fun _ => 0) al am_r18 (am_PhI am_r18 Ψ) n (12, [some (.ref 35), some (.int x1), some (.int x2), some (.int x3), some (.int l4), some (.int l5), o6], [], sg_h s, 0, 0)) := by
    intro n
    induction n with
    | zero => exact fun _ _ _ _ _ => am_Pn.zero
    | succ n ih =>
      intro o6 l4 l5 s h
      replace h := k12 l4 l5 s h
      unfold wp_XEnding_fillFrom_12 at h
      refine am_Pn.bl1 1 (y := (15, [some (.ref 35), some (.int x1), some (.int x2), some (.int x3), some (.int l4), some (.int l5), o6], [.ref 35, .int l5], sg_h s, 0, 0)) rfl ?_
      refine am_Pn.gr (k := 7) rfl rfl am_o35 rfl rfl ?_
      refine am_Pn.gi (k := 4) rfl rfl am_o50 rfl rfl ?_
      refine am_Pn.bF h (am_bge rfl rfl) rfl rfl (fun h => ?_) (fun h => ?_)
      · refine am_Pn.bl 1 (y := (126, [some (.ref 35), some (.int x1), some (.int x2), some (.int x3), some (.int l4), some (.int l5), o6], [.int (Int32.ofInt (1))], sg_h s, 0, 0)) rfl ?_
        exact am_Pn.rI h rfl
      · refine am_Pn.bl 7 (y := (33, [some (.ref 35), some (.int x1), some (.int x2), some (.int x3), some (.int l4), some (.int l5), some (.int (Int32.ofInt (-1)))], [.int ((x3 >>> (l5 &&& 31)) &&& (Int32.ofInt (1)))], sg_h s, 0, 0)) rfl ?_
        refine am_Pn.zT h (am_beq rfl rfl) rfl rfl (fun h => ?_) (fun h => ?_)
        · refine am_Pn.bl 2 (y := (101, [some (.ref 35), some (.int x1), some (.int x2), some (.int x3), some (.int l4), some (.int l5), some (.int (Int32.ofInt (-1)))], [.int (Int32.ofInt (-4)), .int (Int32.ofInt (-1))], sg_h s, 0, 0)) rfl ?_
          refine am_Pn.bF h (am_bne rfl rfl) rfl rfl (fun h => ?_) (fun h => ?_)
          · refine am_Pn.bl 1 (y := (107, [some (.ref 35), some (.int x1), some (.int x2), some (.int x3), some (.int l4), some (.int l5), some (.int (Int32.ofInt (-1)))], [.ref 35], sg_h s, 0, 0)) rfl ?_
            refine am_Pn.gr (k := 13) rfl rfl am_o35 rfl rfl ?_
            refine am_Pn.bl 5 (y := (118, [some (.ref 35), some (.int x1), some (.int x2), some (.int x3), some (.int l4), some (.int l5), some (.int (Int32.ofInt (-1)))], [.int ((Int32.ofInt (-1)).toInt16.toInt32), .int (l4 + l5), .ref 48], sg_h s, 0, 0)) rfl ?_
            refine am_Pn.ss (a := 48) rfl rfl rfl (fun hi => ?_)
            replace h := h (am_in0 hi) (am_in1 hi)
            refine am_Pn.bl 2 (y := (12, [some (.ref 35), some (.int x1), some (.int x2), some (.int x3), some (.int l4), some (.int (l5 + Int32.ofInt (1))), some (.int (Int32.ofInt (-1)))], [], sg_h (sg_uA s 48 ((l4 + l5).toInt.toNat) (vp_nar .short ((Int32.ofInt (-1)).toInt16.toInt32))), 0, 0)) rfl ?_
            exact (ih) (some (.int (Int32.ofInt (-1)))) l4 (l5 + Int32.ofInt (1)) (sg_uA s 48 ((l4 + l5).toInt.toNat) (vp_nar .short ((Int32.ofInt (-1)).toInt16.toInt32))) h
          · refine am_Pn.bl 1 (y := (105, [some (.ref 35), some (.int x1), some (.int x2), some (.int x3), some (.int l4), some (.int l5), some (.int (Int32.ofInt (-1)))], [.int (Int32.ofInt (0))], sg_h s, 0, 0)) rfl ?_
            exact am_Pn.rI h rfl
        · refine am_Pn.bl 1 (y := (37, [some (.ref 35), some (.int x1), some (.int x2), some (.int x3), some (.int l4), some (.int l5), some (.int (Int32.ofInt (-1)))], [.ref 35], sg_h s, 0, 0)) rfl ?_
          refine am_Pn.gr (k := 9) rfl rfl am_o35 rfl rfl ?_
          refine am_Pn.bl 1 (y := (41, [some (.ref 35), some (.int x1), some (.int x2), some (.int x3), some (.int l4), some (.int l5), some (.int (Int32.ofInt (-1)))], [.ref 35, .ref 54], sg_h s, 0, 0)) rfl ?_
          refine am_Pn.gr (k := 7) rfl rfl am_o35 rfl rfl ?_
          refine am_Pn.gr (k := 3) rfl rfl am_o50 rfl rfl ?_
          refine am_Pn.bl 1 (y := (49, [some (.ref 35), some (.int x1), some (.int x2), some (.int x3), some (.int l4), some (.int l5), some (.int (Int32.ofInt (-1)))], [.int l5, .ref 52, .ref 54], sg_h s, 0, 0)) rfl ?_
          refine am_Pn.ia (a := 52) rfl rfl rfl rfl (fun hi => ?_)
          replace h := h (am_in0 hi) (am_in1 hi)
          refine am_Pn.cvI hcl h rfl rfl rfl rfl rfl (fun x5 s5 h => ?_)
          refine am_Pn.zT h (am_beq rfl rfl) rfl rfl (fun h => ?_) (fun h => ?_)
          · refine am_Pn.bl 2 (y := (101, [some (.ref 35), some (.int x1), some (.int x2), some (.int x3), some (.int l4), some (.int l5), some (.int (Int32.ofInt (-1)))], [.int (Int32.ofInt (-4)), .int (Int32.ofInt (-1))], sg_h s5, 0, 0)) rfl ?_
            refine am_Pn.bF h (am_bne rfl rfl) rfl rfl (fun h => ?_) (fun h => ?_)
            · refine am_Pn.bl 1 (y := (107, [some (.ref 35), some (.int x1), some (.int x2), some (.int x3), some (.int l4), some (.int l5), some (.int (Int32.ofInt (-1)))], [.ref 35], sg_h s5, 0, 0)) rfl ?_
              refine am_Pn.gr (k := 13) rfl rfl am_o35 rfl rfl ?_
              refine am_Pn.bl 5 (y := (118, [some (.ref 35), some (.int x1), some (.int x2), some (.int x3), some (.int l4), some (.int l5), some (.int (Int32.ofInt (-1)))], [.int ((Int32.ofInt (-1)).toInt16.toInt32), .int (l4 + l5), .ref 48], sg_h s5, 0, 0)) rfl ?_
              refine am_Pn.ss (a := 48) rfl rfl rfl (fun hi => ?_)
              replace h := h (am_in0 hi) (am_in1 hi)
              refine am_Pn.bl 2 (y := (12, [some (.ref 35), some (.int x1), some (.int x2), some (.int x3), some (.int l4), some (.int (l5 + Int32.ofInt (1))), some (.int (Int32.ofInt (-1)))], [], sg_h (sg_uA s5 48 ((l4 + l5).toInt.toNat) (vp_nar .short ((Int32.ofInt (-1)).toInt16.toInt32))), 0, 0)) rfl ?_
              exact (ih) (some (.int (Int32.ofInt (-1)))) l4 (l5 + Int32.ofInt (1)) (sg_uA s5 48 ((l4 + l5).toInt.toNat) (vp_nar .short ((Int32.ofInt (-1)).toInt16.toInt32))) h
            · refine am_Pn.bl 1 (y := (105, [some (.ref 35), some (.int x1), some (.int x2), some (.int x3), some (.int l4), some (.int l5), some (.int (Int32.ofInt (-1)))], [.int (Int32.ofInt (0))], sg_h s5, 0, 0)) rfl ?_
              exact am_Pn.rI h rfl
          · refine am_Pn.bl 1 (y := (57, [some (.ref 35), some (.int x1), some (.int x2), some (.int x3), some (.int l4), some (.int l5), some (.int (Int32.ofInt (-1)))], [.ref 35], sg_h s5, 0, 0)) rfl ?_
            refine am_Pn.gr (k := 9) rfl rfl am_o35 rfl rfl ?_
            refine am_Pn.bl 1 (y := (61, [some (.ref 35), some (.int x1), some (.int x2), some (.int x3), some (.int l4), some (.int l5), some (.int (Int32.ofInt (-1)))], [.ref 35, .ref 54], sg_h s5, 0, 0)) rfl ?_
            refine am_Pn.gR (k := 11) rfl rfl am_o35 rfl rfl ?_
            refine am_Pn.bl 1 (y := (65, [some (.ref 35), some (.int x1), some (.int x2), some (.int x3), some (.int l4), some (.int l5), some (.int (Int32.ofInt (-1)))], [.ref 35, .ref (s5.2.2.2.2 35 11), .ref 54], sg_h s5, 0, 0)) rfl ?_
            refine am_Pn.gr (k := 7) rfl rfl am_o35 rfl rfl ?_
            refine am_Pn.gr (k := 3) rfl rfl am_o50 rfl rfl ?_
            refine am_Pn.bl 1 (y := (73, [some (.ref 35), some (.int x1), some (.int x2), some (.int x3), some (.int l4), some (.int l5), some (.int (Int32.ofInt (-1)))], [.int l5, .ref 52, .ref (s5.2.2.2.2 35 11), .ref 54], sg_h s5, 0, 0)) rfl ?_
            refine am_Pn.ia (a := 52) rfl rfl rfl rfl (fun hi => ?_)
            replace h := h (am_in0 hi) (am_in1 hi)
            refine am_Pn.bl 1 (y := (75, [some (.ref 35), some (.int x1), some (.int x2), some (.int x3), some (.int l4), some (.int l5), some (.int (Int32.ofInt (-1)))], [.ref 35, .int (s5.2.2.1 52 (l5.toInt.toNat)), .ref (s5.2.2.2.2 35 11), .ref 54], sg_h s5, 0, 0)) rfl ?_
            refine am_Pn.gr (k := 7) rfl rfl am_o35 rfl rfl ?_
            refine am_Pn.gr (k := 2) rfl rfl am_o50 rfl rfl ?_
            refine am_Pn.bl 1 (y := (83, [some (.ref 35), some (.int x1), some (.int x2), some (.int x3), some (.int l4), some (.int l5), some (.int (Int32.ofInt (-1)))], [.int l5, .ref 51, .int (s5.2.2.1 52 (l5.toInt.toNat)), .ref (s5.2.2.2.2 35 11), .ref 54], sg_h s5, 0, 0)) rfl ?_
            refine am_Pn.ia (a := 51) rfl rfl rfl rfl (fun hi => ?_)
            refine am_Pn.bl 1 (y := (85, [some (.ref 35), some (.int x1), some (.int x2), some (.int x3), some (.int l4), some (.int l5), some (.int (Int32.ofInt (-1)))], [.ref 35, .int (s5.2.2.1 51 (l5.toInt.toNat)), .int (s5.2.2.1 52 (l5.toInt.toNat)), .ref (s5.2.2.2.2 35 11), .ref 54], sg_h s5, 0, 0)) rfl ?_
            refine am_Pn.gR (k := 10) rfl rfl am_o35 rfl rfl ?_
            refine am_Pn.bl 1 (y := (89, [some (.ref 35), some (.int x1), some (.int x2), some (.int x3), some (.int l4), some (.int l5), some (.int (Int32.ofInt (-1)))], [.int x1, .ref (s5.2.2.2.2 35 10), .int (s5.2.2.1 51 (l5.toInt.toNat)), .int (s5.2.2.1 52 (l5.toInt.toNat)), .ref (s5.2.2.2.2 35 11), .ref 54], sg_h s5, 0, 0)) rfl ?_
            refine am_Pn.cvI hcl h rfl rfl rfl rfl rfl (fun x6 s6 h => ?_)
            refine am_Pn.cvI hcl h rfl rfl rfl rfl rfl (fun x7 s7 h => ?_)
            refine am_Pn.bl 3 (y := (101, [some (.ref 35), some (.int x1), some (.int x2), some (.int x3), some (.int l4), some (.int l5), some (.int x7)], [.int (Int32.ofInt (-4)), .int x7], sg_h s7, 0, 0)) rfl ?_
            refine am_Pn.bF h (am_bne rfl rfl) rfl rfl (fun h => ?_) (fun h => ?_)
            · refine am_Pn.bl 1 (y := (107, [some (.ref 35), some (.int x1), some (.int x2), some (.int x3), some (.int l4), some (.int l5), some (.int x7)], [.ref 35], sg_h s7, 0, 0)) rfl ?_
              refine am_Pn.gr (k := 13) rfl rfl am_o35 rfl rfl ?_
              refine am_Pn.bl 5 (y := (118, [some (.ref 35), some (.int x1), some (.int x2), some (.int x3), some (.int l4), some (.int l5), some (.int x7)], [.int (x7.toInt16.toInt32), .int (l4 + l5), .ref 48], sg_h s7, 0, 0)) rfl ?_
              refine am_Pn.ss (a := 48) rfl rfl rfl (fun hi => ?_)
              replace h := h (am_in0 hi) (am_in1 hi)
              refine am_Pn.bl 2 (y := (12, [some (.ref 35), some (.int x1), some (.int x2), some (.int x3), some (.int l4), some (.int (l5 + Int32.ofInt (1))), some (.int x7)], [], sg_h (sg_uA s7 48 ((l4 + l5).toInt.toNat) (vp_nar .short (x7.toInt16.toInt32))), 0, 0)) rfl ?_
              exact (ih) (some (.int x7)) l4 (l5 + Int32.ofInt (1)) (sg_uA s7 48 ((l4 + l5).toInt.toNat) (vp_nar .short (x7.toInt16.toInt32))) h
            · refine am_Pn.bl 1 (y := (105, [some (.ref 35), some (.int x1), some (.int x2), some (.int x3), some (.int l4), some (.int l5), some (.int x7)], [.int (Int32.ofInt (0))], sg_h s7, 0, 0)) rfl ?_
              exact am_Pn.rI h rfl
  unfold wp_XEnding_fillFrom at h
  refine am_Pn.bl 4 (y := (4, [some (.ref 35), some (.int x1), some (.int x2), some (.int x3), none, none, none], [.int x1, .int (x2 - (Int32.ofInt (1)))], sg_h s, 0, 0)) rfl ?_
  refine am_Pn.csI hcl h rfl rfl rfl rfl rfl (fun x4 s4 h => ?_)
  refine am_Pn.bl 3 (y := (12, [some (.ref 35), some (.int x1), some (.int x2), some (.int x3), some (.int x4), some (.int (Int32.ofInt (0))), none], [], sg_h s4, 0, 0)) rfl ?_
  exact ((key n)) none x4 (Int32.ofInt (0)) s4 h
def wp_XEnding_fill_64 (I64 : Int32 → Int32 → Int32 →  sg_S → Prop) (Ψ : Int32 → sg_S → Prop) (x1 : Int32) (l2 : Int32) (l3 : Int32) (l4 : Int32) (s : sg_S) : Prop := (((s.2.2.2.2 35 10) = 39 ∨ (s.2.2.2.2 35 10) = 43) ∧ ((l4.toInt < (s.1 (s.2.2.2.2 35 10) 2).toInt → ((l2.toInt = (0) → ((l3.toInt = (0) → (am_SpV 29 [.ref 54, .ref (s.2.2.2.2 35 10), .int l4] s (fun s25 => (am_SpI 18 [.ref 35, .int l4, .int x1, .int (((Int32.ofInt (1)) <<< ((s.1 50 4) &&& 31)) - (Int32.ofInt (1)))] s25 (fun x26 s26 => ((x26.toInt = (0) → (Ψ (Int32.ofInt (0)) s26)) ∧ (¬ x26.toInt = (0) → (I64 l2 l3 (l4 + Int32.ofInt (1)) s26)))))))) ∧ (¬ l3.toInt = (0) → (am_SpI 102 [.ref (s.2.2.2.2 35 10), .int l4] s (fun x27 s27 => (am_SpI 8 [.ref 50, .int x27] s27 (fun x28 s28 => (am_SpV 29 [.ref 54, .ref (s28.2.2.2.2 35 10), .int l4] s28 (fun s29 => (am_SpI 18 [.ref 35, .int l4, .int x1, .int ((((Int32.ofInt (1)) <<< ((s.1 50 4) &&& 31)) - (Int32.ofInt (1))) &&& (x28 ^^^ (Int32.ofInt (-1))))] s29 (fun x30 s30 => ((x30.toInt = (0) → (Ψ (Int32.ofInt (0)) s30)) ∧ (¬ x30.toInt = (0) → (I64 l2 l3 (l4 + Int32.ofInt (1)) s30)))))))))))))) ∧ (¬ l2.toInt = (0) → (am_SpI 101 [.ref (s.2.2.2.2 35 10), .int l4] s (fun x31 s31 => (am_SpI 8 [.ref 50, .int x31] s31 (fun x32 s32 => ((l3.toInt = (0) → (am_SpV 29 [.ref 54, .ref (s32.2.2.2.2 35 10), .int l4] s32 (fun s33 => (am_SpI 18 [.ref 35, .int l4, .int x1, .int ((((Int32.ofInt (1)) <<< ((s.1 50 4) &&& 31)) - (Int32.ofInt (1))) &&& x32)] s33 (fun x34 s34 => ((x34.toInt = (0) → (Ψ (Int32.ofInt (0)) s34)) ∧ (¬ x34.toInt = (0) → (I64 l2 l3 (l4 + Int32.ofInt (1)) s34)))))))) ∧ (¬ l3.toInt = (0) → (am_SpI 102 [.ref (s32.2.2.2.2 35 10), .int l4] s32 (fun x35 s35 => (am_SpI 8 [.ref 50, .int x35] s35 (fun x36 s36 => (am_SpV 29 [.ref 54, .ref (s36.2.2.2.2 35 10), .int l4] s36 (fun s37 => (am_SpI 18 [.ref 35, .int l4, .int x1, .int (((((Int32.ofInt (1)) <<< ((s.1 50 4) &&& 31)) - (Int32.ofInt (1))) &&& x32) &&& (x36 ^^^ (Int32.ofInt (-1))))] s37 (fun x38 s38 => ((x38.toInt = (0) → (Ψ (Int32.ofInt (0)) s38)) ∧ (¬ x38.toInt = (0) → (I64 l2 l3 (l4 + Int32.ofInt (1)) s38)))))))))))))))))))) ∧ (¬ l4.toInt < (s.1 (s.2.2.2.2 35 10) 2).toInt → (Ψ (Int32.ofInt (1)) s))))
def wp_XEnding_fill (I64 : Int32 → Int32 → Int32 →  sg_S → Prop) (Ψ : Int32 → sg_S → Prop) (x1 : Int32) (s : sg_S) : Prop := (((1) < x1.toInt → (am_SpI 79 [.ref 1, .int (Int32.ofInt (7))] s (fun x9 s9 => ((x9.toInt = (0) → (((2) < x1.toInt → (am_SpI 79 [.ref 1, .int (Int32.ofInt (8))] s9 (fun x12 s12 => ((x12.toInt = (0) → (am_SpV 96 [.ref (s12.2.2.2.2 35 11)] s12 (fun s13 => (am_SpV 28 [.ref 54, .int x1] s13 (fun s14 => (I64 (Int32.ofInt (0)) (Int32.ofInt (0)) (Int32.ofInt (0)) s14)))))) ∧ (¬ x12.toInt = (0) → (am_SpV 96 [.ref (s12.2.2.2.2 35 11)] s12 (fun s15 => (am_SpV 28 [.ref 54, .int x1] s15 (fun s16 => (I64 (Int32.ofInt (0)) (Int32.ofInt (1)) (Int32.ofInt (0)) s16)))))))))) ∧ (¬ (2) < x1.toInt → (am_SpV 96 [.ref (s9.2.2.2.2 35 11)] s9 (fun s10 => (am_SpV 28 [.ref 54, .int x1] s10 (fun s11 => (I64 (Int32.ofInt (0)) (Int32.ofInt (0)) (Int32.ofInt (0)) s11)))))))) ∧ (¬ x9.toInt = (0) → (((2) < x1.toInt → (am_SpI 79 [.ref 1, .int (Int32.ofInt (8))] s9 (fun x19 s19 => ((x19.toInt = (0) → (am_SpV 96 [.ref (s19.2.2.2.2 35 11)] s19 (fun s20 => (am_SpV 28 [.ref 54, .int x1] s20 (fun s21 => (I64 (Int32.ofInt (1)) (Int32.ofInt (0)) (Int32.ofInt (0)) s21)))))) ∧ (¬ x19.toInt = (0) → (am_SpV 96 [.ref (s19.2.2.2.2 35 11)] s19 (fun s22 => (am_SpV 28 [.ref 54, .int x1] s22 (fun s23 => (I64 (Int32.ofInt (1)) (Int32.ofInt (1)) (Int32.ofInt (0)) s23)))))))))) ∧ (¬ (2) < x1.toInt → (am_SpV 96 [.ref (s9.2.2.2.2 35 11)] s9 (fun s17 => (am_SpV 28 [.ref 54, .int x1] s17 (fun s18 => (I64 (Int32.ofInt (1)) (Int32.ofInt (0)) (Int32.ofInt (0)) s18)))))))))))) ∧ (¬ (1) < x1.toInt → (((2) < x1.toInt → (am_SpI 79 [.ref 1, .int (Int32.ofInt (8))] s (fun x4 s4 => ((x4.toInt = (0) → (am_SpV 96 [.ref (s4.2.2.2.2 35 11)] s4 (fun s5 => (am_SpV 28 [.ref 54, .int x1] s5 (fun s6 => (I64 (Int32.ofInt (0)) (Int32.ofInt (0)) (Int32.ofInt (0)) s6)))))) ∧ (¬ x4.toInt = (0) → (am_SpV 96 [.ref (s4.2.2.2.2 35 11)] s4 (fun s7 => (am_SpV 28 [.ref 54, .int x1] s7 (fun s8 => (I64 (Int32.ofInt (0)) (Int32.ofInt (1)) (Int32.ofInt (0)) s8)))))))))) ∧ (¬ (2) < x1.toInt → (am_SpV 96 [.ref (s.2.2.2.2 35 11)] s (fun s2 => (am_SpV 28 [.ref 54, .int x1] s2 (fun s3 => (I64 (Int32.ofInt (0)) (Int32.ofInt (0)) (Int32.ofInt (0)) s3)))))))))
set_option maxRecDepth 100000 in
theorem wp_XEnding_fill_ok {I64 : Int32 → Int32 → Int32 →  sg_S → Prop} {Ψ : Int32 → sg_S → Prop} {x1 : Int32} {s : sg_S} (k64 : ∀ (l2 : Int32) (l3 : Int32) (l4 : Int32) (s : sg_S), I64 l2 l3 l4 s → wp_XEnding_fill_64 I64 Ψ x1 l2 l3 l4 s) (h : wp_XEnding_fill I64 Ψ x1 s) : am_SpI 17 [.ref 35, .int x1] s Ψ := by
  refine am_SpI.mk (r := am_r17) rfl rfl (fun call d al n hcl => ?_)
  have key : ∀ n, (∀ (o5 : Option Value) (l2 : Int32) (l3 : Int32) (l4 : Int32) (s : sg_S), I64 l2 l3 l4 s → am_Pn call d (0, fun _ => 0) al am_r17 (am_PhI am_r17 Ψ) n (64, [some (.ref 35), some (.int x1), some (.int l2), some (.int l3), some (.int l4), o5], [], sg_h s, 0, 0)) := by
    intro n
    induction n with
    | zero => exact fun _ _ _ _ _ _ => am_Pn.zero
    | succ n ih =>
      intro o5 l2 l3 l4 s h
      replace h := k64 l2 l3 l4 s h
      unfold wp_XEnding_fill_64 at h
      refine am_Pn.bl1 1 (y := (67, [some (.ref 35), some (.int x1), some (.int l2), some (.int l3), some (.int l4), o5], [.ref 35, .int l4], sg_h s, 0, 0)) rfl ?_
      refine am_Pn.gR (k := 10) rfl rfl am_o35 rfl rfl ?_
      obtain ⟨hF24, h⟩ := h
      refine am_Pn.gif (k := 2) rfl rfl hF24 rfl rfl ?_
      refine am_Pn.bF h (am_bge rfl rfl) rfl rfl (fun h => ?_) (fun h => ?_)
      · refine am_Pn.bl 1 (y := (175, [some (.ref 35), some (.int x1), some (.int l2), some (.int l3), some (.int l4), o5], [.int (Int32.ofInt (1))], sg_h s, 0, 0)) rfl ?_
        exact am_Pn.rI h rfl
      · refine am_Pn.bl 2 (y := (78, [some (.ref 35), some (.int x1), some (.int l2), some (.int l3), some (.int l4), o5], [.ref 35, .int (Int32.ofInt (1))], sg_h s, 0, 0)) rfl ?_
        refine am_Pn.gr (k := 7) rfl rfl am_o35 rfl rfl ?_
        refine am_Pn.gi (k := 4) rfl rfl am_o50 rfl rfl ?_
        refine am_Pn.bl 5 (y := (90, [some (.ref 35), some (.int x1), some (.int l2), some (.int l3), some (.int l4), some (.int (((Int32.ofInt (1)) <<< ((s.1 50 4) &&& 31)) - (Int32.ofInt (1))))], [.int l2], sg_h s, 0, 0)) rfl ?_
        refine am_Pn.zT h (am_beq rfl rfl) rfl rfl (fun h => ?_) (fun h => ?_)
        · refine am_Pn.bl 1 (y := (115, [some (.ref 35), some (.int x1), some (.int l2), some (.int l3), some (.int l4), some (.int (((Int32.ofInt (1)) <<< ((s.1 50 4) &&& 31)) - (Int32.ofInt (1))))], [.int l3], sg_h s, 0, 0)) rfl ?_
          refine am_Pn.zT h (am_beq rfl rfl) rfl rfl (fun h => ?_) (fun h => ?_)
          · refine am_Pn.bl 1 (y := (142, [some (.ref 35), some (.int x1), some (.int l2), some (.int l3), some (.int l4), some (.int (((Int32.ofInt (1)) <<< ((s.1 50 4) &&& 31)) - (Int32.ofInt (1))))], [.ref 35], sg_h s, 0, 0)) rfl ?_
            refine am_Pn.gr (k := 9) rfl rfl am_o35 rfl rfl ?_
            refine am_Pn.bl 1 (y := (146, [some (.ref 35), some (.int x1), some (.int l2), some (.int l3), some (.int l4), some (.int (((Int32.ofInt (1)) <<< ((s.1 50 4) &&& 31)) - (Int32.ofInt (1))))], [.ref 35, .ref 54], sg_h s, 0, 0)) rfl ?_
            refine am_Pn.gR (k := 10) rfl rfl am_o35 rfl rfl ?_
            refine am_Pn.bl 1 (y := (151, [some (.ref 35), some (.int x1), some (.int l2), some (.int l3), some (.int l4), some (.int (((Int32.ofInt (1)) <<< ((s.1 50 4) &&& 31)) - (Int32.ofInt (1))))], [.int l4, .ref (s.2.2.2.2 35 10), .ref 54], sg_h s, 0, 0)) rfl ?_
            refine am_Pn.cvV hcl h rfl rfl rfl rfl rfl (fun s25 h => ?_)
            refine am_Pn.bl 4 (y := (160, [some (.ref 35), some (.int x1), some (.int l2), some (.int l3), some (.int l4), some (.int (((Int32.ofInt (1)) <<< ((s.1 50 4) &&& 31)) - (Int32.ofInt (1))))], [.int (((Int32.ofInt (1)) <<< ((s.1 50 4) &&& 31)) - (Int32.ofInt (1))), .int x1, .int l4, .ref 35], sg_h s25, 0, 0)) rfl ?_
            refine am_Pn.cvI hcl h rfl rfl rfl rfl rfl (fun x26 s26 h => ?_)
            refine am_Pn.zF h (am_bne rfl rfl) rfl rfl (fun h => ?_) (fun h => ?_)
            · refine am_Pn.bl 2 (y := (64, [some (.ref 35), some (.int x1), some (.int l2), some (.int l3), some (.int (l4 + Int32.ofInt (1))), some (.int (((Int32.ofInt (1)) <<< ((s.1 50 4) &&& 31)) - (Int32.ofInt (1))))], [], sg_h s26, 0, 0)) rfl ?_
              exact (ih) (some (.int (((Int32.ofInt (1)) <<< ((s.1 50 4) &&& 31)) - (Int32.ofInt (1))))) l2 l3 (l4 + Int32.ofInt (1)) s26 h
            · refine am_Pn.bl 1 (y := (167, [some (.ref 35), some (.int x1), some (.int l2), some (.int l3), some (.int l4), some (.int (((Int32.ofInt (1)) <<< ((s.1 50 4) &&& 31)) - (Int32.ofInt (1))))], [.int (Int32.ofInt (0))], sg_h s26, 0, 0)) rfl ?_
              exact am_Pn.rI h rfl
          · refine am_Pn.bl 2 (y := (121, [some (.ref 35), some (.int x1), some (.int l2), some (.int l3), some (.int l4), some (.int (((Int32.ofInt (1)) <<< ((s.1 50 4) &&& 31)) - (Int32.ofInt (1))))], [.ref 35, .int (((Int32.ofInt (1)) <<< ((s.1 50 4) &&& 31)) - (Int32.ofInt (1)))], sg_h s, 0, 0)) rfl ?_
            refine am_Pn.gr (k := 7) rfl rfl am_o35 rfl rfl ?_
            refine am_Pn.bl 1 (y := (125, [some (.ref 35), some (.int x1), some (.int l2), some (.int l3), some (.int l4), some (.int (((Int32.ofInt (1)) <<< ((s.1 50 4) &&& 31)) - (Int32.ofInt (1))))], [.ref 35, .ref 50, .int (((Int32.ofInt (1)) <<< ((s.1 50 4) &&& 31)) - (Int32.ofInt (1)))], sg_h s, 0, 0)) rfl ?_
            refine am_Pn.gR (k := 10) rfl rfl am_o35 rfl rfl ?_
            refine am_Pn.bl 1 (y := (130, [some (.ref 35), some (.int x1), some (.int l2), some (.int l3), some (.int l4), some (.int (((Int32.ofInt (1)) <<< ((s.1 50 4) &&& 31)) - (Int32.ofInt (1))))], [.int l4, .ref (s.2.2.2.2 35 10), .ref 50, .int (((Int32.ofInt (1)) <<< ((s.1 50 4) &&& 31)) - (Int32.ofInt (1)))], sg_h s, 0, 0)) rfl ?_
            refine am_Pn.cvI hcl h rfl rfl rfl rfl rfl (fun x27 s27 h => ?_)
            refine am_Pn.cvI hcl h rfl rfl rfl rfl rfl (fun x28 s28 h => ?_)
            refine am_Pn.bl 5 (y := (142, [some (.ref 35), some (.int x1), some (.int l2), some (.int l3), some (.int l4), some (.int ((((Int32.ofInt (1)) <<< ((s.1 50 4) &&& 31)) - (Int32.ofInt (1))) &&& (x28 ^^^ (Int32.ofInt (-1)))))], [.ref 35], sg_h s28, 0, 0)) rfl ?_
            refine am_Pn.gr (k := 9) rfl rfl am_o35 rfl rfl ?_
            refine am_Pn.bl 1 (y := (146, [some (.ref 35), some (.int x1), some (.int l2), some (.int l3), some (.int l4), some (.int ((((Int32.ofInt (1)) <<< ((s.1 50 4) &&& 31)) - (Int32.ofInt (1))) &&& (x28 ^^^ (Int32.ofInt (-1)))))], [.ref 35, .ref 54], sg_h s28, 0, 0)) rfl ?_
            refine am_Pn.gR (k := 10) rfl rfl am_o35 rfl rfl ?_
            refine am_Pn.bl 1 (y := (151, [some (.ref 35), some (.int x1), some (.int l2), some (.int l3), some (.int l4), some (.int ((((Int32.ofInt (1)) <<< ((s.1 50 4) &&& 31)) - (Int32.ofInt (1))) &&& (x28 ^^^ (Int32.ofInt (-1)))))], [.int l4, .ref (s28.2.2.2.2 35 10), .ref 54], sg_h s28, 0, 0)) rfl ?_
            refine am_Pn.cvV hcl h rfl rfl rfl rfl rfl (fun s29 h => ?_)
            refine am_Pn.bl 4 (y := (160, [some (.ref 35), some (.int x1), some (.int l2), some (.int l3), some (.int l4), some (.int ((((Int32.ofInt (1)) <<< ((s.1 50 4) &&& 31)) - (Int32.ofInt (1))) &&& (x28 ^^^ (Int32.ofInt (-1)))))], [.int ((((Int32.ofInt (1)) <<< ((s.1 50 4) &&& 31)) - (Int32.ofInt (1))) &&& (x28 ^^^ (Int32.ofInt (-1)))), .int x1, .int l4, .ref 35], sg_h s29, 0, 0)) rfl ?_
            refine am_Pn.cvI hcl h rfl rfl rfl rfl rfl (fun x30 s30 h => ?_)
            refine am_Pn.zF h (am_bne rfl rfl) rfl rfl (fun h => ?_) (fun h => ?_)
            · refine am_Pn.bl 2 (y := (64, [some (.ref 35), some (.int x1), some (.int l2), some (.int l3), some (.int (l4 + Int32.ofInt (1))), some (.int ((((Int32.ofInt (1)) <<< ((s.1 50 4) &&& 31)) - (Int32.ofInt (1))) &&& (x28 ^^^ (Int32.ofInt (-1)))))], [], sg_h s30, 0, 0)) rfl ?_
              exact (ih) (some (.int ((((Int32.ofInt (1)) <<< ((s.1 50 4) &&& 31)) - (Int32.ofInt (1))) &&& (x28 ^^^ (Int32.ofInt (-1)))))) l2 l3 (l4 + Int32.ofInt (1)) s30 h
            · refine am_Pn.bl 1 (y := (167, [some (.ref 35), some (.int x1), some (.int l2), some (.int l3), some (.int l4), some (.int ((((Int32.ofInt (1)) <<< ((s.1 50 4) &&& 31)) - (Int32.ofInt (1))) &&& (x28 ^^^ (Int32.ofInt (-1)))))], [.int (Int32.ofInt (0))], sg_h s30, 0, 0)) rfl ?_
              exact am_Pn.rI h rfl
        · refine am_Pn.bl 2 (y := (96, [some (.ref 35), some (.int x1), some (.int l2), some (.int l3), some (.int l4), some (.int (((Int32.ofInt (1)) <<< ((s.1 50 4) &&& 31)) - (Int32.ofInt (1))))], [.ref 35, .int (((Int32.ofInt (1)) <<< ((s.1 50 4) &&& 31)) - (Int32.ofInt (1)))], sg_h s, 0, 0)) rfl ?_
          refine am_Pn.gr (k := 7) rfl rfl am_o35 rfl rfl ?_
          refine am_Pn.bl 1 (y := (100, [some (.ref 35), some (.int x1), some (.int l2), some (.int l3), some (.int l4), some (.int (((Int32.ofInt (1)) <<< ((s.1 50 4) &&& 31)) - (Int32.ofInt (1))))], [.ref 35, .ref 50, .int (((Int32.ofInt (1)) <<< ((s.1 50 4) &&& 31)) - (Int32.ofInt (1)))], sg_h s, 0, 0)) rfl ?_
          refine am_Pn.gR (k := 10) rfl rfl am_o35 rfl rfl ?_
          refine am_Pn.bl 1 (y := (105, [some (.ref 35), some (.int x1), some (.int l2), some (.int l3), some (.int l4), some (.int (((Int32.ofInt (1)) <<< ((s.1 50 4) &&& 31)) - (Int32.ofInt (1))))], [.int l4, .ref (s.2.2.2.2 35 10), .ref 50, .int (((Int32.ofInt (1)) <<< ((s.1 50 4) &&& 31)) - (Int32.ofInt (1)))], sg_h s, 0, 0)) rfl ?_
          refine am_Pn.cvI hcl h rfl rfl rfl rfl rfl (fun x31 s31 h => ?_)
          refine am_Pn.cvI hcl h rfl rfl rfl rfl rfl (fun x32 s32 h => ?_)
          refine am_Pn.bl 3 (y := (115, [some (.ref 35), some (.int x1), some (.int l2), some (.int l3), some (.int l4), some (.int ((((Int32.ofInt (1)) <<< ((s.1 50 4) &&& 31)) - (Int32.ofInt (1))) &&& x32))], [.int l3], sg_h s32, 0, 0)) rfl ?_
          refine am_Pn.zT h (am_beq rfl rfl) rfl rfl (fun h => ?_) (fun h => ?_)
          · refine am_Pn.bl 1 (y := (142, [some (.ref 35), some (.int x1), some (.int l2), some (.int l3), some (.int l4), some (.int ((((Int32.ofInt (1)) <<< ((s.1 50 4) &&& 31)) - (Int32.ofInt (1))) &&& x32))], [.ref 35], sg_h s32, 0, 0)) rfl ?_
            refine am_Pn.gr (k := 9) rfl rfl am_o35 rfl rfl ?_
            refine am_Pn.bl 1 (y := (146, [some (.ref 35), some (.int x1), some (.int l2), some (.int l3), some (.int l4), some (.int ((((Int32.ofInt (1)) <<< ((s.1 50 4) &&& 31)) - (Int32.ofInt (1))) &&& x32))], [.ref 35, .ref 54], sg_h s32, 0, 0)) rfl ?_
            refine am_Pn.gR (k := 10) rfl rfl am_o35 rfl rfl ?_
            refine am_Pn.bl 1 (y := (151, [some (.ref 35), some (.int x1), some (.int l2), some (.int l3), some (.int l4), some (.int ((((Int32.ofInt (1)) <<< ((s.1 50 4) &&& 31)) - (Int32.ofInt (1))) &&& x32))], [.int l4, .ref (s32.2.2.2.2 35 10), .ref 54], sg_h s32, 0, 0)) rfl ?_
            refine am_Pn.cvV hcl h rfl rfl rfl rfl rfl (fun s33 h => ?_)
            refine am_Pn.bl 4 (y := (160, [some (.ref 35), some (.int x1), some (.int l2), some (.int l3), some (.int l4), some (.int ((((Int32.ofInt (1)) <<< ((s.1 50 4) &&& 31)) - (Int32.ofInt (1))) &&& x32))], [.int ((((Int32.ofInt (1)) <<< ((s.1 50 4) &&& 31)) - (Int32.ofInt (1))) &&& x32), .int x1, .int l4, .ref 35], sg_h s33, 0, 0)) rfl ?_
            refine am_Pn.cvI hcl h rfl rfl rfl rfl rfl (fun x34 s34 h => ?_)
            refine am_Pn.zF h (am_bne rfl rfl) rfl rfl (fun h => ?_) (fun h => ?_)
            · refine am_Pn.bl 2 (y := (64, [some (.ref 35), some (.int x1), some (.int l2), some (.int l3), some (.int (l4 + Int32.ofInt (1))), some (.int ((((Int32.ofInt (1)) <<< ((s.1 50 4) &&& 31)) - (Int32.ofInt (1))) &&& x32))], [], sg_h s34, 0, 0)) rfl ?_
              exact (ih) (some (.int ((((Int32.ofInt (1)) <<< ((s.1 50 4) &&& 31)) - (Int32.ofInt (1))) &&& x32))) l2 l3 (l4 + Int32.ofInt (1)) s34 h
            · refine am_Pn.bl 1 (y := (167, [some (.ref 35), some (.int x1), some (.int l2), some (.int l3), some (.int l4), some (.int ((((Int32.ofInt (1)) <<< ((s.1 50 4) &&& 31)) - (Int32.ofInt (1))) &&& x32))], [.int (Int32.ofInt (0))], sg_h s34, 0, 0)) rfl ?_
              exact am_Pn.rI h rfl
          · refine am_Pn.bl 2 (y := (121, [some (.ref 35), some (.int x1), some (.int l2), some (.int l3), some (.int l4), some (.int ((((Int32.ofInt (1)) <<< ((s.1 50 4) &&& 31)) - (Int32.ofInt (1))) &&& x32))], [.ref 35, .int ((((Int32.ofInt (1)) <<< ((s.1 50 4) &&& 31)) - (Int32.ofInt (1))) &&& x32)], sg_h s32, 0, 0)) rfl ?_
            refine am_Pn.gr (k := 7) rfl rfl am_o35 rfl rfl ?_
            refine am_Pn.bl 1 (y := (125, [some (.ref 35), some (.int x1), some (.int l2), some (.int l3), some (.int l4), some (.int ((((Int32.ofInt (1)) <<< ((s.1 50 4) &&& 31)) - (Int32.ofInt (1))) &&& x32))], [.ref 35, .ref 50, .int ((((Int32.ofInt (1)) <<< ((s.1 50 4) &&& 31)) - (Int32.ofInt (1))) &&& x32)], sg_h s32, 0, 0)) rfl ?_
            refine am_Pn.gR (k := 10) rfl rfl am_o35 rfl rfl ?_
            refine am_Pn.bl 1 (y := (130, [some (.ref 35), some (.int x1), some (.int l2), some (.int l3), some (.int l4), some (.int ((((Int32.ofInt (1)) <<< ((s.1 50 4) &&& 31)) - (Int32.ofInt (1))) &&& x32))], [.int l4, .ref (s32.2.2.2.2 35 10), .ref 50, .int ((((Int32.ofInt (1)) <<< ((s.1 50 4) &&& 31)) - (Int32.ofInt (1))) &&& x32)], sg_h s32, 0, 0)) rfl ?_
            refine am_Pn.cvI hcl h rfl rfl rfl rfl rfl (fun x35 s35 h => ?_)
            refine am_Pn.cvI hcl h rfl rfl rfl rfl rfl (fun x36 s36 h => ?_)
            refine am_Pn.bl 5 (y := (142, [some (.ref 35), some (.int x1), some (.int l2), some (.int l3), some (.int l4), some (.int (((((Int32.ofInt (1)) <<< ((s.1 50 4) &&& 31)) - (Int32.ofInt (1))) &&& x32) &&& (x36 ^^^ (Int32.ofInt (-1)))))], [.ref 35], sg_h s36, 0, 0)) rfl ?_
            refine am_Pn.gr (k := 9) rfl rfl am_o35 rfl rfl ?_
            refine am_Pn.bl 1 (y := (146, [some (.ref 35), some (.int x1), some (.int l2), some (.int l3), some (.int l4), some (.int (((((Int32.ofInt (1)) <<< ((s.1 50 4) &&& 31)) - (Int32.ofInt (1))) &&& x32) &&& (x36 ^^^ (Int32.ofInt (-1)))))], [.ref 35, .ref 54], sg_h s36, 0, 0)) rfl ?_
            refine am_Pn.gR (k := 10) rfl rfl am_o35 rfl rfl ?_
            refine am_Pn.bl 1 (y := (151, [some (.ref 35), some (.int x1), some (.int l2), some (.int l3), some (.int l4), some (.int (((((Int32.ofInt (1)) <<< ((s.1 50 4) &&& 31)) - (Int32.ofInt (1))) &&& x32) &&& (x36 ^^^ (Int32.ofInt (-1)))))], [.int l4, .ref (s36.2.2.2.2 35 10), .ref 54], sg_h s36, 0, 0)) rfl ?_
            refine am_Pn.cvV hcl h rfl rfl rfl rfl rfl (fun s37 h => ?_)
            refine am_Pn.bl 4 (y := (160, [some (.ref 35), some (.int x1), some (.int l2), some (.int l3), some (.int l4), some (.int (((((Int32.ofInt (1)) <<< ((s.1 50 4) &&& 31)) - (Int32.ofInt (1))) &&& x32) &&& (x36 ^^^ (Int32.ofInt (-1)))))], [.int (((((Int32.ofInt (1)) <<< ((s.1 50 4) &&& 31)) - (Int32.ofInt (1))) &&& x32) &&& (x36 ^^^ (Int32.ofInt (-1)))), .int x1, .int l4, .ref 35], sg_h s37, 0, 0)) rfl ?_
            refine am_Pn.cvI hcl h rfl rfl rfl rfl rfl (fun x38 s38 h => ?_)
            refine am_Pn.zF h (am_bne rfl rfl) rfl rfl (fun h => ?_) (fun h => ?_)
            · refine am_Pn.bl 2 (y := (64, [some (.ref 35), some (.int x1), some (.int l2), some (.int l3), some (.int (l4 + Int32.ofInt (1))), some (.int (((((Int32.ofInt (1)) <<< ((s.1 50 4) &&& 31)) - (Int32.ofInt (1))) &&& x32) &&& (x36 ^^^ (Int32.ofInt (-1)))))], [], sg_h s38, 0, 0)) rfl ?_
              exact (ih) (some (.int (((((Int32.ofInt (1)) <<< ((s.1 50 4) &&& 31)) - (Int32.ofInt (1))) &&& x32) &&& (x36 ^^^ (Int32.ofInt (-1)))))) l2 l3 (l4 + Int32.ofInt (1)) s38 h
            · refine am_Pn.bl 1 (y := (167, [some (.ref 35), some (.int x1), some (.int l2), some (.int l3), some (.int l4), some (.int (((((Int32.ofInt (1)) <<< ((s.1 50 4) &&& 31)) - (Int32.ofInt (1))) &&& x32) &&& (x36 ^^^ (Int32.ofInt (-1)))))], [.int (Int32.ofInt (0))], sg_h s38, 0, 0)) rfl ?_
              exact am_Pn.rI h rfl
  unfold wp_XEnding_fill at h
  refine am_Pn.bl 2 (y := (2, [some (.ref 35), some (.int x1), none, none, none, none], [.int (Int32.ofInt (1)), .int x1], sg_h s, 0, 0)) rfl ?_
  refine am_Pn.bF h (am_ble rfl rfl) rfl rfl (fun h => ?_) (fun h => ?_)
  · refine am_Pn.bl 4 (y := (25, [some (.ref 35), some (.int x1), some (.int (Int32.ofInt (0))), none, none, none], [.int (Int32.ofInt (2)), .int x1], sg_h s, 0, 0)) rfl ?_
    refine am_Pn.bF h (am_ble rfl rfl) rfl rfl (fun h => ?_) (fun h => ?_)
    · refine am_Pn.bl 3 (y := (47, [some (.ref 35), some (.int x1), some (.int (Int32.ofInt (0))), some (.int (Int32.ofInt (0))), none, none], [.ref 35], sg_h s, 0, 0)) rfl ?_
      refine am_Pn.gR (k := 11) rfl rfl am_o35 rfl rfl ?_
      refine am_Pn.cvV hcl h rfl rfl rfl rfl rfl (fun s2 h => ?_)
      refine am_Pn.bl 1 (y := (54, [some (.ref 35), some (.int x1), some (.int (Int32.ofInt (0))), some (.int (Int32.ofInt (0))), none, none], [.ref 35], sg_h s2, 0, 0)) rfl ?_
      refine am_Pn.gr (k := 9) rfl rfl am_o35 rfl rfl ?_
      refine am_Pn.bl 1 (y := (58, [some (.ref 35), some (.int x1), some (.int (Int32.ofInt (0))), some (.int (Int32.ofInt (0))), none, none], [.int x1, .ref 54], sg_h s2, 0, 0)) rfl ?_
      refine am_Pn.cvV hcl h rfl rfl rfl rfl rfl (fun s3 h => ?_)
      refine am_Pn.bl 2 (y := (64, [some (.ref 35), some (.int x1), some (.int (Int32.ofInt (0))), some (.int (Int32.ofInt (0))), some (.int (Int32.ofInt (0))), none], [], sg_h s3, 0, 0)) rfl ?_
      exact ((key n)) none (Int32.ofInt (0)) (Int32.ofInt (0)) (Int32.ofInt (0)) s3 h
    · refine am_Pn.bl 1 (y := (29, [some (.ref 35), some (.int x1), some (.int (Int32.ofInt (0))), none, none, none], [.ref 35], sg_h s, 0, 0)) rfl ?_
      refine am_Pn.gr (k := 0) rfl rfl am_o35 rfl rfl ?_
      refine am_Pn.bl 1 (y := (34, [some (.ref 35), some (.int x1), some (.int (Int32.ofInt (0))), none, none, none], [.int (Int32.ofInt (8)), .ref 1], sg_h s, 0, 0)) rfl ?_
      refine am_Pn.cvI hcl h rfl rfl rfl rfl rfl (fun x4 s4 h => ?_)
      refine am_Pn.zT h (am_beq rfl rfl) rfl rfl (fun h => ?_) (fun h => ?_)
      · refine am_Pn.bl 3 (y := (47, [some (.ref 35), some (.int x1), some (.int (Int32.ofInt (0))), some (.int (Int32.ofInt (0))), none, none], [.ref 35], sg_h s4, 0, 0)) rfl ?_
        refine am_Pn.gR (k := 11) rfl rfl am_o35 rfl rfl ?_
        refine am_Pn.cvV hcl h rfl rfl rfl rfl rfl (fun s5 h => ?_)
        refine am_Pn.bl 1 (y := (54, [some (.ref 35), some (.int x1), some (.int (Int32.ofInt (0))), some (.int (Int32.ofInt (0))), none, none], [.ref 35], sg_h s5, 0, 0)) rfl ?_
        refine am_Pn.gr (k := 9) rfl rfl am_o35 rfl rfl ?_
        refine am_Pn.bl 1 (y := (58, [some (.ref 35), some (.int x1), some (.int (Int32.ofInt (0))), some (.int (Int32.ofInt (0))), none, none], [.int x1, .ref 54], sg_h s5, 0, 0)) rfl ?_
        refine am_Pn.cvV hcl h rfl rfl rfl rfl rfl (fun s6 h => ?_)
        refine am_Pn.bl 2 (y := (64, [some (.ref 35), some (.int x1), some (.int (Int32.ofInt (0))), some (.int (Int32.ofInt (0))), some (.int (Int32.ofInt (0))), none], [], sg_h s6, 0, 0)) rfl ?_
        exact ((key n)) none (Int32.ofInt (0)) (Int32.ofInt (0)) (Int32.ofInt (0)) s6 h
      · refine am_Pn.bl 4 (y := (47, [some (.ref 35), some (.int x1), some (.int (Int32.ofInt (0))), some (.int (Int32.ofInt (1))), none, none], [.ref 35], sg_h s4, 0, 0)) rfl ?_
        refine am_Pn.gR (k := 11) rfl rfl am_o35 rfl rfl ?_
        refine am_Pn.cvV hcl h rfl rfl rfl rfl rfl (fun s7 h => ?_)
        refine am_Pn.bl 1 (y := (54, [some (.ref 35), some (.int x1), some (.int (Int32.ofInt (0))), some (.int (Int32.ofInt (1))), none, none], [.ref 35], sg_h s7, 0, 0)) rfl ?_
        refine am_Pn.gr (k := 9) rfl rfl am_o35 rfl rfl ?_
        refine am_Pn.bl 1 (y := (58, [some (.ref 35), some (.int x1), some (.int (Int32.ofInt (0))), some (.int (Int32.ofInt (1))), none, none], [.int x1, .ref 54], sg_h s7, 0, 0)) rfl ?_
        refine am_Pn.cvV hcl h rfl rfl rfl rfl rfl (fun s8 h => ?_)
        refine am_Pn.bl 2 (y := (64, [some (.ref 35), some (.int x1), some (.int (Int32.ofInt (0))), some (.int (Int32.ofInt (1))), some (.int (Int32.ofInt (0))), none], [], sg_h s8, 0, 0)) rfl ?_
        exact ((key n)) none (Int32.ofInt (0)) (Int32.ofInt (1)) (Int32.ofInt (0)) s8 h
  · refine am_Pn.bl 1 (y := (6, [some (.ref 35), some (.int x1), none, none, none, none], [.ref 35], sg_h s, 0, 0)) rfl ?_
    refine am_Pn.gr (k := 0) rfl rfl am_o35 rfl rfl ?_
    refine am_Pn.bl 1 (y := (11, [some (.ref 35), some (.int x1), none, none, none, none], [.int (Int32.ofInt (7)), .ref 1], sg_h s, 0, 0)) rfl ?_
    refine am_Pn.cvI hcl h rfl rfl rfl rfl rfl (fun x9 s9 h => ?_)
    refine am_Pn.zT h (am_beq rfl rfl) rfl rfl (fun h => ?_) (fun h => ?_)
    · refine am_Pn.bl 4 (y := (25, [some (.ref 35), some (.int x1), some (.int (Int32.ofInt (0))), none, none, none], [.int (Int32.ofInt (2)), .int x1], sg_h s9, 0, 0)) rfl ?_
      refine am_Pn.bF h (am_ble rfl rfl) rfl rfl (fun h => ?_) (fun h => ?_)
      · refine am_Pn.bl 3 (y := (47, [some (.ref 35), some (.int x1), some (.int (Int32.ofInt (0))), some (.int (Int32.ofInt (0))), none, none], [.ref 35], sg_h s9, 0, 0)) rfl ?_
        refine am_Pn.gR (k := 11) rfl rfl am_o35 rfl rfl ?_
        refine am_Pn.cvV hcl h rfl rfl rfl rfl rfl (fun s10 h => ?_)
        refine am_Pn.bl 1 (y := (54, [some (.ref 35), some (.int x1), some (.int (Int32.ofInt (0))), some (.int (Int32.ofInt (0))), none, none], [.ref 35], sg_h s10, 0, 0)) rfl ?_
        refine am_Pn.gr (k := 9) rfl rfl am_o35 rfl rfl ?_
        refine am_Pn.bl 1 (y := (58, [some (.ref 35), some (.int x1), some (.int (Int32.ofInt (0))), some (.int (Int32.ofInt (0))), none, none], [.int x1, .ref 54], sg_h s10, 0, 0)) rfl ?_
        refine am_Pn.cvV hcl h rfl rfl rfl rfl rfl (fun s11 h => ?_)
        refine am_Pn.bl 2 (y := (64, [some (.ref 35), some (.int x1), some (.int (Int32.ofInt (0))), some (.int (Int32.ofInt (0))), some (.int (Int32.ofInt (0))), none], [], sg_h s11, 0, 0)) rfl ?_
        exact ((key n)) none (Int32.ofInt (0)) (Int32.ofInt (0)) (Int32.ofInt (0)) s11 h
      · refine am_Pn.bl 1 (y := (29, [some (.ref 35), some (.int x1), some (.int (Int32.ofInt (0))), none, none, none], [.ref 35], sg_h s9, 0, 0)) rfl ?_
        refine am_Pn.gr (k := 0) rfl rfl am_o35 rfl rfl ?_
        refine am_Pn.bl 1 (y := (34, [some (.ref 35), some (.int x1), some (.int (Int32.ofInt (0))), none, none, none], [.int (Int32.ofInt (8)), .ref 1], sg_h s9, 0, 0)) rfl ?_
        refine am_Pn.cvI hcl h rfl rfl rfl rfl rfl (fun x12 s12 h => ?_)
        refine am_Pn.zT h (am_beq rfl rfl) rfl rfl (fun h => ?_) (fun h => ?_)
        · refine am_Pn.bl 3 (y := (47, [some (.ref 35), some (.int x1), some (.int (Int32.ofInt (0))), some (.int (Int32.ofInt (0))), none, none], [.ref 35], sg_h s12, 0, 0)) rfl ?_
          refine am_Pn.gR (k := 11) rfl rfl am_o35 rfl rfl ?_
          refine am_Pn.cvV hcl h rfl rfl rfl rfl rfl (fun s13 h => ?_)
          refine am_Pn.bl 1 (y := (54, [some (.ref 35), some (.int x1), some (.int (Int32.ofInt (0))), some (.int (Int32.ofInt (0))), none, none], [.ref 35], sg_h s13, 0, 0)) rfl ?_
          refine am_Pn.gr (k := 9) rfl rfl am_o35 rfl rfl ?_
          refine am_Pn.bl 1 (y := (58, [some (.ref 35), some (.int x1), some (.int (Int32.ofInt (0))), some (.int (Int32.ofInt (0))), none, none], [.int x1, .ref 54], sg_h s13, 0, 0)) rfl ?_
          refine am_Pn.cvV hcl h rfl rfl rfl rfl rfl (fun s14 h => ?_)
          refine am_Pn.bl 2 (y := (64, [some (.ref 35), some (.int x1), some (.int (Int32.ofInt (0))), some (.int (Int32.ofInt (0))), some (.int (Int32.ofInt (0))), none], [], sg_h s14, 0, 0)) rfl ?_
          exact ((key n)) none (Int32.ofInt (0)) (Int32.ofInt (0)) (Int32.ofInt (0)) s14 h
        · refine am_Pn.bl 4 (y := (47, [some (.ref 35), some (.int x1), some (.int (Int32.ofInt (0))), some (.int (Int32.ofInt (1))), none, none], [.ref 35], sg_h s12, 0, 0)) rfl ?_
          refine am_Pn.gR (k := 11) rfl rfl am_o35 rfl rfl ?_
          refine am_Pn.cvV hcl h rfl rfl rfl rfl rfl (fun s15 h => ?_)
          refine am_Pn.bl 1 (y := (54, [some (.ref 35), some (.int x1), some (.int (Int32.ofInt (0))), some (.int (Int32.ofInt (1))), none, none], [.ref 35], sg_h s15, 0, 0)) rfl ?_
          refine am_Pn.gr (k := 9) rfl rfl am_o35 rfl rfl ?_
          refine am_Pn.bl 1 (y := (58, [some (.ref 35), some (.int x1), some (.int (Int32.ofInt (0))), some (.int (Int32.ofInt (1))), none, none], [.int x1, .ref 54], sg_h s15, 0, 0)) rfl ?_
          refine am_Pn.cvV hcl h rfl rfl rfl rfl rfl (fun s16 h => ?_)
          refine am_Pn.bl 2 (y := (64, [some (.ref 35), some (.int x1), some (.int (Int32.ofInt (0))), some (.int (Int32.ofInt (1))), some (.int (Int32.ofInt (0))), none], [], sg_h s16, 0, 0)) rfl ?_
          exact ((key n)) none (Int32.ofInt (0)) (Int32.ofInt (1)) (Int32.ofInt (0)) s16 h
    · refine am_Pn.bl 5 (y := (25, [some (.ref 35), some (.int x1), some (.int (Int32.ofInt (1))), none, none, none], [.int (Int32.ofInt (2)), .int x1], sg_h s9, 0, 0)) rfl ?_
      refine am_Pn.bF h (am_ble rfl rfl) rfl rfl (fun h => ?_) (fun h => ?_)
      · refine am_Pn.bl 3 (y := (47, [some (.ref 35), some (.int x1), some (.int (Int32.ofInt (1))), some (.int (Int32.ofInt (0))), none, none], [.ref 35], sg_h s9, 0, 0)) rfl ?_
        refine am_Pn.gR (k := 11) rfl rfl am_o35 rfl rfl ?_
        refine am_Pn.cvV hcl h rfl rfl rfl rfl rfl (fun s17 h => ?_)
        refine am_Pn.bl 1 (y := (54, [some (.ref 35), some (.int x1), some (.int (Int32.ofInt (1))), some (.int (Int32.ofInt (0))), none, none], [.ref 35], sg_h s17, 0, 0)) rfl ?_
        refine am_Pn.gr (k := 9) rfl rfl am_o35 rfl rfl ?_
        refine am_Pn.bl 1 (y := (58, [some (.ref 35), some (.int x1), some (.int (Int32.ofInt (1))), some (.int (Int32.ofInt (0))), none, none], [.int x1, .ref 54], sg_h s17, 0, 0)) rfl ?_
        refine am_Pn.cvV hcl h rfl rfl rfl rfl rfl (fun s18 h => ?_)
        refine am_Pn.bl 2 (y := (64, [some (.ref 35), some (.int x1), some (.int (Int32.ofInt (1))), some (.int (Int32.ofInt (0))), some (.int (Int32.ofInt (0))), none], [], sg_h s18, 0, 0)) rfl ?_
        exact ((key n)) none (Int32.ofInt (1)) (Int32.ofInt (0)) (Int32.ofInt (0)) s18 h
      · refine am_Pn.bl 1 (y := (29, [some (.ref 35), some (.int x1), some (.int (Int32.ofInt (1))), none, none, none], [.ref 35], sg_h s9, 0, 0)) rfl ?_
        refine am_Pn.gr (k := 0) rfl rfl am_o35 rfl rfl ?_
        refine am_Pn.bl 1 (y := (34, [some (.ref 35), some (.int x1), some (.int (Int32.ofInt (1))), none, none, none], [.int (Int32.ofInt (8)), .ref 1], sg_h s9, 0, 0)) rfl ?_
        refine am_Pn.cvI hcl h rfl rfl rfl rfl rfl (fun x19 s19 h => ?_)
        refine am_Pn.zT h (am_beq rfl rfl) rfl rfl (fun h => ?_) (fun h => ?_)
        · refine am_Pn.bl 3 (y := (47, [some (.ref 35), some (.int x1), some (.int (Int32.ofInt (1))), some (.int (Int32.ofInt (0))), none, none], [.ref 35], sg_h s19, 0, 0)) rfl ?_
          refine am_Pn.gR (k := 11) rfl rfl am_o35 rfl rfl ?_
          refine am_Pn.cvV hcl h rfl rfl rfl rfl rfl (fun s20 h => ?_)
          refine am_Pn.bl 1 (y := (54, [some (.ref 35), some (.int x1), some (.int (Int32.ofInt (1))), some (.int (Int32.ofInt (0))), none, none], [.ref 35], sg_h s20, 0, 0)) rfl ?_
          refine am_Pn.gr (k := 9) rfl rfl am_o35 rfl rfl ?_
          refine am_Pn.bl 1 (y := (58, [some (.ref 35), some (.int x1), some (.int (Int32.ofInt (1))), some (.int (Int32.ofInt (0))), none, none], [.int x1, .ref 54], sg_h s20, 0, 0)) rfl ?_
          refine am_Pn.cvV hcl h rfl rfl rfl rfl rfl (fun s21 h => ?_)
          refine am_Pn.bl 2 (y := (64, [some (.ref 35), some (.int x1), some (.int (Int32.ofInt (1))), some (.int (Int32.ofInt (0))), some (.int (Int32.ofInt (0))), none], [], sg_h s21, 0, 0)) rfl ?_
          exact ((key n)) none (Int32.ofInt (1)) (Int32.ofInt (0)) (Int32.ofInt (0)) s21 h
        · refine am_Pn.bl 4 (y := (47, [some (.ref 35), some (.int x1), some (.int (Int32.ofInt (1))), some (.int (Int32.ofInt (1))), none, none], [.ref 35], sg_h s19, 0, 0)) rfl ?_
          refine am_Pn.gR (k := 11) rfl rfl am_o35 rfl rfl ?_
          refine am_Pn.cvV hcl h rfl rfl rfl rfl rfl (fun s22 h => ?_)
          refine am_Pn.bl 1 (y := (54, [some (.ref 35), some (.int x1), some (.int (Int32.ofInt (1))), some (.int (Int32.ofInt (1))), none, none], [.ref 35], sg_h s22, 0, 0)) rfl ?_
          refine am_Pn.gr (k := 9) rfl rfl am_o35 rfl rfl ?_
          refine am_Pn.bl 1 (y := (58, [some (.ref 35), some (.int x1), some (.int (Int32.ofInt (1))), some (.int (Int32.ofInt (1))), none, none], [.int x1, .ref 54], sg_h s22, 0, 0)) rfl ?_
          refine am_Pn.cvV hcl h rfl rfl rfl rfl rfl (fun s23 h => ?_)
          refine am_Pn.bl 2 (y := (64, [some (.ref 35), some (.int x1), some (.int (Int32.ofInt (1))), some (.int (Int32.ofInt (1))), some (.int (Int32.ofInt (0))), none], [], sg_h s23, 0, 0)) rfl ?_
          exact ((key n)) none (Int32.ofInt (1)) (Int32.ofInt (1)) (Int32.ofInt (0)) s23 h
def wp_XEnding_layStart (Ψ : sg_S → Prop) (s : sg_S) : Prop := (am_SpV 96 [.ref (s.2.2.2.2 35 10)] s (fun s1 => (am_SpV 26 [.ref 54] s1 (fun s2 => (am_SpI 27 [.ref 54, .ref (s2.2.2.2.2 35 10)] s2 (fun x3 s3 => (((s3.2.2.2.2 35 10) = 39 ∨ (s3.2.2.2.2 35 10) = 43) ∧ (((s3.2.2.2.2 35 10) = 39 ∨ (s3.2.2.2.2 35 10) = 43) ∧ (Ψ (sg_uI (sg_uA s3 47 (0) (s3.1 (s3.2.2.2.2 35 10) 2)) 35 4 (s3.1 (s3.2.2.2.2 35 10) 2)))))))))))
set_option maxRecDepth 100000 in
theorem wp_XEnding_layStart_ok {Ψ : sg_S → Prop} {s : sg_S} (h : wp_XEnding_layStart Ψ  s) : am_SpV 14 [.ref 35] s Ψ := by
  refine am_SpV.mk (r := am_r14) rfl rfl (fun call d al n hcl => ?_)
  unfold wp_XEnding_layStart at h
  refine am_Pn.bl 1 (y := (1, [some (.ref 35)], [.ref 35], sg_h s, 0, 0)) rfl ?_
  refine am_Pn.gR (k := 10) rfl rfl am_o35 rfl rfl ?_
  refine am_Pn.cvV hcl h rfl rfl rfl rfl rfl (fun s1 h => ?_)
  refine am_Pn.bl 1 (y := (8, [some (.ref 35)], [.ref 35], sg_h s1, 0, 0)) rfl ?_
  refine am_Pn.gr (k := 9) rfl rfl am_o35 rfl rfl ?_
  refine am_Pn.cvV hcl h rfl rfl rfl rfl rfl (fun s2 h => ?_)
  refine am_Pn.bl 1 (y := (15, [some (.ref 35)], [.ref 35], sg_h s2, 0, 0)) rfl ?_
  refine am_Pn.gr (k := 9) rfl rfl am_o35 rfl rfl ?_
  refine am_Pn.bl 1 (y := (19, [some (.ref 35)], [.ref 35, .ref 54], sg_h s2, 0, 0)) rfl ?_
  refine am_Pn.gR (k := 10) rfl rfl am_o35 rfl rfl ?_
  refine am_Pn.cvI hcl h rfl rfl rfl rfl rfl (fun x3 s3 h => ?_)
  refine am_Pn.bl 2 (y := (27, [some (.ref 35)], [.ref 35], sg_h s3, 0, 0)) rfl ?_
  refine am_Pn.gr (k := 12) rfl rfl am_o35 rfl rfl ?_
  refine am_Pn.bl 2 (y := (32, [some (.ref 35)], [.ref 35, .int (Int32.ofInt (0)), .ref 47], sg_h s3, 0, 0)) rfl ?_
  refine am_Pn.gR (k := 10) rfl rfl am_o35 rfl rfl ?_
  obtain ⟨hF4, h⟩ := h
  refine am_Pn.gif (k := 2) rfl rfl hF4 rfl rfl ?_
  refine am_Pn.is (a := 47) rfl rfl rfl (fun hi => ?_)
  refine am_Pn.bl 2 (y := (41, [some (.ref 35)], [.ref 35, .ref 35], sg_h (sg_uA s3 47 (0) (s3.1 (s3.2.2.2.2 35 10) 2)), 0, 0)) rfl ?_
  refine am_Pn.gR (k := 10) rfl rfl am_o35 rfl rfl ?_
  obtain ⟨hF5, h⟩ := h
  refine am_Pn.gif (k := 2) rfl rfl hF5 rfl rfl ?_
  refine am_Pn.pi (k := 4) rfl rfl am_o35 rfl rfl ?_
  exact am_Pn.rV h rfl
def wp_XEnding_solve_15 (I15 : Int32 →  sg_S → Prop) (Ψ : Int32 → sg_S → Prop) (l1 : Int32) (s : sg_S) : Prop := (((s.1 1 3).toInt < l1.toInt → (((s.2.2.2.2 35 10) = 39 ∨ (s.2.2.2.2 35 10) = 43) ∧ (((s.1 (s.2.2.2.2 35 10) 2).toInt = (0) → (Ψ (Int32.ofInt (0)) s)) ∧ (¬ (s.1 (s.2.2.2.2 35 10) 2).toInt = (0) → (am_SpV 20 [.ref 35] s (fun s4 => (am_SpV 24 [.ref 35] s4 (fun s5 => (Ψ (Int32.ofInt (1)) s5))))))))) ∧ (¬ (s.1 1 3).toInt < l1.toInt → (am_SpV 15 [.ref 35, .int l1] s (fun s6 => (am_SpI 17 [.ref 35, .int l1] s6 (fun x7 s7 => ((x7.toInt = (0) → (((s7.2.2.2.2 35 11) = 39 ∨ (s7.2.2.2.2 35 11) = 43) ∧ (Ψ (Int32.ofInt (-4)) (sg_uI s7 35 4 ((s7.1 35 4) + ((s7.1 (s7.2.2.2.2 35 11) 2) + (Int32.ofInt (1)))))))) ∧ (¬ x7.toInt = (0) → (((s7.2.2.2.2 35 11) = 39 ∨ (s7.2.2.2.2 35 11) = 43) ∧ (((s7.2.2.2.2 35 11) = 39 ∨ (s7.2.2.2.2 35 11) = 43) ∧ (0 ≤ l1.toInt → l1.toInt < (49) → (I15 (l1 + Int32.ofInt (1)) (sg_uR (sg_uR (sg_uA (sg_uI s7 35 4 ((s7.1 35 4) + (s7.1 (s7.2.2.2.2 35 11) 2))) 47 (l1.toInt.toNat) ((sg_uI s7 35 4 ((s7.1 35 4) + (s7.1 (s7.2.2.2.2 35 11) 2))).1 (s7.2.2.2.2 35 11) 2)) 35 10 (s7.2.2.2.2 35 11)) 35 11 (s7.2.2.2.2 35 10))))))))))))))
def wp_XEnding_solve (I15 : Int32 →  sg_S → Prop) (Ψ : Int32 → sg_S → Prop) (s : sg_S) : Prop := (am_SpV 11 [.ref 35] s (fun s1 => (am_SpV 14 [.ref 35] (sg_uI s1 35 8 (Int32.ofInt (0))) (fun s2 => (I15 (Int32.ofInt (1)) s2)))))
set_option maxRecDepth 100000 in
theorem wp_XEnding_solve_ok {I15 : Int32 →  sg_S → Prop} {Ψ : Int32 → sg_S → Prop} {s : sg_S} (k15 : ∀ (l1 : Int32) (s : sg_S), I15 l1 s → wp_XEnding_solve_15 I15 Ψ  l1 s) (h : wp_XEnding_solve I15 Ψ  s) : am_SpI 13 [.ref 35] s Ψ := by
  refine am_SpI.mk (r := am_r13) rfl rfl (fun call d al n hcl => ?_)
  have key : ∀ n, (∀ (o2 : Option Value) (l1 : Int32) (s : sg_S), I15 l1 s → am_Pn call d (0, fun _ => 0) al am_r13 (am_PhI am_r13 Ψ) n (15, [some (.ref 35), some (.int l1), o2], [], sg_h s, 0, 0)) := by
    intro n
    induction n with
    | zero => exact fun _ _ _ _ => am_Pn.zero
    | succ n ih =>
      intro o2 l1 s h
      replace h := k15 l1 s h
      unfold wp_XEnding_solve_15 at h
      refine am_Pn.bl1 1 (y := (17, [some (.ref 35), some (.int l1), o2], [.ref 35, .int l1], sg_h s, 0, 0)) rfl ?_
      refine am_Pn.gr (k := 0) rfl rfl am_o35 rfl rfl ?_
      refine am_Pn.gi (k := 3) rfl rfl am_o1 rfl rfl ?_
      refine am_Pn.bT h (am_bgt rfl rfl) rfl rfl (fun h => ?_) (fun h => ?_)
      · refine am_Pn.bl 1 (y := (114, [some (.ref 35), some (.int l1), o2], [.ref 35], sg_h s, 0, 0)) rfl ?_
        refine am_Pn.gR (k := 10) rfl rfl am_o35 rfl rfl ?_
        obtain ⟨hF3, h⟩ := h
        refine am_Pn.gif (k := 2) rfl rfl hF3 rfl rfl ?_
        refine am_Pn.zF h (am_bne rfl rfl) rfl rfl (fun h => ?_) (fun h => ?_)
        · refine am_Pn.bl 1 (y := (126, [some (.ref 35), some (.int l1), o2], [.ref 35], sg_h s, 0, 0)) rfl ?_
          refine am_Pn.cvV hcl h rfl rfl rfl rfl rfl (fun s4 h => ?_)
          refine am_Pn.bl 1 (y := (130, [some (.ref 35), some (.int l1), o2], [.ref 35], sg_h s4, 0, 0)) rfl ?_
          refine am_Pn.cvV hcl h rfl rfl rfl rfl rfl (fun s5 h => ?_)
          refine am_Pn.bl 1 (y := (134, [some (.ref 35), some (.int l1), o2], [.int (Int32.ofInt (1))], sg_h s5, 0, 0)) rfl ?_
          exact am_Pn.rI h rfl
        · refine am_Pn.bl 1 (y := (124, [some (.ref 35), some (.int l1), o2], [.int (Int32.ofInt (0))], sg_h s, 0, 0)) rfl ?_
          exact am_Pn.rI h rfl
      · refine am_Pn.bl 2 (y := (28, [some (.ref 35), some (.int l1), o2], [.int l1, .ref 35], sg_h s, 0, 0)) rfl ?_
        refine am_Pn.cvV hcl h rfl rfl rfl rfl rfl (fun s6 h => ?_)
        refine am_Pn.bl 2 (y := (33, [some (.ref 35), some (.int l1), o2], [.int l1, .ref 35], sg_h s6, 0, 0)) rfl ?_
        refine am_Pn.cvI hcl h rfl rfl rfl rfl rfl (fun x7 s7 h => ?_)
        refine am_Pn.zF h (am_bne rfl rfl) rfl rfl (fun h => ?_) (fun h => ?_)
        · refine am_Pn.bl 2 (y := (62, [some (.ref 35), some (.int l1), o2], [.ref 35, .ref 35], sg_h s7, 0, 0)) rfl ?_
          refine am_Pn.gi (k := 4) rfl rfl am_o35 rfl rfl ?_
          refine am_Pn.bl 1 (y := (66, [some (.ref 35), some (.int l1), o2], [.ref 35, .int (s7.1 35 4), .ref 35], sg_h s7, 0, 0)) rfl ?_
          refine am_Pn.gR (k := 11) rfl rfl am_o35 rfl rfl ?_
          obtain ⟨hF8, h⟩ := h
          refine am_Pn.gif (k := 2) rfl rfl hF8 rfl rfl ?_
          refine am_Pn.bl 1 (y := (73, [some (.ref 35), some (.int l1), o2], [.int ((s7.1 35 4) + (s7.1 (s7.2.2.2.2 35 11) 2)), .ref 35], sg_h s7, 0, 0)) rfl ?_
          refine am_Pn.pi (k := 4) rfl rfl am_o35 rfl rfl ?_
          refine am_Pn.bl 1 (y := (77, [some (.ref 35), some (.int l1), o2], [.ref 35], sg_h (sg_uI s7 35 4 ((s7.1 35 4) + (s7.1 (s7.2.2.2.2 35 11) 2))), 0, 0)) rfl ?_
          refine am_Pn.gr (k := 12) rfl rfl am_o35 rfl rfl ?_
          refine am_Pn.bl 2 (y := (82, [some (.ref 35), some (.int l1), o2], [.ref 35, .int l1, .ref 47], sg_h (sg_uI s7 35 4 ((s7.1 35 4) + (s7.1 (s7.2.2.2.2 35 11) 2))), 0, 0)) rfl ?_
          refine am_Pn.gR (k := 11) rfl rfl am_o35 rfl rfl ?_
          obtain ⟨hF9, h⟩ := h
          refine am_Pn.gif (k := 2) rfl rfl hF9 rfl rfl ?_
          refine am_Pn.is (a := 47) rfl rfl rfl (fun hi => ?_)
          replace h := h (am_in0 hi) (am_in1 hi)
          refine am_Pn.bl 1 (y := (90, [some (.ref 35), some (.int l1), o2], [.ref 35], sg_h (sg_uA (sg_uI s7 35 4 ((s7.1 35 4) + (s7.1 (s7.2.2.2.2 35 11) 2))) 47 (l1.toInt.toNat) ((sg_uI s7 35 4 ((s7.1 35 4) + (s7.1 (s7.2.2.2.2 35 11) 2))).1 (s7.2.2.2.2 35 11) 2)), 0, 0)) rfl ?_
          refine am_Pn.gR (k := 10) rfl rfl am_o35 rfl rfl ?_
          refine am_Pn.bl 3 (y := (96, [some (.ref 35), some (.int l1), some (.ref (s7.2.2.2.2 35 10))], [.ref 35, .ref 35], sg_h (sg_uA (sg_uI s7 35 4 ((s7.1 35 4) + (s7.1 (s7.2.2.2.2 35 11) 2))) 47 (l1.toInt.toNat) ((sg_uI s7 35 4 ((s7.1 35 4) + (s7.1 (s7.2.2.2.2 35 11) 2))).1 (s7.2.2.2.2 35 11) 2)), 0, 0)) rfl ?_
          refine am_Pn.gR (k := 11) rfl rfl am_o35 rfl rfl ?_
          refine am_Pn.pR (k := 10) rfl rfl am_o35 rfl rfl ?_
          refine am_Pn.bl 2 (y := (104, [some (.ref 35), some (.int l1), some (.ref (s7.2.2.2.2 35 10))], [.ref (s7.2.2.2.2 35 10), .ref 35], sg_h (sg_uR (sg_uA (sg_uI s7 35 4 ((s7.1 35 4) + (s7.1 (s7.2.2.2.2 35 11) 2))) 47 (l1.toInt.toNat) ((sg_uI s7 35 4 ((s7.1 35 4) + (s7.1 (s7.2.2.2.2 35 11) 2))).1 (s7.2.2.2.2 35 11) 2)) 35 10 (s7.2.2.2.2 35 11)), 0, 0)) rfl ?_
          refine am_Pn.pR (k := 11) rfl rfl am_o35 rfl rfl ?_
          refine am_Pn.bl 2 (y := (15, [some (.ref 35), some (.int (l1 + Int32.ofInt (1))), some (.ref (s7.2.2.2.2 35 10))], [], sg_h (sg_uR (sg_uR (sg_uA (sg_uI s7 35 4 ((s7.1 35 4) + (s7.1 (s7.2.2.2.2 35 11) 2))) 47 (l1.toInt.toNat) ((sg_uI s7 35 4 ((s7.1 35 4) + (s7.1 (s7.2.2.2.2 35 11) 2))).1 (s7.2.2.2.2 35 11) 2)) 35 10 (s7.2.2.2.2 35 11)) 35 11 (s7.2.2.2.2 35 10)), 0, 0)) rfl ?_
          exact (ih) (some (.ref (s7.2.2.2.2 35 10))) (l1 + Int32.ofInt (1)) (sg_uR (sg_uR (sg_uA (sg_uI s7 35 4 ((s7.1 35 4) + (s7.1 (s7.2.2.2.2 35 11) 2))) 47 (l1.toInt.toNat) ((sg_uI s7 35 4 ((s7.1 35 4) + (s7.1 (s7.2.2.2.2 35 11) 2))).1 (s7.2.2.2.2 35 11) 2)) 35 10 (s7.2.2.2.2 35 11)) 35 11 (s7.2.2.2.2 35 10)) h
        · refine am_Pn.bl 2 (y := (41, [some (.ref 35), some (.int l1), o2], [.ref 35, .ref 35], sg_h s7, 0, 0)) rfl ?_
          refine am_Pn.gi (k := 4) rfl rfl am_o35 rfl rfl ?_
          refine am_Pn.bl 1 (y := (45, [some (.ref 35), some (.int l1), o2], [.ref 35, .int (s7.1 35 4), .ref 35], sg_h s7, 0, 0)) rfl ?_
          refine am_Pn.gR (k := 11) rfl rfl am_o35 rfl rfl ?_
          obtain ⟨hF10, h⟩ := h
          refine am_Pn.gif (k := 2) rfl rfl hF10 rfl rfl ?_
          refine am_Pn.bl 3 (y := (54, [some (.ref 35), some (.int l1), o2], [.int ((s7.1 35 4) + ((s7.1 (s7.2.2.2.2 35 11) 2) + (Int32.ofInt (1)))), .ref 35], sg_h s7, 0, 0)) rfl ?_
          refine am_Pn.pi (k := 4) rfl rfl am_o35 rfl rfl ?_
          refine am_Pn.bl 1 (y := (59, [some (.ref 35), some (.int l1), o2], [.int (Int32.ofInt (-4))], sg_h (sg_uI s7 35 4 ((s7.1 35 4) + ((s7.1 (s7.2.2.2.2 35 11) 2) + (Int32.ofInt (1))))), 0, 0)) rfl ?_
          exact am_Pn.rI h rfl
  unfold wp_XEnding_solve at h
  refine am_Pn.bl 1 (y := (1, [some (.ref 35), none, none], [.ref 35], sg_h s, 0, 0)) rfl ?_
  refine am_Pn.cvV hcl h rfl rfl rfl rfl rfl (fun s1 h => ?_)
  refine am_Pn.bl 2 (y := (6, [some (.ref 35), none, none], [.int (Int32.ofInt (0)), .ref 35], sg_h s1, 0, 0)) rfl ?_
  refine am_Pn.pi (k := 8) rfl rfl am_o35 rfl rfl ?_
  refine am_Pn.bl 1 (y := (10, [some (.ref 35), none, none], [.ref 35], sg_h (sg_uI s1 35 8 (Int32.ofInt (0))), 0, 0)) rfl ?_
  refine am_Pn.cvV hcl h rfl rfl rfl rfl rfl (fun s2 h => ?_)
  refine am_Pn.bl 2 (y := (15, [some (.ref 35), some (.int (Int32.ofInt (1))), none], [], sg_h s2, 0, 0)) rfl ?_
  exact ((key n)) none (Int32.ofInt (1)) s2 h
def wp_X_ends (Ψ : Int32 → sg_S → Prop) (s : sg_S) : Prop := (am_SpI 13 [.ref 35] s (fun x1 s1 => (Ψ x1 s1)))
set_option maxRecDepth 100000 in
theorem wp_X_ends_ok {Ψ : Int32 → sg_S → Prop} {s : sg_S} (h : wp_X_ends Ψ  s) : am_SpI 138 [.ref 0] s Ψ := by
  refine am_SpI.mk (r := am_r138) rfl rfl (fun call d al n hcl => ?_)
  unfold wp_X_ends at h
  refine am_Pn.bl 1 (y := (1, [some (.ref 0)], [.ref 0], sg_h s, 0, 0)) rfl ?_
  refine am_Pn.gr (k := 6) rfl rfl am_o0 rfl rfl ?_
  refine am_Pn.cvI hcl h rfl rfl rfl rfl rfl (fun x1 s1 h => ?_)
  exact am_Pn.rI h rfl
def wp_X_full (Ψ : Int32 → sg_S → Prop) (x1 : Int32) (s : sg_S) : Prop := ((x1.toInt < (1) → (Ψ (Int32.ofInt (-1)) s)) ∧ (¬ x1.toInt < (1) → (((48) < x1.toInt → (Ψ (Int32.ofInt (-1)) s)) ∧ (¬ (48) < x1.toInt → (0 ≤ x1.toInt → x1.toInt < (49) → (Ψ (s.2.2.1 37 (x1.toInt.toNat)) s))))))
set_option maxRecDepth 100000 in
theorem wp_X_full_ok {Ψ : Int32 → sg_S → Prop} {x1 : Int32} {s : sg_S} (h : wp_X_full Ψ x1 s) : am_SpI 139 [.ref 0, .int x1] s Ψ := by
  refine am_SpI.mk (r := am_r139) rfl rfl (fun call d al n hcl => ?_)
  unfold wp_X_full at h
  refine am_Pn.bl 2 (y := (2, [some (.ref 0), some (.int x1)], [.int (Int32.ofInt (1)), .int x1], sg_h s, 0, 0)) rfl ?_
  refine am_Pn.bT h (am_blt rfl rfl) rfl rfl (fun h => ?_) (fun h => ?_)
  · refine am_Pn.bl 2 (y := (24, [some (.ref 0), some (.int x1)], [.int (Int32.ofInt (-1))], sg_h s, 0, 0)) rfl ?_
    exact am_Pn.rI h rfl
  · refine am_Pn.bl 2 (y := (8, [some (.ref 0), some (.int x1)], [.int (Int32.ofInt (48)), .int x1], sg_h s, 0, 0)) rfl ?_
    refine am_Pn.bF h (am_ble rfl rfl) rfl rfl (fun h => ?_) (fun h => ?_)
    · refine am_Pn.bl 1 (y := (16, [some (.ref 0), some (.int x1)], [.ref 0], sg_h s, 0, 0)) rfl ?_
      refine am_Pn.gr (k := 6) rfl rfl am_o0 rfl rfl ?_
      refine am_Pn.gr (k := 5) rfl rfl am_o35 rfl rfl ?_
      refine am_Pn.bl 1 (y := (23, [some (.ref 0), some (.int x1)], [.int x1, .ref 37], sg_h s, 0, 0)) rfl ?_
      refine am_Pn.ia (a := 37) rfl rfl rfl rfl (fun hi => ?_)
      replace h := h (am_in0 hi) (am_in1 hi)
      exact am_Pn.rI h rfl
    · refine am_Pn.bl 2 (y := (24, [some (.ref 0), some (.int x1)], [.int (Int32.ofInt (-1))], sg_h s, 0, 0)) rfl ?_
      exact am_Pn.rI h rfl
def wp_X_can (Ψ : Int32 → sg_S → Prop) (x1 : Int32) (s : sg_S) : Prop := ((x1.toInt < (1) → (Ψ (Int32.ofInt (-1)) s)) ∧ (¬ x1.toInt < (1) → (((48) < x1.toInt → (Ψ (Int32.ofInt (-1)) s)) ∧ (¬ (48) < x1.toInt → (0 ≤ x1.toInt → x1.toInt < (49) → (Ψ (s.2.2.1 38 (x1.toInt.toNat)) s))))))
set_option maxRecDepth 100000 in
theorem wp_X_can_ok {Ψ : Int32 → sg_S → Prop} {x1 : Int32} {s : sg_S} (h : wp_X_can Ψ x1 s) : am_SpI 140 [.ref 0, .int x1] s Ψ := by
  refine am_SpI.mk (r := am_r140) rfl rfl (fun call d al n hcl => ?_)
  unfold wp_X_can at h
  refine am_Pn.bl 2 (y := (2, [some (.ref 0), some (.int x1)], [.int (Int32.ofInt (1)), .int x1], sg_h s, 0, 0)) rfl ?_
  refine am_Pn.bT h (am_blt rfl rfl) rfl rfl (fun h => ?_) (fun h => ?_)
  · refine am_Pn.bl 2 (y := (24, [some (.ref 0), some (.int x1)], [.int (Int32.ofInt (-1))], sg_h s, 0, 0)) rfl ?_
    exact am_Pn.rI h rfl
  · refine am_Pn.bl 2 (y := (8, [some (.ref 0), some (.int x1)], [.int (Int32.ofInt (48)), .int x1], sg_h s, 0, 0)) rfl ?_
    refine am_Pn.bF h (am_ble rfl rfl) rfl rfl (fun h => ?_) (fun h => ?_)
    · refine am_Pn.bl 1 (y := (16, [some (.ref 0), some (.int x1)], [.ref 0], sg_h s, 0, 0)) rfl ?_
      refine am_Pn.gr (k := 6) rfl rfl am_o0 rfl rfl ?_
      refine am_Pn.gr (k := 6) rfl rfl am_o35 rfl rfl ?_
      refine am_Pn.bl 1 (y := (23, [some (.ref 0), some (.int x1)], [.int x1, .ref 38], sg_h s, 0, 0)) rfl ?_
      refine am_Pn.ia (a := 38) rfl rfl rfl rfl (fun hi => ?_)
      replace h := h (am_in0 hi) (am_in1 hi)
      exact am_Pn.rI h rfl
    · refine am_Pn.bl 2 (y := (24, [some (.ref 0), some (.int x1)], [.int (Int32.ofInt (-1))], sg_h s, 0, 0)) rfl ?_
      exact am_Pn.rI h rfl
def wp_X_count (Ψ : Int32 → sg_S → Prop) (x1 : Int32) (s : sg_S) : Prop := ((x1.toInt = (0) → (Ψ (s.1 1 0) s)) ∧ (x1.toInt = (1) → (Ψ (s.1 1 1) s)) ∧ (x1.toInt = (2) → (Ψ (s.1 1 2) s)) ∧ (x1.toInt = (3) → (Ψ (s.1 1 3) s)) ∧ (x1.toInt = (4) → (Ψ (s.1 1 4) s)) ∧ (x1.toInt = (5) → (Ψ (s.1 28 2) s)) ∧ (x1.toInt = (6) → (Ψ (s.1 24 0) s)) ∧ (x1.toInt = (7) → (Ψ (s.1 35 3) s)) ∧ (x1.toInt = (8) → (Ψ (s.1 18 1) s)) ∧ (x1.toInt = (9) → (Ψ (s.1 58 4) s)) ∧ (x1.toInt = (10) → (Ψ (s.1 8 2) s)) ∧ (x1.toInt = (11) → (Ψ (s.1 28 3) s)) ∧ (x1.toInt = (12) → (Ψ (s.1 35 4) s)) ∧ ((x1.toInt < (0) ∨ (12) < x1.toInt) → (Ψ (Int32.ofInt (-1)) s)))
set_option maxRecDepth 100000 in
theorem wp_X_count_ok {Ψ : Int32 → sg_S → Prop} {x1 : Int32} {s : sg_S} (h : wp_X_count Ψ x1 s) : am_SpI 147 [.ref 0, .int x1] s Ψ := by
  refine am_SpI.mk (r := am_r147) rfl rfl (fun call d al n hcl => ?_)
  unfold wp_X_count at h
  refine am_Pn.bl 1 (y := (1, [some (.ref 0), some (.int x1)], [.int x1], sg_h s, 0, 0)) rfl ?_
  by_cases hs2 : x1.toInt = (0)
  · replace h := h.1 hs2
    refine am_Pn.tj (lo := 0) 0 (hs2.trans (by decide)) rfl rfl rfl rfl ?_
    refine am_Pn.bl 1 (y := (69, [some (.ref 0), some (.int x1)], [.ref 0], sg_h s, 0, 0)) rfl ?_
    refine am_Pn.gr (k := 1) rfl rfl am_o0 rfl rfl ?_
    refine am_Pn.gi (k := 0) rfl rfl am_o1 rfl rfl ?_
    exact am_Pn.rI h rfl
  replace h := h.2
  by_cases hs3 : x1.toInt = (1)
  · replace h := h.1 hs3
    refine am_Pn.tj (lo := 0) 1 (hs3.trans (by decide)) rfl rfl rfl rfl ?_
    refine am_Pn.bl 1 (y := (77, [some (.ref 0), some (.int x1)], [.ref 0], sg_h s, 0, 0)) rfl ?_
    refine am_Pn.gr (k := 1) rfl rfl am_o0 rfl rfl ?_
    refine am_Pn.gi (k := 1) rfl rfl am_o1 rfl rfl ?_
    exact am_Pn.rI h rfl
  replace h := h.2
  by_cases hs4 : x1.toInt = (2)
  · replace h := h.1 hs4
    refine am_Pn.tj (lo := 0) 2 (hs4.trans (by decide)) rfl rfl rfl rfl ?_
    refine am_Pn.bl 1 (y := (85, [some (.ref 0), some (.int x1)], [.ref 0], sg_h s, 0, 0)) rfl ?_
    refine am_Pn.gr (k := 1) rfl rfl am_o0 rfl rfl ?_
    refine am_Pn.gi (k := 2) rfl rfl am_o1 rfl rfl ?_
    exact am_Pn.rI h rfl
  replace h := h.2
  by_cases hs5 : x1.toInt = (3)
  · replace h := h.1 hs5
    refine am_Pn.tj (lo := 0) 3 (hs5.trans (by decide)) rfl rfl rfl rfl ?_
    refine am_Pn.bl 1 (y := (93, [some (.ref 0), some (.int x1)], [.ref 0], sg_h s, 0, 0)) rfl ?_
    refine am_Pn.gr (k := 1) rfl rfl am_o0 rfl rfl ?_
    refine am_Pn.gi (k := 3) rfl rfl am_o1 rfl rfl ?_
    exact am_Pn.rI h rfl
  replace h := h.2
  by_cases hs6 : x1.toInt = (4)
  · replace h := h.1 hs6
    refine am_Pn.tj (lo := 0) 4 (hs6.trans (by decide)) rfl rfl rfl rfl ?_
    refine am_Pn.bl 1 (y := (101, [some (.ref 0), some (.int x1)], [.ref 0], sg_h s, 0, 0)) rfl ?_
    refine am_Pn.gr (k := 1) rfl rfl am_o0 rfl rfl ?_
    refine am_Pn.gi (k := 4) rfl rfl am_o1 rfl rfl ?_
    exact am_Pn.rI h rfl
  replace h := h.2
  by_cases hs7 : x1.toInt = (5)
  · replace h := h.1 hs7
    refine am_Pn.tj (lo := 0) 5 (hs7.trans (by decide)) rfl rfl rfl rfl ?_
    refine am_Pn.bl 1 (y := (109, [some (.ref 0), some (.int x1)], [.ref 0], sg_h s, 0, 0)) rfl ?_
    refine am_Pn.gr (k := 5) rfl rfl am_o0 rfl rfl ?_
    refine am_Pn.gi (k := 2) rfl rfl am_o28 rfl rfl ?_
    exact am_Pn.rI h rfl
  replace h := h.2
  by_cases hs8 : x1.toInt = (6)
  · replace h := h.1 hs8
    refine am_Pn.tj (lo := 0) 6 (hs8.trans (by decide)) rfl rfl rfl rfl ?_
    refine am_Pn.bl 1 (y := (117, [some (.ref 0), some (.int x1)], [.ref 0], sg_h s, 0, 0)) rfl ?_
    refine am_Pn.gr (k := 4) rfl rfl am_o0 rfl rfl ?_
    refine am_Pn.gi (k := 0) rfl rfl am_o24 rfl rfl ?_
    exact am_Pn.rI h rfl
  replace h := h.2
  by_cases hs9 : x1.toInt = (7)
  · replace h := h.1 hs9
    refine am_Pn.tj (lo := 0) 7 (hs9.trans (by decide)) rfl rfl rfl rfl ?_
    refine am_Pn.bl 1 (y := (125, [some (.ref 0), some (.int x1)], [.ref 0], sg_h s, 0, 0)) rfl ?_
    refine am_Pn.gr (k := 6) rfl rfl am_o0 rfl rfl ?_
    refine am_Pn.gi (k := 3) rfl rfl am_o35 rfl rfl ?_
    exact am_Pn.rI h rfl
  replace h := h.2
  by_cases hs10 : x1.toInt = (8)
  · replace h := h.1 hs10
    refine am_Pn.tj (lo := 0) 8 (hs10.trans (by decide)) rfl rfl rfl rfl ?_
    refine am_Pn.bl 1 (y := (133, [some (.ref 0), some (.int x1)], [.ref 0], sg_h s, 0, 0)) rfl ?_
    refine am_Pn.gr (k := 2) rfl rfl am_o0 rfl rfl ?_
    refine am_Pn.gi (k := 1) rfl rfl am_o18 rfl rfl ?_
    exact am_Pn.rI h rfl
  replace h := h.2
  by_cases hs11 : x1.toInt = (9)
  · replace h := h.1 hs11
    refine am_Pn.tj (lo := 0) 9 (hs11.trans (by decide)) rfl rfl rfl rfl ?_
    refine am_Pn.bl 1 (y := (141, [some (.ref 0), some (.int x1)], [.ref 0], sg_h s, 0, 0)) rfl ?_
    refine am_Pn.gr (k := 7) rfl rfl am_o0 rfl rfl ?_
    refine am_Pn.gi (k := 4) rfl rfl am_o58 rfl rfl ?_
    exact am_Pn.rI h rfl
  replace h := h.2
  by_cases hs12 : x1.toInt = (10)
  · replace h := h.1 hs12
    refine am_Pn.tj (lo := 0) 10 (hs12.trans (by decide)) rfl rfl rfl rfl ?_
    refine am_Pn.bl 1 (y := (149, [some (.ref 0), some (.int x1)], [.ref 0], sg_h s, 0, 0)) rfl ?_
    refine am_Pn.gr (k := 0) rfl rfl am_o0 rfl rfl ?_
    refine am_Pn.gi (k := 2) rfl rfl am_o8 rfl rfl ?_
    exact am_Pn.rI h rfl
  replace h := h.2
  by_cases hs13 : x1.toInt = (11)
  · replace h := h.1 hs13
    refine am_Pn.tj (lo := 0) 11 (hs13.trans (by decide)) rfl rfl rfl rfl ?_
    refine am_Pn.bl 1 (y := (157, [some (.ref 0), some (.int x1)], [.ref 0], sg_h s, 0, 0)) rfl ?_
    refine am_Pn.gr (k := 5) rfl rfl am_o0 rfl rfl ?_
    refine am_Pn.gi (k := 3) rfl rfl am_o28 rfl rfl ?_
    exact am_Pn.rI h rfl
  replace h := h.2
  by_cases hs14 : x1.toInt = (12)
  · replace h := h.1 hs14
    refine am_Pn.tj (lo := 0) 12 (hs14.trans (by decide)) rfl rfl rfl rfl ?_
    refine am_Pn.bl 1 (y := (165, [some (.ref 0), some (.int x1)], [.ref 0], sg_h s, 0, 0)) rfl ?_
    refine am_Pn.gr (k := 6) rfl rfl am_o0 rfl rfl ?_
    refine am_Pn.gi (k := 4) rfl rfl am_o35 rfl rfl ?_
    exact am_Pn.rI h rfl
  replace h := h.2
  have hsd15 : x1.toInt < (0) ∨ (12) < x1.toInt := by omega
  refine am_Pn.td (lo := 0) (hi := 12) hsd15 rfl rfl ?_
  replace h := h (by omega)
  refine am_Pn.bl 1 (y := (173, [some (.ref 0), some (.int x1)], [.int (Int32.ofInt (-1))], sg_h s, 0, 0)) rfl ?_
  exact am_Pn.rI h rfl
