/-! ===== what X's reader asks, tellings (printed by wip/ab/vg_read.py) ===== -/
def wp_XReader_isOneTooMany (Ψ : Int32 → sg_S → Prop) (x1 : Int32) (s : sg_S) : Prop := ((x1.toInt = (9) → (((s.1 9 0).toInt < (8) → (Ψ (Int32.ofInt (0)) s)) ∧ (¬ (s.1 9 0).toInt < (8) → (Ψ (Int32.ofInt (1)) s)))) ∧ (x1.toInt = (10) → (((s.1 9 1).toInt < (8) → (Ψ (Int32.ofInt (0)) s)) ∧ (¬ (s.1 9 1).toInt < (8) → (Ψ (Int32.ofInt (1)) s)))) ∧ (x1.toInt = (11) → (Ψ (Int32.ofInt (0)) s)) ∧ (x1.toInt = (12) → (Ψ (Int32.ofInt (0)) s)) ∧ ((x1.toInt < (9) ∨ (12) < x1.toInt) → (((s.1 9 2).toInt < (12) → (Ψ (Int32.ofInt (0)) s)) ∧ (¬ (s.1 9 2).toInt < (12) → (Ψ (Int32.ofInt (1)) s)))))
set_option maxRecDepth 100000 in
theorem wp_XReader_isOneTooMany_ok {Ψ : Int32 → sg_S → Prop} {x1 : Int32} {s : sg_S} (h : wp_XReader_isOneTooMany Ψ x1 s) : am_SpI 53 [.ref 8, .int x1] s Ψ := by
  refine am_SpI.mk (r := am_r53) rfl rfl (fun call d al n hcl => ?_)
  unfold wp_XReader_isOneTooMany at h
  refine am_Pn.bl 1 (y := (1, [some (.ref 8), some (.int x1)], [.int x1], sg_h s, 0, 0)) rfl ?_
  by_cases hs2 : x1.toInt = (9)
  · replace h := h.1 hs2
    refine am_Pn.tj 0 hs2 rfl rfl rfl rfl ?_
    refine am_Pn.bl 1 (y := (33, [some (.ref 8), some (.int x1)], [.ref 8], sg_h s, 0, 0)) rfl ?_
    refine am_Pn.gr (k := 0) rfl rfl am_o8 rfl rfl ?_
    refine am_Pn.gi (k := 0) rfl rfl am_o9 rfl rfl ?_
    refine am_Pn.bl 1 (y := (41, [some (.ref 8), some (.int x1)], [.int (Int32.ofInt (8)), .int (s.1 9 0)], sg_h s, 0, 0)) rfl ?_
    refine am_Pn.bT h (am_blt rfl rfl) rfl rfl (fun h => ?_) (fun h => ?_)
    · refine am_Pn.bl 1 (y := (49, [some (.ref 8), some (.int x1)], [.int (Int32.ofInt (0))], sg_h s, 0, 0)) rfl ?_
      exact am_Pn.rI h rfl
    · refine am_Pn.bl 2 (y := (49, [some (.ref 8), some (.int x1)], [.int (Int32.ofInt (1))], sg_h s, 0, 0)) rfl ?_
      exact am_Pn.rI h rfl
  replace h := h.2
  by_cases hs3 : x1.toInt = (10)
  · replace h := h.1 hs3
    refine am_Pn.tj 1 hs3 rfl rfl rfl rfl ?_
    refine am_Pn.bl 1 (y := (51, [some (.ref 8), some (.int x1)], [.ref 8], sg_h s, 0, 0)) rfl ?_
    refine am_Pn.gr (k := 0) rfl rfl am_o8 rfl rfl ?_
    refine am_Pn.gi (k := 1) rfl rfl am_o9 rfl rfl ?_
    refine am_Pn.bl 1 (y := (59, [some (.ref 8), some (.int x1)], [.int (Int32.ofInt (8)), .int (s.1 9 1)], sg_h s, 0, 0)) rfl ?_
    refine am_Pn.bT h (am_blt rfl rfl) rfl rfl (fun h => ?_) (fun h => ?_)
    · refine am_Pn.bl 1 (y := (67, [some (.ref 8), some (.int x1)], [.int (Int32.ofInt (0))], sg_h s, 0, 0)) rfl ?_
      exact am_Pn.rI h rfl
    · refine am_Pn.bl 2 (y := (67, [some (.ref 8), some (.int x1)], [.int (Int32.ofInt (1))], sg_h s, 0, 0)) rfl ?_
      exact am_Pn.rI h rfl
  replace h := h.2
  by_cases hs4 : x1.toInt = (11)
  · replace h := h.1 hs4
    refine am_Pn.tj 2 hs4 rfl rfl rfl rfl ?_
    refine am_Pn.bl 1 (y := (69, [some (.ref 8), some (.int x1)], [.int (Int32.ofInt (0))], sg_h s, 0, 0)) rfl ?_
    exact am_Pn.rI h rfl
  replace h := h.2
  by_cases hs5 : x1.toInt = (12)
  · replace h := h.1 hs5
    refine am_Pn.tj 3 hs5 rfl rfl rfl rfl ?_
    refine am_Pn.bl 1 (y := (71, [some (.ref 8), some (.int x1)], [.int (Int32.ofInt (0))], sg_h s, 0, 0)) rfl ?_
    exact am_Pn.rI h rfl
  replace h := h.2
  refine am_Pn.td (by omega) rfl rfl ?_
  replace h := h (by omega)
  refine am_Pn.bl 1 (y := (73, [some (.ref 8), some (.int x1)], [.ref 8], sg_h s, 0, 0)) rfl ?_
  refine am_Pn.gr (k := 0) rfl rfl am_o8 rfl rfl ?_
  refine am_Pn.gi (k := 2) rfl rfl am_o9 rfl rfl ?_
  refine am_Pn.bl 1 (y := (81, [some (.ref 8), some (.int x1)], [.int (Int32.ofInt (12)), .int (s.1 9 2)], sg_h s, 0, 0)) rfl ?_
  refine am_Pn.bT h (am_blt rfl rfl) rfl rfl (fun h => ?_) (fun h => ?_)
  · refine am_Pn.bl 1 (y := (89, [some (.ref 8), some (.int x1)], [.int (Int32.ofInt (0))], sg_h s, 0, 0)) rfl ?_
    exact am_Pn.rI h rfl
  · refine am_Pn.bl 2 (y := (89, [some (.ref 8), some (.int x1)], [.int (Int32.ofInt (1))], sg_h s, 0, 0)) rfl ?_
    exact am_Pn.rI h rfl
def wp_XReader_readKind (Ψ : sg_S → Prop) (s : sg_S) : Prop := (am_SpL 60 [.ref 8] s (fun x1 s1 => (((s1.1 8 5).toInt = (0) → (am_SpV 67 [.ref 9, .long x1] s1 (fun s2 => (Ψ s2)))) ∧ (¬ (s1.1 8 5).toInt = (0) → (Ψ s1)))))
set_option maxRecDepth 100000 in
theorem wp_XReader_readKind_ok {Ψ : sg_S → Prop} {s : sg_S} (h : wp_XReader_readKind Ψ  s) : am_SpV 59 [.ref 8] s Ψ := by
  refine am_SpV.mk (r := am_r59) rfl rfl (fun call d al n hcl => ?_)
  unfold wp_XReader_readKind at h
  refine am_Pn.bl 1 (y := (1, [some (.ref 8), none, none], [.ref 8], sg_h s, 0, 0)) rfl ?_
  refine am_Pn.cvL hcl h rfl rfl rfl rfl rfl (fun x1 s1 h => ?_)
  refine am_Pn.bl 2 (y := (6, [some (.ref 8), some (.long x1), none], [.ref 8], sg_h s1, 0, 0)) rfl ?_
  refine am_Pn.gi (k := 5) rfl rfl am_o8 rfl rfl ?_
  refine am_Pn.zF h (am_bne rfl rfl) rfl rfl (fun h => ?_) (fun h => ?_)
  · exact am_Pn.rV h rfl
  · refine am_Pn.bl 1 (y := (13, [some (.ref 8), some (.long x1), none], [.ref 8], sg_h s1, 0, 0)) rfl ?_
    refine am_Pn.gr (k := 0) rfl rfl am_o8 rfl rfl ?_
    refine am_Pn.bl 1 (y := (17, [some (.ref 8), some (.long x1), none], [.long x1, .ref 9], sg_h s1, 0, 0)) rfl ?_
    refine am_Pn.cvV hcl h rfl rfl rfl rfl rfl (fun s2 h => ?_)
    exact am_Pn.rV h rfl
def wp_XReader_readGroup_19 (I19 : Int64 → Int32 → Int32 →  sg_S → Prop) (I63 : Int64 → Int32 →  sg_S → Prop) (Ψ : sg_S → Prop) (l1 : Int64) (l3 : Int32) (l4 : Int32) (s : sg_S) : Prop := ((l4.toInt < (s.1 8 2).toInt → (((s.1 8 5).toInt = (0) → (am_SpI 62 [.ref 8, .int (Int32.ofInt (44))] s (fun x4 s4 => ((x4.toInt = (0) → (I63 l1 l3 s4)) ∧ (¬ x4.toInt = (0) → (am_SpV 56 [.ref 8, .int (Int32.ofInt (44))] s4 (fun s5 => (am_SpI 57 [.ref 8] s5 (fun x6 s6 => (I19 l1 (l3 ||| x6) (l4 + Int32.ofInt (1)) s6)))))))))) ∧ (¬ (s.1 8 5).toInt = (0) → (I63 l1 l3 s)))) ∧ (¬ l4.toInt < (s.1 8 2).toInt → (I63 l1 l3 s)))
def wp_XReader_readGroup_63 (I19 : Int64 → Int32 → Int32 →  sg_S → Prop) (I63 : Int64 → Int32 →  sg_S → Prop) (Ψ : sg_S → Prop) (l1 : Int64) (l3 : Int32) (s : sg_S) : Prop := (((s.1 8 5).toInt = (0) → (am_SpV 69 [.ref 9, .long l1, .int l3] s (fun s7 => (Ψ s7)))) ∧ (¬ (s.1 8 5).toInt = (0) → (Ψ s)))
def wp_XReader_readGroup (I19 : Int64 → Int32 → Int32 →  sg_S → Prop) (I63 : Int64 → Int32 →  sg_S → Prop) (Ψ : sg_S → Prop) (s : sg_S) : Prop := (am_SpL 60 [.ref 8] s (fun x1 s1 => (am_SpV 56 [.ref 8, .int (Int32.ofInt (61))] s1 (fun s2 => (am_SpI 57 [.ref 8] s2 (fun x3 s3 => (I19 x1 x3 (Int32.ofInt (0)) s3)))))))
set_option maxRecDepth 100000 in
theorem wp_XReader_readGroup_ok {I19 : Int64 → Int32 → Int32 →  sg_S → Prop} {I63 : Int64 → Int32 →  sg_S → Prop} {Ψ : sg_S → Prop} {s : sg_S} (k19 : ∀ (l1 : Int64) (l3 : Int32) (l4 : Int32) (s : sg_S), I19 l1 l3 l4 s → wp_XReader_readGroup_19 I19 I63 Ψ  l1 l3 l4 s) (k63 : ∀ (l1 : Int64) (l3 : Int32) (s : sg_S), I63 l1 l3 s → wp_XReader_readGroup_63 I19 I63 Ψ  l1 l3 s) (h : wp_XReader_readGroup I19 I63 Ψ  s) : am_SpV 61 [.ref 8] s Ψ := by
  refine am_SpV.mk (r := am_r61) rfl rfl (fun call d al n hcl => ?_)
  have key : ∀ n, (∀ (l1 : Int64) (l3 : Int32) (l4 : Int32) (s : sg_S), I19 l1 l3 l4 s → am_Pn call d (0, fun _ => 0) al am_r61 (am_PhV am_r61 Ψ) n (19, [some (.ref 8), some (.long l1), none, some (.int l3), some (.int l4)], [], sg_h s, 0, 0)) ∧ (∀ (o4 : Option Value) (l1 : Int64) (l3 : Int32) (s : sg_S), I63 l1 l3 s → am_Pn call d (0, fun _ => 0) al am_r61 (am_PhV am_r61 Ψ) n (63, [some (.ref 8), some (.long l1), none, some (.int l3), o4], [], sg_h s, 0, 0)) := by
    intro n
    induction n with
    | zero => exact ⟨fun _ _ _ _ _ => am_Pn.zero, fun _ _ _ _ _ => am_Pn.zero⟩
    | succ n ih =>
      refine ⟨?_, ?_⟩
      · intro l1 l3 l4 s h
        replace h := k19 l1 l3 l4 s h
        unfold wp_XReader_readGroup_19 at h
        refine am_Pn.bl1 1 (y := (22, [some (.ref 8), some (.long l1), none, some (.int l3), some (.int l4)], [.ref 8, .int l4], sg_h s, 0, 0)) rfl ?_
        refine am_Pn.gi (k := 2) rfl rfl am_o8 rfl rfl ?_
        refine am_Pn.bF h (am_bge rfl rfl) rfl rfl (fun h => ?_) (fun h => ?_)
        · exact (ih.2) (some (.int l4)) l1 l3 s h
        · refine am_Pn.bl 1 (y := (29, [some (.ref 8), some (.long l1), none, some (.int l3), some (.int l4)], [.ref 8], sg_h s, 0, 0)) rfl ?_
          refine am_Pn.gi (k := 5) rfl rfl am_o8 rfl rfl ?_
          refine am_Pn.zF h (am_bne rfl rfl) rfl rfl (fun h => ?_) (fun h => ?_)
          · exact (ih.2) (some (.int l4)) l1 l3 s h
          · refine am_Pn.bl 2 (y := (38, [some (.ref 8), some (.long l1), none, some (.int l3), some (.int l4)], [.int (Int32.ofInt (44)), .ref 8], sg_h s, 0, 0)) rfl ?_
            refine am_Pn.cvI hcl h rfl rfl rfl rfl rfl (fun x4 s4 h => ?_)
            refine am_Pn.zT h (am_beq rfl rfl) rfl rfl (fun h => ?_) (fun h => ?_)
            · exact (ih.2) (some (.int l4)) l1 l3 s4 h
            · refine am_Pn.bl 2 (y := (47, [some (.ref 8), some (.long l1), none, some (.int l3), some (.int l4)], [.int (Int32.ofInt (44)), .ref 8], sg_h s4, 0, 0)) rfl ?_
              refine am_Pn.cvV hcl h rfl rfl rfl rfl rfl (fun s5 h => ?_)
              refine am_Pn.bl 2 (y := (52, [some (.ref 8), some (.long l1), none, some (.int l3), some (.int l4)], [.ref 8, .int l3], sg_h s5, 0, 0)) rfl ?_
              refine am_Pn.cvI hcl h rfl rfl rfl rfl rfl (fun x6 s6 h => ?_)
              refine am_Pn.bl 4 (y := (19, [some (.ref 8), some (.long l1), none, some (.int (l3 ||| x6)), some (.int (l4 + Int32.ofInt (1)))], [], sg_h s6, 0, 0)) rfl ?_
              exact (ih.1) l1 (l3 ||| x6) (l4 + Int32.ofInt (1)) s6 h
      · intro o4 l1 l3 s h
        replace h := k63 l1 l3 s h
        unfold wp_XReader_readGroup_63 at h
        refine am_Pn.bl1 0 (y := (64, [some (.ref 8), some (.long l1), none, some (.int l3), o4], [.ref 8], sg_h s, 0, 0)) rfl ?_
        refine am_Pn.gi (k := 5) rfl rfl am_o8 rfl rfl ?_
        refine am_Pn.zF h (am_bne rfl rfl) rfl rfl (fun h => ?_) (fun h => ?_)
        · exact am_Pn.rV h rfl
        · refine am_Pn.bl 1 (y := (71, [some (.ref 8), some (.long l1), none, some (.int l3), o4], [.ref 8], sg_h s, 0, 0)) rfl ?_
          refine am_Pn.gr (k := 0) rfl rfl am_o8 rfl rfl ?_
          refine am_Pn.bl 2 (y := (76, [some (.ref 8), some (.long l1), none, some (.int l3), o4], [.int l3, .long l1, .ref 9], sg_h s, 0, 0)) rfl ?_
          refine am_Pn.cvV hcl h rfl rfl rfl rfl rfl (fun s7 h => ?_)
          exact am_Pn.rV h rfl
  unfold wp_XReader_readGroup at h
  refine am_Pn.bl 1 (y := (1, [some (.ref 8), none, none, none, none], [.ref 8], sg_h s, 0, 0)) rfl ?_
  refine am_Pn.cvL hcl h rfl rfl rfl rfl rfl (fun x1 s1 h => ?_)
  refine am_Pn.bl 3 (y := (8, [some (.ref 8), some (.long x1), none, none, none], [.int (Int32.ofInt (61)), .ref 8], sg_h s1, 0, 0)) rfl ?_
  refine am_Pn.cvV hcl h rfl rfl rfl rfl rfl (fun s2 h => ?_)
  refine am_Pn.bl 1 (y := (12, [some (.ref 8), some (.long x1), none, none, none], [.ref 8], sg_h s2, 0, 0)) rfl ?_
  refine am_Pn.cvI hcl h rfl rfl rfl rfl rfl (fun x3 s3 h => ?_)
  refine am_Pn.bl 3 (y := (19, [some (.ref 8), some (.long x1), none, some (.int x3), some (.int (Int32.ofInt (0)))], [], sg_h s3, 0, 0)) rfl ?_
  exact ((key n).1) x1 x3 (Int32.ofInt (0)) s3 h
def wp_XReader_readRule_173 (I173 : Int32 → Int32 → Int32 →  sg_S → Prop) (Ψ : sg_S → Prop) (x1 : Int32) (l2 : Int32) (l3 : Int32) (l4 : Int32) (s : sg_S) : Prop := (((s.1 8 5).toInt = (0) → (am_SpV 66 [.ref 9, .int x1, .int l2, .int l3, .int l4] s (fun s28 => (Ψ s28)))) ∧ (¬ (s.1 8 5).toInt = (0) → (Ψ s)))
def wp_XReader_readRule (I173 : Int32 → Int32 → Int32 →  sg_S → Prop) (Ψ : sg_S → Prop) (x1 : Int32) (s : sg_S) : Prop := ((x1.toInt = (0) → (am_SpI 55 [.ref 8, .int (Int32.ofInt (1)), .int (Int32.ofInt (48))] s (fun x3 s3 => (am_SpV 56 [.ref 8, .int (Int32.ofInt (45))] s3 (fun s4 => (am_SpI 55 [.ref 8, .int x3, .int (Int32.ofInt (48))] s4 (fun x5 s5 => (am_SpI 57 [.ref 8] s5 (fun x6 s6 => (I173 x6 x3 x5 s6)))))))))) ∧ (x1.toInt = (1) → (am_SpI 55 [.ref 8, .int (Int32.ofInt (1)), .int (Int32.ofInt (48))] s (fun x8 s8 => (am_SpV 56 [.ref 8, .int (Int32.ofInt (45))] s8 (fun s9 => (am_SpI 55 [.ref 8, .int x8, .int (Int32.ofInt (48))] s9 (fun x10 s10 => (am_SpI 57 [.ref 8] s10 (fun x11 s11 => (I173 x11 x8 x10 s11)))))))))) ∧ (x1.toInt = (2) → (am_SpI 57 [.ref 8] s (fun x13 s13 => (am_SpI 55 [.ref 8, .int (Int32.ofInt (1)), .int (Int32.ofInt (9))] s13 (fun x14 s14 => (am_SpV 56 [.ref 8, .int (Int32.ofInt (45))] s14 (fun s15 => (am_SpI 55 [.ref 8, .int x14, .int (Int32.ofInt (9))] s15 (fun x16 s16 => (I173 x13 x14 x16 s16)))))))))) ∧ (x1.toInt = (3) → (am_SpI 57 [.ref 8] s (fun x18 s18 => (am_SpI 55 [.ref 8, .int (Int32.ofInt (1)), .int (Int32.ofInt (9))] s18 (fun x19 s19 => (I173 x18 x19 (Int32.ofInt (0)) s19)))))) ∧ (x1.toInt = (4) → (am_SpI 57 [.ref 8] s (fun x21 s21 => (am_SpI 55 [.ref 8, .int (Int32.ofInt (0)), .int (Int32.ofInt (48))] s21 (fun x22 s22 => (I173 x21 x22 (Int32.ofInt (0)) s22)))))) ∧ (x1.toInt = (5) → (am_SpI 57 [.ref 8] s (fun x24 s24 => (am_SpI 55 [.ref 8, .int (Int32.ofInt (1)), .int (Int32.ofInt (48))] s24 (fun x25 s25 => (I173 x24 x25 (Int32.ofInt (0)) s25)))))) ∧ (x1.toInt = (6) → (am_SpI 55 [.ref 8, .int (Int32.ofInt (1)), .int (Int32.ofInt (9))] s (fun x27 s27 => (I173 (Int32.ofInt (0)) x27 (Int32.ofInt (0)) s27)))) ∧ ((x1.toInt < (0) ∨ (6) < x1.toInt) → (I173 (Int32.ofInt (0)) (Int32.ofInt (0)) (Int32.ofInt (0)) s)))
set_option maxRecDepth 100000 in
theorem wp_XReader_readRule_ok {I173 : Int32 → Int32 → Int32 →  sg_S → Prop} {Ψ : sg_S → Prop} {x1 : Int32} {s : sg_S} (k173 : ∀ (l2 : Int32) (l3 : Int32) (l4 : Int32) (s : sg_S), I173 l2 l3 l4 s → wp_XReader_readRule_173 I173 Ψ x1 l2 l3 l4 s) (h : wp_XReader_readRule I173 Ψ x1 s) : am_SpV 54 [.ref 8, .int x1] s Ψ := by
  refine am_SpV.mk (r := am_r54) rfl rfl (fun call d al n hcl => ?_)
  have key : ∀ n, (∀ (l2 : Int32) (l3 : Int32) (l4 : Int32) (s : sg_S), I173 l2 l3 l4 s → am_Pn call d (0, fun _ => 0) al am_r54 (am_PhV am_r54 Ψ) n (173, [some (.ref 8), some (.int x1), some (.int l2), some (.int l3), some (.int l4)], [], sg_h s, 0, 0)) := by
    intro n
    induction n with
    | zero => exact fun _ _ _ _ _ => am_Pn.zero
    | succ n ih =>
      intro l2 l3 l4 s h
      replace h := k173 l2 l3 l4 s h
      unfold wp_XReader_readRule_173 at h
      refine am_Pn.bl1 0 (y := (174, [some (.ref 8), some (.int x1), some (.int l2), some (.int l3), some (.int l4)], [.ref 8], sg_h s, 0, 0)) rfl ?_
      refine am_Pn.gi (k := 5) rfl rfl am_o8 rfl rfl ?_
      refine am_Pn.zF h (am_bne rfl rfl) rfl rfl (fun h => ?_) (fun h => ?_)
      · exact am_Pn.rV h rfl
      · refine am_Pn.bl 1 (y := (181, [some (.ref 8), some (.int x1), some (.int l2), some (.int l3), some (.int l4)], [.ref 8], sg_h s, 0, 0)) rfl ?_
        refine am_Pn.gr (k := 0) rfl rfl am_o8 rfl rfl ?_
        refine am_Pn.bl 4 (y := (189, [some (.ref 8), some (.int x1), some (.int l2), some (.int l3), some (.int l4)], [.int l4, .int l3, .int l2, .int x1, .ref 9], sg_h s, 0, 0)) rfl ?_
        refine am_Pn.cvV hcl h rfl rfl rfl rfl rfl (fun s28 h => ?_)
        exact am_Pn.rV h rfl
  unfold wp_XReader_readRule at h
  refine am_Pn.bl 7 (y := (8, [some (.ref 8), some (.int x1), some (.int (Int32.ofInt (0))), some (.int (Int32.ofInt (0))), some (.int (Int32.ofInt (0)))], [.int x1], sg_h s, 0, 0)) rfl ?_
  by_cases hs2 : x1.toInt = (0)
  · replace h := h.1 hs2
    refine am_Pn.tj 0 hs2 rfl rfl rfl rfl ?_
    refine am_Pn.bl 3 (y := (56, [some (.ref 8), some (.int x1), some (.int (Int32.ofInt (0))), some (.int (Int32.ofInt (0))), some (.int (Int32.ofInt (0)))], [.int (Int32.ofInt (48)), .int (Int32.ofInt (1)), .ref 8], sg_h s, 0, 0)) rfl ?_
    refine am_Pn.cvI hcl h rfl rfl rfl rfl rfl (fun x3 s3 h => ?_)
    refine am_Pn.bl 3 (y := (63, [some (.ref 8), some (.int x1), some (.int (Int32.ofInt (0))), some (.int x3), some (.int (Int32.ofInt (0)))], [.int (Int32.ofInt (45)), .ref 8], sg_h s3, 0, 0)) rfl ?_
    refine am_Pn.cvV hcl h rfl rfl rfl rfl rfl (fun s4 h => ?_)
    refine am_Pn.bl 3 (y := (70, [some (.ref 8), some (.int x1), some (.int (Int32.ofInt (0))), some (.int x3), some (.int (Int32.ofInt (0)))], [.int (Int32.ofInt (48)), .int x3, .ref 8], sg_h s4, 0, 0)) rfl ?_
    refine am_Pn.cvI hcl h rfl rfl rfl rfl rfl (fun x5 s5 h => ?_)
    refine am_Pn.bl 2 (y := (76, [some (.ref 8), some (.int x1), some (.int (Int32.ofInt (0))), some (.int x3), some (.int x5)], [.ref 8], sg_h s5, 0, 0)) rfl ?_
    refine am_Pn.cvI hcl h rfl rfl rfl rfl rfl (fun x6 s6 h => ?_)
    refine am_Pn.bl 2 (y := (173, [some (.ref 8), some (.int x1), some (.int x6), some (.int x3), some (.int x5)], [], sg_h s6, 0, 0)) rfl ?_
    exact ((key n)) x6 x3 x5 s6 h
  replace h := h.2
  by_cases hs7 : x1.toInt = (1)
  · replace h := h.1 hs7
    refine am_Pn.tj 1 hs7 rfl rfl rfl rfl ?_
    refine am_Pn.bl 3 (y := (56, [some (.ref 8), some (.int x1), some (.int (Int32.ofInt (0))), some (.int (Int32.ofInt (0))), some (.int (Int32.ofInt (0)))], [.int (Int32.ofInt (48)), .int (Int32.ofInt (1)), .ref 8], sg_h s, 0, 0)) rfl ?_
    refine am_Pn.cvI hcl h rfl rfl rfl rfl rfl (fun x8 s8 h => ?_)
    refine am_Pn.bl 3 (y := (63, [some (.ref 8), some (.int x1), some (.int (Int32.ofInt (0))), some (.int x8), some (.int (Int32.ofInt (0)))], [.int (Int32.ofInt (45)), .ref 8], sg_h s8, 0, 0)) rfl ?_
    refine am_Pn.cvV hcl h rfl rfl rfl rfl rfl (fun s9 h => ?_)
    refine am_Pn.bl 3 (y := (70, [some (.ref 8), some (.int x1), some (.int (Int32.ofInt (0))), some (.int x8), some (.int (Int32.ofInt (0)))], [.int (Int32.ofInt (48)), .int x8, .ref 8], sg_h s9, 0, 0)) rfl ?_
    refine am_Pn.cvI hcl h rfl rfl rfl rfl rfl (fun x10 s10 h => ?_)
    refine am_Pn.bl 2 (y := (76, [some (.ref 8), some (.int x1), some (.int (Int32.ofInt (0))), some (.int x8), some (.int x10)], [.ref 8], sg_h s10, 0, 0)) rfl ?_
    refine am_Pn.cvI hcl h rfl rfl rfl rfl rfl (fun x11 s11 h => ?_)
    refine am_Pn.bl 2 (y := (173, [some (.ref 8), some (.int x1), some (.int x11), some (.int x8), some (.int x10)], [], sg_h s11, 0, 0)) rfl ?_
    exact ((key n)) x11 x8 x10 s11 h
  replace h := h.2
  by_cases hs12 : x1.toInt = (2)
  · replace h := h.1 hs12
    refine am_Pn.tj 2 hs12 rfl rfl rfl rfl ?_
    refine am_Pn.bl 1 (y := (84, [some (.ref 8), some (.int x1), some (.int (Int32.ofInt (0))), some (.int (Int32.ofInt (0))), some (.int (Int32.ofInt (0)))], [.ref 8], sg_h s, 0, 0)) rfl ?_
    refine am_Pn.cvI hcl h rfl rfl rfl rfl rfl (fun x13 s13 h => ?_)
    refine am_Pn.bl 4 (y := (92, [some (.ref 8), some (.int x1), some (.int x13), some (.int (Int32.ofInt (0))), some (.int (Int32.ofInt (0)))], [.int (Int32.ofInt (9)), .int (Int32.ofInt (1)), .ref 8], sg_h s13, 0, 0)) rfl ?_
    refine am_Pn.cvI hcl h rfl rfl rfl rfl rfl (fun x14 s14 h => ?_)
    refine am_Pn.bl 3 (y := (99, [some (.ref 8), some (.int x1), some (.int x13), some (.int x14), some (.int (Int32.ofInt (0)))], [.int (Int32.ofInt (45)), .ref 8], sg_h s14, 0, 0)) rfl ?_
    refine am_Pn.cvV hcl h rfl rfl rfl rfl rfl (fun s15 h => ?_)
    refine am_Pn.bl 3 (y := (106, [some (.ref 8), some (.int x1), some (.int x13), some (.int x14), some (.int (Int32.ofInt (0)))], [.int (Int32.ofInt (9)), .int x14, .ref 8], sg_h s15, 0, 0)) rfl ?_
    refine am_Pn.cvI hcl h rfl rfl rfl rfl rfl (fun x16 s16 h => ?_)
    refine am_Pn.bl 2 (y := (173, [some (.ref 8), some (.int x1), some (.int x13), some (.int x14), some (.int x16)], [], sg_h s16, 0, 0)) rfl ?_
    exact ((key n)) x13 x14 x16 s16 h
  replace h := h.2
  by_cases hs17 : x1.toInt = (3)
  · replace h := h.1 hs17
    refine am_Pn.tj 3 hs17 rfl rfl rfl rfl ?_
    refine am_Pn.bl 1 (y := (115, [some (.ref 8), some (.int x1), some (.int (Int32.ofInt (0))), some (.int (Int32.ofInt (0))), some (.int (Int32.ofInt (0)))], [.ref 8], sg_h s, 0, 0)) rfl ?_
    refine am_Pn.cvI hcl h rfl rfl rfl rfl rfl (fun x18 s18 h => ?_)
    refine am_Pn.bl 4 (y := (123, [some (.ref 8), some (.int x1), some (.int x18), some (.int (Int32.ofInt (0))), some (.int (Int32.ofInt (0)))], [.int (Int32.ofInt (9)), .int (Int32.ofInt (1)), .ref 8], sg_h s18, 0, 0)) rfl ?_
    refine am_Pn.cvI hcl h rfl rfl rfl rfl rfl (fun x19 s19 h => ?_)
    refine am_Pn.bl 2 (y := (173, [some (.ref 8), some (.int x1), some (.int x18), some (.int x19), some (.int (Int32.ofInt (0)))], [], sg_h s19, 0, 0)) rfl ?_
    exact ((key n)) x18 x19 (Int32.ofInt (0)) s19 h
  replace h := h.2
  by_cases hs20 : x1.toInt = (4)
  · replace h := h.1 hs20
    refine am_Pn.tj 4 hs20 rfl rfl rfl rfl ?_
    refine am_Pn.bl 1 (y := (131, [some (.ref 8), some (.int x1), some (.int (Int32.ofInt (0))), some (.int (Int32.ofInt (0))), some (.int (Int32.ofInt (0)))], [.ref 8], sg_h s, 0, 0)) rfl ?_
    refine am_Pn.cvI hcl h rfl rfl rfl rfl rfl (fun x21 s21 h => ?_)
    refine am_Pn.bl 4 (y := (139, [some (.ref 8), some (.int x1), some (.int x21), some (.int (Int32.ofInt (0))), some (.int (Int32.ofInt (0)))], [.int (Int32.ofInt (48)), .int (Int32.ofInt (0)), .ref 8], sg_h s21, 0, 0)) rfl ?_
    refine am_Pn.cvI hcl h rfl rfl rfl rfl rfl (fun x22 s22 h => ?_)
    refine am_Pn.bl 2 (y := (173, [some (.ref 8), some (.int x1), some (.int x21), some (.int x22), some (.int (Int32.ofInt (0)))], [], sg_h s22, 0, 0)) rfl ?_
    exact ((key n)) x21 x22 (Int32.ofInt (0)) s22 h
  replace h := h.2
  by_cases hs23 : x1.toInt = (5)
  · replace h := h.1 hs23
    refine am_Pn.tj 5 hs23 rfl rfl rfl rfl ?_
    refine am_Pn.bl 1 (y := (147, [some (.ref 8), some (.int x1), some (.int (Int32.ofInt (0))), some (.int (Int32.ofInt (0))), some (.int (Int32.ofInt (0)))], [.ref 8], sg_h s, 0, 0)) rfl ?_
    refine am_Pn.cvI hcl h rfl rfl rfl rfl rfl (fun x24 s24 h => ?_)
    refine am_Pn.bl 4 (y := (155, [some (.ref 8), some (.int x1), some (.int x24), some (.int (Int32.ofInt (0))), some (.int (Int32.ofInt (0)))], [.int (Int32.ofInt (48)), .int (Int32.ofInt (1)), .ref 8], sg_h s24, 0, 0)) rfl ?_
    refine am_Pn.cvI hcl h rfl rfl rfl rfl rfl (fun x25 s25 h => ?_)
    refine am_Pn.bl 2 (y := (173, [some (.ref 8), some (.int x1), some (.int x24), some (.int x25), some (.int (Int32.ofInt (0)))], [], sg_h s25, 0, 0)) rfl ?_
    exact ((key n)) x24 x25 (Int32.ofInt (0)) s25 h
  replace h := h.2
  by_cases hs26 : x1.toInt = (6)
  · replace h := h.1 hs26
    refine am_Pn.tj 6 hs26 rfl rfl rfl rfl ?_
    refine am_Pn.bl 3 (y := (166, [some (.ref 8), some (.int x1), some (.int (Int32.ofInt (0))), some (.int (Int32.ofInt (0))), some (.int (Int32.ofInt (0)))], [.int (Int32.ofInt (9)), .int (Int32.ofInt (1)), .ref 8], sg_h s, 0, 0)) rfl ?_
    refine am_Pn.cvI hcl h rfl rfl rfl rfl rfl (fun x27 s27 h => ?_)
    refine am_Pn.bl 2 (y := (173, [some (.ref 8), some (.int x1), some (.int (Int32.ofInt (0))), some (.int x27), some (.int (Int32.ofInt (0)))], [], sg_h s27, 0, 0)) rfl ?_
    exact ((key n)) (Int32.ofInt (0)) x27 (Int32.ofInt (0)) s27 h
  replace h := h.2
  refine am_Pn.td (by omega) rfl rfl ?_
  replace h := h (by omega)
  exact ((key n)) (Int32.ofInt (0)) (Int32.ofInt (0)) (Int32.ofInt (0)) s h
def wp_XReader_readOther (Ψ : sg_S → Prop) (x1 : Int32) (s : sg_S) : Prop := ((x1.toInt = (9) → (am_SpV 59 [.ref 8] s (fun s3 => (Ψ s3)))) ∧ (x1.toInt = (10) → (am_SpV 61 [.ref 8] s (fun s5 => (Ψ s5)))) ∧ (x1.toInt = (11) → (am_SpI 55 [.ref 8, .int (Int32.ofInt (1)), .int (Int32.ofInt (48))] s (fun x7 s7 => (Ψ (sg_uI s7 9 3 x7))))) ∧ ((x1.toInt < (9) ∨ (11) < x1.toInt) → (am_SpI 55 [.ref 8, .int (Int32.ofInt (1)), .int (Int32.ofInt (99))] s (fun x8 s8 => (Ψ (sg_uI s8 9 4 x8))))))
set_option maxRecDepth 100000 in
theorem wp_XReader_readOther_ok {Ψ : sg_S → Prop} {x1 : Int32} {s : sg_S} (h : wp_XReader_readOther Ψ x1 s) : am_SpV 58 [.ref 8, .int x1] s Ψ := by
  refine am_SpV.mk (r := am_r58) rfl rfl (fun call d al n hcl => ?_)
  unfold wp_XReader_readOther at h
  refine am_Pn.bl 1 (y := (1, [some (.ref 8), some (.int x1)], [.int x1], sg_h s, 0, 0)) rfl ?_
  by_cases hs2 : x1.toInt = (9)
  · replace h := h.1 hs2
    refine am_Pn.tj 0 hs2 rfl rfl rfl rfl ?_
    refine am_Pn.bl 1 (y := (29, [some (.ref 8), some (.int x1)], [.ref 8], sg_h s, 0, 0)) rfl ?_
    refine am_Pn.cvV hcl h rfl rfl rfl rfl rfl (fun s3 h => ?_)
    refine am_Pn.bl 1 (y := (73, [some (.ref 8), some (.int x1)], [], sg_h s3, 0, 0)) rfl ?_
    exact am_Pn.rV h rfl
  replace h := h.2
  by_cases hs4 : x1.toInt = (10)
  · replace h := h.1 hs4
    refine am_Pn.tj 1 hs4 rfl rfl rfl rfl ?_
    refine am_Pn.bl 1 (y := (36, [some (.ref 8), some (.int x1)], [.ref 8], sg_h s, 0, 0)) rfl ?_
    refine am_Pn.cvV hcl h rfl rfl rfl rfl rfl (fun s5 h => ?_)
    refine am_Pn.bl 1 (y := (73, [some (.ref 8), some (.int x1)], [], sg_h s5, 0, 0)) rfl ?_
    exact am_Pn.rV h rfl
  replace h := h.2
  by_cases hs6 : x1.toInt = (11)
  · replace h := h.1 hs6
    refine am_Pn.tj 2 hs6 rfl rfl rfl rfl ?_
    refine am_Pn.bl 1 (y := (43, [some (.ref 8), some (.int x1)], [.ref 8], sg_h s, 0, 0)) rfl ?_
    refine am_Pn.gr (k := 0) rfl rfl am_o8 rfl rfl ?_
    refine am_Pn.bl 3 (y := (50, [some (.ref 8), some (.int x1)], [.int (Int32.ofInt (48)), .int (Int32.ofInt (1)), .ref 8, .ref 9], sg_h s, 0, 0)) rfl ?_
    refine am_Pn.cvI hcl h rfl rfl rfl rfl rfl (fun x7 s7 h => ?_)
    refine am_Pn.pi (k := 3) rfl rfl am_o9 rfl rfl ?_
    refine am_Pn.bl 1 (y := (73, [some (.ref 8), some (.int x1)], [], sg_h (sg_uI s7 9 3 x7), 0, 0)) rfl ?_
    exact am_Pn.rV h rfl
  replace h := h.2
  refine am_Pn.td (by omega) rfl rfl ?_
  replace h := h (by omega)
  refine am_Pn.bl 1 (y := (60, [some (.ref 8), some (.int x1)], [.ref 8], sg_h s, 0, 0)) rfl ?_
  refine am_Pn.gr (k := 0) rfl rfl am_o8 rfl rfl ?_
  refine am_Pn.bl 3 (y := (67, [some (.ref 8), some (.int x1)], [.int (Int32.ofInt (99)), .int (Int32.ofInt (1)), .ref 8, .ref 9], sg_h s, 0, 0)) rfl ?_
  refine am_Pn.cvI hcl h rfl rfl rfl rfl rfl (fun x8 s8 h => ?_)
  refine am_Pn.pi (k := 4) rfl rfl am_o9 rfl rfl ?_
  exact am_Pn.rV h rfl
def wp_XReader_readText_19 (I19 : Int32 →  sg_S → Prop) (I123 :  sg_S → Prop) (I111 : Int32 →  sg_S → Prop) (Ψ : Int32 → sg_S → Prop) (l1 : Int32) (s : sg_S) : Prop := (((s.1 8 2).toInt < l1.toInt → (I123 s)) ∧ (¬ (s.1 8 2).toInt < l1.toInt → (((s.1 8 5).toInt = (0) → (am_SpV 46 [.ref 8] s (fun s2 => (((s2.1 8 6).toInt = (0) → (I123 s2)) ∧ (¬ (s2.1 8 6).toInt = (0) → (((s2.1 8 6).toInt = (1) → (am_SpI 53 [.ref 8, .int (s2.1 8 8)] s2 (fun x3 s3 => ((x3.toInt = (0) → (((8) < (s3.1 8 8).toInt → (am_SpV 58 [.ref 8, .int (s3.1 8 8)] s3 (fun s4 => (I111 l1 s4)))) ∧ (¬ (8) < (s3.1 8 8).toInt → (am_SpV 54 [.ref 8, .int (s3.1 8 8)] s3 (fun s5 => (I111 l1 s5)))))) ∧ (¬ x3.toInt = (0) → (am_SpV 52 [.ref 8, .int (Int32.ofInt (2))] s3 (fun s6 => (I111 l1 s6)))))))) ∧ (¬ (s2.1 8 6).toInt = (1) → (am_SpV 52 [.ref 8, .int (Int32.ofInt (1))] s2 (fun s7 => (I111 l1 s7)))))))))) ∧ (¬ (s.1 8 5).toInt = (0) → (I123 s)))))
def wp_XReader_readText_123 (I19 : Int32 →  sg_S → Prop) (I123 :  sg_S → Prop) (I111 : Int32 →  sg_S → Prop) (Ψ : Int32 → sg_S → Prop) (s : sg_S) : Prop := (Ψ (s.1 8 5) (sg_uI s 8 2 (Int32.ofInt (0))))
def wp_XReader_readText_111 (I19 : Int32 →  sg_S → Prop) (I123 :  sg_S → Prop) (I111 : Int32 →  sg_S → Prop) (Ψ : Int32 → sg_S → Prop) (l1 : Int32) (s : sg_S) : Prop := (am_SpV 56 [.ref 8, .int (Int32.ofInt (59))] s (fun s8 => (I19 (l1 + Int32.ofInt (1)) s8)))
def wp_XReader_readText (I19 : Int32 →  sg_S → Prop) (I123 :  sg_S → Prop) (I111 : Int32 →  sg_S → Prop) (Ψ : Int32 → sg_S → Prop) (s : sg_S) : Prop := (am_SpV 64 [.ref 9] s (fun s1 => (I19 (Int32.ofInt (0)) (sg_uI (sg_uI s1 8 4 (Int32.ofInt (0))) 8 5 (Int32.ofInt (0))))))
set_option maxRecDepth 100000 in
theorem wp_XReader_readText_ok {I19 : Int32 →  sg_S → Prop} {I123 :  sg_S → Prop} {I111 : Int32 →  sg_S → Prop} {Ψ : Int32 → sg_S → Prop} {s : sg_S} (k19 : ∀ (l1 : Int32) (s : sg_S), I19 l1 s → wp_XReader_readText_19 I19 I123 I111 Ψ  l1 s) (k123 : ∀ (s : sg_S), I123  s → wp_XReader_readText_123 I19 I123 I111 Ψ   s) (k111 : ∀ (l1 : Int32) (s : sg_S), I111 l1 s → wp_XReader_readText_111 I19 I123 I111 Ψ  l1 s) (h : wp_XReader_readText I19 I123 I111 Ψ  s) : am_SpI 45 [.ref 8] s Ψ := by
  refine am_SpI.mk (r := am_r45) rfl rfl (fun call d al n hcl => ?_)
  have key : ∀ n, (∀ (l1 : Int32) (s : sg_S), I19 l1 s → am_Pn call d (0, fun _ => 0) al am_r45 (am_PhI am_r45 Ψ) n (19, [some (.ref 8), some (.int l1)], [], sg_h s, 0, 0)) ∧ (∀ (o1 : Option Value) (s : sg_S), I123  s → am_Pn call d (0, fun _ => 0) al am_r45 (am_PhI am_r45 Ψ) n (123, [some (.ref 8), o1], [], sg_h s, 0, 0)) ∧ (∀ (l1 : Int32) (s : sg_S), I111 l1 s → am_Pn call d (0, fun _ => 0) al am_r45 (am_PhI am_r45 Ψ) n (111, [some (.ref 8), some (.int l1)], [], sg_h s, 0, 0)) := by
    intro n
    induction n with
    | zero => exact ⟨fun _ _ _ => am_Pn.zero, fun _ _ _ => am_Pn.zero, fun _ _ _ => am_Pn.zero⟩
    | succ n ih =>
      refine ⟨?_, ?_, ?_⟩
      · intro l1 s h
        replace h := k19 l1 s h
        unfold wp_XReader_readText_19 at h
        refine am_Pn.bl1 1 (y := (21, [some (.ref 8), some (.int l1)], [.ref 8, .int l1], sg_h s, 0, 0)) rfl ?_
        refine am_Pn.gi (k := 2) rfl rfl am_o8 rfl rfl ?_
        refine am_Pn.bT h (am_bgt rfl rfl) rfl rfl (fun h => ?_) (fun h => ?_)
        · exact (ih.2.1) (some (.int l1)) s h
        · refine am_Pn.bl 1 (y := (28, [some (.ref 8), some (.int l1)], [.ref 8], sg_h s, 0, 0)) rfl ?_
          refine am_Pn.gi (k := 5) rfl rfl am_o8 rfl rfl ?_
          refine am_Pn.zF h (am_bne rfl rfl) rfl rfl (fun h => ?_) (fun h => ?_)
          · exact (ih.2.1) (some (.int l1)) s h
          · refine am_Pn.bl 1 (y := (35, [some (.ref 8), some (.int l1)], [.ref 8], sg_h s, 0, 0)) rfl ?_
            refine am_Pn.cvV hcl h rfl rfl rfl rfl rfl (fun s2 h => ?_)
            refine am_Pn.bl 1 (y := (39, [some (.ref 8), some (.int l1)], [.ref 8], sg_h s2, 0, 0)) rfl ?_
            refine am_Pn.gi (k := 6) rfl rfl am_o8 rfl rfl ?_
            refine am_Pn.zF h (am_bne rfl rfl) rfl rfl (fun h => ?_) (fun h => ?_)
            · refine am_Pn.bl 1 (y := (49, [some (.ref 8), some (.int l1)], [.ref 8], sg_h s2, 0, 0)) rfl ?_
              refine am_Pn.gi (k := 6) rfl rfl am_o8 rfl rfl ?_
              refine am_Pn.bl 1 (y := (53, [some (.ref 8), some (.int l1)], [.int (Int32.ofInt (1)), .int (s2.1 8 6)], sg_h s2, 0, 0)) rfl ?_
              refine am_Pn.bT h (am_beq rfl rfl) rfl rfl (fun h => ?_) (fun h => ?_)
              · refine am_Pn.bl 2 (y := (66, [some (.ref 8), some (.int l1)], [.ref 8, .ref 8], sg_h s2, 0, 0)) rfl ?_
                refine am_Pn.gi (k := 8) rfl rfl am_o8 rfl rfl ?_
                refine am_Pn.cvI hcl h rfl rfl rfl rfl rfl (fun x3 s3 h => ?_)
                refine am_Pn.zT h (am_beq rfl rfl) rfl rfl (fun h => ?_) (fun h => ?_)
                · refine am_Pn.bl 1 (y := (84, [some (.ref 8), some (.int l1)], [.ref 8], sg_h s3, 0, 0)) rfl ?_
                  refine am_Pn.gi (k := 8) rfl rfl am_o8 rfl rfl ?_
                  refine am_Pn.bl 1 (y := (89, [some (.ref 8), some (.int l1)], [.int (Int32.ofInt (8)), .int (s3.1 8 8)], sg_h s3, 0, 0)) rfl ?_
                  refine am_Pn.bT h (am_bgt rfl rfl) rfl rfl (fun h => ?_) (fun h => ?_)
                  · refine am_Pn.bl 2 (y := (105, [some (.ref 8), some (.int l1)], [.ref 8, .ref 8], sg_h s3, 0, 0)) rfl ?_
                    refine am_Pn.gi (k := 8) rfl rfl am_o8 rfl rfl ?_
                    refine am_Pn.cvV hcl h rfl rfl rfl rfl rfl (fun s4 h => ?_)
                    exact (ih.2.2) l1 s4 h
                  · refine am_Pn.bl 2 (y := (94, [some (.ref 8), some (.int l1)], [.ref 8, .ref 8], sg_h s3, 0, 0)) rfl ?_
                    refine am_Pn.gi (k := 8) rfl rfl am_o8 rfl rfl ?_
                    refine am_Pn.cvV hcl h rfl rfl rfl rfl rfl (fun s5 h => ?_)
                    refine am_Pn.bl 1 (y := (111, [some (.ref 8), some (.int l1)], [], sg_h s5, 0, 0)) rfl ?_
                    exact (ih.2.2) l1 s5 h
                · refine am_Pn.bl 2 (y := (77, [some (.ref 8), some (.int l1)], [.int (Int32.ofInt (2)), .ref 8], sg_h s3, 0, 0)) rfl ?_
                  refine am_Pn.cvV hcl h rfl rfl rfl rfl rfl (fun s6 h => ?_)
                  refine am_Pn.bl 1 (y := (111, [some (.ref 8), some (.int l1)], [], sg_h s6, 0, 0)) rfl ?_
                  exact (ih.2.2) l1 s6 h
              · refine am_Pn.bl 2 (y := (58, [some (.ref 8), some (.int l1)], [.int (Int32.ofInt (1)), .ref 8], sg_h s2, 0, 0)) rfl ?_
                refine am_Pn.cvV hcl h rfl rfl rfl rfl rfl (fun s7 h => ?_)
                refine am_Pn.bl 1 (y := (111, [some (.ref 8), some (.int l1)], [], sg_h s7, 0, 0)) rfl ?_
                exact (ih.2.2) l1 s7 h
            · refine am_Pn.bl 1 (y := (123, [some (.ref 8), some (.int l1)], [], sg_h s2, 0, 0)) rfl ?_
              exact (ih.2.1) (some (.int l1)) s2 h
      · intro o1 s h
        replace h := k123  s h
        unfold wp_XReader_readText_123 at h
        refine am_Pn.bl1 1 (y := (125, [some (.ref 8), o1], [.int (Int32.ofInt (0)), .ref 8], sg_h s, 0, 0)) rfl ?_
        refine am_Pn.pi (k := 2) rfl rfl am_o8 rfl rfl ?_
        refine am_Pn.bl 1 (y := (129, [some (.ref 8), o1], [.ref 8], sg_h (sg_uI s 8 2 (Int32.ofInt (0))), 0, 0)) rfl ?_
        refine am_Pn.gi (k := 5) rfl rfl am_o8 rfl rfl ?_
        exact am_Pn.rI h rfl
      · intro l1 s h
        replace h := k111 l1 s h
        unfold wp_XReader_readText_111 at h
        refine am_Pn.bl1 1 (y := (114, [some (.ref 8), some (.int l1)], [.int (Int32.ofInt (59)), .ref 8], sg_h s, 0, 0)) rfl ?_
        refine am_Pn.cvV hcl h rfl rfl rfl rfl rfl (fun s8 h => ?_)
        refine am_Pn.bl 2 (y := (19, [some (.ref 8), some (.int (l1 + Int32.ofInt (1)))], [], sg_h s8, 0, 0)) rfl ?_
        exact (ih.1) (l1 + Int32.ofInt (1)) s8 h
  unfold wp_XReader_readText at h
  refine am_Pn.bl 1 (y := (1, [some (.ref 8), none], [.ref 8], sg_h s, 0, 0)) rfl ?_
  refine am_Pn.gr (k := 0) rfl rfl am_o8 rfl rfl ?_
  refine am_Pn.cvV hcl h rfl rfl rfl rfl rfl (fun s1 h => ?_)
  refine am_Pn.bl 2 (y := (9, [some (.ref 8), none], [.int (Int32.ofInt (0)), .ref 8], sg_h s1, 0, 0)) rfl ?_
  refine am_Pn.pi (k := 4) rfl rfl am_o8 rfl rfl ?_
  refine am_Pn.bl 2 (y := (14, [some (.ref 8), none], [.int (Int32.ofInt (0)), .ref 8], sg_h (sg_uI s1 8 4 (Int32.ofInt (0))), 0, 0)) rfl ?_
  refine am_Pn.pi (k := 5) rfl rfl am_o8 rfl rfl ?_
  refine am_Pn.bl 2 (y := (19, [some (.ref 8), some (.int (Int32.ofInt (0)))], [], sg_h (sg_uI (sg_uI s1 8 4 (Int32.ofInt (0))) 8 5 (Int32.ofInt (0))), 0, 0)) rfl ?_
  exact ((key n).1) (Int32.ofInt (0)) (sg_uI (sg_uI s1 8 4 (Int32.ofInt (0))) 8 5 (Int32.ofInt (0))) h
def wp_X_read (Ψ : Int32 → sg_S → Prop) (s : sg_S) : Prop := (am_SpI 45 [.ref 8] s (fun x1 s1 => ((x1.toInt = (0) → (am_SpV 70 [.ref 1, .ref 9] s1 (fun s2 => (am_SpV 121 [.ref 0] s2 (fun s3 => (Ψ x1 s3)))))) ∧ (¬ x1.toInt = (0) → (Ψ x1 s1)))))
set_option maxRecDepth 100000 in
theorem wp_X_read_ok {Ψ : Int32 → sg_S → Prop} {s : sg_S} (h : wp_X_read Ψ  s) : am_SpI 120 [.ref 0] s Ψ := by
  refine am_SpI.mk (r := am_r120) rfl rfl (fun call d al n hcl => ?_)
  unfold wp_X_read at h
  refine am_Pn.bl 1 (y := (1, [some (.ref 0), none], [.ref 0], sg_h s, 0, 0)) rfl ?_
  refine am_Pn.gr (k := 0) rfl rfl am_o0 rfl rfl ?_
  refine am_Pn.cvI hcl h rfl rfl rfl rfl rfl (fun x1 s1 h => ?_)
  refine am_Pn.bl 2 (y := (9, [some (.ref 0), some (.int x1)], [.int x1], sg_h s1, 0, 0)) rfl ?_
  refine am_Pn.zF h (am_bne rfl rfl) rfl rfl (fun h => ?_) (fun h => ?_)
  · refine am_Pn.bl 1 (y := (31, [some (.ref 0), some (.int x1)], [.int x1], sg_h s1, 0, 0)) rfl ?_
    exact am_Pn.rI h rfl
  · refine am_Pn.bl 1 (y := (13, [some (.ref 0), some (.int x1)], [.ref 0], sg_h s1, 0, 0)) rfl ?_
    refine am_Pn.gr (k := 1) rfl rfl am_o0 rfl rfl ?_
    refine am_Pn.bl 1 (y := (17, [some (.ref 0), some (.int x1)], [.ref 0, .ref 1], sg_h s1, 0, 0)) rfl ?_
    refine am_Pn.gr (k := 0) rfl rfl am_o0 rfl rfl ?_
    refine am_Pn.gr (k := 0) rfl rfl am_o8 rfl rfl ?_
    refine am_Pn.cvV hcl h rfl rfl rfl rfl rfl (fun s2 h => ?_)
    refine am_Pn.bl 1 (y := (27, [some (.ref 0), some (.int x1)], [.ref 0], sg_h s2, 0, 0)) rfl ?_
    refine am_Pn.cvV hcl h rfl rfl rfl rfl rfl (fun s3 h => ?_)
    refine am_Pn.bl 1 (y := (31, [some (.ref 0), some (.int x1)], [.int x1], sg_h s3, 0, 0)) rfl ?_
    exact am_Pn.rI h rfl
