/-! ===== turn, pass, back, worn, verseOf, poetOf, ruleOf: both answer alike, and stay alike ===== -/
section TU
variable {s s2 : sg_S} {T : rp_T} {np m : Nat}
theorem cv_len (hok : ab_hok ab_D0 (sg_h s)) (hU : rx_RU T s) : 1 ≤ T.2.2.2.1 ∧ T.2.2.2.1 ≤ 48 := by
  have hl := sg_rgI (a := 1) (k := 3) (lo := 1) (hi := 48) hok am_o1 rfl rfl
  rw [hU.2.2.2.1] at hl
  exact hl
theorem cv_turn (hU : rx_RU T s) (hV : rm_RU T s) (hP : cv_P np m s) (hS : cv_S T m s) : xt_ s np = mt_ s np m := by
  obtain ⟨k0, k1, k2, k3, k4, k5, k6, k7⟩ := hP
  have hw : wt_ (fun i => (s.2.2.1 27 i).toInt) (fun i => (s.2.2.1 26 i).toInt) (fun i => (s.2.2.1 25 i).toInt) np = wt_ (fun i => (s.2.2.1 77 i).toInt) (fun i => tc_ (s.2.2.1 83) m (i : Int)) (fun i => (s.2.2.1 76 i).toInt) np := wt_congr np (fun i hi => ⟨congrArg Int32.toInt (k4 i (by omega)), k6 i (by omega), congrArg Int32.toInt (k3 i hi)⟩)
  have hml := hS.2.2.1
  unfold xt_ mt_
  rw [hS.1, hS.2.1, hU.2.2.2.1, hV.2.2.2.1]
  by_cases c : (m : Int) = T.2.2.2.1
  · rw [if_neg (by omega), if_pos c]
  · rw [if_pos (by omega), if_neg c, hw]
theorem mt_fr {mo : List (Nat × Nat)} {ao : List Nat} (f : sg_fr mo ao s s2) (h1 : (mo.contains (64, 40)) = false) (h2 : (mo.contains (64, 24)) = false) (h3 : (ao.contains 77) = false) (h4 : (ao.contains 83) = false) (h5 : (ao.contains 76) = false) : mt_ s2 np m = mt_ s np m := by
  unfold mt_
  rw [f.i h1, f.i h2, f.a h3, f.a h4, f.a h5]
theorem xt_fr {mo : List (Nat × Nat)} {ao : List Nat} (f : sg_fr mo ao s s2) (h1 : (mo.contains (28, 2)) = false) (h2 : (mo.contains (1, 3)) = false) (h3 : (ao.contains 27) = false) (h4 : (ao.contains 26) = false) (h5 : (ao.contains 25) = false) : xt_ s2 np = xt_ s np := by
  unfold xt_
  rw [f.i h1, f.i h2, f.a h3, f.a h4, f.a h5]
end TU
section PT
variable {h : am_H} {x1 x2 x3 : Int32}
theorem am_pv_turn (hI : am_Iw h) : ∃ r1 r2 h1 h2, am_Do false 19 123 [.ref 0] h (some (.int r1), h1) ∧ ab_hok ab_D0 h1 ∧ am_Do false 19 169 [.ref 64] h1 (some (.int r2), h2) ∧ ab_hok ab_D0 h2 ∧ am_Iw h2 ∧ r1 = r2 := by
  obtain ⟨r1, h1, d1, i1, f1, -⟩ := am_uX_turn hI.1
  obtain ⟨r2, h2, d2, i2, f2, -⟩ := am_uM_turn i1
  refine ⟨r1, r2, h1, h2, d1, i1.1, d2, i2.1, ?_⟩
  obtain ⟨⟨hok, -⟩, s, rfl, hc, hv⟩ := hI
  obtain ⟨T, np, m, hT, hU, hV, hP, hS, hE, hD⟩ := id hv
  have hl := cv_len hok hU
  have hml := hS.2.2.1
  obtain ⟨s1, rfl, p0, p1⟩ := d1.sI (sx_Turn hP.2.1 hP.1)
  subst p0
  obtain ⟨s2, rfl, q0, q1⟩ := d2.sI (sm_Turn hP.2.2.1 hP.1 hS.2.1 (by omega))
  subst q0
  exact ⟨⟨i2, s2, rfl, hc, hv⟩, Int32.toInt_inj.mp (p1.trans ((cv_turn hU hV hP hS).trans q1.symm))⟩
theorem am_pv_pass (hI : am_Iw h) : ∃ r1 r2 h1 h2, am_Do false 19 124 [.ref 0] h (some (.int r1), h1) ∧ ab_hok ab_D0 h1 ∧ am_Do false 19 171 [.ref 64] h1 (some (.int r2), h2) ∧ ab_hok ab_D0 h2 ∧ am_Iw h2 ∧ r1 = r2 := by
  obtain ⟨r1, h1, d1, i1, f1, -⟩ := am_uX_pass hI.1
  obtain ⟨r2, h2, d2, i2, f2, -⟩ := am_uM_pass i1
  refine ⟨r1, r2, h1, h2, d1, i1.1, d2, i2.1, ?_⟩
  obtain ⟨⟨hok, -⟩, s, rfl, hc, hv⟩ := hI
  obtain ⟨T, np, m, hT, hU, hV, hP, hS, hE, hD⟩ := id hv
  have hl := cv_len hok hU
  have hml := hS.2.2.1
  have ht := cv_turn hU hV hP hS
  obtain ⟨s1, rfl, p1, p2⟩ := d1.sI (sx_Pass hP.2.1 hP.1)
  have fr : sg_fr [] [27] s s1 := by
    by_cases c : xt_ s np = -1
    · rw [(p1 c).2]
      exact sg_fr.rf
    · exact (p2 c).1
  have em : mt_ s1 np m = mt_ s np m := mt_fr fr rfl rfl rfl rfl rfl
  obtain ⟨s2, rfl, q1, q2⟩ := d2.sI (sm_Pass (by rw [fr.i rfl]; exact hP.2.2.1) hP.1 (by rw [fr.i rfl]; exact hS.2.1) (by omega))
  rw [em, ← ht] at q1 q2
  by_cases c : xt_ s np = -1
  · obtain ⟨a1, a2⟩ := p1 c
    obtain ⟨b1, b2⟩ := q1 c
    subst a2
    subst b2
    exact ⟨⟨i2, s2, rfl, hc, hv⟩, Int32.toInt_inj.mp (a1.trans b1.symm)⟩
  · obtain ⟨f, a27, y1⟩ := p2 c
    obtain ⟨g, a77, y2⟩ := q2 c
    have hx := xt_lt s np
    have fg : sg_fr [] [27, 77] s s2 := (f.le (by decide) (by decide)).tr (g.le (by decide) (by decide))
    have b27 : s2.2.2.1 27 = pw_ (s.2.2.1 27) np (xt_ s np).toNat := by rw [g.a rfl]; exact a27
    have b77 : s2.2.2.1 77 = pw_ (s.2.2.1 77) np (xt_ s np).toNat := by rw [a77, f.a rfl]
    have hP2 : cv_P np m s2 := by
      obtain ⟨k0, k1, k2, k3, k4, k5, k6, k7⟩ := hP
      refine ⟨k0, by rw [fg.i rfl]; exact k1, by rw [fg.i rfl]; exact k2, by rw [fg.a (b := 25) rfl, fg.a (b := 76) rfl]; exact k3, fun i hi => ?_, fun i h1 h2 => ?_, by rw [fg.a (b := 26) rfl, fg.a (b := 83) rfl]; exact k6, by rw [fg.a (b := 83) rfl]; exact k7⟩
      · rw [b27, b77]
        exact pw_congr k0 k4 i hi
      · rw [b27, pw_hi (by omega) i h1]
        exact k5 i h1 h2
    have hU2 := hU.ag (fg.ag (by decide) (by decide) (by decide))
    have hV2 := hV.ag (fg.ag (by decide) (by decide) (by decide))
    have hS2 := hS.ag (fg.ag (by decide) (by decide) (by decide))
    have ex : xt_ s2 np = xt_ s1 np := xt_fr g rfl rfl rfl rfl rfl
    exact ⟨⟨i2, s2, rfl, hc.ag (fg.ag (by decide) (by decide) (by decide)), T, np, m, hT, hU2, hV2, hP2, hS2, hE.ag (fg.ag (by decide) (by decide) (by decide)), hD.ag (fg.ag (by decide) (by decide) (by decide))⟩, Int32.toInt_inj.mp (y1.trans (ex.symm.trans ((cv_turn hU2 hV2 hP2 hS2).trans y2.symm)))⟩
theorem am_pv_poetOf (hI : am_Iw h) : ∃ r1 r2 h1 h2, am_Do false 19 145 [.ref 0, .int x1, .int x2] h (some (.int r1), h1) ∧ ab_hok ab_D0 h1 ∧ am_Do false 19 210 [.ref 64, .int x1, .int x2] h1 (some (.int r2), h2) ∧ ab_hok ab_D0 h2 ∧ am_Iw h2 ∧ r1 = r2 := by
  obtain ⟨r1, h1, d1, i1, f1, -⟩ := am_uX_poetOf (x1 := x1) (x2 := x2) hI.1
  obtain ⟨r2, h2, d2, i2, f2, -⟩ := am_uM_poetOf (x1 := x1) (x2 := x2) i1
  refine ⟨r1, r2, h1, h2, d1, i1.1, d2, i2.1, ?_⟩
  obtain ⟨⟨hok, -⟩, s, rfl, hc, hv⟩ := hI
  obtain ⟨T, np, m, hT, hU, hV, hP, hS, hE, hD⟩ := id hv
  have hl := cv_len hok hU
  have hml := hS.2.2.1
  obtain ⟨s1, rfl, p0, p1⟩ := d1.sI (sx_PoetOf hP.2.1)
  subst p0
  obtain ⟨s2, rfl, q0, q1⟩ := d2.sI (sm_PoetOf hP.2.2.1 hP.1 hS.2.1 (by omega))
  subst q0
  obtain ⟨k0, k1, k2, k3, k4, k5, k6, k7⟩ := hP
  exact ⟨⟨i2, s2, rfl, hc, hv⟩, Int32.toInt_inj.mp (p1.trans ((po_congr (fun i hi => ⟨congrArg Int32.toInt (k3 i hi), k6 i (by omega), congrArg Int32.toInt (k4 i (by omega))⟩)).trans q1.symm))⟩
theorem am_pv_ruleOf (hI : am_Iw h) : ∃ r1 r2 h1 h2, am_Do false 19 146 [.ref 0, .int x1, .int x2] h (some (.int r1), h1) ∧ ab_hok ab_D0 h1 ∧ am_Do false 19 211 [.ref 64, .int x1, .int x2] h1 (some (.int r2), h2) ∧ ab_hok ab_D0 h2 ∧ am_Iw h2 ∧ r1 = r2 := by
  obtain ⟨r1, h1, d1, i1, f1, -⟩ := am_uX_ruleOf (x1 := x1) (x2 := x2) hI.1
  obtain ⟨r2, h2, d2, i2, f2, -⟩ := am_uM_ruleOf (x1 := x1) (x2 := x2) i1
  refine ⟨r1, r2, h1, h2, d1, i1.1, d2, i2.1, ?_⟩
  obtain ⟨⟨hok, -⟩, s, rfl, hc, hv⟩ := hI
  obtain ⟨T, np, m, hT, hU, hV, hP, hS, hE, hD⟩ := id hv
  have hl := cv_len hok hU
  have hml := hS.2.2.1
  obtain ⟨s1, rfl, p0, p1⟩ := d1.sI (sx_RuleOf hU.2.2.1 hS.1 (by omega))
  subst p0
  obtain ⟨s2, rfl, q0, q1⟩ := d2.sI (sm_RuleOf hV.2.2.1 hT.2.2.1 hS.2.1 (by omega))
  subst q0
  refine ⟨⟨i2, s2, rfl, hc, hv⟩, Int32.toInt_inj.mp (p1.trans ((ro_congr (fun i hi => ?_)).trans q1.symm))⟩
  obtain ⟨a0, a1, a2, a3⟩ := hU.2.2.2.2.2 i hi
  obtain ⟨b0, b1, b2, b3⟩ := hV.2.2.2.2.2 i hi
  refine ⟨congrArg Int32.toInt (a0.trans b0.symm), congrArg Int32.toInt (a1.trans b1.symm), congrArg Int32.toInt (a2.trans b2.symm), congrArg Int32.toInt (a3.trans b3.symm), ?_⟩
  show hc_ (fun v => s2.2.2.1 30 (v + 1)) (s2.2.2.1 5 i) m = hc_ (s2.2.2.1 84) (s2.2.2.1 73 i) m
  rw [a1, b1]
  exact hc_congr m (fun v hv => (hS.2.2.2.1 v hv).2.1)
theorem am_pv_verseOf (hI : am_Iw h) : ∃ r1 r2 h1 h2, am_Do false 19 144 [.ref 0, .int x1, .int x2] h (some (.int r1), h1) ∧ ab_hok ab_D0 h1 ∧ am_Do false 19 209 [.ref 64, .int x1, .int x2] h1 (some (.int r2), h2) ∧ ab_hok ab_D0 h2 ∧ am_Iw h2 ∧ r1 = r2 := by
  obtain ⟨r1, h1, d1, i1, f1, -⟩ := am_uX_verseOf (x1 := x1) (x2 := x2) hI.1
  obtain ⟨r2, h2, d2, i2, f2, -⟩ := am_uM_verseOf (x1 := x1) (x2 := x2) i1
  refine ⟨r1, r2, h1, h2, d1, i1.1, d2, i2.1, ?_⟩
  obtain ⟨⟨hok, -⟩, s, rfl, hc, hv⟩ := hI
  obtain ⟨T, np, m, hT, hU, hV, hP, hS, hE, hD⟩ := id hv
  have hl := cv_len hok hU
  have hml := hS.2.2.1
  have t23 := sg_rng (a := 23) (t := 1) (n := 64) (lo := -9) (hi := 9) (m := 511) hok rfl rfl
  have t81 : ∀ i, i < 64 → -9 ≤ (s.2.2.1 81 i).toInt ∧ (s.2.2.1 81 i).toInt ≤ 9 := fun i hi => by rw [← hc.2.2.2.1 i hi]; exact t23 i hi
  obtain ⟨s1, rfl, p0, p1, p2⟩ := d1.sI (sx_VerseOf hS.1 (by omega) t23)
  subst p0
  obtain ⟨s2, rfl, q0, q1, q2⟩ := d2.sI (sm_VerseOf hT.1 hV.1 hS.2.1 (by omega) t81)
  subst q0
  refine ⟨⟨i2, s2, rfl, hc, hv⟩, Int32.toInt_inj.mp ?_⟩
  by_cases c : 1 ≤ x1.toInt ∧ x1.toInt ≤ (m : Int)
  · obtain ⟨v, hv1⟩ : ∃ v : Nat, x1.toInt = (v : Int) + 1 := ⟨x1.toInt.toNat - 1, by omega⟩
    have hvm : v < m := by omega
    obtain ⟨z1, z2, z3, z4, z5, z6, z7, z8, z9⟩ := hS
    have sy : ∀ i j, i < 8 → j < 8 → s2.2.2.1 81 (8 * i + j) = s2.2.2.1 81 (8 * j + i) := fun i j hi hj => by
      rw [← hc.2.2.2.1 (8 * i + j) (by omega), ← hc.2.2.2.1 (8 * j + i) (by omega)]
      exact hD i j hi hj
    have lk : ∀ d, d + 1 < v + 1 → (ln_ (s2.2.2.1 23) (s2.2.2.1 30 (v - d)) (s2.2.2.1 30 (v + 1)) 8 ↔ ln_ (s2.2.2.1 81) (s2.2.2.1 84 v) (s2.2.2.1 84 (v - d - 1)) T.1) := fun d hd => by
      have e1 : s2.2.2.1 30 (v - d) = s2.2.2.1 84 (v - d - 1) := by
        have := (z4 (v - d - 1) (by omega)).2.1
        rw [show v - d - 1 + 1 = v - d by omega] at this
        exact this
      rw [e1, (z4 v hvm).2.1]
      exact ln_xm hT.1 sy hc.2.2.2.1 (z9 _ (by omega)).1 (z9 _ (by omega)).2 (z9 v hvm).1 (z9 v hvm).2
    refine vr_det (vr_congr (z4 v hvm).1 (z4 v hvm).2.1 (z5 _ (by omega)) (z5 _ (by omega)) (z5 _ (by omega)) (z4 v hvm).2.2.2 (z4 v hvm).2.2.1 ?_ ?_ (p2 v hv1 hvm)) (q2 v hv1 hvm)
    · constructor
      · exact fun z => ⟨z.1, (lk 0 (by omega)).mp z.2⟩
      · exact fun z => ⟨z.1, (lk 0 (by omega)).mpr z.2⟩
    · constructor
      · exact fun z => ⟨z.1, (lk 1 (by omega)).mp z.2⟩
      · exact fun z => ⟨z.1, (lk 1 (by omega)).mpr z.2⟩
  · rw [p1 c, q1 c]
theorem am_pv_back (hI : am_Iw h) : ∃ r1 r2 h1 h2, am_Do false 19 135 [.ref 0] h (some (.int r1), h1) ∧ ab_hok ab_D0 h1 ∧ am_Do false 19 194 [.ref 64] h1 (some (.int r2), h2) ∧ ab_hok ab_D0 h2 ∧ am_Iw h2 ∧ r1 = r2 := by
  obtain ⟨r1, h1, d1, i1, f1, -⟩ := am_uX_back hI.1
  obtain ⟨r2, h2, d2, i2, f2, -⟩ := am_uM_back i1
  refine ⟨r1, r2, h1, h2, d1, i1.1, d2, i2.1, ?_⟩
  obtain ⟨⟨hok, -⟩, s, rfl, hc, hv⟩ := hI
  obtain ⟨T, np, m, hT, hU, hV, hP, hS, hE, hD⟩ := id hv
  have hl := cv_len hok hU
  have hml := hS.2.2.1
  obtain ⟨k0, k1, k2, k3, k4, k5, k6, k7⟩ := id hP
  obtain ⟨z1, z2, z3, z4, z5, z6, z7, z8, z9⟩ := id hS
  have hq : 0 < m → (s.2.2.1 29 m).toInt = (((s.2.2.1 29 m).toInt.toNat : Nat) : Int) := fun h0 => by
    have e := (z4 (m - 1) (by omega)).1
    rw [show m - 1 + 1 = m by omega] at e
    have := (k7 (m - 1) (by omega)).1
    rw [e, Int.toNat_of_nonneg this]
  obtain ⟨s1, rfl, p1, p2⟩ := d1.sI (sx_Back z1 (by omega) k1 k0 hq)
  have fr : sg_fr [(28, 2), (28, 3)] [26, 27, 33] s s1 := by
    by_cases c : m = 0
    · rw [(p1 c).2]
      exact sg_fr.rf
    · exact (p2 (by omega)).2.1
  obtain ⟨s2, rfl, q1, q2⟩ := d2.sI (sm_Back (by rw [fr.i rfl]; exact z2) (by omega) (by rw [fr.i rfl]; exact k2) k0)
  by_cases c : m = 0
  · obtain ⟨a1, a2⟩ := p1 c
    obtain ⟨b1, b2⟩ := q1 c
    subst a2
    subst b2
    exact ⟨⟨i2, s2, rfl, hc, hv⟩, Int32.toInt_inj.mp (a1.trans b1.symm)⟩
  · obtain ⟨y1, f, a28, a26, a27, a33, a3⟩ := p2 (by omega)
    obtain ⟨y2, g, b40, b77⟩ := q2 (by omega)
    obtain ⟨m', rfl⟩ : ∃ m', m = m' + 1 := ⟨m - 1, by omega⟩
    have fg : sg_fr [(28, 2), (28, 3), (64, 40)] [26, 27, 33, 77] s s2 := (f.le (by decide) (by decide)).tr (g.le (by decide) (by decide))
    have e29 := (z4 m' (by omega)).1
    have e33 := (z4 m' (by omega)).2.2.2
    have r29 := k7 m' (by omega)
    have tcs : ∀ i : Nat, tc_ (s.2.2.1 83) (m' + 1) (i : Int) = tc_ (s.2.2.1 83) m' (i : Int) + (if (s.2.2.1 83 m').toInt = (i : Int) then 1 else 0) := fun _ => rfl
    have wcs : wc_ (s.2.2.1 86) (m' + 1) = wc_ (s.2.2.1 86) m' + (if (s.2.2.1 86 m').toInt = 0 then 0 else 1) := rfl
    have hw := wc_rng (s.2.2.1 86) (m' + 1)
    have zm1 : (Int32.ofInt (-1)).toInt = -1 := rfl
    have zp1 : (Int32.ofInt 1).toInt = 1 := rfl
    refine ⟨⟨i2, s2, rfl, hc.ag (fg.ag (by decide) (by decide) (by decide)), T, np, m', hT, hU.ag (fg.ag (by decide) (by decide) (by decide)), hV.ag (fg.ag (by decide) (by decide) (by decide)), ⟨k0, by rw [fg.i rfl]; exact k1, by rw [fg.i rfl]; exact k2, by rw [fg.a (b := 25) rfl, fg.a (b := 76) rfl]; exact k3, fun i hi => ?_, fun i h1 h2 => ?_, fun i hi => ?_, fun v hv => ?_⟩, ⟨?_, ?_, by omega, fun v hv => ?_, fun k hk => ?_, fun i h1 h2 => ?_, ?_, fun p k hp hk => ?_, fun v hv => ?_⟩, hE.ag (fg.ag (by decide) (by decide) (by decide)), hD.ag (fg.ag (by decide) (by decide) (by decide))⟩, Int32.toInt_inj.mp (y1.trans y2.symm)⟩
    · rw [g.a (b := 27) rfl, a27, b77, f.a (b := 77) rfl]
      unfold pz_
      rw [k4 i hi]
    · rw [g.a (b := 27) rfl, a27]
      unfold pz_
      rw [if_neg (by omega)]
      exact k5 i h1 h2
    · rw [g.a (b := 26) rfl, a26, fg.a (b := 83) rfl]
      show (if i = (s.2.2.1 29 (m' + 1)).toInt.toNat then s.2.2.1 26 (s.2.2.1 29 (m' + 1)).toInt.toNat - Int32.ofInt 1 else s.2.2.1 26 i).toInt = _
      have t := k6 i hi
      have tr := tc_rng (s.2.2.1 83) (i : Int) (m' + 1)
      rw [tcs i] at t
      by_cases ei : i = (s.2.2.1 29 (m' + 1)).toInt.toNat
      · rw [if_pos ei, ← ei]
        rw [e29] at ei
        rw [if_pos (by omega)] at t
        have tr2 := tc_rng (s.2.2.1 83) (i : Int) m'
        rw [i32_sub (by omega) (by omega), t, zp1]
        omega
      · rw [if_neg ei, t]
        rw [e29] at ei
        rw [if_neg (by omega)]
        omega
    · rw [fg.a (b := 83) rfl]
      exact k7 v (by omega)
    · rw [g.i rfl, a28]
      omega
    · rw [b40]
      omega
    · rw [fg.a (b := 29) rfl, fg.a (b := 83) rfl, fg.a (b := 30) rfl, fg.a (b := 84) rfl, fg.a (b := 31) rfl, fg.a (b := 87) rfl, fg.a (b := 86) rfl, g.a (b := 33) rfl, a33]
      obtain ⟨w1, w2, w3, w4⟩ := z4 v (by omega)
      refine ⟨w1, w2, w3, ?_⟩
      show (if v + 1 = m' + 1 then Int32.ofInt 0 else s.2.2.1 33 (v + 1)) = _
      rw [if_neg (by omega)]
      exact w4
    · rw [fg.a (b := 32) rfl, fg.a (b := 85) rfl]
      exact z5 k (by omega)
    · rw [g.a (b := 33) rfl, a33]
      show (if i = m' + 1 then Int32.ofInt 0 else s.2.2.1 33 i) = _
      by_cases ei : i = m' + 1
      · rw [if_pos ei]
      · rw [if_neg ei]
        exact z6 i (by omega) h2
    · rw [g.i rfl, a3, fg.a (b := 86) rfl, e33]
      rw [wcs] at z7 hw
      have hw2 := wc_rng (s.2.2.1 86) m'
      by_cases ei : (s.2.2.1 86 m').toInt = 0
      · rw [if_pos ei]
        rw [if_pos ei] at z7
        omega
      · rw [if_neg ei]
        rw [if_neg ei] at z7 hw
        rw [i32_add (by omega) (by omega), z7, zm1]
        omega
    · rw [fg.a (b := 34) rfl, fg.a (b := 30) rfl]
      exact z8 p k (by omega) hk
    · rw [fg.a (b := 84) rfl]
      exact z9 v (by omega)
theorem am_pv_worn (hI : am_Iw h) (hx2 : 0 ≤ x2.toInt ∧ x2.toInt ≤ 1) : ∃ r1 r2 h1 h2, am_Do false 19 136 [.ref 0, .int x1, .int x2] h (some (.int r1), h1) ∧ ab_hok ab_D0 h1 ∧ am_Do false 19 195 [.ref 64, .int x1, .int x2] h1 (some (.int r2), h2) ∧ ab_hok ab_D0 h2 ∧ am_Iw h2 ∧ r1 = r2 := by
  obtain ⟨r1, h1, d1, i1, f1, -⟩ := am_uX_worn (x1 := x1) (x2 := x2) hI.1 hx2
  obtain ⟨r2, h2, d2, i2, f2, -⟩ := am_uM_worn (x1 := x1) (x2 := x2) i1 hx2
  refine ⟨r1, r2, h1, h2, d1, i1.1, d2, i2.1, ?_⟩
  obtain ⟨⟨hok, -⟩, s, rfl, hc, hv⟩ := hI
  obtain ⟨T, np, m, hT, hU, hV, hP, hS, hE, hD⟩ := id hv
  have hl := cv_len hok hU
  have hml := hS.2.2.1
  obtain ⟨z1, z2, z3, z4, z5, z6, z7, z8, z9⟩ := id hS
  obtain ⟨s1, rfl, p1, p2⟩ := d1.sI (sx_Worn z1 (by omega) hx2)
  have fr : sg_fr [(28, 3)] [33] s s1 := by
    by_cases c : 1 ≤ x1.toInt ∧ x1.toInt ≤ (m : Int) ∧ ¬ (s.2.2.1 33 x1.toInt.toNat).toInt = x2.toInt
    · exact (p1 c).2.1
    · rw [(p2 c).2]
      exact sg_fr.rf
  obtain ⟨s2, rfl, q1, q2⟩ := d2.sI (sm_Worn (by rw [fr.i rfl]; exact z2) (by omega) hx2)
  rw [fr.a (b := 86) rfl] at q1 q2
  have ec : (1 ≤ x1.toInt ∧ x1.toInt ≤ (m : Int) ∧ ¬ (s.2.2.1 33 x1.toInt.toNat).toInt = x2.toInt) ↔ (1 ≤ x1.toInt ∧ x1.toInt ≤ (m : Int) ∧ ¬ (s.2.2.1 86 (x1.toInt.toNat - 1)).toInt = x2.toInt) := by
    by_cases c : 1 ≤ x1.toInt ∧ x1.toInt ≤ (m : Int)
    · have e := (z4 (x1.toInt.toNat - 1) (by omega)).2.2.2
      rw [show x1.toInt.toNat - 1 + 1 = x1.toInt.toNat by omega] at e
      rw [e]
    · exact ⟨fun z => absurd ⟨z.1, z.2.1⟩ c, fun z => absurd ⟨z.1, z.2.1⟩ c⟩
  by_cases c : 1 ≤ x1.toInt ∧ x1.toInt ≤ (m : Int) ∧ ¬ (s.2.2.1 33 x1.toInt.toNat).toInt = x2.toInt
  · obtain ⟨y1, f, a33, a3⟩ := p1 c
    obtain ⟨y2, b2⟩ := q1 (ec.mp c)
    have c86 := (ec.mp c).2.2
    have g : sg_fr [] [86] s1 s2 := by rw [b2]; exact sg_fr.rf.uA rfl
    have fg : sg_fr [(28, 3)] [33, 86] s s2 := (f.le (by decide) (by decide)).tr (g.le (by decide) (by decide))
    have b86 : s2.2.2.1 86 = fun i => if i = x1.toInt.toNat - 1 then x2 else s.2.2.1 86 i := by
      rw [b2, sg_Aall, f.a rfl]
    have hP2 := hP.ag (fg.ag (by decide) (by decide) (by decide))
    have hw := wc_rng (s.2.2.1 86) m
    have zm1 : (Int32.ofInt (-1)).toInt = -1 := rfl
    have zp1 : (Int32.ofInt 1).toInt = 1 := rfl
    have r86 := sg_rng (a := 86) (t := 4) (n := 48) (lo := 0) (hi := 1) (m := 511) hok rfl rfl (x1.toInt.toNat - 1) (by omega)
    have hu := wc_upd (w := s.2.2.1 86) (p := x1.toInt.toNat - 1) (v := x2) m (by omega)
    have hw2 := wc_rng (fun i => if i = x1.toInt.toNat - 1 then x2 else s.2.2.1 86 i) m
    refine ⟨⟨i2, s2, rfl, hc.ag (fg.ag (by decide) (by decide) (by decide)), T, np, m, hT, hU.ag (fg.ag (by decide) (by decide) (by decide)), hV.ag (fg.ag (by decide) (by decide) (by decide)), hP2, ⟨by rw [fg.i rfl]; exact z1, by rw [fg.i rfl]; exact z2, z3, fun v hv => ?_, fun k hk => ?_, fun i h1 h2 => ?_, ?_, fun p k hp hk => ?_, fun v hv => ?_⟩, hE.ag (fg.ag (by decide) (by decide) (by decide)), hD.ag (fg.ag (by decide) (by decide) (by decide))⟩, Int32.toInt_inj.mp (y1.trans y2.symm)⟩
    · rw [fg.a (b := 29) rfl, fg.a (b := 83) rfl, fg.a (b := 30) rfl, fg.a (b := 84) rfl, fg.a (b := 31) rfl, fg.a (b := 87) rfl, g.a (b := 33) rfl, a33, b86]
      obtain ⟨w1, w2, w3, w4⟩ := z4 v hv
      refine ⟨w1, w2, w3, ?_⟩
      show (if v + 1 = x1.toInt.toNat then x2 else s.2.2.1 33 (v + 1)) = (if v = x1.toInt.toNat - 1 then x2 else s.2.2.1 86 v)
      by_cases ei : v + 1 = x1.toInt.toNat
      · rw [if_pos ei, if_pos (by omega)]
      · rw [if_neg ei, if_neg (by omega)]
        exact w4
    · rw [fg.a (b := 32) rfl, fg.a (b := 85) rfl]
      exact z5 k hk
    · rw [g.a (b := 33) rfl, a33]
      show (if i = x1.toInt.toNat then x2 else s.2.2.1 33 i) = _
      rw [if_neg (by omega)]
      exact z6 i h1 h2
    · rw [g.i rfl, a3, b86, hu]
      by_cases ei : x2.toInt = 0
      · rw [if_pos ei, if_pos ei, if_neg (by omega), i32_add (by omega) (by omega), z7, zm1]
        omega
      · rw [if_neg ei, if_neg ei, if_pos (by omega), i32_add (by omega) (by omega), z7, zp1]
        omega
    · rw [fg.a (b := 34) rfl, fg.a (b := 30) rfl]
      exact z8 p k hp hk
    · rw [fg.a (b := 84) rfl]
      exact z9 v hv
  · obtain ⟨a1, a2⟩ := p2 c
    obtain ⟨b1, b2⟩ := q2 (fun z => c (ec.mpr z))
    subst a2
    subst b2
    exact ⟨⟨i2, s2, rfl, hc, hv⟩, Int32.toInt_inj.mp (a1.trans b1.symm)⟩
end PT
