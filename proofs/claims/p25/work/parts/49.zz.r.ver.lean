/-! ===== breaks and verse of both ===== -/
section VV
variable {s s1 : sg_S} {T : rp_T} {n np m : Nat} {a b c : Int32} {r : Int}
theorem vm_ag (h : vm_ok T s n m) (g : sg_ag (cf_B ++ [(64, 34), (64, 40)]) (ca_B ++ [81]) [] s s1) : vm_ok T s1 n m := by
  obtain ⟨hT, hk, hV, ⟨hn, h100⟩, hl, hm, hml, ht⟩ := h
  refine ⟨hT, hk, hV.ag (g.le (by decide) (by decide) (by decide)), ⟨by rw [g.i rfl]; exact hn, h100⟩, hl, by rw [g.i rfl]; exact hm, hml, by rw [g.a (a := 81) rfl]; exact ht⟩
theorem mb_ag (g : sg_ag [(64, 33)] [78, 79, 80, 81, 84, 85] [] s s1) (h : mb_ T s1 n m a b c r) : mb_ T s n m a b c r := by
  unfold mb_ at h ⊢
  rw [g.a (a := 81) rfl, g.a (a := 85) rfl, g.a (a := 84) rfl, g.a (a := 78) rfl, g.a (a := 79) rfl, g.a (a := 80) rfl, g.i (a := 64) (k := 33) rfl] at h
  exact h
end VV
section VW
variable {h : am_H} {x1 x2 x3 x4 : Int32}
theorem am_pv_breaks (hI : am_Iw h) : ∃ r1 r2 h1 h2, am_Do false 19 134 [.ref 0, .int x1, .int x2, .int x3] h (some (.int r1), h1) ∧ ab_hok ab_D0 h1 ∧ am_Do false 19 193 [.ref 64, .int x1, .int x2, .int x3] h1 (some (.int r2), h2) ∧ ab_hok ab_D0 h2 ∧ am_Iw h2 ∧ r1 = r2 := by
  obtain ⟨r1, h1, d1, i1, f1, -⟩ := am_uX_breaks (x1 := x1) (x2 := x2) (x3 := x3) hI.1
  obtain ⟨r2, h2, d2, i2, f2, -⟩ := am_uM_breaks (x1 := x1) (x2 := x2) (x3 := x3) i1
  refine ⟨r1, r2, h1, h2, d1, i1.1, d2, i2.1, ?_⟩
  obtain ⟨⟨hok, -⟩, s, rfl, hc, T, np, m, hT, hU, hV, hP, hS, hE, hD⟩ := hI
  obtain ⟨n, vx, vm, nn⟩ := cv_vx hok hc hT hU hV hS
  obtain ⟨s1, rfl, p1, p2⟩ := d1.sI (sx_Breaks vx)
  have z7 := hS.2.2.2.2.2.2.1
  have look : sg_fr [] [30, 32, 34] s s1 ∧ cv_S T m s1 := by
    by_cases c : (m : Int) < T.2.2.2.1 ∧ aw_ x1 x2 x3
    · by_cases d : 0 < (s.1 28 3).toInt
      · rw [((p2 c).1 d).2]
        exact ⟨sg_fr.rf, hS⟩
      · obtain ⟨f, a30, a32, a34, -⟩ := (p2 c).2 d
        exact ⟨f, cv_S_look hS f a30 a32 a34 hT.2.2.1⟩
    · rw [(p1 c).2]
      exact ⟨sg_fr.rf, hS⟩
  obtain ⟨fr, hS1⟩ := look
  obtain ⟨s2, rfl, g, q1, q2⟩ := d2.sI (sm_Breaks (vm_ag vm (fr.ag (by decide) (by decide) (by decide))))
  rw [fr.a (b := 86) rfl, ← z7] at q2
  have fg : sg_fr [] [30, 32, 34, 82] s s2 := (fr.le (by decide) (by decide)).tr (g.le (by decide) (by decide))
  refine ⟨⟨i2, s2, rfl, hc.ag (fg.ag (by decide) (by decide) (by decide)), T, np, m, hT, hU.ag (fg.ag (by decide) (by decide) (by decide)), hV.ag (fg.ag (by decide) (by decide) (by decide)), hP.ag (fg.ag (by decide) (by decide) (by decide)), hS1.ag (g.ag (by decide) (by decide) (by decide)), hE.ag (fg.ag (by decide) (by decide) (by decide)), hD.ag (fg.ag (by decide) (by decide) (by decide))⟩, Int32.toInt_inj.mp ?_⟩
  by_cases c : (m : Int) < T.2.2.2.1 ∧ aw_ x1 x2 x3
  · by_cases d : 0 < (s.1 28 3).toInt
    · rw [((p2 c).1 d).1, (q2 c).1 d]
    · obtain ⟨-, -, -, -, W, F, hF, hW, hfb⟩ := (p2 c).2 d
      exact cv_xm hc hT hS hE hD vx.2.2.2.1.1 nn ⟨W, F, hF, hW, hfb⟩ (mb_ag (fr.ag (by decide) (by decide) (by decide)) ((q2 c).2 d))
  · rw [(p1 c).1, q1 c]
theorem am_pv_verse (hI : am_Iw h) : ∃ r1 r2 h1 h2, am_Do false 19 131 [.ref 0, .int x1, .int x2, .int x3, .int x4] h (some (.int r1), h1) ∧ ab_hok ab_D0 h1 ∧ am_Do false 19 181 [.ref 64, .int x1, .int x2, .int x3, .int x4] h1 (some (.int r2), h2) ∧ ab_hok ab_D0 h2 ∧ am_Iw h2 ∧ r1 = r2 := by
  obtain ⟨r1, h1, d1, i1, f1, -⟩ := am_uX_verse (x1 := x1) (x2 := x2) (x3 := x3) (x4 := x4) hI.1
  obtain ⟨r2, h2, d2, i2, f2, -⟩ := am_uM_verse (x1 := x1) (x2 := x2) (x3 := x3) (x4 := x4) i1
  refine ⟨r1, r2, h1, h2, d1, i1.1, d2, i2.1, ?_⟩
  obtain ⟨⟨hok, -⟩, s, rfl, hc, hv⟩ := hI
  obtain ⟨T, np, m, hT, hU, hV, hP, hS, hE, hD⟩ := id hv
  obtain ⟨n, vx, vm, nn⟩ := cv_vx hok hc hT hU hV hS
  have hl := cv_len hok hU
  have ht := cv_turn hU hV hP hS
  have hx := xt_lt s np
  obtain ⟨k0, k1, k2, k3, k4, k5, k6, k7⟩ := id hP
  obtain ⟨z1, z2, z3, z4, z5, z6, z7, z8, z9⟩ := id hS
  have h26 : ∀ i, i < 12 → 0 ≤ (s.2.2.1 26 i).toInt ∧ (s.2.2.1 26 i).toInt ≤ 48 := fun i hi => by
    have := tc_rng (s.2.2.1 83) (i : Int) m
    rw [k6 i hi]
    omega
  obtain ⟨s1, rfl, p1, p2⟩ := d1.sI (sx_Verse vx k1 k0 h26)
  have fr : sg_fr [(28, 2)] [26, 27, 29, 30, 31, 32, 34] s s1 := by
    by_cases c : vc_ (xt_ s np) x1 x2 x3 x4
    · by_cases d : 0 < (s.1 28 3).toInt
      · rw [((p2 c).1 d).2]
        exact sg_fr.rf
      · by_cases e : T.2.2.2.2.1 < x1.toInt
        · exact (((p2 c).2 d).1 e).2.1.le (by decide) (by decide)
        · obtain ⟨b, -, pa, pb⟩ := ((p2 c).2 d).2 e
          by_cases eb : b = -1
          · exact (pb eb).2.1
          · exact (pa eb).2.1.le (by decide) (by decide)
    · rw [(p1 c).2]
      exact sg_fr.rf
  have em : mt_ s1 np m = xt_ s np := (mt_fr fr rfl rfl rfl rfl rfl).trans ht.symm
  obtain ⟨s2, rfl, q1, q2⟩ := d2.sI (sm_Verse (vm_ag vm (fr.ag (by decide) (by decide) (by decide))) (by rw [fr.i rfl]; exact k2) k0)
  rw [em] at q1 q2
  rw [fr.a (b := 86) rfl, ← z7] at q2
  by_cases c : vc_ (xt_ s np) x1 x2 x3 x4
  · obtain ⟨pw, pn⟩ := p2 c
    obtain ⟨qw, qn⟩ := q2 c
    by_cases d : 0 < (s.1 28 3).toInt
    · obtain ⟨y1, e1⟩ := pw d
      obtain ⟨y2, e2⟩ := qw d
      subst e1
      subst e2
      exact ⟨⟨i2, s2, rfl, hc, hv⟩, Int32.toInt_inj.mp (y1.trans y2.symm)⟩
    · obtain ⟨pl, pm⟩ := pn d
      obtain ⟨ql, qm⟩ := qn d
      have cx : ¬ xt_ s np = -1 := c.1
      by_cases e : T.2.2.2.2.1 < x1.toInt
      · -- too long: the poet passes
        obtain ⟨y1, f, a27⟩ := pl e
        obtain ⟨y2, g, a77⟩ := ql e
        have fg : sg_fr [] [27, 77] s s2 := (f.le (by decide) (by decide)).tr (g.le (by decide) (by decide))
        refine ⟨⟨i2, s2, rfl, hc.ag (fg.ag (by decide) (by decide) (by decide)), T, np, m, hT, hU.ag (fg.ag (by decide) (by decide) (by decide)), hV.ag (fg.ag (by decide) (by decide) (by decide)), ⟨k0, by rw [fg.i rfl]; exact k1, by rw [fg.i rfl]; exact k2, by rw [fg.a (b := 25) rfl, fg.a (b := 76) rfl]; exact k3, fun i hi => ?_, fun i h1 h2 => ?_, by rw [fg.a (b := 26) rfl, fg.a (b := 83) rfl]; exact k6, by rw [fg.a (b := 83) rfl]; exact k7⟩, hS.ag (fg.ag (by decide) (by decide) (by decide)), hE.ag (fg.ag (by decide) (by decide) (by decide)), hD.ag (fg.ag (by decide) (by decide) (by decide))⟩, Int32.toInt_inj.mp (y1.trans y2.symm)⟩
        · rw [g.a (b := 27) rfl, a27, a77, f.a (b := 77) rfl]
          exact pw_congr k0 k4 i hi
        · rw [g.a (b := 27) rfl, a27, pw_hi (by omega) i h1]
          exact k5 i h1 h2
      · obtain ⟨b, hb, pa, pb⟩ := pm e
        obtain ⟨b', hb', qa, qb⟩ := qm e
        have ebb : b = b' := cv_xm hc hT hS hE hD vx.2.2.2.1.1 nn hb (mb_ag (fr.ag (by decide) (by decide) (by decide)) hb')
        subst ebb
        by_cases eb : b = -1
        · obtain ⟨y1, f, ⟨l30, ⟨l32a, l32b, l32c, l32⟩, l34, l34b⟩, a28, a29, a31, a26, a27⟩ := pb eb
          obtain ⟨y2, g, b40, b83, b84, ⟨b85a, b85b, b85c, b85⟩, b86, b87, b77⟩ := qb eb
          have fg : sg_fr [(28, 2), (64, 40)] [26, 27, 29, 30, 31, 32, 34, 77, 82, 83, 84, 85, 86, 87] s s2 := (f.le (by decide) (by decide)).tr (g.le (by decide) (by decide))
          have hmlt : (m : Int) < T.2.2.2.1 := by
            have cx2 := cx
            unfold xt_ at cx2
            rw [z1, hU.2.2.2.1] at cx2
            by_cases q : (m : Int) < T.2.2.2.1
            · exact q
            · rw [if_neg q] at cx2
              exact absurd rfl cx2
          rw [fr.a (b := 83) rfl] at b83
          rw [fr.a (b := 84) rfl, fr.a (b := 78) rfl, fr.a (b := 79) rfl, fr.a (b := 80) rfl, fr.i (b := 64) (j := 33) rfl] at b84
          rw [fr.a (b := 85) rfl] at b85
          rw [fr.a (b := 87) rfl] at b87
          rw [fr.a (b := 77) rfl] at b77
          have c26 : s2.2.2.1 26 = _ := (g.a rfl).trans a26
          have c27 : s2.2.2.1 27 = _ := (g.a rfl).trans a27
          have c29 : s2.2.2.1 29 = _ := (g.a rfl).trans a29
          have c30 : s2.2.2.1 30 = _ := (g.a rfl).trans l30
          have c31 : s2.2.2.1 31 = _ := (g.a rfl).trans a31
          have c32 : s2.2.2.1 32 = s1.2.2.1 32 := g.a rfl
          have c34 : s2.2.2.1 34 = s1.2.2.1 34 := g.a rfl
          have eg : g3_ (s.2.2.1 19) (s.2.2.1 20) (s.2.2.1 21) n (s.1 18 0).toInt x2 x3 x4 = g3_ (s.2.2.1 78) (s.2.2.1 79) (s.2.2.1 80) n (s.1 64 33).toInt x2 x3 x4 := by
            rw [g3_congr nn, hc.2.2.1]
          have hg := cv_g3 (w := s.2.2.1 19) (y := s.2.2.1 20) (v := s.2.2.1 21) (n := n) (K := T.1) (Y := (s.1 18 0).toInt) (a := x2) (b := x3) (c := x4) hT.1 (fun i hi => hE i (by have := vx.2.2.2.1.1; omega))
          rw [eg] at c30 hg
          have ext : (Int32.ofInt (xt_ s np)).toInt = xt_ s np := am_oi (by omega) (by omega)
          have zp1 : (Int32.ofInt 1).toInt = 1 := rfl
          refine ⟨⟨i2, s2, rfl, hc.ag (fg.ag (by decide) (by decide) (by decide)), T, np, m + 1, hT, hU.ag (fg.ag (by decide) (by decide) (by decide)), hV.ag (fg.ag (by decide) (by decide) (by decide)), ⟨k0, by rw [fg.i rfl]; exact k1, by rw [fg.i rfl]; exact k2, by rw [fg.a (b := 25) rfl, fg.a (b := 76) rfl]; exact k3, fun i hi => ?_, fun i h1 h2 => ?_, fun i hi => ?_, fun v hv => ?_⟩, ⟨?_, ?_, by omega, fun v hv => ?_, fun k hk => ?_, fun i h1 h2 => ?_, ?_, fun p k hp hk => ?_, fun v hv => ?_⟩, hE.ag (fg.ag (by decide) (by decide) (by decide)), hD.ag (fg.ag (by decide) (by decide) (by decide))⟩, Int32.toInt_inj.mp (y1.trans y2.symm)⟩
          · rw [c27, b77]
            unfold pz_
            rw [k4 i hi]
          · rw [c27]
            unfold pz_
            rw [if_neg (by omega)]
            exact k5 i h1 h2
          · rw [c26, b83]
            show (if i = (xt_ s np).toNat then s.2.2.1 26 (xt_ s np).toNat + Int32.ofInt 1 else s.2.2.1 26 i).toInt = tc_ (fun i => if i = m then Int32.ofInt (xt_ s np) else s.2.2.1 83 i) m (i : Int) + (if (if m = m then Int32.ofInt (xt_ s np) else s.2.2.1 83 m).toInt = (i : Int) then 1 else 0)
            rw [tc_congr (b2 := s.2.2.1 83) m (fun v hv => if_neg (by omega)), if_pos (rfl : m = m), ext, ← k6 i hi]
            have r26 := h26 i hi
            by_cases ei : i = (xt_ s np).toNat
            · rw [if_pos ei, ← ei, if_pos (by omega), i32_add (by omega) (by omega), zp1]
            · rw [if_neg ei, if_neg (by omega)]
              omega
          · rw [b83]
            show 0 ≤ (if v = m then Int32.ofInt (xt_ s np) else s.2.2.1 83 v).toInt ∧ (if v = m then Int32.ofInt (xt_ s np) else s.2.2.1 83 v).toInt < _
            by_cases ev : v = m
            · rw [if_pos ev, ext]
              omega
            · rw [if_neg ev]
              exact k7 v (by omega)
          · rw [g.i rfl, a28]
            omega
          · rw [b40]
            omega
          · rw [c29, b83, c30, b84, c31, b87, fg.a (b := 33) rfl, b86]
            show (if v + 1 = m + 1 then Int32.ofInt (xt_ s np) else s.2.2.1 29 (v + 1)) = (if v = m then Int32.ofInt (xt_ s np) else s.2.2.1 83 v) ∧ (if v + 1 = m + 1 then g3_ (s.2.2.1 78) (s.2.2.1 79) (s.2.2.1 80) n (s.1 64 33).toInt x2 x3 x4 else s.2.2.1 30 (v + 1)) = (if v = m then g3_ (s.2.2.1 78) (s.2.2.1 79) (s.2.2.1 80) n (s.1 64 33).toInt x2 x3 x4 else s.2.2.1 84 v) ∧ (if v + 1 = m + 1 then x1 else s.2.2.1 31 (v + 1)) = (if v = m then x1 else s.2.2.1 87 v) ∧ s.2.2.1 33 (v + 1) = (if v = m then Int32.ofInt 0 else s.2.2.1 86 v)
            by_cases ev : v = m
            · subst ev
              simp only [if_true]
              exact ⟨trivial, trivial, trivial, z6 (v + 1) (by omega) (by omega)⟩
            · have ev2 : ¬ v + 1 = m + 1 := by omega
              simp only [ev, ev2, if_false]
              exact z4 v (by omega)
          · rw [c32]
            by_cases ek : k < 3 * m
            · rw [l32 (k + 3) (by omega), b85 k ek]
              exact z5 k ek
            · have hk3 : k = 3 * m ∨ k = 3 * m + 1 ∨ k = 3 * m + 2 := by omega
              rcases hk3 with rfl | rfl | rfl
              · rw [b85a, show 3 * m + 3 = 3 * (m + 1) by omega, l32a]
              · rw [b85b, show 3 * m + 1 + 3 = 3 * (m + 1) + 1 by omega, l32b]
              · rw [b85c, show 3 * m + 2 + 3 = 3 * (m + 1) + 2 by omega, l32c]
          · rw [fg.a (b := 33) rfl]
            exact z6 i (by omega) h2
          · rw [fg.i rfl, b86, z7]
            show _ = wc_ (fun i => if i = m then Int32.ofInt 0 else s.2.2.1 86 i) m + (if (if m = m then Int32.ofInt 0 else s.2.2.1 86 m).toInt = 0 then 0 else 1)
            rw [wc_congr (u := s.2.2.1 86) m (fun v hv => if_neg (by omega)), if_pos (rfl : m = m), if_pos (show (Int32.ofInt 0).toInt = 0 from rfl)]
            omega
          · rw [c34]
            by_cases ep : p ≤ m
            · rw [l34b (12 * p + k) (by have := hT.2.2.1; omega), z8 p k ep hk]
              refine nb_congr p (fun v hv => ?_)
              show s.2.2.1 30 (v + 1) = s2.2.2.1 30 (v + 1)
              rw [c30]
              show _ = (if v + 1 = m + 1 then _ else s.2.2.1 30 (v + 1))
              rw [if_neg (by omega)]
            · obtain rfl : p = m + 1 := by omega
              rw [l34 k hk]
              refine nb_congr (m + 1) (fun v hv => ?_)
              show s1.2.2.1 30 (v + 1) = s2.2.2.1 30 (v + 1)
              rw [g.a rfl]
          · rw [b84]
            show 0 ≤ (if v = m then g3_ (s.2.2.1 78) (s.2.2.1 79) (s.2.2.1 80) n (s.1 64 33).toInt x2 x3 x4 else s.2.2.1 84 v).toInt ∧ (if v = m then g3_ (s.2.2.1 78) (s.2.2.1 79) (s.2.2.1 80) n (s.1 64 33).toInt x2 x3 x4 else s.2.2.1 84 v).toInt < _
            by_cases ev : v = m
            · rw [if_pos ev]
              exact hg
            · rw [if_neg ev]
              exact z9 v (by omega)
        · obtain ⟨y1, f, l30, ⟨-, -, -, l32⟩, -, l34b⟩ := pa eb
          obtain ⟨y2, g⟩ := qa eb
          have fg : sg_fr [] [30, 32, 34, 82] s s2 := (f.le (by decide) (by decide)).tr (g.le (by decide) (by decide))
          have hS1 : cv_S T m s1 := cv_S_look hS f (fun i hi => by rw [l30]; exact if_neg (by omega)) l32 l34b hT.2.2.1
          exact ⟨⟨i2, s2, rfl, hc.ag (fg.ag (by decide) (by decide) (by decide)), T, np, m, hT, hU.ag (fg.ag (by decide) (by decide) (by decide)), hV.ag (fg.ag (by decide) (by decide) (by decide)), hP.ag (fg.ag (by decide) (by decide) (by decide)), hS1.ag (g.ag (by decide) (by decide) (by decide)), hE.ag (fg.ag (by decide) (by decide) (by decide)), hD.ag (fg.ag (by decide) (by decide) (by decide))⟩, Int32.toInt_inj.mp (y1.trans y2.symm)⟩
  · obtain ⟨a1, a2⟩ := p1 c
    obtain ⟨b1, b2⟩ := q1 c
    subst a2
    subst b2
    exact ⟨⟨i2, s2, rfl, hc, hv⟩, Int32.toInt_inj.mp (a1.trans b1.symm)⟩
end VW
