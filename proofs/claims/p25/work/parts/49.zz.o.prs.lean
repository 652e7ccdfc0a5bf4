/-! ===== entry, like, read: the verses' part; turn, pass, back, worn, verseOf, poetOf, ruleOf ===== -/
theorem cv_D_like {s s2 : sg_S} {a b : Int} {x3 : Int32} (ha : 0 ≤ a ∧ a < 8) (hb : 0 ≤ b ∧ b < 8) (h : s2 = sg_uA (sg_uA s 23 (8 * a + b).toNat x3) 23 (8 * b + a).toNat x3) (hD : cv_D s) : cv_D s2 := by
  subst h
  intro i j hi hj
  show (if 23 = 23 ∧ 8 * i + j = (8 * b + a).toNat then x3 else if 23 = 23 ∧ 8 * i + j = (8 * a + b).toNat then x3 else s.2.2.1 23 (8 * i + j)) = (if 23 = 23 ∧ 8 * j + i = (8 * b + a).toNat then x3 else if 23 = 23 ∧ 8 * j + i = (8 * a + b).toNat then x3 else s.2.2.1 23 (8 * j + i))
  by_cases c1 : 8 * i + j = (8 * b + a).toNat
  · have c2 : 8 * j + i = (8 * a + b).toNat := by omega
    simp [c1, c2]
  · by_cases c2 : 8 * i + j = (8 * a + b).toNat
    · have c3 : 8 * j + i = (8 * b + a).toNat := by omega
      simp [c2, c3]
    · have c3 : ¬ 8 * j + i = (8 * b + a).toNat := by omega
      have c4 : ¬ 8 * j + i = (8 * a + b).toNat := by omega
      simp only [c1, c2, c3, c4, and_false, if_false]
      exact hD i j hi hj
section PV
variable {h : am_H} {x1 x2 x3 : Int32}
theorem am_pv_entry (hI : am_Iw h) : ∃ r1 r2 h1 h2, am_Do false 19 127 [.ref 0, .int x1, .int x2, .int x3] h (some (.int r1), h1) ∧ ab_hok ab_D0 h1 ∧ am_Do false 19 174 [.ref 64, .int x1, .int x2, .int x3] h1 (some (.int r2), h2) ∧ ab_hok ab_D0 h2 ∧ am_Iw h2 ∧ r1 = r2 := by
  obtain ⟨r1, r2, h1, h2, a, b, c, d, e, q⟩ := am_pq_entry (x1 := x1) (x2 := x2) (x3 := x3) hI.ip
  obtain ⟨r3, h3, d1, i1, f1, -⟩ := am_uX_entry (x1 := x1) (x2 := x2) (x3 := x3) hI.1
  obtain ⟨rfl, rfl⟩ := am_Do.detI a d1
  obtain ⟨r4, h4, d2, i2, f2, -⟩ := am_uM_entry (x1 := x1) (x2 := x2) (x3 := x3) i1
  obtain ⟨rfl, rfl⟩ := am_Do.detI c d2
  refine ⟨_, _, _, _, a, b, c, d, ⟨i2, ?_⟩, q⟩
  obtain ⟨-, s, rfl, hc, T, np, m, hT, hU, hV, hP, hS, hE, hD⟩ := hI
  obtain ⟨-, s2, rfl, hc2⟩ := e
  obtain ⟨-, -, -, -, ⟨n, n100, n1, -⟩, -⟩ := hc
  obtain ⟨s1, rfl, p1, p2⟩ := a.sI (sx_Entry hU n1 n100)
  have g1 : sg_ag (cf_B ++ cf_P ++ cf_S) (ca_B ++ ca_P ++ ca_S ++ [23]) [] s s1 := sg_agc_ok (by decide +kernel) f1
  have g2 : sg_ag cf_V ca_V [] s1 s2 := sg_agc_ok (by decide +kernel) f2
  have hE1 : cv_E T s1 := by
    by_cases c : en_ok T x1 x2 x3
    · obtain ⟨pa, pb⟩ := p1 c
      by_cases c2 : pt_ix (s.2.2.1 19) (s.2.2.1 20) n x1 x2 < n
      · exact cv_E_entry (x1 := x1) (x2 := x2) n1 n100 c.2.2 hE (Or.inl (pa c2).2)
      · by_cases c3 : n < 100
        · exact cv_E_entry (g := 0) n1 n100 c.2.2 hE (Or.inr (Or.inl ((pb c2).1 c3).2))
        · exact cv_E_entry (x1 := x1) (x2 := x2) (g := 0) n1 n100 c.2.2 hE (Or.inr (Or.inr ((pb c2).2 c3).2))
    · rw [(p2 c).2]
      exact hE
  exact ⟨s2, rfl, hc2, cv_.ag ⟨T, np, m, hT, hU.ag (g1.le (by decide) (by decide) (by decide)), hV.ag (g1.le (by decide) (by decide) (by decide)), hP.ag (g1.le (by decide) (by decide) (by decide)), hS.ag (g1.le (by decide) (by decide) (by decide)), hE1, hD.ag (g1.le (by decide) (by decide) (by decide))⟩ g2⟩
theorem am_pv_like (hI : am_Iw h) : ∃ r1 r2 h1 h2, am_Do false 19 130 [.ref 0, .int x1, .int x2, .int x3] h (some (.int r1), h1) ∧ ab_hok ab_D0 h1 ∧ am_Do false 19 178 [.ref 64, .int x1, .int x2, .int x3] h1 (some (.int r2), h2) ∧ ab_hok ab_D0 h2 ∧ am_Iw h2 ∧ r1 = r2 := by
  obtain ⟨r1, r2, h1, h2, a, b, c, d, e, q⟩ := am_pq_like (x1 := x1) (x2 := x2) (x3 := x3) hI.ip
  obtain ⟨r3, h3, d1, i1, f1, -⟩ := am_uX_like (x1 := x1) (x2 := x2) (x3 := x3) hI.1
  obtain ⟨rfl, rfl⟩ := am_Do.detI a d1
  obtain ⟨r4, h4, d2, i2, f2, -⟩ := am_uM_like (x1 := x1) (x2 := x2) (x3 := x3) i1
  obtain ⟨rfl, rfl⟩ := am_Do.detI c d2
  refine ⟨_, _, _, _, a, b, c, d, ⟨i2, ?_⟩, q⟩
  obtain ⟨-, s, rfl, hc, T, np, m, hT, hU, hV, hP, hS, hE, hD⟩ := hI
  obtain ⟨-, s2, rfl, hc2⟩ := e
  obtain ⟨s1, rfl, p1, p2⟩ := a.sI (sx_Like hU hT)
  have g1 : sg_ag (cf_B ++ cf_P ++ cf_S ++ [(18, 1)]) (ca_B ++ ca_P ++ ca_S ++ [21]) [] s s1 := sg_agc_ok (by decide +kernel) f1
  have g2 : sg_ag cf_V ca_V [] s1 s2 := sg_agc_ok (by decide +kernel) f2
  have h8 := hT.1
  have hD1 : cv_D s1 := by
    by_cases c : lk_ok T x1 x2 x3
    · exact cv_D_like (a := x1.toInt) (b := x2.toInt) ⟨c.1.1, by have := c.1.2; omega⟩ ⟨c.2.1.1, by have := c.2.1.2; omega⟩ (p1 c).2 hD
    · rw [(p2 c).2]
      exact hD
  exact ⟨s2, rfl, hc2, cv_.ag ⟨T, np, m, hT, hU.ag (g1.le (by decide) (by decide) (by decide)), hV.ag (g1.le (by decide) (by decide) (by decide)), hP.ag (g1.le (by decide) (by decide) (by decide)), hS.ag (g1.le (by decide) (by decide) (by decide)), hE.ag (g1.le (by decide) (by decide) (by decide)), hD1⟩ g2⟩
theorem am_pv_read (hI : am_Iw h) : ∃ r1 r2 h1 h2, am_Do false 19 120 [.ref 0] h (some (.int r1), h1) ∧ ab_hok ab_D0 h1 ∧ am_Do false 19 151 [.ref 64] h1 (some (.int r2), h2) ∧ ab_hok ab_D0 h2 ∧ am_Iw h2 ∧ r1 = r2 := by
  obtain ⟨r1, r2, h1, h2, a, b, c, d, e, q⟩ := am_pq_read hI.ip
  refine ⟨r1, r2, h1, h2, a, b, c, d, ⟨e.1, ?_⟩, q⟩
  obtain ⟨⟨hok, hvl⟩, s, rfl, ⟨⟨B, N, kX, kM⟩, -⟩, hv⟩ := hI
  obtain ⟨-, s3, e3, hc2⟩ := e
  have ok2 := d
  have n12 := sg_rgI (a := 24) (k := 0) (lo := 0) (hi := 12) hok am_o24 rfl rfl
  obtain ⟨s1, rfl, hz1, q1⟩ := a.sI (rx_read kX n12)
  have fr : (s1.1 64 2 = s.1 64 2) ∧ s1.2.2.1 65 = s.2.2.1 65 := by
    generalize rp_text B N (N + 1) rp_T0 (rd_q B N 0) = R at q1
    match R, q1 with
    | .inl e, q1 => exact ⟨q1.2.2.i (by decide), q1.2.2.a (by decide)⟩
    | .inr T, q1 => exact ⟨q1.2.2.2.2.i (by decide), q1.2.2.2.2.a (by decide)⟩
  have kM1 : rm_K B N s1 := by
    unfold rm_K
    rw [fr.1, fr.2]
    exact kM
  obtain ⟨s2, e2, hz2, q2⟩ := c.sI (rm_read kM1)
  -- the state behind both, said of s2; s3 is the same cells
  have key : cv_ s2 := by
    rw [e2] at ok2
    generalize rp_text B N (N + 1) rp_T0 (rd_q B N 0) = R at q1 q2
    match R, q1, q2 with
    | .inl e, q1, q2 =>
      obtain ⟨x0, -, f1⟩ := q1
      obtain ⟨y0, -, f2⟩ := q2
      exact (hv.ag (f1.ag (by decide) (by decide) (by decide))).ag (f2.ag (by decide) (by decide) (by decide))
    | .inr T, q1, q2 =>
      obtain ⟨x0, hT, hU, hZ, f1⟩ := q1
      obtain ⟨y0, -, hV, hY, f2⟩ := q2
      have f2a : sg_ag [(1, 0), (1, 1), (1, 2), (1, 3), (1, 4), (18, 1), (24, 0), (28, 2), (28, 3)] [4, 5, 6, 7, 21, 23, 25, 26, 27, 33, 34] [] s1 s2 := f2.ag (by decide) (by decide) (by decide)
      obtain ⟨z23, z18, z26, z27, z282, z283, z33, z34, -, -, -, -, -, -, z27b⟩ := hZ
      obtain ⟨-, -, y40, -, -, -, -, -, y77⟩ := hY
      obtain ⟨T0, np, m, -, -, -, ⟨p12, p1, p2, p3, p4, p5, -, -⟩, -, -, -⟩ := hv
      have e0 : (Int32.ofInt 0).toInt = 0 := rfl
      have np1 : (s1.1 24 0).toInt = (np : Int) := by rw [f1.i (by decide)]; exact p1
      have hU2 : rx_RU T s2 := by
        unfold rx_RU
        rw [f2a.i (a := 1) (k := 0) (by decide), f2a.i (a := 1) (k := 1) (by decide), f2a.i (a := 1) (k := 2) (by decide), f2a.i (a := 1) (k := 3) (by decide), f2a.i (a := 1) (k := 4) (by decide), f2a.a (a := 4) (by decide), f2a.a (a := 5) (by decide), f2a.a (a := 6) (by decide), f2a.a (a := 7) (by decide)]
        exact hU
      have hl := sg_rgI (a := 1) (k := 3) (lo := 1) (hi := 48) ok2 am_o1 rfl rfl
      have z27' : ∀ i, i < 12 → s1.2.2.1 27 i = Int32.ofInt 0 := by
        intro i hi
        by_cases c : i < np
        · exact z27 i (by omega)
        · rw [z27b i (by omega)]
          exact p5 i (by omega) hi
      refine ⟨T, np, 0, hT, hU2, hV, ⟨p12, ?_, ?_, fun i hi => ?_, fun i hi => ?_, fun i h1 h2 => ?_, fun i hi => ?_, fun v hv => absurd hv (Nat.not_lt_zero v)⟩, ⟨?_, ?_, ?_, fun v hv => absurd hv (Nat.not_lt_zero v), fun k hk => absurd hk (by omega), fun i h1 h2 => ?_, ?_, fun p k hp hk => ?_, fun v hv => absurd hv (Nat.not_lt_zero v)⟩, fun i hi => ?_, fun i j hi hj => ?_⟩
      · rw [f2a.i (by decide)]; exact np1
      · rw [f2.i (by decide), f1.i (by decide)]; exact p2
      · rw [f2a.a (a := 25) (by decide), f1.a (b := 25) (by decide), f2.a (b := 76) (by decide), f1.a (b := 76) (by decide)]
        exact p3 i hi
      · rw [f2a.a (a := 27) (by decide), z27' i hi, y77 i hi]
      · rw [f2a.a (a := 27) (by decide)]; exact z27' i h2
      · rw [f2a.a (a := 26) (by decide), z26 i hi]; rfl
      · rw [f2a.i (by decide), z282, e0]; rfl
      · rw [y40, e0]; rfl
      · rw [← hU2.2.2.2.1]; omega
      · rw [f2a.a (a := 33) (by decide)]; exact z33 i (by omega)
      · rw [f2a.i (by decide), z283, e0]; rfl
      · obtain rfl : p = 0 := by omega
        have u := hU.2.2.2.2.2 k hk
        rw [f2a.a (a := 34) (by decide), show 12 * 0 + k = k by omega, z34 k (by rw [hU.2.2.1]; omega), u.1, u.2.2.1]
        show (if (rp_rl T k).1.toInt = 3 then (rp_rl T k).2.2.1 else Int32.ofInt 0).toInt = if (rp_rl T k).1.toInt = 3 then (rp_rl T k).2.2.1.toInt else 0
        split <;> rfl
      · rw [f2a.i (by decide), z18, e0] at hi
        omega
      · rw [f2a.a (a := 23) (by decide), z23 _ (by omega), z23 _ (by omega)]
  have f : ab_fr [] (sg_h s2) (sg_h s3) := by
    rw [← e2, ← e3]
    exact ab_fr.rf
  exact ⟨s3, e3, hc2, key.ag (sg_agc_ok (by decide +kernel) f)⟩
end PV
