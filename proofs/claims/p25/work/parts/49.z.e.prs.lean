/-! ===== both answer alike, and stay alike: feed, read, year, entry, word, like, type, store ===== -/
theorem cm_A_of {s : sg_S} {q p : Int × (Nat → Int32)} (hok : ab_hok ab_D0 (sg_h s)) (a1 : am_tq q p) (a2 : (s.1 8 2) = Int32.ofInt q.1) (a3 : s.2.2.1 16 = q.2) (a4 : (s.1 64 2) = Int32.ofInt p.1) (a5 : s.2.2.1 65 = p.2) (a6 : 0 ≤ q.1 ∧ q.1 ≤ 600) (kw : ∀ (i : Nat) (v : List Int), rd_KW[i]? = some v → s.2.2.2.1 17 i = Int64.ofInt (rd_cd 32 v)) : cm_A s := by
  obtain ⟨n, C⟩ := q
  obtain ⟨m, D⟩ := p
  obtain ⟨e1, e2⟩ := a1
  simp only at a2 a3 a4 a5 a6 e1 e2
  subst e1
  have hn : (Int32.ofInt n).toInt = n := am_oi (by omega) (by omega)
  have hN : ((n.toNat : Nat) : Int) = n := Int.toNat_of_nonneg a6.1
  have g65 := sg_rng (a := 65) (t := 0) (n := 600) (lo := -128) (hi := 127) (m := 511) hok rfl rfl
  have g16 := sg_rng (a := 16) (t := 1) (n := 600) (lo := 0) (hi := 255) (m := 511) hok rfl rfl
  refine ⟨fun i => (s.2.2.1 65 i).toInt, n.toNat, ⟨by rw [a2, hn, hN], by omega, fun i hi => ?_, kw⟩, by rw [a4, hn, hN], by omega, fun i hi => ⟨rfl, g65 i (by omega)⟩⟩
  have h1 := g65 i (by omega)
  have h2 := g16 i (by omega)
  have h3 := e2 i (by omega)
  rw [← a3, ← a5] at h3
  refine ⟨h1.1, h1.2, ?_⟩
  show ((s.2.2.1 16 i).toInt = (s.2.2.1 65 i).toInt ∧ 0 ≤ (s.2.2.1 65 i).toInt) ∨ ((s.2.2.1 16 i).toInt = (s.2.2.1 65 i).toInt + 256 ∧ (s.2.2.1 65 i).toInt < 0)
  omega
/-- all but the tape -/
def cm_R (s : sg_S) : Prop := cm_B s ∧ cm_C s ∧ cm_D s ∧ cm_E s ∧ cm_F s ∧ cm_G s
def cf_R : List (Nat × Nat) := cf_B ++ cf_C ++ cf_E ++ cf_F ++ cf_G
def ca_R : List Nat := ca_B ++ ca_D ++ ca_E ++ ca_F ++ ca_G
theorem cm_R.ag {s s2 : sg_S} (h : cm_R s) (g : sg_ag cf_R ca_R [] s s2) : cm_R s2 := by
  obtain ⟨hB, hC, hD, hE, hF, hG⟩ := h
  exact ⟨hB.ag (g.le (by decide) (by decide) (by decide)), hC.ag (g.le (by decide) (by decide) (by decide)), hD.ag (g.le (by decide) (by decide) (by decide)), hE.ag (g.le (by decide) (by decide) (by decide)), hF.ag (g.le (by decide) (by decide) (by decide)), hG.ag (g.le (by decide) (by decide) (by decide))⟩
theorem am_pq_feed {h : am_H} {x1 x2 x3 : Int64} (hI : am_Ip h) : ∃ r1 r2 h1 h2, am_Do false 19 119 [.ref 0, .long x1, .long x2, .long x3] h (some (.int r1), h1) ∧ ab_hok ab_D0 h1 ∧ am_Do false 19 150 [.ref 64, .long x1, .long x2, .long x3] h1 (some (.int r2), h2) ∧ ab_hok ab_D0 h2 ∧ am_Ip h2 ∧ r1 = r2 := by
  obtain ⟨⟨hok, hvl⟩, s, rfl, ⟨B, N, kX, kM⟩, hr⟩ := hI
  have hr : cm_R s := hr
  have hN := kX.2.1
  have c8 : ab_cell (sg_h s) 8 ((2 : Nat) : Int) = some (.int (Int32.ofInt (N : Int))) := by rw [sg_cI2 am_o8 rfl, ← rx_ofI kX.1]
  have c16 : (sg_h s)[16]? = some (.inl (1, 600, .inl (s.2.2.1 16))) := sg_arr (a := 16) (t := 1) rfl rfl
  obtain ⟨h1, d1, v1⟩ := am_fdX (A := x1) (B := x2) (C := x3) (⟨hok, ab_fr.rf, c8, c16, by show (0 : Int) ≤ (N : Int); omega, by show (N : Int) ≤ 600; omega⟩ : am_v8 am_mo8 (sg_h s) (sg_h s) ((N : Int), s.2.2.1 16))
  have e1 := sg_of_ok v1.1
  generalize sg_of h1 = s1 at e1
  subst e1
  have g1 : sg_ag (cf_R ++ [(64, 2)]) (ca_R ++ [65]) [17] s s1 := sg_agc_ok (by decide +kernel) v1.2.1
  have c64 : ab_cell (sg_h s1) 64 ((2 : Nat) : Int) = some (.int (Int32.ofInt (N : Int))) := by rw [sg_cI2 am_o64 rfl, g1.i (by decide), ← rx_ofI kM.1]
  have c65 : (sg_h s1)[65]? = some (.inl (0, 600, .inl (s.2.2.1 65))) := by rw [sg_arr (a := 65) (t := 0) rfl rfl, g1.a (by decide)]
  obtain ⟨h2, d2, v2⟩ := am_fdM (A := x1) (B := x2) (C := x3) (⟨v1.1, ab_fr.rf, c64, c65, by show (0 : Int) ≤ (N : Int); omega, by show (N : Int) ≤ 600; omega⟩ : am_v64 am_mo64 (sg_h s1) (sg_h s1) ((N : Int), s.2.2.1 65))
  have e2 := sg_of_ok v2.1
  generalize sg_of h2 = s2 at e2
  subst e2
  have a1 : am_tq ((N : Int), s.2.2.1 16) ((N : Int), s.2.2.1 65) := by
    refine ⟨rfl, fun j hj => ?_⟩
    have hj : j < N := by have hj : (j : Int) < (N : Int) := hj; omega
    obtain ⟨b1, b2, b3⟩ := kX.2.2.1 j hj
    have b4 := (kM.2.2 j hj).1
    show (s.2.2.1 16 j).toInt = (s.2.2.1 65 j).toInt % 256
    omega
  have hq := a1.fold (am_lx x1 ++ am_lx x2 ++ am_lx x3) (am_lm x1 ++ am_lm x2 ++ am_lm x3) _ _ ⟨by show (0 : Int) ≤ (N : Int); omega, by show (N : Int) ≤ 600; omega⟩ (am_lxm x1 x2 x3)
  obtain ⟨-, f1, z1, z2, z3⟩ := id v1
  obtain ⟨-, f2, w1, w2, w3⟩ := id v2
  have g2 : sg_ag (cf_R ++ [(8, 2)]) (ca_R ++ [16]) [17] s1 s2 := sg_agc_ok (by decide +kernel) f2
  rw [sg_cI2 am_o8 rfl] at z1
  rw [sg_arr (a := 16) (t := 1) rfl rfl] at z2
  rw [sg_cI2 am_o64 rfl] at w1
  rw [sg_arr (a := 65) (t := 0) rfl rfl] at w2
  have z1 := (Value.int.injEq _ _).mp (Option.some.inj z1)
  have w1 := (Value.int.injEq _ _).mp (Option.some.inj w1)
  have z2 : s1.2.2.1 16 = _ := Sum.inl.inj (Prod.mk.inj (Prod.mk.inj (Sum.inl.inj (Option.some.inj z2))).2).2
  have w2 : s2.2.2.1 65 = _ := Sum.inl.inj (Prod.mk.inj (Prod.mk.inj (Sum.inl.inj (Option.some.inj w2))).2).2
  refine ⟨_, _, sg_h s1, sg_h s2, d1, v1.1, d2, v2.1, ⟨⟨v2.1, (hvl.frX f1 rfl).frM v1.1 f2 rfl⟩, s2, rfl, ?_, (hr.ag (g1.le (by decide) (by decide) (by decide))).ag (g2.le (by decide) (by decide) (by decide))⟩, by rw [hq.1]⟩
  refine cm_A_of v2.1 hq ?_ ?_ w1 w2 z3 (fun i v hv => ?_)
  · rw [g2.i (by decide)]; exact z1
  · rw [g2.a (by decide)]; exact z2
  · rw [g2.m (by decide), g1.m (by decide)]
    exact kX.2.2.2 i v hv
/-- a state's year of each entry is not below 0 -/
theorem cm_yrs {s : sg_S} (hok : ab_hok ab_D0 (sg_h s)) {n : Nat} (h100 : n ≤ 100) : ∀ i, i < n → 0 ≤ (s.2.2.1 20 i).toInt := fun i hi => (sg_rng (a := 20) (t := 1) (n := 100) (lo := 0) (hi := 9999) (m := 511) hok rfl rfl i (by omega)).1
theorem am_pq_read {h : am_H} (hI : am_Ip h) : ∃ r1 r2 h1 h2, am_Do false 19 120 [.ref 0] h (some (.int r1), h1) ∧ ab_hok ab_D0 h1 ∧ am_Do false 19 151 [.ref 64] h1 (some (.int r2), h2) ∧ ab_hok ab_D0 h2 ∧ am_Ip h2 ∧ r1 = r2 := by
  obtain ⟨r1, h1, d1, i1, f1, -⟩ := am_uX_read hI.1
  obtain ⟨r2, h2, d2, i2, f2, -⟩ := am_uM_read i1
  refine ⟨r1, r2, h1, h2, d1, i1.1, d2, i2.1, ?_⟩
  obtain ⟨⟨hok, hvl⟩, s, rfl, ⟨B, N, kX, kM⟩, hB, hC, hD, hE, hF, hG⟩ := hI
  have n12 := sg_rgI (a := 24) (k := 0) (lo := 0) (hi := 12) hok am_o24 rfl rfl
  obtain ⟨s1, rfl, hz1, q1⟩ := d1.sI (rx_read kX n12)
  have fr : (s1.1 64 2 = s.1 64 2) ∧ s1.2.2.1 65 = s.2.2.1 65 := by
    generalize rp_text B N (N + 1) rp_T0 (rd_q B N 0) = R at q1
    match R, q1 with
    | .inl e, q1 => exact ⟨q1.2.2.i (by decide), q1.2.2.a (by decide)⟩
    | .inr T, q1 => exact ⟨q1.2.2.2.2.i (by decide), q1.2.2.2.2.a (by decide)⟩
  have kM1 : rm_K B N s1 := by
    unfold rm_K
    rw [fr.1, fr.2]
    exact kM
  obtain ⟨s2, rfl, hz2, q2⟩ := d2.sI (rm_read kM1)
  generalize rp_text B N (N + 1) rp_T0 (rd_q B N 0) = R at q1 q2
  match R, q1, q2 with
  | .inl e, q1, q2 =>
    obtain ⟨x0, -, f1⟩ := q1
    obtain ⟨y0, -, f2⟩ := q2
    refine ⟨⟨i2, s2, rfl, ⟨fun _ => 0, 0, ⟨by rw [f2.i (by decide)]; exact hz1, Nat.zero_le _, fun i hi => absurd hi (Nat.not_lt_zero i), fun i v hv => ?_⟩, hz2, Nat.zero_le _, fun i hi => absurd hi (Nat.not_lt_zero i)⟩, ?_⟩, Int32.toInt_inj.mp (by rw [x0, y0])⟩
    · rw [f2.m (by decide), f1.m (by decide)]
      exact kX.2.2.2 i v hv
    · have hr : cm_R s := ⟨hB, hC, hD, hE, hF, hG⟩
      exact (hr.ag (f1.ag (by decide) (by decide) (by decide))).ag (f2.ag (by decide) (by decide) (by decide))
  | .inr T, q1, q2 =>
    obtain ⟨x0, hT, hU, hZ, f1⟩ := q1
    obtain ⟨y0, -, hV, hY, f2⟩ := q2
    have f2a : sg_ag [(8, 2), (1, 0), (1, 1), (1, 2), (1, 3), (1, 4), (18, 0), (18, 1), (35, 3), (58, 4)] [4, 5, 6, 7, 23] [17] s1 s2 := f2.ag (by decide) (by decide) (by decide)
    obtain ⟨z23, z18, -, -, -, -, -, -, z35, -, -, -, z58, -⟩ := hZ
    obtain ⟨y81, y34, -, y46, y58, -, -, -, -⟩ := hY
    have e0 : (Int32.ofInt 0).toInt = 0 := rfl
    refine ⟨⟨i2, s2, rfl, ⟨fun _ => 0, 0, ⟨by rw [f2a.i (by decide)]; exact hz1, Nat.zero_le _, fun i hi => absurd hi (Nat.not_lt_zero i), fun i v hv => ?_⟩, hz2, Nat.zero_le _, fun i hi => absurd hi (Nat.not_lt_zero i)⟩, ⟨T, hT, ?_, hV⟩, ?_, fun i hi => ?_, ⟨0, Nat.zero_le _, ?_, ?_, fun i hi => absurd hi (Nat.not_lt_zero i)⟩, ⟨0, Nat.zero_le _, ?_, ?_, fun i hi => absurd hi (Nat.not_lt_zero i)⟩, ⟨0, Nat.zero_le _, ?_, ?_, fun i hi => absurd hi (by omega)⟩⟩, Int32.toInt_inj.mp (by rw [x0, y0])⟩
    · rw [f2a.m (by decide), f1.m (by decide)]
      exact kX.2.2.2 i v hv
    · unfold rx_RU
      rw [f2a.i (a := 1) (k := 0) (by decide), f2a.i (a := 1) (k := 1) (by decide), f2a.i (a := 1) (k := 2) (by decide), f2a.i (a := 1) (k := 3) (by decide), f2a.i (a := 1) (k := 4) (by decide), f2a.a (a := 4) (by decide), f2a.a (a := 5) (by decide), f2a.a (a := 6) (by decide), f2a.a (a := 7) (by decide)]
      exact hU
    · unfold cm_C
      rw [f2a.i (a := 18) (k := 0) (by decide), f1.i (by decide), f2.i (by decide), f1.i (by decide)]
      exact hC
    · rw [f2a.a (a := 23) (by decide), z23 i hi, y81 i hi]
    · rw [f2a.i (by decide), z18, e0]; rfl
    · rw [y34, e0]; rfl
    · rw [f2a.i (by decide), z35, e0]; rfl
    · rw [y46, e0]; rfl
    · rw [f2a.i (by decide), z58, e0]; rfl
    · rw [y58, e0]; rfl
section PQ
variable {h : am_H} {x1 x2 x3 : Int32}
theorem am_pq_year (hI : am_Ip h) : ∃ r1 r2 h1 h2, am_Do false 19 125 [.ref 0, .int x1] h (some (.int r1), h1) ∧ ab_hok ab_D0 h1 ∧ am_Do false 19 173 [.ref 64, .int x1] h1 (some (.int r2), h2) ∧ ab_hok ab_D0 h2 ∧ am_Ip h2 ∧ r1 = r2 := by
  obtain ⟨r1, h1, d1, i1, f1, -⟩ := am_uX_year (x1 := x1) hI.1
  obtain ⟨r2, h2, d2, i2, f2, -⟩ := am_uM_year (x1 := x1) i1
  refine ⟨r1, r2, h1, h2, d1, i1.1, d2, i2.1, ?_⟩
  obtain ⟨-, s, rfl, hA, hB, hC, hD, hE, hF, hG⟩ := hI
  obtain ⟨s1, rfl, p1, p2⟩ := d1.sI sx_Year
  obtain ⟨s2, rfl, q1, q2⟩ := d2.sI sm_Year
  by_cases c : 0 ≤ x1.toInt ∧ x1.toInt ≤ 9999
  · obtain ⟨a1, a2⟩ := p1 c
    obtain ⟨b1, b2⟩ := q1 c
    subst a2
    have f : sg_fr [(18, 0), (64, 33)] [] s s2 := by rw [b2]; exact (sg_fr.rf.uI rfl).uI rfl
    refine ⟨⟨i2, s2, rfl, hA.ag (f.ag (by decide) (by decide) (by decide)), hB.ag (f.ag (by decide) (by decide) (by decide)), by rw [b2]; rfl, hD.ag (f.ag (by decide) (by decide) (by decide)), hE.ag (f.ag (by decide) (by decide) (by decide)), hF.ag (f.ag (by decide) (by decide) (by decide)), hG.ag (f.ag (by decide) (by decide) (by decide))⟩, by rw [a1, b1]⟩
  · obtain ⟨a1, a2⟩ := p2 c
    obtain ⟨b1, b2⟩ := q2 c
    subst a2
    subst b2
    exact ⟨⟨i2, s2, rfl, hA, hB, hC, hD, hE, hF, hG⟩, by rw [a1, b1]⟩
theorem am_pq_word (hI : am_Ip h) : ∃ r1 r2 h1 h2, am_Do false 19 129 [.ref 0, .int x1] h (some (.int r1), h1) ∧ ab_hok ab_D0 h1 ∧ am_Do false 19 176 [.ref 64, .int x1] h1 (some (.int r2), h2) ∧ ab_hok ab_D0 h2 ∧ am_Ip h2 ∧ r1 = r2 := by
  obtain ⟨r1, h1, d1, i1, f1, -⟩ := am_uX_word (x1 := x1) hI.1
  obtain ⟨r2, h2, d2, i2, f2, -⟩ := am_uM_word (x1 := x1) i1
  refine ⟨r1, r2, h1, h2, d1, i1.1, d2, i2.1, ?_⟩
  obtain ⟨⟨hok, -⟩, s, rfl, hA, hB, hC, hD, hE, hF, hG⟩ := hI
  obtain ⟨n, n100, n1, n2, nn⟩ := id hE
  obtain ⟨s1, rfl, p0, p1, p2⟩ := d1.sI (sx_Word n1 n100 (cm_yrs hok n100))
  subst p0
  obtain ⟨s2, rfl, q0, q1, q2⟩ := d2.sI (sm_Word n2 n100)
  subst q0
  refine ⟨⟨i2, s2, rfl, hA, hB, hC, hD, hE, hF, hG⟩, ?_⟩
  by_cases c : 0 ≤ x1.toInt ∧ x1.toInt ≤ 29
  · rw [p1 c, q1 c, wd_st_congr nn, hC]
  · rw [p2 c, q2 c]
theorem am_pq_entry (hI : am_Ip h) : ∃ r1 r2 h1 h2, am_Do false 19 127 [.ref 0, .int x1, .int x2, .int x3] h (some (.int r1), h1) ∧ ab_hok ab_D0 h1 ∧ am_Do false 19 174 [.ref 64, .int x1, .int x2, .int x3] h1 (some (.int r2), h2) ∧ ab_hok ab_D0 h2 ∧ am_Ip h2 ∧ r1 = r2 := by
  obtain ⟨r1, h1, d1, i1, f1, -⟩ := am_uX_entry (x1 := x1) (x2 := x2) (x3 := x3) hI.1
  obtain ⟨r2, h2, d2, i2, f2, -⟩ := am_uM_entry (x1 := x1) (x2 := x2) (x3 := x3) i1
  refine ⟨r1, r2, h1, h2, d1, i1.1, d2, i2.1, ?_⟩
  obtain ⟨⟨hok, -⟩, s, rfl, hA, hB, hC, hD, hE, hF, hG⟩ := hI
  obtain ⟨n, n100, n1, n2, nn⟩ := id hE
  obtain ⟨T, hT, hU, hV⟩ := id hB
  obtain ⟨s1, rfl, p1, p2⟩ := d1.sI (sx_Entry hU n1 n100)
  have e34 : sg_fr [(18, 1)] [19, 20, 21] s s1 := by
    by_cases c : en_ok T x1 x2 x3
    · obtain ⟨pa, pb⟩ := p1 c
      by_cases c2 : pt_ix (s.2.2.1 19) (s.2.2.1 20) n x1 x2 < n
      · rw [(pa c2).2]; exact sg_fr.rf.uA rfl
      · by_cases c3 : n < 100
        · rw [((pb c2).1 c3).2]; exact (((sg_fr.rf.uA rfl).uA rfl).uA rfl).uI rfl
        · rw [((pb c2).2 c3).2]; exact sg_fr.rf
    · rw [(p2 c).2]; exact sg_fr.rf
  have hV1 : rm_RU T s1 := by
    unfold rm_RU
    rw [e34.i rfl, e34.i rfl, e34.i rfl, e34.i rfl, e34.i rfl, e34.a rfl, e34.a rfl, e34.a rfl, e34.a rfl]
    exact hV
  obtain ⟨s2, rfl, q1, q2⟩ := d2.sI (sm_Entry hV1 hT (by rw [e34.i rfl]; exact n2) n100)
  have hix : pt_ix (s1.2.2.1 78) (s1.2.2.1 79) n x1 x2 = pt_ix (s.2.2.1 19) (s.2.2.1 20) n x1 x2 := by
    rw [e34.a rfl, e34.a rfl]
    exact (pt_ix_congr (fun i hi => ⟨(nn i hi).1, (nn i hi).2.1⟩)).symm
  rw [hix] at q1
  generalize pt_ix (s.2.2.1 19) (s.2.2.1 20) n x1 x2 = G at p1 q1
  have fin : sg_fr [(18, 1), (64, 34)] [19, 20, 21, 78, 79, 80] s s2 → cm_E s2 → r1 = r2 → am_Ip (sg_h s2) ∧ r1 = r2 := fun f hE2 hr => ⟨⟨i2, s2, rfl, hA.ag (f.ag (by decide) (by decide) (by decide)), hB.ag (f.ag (by decide) (by decide) (by decide)), hC.ag (f.ag (by decide) (by decide) (by decide)), hD.ag (f.ag (by decide) (by decide) (by decide)), hE2, hF.ag (f.ag (by decide) (by decide) (by decide)), hG.ag (f.ag (by decide) (by decide) (by decide))⟩, hr⟩
  by_cases c : en_ok T x1 x2 x3
  · obtain ⟨pa, pb⟩ := p1 c
    obtain ⟨qa, qb⟩ := q1 c
    by_cases c2 : G < n
    · obtain ⟨a1, a2⟩ := pa c2
      obtain ⟨b1, b2⟩ := qa c2
      subst a2
      subst b2
      refine fin ((sg_fr.rf.uA rfl).uA rfl) ⟨n, n100, n1, n2, fun i hi => ?_⟩ (Int32.toInt_inj.mp (by rw [a1, b1]))
      obtain ⟨m1, m2, m3⟩ := nn i hi
      refine ⟨m1, m2, ?_⟩
      show (if 21 = 80 ∧ i = G then x3 else if 21 = 21 ∧ i = G then x3 else s.2.2.1 21 i) = (if 80 = 80 ∧ i = G then x3 else if 80 = 21 ∧ i = G then x3 else s.2.2.1 80 i)
      by_cases ei : i = G
      · simp [ei]
      · simp [ei, m3]
    · by_cases c3 : n < 100
      · obtain ⟨a1, a2⟩ := (pb c2).1 c3
        obtain ⟨b1, b2⟩ := (qb c2).1 c3
        subst a2
        subst b2
        have e1 : (Int32.ofInt ((n : Int) + 1)).toInt = ((n + 1 : Nat) : Int) := by rw [am_oi (by omega) (by omega)]; omega
        refine fin (((((((sg_fr.rf.uA rfl).uA rfl).uA rfl).uI rfl).uA rfl).uA rfl).uA rfl |>.uI rfl) ⟨n + 1, by omega, e1, e1, fun i hi => ?_⟩ (Int32.toInt_inj.mp (by rw [a1, b1]))
        by_cases ei : i = n
        · subst ei
          refine ⟨?_, ?_, ?_⟩
          · show (if 19 = 80 ∧ i = i then x3 else if 19 = 79 ∧ i = i then x2 else if 19 = 78 ∧ i = i then x1 else if 19 = 21 ∧ i = i then x3 else if 19 = 20 ∧ i = i then x2 else if 19 = 19 ∧ i = i then x1 else s.2.2.1 19 i) = (if 78 = 80 ∧ i = i then x3 else if 78 = 79 ∧ i = i then x2 else if 78 = 78 ∧ i = i then x1 else if 78 = 21 ∧ i = i then x3 else if 78 = 20 ∧ i = i then x2 else if 78 = 19 ∧ i = i then x1 else s.2.2.1 78 i)
            simp
          · show (if 20 = 80 ∧ i = i then x3 else if 20 = 79 ∧ i = i then x2 else if 20 = 78 ∧ i = i then x1 else if 20 = 21 ∧ i = i then x3 else if 20 = 20 ∧ i = i then x2 else if 20 = 19 ∧ i = i then x1 else s.2.2.1 20 i) = (if 79 = 80 ∧ i = i then x3 else if 79 = 79 ∧ i = i then x2 else if 79 = 78 ∧ i = i then x1 else if 79 = 21 ∧ i = i then x3 else if 79 = 20 ∧ i = i then x2 else if 79 = 19 ∧ i = i then x1 else s.2.2.1 79 i)
            simp
          · show (if 21 = 80 ∧ i = i then x3 else if 21 = 79 ∧ i = i then x2 else if 21 = 78 ∧ i = i then x1 else if 21 = 21 ∧ i = i then x3 else if 21 = 20 ∧ i = i then x2 else if 21 = 19 ∧ i = i then x1 else s.2.2.1 21 i) = (if 80 = 80 ∧ i = i then x3 else if 80 = 79 ∧ i = i then x2 else if 80 = 78 ∧ i = i then x1 else if 80 = 21 ∧ i = i then x3 else if 80 = 20 ∧ i = i then x2 else if 80 = 19 ∧ i = i then x1 else s.2.2.1 80 i)
            simp
        · obtain ⟨m1, m2, m3⟩ := nn i (by omega)
          have k : ∀ (a : Nat), (sg_uI (sg_uA (sg_uA (sg_uA (sg_uI (sg_uA (sg_uA (sg_uA s 19 n x1) 20 n x2) 21 n x3) 18 1 (Int32.ofInt ((n : Int) + 1))) 78 n x1) 79 n x2) 80 n x3) 64 34 (Int32.ofInt ((n : Int) + 1))).2.2.1 a i = s.2.2.1 a i := by
            intro a
            show (if a = 80 ∧ i = n then x3 else if a = 79 ∧ i = n then x2 else if a = 78 ∧ i = n then x1 else if a = 21 ∧ i = n then x3 else if a = 20 ∧ i = n then x2 else if a = 19 ∧ i = n then x1 else s.2.2.1 a i) = s.2.2.1 a i
            simp [ei]
          rw [k, k, k, k, k, k]
          exact ⟨m1, m2, m3⟩
      · obtain ⟨a1, a2⟩ := (pb c2).2 c3
        obtain ⟨b1, b2⟩ := (qb c2).2 c3
        subst a2
        subst b2
        exact fin sg_fr.rf hE (Int32.toInt_inj.mp (by rw [a1, b1]))
  · obtain ⟨a1, a2⟩ := p2 c
    obtain ⟨b1, b2⟩ := q2 c
    subst a2
    subst b2
    exact fin sg_fr.rf hE (Int32.toInt_inj.mp (by rw [a1, b1]))
theorem am_pq_like (hI : am_Ip h) : ∃ r1 r2 h1 h2, am_Do false 19 130 [.ref 0, .int x1, .int x2, .int x3] h (some (.int r1), h1) ∧ ab_hok ab_D0 h1 ∧ am_Do false 19 178 [.ref 64, .int x1, .int x2, .int x3] h1 (some (.int r2), h2) ∧ ab_hok ab_D0 h2 ∧ am_Ip h2 ∧ r1 = r2 := by
  obtain ⟨r1, h1, d1, i1, f1, -⟩ := am_uX_like (x1 := x1) (x2 := x2) (x3 := x3) hI.1
  obtain ⟨r2, h2, d2, i2, f2, -⟩ := am_uM_like (x1 := x1) (x2 := x2) (x3 := x3) i1
  refine ⟨r1, r2, h1, h2, d1, i1.1, d2, i2.1, ?_⟩
  obtain ⟨⟨hok, -⟩, s, rfl, hA, hB, hC, hD, hE, hF, hG⟩ := hI
  obtain ⟨T, hT, hU, hV⟩ := id hB
  obtain ⟨s1, rfl, p1, p2⟩ := d1.sI (sx_Like hU hT)
  have e34 : sg_fr [] [23] s s1 := by
    by_cases c : lk_ok T x1 x2 x3
    · rw [(p1 c).2]; exact (sg_fr.rf.uA rfl).uA rfl
    · rw [(p2 c).2]; exact sg_fr.rf
  have hV1 : rm_RU T s1 := by
    unfold rm_RU
    rw [e34.i rfl, e34.i rfl, e34.i rfl, e34.i rfl, e34.i rfl, e34.a rfl, e34.a rfl, e34.a rfl, e34.a rfl]
    exact hV
  obtain ⟨s2, rfl, q1, q2⟩ := d2.sI (sm_Like hV1 hT)
  have fin : sg_fr [] [23, 81] s s2 → cm_D s2 → r1 = r2 → am_Ip (sg_h s2) ∧ r1 = r2 := fun f hD2 hr => ⟨⟨i2, s2, rfl, hA.ag (f.ag (by decide) (by decide) (by decide)), hB.ag (f.ag (by decide) (by decide) (by decide)), hC.ag (f.ag (by decide) (by decide) (by decide)), hD2, hE.ag (f.ag (by decide) (by decide) (by decide)), hF.ag (f.ag (by decide) (by decide) (by decide)), hG.ag (f.ag (by decide) (by decide) (by decide))⟩, hr⟩
  by_cases c : lk_ok T x1 x2 x3
  · obtain ⟨a1, a2⟩ := p1 c
    obtain ⟨b1, b2⟩ := q1 c
    have h8 := hT.1
    obtain ⟨u1, u2, u3⟩ := id c
    have hlt : (8 * x1.toInt + x2.toInt).toNat < 64 := by omega
    rw [e34.a rfl] at b1
    refine fin ?_ (fun i hi => ?_) (by rw [a1, b1]; exact hD _ hlt)
    · rw [b2]; exact ((e34.le (by decide) (by decide)).uA rfl).uA rfl
    · subst a2
      subst b2
      show (if 23 = 81 ∧ i = (8 * x2.toInt + x1.toInt).toNat then x3 else if 23 = 81 ∧ i = (8 * x1.toInt + x2.toInt).toNat then x3 else if 23 = 23 ∧ i = (8 * x2.toInt + x1.toInt).toNat then x3 else if 23 = 23 ∧ i = (8 * x1.toInt + x2.toInt).toNat then x3 else s.2.2.1 23 i) = (if 81 = 81 ∧ i = (8 * x2.toInt + x1.toInt).toNat then x3 else if 81 = 81 ∧ i = (8 * x1.toInt + x2.toInt).toNat then x3 else if 81 = 23 ∧ i = (8 * x2.toInt + x1.toInt).toNat then x3 else if 81 = 23 ∧ i = (8 * x1.toInt + x2.toInt).toNat then x3 else s.2.2.1 81 i)
      have := hD i hi
      simp [this]
  · obtain ⟨a1, a2⟩ := p2 c
    obtain ⟨b1, b2⟩ := q2 c
    subst a2
    subst b2
    exact fin sg_fr.rf hD (by rw [a1, b1])
theorem am_pq_type (hI : am_Ip h) : ∃ r1 r2 h1 h2, am_Do false 19 137 [.ref 0, .int x1] h (some (.int r1), h1) ∧ ab_hok ab_D0 h1 ∧ am_Do false 19 196 [.ref 64, .int x1] h1 (some (.int r2), h2) ∧ ab_hok ab_D0 h2 ∧ am_Ip h2 ∧ r1 = r2 := by
  obtain ⟨r1, h1, d1, i1, f1, -⟩ := am_uX_type (x1 := x1) hI.1
  obtain ⟨r2, h2, d2, i2, f2, -⟩ := am_uM_type (x1 := x1) i1
  refine ⟨r1, r2, h1, h2, d1, i1.1, d2, i2.1, ?_⟩
  obtain ⟨⟨hok, -⟩, s, rfl, hA, hB, hC, hD, hE, hF, hG⟩ := hI
  obtain ⟨T, hT, hU, hV⟩ := id hB
  obtain ⟨n, n16, n1, n2, nn⟩ := id hF
  obtain ⟨s1, rfl, p1, p2⟩ := d1.sI (sx_Type hU n1 n16)
  have e34 : sg_fr [(35, 3)] [36] s s1 := by
    by_cases c : ty_ok T x1 ∧ ¬ ty_ix (s.2.2.1 36) n x1 < n ∧ n < 16
    · rw [(p1 c).2]; exact (sg_fr.rf.uA rfl).uI rfl
    · rw [(p2 c).2]; exact sg_fr.rf
  have hV1 : rm_RU T s1 := by
    unfold rm_RU
    rw [e34.i rfl, e34.i rfl, e34.i rfl, e34.i rfl, e34.i rfl, e34.a rfl, e34.a rfl, e34.a rfl, e34.a rfl]
    exact hV
  obtain ⟨s2, rfl, q1, q2⟩ := d2.sI (sm_Type hV1 hT (by rw [e34.i rfl]; exact n2) n16)
  have hix : ty_ix (s1.2.2.1 88) n x1 = ty_ix (s.2.2.1 36) n x1 := by
    rw [e34.a rfl]
    exact (ty_ix_congr nn).symm
  rw [hix] at q1 q2
  generalize ty_ix (s.2.2.1 36) n x1 = G at p1 p2 q1 q2 e34
  have fin : sg_fr [(35, 3), (64, 46)] [36, 88] s s2 → cm_F s2 → r1 = r2 → am_Ip (sg_h s2) ∧ r1 = r2 := fun f hF2 hr => ⟨⟨i2, s2, rfl, hA.ag (f.ag (by decide) (by decide) (by decide)), hB.ag (f.ag (by decide) (by decide) (by decide)), hC.ag (f.ag (by decide) (by decide) (by decide)), hD.ag (f.ag (by decide) (by decide) (by decide)), hE.ag (f.ag (by decide) (by decide) (by decide)), hF2, hG.ag (f.ag (by decide) (by decide) (by decide))⟩, hr⟩
  by_cases c : ty_ok T x1 ∧ ¬ G < n ∧ n < 16
  · obtain ⟨a1, a2⟩ := p1 c
    obtain ⟨b1, b2⟩ := q1 c
    subst a2
    subst b2
    have e1 : (Int32.ofInt ((n : Int) + 1)).toInt = ((n + 1 : Nat) : Int) := by rw [am_oi (by omega) (by omega)]; omega
    refine fin ((((sg_fr.rf.uA rfl).uI rfl).uA rfl).uI rfl) ⟨n + 1, by omega, e1, e1, fun i hi => ?_⟩ (Int32.toInt_inj.mp (by rw [a1, b1]))
    show (if 36 = 88 ∧ i = n then x1 else if 36 = 36 ∧ i = n then x1 else s.2.2.1 36 i) = (if 88 = 88 ∧ i = n then x1 else if 88 = 36 ∧ i = n then x1 else s.2.2.1 88 i)
    by_cases ei : i = n
    · simp [ei]
    · have := nn i (by omega)
      simp [ei, this]
  · obtain ⟨a1, a2⟩ := p2 c
    obtain ⟨b1, b2⟩ := q2 c
    subst a2
    subst b2
    exact fin sg_fr.rf hF (Int32.toInt_inj.mp (by rw [a1, b1]))
theorem am_pq_store (hI : am_Ip h) : ∃ r1 r2 h1 h2, am_Do false 19 141 [.ref 0, .int x1, .int x2, .int x3] h (some (.int r1), h1) ∧ ab_hok ab_D0 h1 ∧ am_Do false 19 205 [.ref 64, .int x1, .int x2, .int x3] h1 (some (.int r2), h2) ∧ ab_hok ab_D0 h2 ∧ am_Ip h2 ∧ r1 = r2 := by
  obtain ⟨r1, h1, d1, i1, f1, -⟩ := am_uX_store (x1 := x1) (x2 := x2) (x3 := x3) hI.1
  obtain ⟨r2, h2, d2, i2, f2, -⟩ := am_uM_store (x1 := x1) (x2 := x2) (x3 := x3) i1
  refine ⟨r1, r2, h1, h2, d1, i1.1, d2, i2.1, ?_⟩
  obtain ⟨⟨hok, -⟩, s, rfl, hA, hB, hC, hD, hE, hF, hG⟩ := hI
  obtain ⟨n, n20, n1, n2, nn⟩ := id hG
  obtain ⟨s1, rfl, p1, p2⟩ := d1.sI (sx_Store n1 n20)
  have e34 : sg_fr [(58, 4)] [59] s s1 := by
    by_cases c : aw_ x1 x2 x3 ∧ n < 20
    · rw [(p1 c).2]; exact (((sg_fr.rf.uA rfl).uA rfl).uA rfl).uI rfl
    · rw [(p2 c).2]; exact sg_fr.rf
  obtain ⟨s2, rfl, q1, q2⟩ := d2.sI (sm_Store (by rw [e34.i rfl]; exact n2) n20)
  have fin : sg_fr [(58, 4), (64, 58)] [59, 96] s s2 → cm_G s2 → r1 = r2 → am_Ip (sg_h s2) ∧ r1 = r2 := fun f hG2 hr => ⟨⟨i2, s2, rfl, hA.ag (f.ag (by decide) (by decide) (by decide)), hB.ag (f.ag (by decide) (by decide) (by decide)), hC.ag (f.ag (by decide) (by decide) (by decide)), hD.ag (f.ag (by decide) (by decide) (by decide)), hE.ag (f.ag (by decide) (by decide) (by decide)), hF.ag (f.ag (by decide) (by decide) (by decide)), hG2⟩, hr⟩
  by_cases c : aw_ x1 x2 x3 ∧ n < 20
  · obtain ⟨a1, a2⟩ := p1 c
    obtain ⟨b1, b2⟩ := q1 c
    subst a2
    subst b2
    have e1 : (Int32.ofInt ((n : Int) + 1)).toInt = ((n + 1 : Nat) : Int) := by rw [am_oi (by omega) (by omega)]; omega
    refine fin ((((((((sg_fr.rf.uA rfl).uA rfl).uA rfl).uI rfl).uA rfl).uA rfl).uA rfl).uI rfl) ⟨n + 1, by omega, e1, e1, fun i hi => ?_⟩ (Int32.toInt_inj.mp (by rw [a1, b1]))
    show (if 59 = 96 ∧ i = 3 * n + 2 then x3 else if 59 = 96 ∧ i = 3 * n + 1 then x2 else if 59 = 96 ∧ i = 3 * n then x1 else if 59 = 59 ∧ i = 3 * n + 2 then x3 else if 59 = 59 ∧ i = 3 * n + 1 then x2 else if 59 = 59 ∧ i = 3 * n then x1 else s.2.2.1 59 i) = (if 96 = 96 ∧ i = 3 * n + 2 then x3 else if 96 = 96 ∧ i = 3 * n + 1 then x2 else if 96 = 96 ∧ i = 3 * n then x1 else if 96 = 59 ∧ i = 3 * n + 2 then x3 else if 96 = 59 ∧ i = 3 * n + 1 then x2 else if 96 = 59 ∧ i = 3 * n then x1 else s.2.2.1 96 i)
    by_cases h1 : i = 3 * n + 2
    · simp [h1]
    · by_cases h2 : i = 3 * n + 1
      · simp [h1, h2]
      · by_cases h3 : i = 3 * n
        · simp [h1, h2, h3]
        · have := nn i (by omega)
          simp [h1, h2, h3, this]
  · obtain ⟨a1, a2⟩ := p2 c
    obtain ⟨b1, b2⟩ := q2 c
    subst a2
    subst b2
    exact fin sg_fr.rf hG (Int32.toInt_inj.mp (by rw [a1, b1]))
end PQ
