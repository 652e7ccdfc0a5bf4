/-! ===== best: both answer alike ===== -/
theorem bxq_best {s : sg_S} {T : rp_T} {t f w ws S : Nat → Int32} {n m0 : Nat} {x1 : Int32} (hml : (s.1 28 2).toInt = (m0 : Int)) (hl0 : (m0 : Int) ≤ T.2.2.2.1 ∧ T.2.2.2.1 ≤ 48) (hl13 : (s.1 1 3).toInt = T.2.2.2.1)
    (htake : ∀ s0 : sg_S, sg_fr [(58, 7)] [] s s0 → am_SpV 110 [.ref 58] s0 (fun s2 => sg_fr [] [60] s0 s2 ∧ xB_ T t f w ws S n m0 s2 ∧ xq_ T (fp_ f m0 S (fun _ => 0)) (wq_ w m0 ws (fun _ => 0)) m0 s2)) : am_SpI 142 [.ref 0, .int x1] s (fun r _ => (¬ (1 ≤ x1.toInt ∧ x1.toInt ≤ 3) → r.toInt = -102) ∧ (1 ≤ x1.toInt ∧ x1.toInt ≤ 3 → (0 < (s.1 28 3).toInt → r.toInt = -109) ∧ (¬ 0 < (s.1 28 3).toInt → an_ (tr_ (bg_ T t f w ws S m0) (bo2_ T t f S m0) n x1.toInt.toNat 0 (fun _ => 0) 0 (false, 0)) r.toInt))) := by
  refine wp_X_best_ok ?_
  unfold wp_X_best
  refine wp_XStore_forgetBest_ok ?_
  unfold wp_XStore_forgetBest
  refine ⟨fun c => ⟨fun _ => rfl, fun z => by omega⟩, fun c => ⟨fun c2 => ⟨fun _ => rfl, fun z => by omega⟩, fun c2 => ?_⟩⟩
  have hc : 1 ≤ x1.toInt ∧ x1.toInt ≤ 3 := by omega
  refine ⟨fun e => ⟨fun z => absurd hc z, fun _ => ⟨fun _ => rfl, fun z => absurd e z⟩⟩, fun e => ?_⟩
  refine (bxq_search (m := x1.toInt.toNat) (t := t) (f := f) (w := w) (ws := ws) (S := S) (n := n) (by omega) (by omega) rfl (by exact hml) hl0 (by exact hl13) (htake _ (sg_fr.rf.uI rfl))).mono (fun s3 h3 => ?_)
  generalize tr_ (bg_ T t f w ws S m0) (bo2_ T t f S m0) n x1.toInt.toNat 0 (fun _ => 0) 0 (false, 0) = tg at h3 ⊢
  refine ⟨fun c7 => ⟨fun z => absurd hc z, fun _ => ⟨fun z => absurd z e, fun _ => ⟨fun _ => rfl, fun z => ?_⟩⟩⟩, fun c7 => ⟨fun z => absurd hc z, fun _ => ⟨fun z => absurd z e, fun _ => ⟨fun z => absurd (h3.1 z) c7, fun z => (h3.2 z).2⟩⟩⟩⟩
  have := (h3.2 z).1
  omega
/-- both answer alike -/
theorem am_pw_best {h : am_H} {x1 : Int32} (hI : am_Iw h) : ∃ r1 r2 h1 h2, am_Do false 19 142 [.ref 0, .int x1] h (some (.int r1), h1) ∧ ab_hok ab_D0 h1 ∧ am_Do false 19 206 [.ref 64, .int x1] h1 (some (.int r2), h2) ∧ ab_hok ab_D0 h2 ∧ am_Iw h2 ∧ r1 = r2 := by
  obtain ⟨r1, r2, h1, h2, d1, ok1, d2, ok2, i2, -⟩ := am_pv_best (x1 := x1) hI
  refine ⟨r1, r2, h1, h2, d1, ok1, d2, ok2, i2, ?_⟩
  obtain ⟨⟨hok, -⟩, s, rfl, hc, hv⟩ := hI
  obtain ⟨T, np, m, hT, hU, hV, hP, hS, hE, hD⟩ := id hv
  have hl := cv_len hok hU
  obtain ⟨z1, z2, z3, z4, z5, z6, z7, z8, z9⟩ := id hS
  have hk := rk_of hok hT hV
  obtain ⟨ne, n100, n1, n2, nn⟩ := hc.2.2.2.2.1
  obtain ⟨n, n20, m1, m2, mm⟩ := hc.2.2.2.2.2.2
  have t23 := sg_rng (a := 23) (t := 1) (n := 64) (lo := -9) (hi := 9) (m := 511) hok rfl rfl
  have t19 := sg_rng (a := 19) (t := 1) (n := 100) (lo := 0) (hi := 29) (m := 511) hok rfl rfl
  have t81 : ∀ i, i < 64 → -9 ≤ (s.2.2.1 81 i).toInt ∧ (s.2.2.1 81 i).toInt ≤ 9 := fun i hi => by rw [← hc.2.2.2.1 i hi]; exact t23 i hi
  have sy : ∀ i j, i < 8 → j < 8 → s.2.2.1 81 (8 * i + j) = s.2.2.1 81 (8 * j + i) := fun i j hi hj => by
    rw [← hc.2.2.2.1 (8 * i + j) (by omega), ← hc.2.2.2.1 (8 * j + i) (by omega)]
    exact hD i j hi hj
  have eS : ∀ v, v < n → g3_ (s.2.2.1 19) (s.2.2.1 20) (s.2.2.1 21) ne (s.1 18 0).toInt (s.2.2.1 59 (3 * v)) (s.2.2.1 59 (3 * v + 1)) (s.2.2.1 59 (3 * v + 2)) = mS_ s ne v := fun v hv => by
    unfold mS_
    rw [g3_congr nn, hc.2.2.1, mm (3 * v) (by omega), mm (3 * v + 1) (by omega), mm (3 * v + 2) (by omega)]
  have rS : ∀ v, v < n → 0 ≤ (mS_ s ne v).toInt ∧ (mS_ s ne v).toInt < (rp_kset T.1).toInt := fun v hv => by
    rw [← eS v hv]
    exact cv_g3 hT.1 (fun i hi => hE i (by omega))
  have hB : mB_ T s n ne m := ⟨hT, hk, hV, ⟨n2, n100⟩, hl, ⟨z2, z3⟩, ⟨m2, n20⟩, t81, z9, rS⟩
  have hx := bxq_best (s := s) (T := T) (t := s.2.2.1 81) (f := s.2.2.1 84) (w := s.2.2.1 85) (ws := s.2.2.1 96) (S := mS_ s ne) (n := n) (m0 := m) (x1 := x1) z1 ⟨z3, hl.2⟩ hU.2.2.2.1 (fun s0 f0 => by
    refine (bxq_take (n := n) (ne := ne) (by rw [f0.i rfl]; exact m1) n20 (by rw [f0.i rfl]; exact n1) n100 (by rw [f0.a rfl]; exact cm_yrs hok n100) (by rw [f0.a rfl]; exact fun i hi => (t19 i (by omega)).1)).mono (fun s2 h2 => ?_)
    obtain ⟨f2, h60⟩ := h2
    have f02 : sg_fr [(58, 7)] [60] s s2 := (f0.le (by decide) (by decide)).tr (f2.le (by decide) (by decide))
    refine ⟨f2, ⟨hT, hk, hU.fr f02 (by decide) (by decide), hl, ⟨by rw [f02.i rfl]; exact z1, z3⟩, ⟨by rw [f02.i rfl]; exact m1, n20⟩, by rw [f02.a rfl]; exact hc.2.2.2.1, t81, sy, z9, rS, fun v hv => ?_, by rw [f02.a rfl]; exact mm⟩, fun i hi => ?_, fun k hk2 => ?_, fun P k hP hk2 => ?_⟩
    · rw [h60 v hv, f0.a (b := 19) rfl, f0.a (b := 20) rfl, f0.a (b := 21) rfl, f0.a (b := 59) rfl, f0.i (b := 18) (j := 0) rfl]
      exact eS v hv
    · rw [f02.a rfl, (z4 i hi).2.1]
      exact (if_pos hi).symm
    · rw [f02.a rfl, z5 k hk2]
      exact (if_pos hk2).symm
    · rw [f02.a rfl, z8 P k hP hk2]
      refine nb_congr P (fun v hv => ?_)
      rw [(z4 v (by omega)).2.1]
      exact (if_pos (by omega)).symm)
  obtain ⟨s1, rfl, a1, a2⟩ := d1.sI hx
  obtain ⟨s1b, eb, p0, -⟩ := d1.sI (bqx_best (m := m) (by rw [hU.2.2.1]; have := hT.2.2.1; omega) z1 (by omega))
  rw [eb] at d2
  have hB1 : mB_ T s1b n ne m := by
    unfold mB_ mS_
    rw [p0.i (b := 64) (j := 34) (by decide), p0.i (b := 64) (j := 40) (by decide), p0.i (b := 64) (j := 58) (by decide), p0.i (b := 64) (j := 33) (by decide), p0.a (b := 81) (by decide), p0.a (b := 84) (by decide), p0.a (b := 78) (by decide), p0.a (b := 79) (by decide), p0.a (b := 80) (by decide), p0.a (b := 96) (by decide)]
    refine ⟨hT, hk, ?_, hB.2.2.2⟩
    unfold rm_RU
    rw [p0.i (b := 64) (j := 21) (by decide), p0.i (b := 64) (j := 22) (by decide), p0.i (b := 64) (j := 23) (by decide), p0.i (b := 64) (j := 24) (by decide), p0.i (b := 64) (j := 25) (by decide), p0.a (b := 72) (by decide), p0.a (b := 73) (by decide), p0.a (b := 74) (by decide), p0.a (b := 75) (by decide)]
    exact hV
  obtain ⟨s2, rfl, b1, b2⟩ := d2.sI (btm_best (x1 := x1) hB1)
  have e81 := p0.a (b := 81) (by decide)
  have e84 := p0.a (b := 84) (by decide)
  have e85 := p0.a (b := 85) (by decide)
  have e96 := p0.a (b := 96) (by decide)
  have e86 := p0.a (b := 86) (by decide)
  have eSS : mS_ s1b ne = mS_ s ne := by
    unfold mS_
    rw [p0.i (b := 64) (j := 33) (by decide), p0.a (b := 78) (by decide), p0.a (b := 79) (by decide), p0.a (b := 80) (by decide), e96]
  rw [e86, ← z7] at b2
  unfold mG_ mM_ at b2
  rw [e81, e84, e85, e96, eSS] at b2
  apply Int32.toInt_inj.mp
  by_cases c : 1 ≤ x1.toInt ∧ x1.toInt ≤ 3
  · by_cases c2 : 0 < (s.1 28 3).toInt
    · rw [(a2 c).1 c2, (b2 c).1 c2]
    · exact an_det ((a2 c).2 c2) ((b2 c).2 c2)
  · rw [a1 c, b1 c]
