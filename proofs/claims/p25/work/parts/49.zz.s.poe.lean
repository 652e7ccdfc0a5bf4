/-! ===== poet of both; the fresh pair ===== -/
section PE
variable {s : sg_S} {x1 : Int32} {np : Nat}
theorem sx_Poet (hn : (s.1 24 0).toInt = (np : Int)) (h12 : np ≤ 12) : am_SpI 122 [.ref 0, .int x1] s (fun r s2 => ((0 ≤ x1.toInt ∧ x1.toInt ≤ 99) ∧ np < 12 → r.toInt = (np : Int) ∧ s2 = sg_uI (sg_uA s 25 np x1) 24 0 (s.1 24 0 + Int32.ofInt 1)) ∧ (¬ ((0 ≤ x1.toInt ∧ x1.toInt ≤ 99) ∧ np < 12) → r.toInt = -1 ∧ s2 = s)) := by
  have z1 : (Int32.ofInt 1).toInt = 1 := rfl
  have hi := i32_inc (x := s.1 24 0) (c := 0) (by omega) (by omega)
  refine wp_X_poet_ok ?_
  unfold wp_X_poet
  refine ⟨fun c => ⟨fun z => by omega, fun _ => ⟨rfl, rfl⟩⟩, fun c => ⟨fun d => ⟨fun z => by omega, fun _ => ⟨rfl, rfl⟩⟩, fun d => ?_⟩⟩
  refine wp_XPoets_add_ok ?_
  unfold wp_XPoets_add
  rw [hn, Int.toNat_natCast]
  refine ⟨fun e _ _ => ⟨fun _ => ⟨?_, rfl⟩, fun z => absurd ⟨⟨by omega, by omega⟩, by omega⟩ z⟩, fun e => ⟨fun z => by omega, fun _ => ⟨rfl, rfl⟩⟩⟩
  rw [i32_sub (by omega) (by omega), hi, z1, hn]
  omega
theorem sm_Poet (hn : (s.1 64 30).toInt = (np : Int)) (h12 : np ≤ 12) : am_SpI 167 [.ref 64, .int x1] s (fun r s2 => ((0 ≤ x1.toInt ∧ x1.toInt ≤ 99) ∧ np < 12 → r.toInt = (np : Int) ∧ s2 = sg_uI (sg_uA (sg_uA s 76 np x1) 77 np (Int32.ofInt 0)) 64 30 (s.1 64 30 + Int32.ofInt 1)) ∧ (¬ ((0 ≤ x1.toInt ∧ x1.toInt ≤ 99) ∧ np < 12) → r.toInt = -1 ∧ s2 = s)) := by
  have z0 : (Int32.ofInt 0).toInt = 0 := rfl
  have z1 : (Int32.ofInt 1).toInt = 1 := rfl
  have z99 : (Int32.ofInt 99).toInt = 99 := rfl
  have hi := i32_inc (x := s.1 64 30) (c := 0) (by omega) (by omega)
  refine wp_M_poet_ok ?_
  unfold wp_M_poet
  refine sm_in.mono (fun y s1 hy => ?_)
  rw [z0, z99] at hy
  obtain rfl := hy.eq
  refine ⟨fun c => ⟨fun z => absurd z.1 (hy.no c), fun _ => ⟨rfl, rfl⟩⟩, fun c => ?_⟩
  have hc := hy.yes c
  rw [hn, Int.toNat_natCast, vp_b0]
  refine ⟨fun e => ⟨fun z => by omega, fun _ => ⟨rfl, rfl⟩⟩, fun e _ _ => ⟨fun _ => ⟨?_, rfl⟩, fun z => absurd ⟨hc, by omega⟩ z⟩⟩
  rw [i32_sub (by omega) (by omega), hi, z1, hn]
  omega
end PE
theorem am_pv_poet {h : am_H} {x1 : Int32} (hI : am_Iw h) : ∃ r1 r2 h1 h2, am_Do false 19 122 [.ref 0, .int x1] h (some (.int r1), h1) ∧ ab_hok ab_D0 h1 ∧ am_Do false 19 167 [.ref 64, .int x1] h1 (some (.int r2), h2) ∧ ab_hok ab_D0 h2 ∧ am_Iw h2 ∧ r1 = r2 := by
  obtain ⟨r1, h1, d1, i1, f1, -⟩ := am_uX_poet (x1 := x1) hI.1
  obtain ⟨r2, h2, d2, i2, f2, -⟩ := am_uM_poet (x1 := x1) i1
  refine ⟨r1, r2, h1, h2, d1, i1.1, d2, i2.1, ?_⟩
  obtain ⟨-, s, rfl, hc, hv⟩ := hI
  obtain ⟨T, np, m, hT, hU, hV, hP, hS, hE, hD⟩ := id hv
  obtain ⟨k0, k1, k2, k3, k4, k5, k6, k7⟩ := id hP
  obtain ⟨s1, rfl, p1, p2⟩ := d1.sI (sx_Poet k1 k0)
  have fr : sg_fr [(24, 0)] [25] s s1 := by
    by_cases c : (0 ≤ x1.toInt ∧ x1.toInt ≤ 99) ∧ np < 12
    · rw [(p1 c).2]
      exact (sg_fr.rf.uA rfl).uI rfl
    · rw [(p2 c).2]
      exact sg_fr.rf
  obtain ⟨s2, rfl, q1, q2⟩ := d2.sI (sm_Poet (by rw [fr.i rfl]; exact k2) k0)
  by_cases c : (0 ≤ x1.toInt ∧ x1.toInt ≤ 99) ∧ np < 12
  · obtain ⟨y1, e1⟩ := p1 c
    obtain ⟨y2, e2⟩ := q1 c
    have g : sg_fr [(64, 30)] [76, 77] s1 s2 := by rw [e2]; exact ((sg_fr.rf.uA rfl).uA rfl).uI rfl
    have fg : sg_fr [(24, 0), (64, 30)] [25, 76, 77] s s2 := (fr.le (by decide) (by decide)).tr (g.le (by decide) (by decide))
    have c25 : s2.2.2.1 25 = fun i => if i = np then x1 else s.2.2.1 25 i := by
      rw [g.a rfl, e1]
      exact sg_Aall
    have c76 : s2.2.2.1 76 = fun i => if i = np then x1 else s.2.2.1 76 i := by
      have e := fr.a (b := 76) rfl
      rw [e2]
      show (fun i => if 76 = 77 ∧ i = np then Int32.ofInt 0 else if 76 = 76 ∧ i = np then x1 else s1.2.2.1 76 i) = _
      rw [e]
      funext i
      simp
    have c77 : s2.2.2.1 77 = fun i => if i = np then Int32.ofInt 0 else s.2.2.1 77 i := by
      have e := fr.a (b := 77) rfl
      rw [e2]
      show (fun i => if 77 = 77 ∧ i = np then Int32.ofInt 0 else if 77 = 76 ∧ i = np then x1 else s1.2.2.1 77 i) = _
      rw [e]
      funext i
      simp
    have c24 : (s2.1 24 0).toInt = ((np + 1 : Nat) : Int) := by
      rw [g.i rfl, e1]
      show (s.1 24 0 + Int32.ofInt 1).toInt = _
      rw [i32_inc (c := 0) (by omega) (by omega), k1]
      rfl
    have c30 : (s2.1 64 30).toInt = ((np + 1 : Nat) : Int) := by
      rw [e2]
      show (s1.1 64 30 + Int32.ofInt 1).toInt = _
      rw [fr.i rfl, i32_inc (c := 0) (by omega) (by omega), k2]
      rfl
    refine ⟨⟨i2, s2, rfl, hc.ag (fg.ag (by decide) (by decide) (by decide)), T, np + 1, m, hT, hU.ag (fg.ag (by decide) (by decide) (by decide)), hV.ag (fg.ag (by decide) (by decide) (by decide)), ⟨by omega, c24, c30, fun i hi => ?_, fun i hi => ?_, fun i h1 h2 => ?_, by rw [fg.a (b := 26) rfl, fg.a (b := 83) rfl]; exact k6, fun v hv => ?_⟩, hS.ag (fg.ag (by decide) (by decide) (by decide)), hE.ag (fg.ag (by decide) (by decide) (by decide)), hD.ag (fg.ag (by decide) (by decide) (by decide))⟩, Int32.toInt_inj.mp (y1.trans y2.symm)⟩
    · rw [c25, c76]
      show (if i = np then x1 else s.2.2.1 25 i) = (if i = np then x1 else s.2.2.1 76 i)
      by_cases ei : i = np
      · rw [if_pos ei, if_pos ei]
      · rw [if_neg ei, if_neg ei]
        exact k3 i (by omega)
    · rw [c77, fg.a (b := 27) rfl]
      show s.2.2.1 27 i = (if i = np then Int32.ofInt 0 else s.2.2.1 77 i)
      by_cases ei : i = np
      · rw [if_pos ei]
        exact k5 i (by omega) hi
      · rw [if_neg ei]
        exact k4 i hi
    · rw [fg.a (b := 27) rfl]
      exact k5 i (by omega) h2
    · rw [fg.a (b := 83) rfl]
      have := k7 v hv
      omega
  · obtain ⟨a1, a2⟩ := p2 c
    obtain ⟨b1, b2⟩ := q2 c
    subst a2
    subst b2
    exact ⟨⟨i2, s2, rfl, hc, hv⟩, Int32.toInt_inj.mp (a1.trans b1.symm)⟩
/-- the fresh pair -/
def am_zc (f : Nat → Int32) (n : Nat) : Bool := (List.range n).all (fun i => decide (f i = Int32.ofInt 0))
theorem am_zc_at {f : Nat → Int32} {n : Nat} (h : am_zc f n = true) : ∀ i, i < n → f i = Int32.ofInt 0 := fun i hi => of_decide_eq_true (List.all_eq_true.mp h i (List.mem_range.mpr hi))
theorem am_zM26 : am_zc (am_ctI am_hM 26) 12 = true := by decide +kernel
theorem am_zM27 : am_zc (am_ctI am_hM 27) 12 = true := by decide +kernel
theorem am_zM77 : am_zc (am_ctI am_hM 77) 12 = true := by decide +kernel
theorem am_zM33 : am_zc (am_ctI am_hM 33) 49 = true := by decide +kernel
theorem am_zM23 : am_zc (am_ctI am_hM 23) 64 = true := by decide +kernel
theorem am_R0v {h : am_H} (h26 : am_zc (am_ctI h 26) 12 = true) (h27 : am_zc (am_ctI h 27) 12 = true) (h77 : am_zc (am_ctI h 77) 12 = true) (h33 : am_zc (am_ctI h 33) 49 = true) (h23 : am_zc (am_ctI h 23) 64 = true) : cv_ (sg_of (am_h0f h)) := by
  refine ⟨rp_T0, 0, 0, ⟨Nat.zero_le _, Nat.zero_le _, Nat.zero_le _, fun i hi => absurd hi (Nat.not_lt_zero i)⟩, ⟨rfl, rfl, rfl, rfl, rfl, fun i hi => absurd hi (Nat.not_lt_zero i)⟩, ⟨rfl, rfl, rfl, rfl, rfl, fun i hi => absurd hi (Nat.not_lt_zero i)⟩, ⟨Nat.zero_le _, rfl, rfl, fun i hi => absurd hi (Nat.not_lt_zero i), fun i hi => (am_zc_at h27 i hi).trans (am_zc_at h77 i hi).symm, fun i _ hi => am_zc_at h27 i hi, fun i hi => congrArg Int32.toInt (am_zc_at h26 i hi), fun v hv => absurd hv (Nat.not_lt_zero v)⟩, ⟨rfl, rfl, ?_, fun v hv => absurd hv (Nat.not_lt_zero v), fun k hk => absurd hk (by omega), fun i _ h2 => am_zc_at h33 i (by omega), rfl, fun p k _ hk => absurd hk (Nat.not_lt_zero k), fun v hv => absurd hv (Nat.not_lt_zero v)⟩, fun i hi => ?_, fun i j hi hj => (am_zc_at h23 _ (by omega)).trans (am_zc_at h23 _ (by omega)).symm⟩
  · show ((0 : Nat) : Int) ≤ 36
    decide
  · have hi : (i : Int) < (Int32.ofInt 0).toInt := hi
    have e0 : (Int32.ofInt 0).toInt = 0 := rfl
    omega
theorem am_R0w : am_Rw am_h0 := ⟨sg_of am_h0, sg_of_ok am_hok0, am_R0f am_kwM am_deM, am_R0v am_zM26 am_zM27 am_zM77 am_zM33 am_zM23⟩
