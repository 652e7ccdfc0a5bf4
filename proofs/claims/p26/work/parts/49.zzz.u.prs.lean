/-! ===== full, can, count; type and read; the fresh pair ===== -/
section FU
variable {s : sg_S} {x1 : Int32}
def op_ (s : sg_S) (x1 : Int32) : Prop := ¬ (s.1 64 55).toInt = 0 ∧ (1 ≤ x1.toInt ∧ x1.toInt ≤ (s.1 64 57).toInt) ∧ (s.2.2.1 93 (x1.toInt.toNat - 1)).toInt = 0
theorem sm_open (h57 : (s.1 64 57).toInt ≤ 48) : am_SpI 203 [.ref 64, .int x1] s (bo_ (op_ s x1) s) := by
  refine wp_M_isOpen_ok ?_
  unfold wp_M_isOpen
  have z1 : (Int32.ofInt 1).toInt = 1 := rfl
  refine ⟨fun c => bo_0 (fun z => z.1 c), fun c => sm_in.mono (fun y s2 hy => ?_)⟩
  have hno := hy.no
  have hyes := hy.yes
  have q := hy.eq
  subst q
  rw [z1] at hno hyes
  refine ⟨fun c2 => bo_0 (fun z => hno c2 z.2.1), fun c2 => ?_⟩
  have hr := hyes c2
  have e : (x1 - Int32.ofInt 1).toInt = x1.toInt - 1 := by rw [i32_sub (by omega) (by omega), z1]
  have e2 : (x1 - Int32.ofInt 1).toInt.toNat = x1.toInt.toNat - 1 := by omega
  rw [e2]
  exact fun _ _ => ⟨fun c3 => bo_1 ⟨c, hr, c3⟩, fun c3 => bo_0 (fun z => c3 z.2.2)⟩
theorem sm_tell {mi a : Nat} {P : Prop} (r : Int32) (hP : 1 ≤ x1.toInt ∧ x1.toInt ≤ 48) (h : (op_ s x1 → r.toInt = (s.2.2.1 a (x1.toInt.toNat - 1)).toInt) ∧ (¬ op_ s x1 → r.toInt = -1)) : r.toInt = fM_ s a x1.toInt.toNat := by
  unfold fM_
  by_cases c : op_ s x1
  · rw [if_pos ⟨c.1, by have := c.2.1.2; omega, c.2.2⟩]
    exact h.1 c
  · rw [if_neg (fun z => c ⟨z.1, ⟨hP.1, by have := z.2.1; omega⟩, z.2.2⟩)]
    exact h.2 c
theorem sm_Full (h57 : (s.1 64 57).toInt ≤ 48) : am_SpI 202 [.ref 64, .int x1] s (fun r s2 => s2 = s ∧ (op_ s x1 → r.toInt = (s.2.2.1 94 (x1.toInt.toNat - 1)).toInt) ∧ (¬ op_ s x1 → r.toInt = -1)) := by
  refine wp_M_full_ok ?_
  unfold wp_M_full
  refine (sm_open h57).mono (fun y s2 hy => ?_)
  have hno := hy.no
  have hyes := hy.yes
  have q := hy.eq
  subst q
  refine ⟨fun c => ⟨rfl, fun z => absurd z (hno c), fun _ => rfl⟩, fun c _ _ => ⟨rfl, fun z => ?_, fun z => absurd (hyes c) z⟩⟩
  have z1 : (Int32.ofInt 1).toInt = 1 := rfl
  have e : (x1 - Int32.ofInt 1).toInt = x1.toInt - 1 := by rw [i32_sub (by have := z.2.1; omega) (by have := z.2.1; omega), z1]
  have e2 : (x1 - Int32.ofInt 1).toInt.toNat = x1.toInt.toNat - 1 := by omega
  rw [e2]
theorem sm_Can (h57 : (s.1 64 57).toInt ≤ 48) : am_SpI 204 [.ref 64, .int x1] s (fun r s2 => s2 = s ∧ (op_ s x1 → r.toInt = (s.2.2.1 95 (x1.toInt.toNat - 1)).toInt) ∧ (¬ op_ s x1 → r.toInt = -1)) := by
  refine wp_M_can_ok ?_
  unfold wp_M_can
  refine (sm_open h57).mono (fun y s2 hy => ?_)
  have hno := hy.no
  have hyes := hy.yes
  have q := hy.eq
  subst q
  refine ⟨fun c => ⟨rfl, fun z => absurd z (hno c), fun _ => rfl⟩, fun c _ _ => ⟨rfl, fun z => ?_, fun z => absurd (hyes c) z⟩⟩
  have z1 : (Int32.ofInt 1).toInt = 1 := rfl
  have e : (x1 - Int32.ofInt 1).toInt = x1.toInt - 1 := by rw [i32_sub (by have := z.2.1; omega) (by have := z.2.1; omega), z1]
  have e2 : (x1 - Int32.ofInt 1).toInt.toNat = x1.toInt.toNat - 1 := by omega
  rw [e2]
theorem sx_Full : am_SpI 139 [.ref 0, .int x1] s (fun r s2 => s2 = s ∧ (1 ≤ x1.toInt ∧ x1.toInt ≤ 48 → r = s.2.2.1 37 x1.toInt.toNat) ∧ (¬ (1 ≤ x1.toInt ∧ x1.toInt ≤ 48) → r.toInt = -1)) := by
  refine wp_X_full_ok ?_
  unfold wp_X_full
  exact ⟨fun c => ⟨rfl, fun z => by omega, fun _ => rfl⟩, fun c => ⟨fun c2 => ⟨rfl, fun z => by omega, fun _ => rfl⟩, fun c2 _ _ => ⟨rfl, fun _ => rfl, fun z => absurd ⟨by omega, by omega⟩ z⟩⟩⟩
theorem sx_Can : am_SpI 140 [.ref 0, .int x1] s (fun r s2 => s2 = s ∧ (1 ≤ x1.toInt ∧ x1.toInt ≤ 48 → r = s.2.2.1 38 x1.toInt.toNat) ∧ (¬ (1 ≤ x1.toInt ∧ x1.toInt ≤ 48) → r.toInt = -1)) := by
  refine wp_X_can_ok ?_
  unfold wp_X_can
  exact ⟨fun c => ⟨rfl, fun z => by omega, fun _ => rfl⟩, fun c => ⟨fun c2 => ⟨rfl, fun z => by omega, fun _ => rfl⟩, fun c2 _ _ => ⟨rfl, fun _ => rfl, fun z => absurd ⟨by omega, by omega⟩ z⟩⟩⟩
end FU
/-- one state for both relations -/
theorem am_Ie.one {i : Int} {h : am_H} (hI : am_Ie i h) : ∃ s, h = sg_h s ∧ cm_ s ∧ cv_ s ∧ ce_ s ∧ xst_ (7 * i) s := by
  obtain ⟨⟨⟨hok, -⟩, s, rfl, hc, hv⟩, s', e', hce, hxst⟩ := hI
  have fr0 : ab_fr [] (sg_h s') (sg_h s) := by rw [e']; exact ab_fr.rf
  have g := sg_agc_ok (LF := ce_F ++ ct_F) (LA := ce_A ++ ct_A) (LL := []) (mo := []) (by decide +kernel) fr0
  have hok' : ab_hok ab_D0 (sg_h s') := by rw [← e']; exact hok
  exact ⟨s, rfl, hc, hv, hce.ag g, hxst.ag (g.le (by decide) (by decide) (by decide)) (re_ref (k := 10) hok' fr0 rfl (by decide)) (re_ref (k := 11) hok' fr0 rfl (by decide))⟩
theorem am_Ie.next {i : Int} {h : am_H} (hI : am_Ie i h) : am_Ie (i + 7) h := ⟨hI.1, hI.2.next⟩
section PF
variable {h : am_H} {x1 : Int32} {i : Int}
theorem am_pe_full (hI : am_Ie i h) : ∃ r1 r2 h1 h2, am_Do false 19 139 [.ref 0, .int x1] h (some (.int r1), h1) ∧ ab_hok ab_D0 h1 ∧ am_Do false 19 202 [.ref 64, .int x1] h1 (some (.int r2), h2) ∧ ab_hok ab_D0 h2 ∧ am_Ie (i + 7) h2 ∧ r1 = r2 := by
  obtain ⟨r1, h1, d1, i1, f1, -⟩ := am_uX_full (x1 := x1) hI.1.1
  obtain ⟨r2, h2, d2, i2, f2, -⟩ := am_uM_full (x1 := x1) i1
  refine ⟨r1, r2, h1, h2, d1, i1.1, d2, i2.1, ⟨⟨i2, (hI.1.2.keep i1.1 f1 (by decide +kernel)).keep i2.1 f2 (by decide +kernel)⟩, ((hI.2.keep hI.1.1.1 i1.1 f1 (by decide +kernel)).keep i1.1 i2.1 f2 (by decide +kernel)).next⟩, ?_⟩
  obtain ⟨s, rfl, hc, hv, hce, -⟩ := hI.one
  have l57 := sg_rgI (a := 64) (k := 57) (lo := 0) (hi := 48) hI.1.1.1 am_o64 rfl rfl
  obtain ⟨s1, rfl, q1, p1, p2⟩ := d1.sI sx_Full
  subst q1
  obtain ⟨s2, -, -, m⟩ := d2.sI (sm_Full l57.2)
  apply Int32.toInt_inj.mp
  by_cases c : 1 ≤ x1.toInt ∧ x1.toInt ≤ 48
  · rw [p1 c, (hce.2.1 x1.toInt.toNat (by omega) (by omega)).1]
    exact (sm_tell (mi := 0) (P := True) r2 c m).symm
  · rw [p2 c, m.2 (fun z => c ⟨z.2.1.1, by have := z.2.1.2; omega⟩)]
theorem am_pe_can (hI : am_Ie i h) : ∃ r1 r2 h1 h2, am_Do false 19 140 [.ref 0, .int x1] h (some (.int r1), h1) ∧ ab_hok ab_D0 h1 ∧ am_Do false 19 204 [.ref 64, .int x1] h1 (some (.int r2), h2) ∧ ab_hok ab_D0 h2 ∧ am_Ie (i + 7) h2 ∧ r1 = r2 := by
  obtain ⟨r1, h1, d1, i1, f1, -⟩ := am_uX_can (x1 := x1) hI.1.1
  obtain ⟨r2, h2, d2, i2, f2, -⟩ := am_uM_can (x1 := x1) i1
  refine ⟨r1, r2, h1, h2, d1, i1.1, d2, i2.1, ⟨⟨i2, (hI.1.2.keep i1.1 f1 (by decide +kernel)).keep i2.1 f2 (by decide +kernel)⟩, ((hI.2.keep hI.1.1.1 i1.1 f1 (by decide +kernel)).keep i1.1 i2.1 f2 (by decide +kernel)).next⟩, ?_⟩
  obtain ⟨s, rfl, hc, hv, hce, -⟩ := hI.one
  have l57 := sg_rgI (a := 64) (k := 57) (lo := 0) (hi := 48) hI.1.1.1 am_o64 rfl rfl
  obtain ⟨s1, rfl, q1, p1, p2⟩ := d1.sI sx_Can
  subst q1
  obtain ⟨s2, -, -, m⟩ := d2.sI (sm_Can l57.2)
  apply Int32.toInt_inj.mp
  by_cases c : 1 ≤ x1.toInt ∧ x1.toInt ≤ 48
  · rw [p1 c, (hce.2.1 x1.toInt.toNat (by omega) (by omega)).2]
    exact (sm_tell (mi := 0) (P := True) r2 c m).symm
  · rw [p2 c, m.2 (fun z => c ⟨z.2.1.1, by have := z.2.1.2; omega⟩)]
/-- what may be counted -/
def cq_ (s : sg_S) (c : Int → Int) : Prop := (s.1 1 0).toInt = c 0 ∧ (s.1 1 1).toInt = c 1 ∧ (s.1 1 2).toInt = c 2 ∧ (s.1 1 3).toInt = c 3 ∧ (s.1 1 4).toInt = c 4 ∧ (s.1 28 2).toInt = c 5 ∧ (s.1 24 0).toInt = c 6 ∧ (s.1 35 3).toInt = c 7 ∧ (s.1 18 1).toInt = c 8 ∧ (s.1 58 4).toInt = c 9 ∧ (s.1 8 2).toInt = c 10 ∧ (s.1 28 3).toInt = c 11 ∧ (s.1 35 4).toInt = c 12
theorem am_pe_count (hI : am_Ie i h) : ∃ r1 r2 h1 h2, am_Do false 19 147 [.ref 0, .int x1] h (some (.int r1), h1) ∧ ab_hok ab_D0 h1 ∧ am_Do false 19 212 [.ref 64, .int x1] h1 (some (.int r2), h2) ∧ ab_hok ab_D0 h2 ∧ am_Ie (i + 7) h2 ∧ r1 = r2 := by
  obtain ⟨r1, h1, d1, i1, f1, -⟩ := am_uX_count (x1 := x1) hI.1.1
  obtain ⟨r2, h2, d2, i2, f2, -⟩ := am_uM_count (x1 := x1) i1
  refine ⟨r1, r2, h1, h2, d1, i1.1, d2, i2.1, ⟨⟨i2, (hI.1.2.keep i1.1 f1 (by decide +kernel)).keep i2.1 f2 (by decide +kernel)⟩, ((hI.2.keep hI.1.1.1 i1.1 f1 (by decide +kernel)).keep i1.1 i2.1 f2 (by decide +kernel)).next⟩, ?_⟩
  obtain ⟨s, rfl, ⟨⟨B, N, kX, kM⟩, -, -, -, ⟨n8, -, e81, e82, -⟩, ⟨n7, -, e71, e72, -⟩, ⟨n9, -, e91, e92, -⟩⟩, ⟨T, np, m, hT, hU, hV, hP, hS, hE, hD⟩, hce, -⟩ := hI.one
  have l13 := sg_rgI (a := 1) (k := 3) (lo := 1) (hi := 48) hI.1.1.1 am_d1 rfl rfl
  have m48 : m ≤ 48 := by have := hS.2.2.1; have := hU.2.2.2.1; omega
  have key : ∃ c : Int → Int, am_SpI 147 [.ref 0, .int x1] s (fun r s2 => s2 = s ∧ (0 ≤ x1.toInt ∧ x1.toInt ≤ 12 → r.toInt = c x1.toInt) ∧ (¬ (0 ≤ x1.toInt ∧ x1.toInt ≤ 12) → r.toInt = -1)) ∧ am_SpI 212 [.ref 64, .int x1] s (fun r s2 => s2 = s ∧ (0 ≤ x1.toInt ∧ x1.toInt ≤ 12 → r.toInt = c x1.toInt) ∧ (¬ (0 ≤ x1.toInt ∧ x1.toInt ≤ 12) → r.toInt = -1)) := by
    refine ⟨fun q => if q = 0 then (s.1 1 0).toInt else if q = 1 then (s.1 1 1).toInt else if q = 2 then (s.1 1 2).toInt else if q = 3 then (s.1 1 3).toInt else if q = 4 then (s.1 1 4).toInt else if q = 5 then (s.1 28 2).toInt else if q = 6 then (s.1 24 0).toInt else if q = 7 then (s.1 35 3).toInt else if q = 8 then (s.1 18 1).toInt else if q = 9 then (s.1 58 4).toInt else if q = 10 then (s.1 8 2).toInt else if q = 11 then (s.1 28 3).toInt else (s.1 35 4).toInt, ?_, ?_⟩
    · refine wp_X_count_ok ?_
      unfold wp_X_count
      refine ⟨fun c => ?_, fun c => ?_, fun c => ?_, fun c => ?_, fun c => ?_, fun c => ?_, fun c => ?_, fun c => ?_, fun c => ?_, fun c => ?_, fun c => ?_, fun c => ?_, fun c => ?_, fun c => ⟨rfl, fun z => by omega, fun _ => rfl⟩⟩
      all_goals exact ⟨rfl, fun _ => by rw [c]; rfl, fun z => absurd ⟨by omega, by omega⟩ z⟩
    · refine wp_M_count_ok ?_
      unfold wp_M_count
      refine ⟨fun c => ?_, fun c => ?_, fun c => ?_, fun c => ?_, fun c => ?_, fun c => ?_, fun c => ?_, fun c => ?_, fun c => ?_, fun c => ?_, fun c => ?_, fun c => ?_, fun c => ?_, fun c => ⟨rfl, fun z => by omega, fun _ => rfl⟩⟩
      · exact ⟨rfl, fun _ => by rw [c]; exact hV.1.trans hU.1.symm, fun z => absurd ⟨by omega, by omega⟩ z⟩
      · exact ⟨rfl, fun _ => by rw [c]; exact hV.2.1.trans hU.2.1.symm, fun z => absurd ⟨by omega, by omega⟩ z⟩
      · exact ⟨rfl, fun _ => by rw [c]; exact hV.2.2.1.trans hU.2.2.1.symm, fun z => absurd ⟨by omega, by omega⟩ z⟩
      · exact ⟨rfl, fun _ => by rw [c]; exact hV.2.2.2.1.trans hU.2.2.2.1.symm, fun z => absurd ⟨by omega, by omega⟩ z⟩
      · exact ⟨rfl, fun _ => by rw [c]; exact hV.2.2.2.2.1.trans hU.2.2.2.2.1.symm, fun z => absurd ⟨by omega, by omega⟩ z⟩
      · exact ⟨rfl, fun _ => by rw [c]; exact hS.2.1.trans hS.1.symm, fun z => absurd ⟨by omega, by omega⟩ z⟩
      · exact ⟨rfl, fun _ => by rw [c]; exact hP.2.2.1.trans hP.2.1.symm, fun z => absurd ⟨by omega, by omega⟩ z⟩
      · exact ⟨rfl, fun _ => by rw [c]; exact e72.trans e71.symm, fun z => absurd ⟨by omega, by omega⟩ z⟩
      · exact ⟨rfl, fun _ => by rw [c]; exact e82.trans e81.symm, fun z => absurd ⟨by omega, by omega⟩ z⟩
      · exact ⟨rfl, fun _ => by rw [c]; exact e92.trans e91.symm, fun z => absurd ⟨by omega, by omega⟩ z⟩
      · exact ⟨rfl, fun _ => by rw [c]; exact kM.1.trans kX.1.symm, fun z => absurd ⟨by omega, by omega⟩ z⟩
      · refine (sm_worns hS.2.1 m48).mono (fun r s2 hr => ?_)
        exact ⟨hr.1, fun _ => by rw [c]; exact hr.2.trans hS.2.2.2.2.2.2.1.symm, fun z => absurd ⟨by omega, by omega⟩ z⟩
      · exact ⟨rfl, fun _ => by rw [c]; exact hce.1.symm, fun z => absurd ⟨by omega, by omega⟩ z⟩
  obtain ⟨c, kx, km⟩ := key
  obtain ⟨s1, rfl, q1, p1, p2⟩ := d1.sI kx
  subst q1
  obtain ⟨s2, -, -, m1, m2⟩ := d2.sI km
  apply Int32.toInt_inj.mp
  by_cases z : 0 ≤ x1.toInt ∧ x1.toInt ≤ 12
  · rw [p1 z, m1 z]
  · rw [p2 z, m2 z]
/-- a type is one of the rules' sets -/
theorem am_pe_type (hI : am_Ie i h) : ∃ r1 r2 h1 h2, am_Do false 19 137 [.ref 0, .int x1] h (some (.int r1), h1) ∧ ab_hok ab_D0 h1 ∧ am_Do false 19 196 [.ref 64, .int x1] h1 (some (.int r2), h2) ∧ ab_hok ab_D0 h2 ∧ am_Ie (i + 7) h2 ∧ r1 = r2 := by
  obtain ⟨r1, r2, h1, h2, a, b, c, d, e, q⟩ := am_pv_type (x1 := x1) hI.1
  refine ⟨r1, r2, h1, h2, a, b, c, d, ⟨e, ?_⟩, q⟩
  obtain ⟨r3, h3, d1, i1, f1, -⟩ := am_uX_type (x1 := x1) hI.1.1
  obtain ⟨rfl, rfl⟩ := am_Do.detI a d1
  obtain ⟨r4, h4, d2, i2, f2, -⟩ := am_uM_type (x1 := x1) i1
  obtain ⟨rfl, rfl⟩ := am_Do.detI c d2
  have hok := hI.1.1.1
  obtain ⟨s, rfl, hc, hv, hce, hxst⟩ := hI.one
  obtain ⟨T, np, m, hT, hU, -⟩ := hv
  obtain ⟨-, -, -, -, -, ⟨n, n16, n1, n2, nn⟩, -⟩ := hc
  obtain ⟨s1, rfl, p1, p2⟩ := d1.sI (sx_Type hU n1 n16)
  have eT : (s.1 1 0).toInt.toNat = T.1 := by rw [hU.1, Int.toNat_natCast]
  have ht1 : ct_ s1 := by
    by_cases cc : ty_ok T x1 ∧ ¬ ty_ix (s.2.2.1 36) n x1 < n ∧ n < 16
    · rw [(p1 cc).2]
      intro j hj
      have e1 : (Int32.ofInt ((n : Int) + 1)).toInt = (n : Int) + 1 := am_oi (by omega) (by omega)
      have hj : (j : Int) < (Int32.ofInt ((n : Int) + 1)).toInt := hj
      show 0 ≤ ((sg_uA s 36 n x1).2.2.1 36 j).toInt ∧ ((sg_uA s 36 n x1).2.2.1 36 j).toInt < (rp_kset (s.1 1 0).toInt.toNat).toInt
      by_cases ej : j = n
      · rw [ej, sg_A1, eT]
        exact cc.1
      · rw [sg_A2 (fun z => ej z.2)]
        exact hce.2.2 j (by omega)
    · rw [(p2 cc).2]
      exact hce.2.2
  have hok1 := i1.1
  have ok2 := i2.1
  have e2 := sg_of_ok ok2
  rw [e2] at f2 ⊢
  have g1 : sg_ag ce_F ce_A [] s s1 := sg_agc_ok (by decide +kernel) f1
  have g2 : sg_ag (ce_F ++ ct_F) (ce_A ++ ct_A) [] s1 (sg_of h2) := sg_agc_ok (by decide +kernel) f2
  have hce1 : ce_ s1 := by
    refine ⟨?_, ?_, ht1⟩
    · rw [g1.i (a := 35) (k := 4) rfl, g1.i (a := 64) (k := 56) rfl]
      exact hce.1
    · unfold fM_
      rw [g1.i (a := 64) (k := 55) rfl, g1.i (a := 64) (k := 57) rfl, g1.a (a := 37) rfl, g1.a (a := 38) rfl, g1.a (a := 93) rfl, g1.a (a := 94) rfl, g1.a (a := 95) rfl]
      exact hce.2.1
  have hx1 : xst_ (7 * i) s1 := hxst.ag (g1.le (by decide) (by decide) (by decide)) (re_ref (k := 10) hok f1 rfl (by decide +kernel)) (re_ref (k := 11) hok f1 rfl (by decide +kernel))
  exact ⟨sg_of h2, rfl, hce1.ag g2, (hx1.ag (g2.le (by decide) (by decide) (by decide)) (re_ref (k := 10) hok1 f2 rfl (by decide +kernel)) (re_ref (k := 11) hok1 f2 rfl (by decide +kernel))).le (by omega)⟩
/-- read: all begins anew, or nothing of it changes -/
theorem am_pe_read (hI : am_Ie i h) : ∃ r1 r2 h1 h2, am_Do false 19 120 [.ref 0] h (some (.int r1), h1) ∧ ab_hok ab_D0 h1 ∧ am_Do false 19 151 [.ref 64] h1 (some (.int r2), h2) ∧ ab_hok ab_D0 h2 ∧ am_Ie (i + 7) h2 ∧ r1 = r2 := by
  obtain ⟨r1, r2, h1, h2, a, b, c, d, e, q⟩ := am_pv_read hI.1
  refine ⟨r1, r2, h1, h2, a, b, c, d, ⟨e, ?_⟩, q⟩
  have hok := hI.1.1.1
  obtain ⟨s, rfl, ⟨⟨B, N, kX, kM⟩, -⟩, hv, hce, hxst⟩ := hI.one
  have n12 := sg_rgI (a := 24) (k := 0) (lo := 0) (hi := 12) hok am_o24 rfl rfl
  obtain ⟨s1, rfl, hz1, q1⟩ := a.sI (rx_read kX n12)
  have fr : (s1.1 64 2 = s.1 64 2) ∧ s1.2.2.1 65 = s.2.2.1 65 := by
    generalize rp_text B N (N + 1) rp_T0 (rd_q B N 0) = R at q1
    match R, q1 with
    | .inl e, q1 => exact ⟨q1.2.2.i (by decide), q1.2.2.a (by decide)⟩
    | .inr T, q1 => exact ⟨q1.2.2.2.2.i (by decide), q1.2.2.2.2.a (by decide)⟩
  have kM1 : rm_K B N s1 := by
    unfold rm_K
    rw [fr.1, fr.2]
    exact kM
  obtain ⟨s2, e2, hz2, q2⟩ := c.sI (rm_read kM1)
  refine ⟨s2, e2, ?_⟩
  generalize rp_text B N (N + 1) rp_T0 (rd_q B N 0) = R at q1 q2
  match R, q1, q2 with
  | .inl e, q1, q2 =>
    obtain ⟨-, -, f1⟩ := q1
    obtain ⟨-, -, f2⟩ := q2
    exact ⟨(hce.ag (f1.ag (by decide) (by decide) (by decide))).ag (f2.ag (by decide) (by decide) (by decide)), ((hxst.ag (f1.ag (by decide) (by decide) (by decide)) (by rw [f1.2.2]) (by rw [f1.2.2])).ag (f2.ag (by decide) (by decide) (by decide)) (by rw [f2.2.2]) (by rw [f2.2.2])).le (by omega)⟩
  | .inr T, q1, q2 =>
    obtain ⟨-, hT, hU, hZ, f1⟩ := q1
    obtain ⟨-, -, hV, hY, f2⟩ := q2
    obtain ⟨-, -, -, -, -, -, -, -, z35, z354, z37, z38, -⟩ := hZ
    obtain ⟨-, -, -, -, -, y56, y55, -, -⟩ := hY
    have e0 : (Int32.ofInt 0).toInt = 0 := rfl
    refine ⟨⟨?_, fun P h1 h48 => ?_, fun j hj => ?_⟩, ((hxst.ag (f1.ag (by decide) (by decide) (by decide)) (by rw [f1.2.2]) (by rw [f1.2.2])).ag (f2.ag (by decide) (by decide) (by decide)) (by rw [f2.2.2]) (by rw [f2.2.2])).le (by omega)⟩
    · rw [f2.i (b := 35) (j := 4) (by decide), z354, y56]
    · unfold fM_
      rw [f2.a (b := 37) (by decide), f2.a (b := 38) (by decide), z37 P (by omega), z38 P (by omega), y55, if_neg (fun z => z.1 e0), if_neg (fun z => z.1 e0)]
      exact ⟨rfl, rfl⟩
    · rw [f2.i (b := 35) (j := 3) (by decide), z35, e0] at hj
      omega
end PF
