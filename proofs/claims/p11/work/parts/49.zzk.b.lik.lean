/-! ===== liking (p11): both alike ===== -/
def lc_ (T : rp_T) (x1 x2 : Int32) : Prop := (0 ≤ x1.toInt ∧ x1.toInt < (rp_kset T.1).toInt) ∧ (0 ≤ x2.toInt ∧ x2.toInt < (rp_kset T.1).toInt)
theorem sm_Liking {s : sg_S} {T : rp_T} {x1 x2 : Int32} (hV : rm_RU T s) (hT : rp_ok T) (ht : ∀ i, i < 64 → -9 ≤ (s.2.2.1 81 i).toInt ∧ (s.2.2.1 81 i).toInt ≤ 9) : am_SpI 179 [.ref 64, .int x1, .int x2] s (fun r s2 => (lc_ T x1 x2 → s2 = sg_uI s 64 0 (Int32.ofInt 0) ∧ r.toInt = lg_ (s.2.2.1 81) x1 x2 T.1) ∧ (¬ lc_ T x1 x2 → s2 = sg_uI s 64 0 (Int32.ofInt 1))) := by
  refine wp_M_liking_ok ?_
  unfold wp_M_liking
  refine (sm_set hV hT).mono (fun a s1 h1 => ?_)
  have e1 := h1.eq
  subst e1
  refine ⟨fun c => ⟨fun q => absurd q (by decide), fun _ => ⟨fun z => absurd z.1 (h1.no c), fun _ => rfl⟩⟩, fun c => ?_⟩
  refine (sm_set hV hT).mono (fun b s2 h2 => ?_)
  have e2 := h2.eq
  subst e2
  refine ⟨fun c2 => ⟨fun q => absurd q (by decide), fun _ => ⟨fun z => absurd z.2 (h2.no c2), fun _ => rfl⟩⟩, fun c2 => ⟨fun _ => ?_, fun q => absurd rfl q⟩⟩
  have hk : ((sg_uI s2 64 0 (Int32.ofInt 0)).1 64 21).toInt = (T.1 : Int) := hV.1
  refine (sm_lik (s := sg_uI s2 64 0 (Int32.ofInt 0)) hT.1 hk ht).mono (fun r s3 h3 => ?_)
  obtain ⟨rfl, h3⟩ := h3
  exact ⟨fun _ => ⟨rfl, h3⟩, fun z => absurd ⟨h1.yes c, h2.yes c2⟩ z⟩
/-- X's liking: what it asks, and then an answer or the throw -/
theorem am_lkh {h : am_H} (hok : ab_hok ab_D0 h) (a b : Int32) : ∃ y1 y2 y3 : Int32, am_Do false 17 72 [.ref 1, .int a] h (some (.int y1), h) ∧ am_Do false 17 72 [.ref 1, .int b] h (some (.int y2), h) ∧ am_Do false 17 117 [.ref 22, .int a, .int b] h (some (.int y3), h) ∧
    ((¬ y1.toInt = 0 ∧ ¬ y2.toInt = 0 ∧ am_Do false 18 148 [.ref 0, .int a, .int b] h (some (.int y3), h)) ∨ ((y1.toInt = 0 ∨ y2.toInt = 0) ∧ am_Go false 17 (0, fun _ => 0) am_r148 (0, am_lvK a b, [], h, 0, 0) (22, am_lvK a b, [], h, 0, 0))) := by
  obtain ⟨y1, d1⟩ := am_u_isSet (x := a) hok
  obtain ⟨y2, d2⟩ := am_u_isSet (x := b) hok
  obtain ⟨y3, d3⟩ := am_u_sumOf (x1 := a) (x2 := b) hok
  refine ⟨y1, y2, y3, d1, d2, d3, ?_⟩
  have hb : (0 : Nat) ≤ (am_k am_r148).1 := Nat.zero_le _
  have hb2 : (0 : Nat) ≤ (am_k am_r148).2 := Nat.zero_le _
  have head : ∀ Φ : am_C → Prop, am_Wp false 17 (0, fun _ => 0) am_r148 Φ (8, am_lvK a b, [.int y1], h, 0, 0) → am_Wp false 17 (0, fun _ => 0) am_r148 Φ (0, am_lvK a b, [], h, 0, 0) := fun Φ kk => by
    refine am_Wp.bl 1 (y := (1, am_lvK a b, [.ref 0], h, 0, 0)) (fun _ => rfl) ?_
    refine am_Wp.gr (D := ab_D0) (c := 11) (k := 1) (b := 1) rfl rfl hok am_d0 rfl rfl ?_
    refine am_Wp.bl 1 (y := (5, am_lvK a b, [.int a, .ref 1], h, 0, 0)) (fun _ => rfl) ?_
    exact am_Wp.callN (b := 1) d1 hok hok hb hb2 rfl rfl rfl rfl am_d1 rfl rfl rfl rfl kk
  have mid : ∀ Φ : am_C → Prop, am_Wp false 17 (0, fun _ => 0) am_r148 Φ (19, am_lvK a b, [.int y2], h, 0, 0) → am_Wp false 17 (0, fun _ => 0) am_r148 Φ (11, am_lvK a b, [], h, 0, 0) := fun Φ kk => by
    refine am_Wp.bl 1 (y := (12, am_lvK a b, [.ref 0], h, 0, 0)) (fun _ => rfl) ?_
    refine am_Wp.gr (D := ab_D0) (c := 11) (k := 1) (b := 1) rfl rfl hok am_d0 rfl rfl ?_
    refine am_Wp.bl 1 (y := (16, am_lvK a b, [.int b, .ref 1], h, 0, 0)) (fun _ => rfl) ?_
    exact am_Wp.callN (b := 1) d2 hok hok hb hb2 rfl rfl rfl rfl am_d1 rfl rfl rfl rfl kk
  have z0 : (0 : Int32).toInt = 0 := rfl
  by_cases q1 : y1 = 0
  · have c1 : am_cmp .eq y1 0 = true := decide_eq_true q1
    refine Or.inr ⟨Or.inl (by rw [q1]; rfl), ?_⟩
    obtain ⟨y, g1, g2⟩ := head (fun y => y = (22, am_lvK a b, [], h, 0, 0)) (am_Wp.zbr true rfl rfl c1 (am_Wp.en rfl))
    rw [← g2]
    exact g1
  · have c1 : am_cmp .eq y1 0 = false := decide_eq_false q1
    by_cases q2 : y2 = 0
    · have c2 : am_cmp .ne y2 0 = false := by
        show (!decide (y2 = 0)) = false
        rw [decide_eq_true q2]
        rfl
      refine Or.inr ⟨Or.inr (by rw [q2]; rfl), ?_⟩
      obtain ⟨y, g1, g2⟩ := head (fun y => y = (22, am_lvK a b, [], h, 0, 0)) (am_Wp.zbr false rfl rfl c1 (mid _ (am_Wp.zbr false rfl rfl c2 (am_Wp.en rfl))))
      rw [← g2]
      exact g1
    · have c2 : am_cmp .ne y2 0 = true := by
        show (!decide (y2 = 0)) = true
        rw [decide_eq_false q2]
        rfl
      refine Or.inl ⟨fun z => q1 (Int32.toInt_inj.mp (z.trans z0.symm)), fun z => q2 (Int32.toInt_inj.mp (z.trans z0.symm)), ?_⟩
      have key := head (fun y => y = (41, am_lvK a b, [.int y3], h, 0, 0)) (am_Wp.zbr false rfl rfl c1 (mid _ (am_Wp.zbr true rfl rfl c2 (by
        refine am_Wp.bl 1 (y := (33, am_lvK a b, [.ref 0], h, 0, 0)) (fun _ => rfl) ?_
        refine am_Wp.gr (D := ab_D0) (c := 11) (k := 3) (b := 22) rfl rfl hok am_d0 rfl rfl ?_
        refine am_Wp.bl 2 (y := (38, am_lvK a b, [.int b, .int a, .ref 22], h, 0, 0)) (fun _ => rfl) ?_
        exact am_Wp.callN (b := 22) d3 hok hok hb hb2 rfl rfl rfl rfl am_d22 rfl rfl rfl rfl (am_Wp.en rfl)))))
      obtain ⟨y, g1, g2⟩ := key
      subst g2
      exact am_Do.of (r := am_r148) (i := .ireturn) rfl rfl g1 rfl rfl rfl
/-- what M keeps of the throw -/
theorem am_thr {s : sg_S} (hok : ab_hok ab_D0 (sg_h s)) : am_Do false 19 214 [.ref 64] (sg_h s) (some (.int (s.1 64 0)), sg_h s) := by
  have key : am_Wp false 18 (0, fun _ => 0) am_r214 (fun y => y = (4, [some (.ref 64)], [.int (s.1 64 0)], sg_h s, 0, 0)) (0, [some (.ref 64)], [], sg_h s, 0, 0) := by
    refine am_Wp.bl 1 (y := (1, [some (.ref 64)], [.ref 64], sg_h s, 0, 0)) (fun _ => rfl) ?_
    exact am_Wp.gi (D := ab_D0) (c := 12) (k := 0) rfl rfl hok am_o64 rfl (sg_cI2 am_o64 rfl) (am_Wp.en rfl)
  obtain ⟨y, g1, g2⟩ := key
  subst g2
  exact am_Do.of (r := am_r214) (i := .ireturn) rfl rfl g1 rfl rfl rfl
def am_Lk (Inv : am_H → Prop) (h : am_H) (x1 x2 : Int32) : Prop :=
  (∃ x, am_Do false 18 148 [.ref 0, .int x1, .int x2] h (some (.int x), h) ∧ ∀ h', ab_hok ab_D0 h' → ab_fr [(100, 0)] h h' → ∃ h2, am_Do false 19 179 [.ref 64, .int x1, .int x2] h' (some (.int x), h2) ∧ Inv h2 ∧ am_Do false 19 214 [.ref 64] h2 (some (.int 0), h2) ∧ h2[100]? = h'[100]?) ∨
  (am_Go false 17 (0, fun _ => 0) am_r148 (0, am_lvK x1 x2, [], h, 0, 0) (22, am_lvK x1 x2, [], h, 0, 0) ∧ ∃ r h2, am_Do false 19 179 [.ref 64, .int x1, .int x2] h (some (.int r), h2) ∧ Inv h2 ∧ am_Do false 19 214 [.ref 64] h2 (some (.int 1), h2))
theorem am_lk7 : ∀ h (x1 x2 : Int32), am_Ip h → am_Lk am_Ip h x1 x2 := by
  intro h x1 x2 hI
  obtain ⟨y1, y2, y3, d1, d2, d3, hh⟩ := am_lkh hI.1.1 x1 x2
  have hrel := hI.2
  obtain ⟨hIv, s, rfl, hA, ⟨T, hT, hU, hV⟩, hC, hD, hE, hF, hG⟩ := id hI
  obtain ⟨sa, -, b1⟩ := d1.sI (sx_set hU)
  obtain ⟨sb, -, b2⟩ := d2.sI (sx_set hU)
  have t23 := sg_rng (a := 23) (t := 1) (n := 64) (lo := -9) (hi := 9) (m := 511) hIv.1 rfl rfl
  obtain ⟨sc, -, -, b3⟩ := d3.sI (sx_sum t23)
  -- M's liking, at what the law left
  have mk : ∀ h', ab_hok ab_D0 h' → ab_fr [(100, 0)] (sg_h s) h' → ∃ r h2, am_Do false 19 179 [.ref 64, .int x1, .int x2] h' (some (.int r), h2) ∧ am_Ip h2 ∧ h2[100]? = h'[100]? ∧ (lc_ T x1 x2 → r.toInt = lg_ (s.2.2.1 81) x1 x2 T.1 ∧ am_Do false 19 214 [.ref 64] h2 (some (.int 0), h2)) ∧ (¬ lc_ T x1 x2 → am_Do false 19 214 [.ref 64] h2 (some (.int 1), h2)) := by
    intro h' ok' f'
    obtain ⟨r, h2, d, i2, f2, -⟩ := am_uM_liking (x1 := x1) (x2 := x2) (⟨ok', hIv.2.frX f' rfl⟩ : am_Iv h')
    refine ⟨r, h2, d, ⟨i2, (hrel.keep ok' f' (by decide +kernel)).keep i2.1 f2 (by decide +kernel)⟩, am_fr_get f2 (by decide +kernel), ?_⟩
    have e := sg_of_ok ok'
    generalize sg_of h' = s' at e
    subst e
    have g : sg_ag (cf_B ++ [(64, 0)]) (ca_B ++ [81]) [] s s' := sg_agc_ok (by decide +kernel) f'
    have hV' : rm_RU T s' := by
      unfold rm_RU
      rw [g.i (a := 64) (k := 21) rfl, g.i (a := 64) (k := 22) rfl, g.i (a := 64) (k := 23) rfl, g.i (a := 64) (k := 24) rfl, g.i (a := 64) (k := 25) rfl, g.a (a := 72) rfl, g.a (a := 73) rfl, g.a (a := 74) rfl, g.a (a := 75) rfl]
      exact hV
    have t81 := sg_rng (a := 81) (t := 1) (n := 64) (lo := -9) (hi := 9) (m := 511) ok' rfl rfl
    obtain ⟨s2, rfl, p1, p2⟩ := d.sI (sm_Liking hV' hT t81)
    have th := am_thr i2.1
    refine ⟨fun c => ?_, fun c => ?_⟩
    · obtain ⟨es, p⟩ := p1 c
      have v : s2.1 64 0 = 0 := by rw [es]; rfl
      rw [v] at th
      rw [g.a (a := 81) rfl] at p
      exact ⟨p, th⟩
    · have v : s2.1 64 0 = 1 := by rw [p2 c]; rfl
      rw [v] at th
      exact th
  rcases hh with ⟨n1, n2, dd⟩ | ⟨n, gg⟩
  · have c : lc_ T x1 x2 := ⟨b1.yes n1, b2.yes n2⟩
    refine Or.inl ⟨y3, dd, fun h' ok' f' => ?_⟩
    obtain ⟨r, h2, m1, m2, m3, m4, -⟩ := mk h' ok' f'
    obtain ⟨m5, m6⟩ := m4 c
    have e : r = y3 := by
      apply Int32.toInt_inj.mp
      rw [m5, b3, lg_8 hT.1 c.1.1 c.1.2 c.2.1 c.2.2, lg_congr hT.1 hD]
    subst e
    exact ⟨h2, m1, m2, m6, m3⟩
  · have c : ¬ lc_ T x1 x2 := fun c => by
      rcases n with n | n
      · exact b1.no n c.1
      · exact b2.no n c.2
    obtain ⟨r, h2, m1, m2, -, -, m4⟩ := mk (sg_h s) hIv.1 ab_fr.rf
    exact Or.inr ⟨gg, r, h2, m1, m2, m4 c⟩
