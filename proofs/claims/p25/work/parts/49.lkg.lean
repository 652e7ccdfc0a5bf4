/-! ===== liking of the class: an answer, or the throw at 22 ===== -/
theorem ab_fr_nil {h h2 : am_H} (hf : ab_fr [] h h2) : h2 = h := by
  apply List.ext_getElem?
  intro a
  exact hf.1 a (fun k hk => by cases hk)
theorem am_u_isSet {h : am_H} {x : Int32} (hok : ab_hok ab_D0 h) : ∃ (y : Int32), am_Do false 17 72 [.ref 1, .int x] h (some (.int y), h) := by
  obtain ⟨y, h2, k1, k2, k3⟩ := ab_usei ab_k_LVSRules_isSet_1 [.inr (.inr 1), .inl (ab_var 0)] [] [(-2147483648, 2147483647, 511)] [] (by decide +kernel) (ro := [x.toInt]) (ab_env1 (ab_i32 x).1 (ab_i32 x).2) ab_F0 ab_ov0 (asc := [.ref 1, .int x]) (d := 17) ⟨rfl, ab_evx rfl rfl, trivial⟩ hok (by decide)
  have e := ab_fr_nil k3
  subst e
  exact ⟨y, k1⟩
theorem am_u_sumOf {h : am_H} {x1 x2 : Int32} (hok : ab_hok ab_D0 h) : ∃ (y : Int32), am_Do false 17 117 [.ref 22, .int x1, .int x2] h (some (.int y), h) := by
  obtain ⟨y, h2, k1, k2, k3⟩ := ab_usei ab_k_LVSValues_sumOf_22 [.inr (.inr 22), .inl (ab_var 0), .inl (ab_var 1)] [] [(-2147483648, 2147483647, 511), (-2147483648, 2147483647, 511)] [] (by decide +kernel) (ro := [x1.toInt, x2.toInt]) (ab_env2 (ab_i32 x1).1 (ab_i32 x1).2 (ab_i32 x2).1 (ab_i32 x2).2) ab_F0 ab_ov0 (asc := [.ref 22, .int x1, .int x2]) (d := 17) ⟨rfl, ab_evx rfl rfl, ab_evx rfl rfl, trivial⟩ hok (by decide)
  have e := ab_fr_nil k3
  subst e
  exact ⟨y, k1⟩
theorem am_d1 : ab_D0[1]? = some (.inr (6, [.inl (Int.ofNat 0, Int.ofNat 8), .inl (Int.ofNat 0, Int.ofNat 8), .inl (Int.ofNat 0, Int.ofNat 12), .inl (Int.ofNat 1, Int.ofNat 48), .inl (Int.ofNat 1, Int.ofNat 99), .inl (Int.ofNat 0, Int.ofNat 16), .inr (.inr [2]), .inr (.inr [3]), .inr (.inr [4]), .inr (.inr [5]), .inr (.inr [6]), .inr (.inr [7])])) := rfl
theorem am_d22 : ab_D0[22]? = some (.inr (10, [.inr (.inr [23])])) := rfl
abbrev am_lvK (a b : Int32) : List (Option Value) := [some (.ref 0), some (.int a), some (.int b)]
theorem am_lkg {h : am_H} (hok : ab_hok ab_D0 h) (a b : Int32) : (∃ x, am_Do false 18 148 [.ref 0, .int a, .int b] h (some (.int x), h)) ∨ am_Go false 17 (0, fun _ => 0) am_r148 (0, am_lvK a b, [], h, 0, 0) (22, am_lvK a b, [], h, 0, 0) := by
  obtain ⟨y1, d1⟩ := am_u_isSet (x := a) hok
  obtain ⟨y2, d2⟩ := am_u_isSet (x := b) hok
  obtain ⟨y3, d3⟩ := am_u_sumOf (x1 := a) (x2 := b) hok
  have hb : (0 : Nat) ≤ (am_k am_r148).1 := Nat.zero_le _
  have hb2 : (0 : Nat) ≤ (am_k am_r148).2 := Nat.zero_le _
  have head : ∀ Φ : am_C → Prop, am_Wp false 17 (0, fun _ => 0) am_r148 Φ (8, am_lvK a b, [.int y1], h, 0, 0) → am_Wp false 17 (0, fun _ => 0) am_r148 Φ (0, am_lvK a b, [], h, 0, 0) := fun Φ kk => by
    refine am_Wp.bl 1 (y := (1, am_lvK a b, [.ref 0], h, 0, 0)) (fun _ => rfl) ?_
    refine am_Wp.gr (D := ab_D0) (c := 11) (k := 1) (b := 1) rfl rfl hok am_d0 rfl rfl ?_
    refine am_Wp.bl 1 (y := (5, am_lvK a b, [.int a, .ref 1], h, 0, 0)) (fun _ => rfl) ?_
    exact am_Wp.callN (b := 1) d1 hok hok hb hb2 rfl rfl rfl rfl am_d1 rfl rfl rfl rfl kk
  have mid : ∀ Φ : am_C → Prop, am_Wp false 17 (0, fun _ => 0) am_r148 Φ (19, am_lvK a b, [.int y2], h, 0, 0) → am_Wp false 17 (0, fun _ => 0) am_r148 Φ (11, am_lvK a b, [], h, 0, 0) := fun Φ kk => by
    refine am_Wp.bl 1 (y := (12, am_lvK a b, [.ref 0], h, 0, 0)) (fun _ => rfl) ?_
    refine am_Wp.gr (D := ab_D0) (c := 11) (k := 1) (b := 1) rfl rfl hok am_d0 rfl rfl ?_
    refine am_Wp.bl 1 (y := (16, am_lvK a b, [.int b, .ref 1], h, 0, 0)) (fun _ => rfl) ?_
    exact am_Wp.callN (b := 1) d2 hok hok hb hb2 rfl rfl rfl rfl am_d1 rfl rfl rfl rfl kk
  cases c1 : am_cmp .eq y1 0 with
  | true =>
    refine Or.inr ?_
    obtain ⟨y, g1, g2⟩ := head (fun y => y = (22, am_lvK a b, [], h, 0, 0)) (am_Wp.zbr true rfl rfl c1 (am_Wp.en rfl))
    rw [← g2]
    exact g1
  | false =>
    cases c2 : am_cmp .ne y2 0 with
    | false =>
      refine Or.inr ?_
      obtain ⟨y, g1, g2⟩ := head (fun y => y = (22, am_lvK a b, [], h, 0, 0)) (am_Wp.zbr false rfl rfl c1 (mid _ (am_Wp.zbr false rfl rfl c2 (am_Wp.en rfl))))
      rw [← g2]
      exact g1
    | true =>
      refine Or.inl ⟨y3, ?_⟩
      have key := head (fun y => y = (41, am_lvK a b, [.int y3], h, 0, 0)) (am_Wp.zbr false rfl rfl c1 (mid _ (am_Wp.zbr true rfl rfl c2 (by
        refine am_Wp.bl 1 (y := (33, am_lvK a b, [.ref 0], h, 0, 0)) (fun _ => rfl) ?_
        refine am_Wp.gr (D := ab_D0) (c := 11) (k := 3) (b := 22) rfl rfl hok am_d0 rfl rfl ?_
        refine am_Wp.bl 2 (y := (38, am_lvK a b, [.int b, .int a, .ref 22], h, 0, 0)) (fun _ => rfl) ?_
        exact am_Wp.callN (b := 22) d3 hok hok hb hb2 rfl rfl rfl rfl am_d22 rfl rfl rfl rfl (am_Wp.en rfl)))))
      obtain ⟨y, g1, g2⟩ := key
      subst g2
      exact am_Do.of (r := am_r148) (i := .ireturn) rfl rfl g1 rfl rfl rfl
