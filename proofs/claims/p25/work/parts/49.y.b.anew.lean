/-! ===== what begins anew behind a text ===== -/
theorem vp_b0 : vp_nar .boolean (Int32.ofInt 0) = Int32.ofInt 0 := ab_nbo (by decide) (by decide)
theorem sg_Af {s : sg_S} {a k : Nat} {v : Int32} {P : Nat → Int32 → Prop} {n : Nat} (h : ∀ i, i < n → P i (s.2.2.1 a i)) (hn : k = n) (hv : P k v) : ∀ i, i < n + 1 → P i ((sg_uA s a k v).2.2.1 a i) := by
  intro i hi
  by_cases e : i = k
  · rw [e, sg_A1]
    exact hv
  · rw [sg_A2 (fun c => e c.2)]
    exact h i (by omega)
theorem rx_fill23 {s : sg_S} {v : Int32} : am_SpV 213 [.ref 23, .int v] s (fun s2 => sg_fr [] [23] s s2 ∧ ∀ i, i < 64 → s2.2.2.1 23 i = v) := by
  refine wp_Arrays_fill_23_ok (I5 := fun l2 l3 s1 => sg_fr [] [23] s s1 ∧ l3.toInt = 64 ∧ ∃ k : Nat, l2.toInt = (k : Int) ∧ k ≤ 64 ∧ ∀ i, i < k → s1.2.2.1 23 i = v) ?_ ⟨sg_fr.rf, rfl, 0, rfl, Nat.zero_le _, fun i hi => absurd hi (Nat.not_lt_zero i)⟩
  intro l2 l3 s1 hI
  obtain ⟨f, h3, k, hk, hk2, h⟩ := hI
  unfold wp_Arrays_fill_23_5
  simp only [hk, h3, Int.toNat_natCast]
  refine ⟨fun c1 _ _ => ⟨f.uA rfl, trivial, k + 1, ?_, by omega, sg_Af (P := fun _ x => x = v) h rfl rfl⟩, fun c1 => ⟨f, fun i hi => h i (by omega)⟩⟩
  rw [i32_inc (c := 0) (by omega) (by omega), hk]
  rfl
theorem rx_fill26 {s : sg_S} {v : Int32} : am_SpV 213 [.ref 26, .int v] s (fun s2 => sg_fr [] [26] s s2 ∧ ∀ i, i < 12 → s2.2.2.1 26 i = v) := by
  refine wp_Arrays_fill_26_ok (I5 := fun l2 l3 s1 => sg_fr [] [26] s s1 ∧ l3.toInt = 12 ∧ ∃ k : Nat, l2.toInt = (k : Int) ∧ k ≤ 12 ∧ ∀ i, i < k → s1.2.2.1 26 i = v) ?_ ⟨sg_fr.rf, rfl, 0, rfl, Nat.zero_le _, fun i hi => absurd hi (Nat.not_lt_zero i)⟩
  intro l2 l3 s1 hI
  obtain ⟨f, h3, k, hk, hk2, h⟩ := hI
  unfold wp_Arrays_fill_26_5
  simp only [hk, h3, Int.toNat_natCast]
  refine ⟨fun c1 _ _ => ⟨f.uA rfl, trivial, k + 1, ?_, by omega, sg_Af (P := fun _ x => x = v) h rfl rfl⟩, fun c1 => ⟨f, fun i hi => h i (by omega)⟩⟩
  rw [i32_inc (c := 0) (by omega) (by omega), hk]
  rfl
theorem rx_fill37 {s : sg_S} {v : Int32} : am_SpV 213 [.ref 37, .int v] s (fun s2 => sg_fr [] [37] s s2 ∧ ∀ i, i < 49 → s2.2.2.1 37 i = v) := by
  refine wp_Arrays_fill_37_ok (I5 := fun l2 l3 s1 => sg_fr [] [37] s s1 ∧ l3.toInt = 49 ∧ ∃ k : Nat, l2.toInt = (k : Int) ∧ k ≤ 49 ∧ ∀ i, i < k → s1.2.2.1 37 i = v) ?_ ⟨sg_fr.rf, rfl, 0, rfl, Nat.zero_le _, fun i hi => absurd hi (Nat.not_lt_zero i)⟩
  intro l2 l3 s1 hI
  obtain ⟨f, h3, k, hk, hk2, h⟩ := hI
  unfold wp_Arrays_fill_37_5
  simp only [hk, h3, Int.toNat_natCast]
  refine ⟨fun c1 _ _ => ⟨f.uA rfl, trivial, k + 1, ?_, by omega, sg_Af (P := fun _ x => x = v) h rfl rfl⟩, fun c1 => ⟨f, fun i hi => h i (by omega)⟩⟩
  rw [i32_inc (c := 0) (by omega) (by omega), hk]
  rfl
theorem rx_fill38 {s : sg_S} {v : Int32} : am_SpV 213 [.ref 38, .int v] s (fun s2 => sg_fr [] [38] s s2 ∧ ∀ i, i < 49 → s2.2.2.1 38 i = v) := by
  refine wp_Arrays_fill_38_ok (I5 := fun l2 l3 s1 => sg_fr [] [38] s s1 ∧ l3.toInt = 49 ∧ ∃ k : Nat, l2.toInt = (k : Int) ∧ k ≤ 49 ∧ ∀ i, i < k → s1.2.2.1 38 i = v) ?_ ⟨sg_fr.rf, rfl, 0, rfl, Nat.zero_le _, fun i hi => absurd hi (Nat.not_lt_zero i)⟩
  intro l2 l3 s1 hI
  obtain ⟨f, h3, k, hk, hk2, h⟩ := hI
  unfold wp_Arrays_fill_38_5
  simp only [hk, h3, Int.toNat_natCast]
  refine ⟨fun c1 _ _ => ⟨f.uA rfl, trivial, k + 1, ?_, by omega, sg_Af (P := fun _ x => x = v) h rfl rfl⟩, fun c1 => ⟨f, fun i hi => h i (by omega)⟩⟩
  rw [i32_inc (c := 0) (by omega) (by omega), hk]
  rfl
/-- X's rules are those of T -/
def rx_RU (T : rp_T) (s : sg_S) : Prop := (s.1 1 0).toInt = (T.1 : Int) ∧ (s.1 1 1).toInt = (T.2.1 : Int) ∧ (s.1 1 2).toInt = (T.2.2.1 : Int) ∧ (s.1 1 3).toInt = T.2.2.2.1 ∧ (s.1 1 4).toInt = T.2.2.2.2.1 ∧ ∀ i, i < T.2.2.1 → s.2.2.1 4 i = (rp_rl T i).1 ∧ s.2.2.1 5 i = (rp_rl T i).2.1 ∧ s.2.2.1 6 i = (rp_rl T i).2.2.1 ∧ s.2.2.1 7 i = (rp_rl T i).2.2.2
theorem rx_RU.fr {T : rp_T} {s s2 : sg_S} {mo : List (Nat × Nat)} {ao : List Nat} (h : rx_RU T s) (f : sg_fr mo ao s s2) (h1 : ([0, 1, 2, 3, 4].all (fun k => !mo.contains (1, k))) = true) (h2 : ([4, 5, 6, 7].all (fun k => !ao.contains k)) = true) : rx_RU T s2 := by
  simp only [List.all_cons, List.all_nil, Bool.and_true, Bool.and_eq_true, Bool.not_eq_true'] at h1 h2
  obtain ⟨a1, a2, a3, a4, a5⟩ := h1
  obtain ⟨b1, b2, b3, b4⟩ := h2
  unfold rx_RU
  rw [f.i a1, f.i a2, f.i a3, f.i a4, f.i a5, f.a b1, f.a b2, f.a b3, f.a b4]
  exact h
theorem rx_copy {T : rp_T} {s : sg_S} (hR : rx_R T s) (hT : rp_ok T) : am_SpV 70 [.ref 1, .ref 9] s (fun s2 => sg_fr [(1, 0), (1, 1), (1, 2), (1, 3), (1, 4)] [4, 5, 6, 7] s s2 ∧ rx_RU T s2) := by
  obtain ⟨r0, r1, r2, r3, r4, r5, rn, rr⟩ := id hR
  have f0 : sg_fr [(1, 0), (1, 1), (1, 2), (1, 3), (1, 4)] [4, 5, 6, 7] s (sg_uI (sg_uI (sg_uI (sg_uI (sg_uI s 1 0 (s.1 9 0)) 1 1 (s.1 9 1)) 1 2 (s.1 9 2)) 1 3 (s.1 9 3)) 1 4 (s.1 9 4)) := ((((sg_fr.rf.uI rfl).uI rfl).uI rfl).uI rfl).uI rfl
  refine wp_XRules_copyOf_1_9_ok (I42 := fun l s1 => sg_fr [(1, 0), (1, 1), (1, 2), (1, 3), (1, 4)] [4, 5, 6, 7] s s1 ∧ (s1.1 1 0 = s.1 9 0 ∧ s1.1 1 1 = s.1 9 1 ∧ s1.1 1 2 = s.1 9 2 ∧ s1.1 1 3 = s.1 9 3 ∧ s1.1 1 4 = s.1 9 4) ∧ ∃ k : Nat, l.toInt = (k : Int) ∧ k ≤ 12 ∧ ∀ i, i < k → s1.2.2.1 4 i = s.2.2.1 12 i ∧ s1.2.2.1 5 i = s.2.2.1 13 i ∧ s1.2.2.1 6 i = s.2.2.1 14 i ∧ s1.2.2.1 7 i = s.2.2.1 15 i) ?_ ⟨f0, ⟨rfl, rfl, rfl, rfl, rfl⟩, 0, rfl, Nat.zero_le _, fun i hi => absurd hi (Nat.not_lt_zero i)⟩
  intro l s1 hI
  obtain ⟨f, g, k, hk, hk2, h⟩ := hI
  unfold wp_XRules_copyOf_1_9_42
  simp only [hk, Int.toNat_natCast]
  refine ⟨fun c1 _ _ => ⟨(((f.uA rfl).uA rfl).uA rfl).uA rfl, g, k + 1, ?_, by omega, fun i hi => ?_⟩, fun c1 => ⟨f, ?_⟩⟩
  · rw [i32_inc (c := 0) (by omega) (by omega), hk]
    rfl
  · show (if 4 = 7 ∧ i = k then s1.2.2.1 15 k else if 4 = 6 ∧ i = k then s1.2.2.1 14 k else if 4 = 5 ∧ i = k then s1.2.2.1 13 k else if 4 = 4 ∧ i = k then s1.2.2.1 12 k else s1.2.2.1 4 i) = _ ∧ (if 5 = 7 ∧ i = k then s1.2.2.1 15 k else if 5 = 6 ∧ i = k then s1.2.2.1 14 k else if 5 = 5 ∧ i = k then s1.2.2.1 13 k else if 5 = 4 ∧ i = k then s1.2.2.1 12 k else s1.2.2.1 5 i) = _ ∧ (if 6 = 7 ∧ i = k then s1.2.2.1 15 k else if 6 = 6 ∧ i = k then s1.2.2.1 14 k else if 6 = 5 ∧ i = k then s1.2.2.1 13 k else if 6 = 4 ∧ i = k then s1.2.2.1 12 k else s1.2.2.1 6 i) = _ ∧ (if 7 = 7 ∧ i = k then s1.2.2.1 15 k else if 7 = 6 ∧ i = k then s1.2.2.1 14 k else if 7 = 5 ∧ i = k then s1.2.2.1 13 k else if 7 = 4 ∧ i = k then s1.2.2.1 12 k else s1.2.2.1 7 i) = _
    have a12 := congrFun (f.a (b := 12) rfl) i
    have a13 := congrFun (f.a (b := 13) rfl) i
    have a14 := congrFun (f.a (b := 14) rfl) i
    have a15 := congrFun (f.a (b := 15) rfl) i
    by_cases e : i = k
    · subst e
      simp [a12, a13, a14, a15]
    · have := h i (by omega)
      simp [e, this]
  · have h12 := hT.2.2.1
    refine ⟨by rw [g.1]; exact r0, by rw [g.2.1]; exact r1, by rw [g.2.2.1]; exact r2, by rw [g.2.2.2.1]; exact r3, by rw [g.2.2.2.2]; exact r4, fun i hi => ?_⟩
    obtain ⟨z1, z2, z3, z4⟩ := h i (by omega)
    rw [z1, z2, z3, z4]
    exact rr i hi
/-- all of X's that a text begins anew -/
def rx_Z (f : Nat → Int32) (s : sg_S) : Prop := (∀ i, i < 64 → s.2.2.1 23 i = Int32.ofInt 0) ∧ s.1 18 1 = Int32.ofInt 0 ∧ (∀ i, i < 12 → s.2.2.1 26 i = Int32.ofInt 0) ∧ (∀ i : Nat, (i : Int) < (s.1 24 0).toInt → s.2.2.1 27 i = Int32.ofInt 0) ∧ s.1 28 2 = Int32.ofInt 0 ∧ s.1 28 3 = Int32.ofInt 0 ∧ (∀ i, i < 49 → s.2.2.1 33 i = Int32.ofInt 0) ∧ (∀ i : Nat, (i : Int) < (s.1 1 2).toInt → s.2.2.1 34 i = if (s.2.2.1 4 i).toInt = 3 then s.2.2.1 6 i else Int32.ofInt 0) ∧ s.1 35 3 = Int32.ofInt 0 ∧ s.1 35 4 = Int32.ofInt 0 ∧ (∀ i, i < 49 → s.2.2.1 37 i = Int32.ofInt (-1)) ∧ (∀ i, i < 49 → s.2.2.1 38 i = Int32.ofInt (-1)) ∧ s.1 58 4 = Int32.ofInt 0 ∧ s.1 58 7 = Int32.ofInt 0 ∧ ∀ i : Nat, ¬ (i : Int) < (s.1 24 0).toInt → s.2.2.1 27 i = f i
def rx_moZ : List (Nat × Nat) := [(18, 1), (28, 2), (28, 3), (35, 3), (35, 4), (58, 4), (58, 7)]
def rx_aoZ : List Nat := [23, 26, 27, 33, 34, 37, 38]
theorem rx_forgetP {s : sg_S} (h12 : 0 ≤ (s.1 24 0).toInt ∧ (s.1 24 0).toInt ≤ 12) : am_SpV 35 [.ref 24] s (fun s2 => sg_fr [] [27] s s2 ∧ (∀ i : Nat, (i : Int) < (s2.1 24 0).toInt → s2.2.2.1 27 i = Int32.ofInt 0) ∧ ∀ i : Nat, ¬ (i : Int) < (s2.1 24 0).toInt → s2.2.2.1 27 i = s.2.2.1 27 i) := by
  refine wp_XPoets_forgetPasses_ok (I2 := fun l s1 => sg_fr [] [27] s s1 ∧ ∃ k : Nat, l.toInt = (k : Int) ∧ (k : Int) ≤ (s.1 24 0).toInt ∧ (∀ i, i < k → s1.2.2.1 27 i = Int32.ofInt 0) ∧ ∀ i, k ≤ i → s1.2.2.1 27 i = s.2.2.1 27 i) ?_ ⟨sg_fr.rf, 0, rfl, h12.1, fun i hi => absurd hi (Nat.not_lt_zero i), fun i _ => rfl⟩
  intro l s1 hI
  obtain ⟨f, k, hk, hk2, h, g⟩ := hI
  unfold wp_XPoets_forgetPasses_2
  simp only [hk, Int.toNat_natCast]
  have e0 : (s1.1 24 0).toInt = (s.1 24 0).toInt := by rw [f.i rfl]
  refine ⟨fun c1 _ _ => ⟨f.uA rfl, k + 1, ?_, by omega, sg_Af (P := fun _ x => x = Int32.ofInt 0) h rfl vp_b0, fun i hi => (sg_A2 (fun c => absurd c.2 (by omega))).trans (g i (by omega))⟩, fun c1 => ⟨f, fun i hi => h i (by omega), fun i hi => g i (by omega)⟩⟩
  rw [i32_inc (c := 0) (by omega) (by omega), hk]
  rfl
theorem rx_clearS {s : sg_S} (h12 : 0 ≤ (s.1 1 2).toInt ∧ (s.1 1 2).toInt ≤ 12) : am_SpV 81 [.ref 28] s (fun s2 => sg_fr [(28, 2), (28, 3)] [33, 34] s s2 ∧ s2.1 28 2 = Int32.ofInt 0 ∧ s2.1 28 3 = Int32.ofInt 0 ∧ (∀ i, i < 49 → s2.2.2.1 33 i = Int32.ofInt 0) ∧ ∀ i : Nat, (i : Int) < (s2.1 1 2).toInt → s2.2.2.1 34 i = if (s2.2.2.1 4 i).toInt = 3 then s2.2.2.1 6 i else Int32.ofInt 0) := by
  refine wp_XSheet_clear_ok (I12 := fun l s1 => sg_fr [(28, 2), (28, 3)] [33, 34] s s1 ∧ (s1.1 28 2 = Int32.ofInt 0 ∧ s1.1 28 3 = Int32.ofInt 0) ∧ ∃ k : Nat, l.toInt = (k : Int) ∧ k ≤ 49 ∧ ∀ i, i < k → s1.2.2.1 33 i = Int32.ofInt 0)
    (I33 := fun l s1 => sg_fr [(28, 2), (28, 3)] [33, 34] s s1 ∧ (s1.1 28 2 = Int32.ofInt 0 ∧ s1.1 28 3 = Int32.ofInt 0) ∧ (∀ i, i < 49 → s1.2.2.1 33 i = Int32.ofInt 0) ∧ ∃ k : Nat, l.toInt = (k : Int) ∧ k ≤ 12 ∧ ∀ i, i < k → s1.2.2.1 34 i = if (s.2.2.1 4 i).toInt = 3 then s.2.2.1 6 i else Int32.ofInt 0) ?_ ?_ ⟨(sg_fr.rf.uI rfl).uI rfl, ⟨rfl, rfl⟩, 0, rfl, Nat.zero_le _, fun i hi => absurd hi (Nat.not_lt_zero i)⟩
  · intro l s1 hI
    obtain ⟨f, g, k, hk, hk2, h⟩ := hI
    unfold wp_XSheet_clear_12
    simp only [hk, Int.toNat_natCast]
    refine ⟨fun c1 => ⟨f, g, fun i hi => h i (by omega), 0, rfl, Nat.zero_le _, fun i hi => absurd hi (Nat.not_lt_zero i)⟩, fun c1 _ _ => ⟨f.uA rfl, g, k + 1, ?_, by omega, sg_Af (P := fun _ x => x = Int32.ofInt 0) h rfl vp_b0⟩⟩
    rw [i32_inc (c := 0) (by omega) (by omega), hk]
    rfl
  · intro l s1 hI
    obtain ⟨f, g, gw, k, hk, hk2, h⟩ := hI
    have e2 : s1.1 1 2 = s.1 1 2 := f.i rfl
    have a4 : s1.2.2.1 4 = s.2.2.1 4 := f.a rfl
    have a6 : s1.2.2.1 6 = s.2.2.1 6 := f.a rfl
    unfold wp_XSheet_clear_33
    refine ⟨fun c1 => ?_, fun c1 => ⟨f, g.1, g.2, gw, fun i hi => ?_⟩⟩
    · refine wp_XRules_firstNumber_1_ok ?_
      unfold wp_XRules_firstNumber_1
      simp only [hk, Int.toNat_natCast]
      have hinc : (l + Int32.ofInt 1).toInt = ((k + 1 : Nat) : Int) := by
        rw [i32_inc (c := 0) (by omega) (by omega), hk]
        rfl
      have gw2 : ∀ (v : Int32) (i : Nat), i < 49 → (sg_uA s1 34 k v).2.2.1 33 i = Int32.ofInt 0 := fun v i hi => (sg_A2 (fun c => absurd c.1 (by decide))).trans (gw i hi)
      refine fun _ _ => ⟨fun c2 _ _ => ⟨f.uA rfl, g, gw2 _, k + 1, hinc, by omega, sg_Af (P := fun i x => x = if (s.2.2.1 4 i).toInt = 3 then s.2.2.1 6 i else Int32.ofInt 0) h rfl ?_⟩, fun c2 _ _ => ⟨f.uA rfl, g, gw2 _, k + 1, hinc, by omega, sg_Af (P := fun i x => x = if (s.2.2.1 4 i).toInt = 3 then s.2.2.1 6 i else Int32.ofInt 0) h rfl ?_⟩⟩
      · rw [a4] at c2
        show s1.2.2.1 6 k = _
        rw [if_pos c2, a6]
      · rw [a4] at c2
        show Int32.ofInt 0 = _
        rw [if_neg c2]
    · rw [a4, a6]
      exact h i (by omega)
theorem rx_anew {s : sg_S} (h1 : 0 ≤ (s.1 24 0).toInt ∧ (s.1 24 0).toInt ≤ 12) (h2 : 0 ≤ (s.1 1 2).toInt ∧ (s.1 1 2).toInt ≤ 12) : am_SpV 121 [.ref 0] s (fun s2 => sg_fr rx_moZ rx_aoZ s s2 ∧ rx_Z (s.2.2.1 27) s2) := by
  refine wp_X_beginAnew_ok ?_
  unfold wp_X_beginAnew
  refine wp_XValues_clear_ok ?_
  unfold wp_XValues_clear
  refine rx_fill23.mono (fun s1 q1 => ?_)
  obtain ⟨f1, z23⟩ := q1
  refine wp_XBook_clear_ok ?_
  unfold wp_XBook_clear
  refine wp_XPoets_leaveSheet_ok ?_
  unfold wp_XPoets_leaveSheet
  refine rx_fill26.mono (fun s2 q2 => ?_)
  obtain ⟨f2, z26⟩ := q2
  have f12 : sg_fr rx_moZ rx_aoZ s s2 := ((f1.le (by decide) (by decide)).uI rfl).tr (f2.le (by decide) (by decide))
  refine (rx_forgetP (by rw [f12.i (by decide)]; exact h1)).mono (fun s3 q3 => ?_)
  obtain ⟨f3, z27, y27⟩ := q3
  have f13 := f12.tr (f3.le (by decide) (by decide))
  refine (rx_clearS (by rw [f13.i (by decide)]; exact h2)).mono (fun s4 q4 => ?_)
  obtain ⟨f4, y1, y2, y3, y4⟩ := q4
  have f14 := f13.tr (f4.le (by decide) (by decide))
  refine wp_XEnding_clear_ok ?_
  unfold wp_XEnding_clear
  refine wp_XEnding_forget_ok ?_
  unfold wp_XEnding_forget
  refine rx_fill37.mono (fun s5 q5 => ?_)
  obtain ⟨f5, z37⟩ := q5
  have f15 : sg_fr rx_moZ rx_aoZ s s5 := ((f14.uI rfl).uI rfl).tr (f5.le (by decide) (by decide))
  refine rx_fill38.mono (fun s6 q6 => ?_)
  obtain ⟨f6, z38⟩ := q6
  have f16 := f15.tr (f6.le (by decide) (by decide))
  refine wp_XStore_clear_ok ?_
  unfold wp_XStore_clear
  refine wp_XStore_forgetBest_ok ?_
  unfold wp_XStore_forgetBest
  refine ⟨(f16.uI rfl).uI rfl, ?_⟩
  have g6 : sg_fr [(35, 3), (35, 4)] [37, 38] s4 s6 := (((sg_fr.rf.uI rfl).uI rfl).tr (f5.le (by decide) (by decide))).tr (f6.le (by decide) (by decide))
  have g3 : sg_fr [(28, 2), (28, 3), (35, 3), (35, 4)] [33, 34, 37, 38] s3 s6 := (f4.le (by decide) (by decide)).tr (g6.le (by decide) (by decide))
  have g2 : sg_fr [(28, 2), (28, 3), (35, 3), (35, 4)] [27, 33, 34, 37, 38] s2 s6 := (f3.le (by decide) (by decide)).tr (g3.le (by decide) (by decide))
  have g1 : sg_fr [(18, 1), (28, 2), (28, 3), (35, 3), (35, 4)] [26, 27, 33, 34, 37, 38] s1 s6 := ((sg_fr.rf.uI rfl).tr (f2.le (by decide) (by decide))).tr (g2.le (by decide) (by decide))
  refine ⟨fun i hi => ?_, ?_, fun i hi => ?_, fun i hi => ?_, ?_, ?_, fun i hi => ?_, fun i hi => ?_, ?_, ?_, fun i hi => ?_, fun i hi => ?_, rfl, rfl, fun i hi => ?_⟩
  · show s6.2.2.1 23 i = _
    rw [g1.a rfl]; exact z23 i hi
  · show s6.1 18 1 = _
    rw [g2.i rfl, f2.i rfl]; rfl
  · show s6.2.2.1 26 i = _
    rw [g2.a rfl]; exact z26 i hi
  · have hi : (i : Int) < (s6.1 24 0).toInt := hi
    show s6.2.2.1 27 i = _
    rw [g3.i rfl] at hi
    rw [g3.a rfl]; exact z27 i hi
  · show s6.1 28 2 = _
    rw [g6.i rfl]; exact y1
  · show s6.1 28 3 = _
    rw [g6.i rfl]; exact y2
  · show s6.2.2.1 33 i = _
    rw [g6.a rfl]; exact y3 i hi
  · have hi : (i : Int) < (s6.1 1 2).toInt := hi
    show s6.2.2.1 34 i = if (s6.2.2.1 4 i).toInt = 3 then s6.2.2.1 6 i else Int32.ofInt 0
    rw [g6.i rfl] at hi
    rw [g6.a (b := 34) rfl, g6.a (b := 4) rfl, g6.a (b := 6) rfl]; exact y4 i hi
  · show s6.1 35 3 = _
    rw [f6.i rfl, f5.i rfl]; rfl
  · show s6.1 35 4 = _
    rw [f6.i rfl, f5.i rfl]; rfl
  · show s6.2.2.1 37 i = _
    rw [f6.a rfl]; exact z37 i hi
  · exact z38 i hi
  · have hi : ¬ (i : Int) < (s6.1 24 0).toInt := hi
    show s6.2.2.1 27 i = _
    rw [g3.i rfl] at hi
    rw [g3.a rfl, y27 i hi, f2.a rfl]
    show s1.2.2.1 27 i = _
    rw [f1.a rfl]
/-- X's read -/
theorem rx_read {B : Nat → Int} {N : Nat} {s : sg_S} (hK : rx_K B N s) (h1 : 0 ≤ (s.1 24 0).toInt ∧ (s.1 24 0).toInt ≤ 12) : am_SpI 120 [.ref 0] s (fun x s2 => (s2.1 8 2).toInt = 0 ∧ match rp_text B N (N + 1) rp_T0 (rd_q B N 0) with
    | .inl f => x.toInt = f ∧ f ≠ 0 ∧ sg_fr ((8, 2) :: rx_mo9) rx_ao9 s s2
    | .inr T => x.toInt = 0 ∧ rp_ok T ∧ rx_RU T s2 ∧ rx_Z (s.2.2.1 27) s2 ∧ sg_fr ((8, 2) :: (rx_mo9 ++ [(1, 0), (1, 1), (1, 2), (1, 3), (1, 4)] ++ rx_moZ)) (rx_ao9 ++ [4, 5, 6, 7] ++ rx_aoZ) s s2) := by
  refine wp_X_read_ok ?_
  unfold wp_X_read
  refine (rx_text hK).mono (fun x s1 q1 => ?_)
  obtain ⟨f1, hz, q1⟩ := q1
  generalize rp_text B N (N + 1) rp_T0 (rd_q B N 0) = R at q1
  match R, q1 with
  | .inl e, q1 => exact ⟨fun c => absurd (q1.1.symm.trans c) q1.2, fun _ => ⟨hz, q1.1, q1.2, f1⟩⟩
  | .inr T, q1 =>
    obtain ⟨x0, hR, hT⟩ := q1
    refine ⟨fun _ => ?_, fun c => absurd x0 c⟩
    refine (rx_copy hR hT).mono (fun s2 q2 => ?_)
    obtain ⟨f2, hU⟩ := q2
    refine (rx_anew (by rw [f2.i (by decide), f1.i (by decide)]; exact h1) (by have := hU.2.2.1; have := hT.2.2.1; omega)).mono (fun s3 q3 => ?_)
    obtain ⟨f3, hZ⟩ := q3
    have e27 : s2.2.2.1 27 = s.2.2.1 27 := (f2.a (by decide)).trans (f1.a (by decide))
    rw [e27] at hZ
    refine ⟨by rw [f3.i (by decide), f2.i (by decide)]; exact hz, x0, hT, hU.fr f3 (by decide) (by decide), hZ, ((f1.le (by decide) (by decide)).tr (f2.le (by decide) (by decide))).tr (f3.le (by decide) (by decide))⟩
/-- M's rules are those of T -/
def rm_RU (T : rp_T) (s : sg_S) : Prop := (s.1 64 21).toInt = (T.1 : Int) ∧ (s.1 64 22).toInt = (T.2.1 : Int) ∧ (s.1 64 23).toInt = (T.2.2.1 : Int) ∧ (s.1 64 24).toInt = T.2.2.2.1 ∧ (s.1 64 25).toInt = T.2.2.2.2.1 ∧ ∀ i, i < T.2.2.1 → s.2.2.1 72 i = (rp_rl T i).1 ∧ s.2.2.1 73 i = (rp_rl T i).2.1 ∧ s.2.2.1 74 i = (rp_rl T i).2.2.1 ∧ s.2.2.1 75 i = (rp_rl T i).2.2.2
def rm_Z (s : sg_S) : Prop := (∀ i, i < 64 → s.2.2.1 81 i = Int32.ofInt 0) ∧ s.1 64 34 = Int32.ofInt 0 ∧ s.1 64 40 = Int32.ofInt 0 ∧ s.1 64 46 = Int32.ofInt 0 ∧ s.1 64 58 = Int32.ofInt 0 ∧ s.1 64 56 = Int32.ofInt 0 ∧ s.1 64 55 = Int32.ofInt 0 ∧ s.1 64 60 = Int32.ofInt 0 ∧ ∀ i, i < 12 → s.2.2.1 77 i = Int32.ofInt 0
def rm_moZ : List (Nat × Nat) := [(64, 21), (64, 22), (64, 23), (64, 24), (64, 25), (64, 34), (64, 40), (64, 46), (64, 58), (64, 56), (64, 55), (64, 60)]
def rm_aoZ : List Nat := [72, 73, 74, 75, 81, 77]
theorem rm_begins {T : rp_T} {s : sg_S} (hR : rm_R T s) (hT : rp_ok T) : am_SpV 166 [.ref 64] s (fun s2 => sg_fr rm_moZ rm_aoZ s s2 ∧ rm_RU T s2 ∧ rm_Z s2) := by
  obtain ⟨r0, r1, r2, r3, r4, r5, rn, rr⟩ := id hR
  have h12 := hT.2.2.1
  refine wp_M_begins_ok
    (I42 := fun l s1 => sg_fr rm_moZ rm_aoZ s s1 ∧ (s1.1 64 21 = s.1 64 9 ∧ s1.1 64 22 = s.1 64 10 ∧ s1.1 64 23 = s.1 64 11 ∧ s1.1 64 24 = s.1 64 12 ∧ s1.1 64 25 = s.1 64 13) ∧ ∃ k : Nat, l.toInt = (k : Int) ∧ k ≤ 12 ∧ ∀ i, i < k → s1.2.2.1 72 i = s.2.2.1 68 i ∧ s1.2.2.1 73 i = s.2.2.1 69 i ∧ s1.2.2.1 74 i = s.2.2.1 70 i ∧ s1.2.2.1 75 i = s.2.2.1 71 i)
    (I106 := fun l s1 => sg_fr rm_moZ rm_aoZ s s1 ∧ rm_RU T s1 ∧ ∃ k : Nat, l.toInt = (k : Int) ∧ k ≤ 64 ∧ ∀ i, i < k → s1.2.2.1 81 i = Int32.ofInt 0)
    (I162 := fun l s1 => sg_fr rm_moZ rm_aoZ s s1 ∧ rm_RU T s1 ∧ ((∀ i, i < 64 → s1.2.2.1 81 i = Int32.ofInt 0) ∧ s1.1 64 34 = Int32.ofInt 0 ∧ s1.1 64 40 = Int32.ofInt 0 ∧ s1.1 64 46 = Int32.ofInt 0 ∧ s1.1 64 58 = Int32.ofInt 0 ∧ s1.1 64 56 = Int32.ofInt 0 ∧ s1.1 64 55 = Int32.ofInt 0 ∧ s1.1 64 60 = Int32.ofInt 0) ∧ ∃ k : Nat, l.toInt = (k : Int) ∧ k ≤ 12 ∧ ∀ i, i < k → s1.2.2.1 77 i = Int32.ofInt 0) ?_ ?_ ?_ ⟨((((sg_fr.rf.uI rfl).uI rfl).uI rfl).uI rfl).uI rfl, ⟨rfl, rfl, rfl, rfl, rfl⟩, 0, rfl, Nat.zero_le _, fun i hi => absurd hi (Nat.not_lt_zero i)⟩
  · intro l s1 hI
    obtain ⟨f, g, k, hk, hk2, h⟩ := hI
    have g23 : (s1.1 64 23).toInt = (T.2.2.1 : Int) := by rw [g.2.2.1]; exact r2
    unfold wp_M_begins_42
    simp only [hk, g23, Int.toNat_natCast]
    refine ⟨fun c1 _ _ => ⟨(((f.uA rfl).uA rfl).uA rfl).uA rfl, g, k + 1, ?_, by omega, fun i hi => ?_⟩, fun c1 => ⟨f, ?_, 0, rfl, Nat.zero_le _, fun i hi => absurd hi (Nat.not_lt_zero i)⟩⟩
    · rw [i32_inc (c := 0) (by omega) (by omega), hk]
      rfl
    · show (if 72 = 75 ∧ i = k then s1.2.2.1 71 k else if 72 = 74 ∧ i = k then s1.2.2.1 70 k else if 72 = 73 ∧ i = k then s1.2.2.1 69 k else if 72 = 72 ∧ i = k then s1.2.2.1 68 k else s1.2.2.1 72 i) = _ ∧ (if 73 = 75 ∧ i = k then s1.2.2.1 71 k else if 73 = 74 ∧ i = k then s1.2.2.1 70 k else if 73 = 73 ∧ i = k then s1.2.2.1 69 k else if 73 = 72 ∧ i = k then s1.2.2.1 68 k else s1.2.2.1 73 i) = _ ∧ (if 74 = 75 ∧ i = k then s1.2.2.1 71 k else if 74 = 74 ∧ i = k then s1.2.2.1 70 k else if 74 = 73 ∧ i = k then s1.2.2.1 69 k else if 74 = 72 ∧ i = k then s1.2.2.1 68 k else s1.2.2.1 74 i) = _ ∧ (if 75 = 75 ∧ i = k then s1.2.2.1 71 k else if 75 = 74 ∧ i = k then s1.2.2.1 70 k else if 75 = 73 ∧ i = k then s1.2.2.1 69 k else if 75 = 72 ∧ i = k then s1.2.2.1 68 k else s1.2.2.1 75 i) = _
      have a12 := congrFun (f.a (b := 68) rfl) i
      have a13 := congrFun (f.a (b := 69) rfl) i
      have a14 := congrFun (f.a (b := 70) rfl) i
      have a15 := congrFun (f.a (b := 71) rfl) i
      by_cases e : i = k
      · subst e
        simp [a12, a13, a14, a15]
      · have := h i (by omega)
        simp [e, this]
    · refine ⟨by rw [g.1]; exact r0, by rw [g.2.1]; exact r1, g23, by rw [g.2.2.2.1]; exact r3, by rw [g.2.2.2.2]; exact r4, fun i hi => ?_⟩
      obtain ⟨z1, z2, z3, z4⟩ := h i (by omega)
      rw [z1, z2, z3, z4]
      exact rr i hi
  · intro l s1 hI
    obtain ⟨f, g, k, hk, hk2, h⟩ := hI
    unfold wp_M_begins_106
    simp only [hk, Int.toNat_natCast]
    refine ⟨fun c1 _ _ => ⟨f.uA rfl, g, k + 1, ?_, by omega, sg_Af (P := fun _ x => x = Int32.ofInt 0) h rfl rfl⟩, fun c1 => ⟨((((((f.uI rfl).uI rfl).uI rfl).uI rfl).uI rfl).uI rfl).uI rfl, g, ⟨fun i hi => h i (by omega), rfl, rfl, rfl, rfl, rfl, rfl, rfl⟩, 0, rfl, Nat.zero_le _, fun i hi => absurd hi (Nat.not_lt_zero i)⟩⟩
    rw [i32_inc (c := 0) (by omega) (by omega), hk]
    rfl
  · intro l s1 hI
    obtain ⟨f, g, z, k, hk, hk2, h⟩ := hI
    unfold wp_M_begins_162
    simp only [hk, Int.toNat_natCast]
    refine ⟨fun c1 _ _ => ⟨f.uA rfl, g, z, k + 1, ?_, by omega, sg_Af (P := fun _ x => x = Int32.ofInt 0) h rfl vp_b0⟩, fun c1 => ⟨f, g, z.1, z.2.1, z.2.2.1, z.2.2.2.1, z.2.2.2.2.1, z.2.2.2.2.2.1, z.2.2.2.2.2.2.1, z.2.2.2.2.2.2.2, fun i hi => h i (by omega)⟩⟩
    rw [i32_inc (c := 0) (by omega) (by omega), hk]
    rfl
/-- M's read -/
theorem rm_read {B : Nat → Int} {N : Nat} {s : sg_S} (hK : rm_K B N s) : am_SpI 151 [.ref 64] s (fun x s2 => (s2.1 64 2).toInt = 0 ∧ match rp_text B N (N + 1) rp_T0 (rd_q B N 0) with
    | .inl f => x.toInt = f ∧ f ≠ 0 ∧ sg_fr ((64, 2) :: rm_mo9) rm_ao9 s s2
    | .inr T => x.toInt = 0 ∧ rp_ok T ∧ rm_RU T s2 ∧ rm_Z s2 ∧ sg_fr ((64, 2) :: (rm_mo9 ++ rm_moZ)) (rm_ao9 ++ rm_aoZ) s s2) := by
  refine rm_text hK (fun x s2 f h hz => ⟨hz, ?_⟩) (fun T s2 f h hR hT hz => ?_)
  · generalize rp_text B N (N + 1) rp_T0 (rd_q B N 0) = R at h
    match R, h with
    | .inl e, h => exact ⟨h.1, h.2, f⟩
  · refine (rm_begins hR hT).mono (fun s3 q => ?_)
    obtain ⟨f3, hU, hZ⟩ := q
    refine ⟨by rw [f3.i (by decide)]; exact hz, ?_⟩
    rw [h]
    exact ⟨rfl, hT, hU, hZ, (f.le (by decide) (by decide)).tr (f3.le (by decide) (by decide))⟩
