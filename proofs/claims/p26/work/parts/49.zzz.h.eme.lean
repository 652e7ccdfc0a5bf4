/-! ===== ends of M ===== -/
theorem mE_D {ϖ : ep_} {p : Nat} {s : sg_S} (h : mE_ ϖ p (eLp ϖ p).1 0 s) : mD_ ϖ (p + 1) s := by
  obtain ⟨g1, ⟨g2, g2b⟩, g3, g4, g5, g6, g7, g8, g9⟩ := h
  have e : ecp ϖ p (eLp ϖ p).1 0 = eLp ϖ (p + 1) := ec_all
  rw [e] at g2 g2b g4 g8
  refine ⟨fun q hq => ?_, fun q hq => ?_, fun q hq => ?_, g8, fun q hq => g9 q (by omega)⟩
  · by_cases c : q = p + 1
    · rw [c]; exact ⟨g2, g2b⟩
    · exact g1 q (by omega)
  · by_cases c : q = p + 1
    · rw [c]; exact g4
    · exact g3 q (by omega)
  · by_cases c : q = p
    · rw [c]; exact g6
    · exact g5 q (by omega)
/-- what full and can are told from -/
def mR_ (ϖ : ep_) (len : Nat) (s : sg_S) : Prop := (s.1 64 57).toInt = (len : Int) ∧ (∀ q, q < len → ((s.2.2.1 93 q).toInt = 0 ↔ ¬ fd_ ϖ q)) ∧ bC_ ϖ len 0 (s.2.2.1 95) ∧ ∃ kk tt : Nat → Nat, ewq_ (ecn_ ϖ) (edp ϖ) len len kk tt ∧ ∀ i, i < len → (s.2.2.1 94 i).toInt = (tt i : Int)
theorem em_ends {ϖ : ep_} {s : sg_S} {len : Nat} (hϖ : eP_ ϖ) (hC : mC_ ϖ s) (hlen : ϖ.1.2.2.2.1 = (len : Int)) : am_SpI 197 [.ref 64] s (fun r s2 => sg_fr moE_ aoE_ s s2 ∧ eo_ (fun q => (eLp ϖ q).1) (eSp ϖ) len r.toInt (s2.1 64 56).toInt ∧ (¬ r.toInt = 1 → (s2.1 64 55).toInt = 0) ∧ (r.toInt = 1 → (s2.1 64 55).toInt = 1 ∧ mR_ ϖ len s2)) := by
  have hl := hϖ.2.2.1
  have z1 : (Int32.ofInt 1).toInt = 1 := rfl
  have e24 : ∀ s1 : sg_S, sg_fr moE_ aoE_ s s1 → (s1.1 64 24).toInt = (len : Int) := fun s1 f => by rw [f.i (by decide), hC.1.2.2.2.1, hlen]
  refine wp_M_ends_ok
    (I23 := fun l s1 => sg_fr moE_ aoE_ s s1 ∧ (s1.1 64 55).toInt = 0 ∧ (s1.1 64 56).toInt = 1 ∧ (s1.2.2.1 90 0).toInt = 1 ∧ (∀ i, i < 14 → s1.2.2.1 82 i = ev0_ ϖ i) ∧ ∃ i : Nat, l.toInt = (i : Int) ∧ i ≤ 14 ∧ ∀ j, j < i → s1.2.2.1 89 j = ev0_ ϖ j)
    (I49 := fun l s1 => sg_fr moE_ aoE_ s s1 ∧ (s1.1 64 55).toInt = 0 ∧ ∃ p : Nat, l.toInt = ((p + 1 : Nat) : Int) ∧ p ≤ len ∧ mD_ ϖ p s1)
    (I98 := fun l1 l2 s1 => sg_fr moE_ aoE_ s s1 ∧ (s1.1 64 55).toInt = 0 ∧ ∃ p k : Nat, l1.toInt = ((p + 1 : Nat) : Int) ∧ p < len ∧ l2.toInt = (k : Int) ∧ k ≤ (eLp ϖ p).1 ∧ mE_ ϖ p k 0 s1) ?_ ?_ ?_ ?_
  · intro l s1 hI
    obtain ⟨f, h55, h56, h90, h82, i, hi, hi14, h⟩ := hI
    unfold wp_M_ends_23
    have ei : l.toInt.toNat = i := by omega
    rw [ei]
    refine ⟨fun c _ _ _ _ => ⟨f.uA (by decide), h55, h56, ?_, fun j hj => ?_, i + 1, ?_, by omega, fun j hj => ?_⟩, fun c => ⟨f, h55, 0, rfl, Nat.zero_le _, fun q hq => ?_, fun q hq j hj i2 hi2 => ?_, fun q hq => absurd hq (Nat.not_lt_zero q), ?_, fun q hq => absurd hq (Nat.not_lt_zero q)⟩⟩
    · rw [sg_A2 (fun c => absurd c.1 (by decide))]; exact h90
    · rw [sg_A2 (fun c => absurd c.1 (by decide))]; exact h82 j hj
    · rw [i32_inc (c := 0) (by omega) (by omega), hi]
      rfl
    · by_cases ej : j = i
      · rw [ej, sg_A1]; exact h82 i (by omega)
      · rw [sg_A2 (fun c => ej c.2)]
        exact h j (by omega)
    · obtain rfl : q = 0 := by omega
      exact ⟨h90, show (1 : Nat) ≤ 400 by decide⟩
    · obtain rfl : q = 0 := by omega
      have hj : j < 1 := hj
      obtain rfl : j = 0 := by omega
      rw [show (400 * 0 + 0) * 14 + i2 = i2 by omega]
      exact h i2 (by omega)
    · rw [h56]
      rfl
  · intro l s1 hI
    obtain ⟨f, h55, p, hp, hpl, hD⟩ := hI
    have h24 := e24 s1 f
    unfold wp_M_ends_49
    rw [h24, hp, Int.toNat_natCast]
    refine ⟨fun c _ _ => ?_, fun c _ _ => ?_⟩
    · obtain rfl : p = len := by omega
      have h90 := (hD.1 p (Nat.le_refl _)).1
      rw [h90]
      refine ⟨fun c0 => ⟨f, Or.inr ⟨fun q hq => (hD.1 q hq).2, hD.2.2.2.1, Or.inl ⟨show (eLp ϖ p).1 = 0 by omega, rfl⟩⟩, fun _ => h55, fun z => absurd z (by decide)⟩, fun c0 => ?_⟩
      refine (em_looks hϖ (hC.fr f) hlen hD (by omega)).mono (fun s2 h2 => ?_)
      obtain ⟨f2, hb, kk, tt, hw, h94⟩ := h2
      have f02 : sg_fr moE_ aoE_ s s2 := f.tr (f2.le (by decide) (by decide))
      refine ⟨(f02.uI (by decide)).uI (by decide), Or.inr ⟨fun q hq => (hD.1 q hq).2, ?_, Or.inr ⟨show 0 < (eLp ϖ p).1 by omega, rfl⟩⟩, fun z => absurd rfl z, fun _ => ⟨rfl, ?_, fun q hq => ?_, hb, kk, tt, hw, h94⟩⟩
      · show (s2.1 64 56).toInt = _
        rw [f2.i rfl]
        exact hD.2.2.2.1
      · exact e24 s2 f02
      · show (s2.2.2.1 93 q).toInt = 0 ↔ _
        rw [f2.a rfl]
        exact hD.2.2.2.2 q hq
    · have hpl2 : p < len := by omega
      have hm := hC.2.2.1
      have m1 : (s1.1 64 40).toInt = (ϖ.2.2.1 : Int) := by rw [f.i (by decide)]; exact hm
      have er : (l - Int32.ofInt 1).toInt.toNat = p := by rw [i32_sub (by omega) (by omega), hp, z1]; omega
      have a86 : s1.2.2.1 86 = ϖ.2.2.2.1 := by rw [f.a (by decide)]; exact hC.2.2.2.1
      have begin_ : ∀ b : Int32, ((vp_nar .boolean b).toInt = 0 ↔ ¬ fd_ ϖ p) → mE_ ϖ p 0 0 (sg_uA (sg_uA s1 90 (p + 1) (Int32.ofInt 0)) 93 p (vp_nar .boolean b)) := by
        intro b hb
        obtain ⟨g1, g2, g3, g4, g5⟩ := hD
        have o90 : (sg_uA (sg_uA s1 90 (p + 1) (Int32.ofInt 0)) 93 p (vp_nar .boolean b)).2.2.1 90 = fun i => if i = p + 1 then Int32.ofInt 0 else s1.2.2.1 90 i := by
          funext i
          exact (sg_A2 (fun c => absurd c.1 (by decide))).trans (congrFun sg_Aall i)
        have o89 : (sg_uA (sg_uA s1 90 (p + 1) (Int32.ofInt 0)) 93 p (vp_nar .boolean b)).2.2.1 89 = s1.2.2.1 89 := by
          funext i
          exact (sg_A2 (fun c => absurd c.1 (by decide))).trans (sg_A2 (fun c => absurd c.1 (by decide)))
        have o91 : (sg_uA (sg_uA s1 90 (p + 1) (Int32.ofInt 0)) 93 p (vp_nar .boolean b)).2.2.1 91 = s1.2.2.1 91 := by
          funext i
          exact (sg_A2 (fun c => absurd c.1 (by decide))).trans (sg_A2 (fun c => absurd c.1 (by decide)))
        unfold mE_
        rw [o89, o90, o91]
        refine ⟨fun q hq => ?_, ⟨?_, show (0 : Nat) ≤ 400 by decide⟩, g2, fun j hj => absurd hj (Nat.not_lt_zero j), g3, fun j hj => absurd hj (Nat.not_lt_zero j), fun u hu => absurd hu (Nat.not_lt_zero u), ?_, fun q hq => ?_⟩
        · show (if q = p + 1 then _ else s1.2.2.1 90 q).toInt = _ ∧ _
          rw [if_neg (by omega)]
          exact g1 q hq
        · show (if p + 1 = p + 1 then Int32.ofInt 0 else _).toInt = _
          rw [if_pos rfl]
          rfl
        · show (s1.1 64 56).toInt = eSp ϖ (p + 1) + ((0 : Nat) : Int)
          rw [g4]
          omega
        · by_cases eq : q = p
          · rw [eq, sg_A1]; exact hb
          · rw [sg_A2 (fun c => eq c.2)]
            show (s1.2.2.1 93 q).toInt = 0 ↔ _
            exact g5 q (by omega)
      have n0 : (vp_nar .boolean (Int32.ofInt 0)).toInt = 0 := by rw [vp_b0]; rfl
      have n1 : ¬ (vp_nar .boolean (Int32.ofInt 1)).toInt = 0 := by rw [vp_b1]; decide
      rw [m1, er, a86]
      refine ⟨fun c1 _ _ => ⟨(f.uA (by decide)).uA (by decide), h55, p, 0, hp, hpl2, rfl, Nat.zero_le _, begin_ _ ?_⟩, fun c1 _ _ => ⟨fun c2 => ⟨(f.uA (by decide)).uA (by decide), h55, p, 0, hp, hpl2, rfl, Nat.zero_le _, begin_ _ ?_⟩, fun c2 => ⟨(f.uA (by decide)).uA (by decide), h55, p, 0, hp, hpl2, rfl, Nat.zero_le _, begin_ _ ?_⟩⟩⟩
      · exact ⟨fun _ z => by have := z.1; omega, fun _ => n0⟩
      · exact ⟨fun z => absurd z n1, fun z => absurd ⟨by omega, c2⟩ z⟩
      · exact ⟨fun _ z => c2 z.2, fun _ => n0⟩
  · intro l1 l2 s1 hI
    obtain ⟨f, h55, p, k, h1, hpl, h2, hk, hE⟩ := hI
    have e1 : (l1 - Int32.ofInt 1).toInt.toNat = p := by rw [i32_sub (by omega) (by omega), h1, z1]; omega
    have h90 := (hE.1 p (Nat.le_refl _)).1
    have hN4 := (hE.1 p (Nat.le_refl _)).2
    unfold wp_M_ends_98
    rw [e1, h90, h2]
    refine fun _ _ => ⟨fun c => ?_, fun c => ⟨f, h55, p + 1, ?_, by omega, ?_⟩⟩
    · refine (em_goes hϖ (hC.fr f) hE h1 h2 (by omega) (by omega)).mono (fun x3 s3 h3 => ?_)
      obtain ⟨f3, h3⟩ := h3
      have f03 : sg_fr moE_ aoE_ s s3 := f.tr (f3.le (by decide) (by decide))
      have h55' : (s3.1 64 55).toInt = 0 := by rw [f3.i rfl]; exact h55
      refine ⟨fun c3 => ⟨f03, ?_, fun _ => h55', fun z => absurd z (by decide)⟩, fun c3 => ⟨f03, h55', p, k + 1, h1, hpl, ?_, by omega, ?_⟩⟩
      · rcases h3 with q | q
        · exact absurd c3 q.1
        · exact Or.inl ⟨p + 1, by omega, by omega, fun q' hq' => (hE.1 q' (by omega)).2, q.2.1, rfl, q.2.2⟩
      · rw [i32_inc (c := 0) (by omega) (by omega), h2]
        rfl
      · rcases h3 with q | q
        · exact q.2
        · exact absurd q.1 c3
    · rw [i32_inc (c := 0) (by omega) (by omega), h1]
      rfl
    · have ek : k = (eLp ϖ p).1 := by omega
      rw [ek] at hE
      exact mE_D hE
  · unfold wp_M_ends
    have f0 : sg_fr moE_ aoE_ s (sg_uA (sg_uI (sg_uI s 64 55 (Int32.ofInt 0)) 64 56 (Int32.ofInt 1)) 90 0 (Int32.ofInt 1)) := ((sg_fr.rf.uI (by decide)).uI (by decide)).uA (by decide)
    refine (em_nothing hϖ (hC.fr f0).1).mono (fun s1 h1 => ?_)
    obtain ⟨f1, h82⟩ := h1
    refine ⟨f0.tr (f1.le (by decide) (by decide)), by rw [f1.i rfl]; rfl, by rw [f1.i rfl]; rfl, ?_, h82, 0, rfl, by omega, fun j hj => absurd hj (Nat.not_lt_zero j)⟩
    rw [f1.a rfl, sg_A1]
    rfl
