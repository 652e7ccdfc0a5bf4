/-! ===== ends: X looks back, and walks ===== -/
section LB
variable {s : sg_S} {ϖ : ep_} {len : Nat}
/-- one note of X -/
def eX_ (ϖ : ep_) (len q k : Nat) (a : Int32) : Prop := (¬ a.toInt < 0 ↔ al_ (ecn_ ϖ) (edp ϖ) len (len - q) k) ∧ (q < len → ¬ a.toInt < 0 → ∃ t : Nat, a.toInt = (t : Int) ∧ t < ecn_ ϖ (q + 1) ∧ av_ (ecn_ ϖ) (edp ϖ) len q k t ∧ ∀ u, u < t → ¬ av_ (ecn_ ϖ) (edp ϖ) len q k u)
/-- what may come at the places behind q0 -/
def cX_ (ϖ : ep_) (len q0 : Nat) (a0 a : Nat → Int32) : Prop := (∀ P, q0 < P → P ≤ len → (fd_ ϖ (P - 1) → a P = Int32.ofInt (-1)) ∧ (¬ fd_ ϖ (P - 1) → ∀ t, t < 32 → (bt_ (a P) t = true ↔ t < ecn_ ϖ P ∧ ∃ k, k < (eLp ϖ (P - 1)).1 ∧ av_ (ecn_ ϖ) (edp ϖ) len (P - 1) k t))) ∧ ∀ P, ¬ (q0 < P ∧ P ≤ len) → a P = a0 P
theorem xe_note {p k : Nat} {m r : Int32} (hp : p < len) (hn : ecn_ ϖ (p + 1) ≤ 16) (hm : ∀ t, t < 32 → (bt_ m t = true ↔ t < ecn_ ϖ (p + 1) ∧ av_ (ecn_ ϖ) (edp ϖ) len p k t)) (hr : (r.toInt = -1 ∧ ∀ t, t < 16 → bt_ m t = false) ∨ ∃ t : Nat, r.toInt = (t : Int) ∧ t < 16 ∧ bt_ m t = true ∧ ∀ u, u < t → bt_ m u = false) : eX_ ϖ len p k r := by
  unfold eX_
  rw [al_iff hp]
  rcases hr with ⟨r1, r2⟩ | ⟨t, r1, r2, r3, r4⟩
  · refine ⟨⟨fun z => by omega, fun z => ?_⟩, fun _ z => by omega⟩
    obtain ⟨t, t1, t2⟩ := z
    have := (hm t (by omega)).mpr ⟨t1, t2⟩
    rw [r2 t (by omega)] at this
    cases this
  · have h := (hm t (by omega)).mp r3
    refine ⟨⟨fun _ => ⟨t, h⟩, fun _ => by omega⟩, fun _ _ => ⟨t, r1, h.1, h.2, fun u hu w => ?_⟩⟩
    have := (hm u (by omega)).mpr ⟨by omega, w⟩
    rw [r4 u hu] at this
    cases this
theorem xe_back (hϖ : eP_ ϖ) (he : xe_ ϖ s) (hlen : ϖ.1.2.2.2.1 = (len : Int)) (hN : xN_ ϖ len s) : am_SpV 20 [.ref 35] s (fun s2 => sg_fr [] [38, 49] s s2 ∧ bX_ ϖ len 0 (s2.2.2.1 49) ∧ cX_ ϖ len 0 (s.2.2.1 38) (s2.2.2.1 38)) := by
  have hl := hϖ.2.2.1
  have z1 : (Int32.ofInt 1).toInt = 1 := rfl
  have zm : (Int32.ofInt (-1)).toInt = -1 := rfl
  have z0 : (Int32.ofInt 0).toInt = 0 := rfl
  have e400 : (Int32.ofInt 400).toInt = 400 := rfl
  have c16 : ∀ P, ecn_ ϖ P ≤ 16 := fun P => ecn_16 hϖ
  have nb0 : vp_nar .byte (Int32.ofInt 0) = Int32.ofInt 0 := ab_nb (by rw [z0]; omega) (by rw [z0]; omega)
  have mul : ∀ {x : Int32} {q : Nat}, x.toInt = (q : Int) → q ≤ 48 → (x * Int32.ofInt 400).toInt = ((400 * q : Nat) : Int) := fun h hq => by
    rw [i32_mul (by rw [e400]; omega) (by rw [e400]; omega), e400, h]
    omega
  refine wp_XEnding_lookBack_ok
    (I10 := fun l1 l2 s1 => sg_fr [] [38, 49] s s1 ∧ s1.2.2.1 38 = s.2.2.1 38 ∧ l1.toInt = (len : Int) ∧ ∃ k : Nat, l2.toInt = (k : Int) ∧ k ≤ (eLp ϖ len).1 ∧ ∀ j, j < k → (s1.2.2.1 49 (400 * len + j)).toInt = 0)
    (I41 := fun l1 l2 s1 => sg_fr [] [38, 49] s s1 ∧ l1.toInt = (len : Int) ∧ ∃ q : Nat, l2.toInt = (q : Int) ∧ q ≤ len ∧ bX_ ϖ len q (s1.2.2.1 49) ∧ cX_ ϖ len q (s.2.2.1 38) (s1.2.2.1 38))
    (I51 := fun l1 l2 l3 l4 s1 => sg_fr [] [38, 49] s s1 ∧ l1.toInt = (len : Int) ∧ ∃ p k : Nat, l2.toInt = ((p + 1 : Nat) : Int) ∧ p < len ∧ l4.toInt = (k : Int) ∧ k ≤ (eLp ϖ p).1 ∧ bX_ ϖ len (p + 1) (s1.2.2.1 49) ∧ cX_ ϖ len (p + 1) (s.2.2.1 38) (s1.2.2.1 38) ∧ (∀ j, j < k → eX_ ϖ len p j (s1.2.2.1 49 (400 * p + j))) ∧ ∀ t, t < 32 → (bt_ l3 t = true ↔ t < ecn_ ϖ (p + 1) ∧ ∃ j, j < k ∧ av_ (ecn_ ϖ) (edp ϖ) len p j t)) ?_ ?_ ?_ ?_
  · intro l1 l2 s1 hI
    obtain ⟨f, e38, h1, k, h2, hkN, h49⟩ := hI
    have h47 : (s1.2.2.1 47 len).toInt = ((eLp ϖ len).1 : Int) := by rw [f.a rfl]; exact (hN.1 len (Nat.le_refl _)).1
    have h400 := (hN.1 len (Nat.le_refl _)).2
    have hix : (l1 * Int32.ofInt 400 + l2).toInt = ((400 * len + k : Nat) : Int) := by
      rw [i32_add (by rw [mul h1 (by omega)]; omega) (by rw [mul h1 (by omega)]; omega), mul h1 (by omega), h2]
      omega
    unfold wp_XEnding_lookBack_10
    rw [hix, h1, h2, Int.toNat_natCast, Int.toNat_natCast, h47, nb0]
    refine fun _ _ => ⟨fun c _ _ => ⟨f.uA rfl, e38, h1, k + 1, ?_, by omega, fun j hj => ?_⟩, fun c => ⟨f, h1, len, h1, Nat.le_refl _, fun q hq1 hq2 j hj => ?_, ⟨fun P hP1 hP2 => by omega, fun P _ => by rw [e38]⟩⟩⟩
    · rw [i32_inc (c := 0) (by omega) (by omega), h2]
      rfl
    · by_cases e : j = k
      · rw [e, sg_A1]; rfl
      · rw [sg_A2 (fun z => e (by omega))]
        exact h49 j (by omega)
    · obtain rfl : q = len := by omega
      have := h49 j (by omega)
      refine ⟨⟨fun _ => ?_, fun _ => by omega⟩, fun z => by omega⟩
      rw [Nat.sub_self]
      trivial
  · intro l1 l2 s1 hI
    obtain ⟨f, h1, q, h2, hq, hb, hc⟩ := hI
    unfold wp_XEnding_lookBack_41
    refine ⟨fun c => ?_, fun c => ?_⟩
    · obtain rfl : q = 0 := by omega
      exact ⟨f, hb, hc⟩
    · obtain ⟨p, rfl⟩ : ∃ p, q = p + 1 := ⟨q - 1, by omega⟩
      refine ⟨f, h1, p, 0, h2, by omega, rfl, Nat.zero_le _, hb, hc, fun j hj => absurd hj (Nat.not_lt_zero j), fun t ht => ?_⟩
      rw [bt_z ht]
      exact ⟨fun z => (by cases z), fun z => by obtain ⟨-, j, hj, -⟩ := z; omega⟩
  · intro l1 l2 l3 l4 s1 hI
    obtain ⟨f, h1, p, k, h2, hp, h4, hkN, hb, hc, hx, hm⟩ := hI
    have he1 := he.fr f (by decide) (by decide)
    have hN1 : xN_ ϖ len s1 := by
      unfold xN_
      rw [f.a rfl, f.a rfl]
      exact hN
    have h47 := hN1.1 p (by omega)
    have hm1 : (l2 - Int32.ofInt 1).toInt = (p : Int) := by rw [i32_sub (by omega) (by omega), h2, z1]; omega
    have hix : ((l2 - Int32.ofInt 1) * Int32.ofInt 400 + l4).toInt = ((400 * p + k : Nat) : Int) := by
      rw [i32_add (by rw [mul hm1 (by omega)]; omega) (by rw [mul hm1 (by omega)]; omega), mul hm1 (by omega), h4]
      omega
    unfold wp_XEnding_lookBack_51
    rw [hix, hm1, h4, Int.toNat_natCast, Int.toNat_natCast, h47.1]
    refine fun _ _ => ⟨fun c => ?_, fun c => ?_⟩
    · have hk : k < (eLp ϖ p).1 := by omega
      refine (xe_leading hϖ he1 hlen hp hN1 hk hb h4 h2).mono (fun x2 s2 g2 => ?_)
      obtain ⟨q2, g2⟩ := g2
      subst q2
      refine (xe_least (x1 := x2)).mono (fun x3 s3 g3 => ?_)
      obtain ⟨q3, g3⟩ := g3
      subst q3
      have hr : -1 ≤ x3.toInt ∧ x3.toInt ≤ 15 := by
        rcases g3 with g | ⟨t, g1, g4, -⟩
        · omega
        · omega
      rw [nar_b (by omega) (by omega)]
      have hnote := xe_note hp (c16 _) g2 g3
      refine fun _ _ => ⟨f.uA rfl, h1, p, k + 1, h2, hp, ?_, by omega, fun q hq1 hq2 j hj => ?_, hc, fun j hj => ?_, fun t ht => ?_⟩
      · rw [i32_inc (c := 0) (by omega) (by omega), h4]
        rfl
      · have e : (sg_uA s3 49 (400 * p + k) x3).2.2.1 49 (400 * q + j) = s3.2.2.1 49 (400 * q + j) := sg_A2 (fun z => by
          have := z.2
          omega)
        rw [e]
        exact hb q hq1 hq2 j hj
      · by_cases e : j = k
        · rw [e, sg_A1]
          exact hnote
        · rw [sg_A2 (fun z => e (by omega))]
          exact hx j (by omega)
      · rw [bt_or ht, Bool.or_eq_true, hm t ht, g2 t ht]
        constructor
        · rintro (z | z)
          · obtain ⟨z1, j, j1, j2⟩ := z
            exact ⟨z1, j, by omega, j2⟩
          · exact ⟨z.1, k, by omega, z.2⟩
        · rintro ⟨z1, j, j1, j2⟩
          by_cases e : j = k
          · rw [e] at j2
            exact Or.inr ⟨z1, j2⟩
          · exact Or.inl ⟨z1, j, by omega, j2⟩
    · have hkk : k = (eLp ϖ p).1 := by omega
      subst hkk
      have hdec : (l2 + Int32.ofInt (-1)).toInt = (p : Int) := by rw [i32_add (by omega) (by omega), h2, zm]; omega
      generalize hld : l2 + Int32.ofInt (-1) = ld at hdec ⊢
      have ep : l2.toInt.toNat = p + 1 := by omega
      have bx : bX_ ϖ len p (s1.2.2.1 49) := fun q hq1 hq2 j hj => by
        by_cases e : q = p
        · subst e
          exact hx j hj
        · exact hb q (by omega) hq2 j hj
      refine (xe_stands (P := p + 1) he1 ⟨by omega, by omega⟩ h2).mono (fun x5 s5 h5 => ?_)
      have hno := h5.no
      have hyes := h5.yes
      have q5 := h5.eq
      subst q5
      rw [ep]
      -- the place p + 1 is noted
      have fin : ∀ V : Int32, ((fd_ ϖ p → V = Int32.ofInt (-1)) ∧ (¬ fd_ ϖ p → ∀ t, t < 32 → (bt_ V t = true ↔ t < ecn_ ϖ (p + 1) ∧ ∃ k, k < (eLp ϖ p).1 ∧ av_ (ecn_ ϖ) (edp ϖ) len p k t))) → sg_fr [] [38, 49] s (sg_uA s5 38 (p + 1) V) ∧ l1.toInt = (len : Int) ∧ ∃ q : Nat, ld.toInt = (q : Int) ∧ q ≤ len ∧ bX_ ϖ len q ((sg_uA s5 38 (p + 1) V).2.2.1 49) ∧ cX_ ϖ len q (s.2.2.1 38) ((sg_uA s5 38 (p + 1) V).2.2.1 38) := by
        intro V hV
        have f38 : sg_fr [] [38] s5 (sg_uA s5 38 (p + 1) V) := sg_fr.rf.uA rfl
        refine ⟨f.uA rfl, h1, p, hdec, by omega, by rw [f38.a rfl]; exact bx, ⟨fun P hP1 hP2 => ?_, fun P hP => ?_⟩⟩
        · by_cases e : P = p + 1
          · subst e
            rw [sg_A1]
            exact hV
          · rw [sg_A2 (fun z => e z.2)]
            exact hc.1 P (by omega) hP2
        · rw [sg_A2 (fun z => hP ⟨by omega, by omega⟩)]
          exact hc.2 P (fun z => hP ⟨by omega, z.2⟩)
      exact ⟨fun c5 _ _ => fin _ ⟨fun z => absurd z (hno c5), fun _ => hm⟩, fun c5 _ _ => fin _ ⟨fun _ => rfl, fun z => absurd (hyes c5) z⟩⟩
  · exact ⟨sg_fr.rf, rfl, by rw [he.1.2.2.2.1, hlen], 0, rfl, Nat.zero_le _, fun j hj => absurd hj (Nat.not_lt_zero j)⟩
/-- what is full: the first way -/
def wX_ (ϖ : ep_) (len q : Nat) (a0 a : Nat → Int32) (tt : Nat → Nat) : Prop := (∀ P, 1 ≤ P → P ≤ q → (fd_ ϖ (P - 1) → a P = Int32.ofInt (-1)) ∧ (¬ fd_ ϖ (P - 1) → (a P).toInt = (tt (P - 1) : Int))) ∧ ∀ P, ¬ (1 ≤ P ∧ P ≤ q) → a P = a0 P
def wJ_ (ϖ : ep_) (len : Nat) (s : sg_S) (l1 l2 : Int32) (s1 : sg_S) : Prop := sg_fr [] [37] s s1 ∧ ∃ (q : Nat) (kk tt : Nat → Nat), l2.toInt = ((q + 1 : Nat) : Int) ∧ q ≤ len ∧ ewq_ (ecn_ ϖ) (edp ϖ) len q kk tt ∧ l1.toInt = (kk q : Int) ∧ kk q < (eLp ϖ q).1 ∧ al_ (ecn_ ϖ) (edp ϖ) len (len - q) (kk q) ∧ wX_ ϖ len q (s.2.2.1 37) (s1.2.2.1 37) tt
theorem xe_walk (hϖ : eP_ ϖ) (he : xe_ ϖ s) (hlen : ϖ.1.2.2.2.1 = (len : Int)) (hN : xN_ ϖ len s) (hb : bX_ ϖ len 0 (s.2.2.1 49)) (hpos : 0 < (eLp ϖ len).1) : am_SpV 24 [.ref 35] s (fun s2 => sg_fr [] [37] s s2 ∧ ∃ kk tt : Nat → Nat, ewq_ (ecn_ ϖ) (edp ϖ) len len kk tt ∧ wX_ ϖ len len (s.2.2.1 37) (s2.2.2.1 37) tt) := by
  have hl := hϖ.2.2.1
  have z1 : (Int32.ofInt 1).toInt = 1 := rfl
  have e400 : (Int32.ofInt 400).toInt = 400 := rfl
  have c16 : ∀ P, ecn_ ϖ P ≤ 16 := fun P => ecn_16 hϖ
  have mul : ∀ {x : Int32} {q : Nat}, x.toInt = (q : Int) → q ≤ 48 → (x * Int32.ofInt 400).toInt = ((400 * q : Nat) : Int) := fun h hq => by
    rw [i32_mul (by rw [e400]; omega) (by rw [e400]; omega), e400, h]
    omega
  refine wp_XEnding_walk_ok (I4 := wJ_ ϖ len s) ?_ ?_
  · intro l1 l2 s1 hI
    obtain ⟨f, q, kk, tt, h2, hq, hw, h1, hkN, hal, hwx⟩ := hI
    have he1 := he.fr f (by decide) (by decide)
    have hN1 : xN_ ϖ len s1 := by
      unfold xN_
      rw [f.a rfl, f.a rfl]
      exact hN
    have h13 : (s1.1 1 3).toInt = (len : Int) := by rw [he1.1.2.2.2.1, hlen]
    unfold wp_XEnding_walk_4
    rw [h13, h2]
    refine ⟨fun c => ?_, fun c => ⟨fun c1 => by omega, fun c1 => ?_⟩⟩
    · obtain rfl : q = len := by omega
      exact ⟨f, kk, tt, hw, hwx⟩
    · have hql : q < len := by omega
      have h400 := (hN1.1 q (by omega)).2
      have hm1 : (l2 - Int32.ofInt 1).toInt = (q : Int) := by rw [i32_sub (by omega) (by omega), h2, z1]; omega
      have hix : ((l2 - Int32.ofInt 1) * Int32.ofInt 400 + l1).toInt = ((400 * q + kk q : Nat) : Int) := by
        rw [i32_add (by rw [mul hm1 (by omega)]; omega) (by rw [mul hm1 (by omega)]; omega), mul hm1 (by omega), h1]
        omega
      rw [hix]
      simp only [Int.toNat_natCast]
      have e49 : s1.2.2.1 49 = s.2.2.1 49 := f.a rfl
      rw [e49]
      obtain ⟨b1, b2⟩ := hb q (Nat.zero_le _) hq (kk q) hkN
      have hnn := b1.mpr hal
      obtain ⟨t, t1, t2, t3, t4⟩ := b2 hql hnn
      refine fun _ _ => ⟨fun c2 => absurd c2 hnn, fun _ => ?_⟩
      have ep : l2.toInt.toNat = q + 1 := by omega
      -- the next state
      have hd := ed_rng (ok := eok_ ϖ) (nxt := enx_ ϖ) (cn := ecn_ ϖ) (cs := ecs_ ϖ) (v0 := ev0_ ϖ) (p := q) (k := kk q) (t := t) hkN t2
      have hd : edp ϖ q (kk q) t = -1 ∨ (0 ≤ edp ϖ q (kk q) t ∧ edp ϖ q (kk q) t < ((eLp ϖ (q + 1)).1 : Int)) := hd
      have hd0 := t3.1
      have hw2 : ewq_ (ecn_ ϖ) (edp ϖ) len (q + 1) (up_ kk (q + 1) (edp ϖ q (kk q) t).toNat) (up_ tt q t) := by
        refine ⟨?_, fun p hp => ?_⟩
        · rw [up_2 (by omega)]
          exact hw.1
        · by_cases e : p = q
          · subst e
            rw [up_1, up_1, up_2 (by omega)]
            exact ⟨⟨t2, t3, t4⟩, by omega⟩
          · rw [up_2 e, up_2 (by omega), up_2 (by omega)]
            exact hw.2 p (by omega)
      have hinc : (l2 + Int32.ofInt 1).toInt = ((q + 1 + 1 : Nat) : Int) := by
        rw [i32_inc (c := 0) (by omega) (by omega), h2]
        rfl
      have step : ∀ V : Int32, ((fd_ ϖ q → V = Int32.ofInt (-1)) ∧ (¬ fd_ ϖ q → V.toInt = (t : Int))) → am_SpI 19 [.int (l2 - Int32.ofInt (1)), .int l1] (sg_uA s1 37 (q + 1) V) (fun x2 s2 => (0 ≤ (x2 + s.2.2.1 49 (400 * q + kk q)).toInt → (x2 + s.2.2.1 49 (400 * q + kk q)).toInt < (307200) → wJ_ ϖ len s (s2.2.2.1 48 ((x2 + s.2.2.1 49 (400 * q + kk q)).toInt.toNat)) (l2 + Int32.ofInt (1)) s2)) := by
        intro V hV
        refine (xe_row hm1 h1 (by omega) (by omega)).mono (fun x2 s2 g => ?_)
        obtain ⟨q2, g⟩ := g
        subst q2
        have h16 := c16 (q + 1)
        have hi2 : (x2 + s.2.2.1 49 (400 * q + kk q)).toInt = ((16 * (400 * q + kk q) + t : Nat) : Int) := by
          rw [i32_add (by omega) (by omega), g, t1]
          omega
        rw [hi2, Int.toNat_natCast]
        intro _ _
        have f37 : sg_fr [] [37] s1 (sg_uA s1 37 (q + 1) V) := sg_fr.rf.uA rfl
        have e48 : ((sg_uA s1 37 (q + 1) V).2.2.1 48 (16 * (400 * q + kk q) + t)).toInt = edp ϖ q (kk q) t := by
          rw [f37.a rfl]
          exact hN1.2 q hql (kk q) hkN t t2
        refine ⟨f.uA rfl, q + 1, up_ kk (q + 1) (edp ϖ q (kk q) t).toNat, up_ tt q t, hinc, by omega, hw2, ?_, ?_, ?_, ⟨fun P hP1 hP2 => ?_, fun P hP => ?_⟩⟩
        · rw [e48, up_1]
          omega
        · rw [up_1]
          omega
        · rw [up_1]
          exact t3.2
        · by_cases e : P = q + 1
          · subst e
            rw [sg_A1, show q + 1 - 1 = q by omega, up_1]
            exact hV
          · rw [sg_A2 (fun z => e z.2), up_2 (by omega)]
            exact hwx.1 P hP1 (by omega)
        · rw [sg_A2 (fun z => hP ⟨by omega, by omega⟩)]
          exact hwx.2 P (fun z => hP ⟨z.1, by omega⟩)
      refine (xe_stands (P := q + 1) he1 ⟨by omega, by omega⟩ h2).mono (fun x5 s5 g5 => ?_)
      have hno := g5.no
      have hyes := g5.yes
      have q5 := g5.eq
      subst q5
      exact ⟨fun c5 _ _ => step _ ⟨fun z => absurd z (hno c5), fun _ => t1⟩, fun c5 _ _ => step _ ⟨fun _ => rfl, fun z => absurd (hyes c5) z⟩⟩
  · have hN0 : (eLp ϖ 0).1 = 1 := rfl
    refine ⟨sg_fr.rf, 0, fun _ => 0, fun _ => 0, rfl, Nat.zero_le _, ⟨rfl, fun p hp => by omega⟩, rfl, by rw [hN0]; exact Nat.zero_lt_one, al_start hpos, ⟨fun P h1 h2 => by omega, fun P _ => rfl⟩⟩
end LB
