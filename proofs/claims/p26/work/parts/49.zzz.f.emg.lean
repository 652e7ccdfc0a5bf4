/-! ===== ends: M goes from layer to layer ===== -/
def moE_ : List (Nat × Nat) := [(64, 55), (64, 56), (64, 57)]
def aoE_ : List Nat := [82, 89, 90, 91, 92, 93, 94, 95]
/-- M's state is that of the parameters -/
def mC_ (ϖ : ep_) (s : sg_S) : Prop := rm_RU ϖ.1 s ∧ s.2.2.1 81 = ϖ.2.1 ∧ (s.1 64 40).toInt = (ϖ.2.2.1 : Int) ∧ s.2.2.1 86 = ϖ.2.2.2.1 ∧ s.2.2.1 84 = ϖ.2.2.2.2.1 ∧ s.2.2.1 88 = ϖ.2.2.2.2.2.1 ∧ (s.1 64 46).toInt = (ϖ.2.2.2.2.2.2 : Int)
theorem mC_.fr {ϖ : ep_} {s s2 : sg_S} (h : mC_ ϖ s) (f : sg_fr moE_ aoE_ s s2) : mC_ ϖ s2 := by
  obtain ⟨h1, h2, h3, h4, h5, h6, h7⟩ := h
  refine ⟨?_, by rw [f.a (by decide)]; exact h2, by rw [f.i (by decide)]; exact h3, by rw [f.a (by decide)]; exact h4, by rw [f.a (by decide)]; exact h5, by rw [f.a (by decide)]; exact h6, by rw [f.i (by decide)]; exact h7⟩
  unfold rm_RU
  rw [f.i (by decide), f.i (by decide), f.i (by decide), f.i (by decide), f.i (by decide), f.a (by decide), f.a (by decide), f.a (by decide), f.a (by decide)]
  exact h1
theorem eSp_rng {ϖ : ep_} (hϖ : eP_ ϖ) : ∀ {p : Nat}, (p : Int) ≤ 49 → (∀ q, q < p → (eLp ϖ q).1 ≤ 400) → 0 ≤ eSp ϖ p ∧ eSp ϖ p ≤ 400 * (p : Int) := by
  intro p
  induction p with
  | zero => intro _ _; exact ⟨Int.le_refl _, Int.le_refl _⟩
  | succ p ih =>
    intro hp h
    have h1 := ih (by omega) (fun q hq => h q (by omega))
    have h2 := h p (by omega)
    show 0 ≤ eSp ϖ p + ((eLp ϖ p).1 : Int) ∧ eSp ϖ p + ((eLp ϖ p).1 : Int) ≤ 400 * ((p + 1 : Nat) : Int)
    omega
/-- the layers up to p stand; of the next one what is laid before the set t of the state k -/
def mE_ (ϖ : ep_) (p k t : Nat) (s : sg_S) : Prop := (∀ q, q ≤ p → (s.2.2.1 90 q).toInt = ((eLp ϖ q).1 : Int) ∧ (eLp ϖ q).1 ≤ 400) ∧ ((s.2.2.1 90 (p + 1)).toInt = ((ecp ϖ p k t).1 : Int) ∧ (ecp ϖ p k t).1 ≤ 400) ∧ (∀ q, q ≤ p → ∀ j, j < (eLp ϖ q).1 → ∀ i, i < 14 → s.2.2.1 89 ((400 * q + j) * 14 + i) = (eLp ϖ q).2 j i) ∧ (∀ j, j < (ecp ϖ p k t).1 → ∀ i, i < 14 → s.2.2.1 89 ((400 * (p + 1) + j) * 14 + i) = (ecp ϖ p k t).2 j i) ∧ (∀ q, q < p → ∀ j, j < (eLp ϖ q).1 → ∀ u, u < ecn_ ϖ (q + 1) → (s.2.2.1 91 ((400 * q + j) * 16 + u)).toInt = edp ϖ q j u) ∧ (∀ j, j < k → ∀ u, u < ecn_ ϖ (p + 1) → (s.2.2.1 91 ((400 * p + j) * 16 + u)).toInt = edp ϖ p j u) ∧ (∀ u, u < t → (s.2.2.1 91 ((400 * p + k) * 16 + u)).toInt = edp ϖ p k u) ∧ (s.1 64 56).toInt = eSp ϖ (p + 1) + ((ecp ϖ p k t).1 : Int) ∧ ∀ q, q ≤ p → ((s.2.2.1 93 q).toInt = 0 ↔ ¬ fd_ ϖ q)
theorem mE_.ag {ϖ : ep_} {p k t : Nat} {s s2 : sg_S} (h : mE_ ϖ p k t s) (h56 : s2.1 64 56 = s.1 64 56) (h89 : s2.2.2.1 89 = s.2.2.1 89) (h90 : s2.2.2.1 90 = s.2.2.1 90) (h91 : s2.2.2.1 91 = s.2.2.1 91) (h93 : s2.2.2.1 93 = s.2.2.1 93) : mE_ ϖ p k t s2 := by
  unfold mE_
  rw [h56, h89, h90, h91, h93]
  exact h
/-- the next set's end is written -/
theorem mE_st {ϖ : ep_} {p k t : Nat} {s s2 : sg_S} {x : Int32} (hϖ : eP_ ϖ) (h : mE_ ϖ p k t s) (hk : k < (eLp ϖ p).1) (ht : t < ecn_ ϖ (p + 1)) (hx : x.toInt = edp ϖ p k t) (h56 : (s2.1 64 56).toInt = eSp ϖ (p + 1) + ((ecp ϖ p k (t + 1)).1 : Int)) (h4 : (ecp ϖ p k (t + 1)).1 ≤ 400) (h90 : (s2.2.2.1 90 (p + 1)).toInt = ((ecp ϖ p k (t + 1)).1 : Int)) (h90b : ∀ q, q ≤ p → s2.2.2.1 90 q = s.2.2.1 90 q) (h89 : ∀ j, j < (ecp ϖ p k (t + 1)).1 → ∀ i, i < 14 → s2.2.2.1 89 ((400 * (p + 1) + j) * 14 + i) = (ecp ϖ p k (t + 1)).2 j i) (h89b : ∀ i, i < 400 * (p + 1) * 14 → s2.2.2.1 89 i = s.2.2.1 89 i) (h91 : s2.2.2.1 91 = s.2.2.1 91) (h93 : s2.2.2.1 93 = s.2.2.1 93) : mE_ ϖ p k (t + 1) (sg_uA s2 91 ((400 * p + k) * 16 + t) x) := by
  obtain ⟨g1, g2, g3, g4, g5, g6, g7, g8, g9⟩ := h
  have h16 := ecn_16 hϖ (P := p + 1)
  have hk4 := (g1 p (Nat.le_refl _)).2
  have o90 : (sg_uA s2 91 ((400 * p + k) * 16 + t) x).2.2.1 90 = s2.2.2.1 90 := by
    funext i
    exact sg_A2 (fun c => absurd c.1 (by decide))
  have o89 : (sg_uA s2 91 ((400 * p + k) * 16 + t) x).2.2.1 89 = s2.2.2.1 89 := by
    funext i
    exact sg_A2 (fun c => absurd c.1 (by decide))
  have o93 : (sg_uA s2 91 ((400 * p + k) * 16 + t) x).2.2.1 93 = s2.2.2.1 93 := by
    funext i
    exact sg_A2 (fun c => absurd c.1 (by decide))
  have o91 : ∀ i, ¬ i = (400 * p + k) * 16 + t → (sg_uA s2 91 ((400 * p + k) * 16 + t) x).2.2.1 91 i = s.2.2.1 91 i := fun i hi => (sg_A2 (fun c => hi c.2)).trans (by rw [h91])
  refine ⟨fun q hq => ?_, ⟨?_, h4⟩, fun q hq j hj i hi => ?_, fun j hj i hi => ?_, fun q hq j hj u hu => ?_, fun j hj u hu => ?_, fun u hu => ?_, h56, fun q hq => ?_⟩
  · rw [o90, h90b q hq]; exact g1 q hq
  · rw [o90]; exact h90
  · have := (g1 q hq).2
    rw [o89, h89b _ (by omega)]
    exact g3 q hq j hj i hi
  · rw [o89]; exact h89 j hj i hi
  · have := (g1 q (by omega)).2
    have := ecn_16 hϖ (P := q + 1)
    rw [o91 _ (by omega)]
    exact g5 q hq j hj u hu
  · rw [o91 _ (by omega)]
    exact g6 j hj u hu
  · by_cases e : u = t
    · rw [e, sg_A1]; exact hx
    · rw [o91 _ (by omega)]
      exact g7 u (by omega)
  · rw [o93, h93]; exact g9 q hq
theorem em_goes {ϖ : ep_} {s : sg_S} {x1 x2 : Int32} {p k : Nat} (hϖ : eP_ ϖ) (hC : mC_ ϖ s) (hE : mE_ ϖ p k 0 s) (h1 : x1.toInt = ((p + 1 : Nat) : Int)) (h2 : x2.toInt = (k : Int)) (hp : (p : Int) < ϖ.1.2.2.2.1) (hk : k < (eLp ϖ p).1) : am_SpI 198 [.ref 64, .int x1, .int x2] s (fun r s2 => sg_fr [(64, 56)] [82, 89, 90, 91] s s2 ∧ ((¬ r.toInt = 0 ∧ mE_ ϖ p (k + 1) 0 s2) ∨ (r.toInt = 0 ∧ 400 < (eLp ϖ (p + 1)).1 ∧ (s2.1 64 56).toInt = eSp ϖ (p + 1) + 401))) := by
  have hT := hϖ.1
  have h12 := hT.2.2.1
  have hl := hϖ.2.2.1
  have z1 : (Int32.ofInt 1).toInt = 1 := rfl
  have e1 : (x1 - Int32.ofInt 1).toInt = (p : Int) := by rw [i32_sub (by omega) (by omega), h1, z1]; omega
  have e1n : (x1 - Int32.ofInt 1).toInt.toNat = p := by omega
  have hk4 := (hE.1 p (Nat.le_refl _)).2
  obtain ⟨-, -, e16⟩ := e_i1 e1 h2 (by omega) (by omega)
  have h93 := hE.2.2.2.2.2.2.2.2 p (Nat.le_refl _)
  have fdp : fd_ ϖ (p + 1 - 1) ↔ fd_ ϖ p := by rw [Nat.add_sub_cancel]
  refine wp_M_goesOn_ok (I23 := fun l3 l4 s1 => l3.toInt = (ecn_ ϖ (p + 1) : Int) ∧ sg_fr [(64, 56)] [82, 89, 90, 91] s s1 ∧ ∃ t : Nat, l4.toInt = (t : Int) ∧ t ≤ ecn_ ϖ (p + 1) ∧ mE_ ϖ p k t s1) ?_ ?_
  · intro l3 l4 s1 hI
    obtain ⟨h3, f, t, h4, ht, hE1⟩ := hI
    have h16 := ecn_16 hϖ (P := p + 1)
    unfold wp_M_goesOn_23
    rw [h3, h4]
    refine ⟨fun c => ?_, fun c => ⟨f, Or.inl ⟨by decide, ?_⟩⟩⟩
    · have ht2 : t < ecn_ ϖ (p + 1) := by omega
      have hC1 := hC.fr (f.le (by decide) (by decide))
      refine (em_takes e1 h2 (by omega) (by omega)).mono (fun s3 h3' => ?_)
      obtain ⟨f3, g82⟩ := h3'
      have g82 : ∀ i, i < 14 → s3.2.2.1 82 i = (eLp ϖ p).2 k i := fun i hi => (g82 i hi).trans (hE1.2.2.1 p (Nat.le_refl _) k hk i hi)
      have hE3 : mE_ ϖ p k t s3 := hE1.ag (f3.i rfl) (f3.a rfl) (f3.a rfl) (f3.a rfl) (f3.a rfl)
      have f03 : sg_fr [(64, 56)] [82, 89, 90, 91] s s3 := f.tr (f3.le (by decide) (by decide))
      have hC3 := hC.fr (f03.le (by decide) (by decide))
      have hwf := ewf_all hϖ p (by omega) k hk
      have hcs := ecs_rng hϖ ht2
      have h93' : (s3.2.2.1 93 p).toInt = 0 ↔ ¬ fd_ ϖ p := by rw [f03.a rfl]; exact h93
      have hinc : (l4 + Int32.ofInt 1).toInt = ((t + 1 : Nat) : Int) := by
        rw [i32_inc (c := 0) (by omega) (by omega), h4]
        rfl
      have ix : (((Int32.ofInt 400 * (x1 - Int32.ofInt 1) + x2) * Int32.ofInt 16) + l4).toInt.toNat = (400 * p + k) * 16 + t := by
        rw [i32_add (by omega) (by omega), e16, h4]
        omega
      have hno := ewf_no hϖ (by omega) hwf
      -- the set is looked at, and goes on
      have look : ∀ cc : Int32, cc = ecs_ ϖ (p + 1) t → am_SpI 189 [.ref 64, .int cc, .int x1] s3 (fun r s4 => s4 = s3 ∧ (r.toInt = -1 ↔ eok_ ϖ ((eLp ϖ p).2 k) (ecs_ ϖ (p + 1) t) (p + 1))) := by
        intro cc hcc
        refine (sm_broken (K := ϖ.1.1) hC3.1 hϖ.2.1 rfl h12 hT.1 hC3.1.1 (by rw [hC3.2.1]; exact hϖ.2.2.2.1) hC3.1.2.2.2.1 (by omega) h1 (by omega) (fun j hj => by rw [g82 (2 + j) (by omega)]; exact hno j hj)).mono (fun r s4 h4' => ?_)
        obtain ⟨e4, h4'⟩ := h4'
        refine ⟨e4, (fb_m1 h4').trans ?_⟩
        rw [hC3.2.1, g82 0 (by omega), g82 1 (by omega), hcc]
        constructor
        · intro z j hj z2
          refine z j hj ?_
          rw [g82 (2 + j) (by omega)]
          exact z2
        · intro z j hj z2
          refine z j hj ?_
          rw [g82 (2 + j) (by omega)] at z2
          exact z2
      have go : ∀ cc : Int32, cc = ecs_ ϖ (p + 1) t → eok_ ϖ ((eLp ϖ p).2 k) (ecs_ ϖ (p + 1) t) (p + 1) → am_SpV 186 [.ref 64, .int cc] s3 (fun s5 => am_SpI 200 [.ref 64, .int x1] s5 (fun x6 s6 => (x6.toInt = -1 → sg_fr [(64, 56)] [82, 89, 90, 91] s s6 ∧ ((¬ (Int32.ofInt 0).toInt = 0 ∧ mE_ ϖ p (k + 1) 0 s6) ∨ ((Int32.ofInt 0).toInt = 0 ∧ 400 < (eLp ϖ (p + 1)).1 ∧ (s6.1 64 56).toInt = eSp ϖ (p + 1) + 401))) ∧ (¬ x6.toInt = -1 → mE_ ϖ p k (t + 1) (sg_uA s6 91 ((400 * p + k) * 16 + t) x6) ∧ sg_fr [(64, 56)] [82, 89, 90, 91] s (sg_uA s6 91 ((400 * p + k) * 16 + t) x6)))) := by
        intro cc hcc hok
        refine (em_along hϖ hC3.1 (by omega) hwf g82).mono (fun s5 h5 => ?_)
        obtain ⟨f5, g5⟩ := h5
        rw [hcc] at g5
        have hE5 : mE_ ϖ p k t s5 := hE3.ag (f5.i rfl) (f5.a rfl) (f5.a rfl) (f5.a rfl) (f5.a rfl)
        have f05 : sg_fr [(64, 56)] [82, 89, 90, 91] s s5 := f03.tr (f5.le (by decide) (by decide))
        obtain ⟨q1, ⟨q2, q2b⟩, q3, q4, q5, q6, q7, q8, q9⟩ := id hE5
        refine (em_finds (L := ecp ϖ p k t) (w := enx_ ϖ ((eLp ϖ p).2 k) (ecs_ ϖ (p + 1) t)) h1 (by omega) q2b q2 q4 g5).mono (fun x6 s6 h6 => ?_)
        obtain ⟨a1, a2⟩ := h6
        by_cases cf : ef_ (ecp ϖ p k t) (enx_ ϖ ((eLp ϖ p).2 k) (ecs_ ϖ (p + 1) t)) < (ecp ϖ p k t).1
        · obtain ⟨b1, b2⟩ := a1 cf
          subst b2
          have ees : es_ (eok_ ϖ ((eLp ϖ p).2 k) (ecs_ ϖ (p + 1) t) (p + 1)) (ecp ϖ p k t) (enx_ ϖ ((eLp ϖ p).2 k) (ecs_ ϖ (p + 1) t)) = (ecp ϖ p k t, (ef_ (ecp ϖ p k t) (enx_ ϖ ((eLp ϖ p).2 k) (ecs_ ϖ (p + 1) t)) : Int)) := es_old hok cf
          have eec : ecp ϖ p k (t + 1) = ecp ϖ p k t := ec_succ.trans (congrArg Prod.fst ees)
          have eed : edp ϖ p k t = (ef_ (ecp ϖ p k t) (enx_ ϖ ((eLp ϖ p).2 k) (ecs_ ϖ (p + 1) t)) : Int) := congrArg Prod.snd ees
          refine ⟨fun z => by omega, fun _ => ⟨mE_st hϖ hE5 hk ht2 (by rw [eed]; exact b1) (by rw [eec]; exact q8) (by rw [eec]; exact q2b) (by rw [eec]; exact q2) (fun _ _ => rfl) (by rw [eec]; exact q4) (fun _ _ => rfl) rfl rfl, f05.uA rfl⟩⟩
        · have ees : es_ (eok_ ϖ ((eLp ϖ p).2 k) (ecs_ ϖ (p + 1) t) (p + 1)) (ecp ϖ p k t) (enx_ ϖ ((eLp ϖ p).2 k) (ecs_ ϖ (p + 1) t)) = (ea_ (ecp ϖ p k t) (enx_ ϖ ((eLp ϖ p).2 k) (ecs_ ϖ (p + 1) t)), ((ecp ϖ p k t).1 : Int)) := es_new hok cf
          have eec : ecp ϖ p k (t + 1) = ea_ (ecp ϖ p k t) (enx_ ϖ ((eLp ϖ p).2 k) (ecs_ ϖ (p + 1) t)) := ec_succ.trans (congrArg Prod.fst ees)
          have eec1 : (ecp ϖ p k (t + 1)).1 = (ecp ϖ p k t).1 + 1 := by rw [eec]; rfl
          have eed : edp ϖ p k t = ((ecp ϖ p k t).1 : Int) := congrArg Prod.snd ees
          have hbig := (ec_eg (ok := eok_ ϖ) (nxt := enx_ ϖ) (cn := ecn_ ϖ) (cs := ecs_ ϖ) (v0 := ev0_ ϖ) (p := p) (k := k) (t := t + 1) hk (by omega)).1
          have hbig : (ecp ϖ p k (t + 1)).1 ≤ (eLp ϖ (p + 1)).1 := hbig
          obtain ⟨c400, clt⟩ := a2 cf
          by_cases c4 : (ecp ϖ p k t).1 = 400
          · obtain ⟨b1, b2⟩ := c400 c4
            have hS := eSp_rng hϖ (p := p + 1) (by omega) (fun q hq => (q1 q (by omega)).2)
            have i56 : (s5.1 64 56 + Int32.ofInt 1).toInt = eSp ϖ (p + 1) + 401 := by rw [i32_inc (c := 0) (by omega) (by omega), q8, c4]; omega
            refine ⟨fun _ => ⟨by rw [b2]; exact f05.uI rfl, Or.inr ⟨rfl, by omega, ?_⟩⟩, fun z => absurd b1 z⟩
            rw [b2]
            exact i56
          · obtain ⟨b1, f6, b56, b90, b89, b89b⟩ := clt (by omega)
            have hS := eSp_rng hϖ (p := p + 1) (by omega) (fun q hq => (q1 q (by omega)).2)
            refine ⟨fun z => by omega, fun _ => ⟨mE_st hϖ hE5 hk ht2 (by rw [eed]; exact b1) ?_ (by omega) ?_ (fun q hq => ?_) (fun j hj i hi => ?_) (fun i hi => b89b i (by omega)) (f6.a rfl) (f6.a rfl), (f05.tr (f6.le (by decide) (by decide))).uA rfl⟩⟩
            · rw [b56, i32_inc (c := 0) (by omega) (by omega), q8, eec1]
              omega
            · rw [b90]
              show (if p + 1 = p + 1 then Int32.ofInt (((ecp ϖ p k t).1 : Int) + 1) else _).toInt = _
              rw [if_pos rfl, am_oi (by omega) (by omega), eec1]
              omega
            · rw [b90]
              show (if q = p + 1 then _ else s5.2.2.1 90 q) = _
              rw [if_neg (by omega)]
            · rw [eec]
              show _ = (if j = (ecp ϖ p k t).1 then enx_ ϖ ((eLp ϖ p).2 k) (ecs_ ϖ (p + 1) t) else (ecp ϖ p k t).2 j) i
              by_cases ej : j = (ecp ϖ p k t).1
              · rw [if_pos ej, ej]
                exact b89 i hi
              · rw [if_neg ej, b89b _ (by omega)]
                exact q4 j (by omega) i hi
      have stay : ¬ eok_ ϖ ((eLp ϖ p).2 k) (ecs_ ϖ (p + 1) t) (p + 1) → mE_ ϖ p k (t + 1) (sg_uA s3 91 ((400 * p + k) * 16 + t) (Int32.ofInt (-1))) ∧ sg_fr [(64, 56)] [82, 89, 90, 91] s (sg_uA s3 91 ((400 * p + k) * 16 + t) (Int32.ofInt (-1))) := by
        intro hno'
        have ees : es_ (eok_ ϖ ((eLp ϖ p).2 k) (ecs_ ϖ (p + 1) t) (p + 1)) (ecp ϖ p k t) (enx_ ϖ ((eLp ϖ p).2 k) (ecs_ ϖ (p + 1) t)) = (ecp ϖ p k t, -1) := es_no hno'
        have eec : ecp ϖ p k (t + 1) = ecp ϖ p k t := ec_succ.trans (congrArg Prod.fst ees)
        have eed : edp ϖ p k t = -1 := congrArg Prod.snd ees
        obtain ⟨q1, ⟨q2, q2b⟩, q3, q4, q5, q6, q7, q8, q9⟩ := id hE3
        exact ⟨mE_st hϖ hE3 hk ht2 (by rw [eed]; rfl) (by rw [eec]; exact q8) (by rw [eec]; exact q2b) (by rw [eec]; exact q2) (fun _ _ => rfl) (by rw [eec]; exact q4) (fun _ _ => rfl) rfl rfl, f03.uA rfl⟩
      intro _ _
      rw [e1n, ix]
      have e4n : l4.toInt.toNat = t := by omega
      refine ⟨fun c93 _ _ => ?_, fun c93 => ?_⟩
      · have hcc : s3.2.2.1 88 (t : Int).toNat = ecs_ ϖ (p + 1) t := by
          rw [hC3.2.2.2.2.2.1, Int.toNat_natCast, ecs_n (fun z => (h93'.mp c93) (fdp.mp z))]
        refine (look _ hcc).mono (fun x4 s4 h4' => ?_)
        obtain ⟨rfl, h4'⟩ := h4'
        refine ⟨fun c4 => ?_, fun c4 _ _ => ?_⟩
        · refine (go _ hcc (h4'.mp c4)).mono (fun s5 h5 => h5.mono (fun x6 s6 h6 => ?_))
          refine ⟨fun c6 => h6.1 c6, fun c6 _ _ => ?_⟩
          exact ⟨h3, (h6.2 c6).2, t + 1, hinc, by omega, (h6.2 c6).1⟩
        · have q := stay (fun z => c4 (h4'.mpr z))
          exact ⟨h3, q.2, t + 1, hinc, by omega, q.1⟩
      · have hcc : s3.2.2.1 84 p = ecs_ ϖ (p + 1) t := by
          have hf : fd_ ϖ p := Classical.byContradiction (fun z => c93 (h93'.mpr z))
          rw [hC3.2.2.2.2.1, ecs_y (fdp.mpr hf), Nat.add_sub_cancel]
        refine (look _ hcc).mono (fun x4 s4 h4' => ?_)
        obtain ⟨rfl, h4'⟩ := h4'
        refine ⟨fun c4 => ?_, fun c4 _ _ => ?_⟩
        · refine (go _ hcc (h4'.mp c4)).mono (fun s5 h5 => h5.mono (fun x6 s6 h6 => ?_))
          refine ⟨fun c6 => h6.1 c6, fun c6 _ _ => ?_⟩
          exact ⟨h3, (h6.2 c6).2, t + 1, hinc, by omega, (h6.2 c6).1⟩
        · have q := stay (fun z => c4 (h4'.mpr z))
          exact ⟨h3, q.2, t + 1, hinc, by omega, q.1⟩
    · have et : t = ecn_ ϖ (p + 1) := by omega
      obtain ⟨q1, q2, q3, q4, q5, q6, q7, q8, q9⟩ := hE1
      rw [et] at q2 q4 q7 q8
      refine ⟨q1, q2, q3, q4, q5, fun j hj u hu => ?_, fun u hu => absurd hu (Nat.not_lt_zero u), q8, q9⟩
      by_cases ej : j = k
      · rw [ej]; exact q7 u hu
      · exact q6 j (by omega) u hu
  · unfold wp_M_goesOn
    rw [e1n]
    refine fun _ _ => ⟨fun c => ⟨?_, sg_fr.rf, 0, rfl, Nat.zero_le _, hE⟩, fun c => ⟨?_, sg_fr.rf, 0, rfl, Nat.zero_le _, hE⟩⟩
    · rw [hC.2.2.2.2.2.2, ecn_n (fun z => (h93.mp c) (fdp.mp z))]
    · have hf : fd_ ϖ p := Classical.byContradiction (fun z => c (h93.mpr z))
      rw [ecn_y (fdp.mpr hf)]
      rfl
