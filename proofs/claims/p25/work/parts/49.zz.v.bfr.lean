/-! ===== best leaves what is told ===== -/
theorem am_SpI.nc {mi : Nat} {as : List Value} {s : sg_S} {Q : Int32 → sg_S → Prop} (h : am_SpI mi as s (fun _ s2 => s2 = s)) (hq : ∀ x, Q x s) : am_SpI mi as s Q := h.mono (fun x s2 e => by rw [e]; exact hq x)
section NC
variable {s : sg_S} {x1 x2 x3 x4 x5 : Int32}
theorem ncx_setOf : am_SpI 3 [.ref 18, .int x1] s (fun _ s2 => s2 = s) := by
  refine wp_XBook_setOf_ok (I7 := fun _ _ _ s1 => s1 = s) ?_ (Eq.refl s)
  intro l2 l3 l4 s1 hI
  subst hI
  unfold wp_XBook_setOf_7
  repeat' first
    | exact rfl
    | refine And.intro ?_ ?_
    | intro _
theorem ncx_set3 : am_SpI 4 [.ref 18, .int x1, .int x2, .int x3] s (fun _ s2 => s2 = s) := by
  refine wp_XBook_setOfAll_ok ?_
  unfold wp_XBook_setOfAll
  exact am_SpI.nc ncx_setOf (fun _ => am_SpI.nc ncx_setOf (fun _ => am_SpI.nc ncx_setOf (fun _ => rfl)))
theorem ncx_had : am_SpI 74 [.ref 1, .int x1, .int x2] s (fun _ s2 => s2 = s) := by
  refine wp_XRules_isHad_1_ok ?_
  unfold wp_XRules_isHad_1
  repeat' first
    | exact rfl
    | refine And.intro ?_ ?_
    | intro _
theorem ncx_next : am_SpI 75 [.ref 1, .int x1, .int x2, .int x3] s (fun _ s2 => s2 = s) := by
  refine wp_XRules_nextNumber_1_ok ?_
  unfold wp_XRules_nextNumber_1
  repeat' first
    | exact rfl
    | refine And.intro ?_ ?_
    | intro _
theorem ncx_run : am_SpI 77 [.ref 1, .int x1, .int x2, .int x3, .int x4] s (fun _ s2 => s2 = s) := by
  refine wp_XRules_isRunBroken_1_ok ?_
  unfold wp_XRules_isRunBroken_1
  repeat' first
    | exact rfl
    | refine And.intro ?_ ?_
    | intro _
theorem ncx_brk : am_SpI 76 [.ref 1, .int x1, .int x2, .int x3, .int x4] s (fun _ s2 => s2 = s) := by
  refine wp_XRules_isBrokenBy_1_ok ?_
  unfold wp_XRules_isBrokenBy_1
  repeat' first
    | exact rfl
    | refine And.intro ?_ ?_
    | refine am_SpI.nc ncx_run (fun _ => ?_)
    | intro _
theorem ncx_place : am_SpI 83 [.ref 28, .int x1] s (fun _ s2 => s2 = s) := by
  refine wp_XSheet_isPlace_ok ?_
  unfold wp_XSheet_isPlace
  repeat' first
    | exact rfl
    | refine And.intro ?_ ?_
    | intro _
theorem ncx_shared : am_SpI 87 [.ref 28, .int x1, .int x2] s (fun _ s2 => s2 = s) := by
  refine wp_XSheet_isWordShared_ok (I2 := fun _ s1 => s1 = s) (I22 := fun _ _ _ s1 => s1 = s) ?_ ?_ (Eq.refl s)
  · intro l3 s1 hI
    subst hI
    unfold wp_XSheet_isWordShared_2
    repeat' first
      | exact rfl
      | refine And.intro ?_ ?_
      | intro _
  · intro l3 l4 l5 s1 hI
    subst hI
    unfold wp_XSheet_isWordShared_22
    repeat' first
      | exact rfl
      | refine And.intro ?_ ?_
      | intro _
theorem ncx_again : am_SpI 86 [.ref 28, .int x1, .int x2] s (fun _ s2 => s2 = s) := by
  refine wp_XSheet_isAgain_ok (I8 := fun _ s1 => s1 = s) ?_ (Eq.refl s)
  intro l3 s1 hI
  subst hI
  unfold wp_XSheet_isAgain_8
  repeat' first
    | exact rfl
    | refine And.intro ?_ ?_
    | refine am_SpI.nc ncx_shared (fun _ => ?_)
    | intro _
theorem ncx_sum : am_SpI 117 [.ref 22, .int x1, .int x2] s (fun _ s2 => s2 = s) := by
  refine wp_XValues_sumOf_ok (I5 := fun _ _ s1 => s1 = s) (I15 := fun _ _ _ s1 => s1 = s) ?_ ?_ (Eq.refl s)
  · intro l3 l4 s1 hI
    subst hI
    unfold wp_XValues_sumOf_5
    repeat' first
      | exact rfl
      | refine And.intro ?_ ?_
      | intro _
  · intro l3 l4 l5 s1 hI
    subst hI
    unfold wp_XValues_sumOf_15
    repeat' first
      | exact rfl
      | refine And.intro ?_ ?_
      | intro _
theorem ncx_linked : am_SpI 116 [.ref 22, .int x1, .int x2] s (fun _ s2 => s2 = s) := by
  refine wp_XValues_areLinked_ok ?_
  unfold wp_XValues_areLinked
  repeat' first
    | exact rfl
    | refine And.intro ?_ ?_
    | refine am_SpI.nc ncx_sum (fun _ => ?_)
    | intro _
theorem ncx_isBroken : am_SpI 85 [.ref 28, .int x1, .int x2] s (fun _ s2 => s2 = s) := by
  refine wp_XSheet_isBroken_ok ?_
  unfold wp_XSheet_isBroken
  repeat' first
    | exact rfl
    | refine And.intro ?_ ?_
    | refine am_SpI.nc ncx_again (fun _ => ?_)
    | refine am_SpI.nc ncx_linked (fun _ => ?_)
    | refine am_SpI.nc ncx_had (fun _ => ?_)
    | refine am_SpI.nc ncx_brk (fun _ => ?_)
    | intro _
theorem ncx_first : am_SpI 84 [.ref 28, .int x1] s (fun _ s2 => s2 = s) := by
  refine wp_XSheet_firstBroken_ok (I12 := fun _ s1 => s1 = s) ?_ ?_
  · intro l2 s1 hI
    subst hI
    unfold wp_XSheet_firstBroken_12
    repeat' first
      | exact rfl
      | refine And.intro ?_ ?_
      | refine am_SpI.nc ncx_isBroken (fun _ => ?_)
      | intro _
  · unfold wp_XSheet_firstBroken
    repeat' first
      | exact rfl
      | refine And.intro ?_ ?_
      | refine am_SpI.nc ncx_place (fun _ => ?_)
      | intro _
/-- what X's best leaves alone -/
def bq_ (m : Nat) (s s2 : sg_S) : Prop := sg_fr [(58, 7), (58, 8)] [30, 32, 34, 60, 61, 62, 63] s s2 ∧ (∀ i, i ≤ m → s2.2.2.1 30 i = s.2.2.1 30 i) ∧ (∀ i, i < 3 * (m + 1) → s2.2.2.1 32 i = s.2.2.1 32 i) ∧ ∀ i, i < 12 * (m + 1) → s2.2.2.1 34 i = s.2.2.1 34 i
theorem bq_.rf {m : Nat} {s : sg_S} : bq_ m s s := ⟨sg_fr.rf, fun _ _ => rfl, fun _ _ => rfl, fun _ _ => rfl⟩
theorem bq_.tr {m : Nat} {s s1 s2 : sg_S} (h : bq_ m s s1) (g : bq_ m s1 s2) : bq_ m s s2 := ⟨h.1.tr g.1, fun i hi => (g.2.1 i hi).trans (h.2.1 i hi), fun i hi => (g.2.2.1 i hi).trans (h.2.2.1 i hi), fun i hi => (g.2.2.2 i hi).trans (h.2.2.2 i hi)⟩
/-- other arrays of its own -/
theorem bq_.uA {m : Nat} {s s1 : sg_S} {a k : Nat} {v : Int32} (h : bq_ m s s1) (ha : ([60, 61, 62, 63].contains a) = true) : bq_ m s (sg_uA s1 a k v) := by
  have hm := List.contains_iff_mem.mp ha
  have n1 : ∀ j : Nat, ¬ (30 = a ∧ j = k) := fun j c => by rw [← c.1] at hm; exact absurd hm (by decide)
  have n2 : ∀ j : Nat, ¬ (32 = a ∧ j = k) := fun j c => by rw [← c.1] at hm; exact absurd hm (by decide)
  have n3 : ∀ j : Nat, ¬ (34 = a ∧ j = k) := fun j c => by rw [← c.1] at hm; exact absurd hm (by decide)
  refine ⟨h.1.uA ?_, fun i hi => (sg_A2 (n1 i)).trans (h.2.1 i hi), fun i hi => (sg_A2 (n2 i)).trans (h.2.2.1 i hi), fun i hi => (sg_A2 (n3 i)).trans (h.2.2.2 i hi)⟩
  exact List.contains_iff_mem.mpr (List.mem_cons_of_mem _ (List.mem_cons_of_mem _ (List.mem_cons_of_mem _ hm)))
theorem bq_.uI {m : Nat} {s s1 : sg_S} {k : Nat} {v : Int32} (h : bq_ m s s1) (hk : ([(58, 7), (58, 8)].contains (58, k)) = true) : bq_ m s (sg_uI s1 58 k v) := ⟨h.1.uI hk, h.2⟩
theorem bqx_lay {m : Nat} (hR : (s.1 1 2).toInt ≤ 12) (hp : (m : Int) + 1 ≤ x1.toInt) : am_SpV 82 [.ref 28, .int x1, .int x2, .int x3, .int x4, .int x5] s (fun s2 => bq_ m s s2) := by
  have z1 : (Int32.ofInt 1).toInt = 1 := rfl
  have z2 : (Int32.ofInt 2).toInt = 2 := rfl
  have z3 : (Int32.ofInt 3).toInt = 3 := rfl
  have z12 : (Int32.ofInt 12).toInt = 12 := rfl
  refine wp_XSheet_lay_ok (I52 := fun l s1 => bq_ m s s1 ∧ x1.toInt < 49 ∧ 0 ≤ l.toInt) ?_ ?_
  · intro l s1 hI
    obtain ⟨h, h49, h0⟩ := hI
    have e12 : (s1.1 1 2).toInt ≤ 12 := by rw [h.1.i (by decide)]; exact hR
    unfold wp_XSheet_lay_52
    refine ⟨fun c _ _ => am_SpI.nc ncx_had (fun y => am_SpI.nc ncx_next (fun v _ _ => ?_)), fun _ => h⟩
    have e1 : (x1 * Int32.ofInt 12).toInt = x1.toInt * 12 := by rw [i32_mul (by rw [z12]; omega) (by rw [z12]; omega), z12]
    have e2 : (x1 * Int32.ofInt 12 + l).toInt = x1.toInt * 12 + l.toInt := by rw [i32_add (by omega) (by omega), e1]
    have ix : 12 * (m + 1) ≤ (x1 * Int32.ofInt 12 + l).toInt.toNat := by rw [e2]; omega
    refine ⟨⟨h.1.uA (by decide), fun i hi => (sg_A2 (fun c => absurd c.1 (by decide))).trans (h.2.1 i hi), fun i hi => (sg_A2 (fun c => absurd c.1 (by decide))).trans (h.2.2.1 i hi), fun i hi => (sg_A2 (fun c => by have := c.2; omega)).trans (h.2.2.2 i hi)⟩, h49, ?_⟩
    rw [i32_inc (c := 0) (by omega) (by omega)]
    omega
  · unfold wp_XSheet_lay
    refine am_SpI.nc ncx_place (fun y => ⟨fun _ => bq_.rf, fun _ _ h49 _ _ _ _ _ _ => ⟨?_, h49, by decide⟩⟩)
    have w0 : (x1 * Int32.ofInt 3).toInt = x1.toInt * 3 := by rw [i32_mul (by rw [z3]; omega) (by rw [z3]; omega), z3]
    have w1 : (x1 * Int32.ofInt 3 + Int32.ofInt 1).toInt = x1.toInt * 3 + 1 := by rw [i32_add (by omega) (by omega), w0, z1]
    have w2 : (x1 * Int32.ofInt 3 + Int32.ofInt 2).toInt = x1.toInt * 3 + 2 := by rw [i32_add (by omega) (by omega), w0, z2]
    rw [w0, w1, w2]
    refine ⟨(((sg_fr.rf.uA (by decide)).uA (by decide)).uA (by decide)).uA (by decide), fun i hi => ?_, fun i hi => ?_, fun i hi => ?_⟩
    · exact (sg_A2 (fun c => absurd c.1 (by decide))).trans ((sg_A2 (fun c => absurd c.1 (by decide))).trans ((sg_A2 (fun c => absurd c.1 (by decide))).trans (sg_A2 (fun c => by have := c.2; omega))))
    · exact (sg_A2 (fun c => by have := c.2; omega)).trans ((sg_A2 (fun c => by have := c.2; omega)).trans ((sg_A2 (fun c => by have := c.2; omega)).trans (sg_A2 (fun c => absurd c.1 (by decide)))))
    · exact (sg_A2 (fun c => absurd c.1 (by decide))).trans ((sg_A2 (fun c => absurd c.1 (by decide))).trans ((sg_A2 (fun c => absurd c.1 (by decide))).trans (sg_A2 (fun c => absurd c.1 (by decide)))))
theorem bqx_good {m : Nat} (hR : (s.1 1 2).toInt ≤ 12) (hm : (s.1 28 2).toInt = (m : Int)) (h48 : m ≤ 48) : am_SpI 111 [.ref 58, .int x1] s (fun _ s2 => bq_ m s s2) := by
  have z1 : (Int32.ofInt 1).toInt = 1 := rfl
  refine wp_XStore_isGood_ok (I9 := fun _ _ s1 => s1 = s ∧ 0 ≤ x1.toInt ∧ x1.toInt < 3) ?_ (fun a b => ⟨rfl, a, b⟩)
  intro l2 l3 s1 hI
  obtain ⟨rfl, h0, h3⟩ := hI
  unfold wp_XStore_isGood_9
  refine ⟨fun _ _ _ => ⟨fun _ => bq_.rf, fun _ => ⟨rfl, h0, h3⟩⟩, fun _ _ _ _ _ _ _ _ _ => ?_⟩
  have e1 : (s1.1 28 2 + Int32.ofInt 1).toInt = (m : Int) + 1 := by rw [i32_inc (c := 0) (by omega) (by omega), hm]
  have e2 : (s1.1 28 2 + Int32.ofInt 1 + x1).toInt = (m : Int) + 1 + x1.toInt := by rw [i32_add (by omega) (by omega), e1]
  refine (bqx_lay (m := m) hR (by rw [e2]; omega)).mono (fun s2 h2 => ?_)
  refine am_SpI.nc ncx_first (fun y => ?_)
  have lf : ∀ (k : Nat) (v : Int32), bq_ m s1 (sg_uA s2 63 k v) := fun k v => h2.uA (by decide)
  repeat' first
    | exact lf _ _
    | exact h2
    | refine am_SpI.nc ncx_sum (fun _ => ?_)
    | refine And.intro ?_ ?_
    | intro _
theorem bqx_keep {m : Nat} : am_SpV 112 [.ref 58, .int x1] s (fun s2 => bq_ m s s2) := by
  refine wp_XStore_keepIfBetter_ok (I37 := fun _ _ s1 => bq_ m s s1) ?_ ?_
  · intro l2 l3 s1 h
    unfold wp_XStore_keepIfBetter_37
    exact ⟨fun _ _ _ => h.uA (by decide), fun _ => h⟩
  · unfold wp_XStore_keepIfBetter
    exact fun _ _ => ⟨fun _ => (bq_.rf.uI (by decide)).uI (by decide), fun _ => ⟨fun _ => (bq_.rf.uI (by decide)).uI (by decide), fun _ => bq_.rf⟩⟩
theorem bqx_take {m : Nat} : am_SpV 110 [.ref 58] s (fun s2 => bq_ m s s2) := by
  refine wp_XStore_takeSets_ok (I2 := fun _ s1 => bq_ m s s1) ?_ bq_.rf
  intro l1 s1 h
  unfold wp_XStore_takeSets_2
  exact ⟨fun _ _ _ _ _ _ _ => am_SpI.nc ncx_set3 (fun v _ _ => h.uA (by decide)), fun _ => h⟩
theorem bqx_search {m : Nat} (hR : (s.1 1 2).toInt ≤ 12) (hm : (s.1 28 2).toInt = (m : Int)) (h48 : m ≤ 48) : am_SpV 109 [.ref 58, .int x1] s (fun s2 => bq_ m s s2) := by
  refine wp_XStore_search_ok (I35 := fun _ _ s1 => bq_ m s s1) ?_ ?_
  · intro l2 l3 s1 h
    unfold wp_XStore_search_35
    refine ⟨fun _ => ⟨fun _ => h, fun _ _ _ => ⟨fun _ => ?_, fun _ => h.uA (by decide)⟩⟩, fun _ => h⟩
    have h1 : bq_ m s (sg_uA s1 62 (l2.toInt.toNat) ((s1.2.2.1 62 (l2.toInt.toNat)) + (Int32.ofInt (1)))) := h.uA (by decide)
    refine (bqx_good (m := m) (by rw [h1.1.i (by decide)]; exact hR) (by rw [h1.1.i (by decide)]; exact hm) h48).mono (fun y s3 h3 => ?_)
    have h3 := h1.tr h3
    exact ⟨fun _ => h3, fun _ => ⟨fun _ => bqx_keep.mono (fun s4 h4 => h3.tr h4), fun _ _ _ => h3.uA (by decide)⟩⟩
  · unfold wp_XStore_search
    exact ⟨fun _ => bq_.rf, fun _ => bqx_take.mono (fun s2 h2 => h2.uA (by decide))⟩
theorem bqx_best {m : Nat} (hR : (s.1 1 2).toInt ≤ 12) (hm : (s.1 28 2).toInt = (m : Int)) (h48 : m ≤ 48) : am_SpI 142 [.ref 0, .int x1] s (fun _ s2 => bq_ m s s2) := by
  refine wp_X_best_ok ?_
  unfold wp_X_best
  refine wp_XStore_forgetBest_ok ?_
  unfold wp_XStore_forgetBest
  have h1 : bq_ m s (sg_uI s 58 7 (Int32.ofInt 0)) := bq_.rf.uI (by decide)
  refine ⟨fun _ => h1, fun _ => ⟨fun _ => h1, fun _ => ⟨fun _ => h1, fun _ => (bqx_search (m := m) (by exact hR) (by exact hm) h48).mono (fun s3 h3 => ?_)⟩⟩⟩
  exact ⟨fun _ => h1.tr h3, fun _ => h1.tr h3⟩
/-- M -/
theorem ncm_setOf : am_SpI 177 [.ref 64, .int x1] s (fun _ s2 => s2 = s) := by
  refine wp_M_setOf1_ok (I4 := fun _ _ s1 => s1 = s) ?_ (Eq.refl s)
  intro l2 l3 s1 hI
  subst hI
  unfold wp_M_setOf1_4
  repeat' first
    | exact rfl
    | refine And.intro ?_ ?_
    | intro _
theorem ncm_set3 : am_SpI 188 [.ref 64, .int x1, .int x2, .int x3] s (fun _ s2 => s2 = s) := by
  refine wp_M_setOf3_ok ?_
  unfold wp_M_setOf3
  repeat' first
    | exact rfl
    | refine And.intro ?_ ?_
    | refine am_SpI.nc ncm_setOf (fun _ => ?_)
    | intro _
theorem ncm_lik : am_SpI 180 [.ref 64, .int x1, .int x2] s (fun _ s2 => s2 = s) := by
  refine wp_M_likingOf_ok (I5 := fun _ _ s1 => s1 = s) (I17 := fun _ _ _ s1 => s1 = s) ?_ ?_ (Eq.refl s)
  · intro l3 l4 s1 hI
    subst hI
    unfold wp_M_likingOf_5
    repeat' first
      | exact rfl
      | refine And.intro ?_ ?_
      | intro _
  · intro l3 l4 l5 s1 hI
    subst hI
    unfold wp_M_likingOf_17
    repeat' first
      | exact rfl
      | refine And.intro ?_ ?_
      | intro _
theorem ncm_linked : am_SpI 190 [.ref 64, .int x1, .int x2] s (fun _ s2 => s2 = s) := by
  refine wp_M_areLinked_ok ?_
  unfold wp_M_areLinked
  repeat' first
    | exact rfl
    | refine And.intro ?_ ?_
    | refine am_SpI.nc ncm_lik (fun _ => ?_)
    | intro _
theorem ncm_in : am_SpI 168 [.int x1, .int x2, .int x3] s (fun _ s2 => s2 = s) := sm_in.mono (fun _ _ h => h.eq)
theorem ncm_again : am_SpI 191 [.ref 64, .int x1, .int x2, .int x3, .int x4, .int x5] s (fun _ s2 => s2 = s) := by
  refine wp_M_isAgain_ok (I25 := fun _ s1 => s1 = s) ?_ ?_
  · intro l6 s1 hI
    subst hI
    unfold wp_M_isAgain_25
    repeat' first
      | exact rfl
      | refine And.intro ?_ ?_
      | intro _
  · unfold wp_M_isAgain
    exact ⟨fun _ => rfl, fun _ => rfl⟩
theorem ncm_broken : am_SpI 189 [.ref 64, .int x1, .int x2] s (fun _ s2 => s2 = s) := by
  refine wp_M_broken_ok (I2 := fun _ s1 => s1 = s) (I28 := fun _ _ s1 => s1 = s) (I403 := fun _ _ s1 => s1 = s) ?_ ?_ ?_ (Eq.refl s)
  · intro l3 s1 hI
    subst hI
    unfold wp_M_broken_2
    repeat' first
      | exact rfl
      | refine And.intro ?_ ?_
      | intro _
  · intro l3 l4 s1 hI
    subst hI
    unfold wp_M_broken_28
    repeat' first
      | exact rfl
      | refine And.intro ?_ ?_
      | refine am_SpI.nc ncm_in (fun _ => ?_)
      | refine am_SpI.nc ncm_linked (fun _ => ?_)
      | intro _
  · intro l3 l6 s1 hI
    subst hI
    unfold wp_M_broken_403
    exact ⟨fun _ => rfl, fun _ => rfl⟩
theorem ncm_brokenBy : am_SpI 187 [.ref 64, .int x1, .int x2, .int x3, .int x4] s (fun _ s2 => s2 = s) := by
  refine wp_M_brokenBy_ok (I18 := fun _ _ s1 => s1 = s) ?_ ?_
  · intro l5 l6 s1 hI
    subst hI
    unfold wp_M_brokenBy_18
    repeat' first
      | exact rfl
      | refine And.intro ?_ ?_
      | refine am_SpI.nc ncm_again (fun _ => ?_)
      | intro _
  · unfold wp_M_brokenBy
    exact am_SpI.nc ncm_set3 (fun _ => am_SpI.nc ncm_broken (fun _ => rfl))
theorem fcm_along : am_SpV 186 [.ref 64, .int x1] s (fun s2 => sg_fr [] [82] s s2) := by
  refine wp_M_goesAlong_ok (I21 := fun _ s1 => sg_fr [] [82] s s1) (I46 := fun _ _ s1 => sg_fr [] [82] s s1) (I213 := fun _ s1 => sg_fr [] [82] s s1) ?_ ?_ ?_ ((sg_fr.rf.uA rfl).uA rfl)
  · intro l s1 f
    unfold wp_M_goesAlong_21
    exact ⟨fun _ _ _ => ⟨fun _ => f, fun _ => f⟩, fun _ => f⟩
  · intro l h s1 f
    have g : ∀ (k : Nat) (v : Int32), sg_fr [] [82] s (sg_uA s1 82 k v) := fun k v => f.uA rfl
    unfold wp_M_goesAlong_46
    repeat' first
      | exact g _ _
      | exact f
      | refine And.intro ?_ ?_
      | intro _
  · intro l s1 f
    exact f
theorem fcm_nothing : am_SpV 185 [.ref 64] s (fun s2 => sg_fr [] [82] s s2) := by
  refine wp_M_alongNothing_ok (I16 := fun _ s1 => sg_fr [] [82] s s1) ?_ ((sg_fr.rf.uA rfl).uA rfl)
  intro l s1 f
  have g : ∀ (k : Nat) (v : Int32), sg_fr [] [82] s (sg_uA s1 82 k v) := fun k v => f.uA rfl
  unfold wp_M_alongNothing_16
  repeat' first
    | exact g _ _
    | exact f
    | refine And.intro ?_ ?_
    | intro _
theorem fcm_sheet : am_SpV 184 [.ref 64] s (fun s2 => sg_fr [] [82] s s2) := by
  refine wp_M_alongSheet_ok (I6 := fun _ s1 => sg_fr [] [82] s s1) ?_ ?_
  · intro l s1 f
    unfold wp_M_alongSheet_6
    exact ⟨fun _ _ _ => fcm_along.mono (fun s2 g => f.tr g), fun _ => f⟩
  · unfold wp_M_alongSheet
    exact fcm_nothing.mono (fun s1 f => f)
theorem ncm_worns : am_SpI 183 [.ref 64] s (fun _ s2 => s2 = s) := by
  refine wp_M_worns_ok (I4 := fun _ _ s1 => s1 = s) ?_ (Eq.refl s)
  intro l1 l2 s1 hI
  subst hI
  unfold wp_M_worns_4
  repeat' first
    | exact rfl
    | refine And.intro ?_ ?_
    | intro _
def bz_ (m : Nat) (s s2 : sg_S) : Prop := sg_fr [(64, 60), (64, 61)] [82, 85, 97, 98, 99] s s2 ∧ ∀ i, i < 3 * m → s2.2.2.1 85 i = s.2.2.1 85 i
theorem bz_.rf {m : Nat} {s : sg_S} : bz_ m s s := ⟨sg_fr.rf, fun _ _ => rfl⟩
theorem bz_.tr {m : Nat} {s s1 s2 : sg_S} (h : bz_ m s s1) (g : bz_ m s1 s2) : bz_ m s s2 := ⟨h.1.tr g.1, fun i hi => (g.2 i hi).trans (h.2 i hi)⟩
theorem bz_.uA {m : Nat} {s s1 : sg_S} {a k : Nat} {v : Int32} (h : bz_ m s s1) (ha : ([82, 97, 98, 99].contains a) = true) : bz_ m s (sg_uA s1 a k v) := by
  have hm := List.contains_iff_mem.mp ha
  refine ⟨h.1.uA (List.contains_iff_mem.mpr ?_), fun i hi => (sg_A2 (fun c => by rw [← c.1] at hm; exact absurd hm (by decide))).trans (h.2 i hi)⟩
  rcases List.mem_cons.mp hm with rfl | hm
  · exact List.mem_cons_self
  · exact List.mem_cons_of_mem _ (List.mem_cons_of_mem _ hm)
theorem bz_.uI {m : Nat} {s s1 : sg_S} {k : Nat} {v : Int32} (h : bz_ m s s1) (hk : ([(64, 60), (64, 61)].contains (64, k)) = true) : bz_ m s (sg_uI s1 64 k v) := ⟨h.1.uI hk, h.2⟩
theorem bz_.al {m : Nat} {s s1 s2 : sg_S} (h : bz_ m s s1) (f : sg_fr [] [82] s1 s2) : bz_ m s s2 := h.tr ⟨f.le (by decide) (by decide), fun i _ => by rw [f.a rfl]⟩
theorem bzm_lays {m : Nat} {p : Int} (hp : x1.toInt = p) (h1 : (m : Int) ≤ p) (h2 : p ≤ 60) : am_SpV 192 [.ref 64, .int x1, .int x2, .int x3, .int x4] s (fun s2 => bz_ m s s2) := by
  have z1 : (Int32.ofInt 1).toInt = 1 := rfl
  have z2 : (Int32.ofInt 2).toInt = 2 := rfl
  have z3 : (Int32.ofInt 3).toInt = 3 := rfl
  have w0 : (Int32.ofInt 3 * x1).toInt = 3 * p := by rw [i32_mul (by rw [z3]; omega) (by rw [z3]; omega), z3, hp]
  have w1 : (Int32.ofInt 3 * x1 + Int32.ofInt 1).toInt = 3 * p + 1 := by rw [i32_add (by omega) (by omega), w0, z1]
  have w2 : (Int32.ofInt 3 * x1 + Int32.ofInt 2).toInt = 3 * p + 2 := by rw [i32_add (by omega) (by omega), w0, z2]
  refine wp_M_lays_ok ?_
  unfold wp_M_lays
  rw [w0, w1, w2]
  exact fun _ _ _ _ _ _ => ⟨((sg_fr.rf.uA (by decide)).uA (by decide)).uA (by decide), fun i hi => (sg_A2 (fun c => by have := c.2; omega)).trans ((sg_A2 (fun c => by have := c.2; omega)).trans (sg_A2 (fun c => by have := c.2; omega)))⟩
end NC
theorem bzm_tries {m : Nat} (h48 : m ≤ 48) : ∀ (d : Nat) (x1 x2 x3 : Int32) (s : sg_S), (s.1 64 40).toInt = (m : Int) → 0 ≤ x1.toInt ∧ x1.toInt ≤ 3 → 3 ≤ x1.toInt + (d : Int) → am_SpV 207 [.ref 64, .int x1, .int x2, .int x3] s (fun s2 => bz_ m s s2) := by
  intro d
  induction d with
  | zero =>
    intro x1 x2 x3 s hm hx hd
    have e1 : (s.1 64 40 + x1).toInt = (m : Int) + x1.toInt := by rw [i32_add (by omega) (by omega), hm]
    refine wp_M_tries_ok (I85 := fun _ _ s1 => bz_ m s s1) (I35 := fun _ s1 => bz_ m s s1) (I120 := fun _ _ s1 => bz_ m s s1) (I135 := fun _ _ _ _ s1 => bz_ m s s1) (I312 := fun _ _ _ _ s1 => bz_ m s s1) ?_ ?_ ?_ ?_ ?_ ?_
    · intro l4 l5 s1 h
      unfold wp_M_tries_85
      exact ⟨fun _ _ _ _ _ => h.uA (by decide), fun _ => h⟩
    · intro l4 s1 h
      unfold wp_M_tries_35
      exact ⟨fun _ _ _ => h.uA (by decide), fun _ => h⟩
    · intro l4 l5 s1 h
      unfold wp_M_tries_120
      exact ⟨fun _ => h, fun _ => h⟩
    · intro l4 l5 l6 l7 s1 h
      unfold wp_M_tries_135
      refine ⟨fun _ => ⟨fun _ _ _ => ⟨fun _ => h, fun _ => h⟩, fun _ => h⟩, fun _ _ _ _ _ _ _ => ⟨fun _ => am_SpI.nc ncm_brokenBy (fun y => ⟨fun _ => am_SpI.nc ncm_set3 (fun v => ⟨fun _ _ c => by omega, fun _ => am_SpI.nc ncm_lik (fun w _ c => by omega)⟩), fun _ => h⟩), fun _ => h⟩⟩
    · intro l4 l5 l11 l12 s1 h
      unfold wp_M_tries_312
      exact ⟨fun _ _ _ _ _ => h.uA (by decide), fun _ => h⟩
    · unfold wp_M_tries
      exact ⟨fun _ => ⟨fun _ => ⟨fun _ => (bz_.rf.uI (by decide)).uI (by decide), fun _ => bz_.rf⟩, fun _ => (bz_.rf.uI (by decide)).uI (by decide)⟩, fun _ => ⟨fun _ => bz_.rf, fun _ => bz_.rf⟩⟩
  | succ d ih =>
    intro x1 x2 x3 s hm hx hd
    have z1 : (Int32.ofInt 1).toInt = 1 := rfl
    have e1 : (s.1 64 40 + x1).toInt = (m : Int) + x1.toInt := by rw [i32_add (by omega) (by omega), hm]
    have e2 : (s.1 64 40 + x1 + Int32.ofInt 1).toInt = (m : Int) + x1.toInt + 1 := by rw [i32_add (by omega) (by omega), e1, z1]
    have e3 : (x1 + Int32.ofInt 1).toInt = x1.toInt + 1 := by rw [i32_add (by omega) (by omega), z1]
    refine wp_M_tries_ok (I85 := fun l4 _ s1 => bz_ m s s1 ∧ l4.toInt = (m : Int) + x1.toInt + 1) (I35 := fun _ s1 => bz_ m s s1) (I120 := fun l4 _ s1 => bz_ m s s1 ∧ l4.toInt = (m : Int) + x1.toInt + 1) (I135 := fun l4 _ _ _ s1 => bz_ m s s1 ∧ l4.toInt = (m : Int) + x1.toInt + 1) (I312 := fun l4 _ _ _ s1 => bz_ m s s1 ∧ l4.toInt = (m : Int) + x1.toInt + 1) ?_ ?_ ?_ ?_ ?_ ?_
    · intro l4 l5 s1 h
      unfold wp_M_tries_85
      exact ⟨fun _ _ _ _ _ => ⟨h.1.uA (by decide), h.2⟩, fun _ => h⟩
    · intro l4 s1 h
      unfold wp_M_tries_35
      exact ⟨fun _ _ _ => h.uA (by decide), fun _ => h⟩
    · intro l4 l5 s1 h
      unfold wp_M_tries_120
      exact ⟨fun _ => h, fun _ => h.1⟩
    · intro l4 l5 l6 l7 s1 h
      have e4 : (l4 - Int32.ofInt 1).toInt = (m : Int) + x1.toInt := by rw [i32_sub (by omega) (by omega), h.2, z1]; omega
      have go : ∀ (a b c v w : Int32), am_SpV 192 [.ref 64, .int (l4 - Int32.ofInt 1), .int a, .int b, .int c] (sg_uA s1 98 x1.toInt.toNat l5) (fun s7 => am_SpV 186 [.ref 64, .int v] s7 (fun s8 => x1.toInt < 3 → am_SpV 207 [.ref 64, .int (x1 + Int32.ofInt 1), .int x2, .int w] s8 (fun s9 => bz_ m s s9 ∧ l4.toInt = (m : Int) + x1.toInt + 1))) := by
        intro a b c v w
        refine (bzm_lays (m := m) e4 (by omega) (by omega)).mono (fun s7 h7 => fcm_along.mono (fun s8 h8 c3 => ?_))
        have h9 : bz_ m s s8 := ((h.1.uA (by decide)).tr h7).al h8
        exact (ih (x1 + Int32.ofInt 1) x2 w s8 (by rw [h9.1.i (by decide)]; exact hm) (by omega) (by omega)).mono (fun s9 h10 => ⟨h9.tr h10, h.2⟩)
      unfold wp_M_tries_135
      refine ⟨fun _ => ⟨fun _ _ _ => ⟨fun _ => h, fun _ => h⟩, fun _ => h⟩, fun _ _ _ _ _ _ _ => ⟨fun _ => am_SpI.nc ncm_brokenBy (fun y => ⟨fun _ => am_SpI.nc ncm_set3 (fun v => ⟨fun _ _ c => ?_, fun _ => am_SpI.nc ncm_lik (fun w _ c => ?_)⟩), fun _ => h⟩), fun _ => h⟩⟩
      · exact (go _ _ _ _ _).mono (fun s7 h7 => h7.mono (fun s8 h8 => h8 c))
      · exact (go _ _ _ _ _).mono (fun s7 h7 => h7.mono (fun s8 h8 => h8 c))
    · intro l4 l5 l11 l12 s1 h
      unfold wp_M_tries_312
      exact ⟨fun _ _ _ _ _ => ⟨h.1.uA (by decide), h.2⟩, fun _ => h⟩
    · unfold wp_M_tries
      exact ⟨fun _ => ⟨fun _ => ⟨fun _ => (bz_.rf.uI (by decide)).uI (by decide), fun _ => bz_.rf⟩, fun _ => (bz_.rf.uI (by decide)).uI (by decide)⟩, fun _ => ⟨fun _ => bz_.rf, fun _ => ⟨bz_.rf, e2⟩⟩⟩
theorem bzm_best {s : sg_S} {x1 : Int32} {m : Nat} (hm : (s.1 64 40).toInt = (m : Int)) (h48 : m ≤ 48) : am_SpI 206 [.ref 64, .int x1] s (fun _ s2 => bz_ m s s2) := by
  have z0 : (Int32.ofInt 0).toInt = 0 := rfl
  refine wp_M_best_ok ?_
  unfold wp_M_best
  refine am_SpI.nc ncm_in (fun y => ⟨fun _ => bz_.rf, fun _ => am_SpI.nc ncm_worns (fun w => ⟨fun _ => bz_.rf, fun _ => fcm_sheet.mono (fun s4 h4 => ?_)⟩)⟩)
  have h5 : bz_ m s s4 := (bz_.rf.uI (k := 60) (v := Int32.ofInt 0) (by decide)).al h4
  refine (bzm_tries h48 3 (Int32.ofInt 0) x1 (Int32.ofInt 0) s4 (by rw [h5.1.i (by decide)]; exact hm) (by rw [z0]; omega) (by rw [z0]; omega)).mono (fun s5 h6 => ?_)
  exact ⟨fun _ => h5.tr h6, fun _ => h5.tr h6⟩
/-- what is told stands -/
theorem cv_S_gen {s s1 : sg_S} {T : rp_T} {m : Nat} (hS : cv_S T m s) (g : sg_ag cf_S [29, 31, 33, 83, 84, 86, 87] [] s s1) (h30 : ∀ i, i ≤ m → s1.2.2.1 30 i = s.2.2.1 30 i) (h32 : ∀ i, i < 3 * (m + 1) → s1.2.2.1 32 i = s.2.2.1 32 i) (h34 : ∀ i, i < 12 * (m + 1) → s1.2.2.1 34 i = s.2.2.1 34 i) (h85 : ∀ i, i < 3 * m → s1.2.2.1 85 i = s.2.2.1 85 i) (h12 : T.2.2.1 ≤ 12) : cv_S T m s1 := by
  obtain ⟨z1, z2, z3, z4, z5, z6, z7, z8, z9⟩ := hS
  refine ⟨by rw [g.i (a := 28) (k := 2) rfl]; exact z1, by rw [g.i (a := 64) (k := 40) rfl]; exact z2, z3, fun v hv => ?_, fun k hk => ?_, by rw [g.a (a := 33) rfl]; exact z6, by rw [g.i (a := 28) (k := 3) rfl, g.a (a := 86) rfl]; exact z7, fun p k hp hk => ?_, by rw [g.a (a := 84) rfl]; exact z9⟩
  · rw [g.a (a := 29) rfl, g.a (a := 83) rfl, h30 (v + 1) (by omega), g.a (a := 84) rfl, g.a (a := 31) rfl, g.a (a := 87) rfl, g.a (a := 33) rfl, g.a (a := 86) rfl]
    exact z4 v hv
  · rw [h32 (k + 3) (by omega), h85 k hk]
    exact z5 k hk
  · rw [h34 (12 * p + k) (by omega), z8 p k hp hk]
    exact nb_congr p (fun v hv => (h30 (v + 1) (by omega)).symm)
theorem am_pv_best {h : am_H} {x1 : Int32} (hI : am_Iw h) : ∃ r1 r2 h1 h2, am_Do false 19 142 [.ref 0, .int x1] h (some (.int r1), h1) ∧ ab_hok ab_D0 h1 ∧ am_Do false 19 206 [.ref 64, .int x1] h1 (some (.int r2), h2) ∧ ab_hok ab_D0 h2 ∧ am_Iw h2 ∧ True := by
  obtain ⟨r1, h1, d1, i1, f1, -⟩ := am_uX_best (x1 := x1) hI.1
  obtain ⟨r2, h2, d2, i2, f2, -⟩ := am_uM_best (x1 := x1) i1
  refine ⟨r1, r2, h1, h2, d1, i1.1, d2, i2.1, ?_, trivial⟩
  obtain ⟨⟨hok, -⟩, s, rfl, hc, hv⟩ := hI
  obtain ⟨T, np, m, hT, hU, hV, hP, hS, hE, hD⟩ := id hv
  have hl := cv_len hok hU
  have hml := hS.2.2.1
  have h12 := hT.2.2.1
  obtain ⟨s1, rfl, p0, p1, p2, p3⟩ := d1.sI (bqx_best (m := m) (by rw [hU.2.2.1]; omega) hS.1 (by omega))
  obtain ⟨s2, rfl, q0, q1⟩ := d2.sI (bzm_best (m := m) (by rw [p0.i (by decide)]; exact hS.2.1) (by omega))
  have fg : sg_fr [(58, 7), (58, 8), (64, 60), (64, 61)] [30, 32, 34, 60, 61, 62, 63, 82, 85, 97, 98, 99] s s2 := (p0.le (by decide) (by decide)).tr (q0.le (by decide) (by decide))
  refine ⟨i2, s2, rfl, hc.ag (fg.ag (by decide) (by decide) (by decide)), T, np, m, hT, hU.ag (fg.ag (by decide) (by decide) (by decide)), hV.ag (fg.ag (by decide) (by decide) (by decide)), hP.ag (fg.ag (by decide) (by decide) (by decide)), cv_S_gen hS (fg.ag (by decide) (by decide) (by decide)) (fun i hi => ?_) (fun i hi => ?_) (fun i hi => ?_) (fun i hi => ?_) h12, hE.ag (fg.ag (by decide) (by decide) (by decide)), hD.ag (fg.ag (by decide) (by decide) (by decide))⟩
  · rw [q0.a (b := 30) (by decide)]; exact p1 i hi
  · rw [q0.a (b := 32) (by decide)]; exact p2 i hi
  · rw [q0.a (b := 34) (by decide)]; exact p3 i hi
  · rw [q1 i hi, p0.a (b := 85) (by decide)]
