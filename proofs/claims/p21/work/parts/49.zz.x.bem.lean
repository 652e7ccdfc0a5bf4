/-! ===== best: M's tries ===== -/
theorem fb_m1 {P : Nat → Prop} {R : Nat} {r : Int} (h : fb_ P R r) : r = -1 ↔ ∀ k, k < R → ¬ P k := by
  rcases h with ⟨a1, a2⟩ | ⟨i, a1, a2, a3, a4⟩
  · exact ⟨fun _ => a2, fun _ => a1⟩
  · exact ⟨fun c => by omega, fun c => absurd a3 (c i a2)⟩
theorem fo_step {g : Nat → ac_ → ac_} {n v : Nat} {b : ac_} (h : v < n) : fo_ g (n - v) v b = fo_ g (n - (v + 1)) (v + 1) (g v b) := by
  rw [show n - v = n - (v + 1) + 1 by omega]
  rfl
theorem vi_succ {p : Nat → Nat} {k v : Nat} : vi_ p (k + 1) v ↔ vi_ p k v ∨ p k = v := by
  constructor
  · rintro ⟨j, h1, h2⟩
    by_cases e : j = k
    · exact Or.inr (by rw [← e]; exact h2)
    · exact Or.inl ⟨j, by omega, h2⟩
  · rintro (⟨j, h1, h2⟩ | h)
    · exact ⟨j, by omega, h2⟩
    · exact ⟨k, by omega, h⟩
def moM_ : List (Nat × Nat) := [(64, 60), (64, 61)]
def aoM_ : List Nat := [82, 85, 97, 98, 99]
/-- the sets of the stored verses, by M -/
def mS_ (sB : sg_S) (ne : Nat) : Nat → Int32 := fun v => g3_ (sB.2.2.1 78) (sB.2.2.1 79) (sB.2.2.1 80) ne (sB.1 64 33).toInt (sB.2.2.1 96 (3 * v)) (sB.2.2.1 96 (3 * v + 1)) (sB.2.2.1 96 (3 * v + 2))
def mB_ (T : rp_T) (sB : sg_S) (n ne m0 : Nat) : Prop := rp_ok T ∧ rk_ T ∧ rm_RU T sB ∧ ((sB.1 64 34).toInt = (ne : Int) ∧ ne ≤ 100) ∧ (1 ≤ T.2.2.2.1 ∧ T.2.2.2.1 ≤ 48) ∧ ((sB.1 64 40).toInt = (m0 : Int) ∧ (m0 : Int) ≤ T.2.2.2.1) ∧ ((sB.1 64 58).toInt = (n : Int) ∧ n ≤ 20) ∧ (∀ i, i < 64 → -9 ≤ (sB.2.2.1 81 i).toInt ∧ (sB.2.2.1 81 i).toInt ≤ 9) ∧ (∀ i, i < m0 → 0 ≤ (sB.2.2.1 84 i).toInt ∧ (sB.2.2.1 84 i).toInt < (rp_kset T.1).toInt) ∧ ∀ v, v < n → 0 ≤ (mS_ sB ne v).toInt ∧ (mS_ sB ne v).toInt < (rp_kset T.1).toInt
/-- the sheet and the tries, by M -/
abbrev mF_ (sB : sg_S) (ne m0 : Nat) (p : Nat → Nat) : Nat → Int32 := fp_ (sB.2.2.1 84) m0 (mS_ sB ne) p
abbrev mW_ (sB : sg_S) (m0 : Nat) (p : Nat → Nat) : Nat → Int32 := wq_ (sB.2.2.1 85) m0 (sB.2.2.1 96) p
abbrev mG_ (T : rp_T) (sB : sg_S) (ne m0 : Nat) : (Nat → Nat) → Nat → Nat → Prop := bg_ T (sB.2.2.1 81) (sB.2.2.1 84) (sB.2.2.1 85) (sB.2.2.1 96) (mS_ sB ne) m0
abbrev mM_ (T : rp_T) (sB : sg_S) (ne m0 : Nat) : (Nat → Nat) → Nat → Nat → Int := bo2_ T (sB.2.2.1 81) (sB.2.2.1 84) (mS_ sB ne) m0
def mq_ (T : rp_T) (sB : sg_S) (ne m0 d : Nat) (p : Nat → Nat) (s : sg_S) : Prop := s.2.2.1 82 0 = a0_ (mF_ sB ne m0 p) (m0 + d) ∧ s.2.2.1 82 1 = a1_ (mF_ sB ne m0 p) (m0 + d) ∧ (∀ k, k < T.2.2.1 → (s.2.2.1 82 (2 + k)).toInt = nb_ (rp_rl T k) (mF_ sB ne m0 p) (m0 + d)) ∧ (∀ k, k < 3 * (m0 + d) → s.2.2.1 85 k = mW_ sB m0 p k) ∧ ∀ j, j < d → (s.2.2.1 98 j).toInt = (p j : Int)
def mf_ (m0 d : Nat) (s s2 : sg_S) : Prop := sg_fr moM_ aoM_ s s2 ∧ (∀ i, i < 14 → s2.2.2.1 82 i = s.2.2.1 82 i) ∧ (∀ i, i < 3 * (m0 + d) → s2.2.2.1 85 i = s.2.2.1 85 i) ∧ (∀ j, j < d → s2.2.2.1 98 j = s.2.2.1 98 j) ∧ ∀ i, i < 14 * d → s2.2.2.1 99 i = s.2.2.1 99 i
theorem mf_.rf {m0 d : Nat} {s : sg_S} : mf_ m0 d s s := ⟨sg_fr.rf, fun _ _ => rfl, fun _ _ => rfl, fun _ _ => rfl, fun _ _ => rfl⟩
def ame_ (m : Nat) (s : sg_S) (a : ac_) : Prop := (a.1 = false → (s.1 64 60).toInt = 0) ∧ (a.1 = true → (s.1 64 60).toInt = (m : Int) ∧ (s.1 64 61).toInt = a.2)
theorem ame_.eq {m : Nat} {s s2 : sg_S} {a : ac_} (h : ame_ m s a) (h1 : s2.1 64 60 = s.1 64 60) (h2 : s2.1 64 61 = s.1 64 61) : ame_ m s2 a := by
  unfold ame_
  rw [h1, h2]
  exact h
section BT
variable {sB s : sg_S} {T : rp_T} {n ne m0 d : Nat} {p : Nat → Nat}
theorem mq_.fr {s2 : sg_S} (h : mq_ T sB ne m0 d p s) (g : mf_ m0 d s s2) (h12 : T.2.2.1 ≤ 12) : mq_ T sB ne m0 d p s2 := by
  obtain ⟨h1, h2, h3, h4, h5⟩ := h
  obtain ⟨-, g1, g2, g3, -⟩ := g
  refine ⟨by rw [g1 0 (by omega)]; exact h1, by rw [g1 1 (by omega)]; exact h2, fun k hk => ?_, fun k hk => ?_, fun j hj => ?_⟩
  · rw [g1 (2 + k) (by omega)]; exact h3 k hk
  · rw [g2 k hk]; exact h4 k hk
  · rw [g3 j hj]; exact h5 j hj
theorem rm_RU.frM {s s2 : sg_S} (h : rm_RU T s) (f : sg_fr moM_ aoM_ s s2) : rm_RU T s2 := by
  unfold rm_RU
  rw [f.i (by decide), f.i (by decide), f.i (by decide), f.i (by decide), f.i (by decide), f.a (by decide), f.a (by decide), f.a (by decide), f.a (by decide)]
  exact h
/-- the sets of the sheet and the tries are of the kinds -/
theorem mF_rng (hB : mB_ T sB n ne m0) (hp : ∀ j, j < d → p j < n) : ∀ i, i < m0 + d → 0 ≤ (mF_ sB ne m0 p i).toInt ∧ (mF_ sB ne m0 p i).toInt < (rp_kset T.1).toInt := by
  obtain ⟨-, -, -, -, -, -, -, -, b8, b9⟩ := hB
  intro i hi
  show 0 ≤ (if i < m0 then sB.2.2.1 84 i else mS_ sB ne (p (i - m0))).toInt ∧ (if i < m0 then sB.2.2.1 84 i else mS_ sB ne (p (i - m0))).toInt < _
  by_cases c : i < m0
  · rw [if_pos c]; exact b8 i c
  · rw [if_neg c]; exact b9 _ (hp _ (by omega))
theorem mN_rng (hB : mB_ T sB n ne m0) (hq : mq_ T sB ne m0 d p s) (h48 : m0 + d ≤ 48) : ∀ k, k < T.2.2.1 → 0 ≤ (s.2.2.1 82 (2 + k)).toInt ∧ (s.2.2.1 82 (2 + k)).toInt ≤ 48 := by
  intro k hkR
  obtain ⟨r1, r2, r3⟩ := hB.2.1 k hkR
  rw [hq.2.2.1 k hkR]
  exact no_le r1.1 r2.2 (p := ((m0 + d : Nat) : Int)) (by omega) (by omega) (nb_no r2.1 (m0 + d))
theorem btm_look {v : Nat} {x4 : Int32} (hB : mB_ T sB n ne m0) (fB : sg_fr moM_ aoM_ sB s) (hq : mq_ T sB ne m0 d p s) (h4 : x4.toInt = ((m0 + d + 1 : Nat) : Int)) (hl : ((m0 + d + 1 : Nat) : Int) ≤ T.2.2.2.1) : am_SpI 187 [.ref 64, .int (sB.2.2.1 96 (3 * v)), .int (sB.2.2.1 96 (3 * v + 1)), .int (sB.2.2.1 96 (3 * v + 2)), .int x4] s (fun r s2 => s2 = s ∧ (r.toInt = -1 ↔ mG_ T sB ne m0 p d v)) := by
  obtain ⟨hT, hk, hV, ⟨hne, h100⟩, hlen, ⟨hm, hml⟩, ⟨hn, h20⟩, ht, b8, b9⟩ := id hB
  have h12 := hT.2.2.1
  have hV1 := hV.frM fB
  have ht1 : ∀ i, i < 64 → -9 ≤ (s.2.2.1 81 i).toInt ∧ (s.2.2.1 81 i).toInt ≤ 9 := by
    rw [fB.a (by decide)]
    exact ht
  refine (sm_brokenBy (K := T.1) (n := ne) hV1 hk rfl h12 hT.1 hV1.1 ht1 hV1.2.2.2.1 (by omega) h4 (by omega) (mN_rng hB hq (by omega)) (by rw [fB.i (by decide)]; exact hne) h100).mono (fun r s2 h2 => ?_)
  obtain ⟨h0, h2⟩ := h2
  refine ⟨h0, (fb_m1 h2).trans ?_⟩
  obtain ⟨q1, q2, q3, q4, q5⟩ := hq
  rw [fB.a (b := 81) (by decide), fB.a (b := 78) (by decide), fB.a (b := 79) (by decide), fB.a (b := 80) (by decide), fB.i (b := 64) (j := 33) (by decide), q1, q2]
  have hw : ∀ k : Nat, (k : Int) < 3 * (((m0 + d + 1 : Nat) : Int) - 1) → s.2.2.1 85 k = mW_ sB m0 p k := fun k hk => q4 k (by omega)
  constructor
  · intro z
    refine ⟨hl, fun k hk z2 => z k hk ?_⟩
    rw [q3 k hk]
    exact (bm_cg hw).mpr z2
  · intro z k hk z2
    rw [q3 k hk] at z2
    exact z.2 k hk ((bm_cg hw).mp z2)
end BT
/-- a place of the loop over the stored verses -/
def bi_ (m0 m n d : Nat) (s : sg_S) (SQ : Nat → ac_ → ac_) (tg : ac_) (v : Nat) (s1 : sg_S) : Prop := ∃ b : ac_, mf_ m0 d s s1 ∧ (∀ j, j < 14 → s1.2.2.1 99 (14 * d + j) = s.2.2.1 82 j) ∧ ame_ m s1 b ∧ fo_ SQ (n - v) v b = tg
def bj_ (m0 m n d : Nat) (s : sg_S) (SQ : Nat → ac_ → ac_) (tg : ac_) (v i : Nat) (s1 : sg_S) : Prop := ∃ b : ac_, sg_fr moM_ aoM_ s s1 ∧ (∀ j, j < i → s1.2.2.1 82 j = s.2.2.1 82 j) ∧ (∀ j, j < 3 * (m0 + d) → s1.2.2.1 85 j = s.2.2.1 85 j) ∧ (∀ j, j < d → s1.2.2.1 98 j = s.2.2.1 98 j) ∧ (∀ j, j < 14 * d → s1.2.2.1 99 j = s.2.2.1 99 j) ∧ (∀ j, j < 14 → s1.2.2.1 99 (14 * d + j) = s.2.2.1 82 j) ∧ ame_ m s1 b ∧ fo_ SQ (n - (v + 1)) (v + 1) b = tg
theorem btm_tries {sB : sg_S} {T : rp_T} {n ne m0 m : Nat} (hB : mB_ T sB n ne m0) (hm3 : 1 ≤ m ∧ m ≤ 3) : ∀ (r d : Nat) (p : Nat → Nat) (wo : Int) (a : ac_) (x1 x2 x3 : Int32) (s : sg_S), d + r = m → x1.toInt = (d : Int) → x2.toInt = (m : Int) → x3.toInt = wo → (-(600 * (d : Int)) ≤ wo ∧ wo ≤ 600 * (d : Int)) → (∀ j, j < d → p j < n) → sg_fr moM_ aoM_ sB s → mq_ T sB ne m0 d p s → ame_ m s a → am_SpV 207 [.ref 64, .int x1, .int x2, .int x3] s (fun s2 => mf_ m0 d s s2 ∧ ame_ m s2 (tr_ (mG_ T sB ne m0) (mM_ T sB ne m0) n r d p wo a)) := by
  obtain ⟨hT, hk, hV, ⟨hne, h100⟩, hlen, ⟨hm, hml⟩, ⟨hn, h20⟩, ht, b8, b9⟩ := id hB
  have h12 := hT.2.2.1
  intro r
  induction r with
  | zero =>
    intro d p wo a x1 x2 x3 s hdr h1 h2 h3 hwo hp fB hq ha
    have key : mf_ m0 d s (sg_uI (sg_uI s 64 60 x2) 64 61 x3) ∧ ame_ m (sg_uI (sg_uI s 64 60 x2) 64 61 x3) (true, wo) := ⟨⟨(sg_fr.rf.uI rfl).uI rfl, fun _ _ => rfl, fun _ _ => rfl, fun _ _ => rfl, fun _ _ => rfl⟩, ⟨fun c => (by cases c), fun _ => ⟨h2, h3⟩⟩⟩
    refine wp_M_tries_ok (I85 := fun _ _ _ => False) (I35 := fun _ s1 => mf_ m0 d s s1 ∧ ame_ m s1 (ka_ wo a)) (I120 := fun _ _ _ => False) (I135 := fun _ _ _ _ _ => False) (I312 := fun _ _ _ _ _ => False) (fun _ _ _ z => z.elim) ?_ (fun _ _ _ z => z.elim) (fun _ _ _ _ _ z => z.elim) (fun _ _ _ _ _ z => z.elim) ?_
    · intro l4 s1 h
      unfold wp_M_tries_35
      refine ⟨fun _ _ _ => ⟨⟨h.1.1.uA rfl, fun i hi => (sg_A2 (fun c => absurd c.1 (by decide))).trans (h.1.2.1 i hi), fun i hi => (sg_A2 (fun c => absurd c.1 (by decide))).trans (h.1.2.2.1 i hi), fun i hi => (sg_A2 (fun c => absurd c.1 (by decide))).trans (h.1.2.2.2.1 i hi), fun i hi => (sg_A2 (fun c => absurd c.1 (by decide))).trans (h.1.2.2.2.2 i hi)⟩, h.2⟩, fun _ => h⟩
    · unfold wp_M_tries
      rw [h1, h2, h3]
      have hyes : ¬ (a.1 = true ∧ wo ≤ a.2) → mf_ m0 d s (sg_uI (sg_uI s 64 60 x2) 64 61 x3) ∧ ame_ m (sg_uI (sg_uI s 64 60 x2) 64 61 x3) (ka_ wo a) := fun c => by
        unfold ka_
        rw [if_neg c]
        exact key
      refine ⟨fun _ => ⟨fun c60 => ⟨fun c61 => hyes (fun z => ?_), fun c61 => ⟨mf_.rf, ?_⟩⟩, fun c60 => hyes (fun z => c60 (ha.2 z.1).1)⟩, fun c => absurd (show (d : Int) = (m : Int) by omega) c⟩
      · have := (ha.2 z.1).2
        omega
      · show ame_ m s (ka_ wo a)
        have ht1 : a.1 = true := by
          cases hb : a.1 with
          | true => rfl
          | false =>
            have := ha.1 hb
            omega
        have := (ha.2 ht1).2
        unfold ka_
        rw [if_pos ⟨ht1, by omega⟩]
        exact ha
  | succ r ih =>
    intro d p wo a x1 x2 x3 s hdr h1 h2 h3 hwo hp fB hq ha
    have z0 : (Int32.ofInt 0).toInt = 0 := rfl
    have z1 : (Int32.ofInt 1).toInt = 1 := rfl
    have z3 : (Int32.ofInt 3).toInt = 3 := rfl
    have z14 : (Int32.ofInt 14).toInt = 14 := rfl
    have hms : (s.1 64 40).toInt = (m0 : Int) := by rw [fB.i (by decide)]; exact hm
    have hls : (s.1 64 24).toInt = T.2.2.2.1 := by rw [fB.i (by decide)]; exact hV.2.2.2.1
    have e1 : (s.1 64 40 + x1).toInt = (m0 : Int) + (d : Int) := by rw [i32_add (by omega) (by omega), hms, h1]
    have e2 : (s.1 64 40 + x1 + Int32.ofInt 1).toInt = ((m0 + d + 1 : Nat) : Int) := by rw [i32_add (by omega) (by omega), e1, z1]; omega
    have e3 : (x1 + Int32.ofInt 1).toInt = ((d + 1 : Nat) : Int) := by rw [i32_add (by omega) (by omega), h1, z1]; omega
    have ex : x1.toInt.toNat = d := by omega
    have ix : ∀ (l : Int32) (i : Nat), l.toInt = (i : Int) → i < 14 → (Int32.ofInt 14 * x1 + l).toInt.toNat = 14 * d + i := by
      intro l i hl hi
      have a1 : (Int32.ofInt 14 * x1).toInt = 14 * (d : Int) := by rw [i32_mul (by rw [z14]; omega) (by rw [z14]; omega), z14, h1]
      rw [i32_add (by omega) (by omega), a1, hl]
      omega
    rw [tr_succ]
    generalize hSQ : sq_ (mG_ T sB ne m0) (mM_ T sB ne m0) n r d p wo = SQ
    generalize htg : fo_ SQ n 0 a = tg
    refine wp_M_tries_ok
      (I85 := fun l4 l5 s1 => (l4.toInt = ((m0 + d + 1 : Nat) : Int) ∧ ((m0 + d + 1 : Nat) : Int) ≤ T.2.2.2.1) ∧ sg_fr [] [99] s s1 ∧ ∃ i : Nat, l5.toInt = (i : Int) ∧ i ≤ 14 ∧ (∀ j, j < i → s1.2.2.1 99 (14 * d + j) = s.2.2.1 82 j) ∧ ∀ j, j < 14 * d → s1.2.2.1 99 j = s.2.2.1 99 j)
      (I35 := fun _ _ => False)
      (I120 := fun l4 l5 s1 => (l4.toInt = ((m0 + d + 1 : Nat) : Int) ∧ ((m0 + d + 1 : Nat) : Int) ≤ T.2.2.2.1) ∧ ∃ v : Nat, l5.toInt = (v : Int) ∧ v ≤ n ∧ bi_ m0 m n d s SQ tg v s1)
      (I135 := fun l4 l5 l6 l7 s1 => (l4.toInt = ((m0 + d + 1 : Nat) : Int) ∧ ((m0 + d + 1 : Nat) : Int) ≤ T.2.2.2.1) ∧ ∃ v k : Nat, l5.toInt = (v : Int) ∧ v < n ∧ bi_ m0 m n d s SQ tg v s1 ∧ l7.toInt = (k : Int) ∧ k ≤ d ∧ ((l6.toInt = 0 ∧ ¬ vi_ p k v) ∨ (¬ l6.toInt = 0 ∧ vi_ p k v)))
      (I312 := fun l4 l5 _ l12 s1 => (l4.toInt = ((m0 + d + 1 : Nat) : Int) ∧ ((m0 + d + 1 : Nat) : Int) ≤ T.2.2.2.1) ∧ ∃ v i : Nat, l5.toInt = (v : Int) ∧ v < n ∧ l12.toInt = (i : Int) ∧ i ≤ 14 ∧ bj_ m0 m n d s SQ tg v i s1) ?_ (fun _ _ z => z.elim) ?_ ?_ ?_ ?_
    · intro l4 l5 s1 hI
      obtain ⟨hc, f, i, hi, hi14, g1, g2⟩ := hI
      unfold wp_M_tries_85
      refine ⟨fun c _ _ _ _ => ⟨hc, ?_⟩, fun c => ⟨hc, 0, rfl, Nat.zero_le _, a, ⟨f.le (by decide) (by decide), fun j _ => by rw [f.a rfl], fun j _ => by rw [f.a rfl], fun j _ => by rw [f.a rfl], g2⟩, fun j hj => g1 j (by omega), ha.eq (f.i rfl) (f.i rfl), htg⟩⟩
      have e5 : l5.toInt.toNat = i := by omega
      rw [ix l5 i hi (by omega), e5]
      refine ⟨f.uA rfl, i + 1, ?_, by omega, fun j hj => ?_, fun j hj => ?_⟩
      · rw [i32_inc (c := 0) (by omega) (by omega), hi]
        rfl
      · by_cases e : j = i
        · rw [e, sg_A1, f.a rfl]
        · rw [sg_A2 (fun c => by omega)]
          exact g1 j (by omega)
      · rw [sg_A2 (fun c => by omega)]
        exact g2 j hj
    · intro l4 l5 s1 hI
      obtain ⟨hc, v, hv, hvn, b, g, g99, hb, hf⟩ := hI
      have hn1 : (s1.1 64 58).toInt = (n : Int) := by rw [g.1.i (by decide), fB.i (by decide)]; exact hn
      unfold wp_M_tries_120
      rw [hv, hn1]
      refine ⟨fun c => ⟨hc, v, 0, hv, by omega, ⟨b, g, g99, hb, hf⟩, rfl, Nat.zero_le _, Or.inl ⟨rfl, fun z => by obtain ⟨j, hj, -⟩ := z; omega⟩⟩, fun c => ⟨g, ?_⟩⟩
      rw [show n - v = 0 by omega] at hf
      have hf : b = tg := hf
      rw [← hf]
      exact hb
    · intro l4 l5 l6 l7 s1 hI
      obtain ⟨hc, v, k, hv, hvn, ⟨b, g, g99, hb, hf⟩, hk7, hkd, h6⟩ := hI
      have f1 : sg_fr moM_ aoM_ sB s1 := fB.tr g.1
      have hq1 := hq.fr g h12
      have e5 : l5.toInt.toNat = v := by omega
      obtain ⟨-, -, -, w0, w1, w2⟩ := tm_ix (x := l5) hv (by omega)
      have a96 : s1.2.2.1 96 = sB.2.2.1 96 := f1.a (by decide)
      have hinc5 : (l5 + Int32.ofInt 1).toInt = ((v + 1 : Nat) : Int) := by
        rw [i32_inc (c := 0) (by omega) (by omega), hv]
        rfl
      have next : SQ v b = b → (l4.toInt = ((m0 + d + 1 : Nat) : Int) ∧ ((m0 + d + 1 : Nat) : Int) ≤ T.2.2.2.1) ∧ ∃ v : Nat, (l5 + Int32.ofInt 1).toInt = (v : Int) ∧ v ≤ n ∧ bi_ m0 m n d s SQ tg v s1 := fun e => ⟨hc, v + 1, hinc5, by omega, b, g, g99, hb, by rw [← hf, fo_step hvn, e]⟩
      unfold wp_M_tries_135
      rw [w0, w1, w2]
      simp only [Int.toNat_natCast]
      refine ⟨fun c => ?_, fun c _ _ _ _ _ _ => ?_⟩
      · have hkd2 : k < d := by omega
        have e7 : l7.toInt.toNat = k := by omega
        have h98 := hq1.2.2.2.2 k hkd2
        have hinc7 : (l7 + Int32.ofInt 1).toInt = ((k + 1 : Nat) : Int) := by
          rw [i32_inc (c := 0) (by omega) (by omega), hk7]
          rfl
        rw [e7]
        refine ⟨fun d6 _ _ => ⟨fun d98 => ⟨hc, v, k + 1, hv, hvn, ⟨b, g, g99, hb, hf⟩, hinc7, by omega, Or.inr ⟨by decide, vi_succ.mpr (Or.inr (by omega))⟩⟩, fun d98 => ⟨hc, v, k + 1, hv, hvn, ⟨b, g, g99, hb, hf⟩, hinc7, by omega, Or.inl ⟨rfl, fun z => ?_⟩⟩⟩, fun d6 => ⟨hc, v, k + 1, hv, hvn, ⟨b, g, g99, hb, hf⟩, hinc7, by omega, Or.inr ⟨by decide, vi_succ.mpr (Or.inl ?_)⟩⟩⟩
        · rcases h6 with q | q
          · rcases vi_succ.mp z with z | z
            · exact q.2 z
            · exact d98 (by omega)
          · exact q.1 d6
        · rcases h6 with q | q
          · exact absurd q.1 d6
          · exact q.2
      · have ekd : k = d := by omega
        subst ekd
        refine ⟨fun d6 => ?_, fun d6 => next ?_⟩
        · have hnv : ¬ vi_ p k v := by
            rcases h6 with q | q
            · exact q.2
            · exact absurd d6 q.1
          rw [a96]
          refine (btm_look (v := v) hB f1 hq1 hc.1 hc.2).mono (fun x4 s4 h4 => ?_)
          obtain ⟨rfl, h4⟩ := h4
          refine ⟨fun c4 => ?_, fun c4 => next ?_⟩
          · have hG := h4.mp c4
            refine (sm_set3 (n := ne) (by rw [f1.i (by decide)]; exact hne) h100).mono (fun x5 s5 h5 => ?_)
            obtain ⟨rfl, h5⟩ := h5
            have hx5 : x5 = mS_ sB ne v := by
              rw [h5, f1.a (b := 78) (by decide), f1.a (b := 79) (by decide), f1.a (b := 80) (by decide), f1.i (b := 64) (j := 33) (by decide)]
              rfl
            have hm48 : m0 + k < 48 := by omega
            have e6 : (l4 - Int32.ofInt 1).toInt = ((m0 + k : Nat) : Int) := by rw [i32_sub (by omega) (by omega), hc.1, z1]; omega
            obtain ⟨-, -, -, y0, y1, y2⟩ := tm_ix (x := l4 - Int32.ofInt 1) e6 hm48
            have hmo : -576 ≤ mM_ T sB ne m0 p k v ∧ mM_ T sB ne m0 p k v ≤ 576 := bo2_rng ht hT.1
            have tail : ∀ y : Int32, y.toInt = wo + mM_ T sB ne m0 p k v → am_SpV 192 [.ref 64, .int (l4 - Int32.ofInt 1), .int (sB.2.2.1 96 (3 * v)), .int (sB.2.2.1 96 (3 * v + 1)), .int (sB.2.2.1 96 (3 * v + 2))] (sg_uA s5 98 x1.toInt.toNat l5) (fun s7 => am_SpV 186 [.ref 64, .int x5] s7 (fun s8 => am_SpV 207 [.ref 64, .int (x1 + Int32.ofInt 1), .int x2, .int y] s8 (fun s9 => (l4.toInt = ((m0 + k + 1 : Nat) : Int) ∧ ((m0 + k + 1 : Nat) : Int) ≤ T.2.2.2.1) ∧ ∃ v i : Nat, l5.toInt = (v : Int) ∧ v < n ∧ (Int32.ofInt 0).toInt = (i : Int) ∧ i ≤ 14 ∧ bj_ m0 m n k s SQ tg v i s9))) := by
              intro y hy
              refine wp_M_lays_ok ?_
              unfold wp_M_lays
              rw [y0, y1, y2, ex]
              simp only [Int.toNat_natCast]
              intro _ _ _ _ _ _
              have q7 : sg_fr [] [85, 98] s5 (sg_uA (sg_uA (sg_uA (sg_uA s5 98 k l5) 85 (3 * (m0 + k)) (sB.2.2.1 96 (3 * v))) 85 (3 * (m0 + k) + 1) (sB.2.2.1 96 (3 * v + 1))) 85 (3 * (m0 + k) + 2) (sB.2.2.1 96 (3 * v + 2))) := (((sg_fr.rf.uA rfl).uA rfl).uA rfl).uA rfl
              have q98 : ∀ j, (sg_uA (sg_uA (sg_uA (sg_uA s5 98 k l5) 85 (3 * (m0 + k)) (sB.2.2.1 96 (3 * v))) 85 (3 * (m0 + k) + 1) (sB.2.2.1 96 (3 * v + 1))) 85 (3 * (m0 + k) + 2) (sB.2.2.1 96 (3 * v + 2))).2.2.1 98 j = if j = k then l5 else s5.2.2.1 98 j := fun j => by
                refine (sg_A2 (fun c => absurd c.1 (by decide))).trans ((sg_A2 (fun c => absurd c.1 (by decide))).trans ((sg_A2 (fun c => absurd c.1 (by decide))).trans ?_))
                show (if 98 = 98 ∧ j = k then l5 else s5.2.2.1 98 j) = _
                simp
              have q85 : ∀ j, j < 3 * (m0 + k) → (sg_uA (sg_uA (sg_uA (sg_uA s5 98 k l5) 85 (3 * (m0 + k)) (sB.2.2.1 96 (3 * v))) 85 (3 * (m0 + k) + 1) (sB.2.2.1 96 (3 * v + 1))) 85 (3 * (m0 + k) + 2) (sB.2.2.1 96 (3 * v + 2))).2.2.1 85 j = s5.2.2.1 85 j := fun j hj => (sg_A2 (fun c => by omega)).trans ((sg_A2 (fun c => by omega)).trans ((sg_A2 (fun c => by omega)).trans (sg_A2 (fun c => absurd c.1 (by decide)))))
              have q85n : ∀ j, j < 3 → (sg_uA (sg_uA (sg_uA (sg_uA s5 98 k l5) 85 (3 * (m0 + k)) (sB.2.2.1 96 (3 * v))) 85 (3 * (m0 + k) + 1) (sB.2.2.1 96 (3 * v + 1))) 85 (3 * (m0 + k) + 2) (sB.2.2.1 96 (3 * v + 2))).2.2.1 85 (3 * (m0 + k) + j) = sB.2.2.1 96 (3 * v + j) := fun j hj => by
                match j, hj with
                | 0, _ => exact (sg_A2 (fun c => by omega)).trans ((sg_A2 (fun c => by omega)).trans sg_A1)
                | 1, _ => exact (sg_A2 (fun c => by omega)).trans sg_A1
                | 2, _ => exact sg_A1
                | j + 3, hj => omega
              generalize sg_uA (sg_uA (sg_uA (sg_uA s5 98 k l5) 85 (3 * (m0 + k)) (sB.2.2.1 96 (3 * v))) 85 (3 * (m0 + k) + 1) (sB.2.2.1 96 (3 * v + 1))) 85 (3 * (m0 + k) + 2) (sB.2.2.1 96 (3 * v + 2)) = s7 at q7 q98 q85 q85n
              have f7 : sg_fr moM_ aoM_ sB s7 := f1.tr (q7.le (by decide) (by decide))
              have a82 : s7.2.2.1 82 = s5.2.2.1 82 := q7.a rfl
              have nr : ∀ j, j < T.2.2.1 → 0 ≤ (s7.2.2.1 82 (2 + j)).toInt ∧ (s7.2.2.1 82 (2 + j)).toInt ≤ 48 := by
                rw [a82]
                exact mN_rng hB hq1 (by omega)
              refine (sm_along (hV.frM f7) rfl h12 nr).mono (fun s8 h8 => ?_)
              obtain ⟨f8, o0, o1, oN⟩ := h8
              have f08 : sg_fr moM_ aoM_ sB s8 := f7.tr (f8.le (by decide) (by decide))
              have hq8 : mq_ T sB ne m0 (k + 1) (up_ p k v) s8 := by
                refine ⟨?_, ?_, fun j hj => ?_, fun j hj => ?_, fun j hj => ?_⟩
                · rw [o0, hx5]
                  unfold a0_
                  rw [if_neg (by omega), show m0 + (k + 1) - 1 = m0 + k by omega]
                  exact fp_at.symm
                · rw [o1, a82, hq1.1]
                  unfold a0_ a1_
                  by_cases cz : m0 + k = 0
                  · rw [if_pos cz, if_pos (by omega)]
                  · rw [if_neg cz, if_neg (by omega), show m0 + (k + 1) - 2 = m0 + k - 1 by omega]
                    exact (fp_up _ (by omega)).symm
                · rw [oN j hj, a82, hq1.2.2.1 j hj]
                  show _ = nx_ _ _ (nb_ (rp_rl T j) (mF_ sB ne m0 (up_ p k v)) (m0 + k)) (hb_ _ (mF_ sB ne m0 (up_ p k v) (m0 + k)))
                  have e1 : mF_ sB ne m0 (up_ p k v) (m0 + k) = mS_ sB ne v := fp_at
                  have e2 : nb_ (rp_rl T j) (mF_ sB ne m0 (up_ p k v)) (m0 + k) = nb_ (rp_rl T j) (mF_ sB ne m0 p) (m0 + k) := nb_congr _ (fun i hi => fp_up i hi)
                  rw [e1, e2, hx5]
                · rw [f8.a rfl]
                  by_cases cz : j < 3 * (m0 + k)
                  · rw [q85 j cz, hq1.2.2.2.1 j cz]
                    exact (wq_up j cz).symm
                  · obtain ⟨i, rfl⟩ : ∃ i, j = 3 * (m0 + k) + i := ⟨j - 3 * (m0 + k), by omega⟩
                    rw [q85n i (by omega)]
                    exact (wq_at (by omega)).symm
                · rw [f8.a rfl, q98 j]
                  unfold up_
                  by_cases cz : j = k
                  · rw [if_pos cz, if_pos cz]
                    exact hv
                  · rw [if_neg cz, if_neg cz]
                    exact hq1.2.2.2.2 j (by omega)
              refine (ih (k + 1) (up_ p k v) (wo + mM_ T sB ne m0 p k v) b (x1 + Int32.ofInt 1) x2 y s8 (by omega) e3 h2 hy (by omega) (fun j hj => ?_) f08 hq8 (hb.eq (by rw [f8.i rfl, q7.i rfl]) (by rw [f8.i rfl, q7.i rfl]))).mono (fun s9 h9 => ?_)
              · unfold up_
                by_cases cz : j = k
                · rw [if_pos cz]; exact hvn
                · rw [if_neg cz]; exact hp j (by omega)
              · obtain ⟨⟨u0, u1, u2, u3, u4⟩, hb9⟩ := h9
                refine ⟨hc, v, 0, hv, hvn, rfl, by omega, _, ((g.1.tr (q7.le (by decide) (by decide))).tr (f8.le (by decide) (by decide))).tr u0, fun j hj => absurd hj (Nat.not_lt_zero j), fun j hj => ?_, fun j hj => ?_, fun j hj => ?_, fun j hj => ?_, hb9, ?_⟩
                · rw [u2 j (by omega), f8.a rfl, q85 j hj]
                  exact g.2.2.1 j hj
                · rw [u3 j (by omega), f8.a rfl, q98 j, if_neg (by omega)]
                  exact g.2.2.2.1 j hj
                · rw [u4 j (by omega), f8.a rfl, q7.a rfl]
                  exact g.2.2.2.2 j hj
                · rw [u4 (14 * k + j) (by omega), f8.a rfl, q7.a rfl]
                  exact g99 j hj
                · rw [← hf, fo_step hvn]
                  congr 1
                  rw [← hSQ]
                  exact (sq_yes hnv hG).symm
            have a00 := hq1.1
            refine ⟨fun c82 _ _ => tail _ ?_, fun c82 => ?_⟩
            · have hz : m0 + k = 0 := by
                by_cases cz : m0 + k = 0
                · exact cz
                · exfalso
                  rw [a00] at c82
                  unfold a0_ at c82
                  rw [if_neg cz] at c82
                  have := (mF_rng hB hp (m0 + k - 1) (by omega)).1
                  omega
              rw [i32_add (by omega) (by omega), h3]
              show wo + 0 = wo + (if m0 + k = 0 then 0 else _)
              rw [if_pos hz]
            · have hz : ¬ m0 + k = 0 := by
                intro cz
                rw [a00] at c82
                unfold a0_ at c82
                rw [if_pos cz] at c82
                exact c82 rfl
              have hK1 : (s5.1 64 21).toInt = (T.1 : Int) := (hV.frM f1).1
              refine (sm_lik (K := T.1) hT.1 hK1 (by rw [f1.a (by decide)]; exact ht)).mono (fun x6 s6 h6 => ?_)
              obtain ⟨rfl, h6⟩ := h6
              intro _ _
              refine tail _ ?_
              have em : x6.toInt = mM_ T sB ne m0 p k v := by
                rw [h6, a00, hx5, f1.a (by decide)]
                show _ = (if m0 + k = 0 then 0 else _)
                unfold a0_
                rw [if_neg hz, if_neg hz]
              rw [i32_add (by omega) (by omega), h3, em]
          · rw [← hSQ]
            exact sq_no (Or.inr (fun z => c4 (h4.mpr z)))
        · rw [← hSQ]
          refine sq_no (Or.inl ?_)
          rcases h6 with q | q
          · exact absurd q.1 d6
          · exact q.2
    · intro l4 l5 l11 l12 s1 hI
      obtain ⟨hc, v, i, hv, hvn, hi, hi14, b, f, g82, g85, g98, g99a, g99, hb, hf⟩ := hI
      unfold wp_M_tries_312
      refine ⟨fun c _ _ _ _ => ⟨hc, v, i + 1, hv, hvn, ?_, by omega, b, ?_⟩, fun c => ⟨hc, v + 1, ?_, by omega, b, ⟨f, fun j hj => g82 j (by omega), g85, g98, g99a⟩, g99, hb, hf⟩⟩
      · rw [i32_inc (c := 0) (by omega) (by omega), hi]
        rfl
      · have e5 : l12.toInt.toNat = i := by omega
        rw [ix l12 i hi (by omega), e5]
        refine ⟨f.uA (by decide), fun j hj => ?_, fun j hj => (sg_A2 (fun c => absurd c.1 (by decide))).trans (g85 j hj), fun j hj => (sg_A2 (fun c => absurd c.1 (by decide))).trans (g98 j hj), fun j hj => (sg_A2 (fun c => absurd c.1 (by decide))).trans (g99a j hj), fun j hj => (sg_A2 (fun c => absurd c.1 (by decide))).trans (g99 j hj), hb, hf⟩
        by_cases e : j = i
        · rw [e, sg_A1]
          exact g99 i (by omega)
        · rw [sg_A2 (fun c => e c.2)]
          exact g82 j (by omega)
      · rw [i32_inc (c := 0) (by omega) (by omega), hv]
        rfl
    · unfold wp_M_tries
      rw [h1, h2, hls, e2]
      refine ⟨fun c => absurd c (by omega), fun _ => ⟨fun c => ⟨mf_.rf, ?_⟩, fun c => ⟨⟨e2, by omega⟩, sg_fr.rf, 0, rfl, Nat.zero_le _, fun j hj => absurd hj (Nat.not_lt_zero j), fun j _ => rfl⟩⟩⟩
      have : tg = a := by
        rw [← htg, ← hSQ]
        exact fo_id n 0 a (fun v b => sq_no (Or.inr (fun z => by have := z.1; omega)))
      rw [this]
      exact ha
/-- M's best -/
def an_ (a : ac_) (r : Int) : Prop := (a.1 = false → r = -100) ∧ (a.1 = true → r = a.2)
theorem an_det {a : ac_} {r r2 : Int} (h : an_ a r) (h2 : an_ a r2) : r = r2 := by
  cases hb : a.1 with
  | false => rw [h.1 hb, h2.1 hb]
  | true => rw [h.2 hb, h2.2 hb]
theorem btm_best {s : sg_S} {T : rp_T} {n ne m0 : Nat} {x1 : Int32} (hB : mB_ T s n ne m0) : am_SpI 206 [.ref 64, .int x1] s (fun r _ => (¬ (1 ≤ x1.toInt ∧ x1.toInt ≤ 3) → r.toInt = -102) ∧ (1 ≤ x1.toInt ∧ x1.toInt ≤ 3 → (0 < wc_ (s.2.2.1 86) m0 → r.toInt = -109) ∧ (¬ 0 < wc_ (s.2.2.1 86) m0 → an_ (tr_ (mG_ T s ne m0) (mM_ T s ne m0) n x1.toInt.toNat 0 (fun _ => 0) 0 (false, 0)) r.toInt))) := by
  obtain ⟨hT, hk, hV, ⟨hne, h100⟩, hlen, ⟨hm, hml⟩, ⟨hn, h20⟩, ht, b8, b9⟩ := id hB
  have h12 := hT.2.2.1
  have z0 : (Int32.ofInt 0).toInt = 0 := rfl
  have z1 : (Int32.ofInt 1).toInt = 1 := rfl
  have z3 : (Int32.ofInt 3).toInt = 3 := rfl
  refine wp_M_best_ok ?_
  unfold wp_M_best
  refine sm_in.mono (fun y s1 hy => ?_)
  rw [z1, z3] at hy
  obtain rfl := hy.eq
  refine ⟨fun c => ⟨fun _ => rfl, fun z => absurd z (hy.no c)⟩, fun c => (sm_worns hm (by omega)).mono (fun w s2 hw => ?_)⟩
  have hc := hy.yes c
  obtain ⟨rfl, hw⟩ := hw
  rw [hw]
  refine ⟨fun e => ⟨fun z => absurd hc z, fun _ => ⟨fun _ => rfl, fun z => absurd e z⟩⟩, fun e => ?_⟩
  have f0 : sg_fr moM_ aoM_ s2 (sg_uI s2 64 60 (Int32.ofInt 0)) := sg_fr.rf.uI (by decide)
  have hV0 : rm_RU T (sg_uI s2 64 60 (Int32.ofInt 0)) := hV.frM f0
  refine (sm_sheet hV0 hk rfl h12 (by exact hm) (by omega)).mono (fun s4 h4 => ?_)
  obtain ⟨f4, g0, g1, gn⟩ := h4
  have fB : sg_fr moM_ aoM_ s2 s4 := f0.tr (f4.le (by decide) (by decide))
  have e0 : ∀ i, i < m0 → mF_ s2 ne m0 (fun _ => 0) i = s2.2.2.1 84 i := fun i hi => if_pos hi
  have hq : mq_ T s2 ne m0 0 (fun _ => 0) s4 := by
    refine ⟨?_, ?_, fun k hk2 => ?_, fun k hk2 => ?_, fun j hj => absurd hj (Nat.not_lt_zero j)⟩
    · rw [g0, Nat.add_zero, a0_cg e0]
      rfl
    · rw [g1, Nat.add_zero, a1_cg e0]
      rfl
    · rw [gn k hk2, Nat.add_zero, nb_congr m0 e0]
      rfl
    · rw [f4.a rfl]
      exact (if_pos (by omega)).symm
  have ha : ame_ x1.toInt.toNat s4 (false, 0) := ⟨fun _ => by rw [f4.i rfl]; rfl, fun c => (by cases c)⟩
  refine (btm_tries hB (m := x1.toInt.toNat) (by omega) x1.toInt.toNat 0 (fun _ => 0) 0 (false, 0) (Int32.ofInt 0) x1 (Int32.ofInt 0) s4 (by omega) rfl (by omega) rfl (by omega) (fun j hj => absurd hj (Nat.not_lt_zero j)) fB hq ha).mono (fun s5 h5 => ?_)
  obtain ⟨-, h5⟩ := h5
  generalize tr_ (mG_ T s2 ne m0) (mM_ T s2 ne m0) n x1.toInt.toNat 0 (fun _ => 0) 0 (false, 0) = tg at h5
  refine ⟨fun c60 => ⟨fun z => absurd hc z, fun _ => ⟨fun z => absurd z e, fun _ => ⟨fun _ => rfl, fun z => ?_⟩⟩⟩, fun c60 => ⟨fun z => absurd hc z, fun _ => ⟨fun z => absurd z e, fun _ => ⟨fun z => absurd (h5.1 z) c60, fun z => (h5.2 z).2⟩⟩⟩⟩
  have := (h5.2 z).1
  omega
