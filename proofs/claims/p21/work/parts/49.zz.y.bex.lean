/-! ===== best: X's search ===== -/
def moX_ : List (Nat × Nat) := [(58, 7), (58, 8)]
def aoX_ : List Nat := [30, 32, 34, 60, 61, 62, 63]
/-- the sheet and the tries laid behind it, by X -/
def xq_ (T : rp_T) (F W : Nat → Int32) (M : Nat) (s : sg_S) : Prop := (∀ i, i < M → s.2.2.1 30 (i + 1) = F i) ∧ (∀ k, k < 3 * M → s.2.2.1 32 (k + 3) = W k) ∧ ∀ P k, P ≤ M → k < T.2.2.1 → (s.2.2.1 34 (12 * P + k)).toInt = nb_ (rp_rl T k) F P
theorem xq_.cg {T : rp_T} {F W F2 W2 : Nat → Int32} {M : Nat} {s : sg_S} (h : xq_ T F W M s) (h1 : ∀ i, i < M → F i = F2 i) (h2 : ∀ k, k < 3 * M → W k = W2 k) : xq_ T F2 W2 M s := ⟨fun i hi => (h.1 i hi).trans (h1 i hi), fun k hk => (h.2.1 k hk).trans (h2 k hk), fun P k hP hk => (h.2.2 P k hP hk).trans (nb_congr P (fun v hv => h1 v (by omega)))⟩
/-- what X's search stands on: t, f, w, ws and S are M's -/
def xB_ (T : rp_T) (t f w ws S : Nat → Int32) (n m0 : Nat) (s : sg_S) : Prop := rp_ok T ∧ rk_ T ∧ rx_RU T s ∧ (1 ≤ T.2.2.2.1 ∧ T.2.2.2.1 ≤ 48) ∧ ((s.1 28 2).toInt = (m0 : Int) ∧ (m0 : Int) ≤ T.2.2.2.1) ∧ ((s.1 58 4).toInt = (n : Int) ∧ n ≤ 20) ∧ (∀ i, i < 64 → s.2.2.1 23 i = t i) ∧ (∀ i, i < 64 → -9 ≤ (t i).toInt ∧ (t i).toInt ≤ 9) ∧ (∀ i j, i < 8 → j < 8 → t (8 * i + j) = t (8 * j + i)) ∧ (∀ i, i < m0 → 0 ≤ (f i).toInt ∧ (f i).toInt < (rp_kset T.1).toInt) ∧ (∀ v, v < n → 0 ≤ (S v).toInt ∧ (S v).toInt < (rp_kset T.1).toInt) ∧ (∀ v, v < n → s.2.2.1 60 v = S v) ∧ ∀ k, k < 3 * n → s.2.2.1 59 k = ws k
section BX
variable {s : sg_S} {T : rp_T} {t f w ws S : Nat → Int32} {n m0 d : Nat} {p : Nat → Nat}
theorem xB_.fr {s2 : sg_S} (h : xB_ T t f w ws S n m0 s) (g : sg_fr moX_ [30, 32, 34, 61, 62, 63] s s2) : xB_ T t f w ws S n m0 s2 := by
  obtain ⟨h1, h2, h3, h4, h5, h6, h7, h8, h9, h10, h11, h12, h13⟩ := h
  refine ⟨h1, h2, h3.fr g (by decide) (by decide), h4, by rw [g.i (by decide)]; exact h5, by rw [g.i (by decide)]; exact h6, by rw [g.a (by decide)]; exact h7, h8, h9, h10, h11, by rw [g.a (by decide)]; exact h12, by rw [g.a (by decide)]; exact h13⟩
theorem fp_rng (h : xB_ T t f w ws S n m0 s) (hp : ∀ j, j < d → p j < n) : ∀ i, i < m0 + d → 0 ≤ (fp_ f m0 S p i).toInt ∧ (fp_ f m0 S p i).toInt < (rp_kset T.1).toInt := by
  obtain ⟨-, -, -, -, -, -, -, -, -, h10, h11, -⟩ := h
  intro i hi
  unfold fp_
  by_cases c : i < m0
  · rw [if_pos c]; exact h10 i c
  · rw [if_neg c]; exact h11 _ (hp _ (by omega))
/-- a stored verse is laid behind the tries and looked at -/
theorem bxq_good {v : Nat} {W : Int} {x1 : Int32} (hB : xB_ T t f w ws S n m0 s) (hq : xq_ T (fp_ f m0 S p) (wq_ w m0 ws p) (m0 + d) s) (h1 : x1.toInt = (d : Int)) (hd : d < 3) (hl : ((m0 + d + 1 : Nat) : Int) ≤ T.2.2.2.1) (hp : ∀ j, j < d → p j < n) (h62 : ∀ j, j < d → (s.2.2.1 62 j).toInt = (p j : Int)) (hv : (s.2.2.1 62 d).toInt = (v : Int)) (hvn : v < n) (hW : (d = 0 → W = 0) ∧ (0 < d → (s.2.2.1 63 (d - 1)).toInt = W)) (hWr : -1200 ≤ W ∧ W ≤ 1200) : am_SpI 111 [.ref 58, .int x1] s (fun r s2 => sg_fr [] [30, 32, 34, 63] s s2 ∧ xq_ T (fp_ f m0 S p) (wq_ w m0 ws p) (m0 + d) s2 ∧ (∀ j, j < d → s2.2.2.1 63 j = s.2.2.1 63 j) ∧ ((r.toInt = 0 ∧ (vi_ p d v ∨ ¬ bg_ T t f w ws S m0 p d v)) ∨ (¬ r.toInt = 0 ∧ ¬ vi_ p d v ∧ bg_ T t f w ws S m0 p d v ∧ (s2.2.2.1 63 d).toInt = W + bo2_ T t f S m0 p d v ∧ xq_ T (fp_ f m0 S (up_ p d v)) (wq_ w m0 ws (up_ p d v)) (m0 + (d + 1)) s2))) := by
  obtain ⟨hT, hk, hU, hlen, ⟨hm, hml⟩, ⟨hn, h20⟩, h23, ht, hs, hf, hS, h60, h59⟩ := id hB
  have h12 := hT.2.2.1
  have z0 : (Int32.ofInt 0).toInt = 0 := rfl
  have z1 : (Int32.ofInt 1).toInt = 1 := rfl
  have ed : x1.toInt.toNat = d := by omega
  refine wp_XStore_isGood_ok (I9 := fun l2 l3 s1 => s1 = s ∧ l2.toInt = (v : Int) ∧ ∃ k : Nat, l3.toInt = (k : Int) ∧ k ≤ d ∧ ¬ vi_ p k v) ?_ (fun _ _ => ⟨rfl, by rw [ed]; exact hv, 0, rfl, Nat.zero_le _, fun z => by obtain ⟨j, hj, -⟩ := z; omega⟩)
  intro l2 l3 s1 hI
  obtain ⟨rfl, h2, k, h3, hkd, hnv⟩ := hI
  have e2 : l2.toInt.toNat = v := by omega
  have hm1 : (s1.1 28 2 + Int32.ofInt 1).toInt = (m0 : Int) + 1 := by rw [i32_inc (c := 0) (by omega) (by omega), hm]
  have hP : (s1.1 28 2 + Int32.ofInt 1 + x1).toInt = ((m0 + d + 1 : Nat) : Int) := by rw [i32_add (by omega) (by omega), hm1, h1]; omega
  have hP1 : (s1.1 28 2 + Int32.ofInt 1 + x1 - Int32.ofInt 1).toInt.toNat = m0 + d := by rw [i32_sub (by omega) (by omega), hP, z1]; omega
  obtain ⟨w0, w1, w2, -⟩ := st_ix (x := l2) h2 (by omega)
  unfold wp_XStore_isGood_9
  rw [w0, w1, w2, e2, Int.toNat_natCast, Int.toNat_natCast, Int.toNat_natCast]
  refine ⟨fun c i1 i2 => ?_, fun c _ _ _ _ _ _ _ _ => ?_⟩
  · have e3 : l3.toInt.toNat = k := by omega
    rw [e3, h62 k (by omega), h2]
    refine ⟨fun c2 => ⟨sg_fr.rf, hq, fun _ _ => rfl, Or.inl ⟨rfl, Or.inl ⟨k, by omega, by omega⟩⟩⟩, fun c2 => ⟨rfl, h2, k + 1, ?_, by omega, fun z => ?_⟩⟩
    · rw [i32_inc (c := 0) (by omega) (by omega), h3]
      rfl
    · rcases vi_succ.mp z with z | z
      · exact hnv z
      · exact c2 (by omega)
  · have ekd : k = d := by omega
    subst ekd
    rw [h60 v hvn, h59 (3 * v) (by omega), h59 (3 * v + 1) (by omega), h59 (3 * v + 2) (by omega)]
    have hno : ∀ j, j < T.2.2.1 → no_ (rp_rl T j).1.toInt (rp_rl T j).2.2.1.toInt 48 (s1.2.2.1 34 (12 * (m0 + k + 1 - 1) + j)).toInt := by
      intro j hj
      obtain ⟨r1, r2, r3⟩ := hk j hj
      rw [Nat.add_sub_cancel, hq.2.2 (m0 + k) j (Nat.le_refl _) hj]
      obtain ⟨a1, a2, a3, a4⟩ := nb_no (ρ := rp_rl T j) (sf := fp_ f m0 S p) r2.1 (m0 + k)
      exact ⟨a1, fun c => by have := a2 c; omega, a3, a4⟩
    refine (sx_lay (p := m0 + k + 1) hU hk rfl h12 hP (by omega) (by omega) hno).mono (fun s2 h2 => ?_)
    obtain ⟨f2, g30, g32, g34, g34b⟩ := h2
    have hU2 : rx_RU T s2 := hU.fr f2 (by decide) (by decide)
    have t2 : ∀ i, i < 64 → s2.2.2.1 23 i = t i := by rw [f2.a rfl]; exact h23
    have ht2 : ∀ i, i < 64 → -9 ≤ (s2.2.2.1 23 i).toInt ∧ (s2.2.2.1 23 i).toInt ≤ 9 := fun i hi => by rw [t2 i hi]; exact ht i hi
    have q30 : ∀ i, i < m0 + k → s2.2.2.1 30 (i + 1) = fp_ f m0 S p i := fun i hi => by
      rw [g30]
      show (if i + 1 = m0 + k + 1 then S v else s1.2.2.1 30 (i + 1)) = _
      rw [if_neg (by omega)]
      exact hq.1 i hi
    have q30n : s2.2.2.1 30 (m0 + k + 1) = S v := by
      rw [g30]
      exact if_pos rfl
    have q32 : ∀ j, j < 3 * (m0 + k) → s2.2.2.1 32 (j + 3) = wq_ w m0 ws p j := fun j hj => by
      rw [g32.2.2.2 (j + 3) (by omega)]
      exact hq.2.1 j hj
    have q34 : ∀ P j, P ≤ m0 + k → j < T.2.2.1 → (s2.2.2.1 34 (12 * P + j)).toInt = nb_ (rp_rl T j) (fp_ f m0 S p) P := fun P j hP hj => by
      rw [g34b (12 * P + j) (by omega)]
      exact hq.2.2 P j hP hj
    have hq2 : xq_ T (fp_ f m0 S p) (wq_ w m0 ws p) (m0 + k) s2 := ⟨q30, q32, q34⟩
    have hb : ∀ j, j < T.2.2.1 → 0 ≤ (s2.2.2.1 34 (12 * (m0 + k + 1 - 1) + j)).toInt ∧ (s2.2.2.1 34 (12 * (m0 + k + 1 - 1) + j)).toInt ≤ 48 := by
      intro j hj
      obtain ⟨r1, r2, r3⟩ := hk j hj
      rw [Nat.add_sub_cancel, q34 (m0 + k) j (Nat.le_refl _) hj]
      exact no_le r1.1 r2.2 (p := ((m0 + k : Nat) : Int)) (by omega) (by omega) (nb_no r2.1 (m0 + k))
    refine (sx_first (p := m0 + k + 1) hU2 hk rfl h12 rfl (by omega) hP (by omega) (by omega) ht2 hb).mono (fun r s3 h3 => ?_)
    obtain ⟨rfl, h3⟩ := h3
    have hr := fp_rng hB hp
    have hgood : r.toInt = -1 ↔ bg_ T t f w ws S m0 p k v := by
      refine (fb_m1 h3).trans ?_
      have one : ∀ j, j < T.2.2.1 → (bx_ (s3.2.2.1 23) (s3.2.2.1 32) (s3.2.2.1 30) (rp_rl T j) (s3.2.2.1 34 (12 * (m0 + k + 1 - 1) + j)).toInt (m0 + k + 1) T.2.2.2.1 ↔ bm_ t (wq_ w m0 ws p) T.1 (a0_ (fp_ f m0 S p) (m0 + k)) (a1_ (fp_ f m0 S p) (m0 + k)) (S v) (ws (3 * v)) (ws (3 * v + 1)) (ws (3 * v + 2)) (rp_rl T j) (nb_ (rp_rl T j) (fp_ f m0 S p) (m0 + k)) ((m0 + k + 1 : Nat) : Int) T.2.2.2.1) := by
        intro j hj
        rw [Nat.add_sub_cancel, q34 (m0 + k) j (Nat.le_refl _) hj]
        exact bx_bm hT.1 hs t2 q30n q30 (hS v hvn) hr ⟨g32.1, g32.2.1, g32.2.2.1⟩ q32
      constructor
      · intro z
        exact ⟨hl, fun j hj z2 => z j hj ((one j hj).mpr z2)⟩
      · intro z j hj z2
        exact z.2 j hj ((one j hj).mp z2)
    have hq3 : xq_ T (fp_ f m0 S (up_ p k v)) (wq_ w m0 ws (up_ p k v)) (m0 + (k + 1)) s3 := by
      have e30 : ∀ i, i < m0 + (k + 1) → s3.2.2.1 30 (i + 1) = fp_ f m0 S (up_ p k v) i := fun i hi => by
        by_cases c : i < m0 + k
        · rw [q30 i c, fp_up i c]
        · obtain rfl : i = m0 + k := by omega
          rw [q30n, fp_at]
      refine ⟨e30, fun j hj => ?_, fun P j hP hj => ?_⟩
      · by_cases c : j < 3 * (m0 + k)
        · rw [q32 j c, wq_up j c]
        · obtain ⟨i, rfl⟩ : ∃ i, j = 3 * (m0 + k) + i := ⟨j - 3 * (m0 + k), by omega⟩
          rw [wq_at (by omega)]
          have hi3 : i < 3 := by omega
          match i, hi3 with
          | 0, _ => exact g32.1
          | 1, _ => exact g32.2.1
          | 2, _ => exact g32.2.2.1
          | i + 3, hi => omega
      · by_cases c : P ≤ m0 + k
        · rw [q34 P j c hj]
          exact nb_congr P (fun i hi => (fp_up i (by omega)).symm)
        · obtain rfl : P = m0 + k + 1 := by omega
          rw [g34 j hj, Nat.add_sub_cancel, hq.2.2 (m0 + k) j (Nat.le_refl _) hj]
          show _ = nx_ _ _ (nb_ (rp_rl T j) (fp_ f m0 S (up_ p k v)) (m0 + k)) (hb_ _ (fp_ f m0 S (up_ p k v) (m0 + k)))
          rw [nb_congr (m0 + k) (fun i hi => fp_up i hi), fp_at]
    have hmo := bo2_rng (T := T) (t := t) (f := f) (S := S) (m0 := m0) ht hT.1 (p := p) (d := k) (v := v)
    -- the verse is good: its worth is kept
    have fin : ∀ y : Int32, r.toInt = -1 → y.toInt = W + bo2_ T t f S m0 p k v → sg_fr [] [30, 32, 34, 63] s1 (sg_uA s3 63 k y) ∧ xq_ T (fp_ f m0 S p) (wq_ w m0 ws p) (m0 + k) (sg_uA s3 63 k y) ∧ (∀ j, j < k → (sg_uA s3 63 k y).2.2.1 63 j = s1.2.2.1 63 j) ∧ (((Int32.ofInt 1).toInt = 0 ∧ (vi_ p k v ∨ ¬ bg_ T t f w ws S m0 p k v)) ∨ (¬ (Int32.ofInt 1).toInt = 0 ∧ ¬ vi_ p k v ∧ bg_ T t f w ws S m0 p k v ∧ ((sg_uA s3 63 k y).2.2.1 63 k).toInt = W + bo2_ T t f S m0 p k v ∧ xq_ T (fp_ f m0 S (up_ p k v)) (wq_ w m0 ws (up_ p k v)) (m0 + (k + 1)) (sg_uA s3 63 k y))) := by
      intro y hr1 hy
      have n30 : (sg_uA s3 63 k y).2.2.1 30 = s3.2.2.1 30 := (sg_fr.rf.uA (mo := []) (ao := [63]) (s := s3) (a := 63) (k := k) (v := y) rfl).a rfl
      have n32 : (sg_uA s3 63 k y).2.2.1 32 = s3.2.2.1 32 := (sg_fr.rf.uA (mo := []) (ao := [63]) (s := s3) (a := 63) (k := k) (v := y) rfl).a rfl
      have n34 : (sg_uA s3 63 k y).2.2.1 34 = s3.2.2.1 34 := (sg_fr.rf.uA (mo := []) (ao := [63]) (s := s3) (a := 63) (k := k) (v := y) rfl).a rfl
      refine ⟨(f2.le (by decide) (by decide)).uA rfl, ?_, fun j hj => ?_, Or.inr ⟨by decide, hnv, hgood.mp hr1, by rw [sg_A1]; exact hy, ?_⟩⟩
      · unfold xq_
        rw [n30, n32, n34]
        exact hq2
      · rw [sg_A2 (fun c => by omega), f2.a rfl]
      · unfold xq_
        rw [n30, n32, n34]
        exact hq3
    have a63 : s3.2.2.1 63 = s1.2.2.1 63 := f2.a rfl
    have a60 : s3.2.2.1 60 v = S v := by rw [f2.a rfl]; exact h60 v hvn
    rw [hP, h1]
    -- the liking of the one ahead
    have lik : ¬ ((m0 + k + 1 : Nat) : Int) = 1 → ∀ (x5 : Int32), x5.toInt = lg_ (s3.2.2.1 23) (s3.2.2.1 30 (m0 + k)) (s3.2.2.1 60 v) 8 → x5.toInt = bo2_ T t f S m0 p k v := by
      intro c x5 h5
      have cz : ¬ m0 + k = 0 := by omega
      have r1 := hr (m0 + k - 1) (by omega)
      have r2 := hS v hvn
      have e30 : s3.2.2.1 30 (m0 + k) = fp_ f m0 S p (m0 + k - 1) := by
        have := q30 (m0 + k - 1) (by omega)
        rw [show m0 + k - 1 + 1 = m0 + k by omega] at this
        exact this
      rw [h5, e30, a60, lg_8 hT.1 r1.1 r1.2 r2.1 r2.2, lg_congr hT.1 t2, lg_sym hT.1 hs]
      unfold bo2_
      rw [if_neg cz]
    refine ⟨fun c => ⟨fun c2 => ⟨fun c3 _ _ => ?_, fun c3 _ _ _ _ => ?_⟩, fun c2 _ _ => ⟨fun c3 _ _ => ?_, fun c3 _ _ _ _ => ?_⟩⟩, fun c => ⟨f2.le (by decide) (by decide), hq2, fun j _ => by rw [a63], Or.inl ⟨rfl, Or.inr (fun z => c (hgood.mpr z))⟩⟩⟩
    · rw [Int.toNat_natCast]
      refine fin _ c ?_
      have hz : m0 + k = 0 := by omega
      unfold bo2_
      rw [if_pos hz, hW.1 (by omega)]
      rfl
    · rw [hP1]
      refine (sx_sum ht2).mono (fun x5 s5 h5 => ?_)
      obtain ⟨rfl, h5⟩ := h5
      intro _ _
      rw [Int.toNat_natCast]
      have h6 := lik c3 x5 h5
      refine fin _ c ?_
      rw [i32_add (by omega) (by omega), z0, h6, hW.1 (by omega)]
    · have e63 : (x1 - Int32.ofInt 1).toInt.toNat = k - 1 := by rw [i32_sub (by omega) (by omega), h1, z1]; omega
      rw [Int.toNat_natCast, e63, a63]
      refine fin _ c ?_
      have hz : m0 + k = 0 := by omega
      omega
    · rw [hP1]
      refine (sx_sum ht2).mono (fun x5 s5 h5 => ?_)
      obtain ⟨rfl, h5⟩ := h5
      intro _ _
      have e63 : (x1 - Int32.ofInt 1).toInt.toNat = k - 1 := by rw [i32_sub (by omega) (by omega), h1, z1]; omega
      have h6 := lik c3 x5 h5
      have h7 := hW.2 (by omega)
      rw [Int.toNat_natCast, e63, a63]
      refine fin _ c ?_
      rw [i32_add (by omega) (by omega), h7, h6]
def axe_ (m : Nat) (s : sg_S) (a : ac_) : Prop := (a.1 = false → (s.1 58 7).toInt = 0) ∧ (a.1 = true → (s.1 58 7).toInt = (m : Int) ∧ (s.1 58 8).toInt = a.2)
theorem axe_.eq {m : Nat} {s s2 : sg_S} {a : ac_} (h : axe_ m s a) (h1 : s2.1 58 7 = s.1 58 7) (h2 : s2.1 58 8 = s.1 58 8) : axe_ m s2 a := by
  unfold axe_
  rw [h1, h2]
  exact h
theorem bxq_keep {m : Nat} {W : Int} {a : ac_} {x1 : Int32} (hm : 1 ≤ m ∧ m ≤ 3) (h1 : x1.toInt = (m : Int)) (hW : (s.2.2.1 63 (m - 1)).toInt = W) (ha : axe_ m s a) : am_SpV 112 [.ref 58, .int x1] s (fun s2 => sg_fr moX_ [61] s s2 ∧ axe_ m s2 (ka_ W a)) := by
  have z1 : (Int32.ofInt 1).toInt = 1 := rfl
  have e1 : (x1 - Int32.ofInt 1).toInt.toNat = m - 1 := by rw [i32_sub (by omega) (by omega), h1, z1]; omega
  refine wp_XStore_keepIfBetter_ok (I37 := fun _ _ s1 => sg_fr moX_ [61] s s1 ∧ axe_ m s1 (ka_ W a)) ?_ ?_
  · intro l2 l3 s1 h
    unfold wp_XStore_keepIfBetter_37
    exact ⟨fun _ _ _ => ⟨h.1.uA rfl, h.2⟩, fun _ => h⟩
  · unfold wp_XStore_keepIfBetter
    rw [e1, hW]
    have yes : ¬ (a.1 = true ∧ W ≤ a.2) → sg_fr moX_ [61] s (sg_uI (sg_uI s 58 7 x1) 58 8 (s.2.2.1 63 (m - 1))) ∧ axe_ m (sg_uI (sg_uI s 58 7 x1) 58 8 (s.2.2.1 63 (m - 1))) (ka_ W a) := fun c => by
      unfold ka_
      rw [if_neg c]
      exact ⟨(sg_fr.rf.uI (by decide)).uI (by decide), fun z => (by cases z), fun _ => ⟨h1, hW⟩⟩
    refine fun _ _ => ⟨fun c => yes (fun z => ?_), fun c => ⟨fun c2 => yes (fun z => ?_), fun c2 => ⟨sg_fr.rf, ?_⟩⟩⟩
    · have := (ha.2 z.1).1
      omega
    · have := (ha.2 z.1).2
      omega
    · have ht1 : a.1 = true := by
        cases hb : a.1 with
        | true => rfl
        | false => exact absurd (ha.1 hb) c
      have := (ha.2 ht1).2
      unfold ka_
      rw [if_pos ⟨ht1, by omega⟩]
      exact ha
theorem bxq_take {ne : Nat} (hn : (s.1 58 4).toInt = (n : Int)) (h20 : n ≤ 20) (hne : (s.1 18 1).toInt = (ne : Int)) (h100 : ne ≤ 100) (hy : ∀ i, i < ne → 0 ≤ (s.2.2.1 20 i).toInt) (hw : ∀ i, i < ne → 0 ≤ (s.2.2.1 19 i).toInt) : am_SpV 110 [.ref 58] s (fun s2 => sg_fr [] [60] s s2 ∧ ∀ v, v < n → s2.2.2.1 60 v = g3_ (s.2.2.1 19) (s.2.2.1 20) (s.2.2.1 21) ne (s.1 18 0).toInt (s.2.2.1 59 (3 * v)) (s.2.2.1 59 (3 * v + 1)) (s.2.2.1 59 (3 * v + 2))) := by
  refine wp_XStore_takeSets_ok (I2 := fun l s1 => sg_fr [] [60] s s1 ∧ ∃ k : Nat, l.toInt = (k : Int) ∧ k ≤ n ∧ ∀ v, v < k → s1.2.2.1 60 v = g3_ (s.2.2.1 19) (s.2.2.1 20) (s.2.2.1 21) ne (s.1 18 0).toInt (s.2.2.1 59 (3 * v)) (s.2.2.1 59 (3 * v + 1)) (s.2.2.1 59 (3 * v + 2))) ?_ ⟨sg_fr.rf, 0, rfl, Nat.zero_le _, fun v hv => absurd hv (Nat.not_lt_zero v)⟩
  intro l s1 hI
  obtain ⟨f1, k, hl, hkn, h⟩ := hI
  have e4 : (s1.1 58 4).toInt = (n : Int) := by rw [f1.i rfl]; exact hn
  unfold wp_XStore_takeSets_2
  rw [e4]
  by_cases c : k < n
  · obtain ⟨w0, w1, w2, -⟩ := st_ix (x := l) hl (by omega)
    rw [w0, w1, w2]
    simp only [Int.toNat_natCast]
    refine ⟨fun _ _ _ _ _ _ _ => ?_, fun c2 => absurd (show l.toInt < (n : Int) by omega) c2⟩
    refine (sx_set3 (n := ne) (by rw [f1.i rfl]; exact hne) h100 (by rw [f1.a rfl]; exact hy) (by rw [f1.a rfl]; exact hw)).mono (fun x s2 h2 => ?_)
    obtain ⟨rfl, h2⟩ := h2
    intro _ _
    have el : l.toInt.toNat = k := by omega
    rw [el]
    refine ⟨f1.uA rfl, k + 1, ?_, by omega, fun v hv => ?_⟩
    · rw [i32_inc (c := 0) (by omega) (by omega), hl]
      rfl
    · by_cases e : v = k
      · rw [e, sg_A1, h2, f1.a (b := 19) rfl, f1.a (b := 20) rfl, f1.a (b := 21) rfl, f1.a (b := 59) rfl, f1.i (b := 18) (j := 0) rfl]
      · rw [sg_A2 (fun c => e c.2)]
        exact h v (by omega)
  · exact ⟨fun c2 => absurd (show k < n by omega) c, fun _ => ⟨f1, fun v hv => h v (by omega)⟩⟩
end BX
