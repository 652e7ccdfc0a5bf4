/-! ===== best: X's search goes through all tries ===== -/
/-- how many steps are left at most -/
def mu_ (c : Nat → Nat) (L : Nat) : Int := (if 0 < L then (21 - (c 0 : Int)) * 463 else 0) + (if 1 < L then (21 - (c 1 : Int)) * 22 else 0) + (if 2 < L then 21 - (c 2 : Int) else 0)
/-- where X's search stands: L levels are open, c the next one of each -/
def xs_ (T : rp_T) (f w ws S : Nat → Int32) (G : (Nat → Nat) → Nat → Nat → Prop) (mo : (Nat → Nat) → Nat → Nat → Int) (n m0 m : Nat) (tg : ac_) (sA : sg_S) (L : Nat) (s1 : sg_S) (st : Int) : Prop := ∃ (c p : Nat → Nat) (W : Nat → Int) (a : ac_), st + mu_ c L ≤ 9723 ∧ sg_fr moX_ [30, 32, 34, 61, 62, 63] sA s1 ∧ (0 < L → xq_ T (fp_ f m0 S p) (wq_ w m0 ws p) (m0 + (L - 1)) s1) ∧ (∀ j, j < L → (s1.2.2.1 62 j).toInt = (c j : Int) - 1 ∧ c j ≤ n) ∧ (∀ j, j + 1 < L → c j = p j + 1 ∧ p j < n) ∧ W 0 = 0 ∧ (∀ j, j + 1 < L → (s1.2.2.1 63 j).toInt = W (j + 1)) ∧ (∀ j, j < L → -(600 * (j : Int)) ≤ W j ∧ W j ≤ 600 * (j : Int)) ∧ axe_ m s1 a ∧ rq_ G mo n m c p W L a = tg
theorem rq_1 {G : (Nat → Nat) → Nat → Nat → Prop} {mo : (Nat → Nat) → Nat → Nat → Int} {n m : Nat} {a : ac_} (h : 1 ≤ m) : rq_ G mo n m (fun _ => 0) (fun _ => 0) (fun _ => 0) 1 a = tr_ G mo n m 0 (fun _ => 0) 0 a := by
  obtain ⟨k, rfl⟩ : ∃ k, m = k + 1 := ⟨m - 1, by omega⟩
  rfl
theorem bxq_search {s : sg_S} {T : rp_T} {t f w ws S : Nat → Int32} {n m0 m : Nat} {x1 : Int32} (hm3 : 1 ≤ m ∧ m ≤ 3) (h1 : x1.toInt = (m : Int)) (hs7 : (s.1 58 7).toInt = 0) (hml : (s.1 28 2).toInt = (m0 : Int)) (hl0 : (m0 : Int) ≤ T.2.2.2.1 ∧ T.2.2.2.1 ≤ 48) (hl13 : (s.1 1 3).toInt = T.2.2.2.1)
    (htake : am_SpV 110 [.ref 58] s (fun s2 => sg_fr [] [60] s s2 ∧ xB_ T t f w ws S n m0 s2 ∧ xq_ T (fp_ f m0 S (fun _ => 0)) (wq_ w m0 ws (fun _ => 0)) m0 s2)) : am_SpV 109 [.ref 58, .int x1] s (fun s2 => axe_ m s2 (tr_ (bg_ T t f w ws S m0) (bo2_ T t f S m0) n m 0 (fun _ => 0) 0 (false, 0))) := by
  have z1 : (Int32.ofInt 1).toInt = 1 := rfl
  have em : (s.1 28 2 + x1).toInt = (m0 : Int) + (m : Int) := by rw [i32_add (by omega) (by omega), hml, h1]
  generalize htg : tr_ (bg_ T t f w ws S m0) (bo2_ T t f S m0) n m 0 (fun _ => 0) 0 (false, 0) = tg
  refine wp_XStore_search_ok (I35 := fun l2 l3 s1 => ∃ (sA : sg_S) (L : Nat), xB_ T t f w ws S n m0 sA ∧ (m0 : Int) + (m : Int) ≤ T.2.2.2.1 ∧ l2.toInt = (L : Int) - 1 ∧ L ≤ m ∧ 0 ≤ l3.toInt ∧ xs_ T f w ws S (bg_ T t f w ws S m0) (bo2_ T t f S m0) n m0 m tg sA L s1 l3.toInt) ?_ ?_
  · intro l2 l3 s1 hI
    obtain ⟨sA, L, hA, hlen, h2, hLm, h3, c, p, W, a, hmu, fA, hq, h62, hcp, hW0, h63, hWr, ha, hrq⟩ := hI
    have hB := hA.fr fA
    obtain ⟨hT, hk, hU, hlen2, ⟨hm, hml2⟩, ⟨hn, h20⟩, h23, ht, hs, hf, hS, h60, h59⟩ := id hB
    have hmu0 : 0 ≤ mu_ c L := by
      unfold mu_
      have q0 : 0 < L → (c 0 : Int) ≤ 20 := fun z => by have := (h62 0 z).2; omega
      have q1 : 1 < L → (c 1 : Int) ≤ 20 := fun z => by have := (h62 1 z).2; omega
      have q2 : 2 < L → (c 2 : Int) ≤ 20 := fun z => by have := (h62 2 z).2; omega
      split <;> split <;> split <;> omega
    have hinc3 : (l3 + Int32.ofInt 1).toInt = l3.toInt + 1 := by rw [i32_inc (c := 0) (by omega) (by omega)]
    unfold wp_XStore_search_35
    refine ⟨fun _ => ⟨fun c2 => ?_, fun c2 _ _ => ?_⟩, fun c3 => absurd (show l3.toInt < 10000 by omega) c3⟩
    · have : L = 0 := by omega
      subst this
      have hrq : a = tg := hrq
      rw [← hrq]
      exact ha
    · obtain ⟨K, rfl⟩ : ∃ K, L = K + 1 := ⟨L - 1, by omega⟩
      have e2 : l2.toInt.toNat = K := by omega
      have hK := h62 K (by omega)
      have hcr : (c K : Int) ≤ 20 := by omega
      have hp62 : (s1.2.2.1 62 K + Int32.ofInt 1).toInt = (c K : Int) := by rw [i32_add (by omega) (by omega), hK.1, z1]; omega
      rw [e2, sg_A1, hp62, hn]
      have f62 : sg_fr [] [62] s1 (sg_uA s1 62 K (s1.2.2.1 62 K + Int32.ofInt 1)) := sg_fr.rf.uA rfl
      have g62 : ∀ j, ¬ j = K → (sg_uA s1 62 K (s1.2.2.1 62 K + Int32.ofInt 1)).2.2.1 62 j = s1.2.2.1 62 j := fun j hj => sg_A2 (fun z => hj z.2)
      have g62K : (sg_uA s1 62 K (s1.2.2.1 62 K + Int32.ofInt 1)).2.2.1 62 K = s1.2.2.1 62 K + Int32.ofInt 1 := sg_A1
      generalize sg_uA s1 62 K (s1.2.2.1 62 K + Int32.ofInt 1) = s2 at f62 g62 g62K ⊢
      have fA2 : sg_fr moX_ [30, 32, 34, 61, 62, 63] sA s2 := fA.tr (f62.le (by decide) (by decide))
      have hB2 := hA.fr fA2
      have hq2 : xq_ T (fp_ f m0 S p) (wq_ w m0 ws p) (m0 + K) s2 := by
        unfold xq_
        rw [f62.a (b := 30) rfl, f62.a (b := 32) rfl, f62.a (b := 34) rfl]
        exact hq (by omega)
      have mu1 : ∀ c' : Nat → Nat, (∀ j, j < K → c' j = c j) → c' K = c K + 1 → mu_ c' (K + 1) + 1 ≤ mu_ c (K + 1) := by
        intro c' hc1 hc2
        unfold mu_
        match K, hLm, hc1, hc2 with
        | 0, _, hc1, hc2 => simp only [hc2]; simp; omega
        | 1, _, hc1, hc2 => have := hc1 0 (by omega); simp only [this, hc2]; simp; omega
        | 2, _, hc1, hc2 => have := hc1 0 (by omega); have e1 := hc1 1 (by omega); simp only [this, e1, hc2]; simp; omega
        | k + 3, hLm, _, _ => omega
      refine ⟨fun c4 => ?_, fun c4 => ?_⟩
      · have hcn : c K < n := by omega
        refine (bxq_good (d := K) (v := c K) (W := W K) hB2 hq2 (by omega) (by omega) (by omega) (fun j hj => (hcp j (by omega)).2) (fun j hj => ?_) (by rw [g62K]; exact hp62) hcn ⟨fun z => by rw [z]; exact hW0, fun z => ?_⟩ (by have := hWr K (by omega); omega)).mono (fun x3 s3 h3' => ?_)
        · rw [g62 j (by omega), (h62 j (by omega)).1]
          have := (hcp j (by omega)).1
          omega
        · rw [f62.a rfl]
          have := h63 (K - 1) (by omega)
          rw [show K - 1 + 1 = K by omega] at this
          exact this
        · obtain ⟨f3, hq3, g63, hcase⟩ := h3'
          have f23 : sg_fr moX_ [30, 32, 34, 61, 62, 63] sA s3 := fA2.tr (f3.le (by decide) (by decide))
          have a62 : s3.2.2.1 62 = s2.2.2.1 62 := f3.a rfl
          have ax3 : axe_ m s3 a := ha.eq (by rw [f3.i rfl, f62.i rfl]) (by rw [f3.i rfl, f62.i rfl])
          have n62 : ∀ j, j < K + 1 → (s3.2.2.1 62 j).toInt = (up_ c K (c K + 1) j : Int) - 1 ∧ up_ c K (c K + 1) j ≤ n := fun j hj => by
            rw [a62]
            by_cases e : j = K
            · subst e
              rw [g62K, up_1, hp62]
              omega
            · rw [g62 j e, up_2 e]
              exact h62 j (by omega)
          have ncp : ∀ j, j + 1 < K + 1 → up_ c K (c K + 1) j = p j + 1 ∧ p j < n := fun j hj => by
            rw [up_2 (by omega)]
            exact hcp j (by omega)
          have n63 : ∀ j, j + 1 < K + 1 → (s3.2.2.1 63 j).toInt = W (j + 1) := fun j hj => by
            rw [g63 j (by omega), f62.a rfl]
            exact h63 j (by omega)
          have mu2 := mu1 (up_ c K (c K + 1)) (fun j hj => up_2 (by omega)) up_1
          refine ⟨fun c5 => ?_, fun c5 => ?_⟩
          · have hno : vi_ p K (c K) ∨ ¬ bg_ T t f w ws S m0 p K (c K) := by
              rcases hcase with q | q
              · exact q.2
              · exact absurd c5 q.1
            exact ⟨sA, K + 1, hA, hlen, h2, hLm, by omega, up_ c K (c K + 1), p, W, a, by omega, f23, fun _ => hq3, n62, ncp, hW0, n63, hWr, ax3, (rq_n (G := bg_ T t f w ws S m0) (mo := bo2_ T t f S m0) (n := n) (m := m) (c := c) (p := p) (W := W) (L := K) (a := a) bg_cg bo2_cg hcn hno).symm.trans hrq⟩
          · obtain ⟨-, hv1, hg, hw63, hq4⟩ : ¬ x3.toInt = 0 ∧ ¬ vi_ p K (c K) ∧ bg_ T t f w ws S m0 p K (c K) ∧ (s3.2.2.1 63 K).toInt = W K + bo2_ T t f S m0 p K (c K) ∧ xq_ T (fp_ f m0 S (up_ p K (c K))) (wq_ w m0 ws (up_ p K (c K))) (m0 + (K + 1)) s3 := by
              rcases hcase with q | q
              · exact absurd q.1 c5
              · exact q
            have em1 : (x1 - Int32.ofInt 1).toInt = (m : Int) - 1 := by rw [i32_sub (by omega) (by omega), h1, z1]
            refine ⟨fun c6 => ?_, fun c6 _ _ => ?_⟩
            · have hmK : m = K + 1 := by omega
              refine (bxq_keep (W := W K + bo2_ T t f S m0 p K (c K)) hm3 h1 (by rw [hmK]; exact hw63) ax3).mono (fun s4 h4 => ?_)
              obtain ⟨f4, ha4⟩ := h4
              have q4 : xq_ T (fp_ f m0 S p) (wq_ w m0 ws p) (m0 + K) s4 := by
                unfold xq_
                rw [f4.a (b := 30) rfl, f4.a (b := 32) rfl, f4.a (b := 34) rfl]
                exact hq3
              refine ⟨sA, K + 1, hA, hlen, h2, hLm, by omega, up_ c K (c K + 1), p, W, _, by omega, f23.tr (f4.le (by decide) (by decide)), fun _ => q4, fun j hj => by rw [f4.a rfl]; exact n62 j hj, ncp, hW0, fun j hj => by rw [f4.a rfl]; exact n63 j hj, hWr, ha4, ?_⟩
              exact (rq_k (G := bg_ T t f w ws S m0) (mo := bo2_ T t f S m0) (n := n) (m := m) (c := c) (p := p) (W := W) (L := K) (a := a) bg_cg bo2_cg hcn hv1 hg hmK).symm.trans hrq
            · have hKm : K + 1 < m := by omega
              have hl3 : (l2 + Int32.ofInt 1).toInt = ((K + 1 : Nat) : Int) := by rw [i32_add (by omega) (by omega), h2, z1]; omega
              rw [hl3, Int.toNat_natCast]
              have hmo := bo2_rng (T := T) (t := t) (f := f) (S := S) (m0 := m0) ht hT.1 (p := p) (d := K) (v := c K)
              have hWK := hWr K (by omega)
              have q4 : xq_ T (fp_ f m0 S (up_ p K (c K))) (wq_ w m0 ws (up_ p K (c K))) (m0 + (K + 1)) (sg_uA s3 62 (K + 1) (Int32.ofInt (-1))) := by
                have f9 : sg_fr [] [62] s3 (sg_uA s3 62 (K + 1) (Int32.ofInt (-1))) := sg_fr.rf.uA rfl
                unfold xq_
                rw [f9.a (b := 30) rfl, f9.a (b := 32) rfl, f9.a (b := 34) rfl]
                exact hq4
              refine ⟨sA, K + 2, hA, hlen, by omega, by omega, by omega, up_ (up_ c K (c K + 1)) (K + 1) 0, up_ p K (c K), uw_ W (K + 1) (W K + bo2_ T t f S m0 p K (c K)), a, ?_, f23.uA (by decide), fun _ => q4, fun j hj => ?_, fun j hj => ?_, ?_, fun j hj => ?_, fun j hj => ?_, ax3.eq rfl rfl, ?_⟩
              · have e5 : mu_ (up_ (up_ c K (c K + 1)) (K + 1) 0) (K + 2) + 1 ≤ mu_ c (K + 1) := by
                  unfold mu_ up_
                  match K, hKm with
                  | 0, _ => simp; omega
                  | 1, _ => simp; omega
                  | k + 2, hKm => omega
                omega
              · by_cases e : j = K + 1
                · subst e
                  rw [sg_A1, up_1]
                  exact ⟨rfl, Nat.zero_le _⟩
                · rw [sg_A2 (fun z => e z.2), up_2 e]
                  exact n62 j (by omega)
              · rw [up_2 (by omega)]
                by_cases e : j = K
                · subst e
                  rw [up_1, up_1]
                  exact ⟨rfl, hcn⟩
                · rw [up_2 e, up_2 e]
                  exact hcp j (by omega)
              · show (if 0 = K + 1 then _ else W 0) = 0
                rw [if_neg (by omega)]
                exact hW0
              · rw [sg_A2 (fun z => absurd z.1 (by decide))]
                unfold uw_
                by_cases e : j = K
                · subst e
                  rw [if_pos rfl]
                  exact hw63
                · rw [if_neg (by omega)]
                  exact n63 j (by omega)
              · unfold uw_
                by_cases e : j = K + 1
                · rw [if_pos e, e]
                  omega
                · rw [if_neg e]
                  exact hWr j (by omega)
              · exact (rq_d (G := bg_ T t f w ws S m0) (mo := bo2_ T t f S m0) (n := n) (m := m) (c := c) (p := p) (W := W) (L := K) (a := a) bg_cg bo2_cg hcn hv1 hg hKm).symm.trans hrq
      · have hdec : (l2 + Int32.ofInt (-1)).toInt = (K : Int) - 1 := by
          have zm : (Int32.ofInt (-1)).toInt = -1 := rfl
          rw [i32_add (by omega) (by omega), h2, zm]
          omega
        generalize hld : l2 + Int32.ofInt (-1) = ld at hdec ⊢
        refine ⟨sA, K, hA, hlen, hdec, by omega, by omega, c, p, W, a, ?_, fA2, fun z => ?_, fun j hj => ?_, fun j hj => hcp j (by omega), hW0, fun j hj => ?_, fun j hj => hWr j (by omega), ha.eq (f62.i rfl) (f62.i rfl), ?_⟩
        · have e5 : mu_ c K + 1 ≤ mu_ c (K + 1) := by
            unfold mu_
            match K, hLm, hcr with
            | 0, _, hcr => simp; omega
            | 1, _, hcr => simp; omega
            | 2, _, hcr => simp; omega
            | k + 3, hLm, _ => omega
          omega
        · refine ⟨fun i hi => hq2.1 i (by omega), fun j hj => hq2.2.1 j (by omega), fun P j hP hj => hq2.2.2 P j (by omega) hj⟩
        · rw [g62 j (by omega)]
          exact h62 j (by omega)
        · rw [f62.a rfl]
          exact h63 j (by omega)
        · exact (rq_a (G := bg_ T t f w ws S m0) (mo := bo2_ T t f S m0) (n := n) (m := m) (c := c) (p := p) (W := W) (L := K) (a := a) (by omega)).symm.trans hrq
  · unfold wp_XStore_search
    rw [em, hl13]
    refine ⟨fun c => ?_, fun c => htake.mono (fun s2 h2 => ?_)⟩
    · have : tg = (false, 0) := by
        rw [← htg]
        exact tr_none (m0 := m0) (len := T.2.2.2.1) (fun p d v h => h.1) m 0 _ _ _ (by omega) (by omega)
      rw [this]
      exact ⟨fun _ => hs7, fun z => (by cases z)⟩
    · obtain ⟨f2, hA, hq⟩ := h2
      have f62 : sg_fr moX_ [30, 32, 34, 61, 62, 63] s2 (sg_uA s2 62 0 (Int32.ofInt (-1))) := sg_fr.rf.uA (by decide)
      have f9 : sg_fr [] [62] s2 (sg_uA s2 62 0 (Int32.ofInt (-1))) := sg_fr.rf.uA rfl
      have q0 : xq_ T (fp_ f m0 S (fun _ => 0)) (wq_ w m0 ws (fun _ => 0)) (m0 + (1 - 1)) (sg_uA s2 62 0 (Int32.ofInt (-1))) := by
        unfold xq_
        rw [f9.a (b := 30) rfl, f9.a (b := 32) rfl, f9.a (b := 34) rfl]
        exact hq
      refine ⟨s2, 1, hA, by omega, rfl, hm3.1, by decide, fun _ => 0, fun _ => 0, fun _ => 0, (false, 0), ?_, f62, fun _ => q0, fun j hj => ?_, fun j hj => by omega, rfl, fun j hj => by omega, fun j hj => ⟨show -(600 * (j : Int)) ≤ 0 by omega, show (0 : Int) ≤ 600 * (j : Int) by omega⟩, ⟨fun _ => ?_, fun z => (by cases z)⟩, ?_⟩
      · show (0 : Int) + mu_ (fun _ => 0) 1 ≤ 9723
        decide
      · obtain rfl : j = 0 := by omega
        rw [sg_A1]
        exact ⟨rfl, Nat.zero_le _⟩
      · show (s2.1 58 7).toInt = 0
        rw [f2.i rfl]
        exact hs7
      · exact (rq_1 hm3.1).trans htg
