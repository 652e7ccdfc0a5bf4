/-! ===== liking of two sets ===== -/
def sm_ (f : Nat → Int) : Nat → Int
  | 0 => 0
  | n + 1 => sm_ f n + f n
theorem sm_congr {f g : Nat → Int} : ∀ n : Nat, (∀ i, i < n → f i = g i) → sm_ f n = sm_ g n := by
  intro n
  induction n with
  | zero => intro _; rfl
  | succ n ih =>
    intro h
    show sm_ f n + f n = sm_ g n + g n
    rw [ih (fun i hi => h i (by omega)), h n (by omega)]
theorem sm_zero {f : Nat → Int} : ∀ n : Nat, (∀ i, i < n → f i = 0) → sm_ f n = 0 := by
  intro n
  induction n with
  | zero => intro _; rfl
  | succ n ih =>
    intro h
    show sm_ f n + f n = 0
    rw [ih (fun i hi => h i (by omega)), h n (by omega)]
    rfl
theorem sm_add {f g : Nat → Int} : ∀ n : Nat, sm_ (fun i => f i + g i) n = sm_ f n + sm_ g n := by
  intro n
  induction n with
  | zero => rfl
  | succ n ih =>
    show sm_ (fun i => f i + g i) n + (f n + g n) = (sm_ f n + f n) + (sm_ g n + g n)
    rw [ih]
    omega
theorem sm_swap {g : Nat → Nat → Int} (L : Nat) : ∀ K : Nat, sm_ (fun i => sm_ (fun j => g i j) L) K = sm_ (fun j => sm_ (fun i => g i j) K) L := by
  intro K
  induction K with
  | zero => exact (sm_zero L (fun _ _ => rfl)).symm
  | succ K ih =>
    show sm_ (fun i => sm_ (fun j => g i j) L) K + sm_ (fun j => g K j) L = sm_ (fun j => sm_ (fun i => g i j) K + g K j) L
    rw [ih, sm_add]
theorem sm_rng {f : Nat → Int} {b : Int} : ∀ n : Nat, (∀ i, i < n → -b ≤ f i ∧ f i ≤ b) → -(b * (n : Int)) ≤ sm_ f n ∧ sm_ f n ≤ b * (n : Int) := by
  intro n
  induction n with
  | zero =>
    intro _
    have : b * ((0 : Nat) : Int) = 0 := Int.mul_zero b
    rw [this]
    exact ⟨show -0 ≤ (0 : Int) by decide, show (0 : Int) ≤ 0 by decide⟩
  | succ n ih =>
    intro h
    have h1 := ih (fun i hi => h i (by omega))
    have h2 := h n (by omega)
    have h3 : b * ((n + 1 : Nat) : Int) = b * (n : Int) + b := by
      rw [show ((n + 1 : Nat) : Int) = (n : Int) + 1 by omega, Int.mul_add, Int.mul_one]
    show -(b * ((n + 1 : Nat) : Int)) ≤ sm_ f n + f n ∧ sm_ f n + f n ≤ b * ((n + 1 : Nat) : Int)
    rw [h3]
    omega
/-- more, all of them nothing -/
theorem sm_more {f : Nat → Int} {K : Nat} : ∀ d : Nat, (∀ i, K ≤ i → i < K + d → f i = 0) → sm_ f (K + d) = sm_ f K := by
  intro d
  induction d with
  | zero => intro _; rfl
  | succ d ih =>
    intro h
    show sm_ f (K + d) + f (K + d) = sm_ f K
    rw [ih (fun i h1 h2 => h i h1 (by omega)), h (K + d) (by omega) (by omega)]
    omega
def bt_ (A : Int32) (i : Nat) : Bool := !decide (((A >>> (Int32.ofInt (i : Int) &&& 31)) &&& Int32.ofInt 1).toInt = 0)
theorem i32_and1 (y : Int32) : (y &&& Int32.ofInt 1).toInt = 0 ∨ (y &&& Int32.ofInt 1).toInt = 1 := by
  have h2 := ab_ti (y &&& Int32.ofInt 1)
  have h4 : (y &&& Int32.ofInt 1).toBitVec.toNat = y.toBitVec.toNat % 2 := by
    rw [Int32.toBitVec_and, BitVec.toNat_and]
    exact Nat.and_two_pow_sub_one_eq_mod _ 1
  split at h2 <;> omega
theorem bt_hi {A : Int32} {K i : Nat} (hK : K ≤ 8) (h0 : 0 ≤ A.toInt) (h1 : A.toInt < (rp_kset K).toInt) (hi : K ≤ i) (hi8 : i < 8) : bt_ A i = false := by
  have key : ∀ K : Nat, K < 9 → ∀ a : Nat, a < 256 → ∀ i : Nat, i < 8 → K ≤ i → ((a : Int) < (rp_kset K).toInt) → bt_ (Int32.ofInt (a : Int)) i = false := by decide +kernel
  have h9 := (rp_kset_9 hK).2
  have e : A = Int32.ofInt ((A.toInt.toNat : Nat) : Int) := by
    rw [Int.toNat_of_nonneg h0, am_oio]
  rw [e]
  exact key K (by omega) A.toInt.toNat (by omega) i hi8 hi (by omega)
/-- one pair's worth -/
def lp_ (t : Nat → Int32) (A B : Int32) (i j : Nat) : Int := if bt_ A i = true ∧ bt_ B j = true then (t (8 * i + j)).toInt else 0
def lg_ (t : Nat → Int32) (A B : Int32) (K : Nat) : Int := sm_ (fun i => sm_ (fun j => lp_ t A B i j) K) K
theorem lp_rng {t : Nat → Int32} (ht : ∀ i, i < 64 → -9 ≤ (t i).toInt ∧ (t i).toInt ≤ 9) {A B : Int32} {i j : Nat} (hi : i < 8) (hj : j < 8) : -9 ≤ lp_ t A B i j ∧ lp_ t A B i j ≤ 9 := by
  unfold lp_
  split
  · exact ht _ (by omega)
  · exact ⟨by decide, by decide⟩
theorem lr_rng {t : Nat → Int32} (ht : ∀ i, i < 64 → -9 ≤ (t i).toInt ∧ (t i).toInt ≤ 9) {A B : Int32} {i j : Nat} (hi : i < 8) (hj : j ≤ 8) : -72 ≤ sm_ (fun j => lp_ t A B i j) j ∧ sm_ (fun j => lp_ t A B i j) j ≤ 72 := by
  have := sm_rng (f := fun j => lp_ t A B i j) (b := 9) j (fun k hk => lp_rng ht hi (by omega))
  omega
theorem lg_8 {t : Nat → Int32} {A B : Int32} {K : Nat} (hK : K ≤ 8) (a0 : 0 ≤ A.toInt) (a1 : A.toInt < (rp_kset K).toInt) (b0 : 0 ≤ B.toInt) (b1 : B.toInt < (rp_kset K).toInt) : lg_ t A B 8 = lg_ t A B K := by
  unfold lg_
  have inner : ∀ i, sm_ (fun j => lp_ t A B i j) 8 = sm_ (fun j => lp_ t A B i j) K := by
    intro i
    rw [show 8 = K + (8 - K) by omega]
    refine sm_more _ (fun j h1 h2 => ?_)
    show lp_ t A B i j = 0
    unfold lp_
    rw [if_neg (fun c => by rw [bt_hi hK b0 b1 h1 (by omega)] at c; exact absurd c.2 (by decide))]
  rw [sm_congr 8 (fun i _ => inner i), show 8 = K + (8 - K) by omega]
  refine sm_more _ (fun i h1 h2 => sm_zero K (fun j hj => ?_))
  unfold lp_
  rw [if_neg (fun c => by rw [bt_hi hK a0 a1 h1 (by omega)] at c; exact absurd c.1 (by decide))]
theorem lg_sym {t : Nat → Int32} {A B : Int32} {K : Nat} (hK : K ≤ 8) (hs : ∀ i j, i < 8 → j < 8 → t (8 * i + j) = t (8 * j + i)) : lg_ t A B K = lg_ t B A K := by
  unfold lg_
  rw [sm_swap]
  refine sm_congr K (fun i hi => sm_congr K (fun j hj => ?_))
  unfold lp_
  by_cases c : bt_ B i = true ∧ bt_ A j = true
  · rw [if_pos ⟨c.2, c.1⟩, if_pos c, hs j i (by omega) (by omega)]
  · rw [if_neg (fun q => c ⟨q.2, q.1⟩), if_neg c]
theorem lg_congr {t u : Nat → Int32} {A B : Int32} {K : Nat} (hK : K ≤ 8) (h : ∀ i, i < 64 → t i = u i) : lg_ t A B K = lg_ u A B K := by
  unfold lg_
  refine sm_congr K (fun i hi => sm_congr K (fun j hj => ?_))
  unfold lp_
  rw [h (8 * i + j) (by omega)]
theorem lg_rng {t : Nat → Int32} (ht : ∀ i, i < 64 → -9 ≤ (t i).toInt ∧ (t i).toInt ≤ 9) {A B : Int32} {K : Nat} (hK : K ≤ 8) : -576 ≤ lg_ t A B K ∧ lg_ t A B K ≤ 576 := by
  have := sm_rng (f := fun i => sm_ (fun j => lp_ t A B i j) K) (b := 72) K (fun k hk => lr_rng ht (by omega) hK)
  unfold lg_
  omega
section LK
variable {s : sg_S} {x1 x2 : Int32}
theorem sx_sum (ht : ∀ i, i < 64 → -9 ≤ (s.2.2.1 23 i).toInt ∧ (s.2.2.1 23 i).toInt ≤ 9) : am_SpI 117 [.ref 22, .int x1, .int x2] s (fun r s2 => s2 = s ∧ r.toInt = lg_ (s.2.2.1 23) x1 x2 8) := by
  refine wp_XValues_sumOf_ok
    (I5 := fun l3 l4 s1 => s1 = s ∧ ∃ i : Nat, l4.toInt = (i : Int) ∧ i ≤ 8 ∧ l3.toInt = sm_ (fun i => sm_ (fun j => lp_ (s.2.2.1 23) x1 x2 i j) 8) i)
    (I15 := fun l3 l4 l5 s1 => s1 = s ∧ ∃ i j : Nat, l4.toInt = (i : Int) ∧ i < 8 ∧ l5.toInt = (j : Int) ∧ j ≤ 8 ∧ l3.toInt = sm_ (fun i => sm_ (fun j => lp_ (s.2.2.1 23) x1 x2 i j) 8) i + sm_ (fun j => lp_ (s.2.2.1 23) x1 x2 i j) j) ?_ ?_ ⟨rfl, 0, rfl, by omega, rfl⟩
  · intro l3 l4 s1 hI
    obtain ⟨rfl, i, hi, hi8, e⟩ := hI
    unfold wp_XValues_sumOf_5
    simp only [hi]
    exact ⟨fun c => ⟨trivial, i, 0, rfl, by omega, rfl, by omega, by rw [e]; show _ = _ + 0; omega⟩, fun c => ⟨trivial, by rw [e, show i = 8 by omega]; rfl⟩⟩
  · intro l3 l4 l5 s1 hI
    obtain ⟨rfl, i, j, hi, hi8, hj, hj8, e⟩ := hI
    have hr1 := sm_rng (f := fun i => sm_ (fun j => lp_ (s1.2.2.1 23) x1 x2 i j) 8) (b := 72) i (fun k hk => lr_rng ht (by omega) (Nat.le_refl _))
    have hr2 := lr_rng (A := x1) (B := x2) (i := i) (j := j) ht hi8 hj8
    have el4 : l4 = Int32.ofInt (i : Int) := rx_ofI hi
    have el5 : l5 = Int32.ofInt (j : Int) := rx_ofI hj
    have hinc4 : (l4 + Int32.ofInt 1).toInt = ((i + 1 : Nat) : Int) := by
      rw [i32_inc (c := 0) (by omega) (by omega), hi]
      rfl
    have rowst : sm_ (fun j => lp_ (s1.2.2.1 23) x1 x2 i j) (j + 1) = sm_ (fun j => lp_ (s1.2.2.1 23) x1 x2 i j) j + lp_ (s1.2.2.1 23) x1 x2 i j := rfl
    have colst : sm_ (fun i => sm_ (fun j => lp_ (s1.2.2.1 23) x1 x2 i j) 8) (i + 1) = sm_ (fun i => sm_ (fun j => lp_ (s1.2.2.1 23) x1 x2 i j) 8) i + sm_ (fun j => lp_ (s1.2.2.1 23) x1 x2 i j) 8 := rfl
    unfold wp_XValues_sumOf_15
    refine ⟨fun c1 => ⟨fun c2 => ?_, fun c2 => ⟨fun c3 => ?_, fun c3 _ _ => ?_⟩⟩, fun c1 => ?_⟩
    · -- no bit of the first
      have hb : bt_ x1 i = false := by
        unfold bt_
        rw [← el4, c2]
        rfl
      have z : ∀ n, sm_ (fun j => lp_ (s1.2.2.1 23) x1 x2 i j) n = 0 := fun n => sm_zero n (fun k _ => by
        unfold lp_
        rw [if_neg (fun c => by rw [hb] at c; exact absurd c.1 (by decide))])
      refine ⟨rfl, i + 1, hinc4, by omega, ?_⟩
      rw [colst, z 8, e, z j]
    · have hb : bt_ x2 j = false := by
        unfold bt_
        rw [← el5, c3]
        rfl
      refine ⟨rfl, i, j + 1, hi, hi8, ?_, by omega, ?_⟩
      · rw [i32_inc (c := 0) (by omega) (by omega), hj]
        rfl
      · rw [rowst, e]
        unfold lp_
        rw [if_neg (fun c => by rw [hb] at c; exact absurd c.2 (by decide))]
        omega
    · have hb1 : bt_ x1 i = true := by
        unfold bt_
        rw [← el4, Bool.not_eq_true', decide_eq_false_iff_not]
        exact c2
      have hb2 : bt_ x2 j = true := by
        unfold bt_
        rw [← el5, Bool.not_eq_true', decide_eq_false_iff_not]
        exact c3
      have e8 : (Int32.ofInt 8).toInt = 8 := rfl
      have m1 : (l4 * Int32.ofInt 8).toInt = (i : Int) * 8 := by rw [i32_mul (by rw [e8]; omega) (by rw [e8]; omega), e8, hi]
      have ix : (l4 * Int32.ofInt 8 + l5).toInt.toNat = 8 * i + j := by
        rw [i32_add (by omega) (by omega), m1, hj]
        omega
      have hv := ht (8 * i + j) (by omega)
      rw [ix]
      refine ⟨rfl, i, j + 1, hi, hi8, ?_, by omega, ?_⟩
      · rw [i32_inc (c := 0) (by omega) (by omega), hj]
        rfl
      · have hl : lp_ (s1.2.2.1 23) x1 x2 i j = (s1.2.2.1 23 (8 * i + j)).toInt := by
          unfold lp_
          rw [if_pos ⟨hb1, hb2⟩]
        rw [rowst, hl, i32_add (by omega) (by omega), e]
        omega
    · refine ⟨rfl, i + 1, hinc4, by omega, ?_⟩
      have : j = 8 := by omega
      subst this
      rw [colst, e]
theorem sm_lik {K : Nat} (hK : K ≤ 8) (hk : (s.1 64 21).toInt = (K : Int)) (ht : ∀ i, i < 64 → -9 ≤ (s.2.2.1 81 i).toInt ∧ (s.2.2.1 81 i).toInt ≤ 9) : am_SpI 180 [.ref 64, .int x1, .int x2] s (fun r s2 => s2 = s ∧ r.toInt = lg_ (s.2.2.1 81) x1 x2 K) := by
  have z0 : (Int32.ofInt 0).toInt = 0 := rfl
  refine wp_M_likingOf_ok
    (I5 := fun l3 l4 s1 => s1 = s ∧ ∃ i : Nat, l4.toInt = (i : Int) ∧ i ≤ K ∧ l3.toInt = sm_ (fun i => sm_ (fun j => lp_ (s.2.2.1 81) x1 x2 i j) K) i)
    (I17 := fun l3 l4 l5 s1 => s1 = s ∧ ∃ i j : Nat, l4.toInt = (i : Int) ∧ i < K ∧ l5.toInt = (j : Int) ∧ j ≤ K ∧ l3.toInt = sm_ (fun i => sm_ (fun j => lp_ (s.2.2.1 81) x1 x2 i j) K) i + sm_ (fun j => lp_ (s.2.2.1 81) x1 x2 i j) j) ?_ ?_ ⟨rfl, 0, rfl, by omega, rfl⟩
  · intro l3 l4 s1 hI
    obtain ⟨rfl, i, hi, hi8, e⟩ := hI
    unfold wp_M_likingOf_5
    simp only [hi, hk]
    exact ⟨fun c => ⟨trivial, i, 0, rfl, by omega, rfl, by omega, by rw [e]; show _ = _ + 0; omega⟩, fun c => ⟨trivial, by rw [e, show i = K by omega]; rfl⟩⟩
  · intro l3 l4 l5 s1 hI
    obtain ⟨rfl, i, j, hi, hi8, hj, hj8, e⟩ := hI
    have hr1 := sm_rng (f := fun i => sm_ (fun j => lp_ (s1.2.2.1 81) x1 x2 i j) K) (b := 72) i (fun k hk => lr_rng ht (by omega) hK)
    have hr2 := lr_rng (A := x1) (B := x2) (i := i) (j := j) ht (by omega) (by omega)
    have el4 : l4 = Int32.ofInt (i : Int) := rx_ofI hi
    have el5 : l5 = Int32.ofInt (j : Int) := rx_ofI hj
    have hinc4 : (l4 + Int32.ofInt 1).toInt = ((i + 1 : Nat) : Int) := by
      rw [i32_inc (c := 0) (by omega) (by omega), hi]
      rfl
    have hinc5 : j < K → (l5 + Int32.ofInt 1).toInt = ((j + 1 : Nat) : Int) := fun _ => by
      rw [i32_inc (c := 0) (by omega) (by omega), hj]
      rfl
    have rowst : sm_ (fun j => lp_ (s1.2.2.1 81) x1 x2 i j) (j + 1) = sm_ (fun j => lp_ (s1.2.2.1 81) x1 x2 i j) j + lp_ (s1.2.2.1 81) x1 x2 i j := rfl
    have colst : sm_ (fun i => sm_ (fun j => lp_ (s1.2.2.1 81) x1 x2 i j) K) (i + 1) = sm_ (fun i => sm_ (fun j => lp_ (s1.2.2.1 81) x1 x2 i j) K) i + sm_ (fun j => lp_ (s1.2.2.1 81) x1 x2 i j) K := rfl
    have none_ : j < K → lp_ (s1.2.2.1 81) x1 x2 i j = 0 → s1 = s1 ∧ ∃ i j : Nat, l4.toInt = (i : Int) ∧ i < K ∧ (l5 + Int32.ofInt 1).toInt = (j : Int) ∧ j ≤ K ∧ (l3 + Int32.ofInt 0).toInt = sm_ (fun i => sm_ (fun j => lp_ (s1.2.2.1 81) x1 x2 i j) K) i + sm_ (fun j => lp_ (s1.2.2.1 81) x1 x2 i j) j := by
      intro h1 h2
      refine ⟨rfl, i, j + 1, hi, hi8, hinc5 h1, by omega, ?_⟩
      rw [rowst, h2, i32_add (by omega) (by omega), e, z0]
      omega
    unfold wp_M_likingOf_17
    refine ⟨fun c1 => ⟨fun c2 => ⟨fun c3 _ _ => ?_, fun c3 => none_ (by omega) ?_⟩, fun c2 => none_ (by omega) ?_⟩, fun c1 => ?_⟩
    · have hb1 : bt_ x1 i = true := by
        unfold bt_
        rw [← el4, Bool.not_eq_true', decide_eq_false_iff_not]
        omega
      have hb2 : bt_ x2 j = true := by
        unfold bt_
        rw [← el5, Bool.not_eq_true', decide_eq_false_iff_not]
        omega
      have e8 : (Int32.ofInt 8).toInt = 8 := rfl
      have m1 : (Int32.ofInt 8 * l4).toInt = 8 * (i : Int) := by rw [i32_mul (by rw [e8]; omega) (by rw [e8]; omega), e8, hi]
      have ix : (Int32.ofInt 8 * l4 + l5).toInt.toNat = 8 * i + j := by
        rw [i32_add (by omega) (by omega), m1, hj]
        omega
      have hv := ht (8 * i + j) (by omega)
      rw [ix]
      refine ⟨rfl, i, j + 1, hi, hi8, hinc5 (by omega), by omega, ?_⟩
      have hl : lp_ (s1.2.2.1 81) x1 x2 i j = (s1.2.2.1 81 (8 * i + j)).toInt := by
        unfold lp_
        rw [if_pos ⟨hb1, hb2⟩]
      rw [rowst, hl, i32_add (by omega) (by omega), e]
      omega
    · have hb2 : bt_ x2 j = false := by
        unfold bt_
        rw [← el5, Bool.not_eq_false', decide_eq_true_eq]
        rcases i32_and1 (x2 >>> (l5 &&& 31)) with q | q
        · exact q
        · exact absurd q c3
      unfold lp_
      rw [if_neg (fun c => by rw [hb2] at c; exact absurd c.2 (by decide))]
    · have hb1 : bt_ x1 i = false := by
        unfold bt_
        rw [← el4, Bool.not_eq_false', decide_eq_true_eq]
        rcases i32_and1 (x1 >>> (l4 &&& 31)) with q | q
        · exact q
        · exact absurd q c2
      unfold lp_
      rw [if_neg (fun c => by rw [hb1] at c; exact absurd c.1 (by decide))]
    · refine ⟨rfl, i + 1, hinc4, by omega, ?_⟩
      have : j = K := by omega
      subst this
      rw [colst, e]
/-- linked: a kind together, or a liking above 0 -/
def ln_ (t : Nat → Int32) (A B : Int32) (K : Nat) : Prop := ¬ (A &&& B).toInt = 0 ∨ 0 < lg_ t A B K
theorem ln_sym {t : Nat → Int32} {A B : Int32} {K : Nat} (hK : K ≤ 8) (hs : ∀ i j, i < 8 → j < 8 → t (8 * i + j) = t (8 * j + i)) : ln_ t A B K ↔ ln_ t B A K := by
  unfold ln_
  rw [lg_sym hK hs, Int32.and_comm]
theorem sx_linked (ht : ∀ i, i < 64 → -9 ≤ (s.2.2.1 23 i).toInt ∧ (s.2.2.1 23 i).toInt ≤ 9) : am_SpI 116 [.ref 22, .int x1, .int x2] s (bo_ (ln_ (s.2.2.1 23) x1 x2 8) s) := by
  refine wp_XValues_areLinked_ok ?_
  unfold wp_XValues_areLinked
  refine ⟨fun c => (sx_sum ht).mono (fun r s2 h => ?_), fun c => bo_1 (Or.inl c)⟩
  obtain ⟨rfl, h⟩ := h
  rw [h]
  exact ⟨fun c2 => bo_1 (Or.inr c2), fun c2 => bo_0 (fun z => by rcases z with z | z; exact z c; exact c2 z)⟩
theorem sm_linked {K : Nat} (hK : K ≤ 8) (hk : (s.1 64 21).toInt = (K : Int)) (ht : ∀ i, i < 64 → -9 ≤ (s.2.2.1 81 i).toInt ∧ (s.2.2.1 81 i).toInt ≤ 9) : am_SpI 190 [.ref 64, .int x1, .int x2] s (bo_ (ln_ (s.2.2.1 81) x1 x2 K) s) := by
  refine wp_M_areLinked_ok ?_
  unfold wp_M_areLinked
  refine ⟨fun c => (sm_lik hK hk ht).mono (fun r s2 h => ?_), fun c => bo_1 (Or.inl c)⟩
  obtain ⟨rfl, h⟩ := h
  rw [h]
  exact ⟨fun c2 => bo_1 (Or.inr c2), fun c2 => bo_0 (fun z => by rcases z with z | z; exact z c; exact c2 z)⟩
end LK
