/-! ===== ends: the sets that may come (X's Candidates), and what an ending asks of places ===== -/
/-- the n sets cs stand gathered, with the rules that each has -/
def xk_ (ϖ : ep_) (n : Nat) (cs : Nat → Int32) (s : sg_S) : Prop := ((s.1 50 4).toInt = (n : Int) ∧ n ≤ 16) ∧ ∀ t, t < n → s.2.2.1 51 t = cs t ∧ ∀ q, q < 32 → (bt_ (s.2.2.1 52 t) q = true ↔ q < ϖ.1.2.2.1 ∧ hb_ (rp_rl ϖ.1 q).2.1 (cs t) = true)
/-- what is known of links is right -/
def xlk_ (tb : Nat → Int32) (n : Nat) (cs : Nat → Int32) (s : sg_S) : Prop := ∀ a, a < 256 → (s.2.2.1 53 a).toInt = -1 ∨ ∀ j, j < 32 → (bt_ (s.2.2.1 53 a) j = true ↔ j < n ∧ ln_ tb (Int32.ofInt (a : Int)) (cs j) 8)
theorem rx_fill53 {s : sg_S} {v : Int32} : am_SpV 213 [.ref 53, .int v] s (fun s2 => sg_fr [] [53] s s2 ∧ ∀ i, i < 256 → s2.2.2.1 53 i = v) := by
  refine wp_Arrays_fill_53_ok (I5 := fun l2 l3 s1 => sg_fr [] [53] s s1 ∧ l3.toInt = 256 ∧ ∃ k : Nat, l2.toInt = (k : Int) ∧ k ≤ 256 ∧ ∀ i, i < k → s1.2.2.1 53 i = v) ?_ ⟨sg_fr.rf, rfl, 0, rfl, Nat.zero_le _, fun i hi => absurd hi (Nat.not_lt_zero i)⟩
  intro l2 l3 s1 hI
  obtain ⟨f, h3, k, hk, hk2, h⟩ := hI
  unfold wp_Arrays_fill_53_5
  simp only [hk, h3, Int.toNat_natCast]
  refine ⟨fun c1 _ _ => ⟨f.uA rfl, trivial, k + 1, ?_, by omega, sg_Af (P := fun _ x => x = v) h rfl rfl⟩, fun c1 => ⟨f, fun i hi => h i (by omega)⟩⟩
  rw [i32_inc (c := 0) (by omega) (by omega), hk]
  rfl
section CA
variable {s : sg_S} {x1 x2 : Int32} {ϖ : ep_} {n : Nat} {cs : Nat → Int32}
theorem xc_clear {tb : Nat → Int32} : am_SpV 6 [.ref 50] s (fun s2 => sg_fr [(50, 4)] [53] s s2 ∧ (s2.1 50 4).toInt = 0 ∧ ∀ i, i < 256 → (s2.2.2.1 53 i).toInt = -1) := by
  refine wp_XCandidates_clear_ok ?_
  unfold wp_XCandidates_clear
  refine rx_fill53.mono (fun s2 h => ?_)
  obtain ⟨f, h⟩ := h
  have f0 : sg_fr [(50, 4)] [53] s (sg_uI s 50 4 (Int32.ofInt 0)) := sg_fr.rf.uI rfl
  refine ⟨f0.tr (f.le (by decide) (by decide)), ?_, fun i hi => by rw [h i hi]; rfl⟩
  rw [f.i rfl]
  rfl
theorem xc_add (hU : rx_RU ϖ.1 s) (h12 : ϖ.1.2.2.1 ≤ 12) (hk : xk_ ϖ n cs s) (hn : n < 16) : am_SpV 7 [.ref 50, .int x1] s (fun s2 => sg_fr [(50, 4)] [51, 52] s s2 ∧ xk_ ϖ (n + 1) (fun t => if t = n then x1 else cs t) s2) := by
  obtain ⟨⟨k1, k2⟩, k3⟩ := hk
  refine wp_XCandidates_add_ok (I14 := fun l2 l3 s1 => s1 = s ∧ ∃ k : Nat, l3.toInt = (k : Int) ∧ k ≤ ϖ.1.2.2.1 ∧ ∀ q, q < 32 → (bt_ l2 q = true ↔ q < k ∧ hb_ (rp_rl ϖ.1 q).2.1 x1 = true)) ?_ ?_
  · intro l2 l3 s1 hI
    obtain ⟨q1, k, hk, hkR, b⟩ := hI
    subst q1
    unfold wp_XCandidates_add_14
    rw [hU.2.2.1, hk, k1, Int.toNat_natCast]
    refine ⟨fun c => ?_, fun c _ _ => ?_⟩
    · have hinc : (l3 + Int32.ofInt 1).toInt = ((k + 1 : Nat) : Int) := by
        rw [i32_inc (c := 0) (by omega) (by omega), hk]
        rfl
      refine (sx_had (x2 := x1) hU hk (by omega)).mono (fun y s2 hy => ?_)
      have hno := hy.no
      have hyes := hy.yes
      have q2 := hy.eq
      subst q2
      refine ⟨fun c2 => ⟨rfl, k + 1, hinc, by omega, fun q hq => ?_⟩, fun c2 => ⟨rfl, k + 1, hinc, by omega, fun q hq => ?_⟩⟩
      · rw [b q hq]
        refine ⟨fun z => ⟨by omega, z.2⟩, fun z => ⟨?_, z.2⟩⟩
        have : ¬ q = k := fun e => by rw [e] at z; exact hno c2 z.2
        omega
      · rw [bt_o1 hk (by omega) hq, b q hq]
        constructor
        · rintro (z | z)
          · exact ⟨by omega, z.2⟩
          · rw [z]
            exact ⟨by omega, hyes c2⟩
        · intro z
          by_cases e : q = k
          · exact Or.inr e
          · exact Or.inl ⟨by omega, z.2⟩
    · have hkk : k = ϖ.1.2.2.1 := by omega
      subst hkk
      refine ⟨((sg_fr.rf.uA rfl).uA rfl).uI rfl, ⟨?_, by omega⟩, fun t ht => ?_⟩
      · show (s1.1 50 4 + Int32.ofInt 1).toInt = _
        rw [i32_inc (c := 0) (by omega) (by omega), k1]
        rfl
      · show (sg_uA (sg_uA s1 51 n x1) 52 n l2).2.2.1 51 t = _ ∧ ∀ q, q < 32 → (bt_ ((sg_uA (sg_uA s1 51 n x1) 52 n l2).2.2.1 52 t) q = true ↔ _)
        by_cases e : t = n
        · subst e
          rw [sg_A1, sg_A2 (fun z => absurd z.1 (by decide)), sg_A1]
          show x1 = (if t = t then x1 else cs t) ∧ ∀ q, q < 32 → (bt_ l2 q = true ↔ q < ϖ.1.2.2.1 ∧ hb_ (rp_rl ϖ.1 q).2.1 (if t = t then x1 else cs t) = true)
          rw [if_pos rfl]
          exact ⟨rfl, b⟩
        · rw [sg_A2 (fun z => absurd z.1 (by decide)), sg_A2 (fun z => e z.2), sg_A2 (fun z => e z.2), sg_A2 (fun z => absurd z.1 (by decide))]
          show s1.2.2.1 51 t = (if t = n then x1 else cs t) ∧ ∀ q, q < 32 → (bt_ (s1.2.2.1 52 t) q = true ↔ q < ϖ.1.2.2.1 ∧ hb_ (rp_rl ϖ.1 q).2.1 (if t = n then x1 else cs t) = true)
          rw [if_neg e]
          exact k3 t (by omega)
  · unfold wp_XCandidates_add
    rw [k1]
    exact ⟨fun _ => ⟨rfl, 0, rfl, Nat.zero_le _, fun q hq => by rw [bt_z hq]; exact ⟨fun z => (by cases z), fun z => by omega⟩⟩, fun c => absurd (show (n : Int) < 16 by omega) c⟩
theorem bt_m1 {A : Int32} {n : Nat} (hn : n ≤ 16) (h : ∀ j, j < 32 → bt_ A j = true → j < n) : ¬ A.toInt = -1 := by
  intro e
  have : A = Int32.ofInt (-1) := by rw [← am_oio A, e]
  subst this
  have := h 20 (by omega) (by decide)
  omega
/-- with which sets is one linked? -/
theorem xc_linked {tb : Nat → Int32} {a : Nat} (ht : ∀ i, i < 64 → -9 ≤ (tb i).toInt ∧ (tb i).toInt ≤ 9) (h23 : ∀ i, i < 64 → s.2.2.1 23 i = tb i) (hk : xk_ ϖ n cs s) (hl : xlk_ tb n cs s) (h1 : x1.toInt = (a : Int)) (ha : a < 256) : am_SpI 8 [.ref 50, .int x1] s (fun r s2 => sg_fr [] [53] s s2 ∧ xlk_ tb n cs s2 ∧ ∀ j, j < 32 → (bt_ r j = true ↔ j < n ∧ ln_ tb (Int32.ofInt (a : Int)) (cs j) 8)) := by
  obtain ⟨⟨k1, k2⟩, k3⟩ := hk
  have ex : x1 &&& Int32.ofInt 255 = x1 := y_m255 (by omega) (by omega)
  have eo : x1 = Int32.ofInt (a : Int) := rx_ofI h1
  have lc : ∀ A B : Int32, ln_ (s.2.2.1 23) A B 8 ↔ ln_ tb A B 8 := fun A B => by
    unfold ln_
    rw [lg_congr (Nat.le_refl 8) h23]
  refine wp_XCandidates_linkedTo_ok (I21 := fun l2 l3 l4 s1 => s1 = s ∧ l2 = x1 ∧ ∃ i : Nat, l4.toInt = (i : Int) ∧ i ≤ n ∧ ∀ j, j < 32 → (bt_ l3 j = true ↔ j < i ∧ ln_ tb (Int32.ofInt (a : Int)) (cs j) 8)) ?_ ?_
  · intro l2 l3 l4 s1 hI
    obtain ⟨q1, q2, i, hi, hin, b⟩ := hI
    subst q1
    subst q2
    unfold wp_XCandidates_linkedTo_21
    rw [k1, hi, h1, Int.toNat_natCast, Int.toNat_natCast]
    refine ⟨fun c _ _ => ?_, fun c _ _ => ?_⟩
    · have hinc : (l4 + Int32.ofInt 1).toInt = ((i + 1 : Nat) : Int) := by
        rw [i32_inc (c := 0) (by omega) (by omega), hi]
        rfl
      rw [(k3 i (by omega)).1]
      refine (sx_linked (x1 := l2) (x2 := cs i) (fun i hi => by rw [h23 i hi]; exact ht i hi)).mono (fun y s2 hy => ?_)
      have hno := hy.no
      have hyes := hy.yes
      have q2 := hy.eq
      subst q2
      rw [lc, eo] at hno hyes
      refine ⟨fun c2 => ⟨rfl, rfl, i + 1, hinc, by omega, fun j hj => ?_⟩, fun c2 => ⟨rfl, rfl, i + 1, hinc, by omega, fun j hj => ?_⟩⟩
      · rw [b j hj]
        refine ⟨fun z => ⟨by omega, z.2⟩, fun z => ⟨?_, z.2⟩⟩
        have : ¬ j = i := fun e => by rw [e] at z; exact hno c2 z.2
        omega
      · rw [bt_o1 hi (by omega) hj, b j hj]
        constructor
        · rintro (z | z)
          · exact ⟨by omega, z.2⟩
          · rw [z]
            exact ⟨by omega, hyes c2⟩
        · intro z
          by_cases e : j = i
          · exact Or.inr e
          · exact Or.inl ⟨by omega, z.2⟩
    · have hii : i = n := by omega
      subst hii
      rw [sg_A1]
      refine ⟨sg_fr.rf.uA rfl, fun d hd => ?_, b⟩
      by_cases e : d = a
      · subst e
        rw [sg_A1]
        exact Or.inr b
      · rw [sg_A2 (fun z => e z.2)]
        exact hl d hd
  · unfold wp_XCandidates_linkedTo
    rw [ex, h1, Int.toNat_natCast]
    intro _ _
    refine ⟨fun c => ⟨rfl, rfl, 0, rfl, Nat.zero_le _, fun q hq => by rw [bt_z hq]; exact ⟨fun z => (by cases z), fun z => by omega⟩⟩, fun c => ⟨sg_fr.rf, hl, ?_⟩⟩
    rcases hl a ha with z | z
    · exact absurd z c
    · exact z
/-- is there a rule of the sort? -/
theorem xc_sort {so : Int} (hU : rx_RU ϖ.1 s) (h12 : ϖ.1.2.2.1 ≤ 12) (h1 : x1.toInt = so) : am_SpI 79 [.ref 1, .int x1] s (bo_ (∃ k, k < ϖ.1.2.2.1 ∧ (rp_rl ϖ.1 k).1.toInt = so) s) := by
  refine wp_XRules_hasSort_1_ok (I2 := fun l s1 => s1 = s ∧ ∃ i : Nat, l.toInt = (i : Int) ∧ i ≤ ϖ.1.2.2.1 ∧ ∀ k, k < i → ¬ (rp_rl ϖ.1 k).1.toInt = so) ?_ ⟨rfl, 0, rfl, Nat.zero_le _, fun k hk => absurd hk (Nat.not_lt_zero k)⟩
  intro l s1 hI
  obtain ⟨q1, i, hi, hiR, hn⟩ := hI
  subst q1
  unfold wp_XRules_hasSort_1_2
  rw [hU.2.2.1, hi, h1, Int.toNat_natCast]
  refine ⟨fun c _ _ => ?_, fun c => bo_0 (fun z => ?_)⟩
  · rw [(hU.2.2.2.2.2 i (by omega)).1]
    refine ⟨fun c2 => bo_1 ⟨i, by omega, c2⟩, fun c2 => ⟨rfl, i + 1, ?_, by omega, fun k hk => ?_⟩⟩
    · rw [i32_inc (c := 0) (by omega) (by omega), hi]
      rfl
    · by_cases e : k = i
      · rw [e]; exact c2
      · exact hn k (by omega)
  · obtain ⟨k, k1, k2⟩ := z
    exact hn k (by omega) k2
/-- what X keeps of the sheet and the types is what the parameters say -/
def xe_ (ϖ : ep_) (s : sg_S) : Prop := rx_RU ϖ.1 s ∧ (∀ i, i < 64 → s.2.2.1 23 i = ϖ.2.1 i) ∧ (s.1 28 2).toInt = (ϖ.2.2.1 : Int) ∧ (∀ i, i < ϖ.2.2.1 → s.2.2.1 33 (i + 1) = ϖ.2.2.2.1 i ∧ s.2.2.1 30 (i + 1) = ϖ.2.2.2.2.1 i) ∧ (s.1 35 3).toInt = (ϖ.2.2.2.2.2.2 : Int) ∧ ∀ i, i < ϖ.2.2.2.2.2.2 → s.2.2.1 36 i = ϖ.2.2.2.2.2.1 i
theorem xe_.fr {s2 : sg_S} {mo : List (Nat × Nat)} {ao : List Nat} (h : xe_ ϖ s) (f : sg_fr mo ao s s2) (h1 : ([(1, 0), (1, 1), (1, 2), (1, 3), (1, 4), (28, 2), (35, 3)].all (fun q => !mo.contains q)) = true) (h2 : ([4, 5, 6, 7, 23, 30, 33, 36].all (fun q => !ao.contains q)) = true) : xe_ ϖ s2 := by
  have fi : ∀ b j, (b, j) ∈ [(1, 0), (1, 1), (1, 2), (1, 3), (1, 4), (28, 2), (35, 3)] → s2.1 b j = s.1 b j := fun b j hm => f.i (by have := List.all_eq_true.mp h1 _ hm; simpa using this)
  have fa : ∀ b, b ∈ [4, 5, 6, 7, 23, 30, 33, 36] → s2.2.2.1 b = s.2.2.1 b := fun b hm => f.a (by have := List.all_eq_true.mp h2 _ hm; simpa using this)
  unfold xe_ rx_RU
  rw [fi 1 0 (by decide), fi 1 1 (by decide), fi 1 2 (by decide), fi 1 3 (by decide), fi 1 4 (by decide), fi 28 2 (by decide), fi 35 3 (by decide), fa 4 (by decide), fa 5 (by decide), fa 6 (by decide), fa 7 (by decide), fa 23 (by decide), fa 30 (by decide), fa 33 (by decide), fa 36 (by decide)]
  exact h
theorem sx_told {m : Nat} {P : Nat} (hm : (s.1 28 2).toInt = (m : Int)) (h1 : x1.toInt = (P : Int)) : am_SpI 91 [.ref 28, .int x1] s (bo_ (1 ≤ P ∧ P ≤ m) s) := by
  refine wp_XSheet_isTold_ok ?_
  unfold wp_XSheet_isTold
  rw [hm, h1]
  exact ⟨fun c => bo_0 (by omega), fun c => ⟨fun c2 => bo_0 (by omega), fun c2 => bo_1 (by omega)⟩⟩
/-- a place that stands: told and not worn -/
theorem xe_stands {P : Nat} (h : xe_ ϖ s) (hP : 1 ≤ P ∧ P ≤ 48) (h1 : x1.toInt = (P : Int)) : am_SpI 16 [.ref 35, .int x1] s (bo_ (fd_ ϖ (P - 1)) s) := by
  obtain ⟨hU, h23, hm, hsh, hnt, h36⟩ := h
  refine wp_XEnding_stands_ok ?_
  unfold wp_XEnding_stands
  refine (sx_told (m := ϖ.2.2.1) hm h1).mono (fun y s2 hy => ?_)
  have hno := hy.no
  have hyes := hy.yes
  have q2 := hy.eq
  subst q2
  rw [h1, Int.toNat_natCast]
  refine ⟨fun c => bo_0 (fun z => hno c ⟨by omega, by have := z.1; omega⟩), fun c _ _ => ?_⟩
  have hy2 := hyes c
  have e := (hsh (P - 1) (by omega)).1
  rw [show P - 1 + 1 = P by omega] at e
  rw [e]
  exact ⟨fun c2 => bo_1 ⟨by omega, c2⟩, fun c2 => bo_0 (fun z => c2 z.2)⟩
theorem xe_count {P : Nat} (h : xe_ ϖ s) (hP : 1 ≤ P ∧ P ≤ 48) (h1 : x1.toInt = (P : Int)) : am_SpI 22 [.ref 35, .int x1] s (fun r s2 => s2 = s ∧ r.toInt = (ecn_ ϖ P : Int)) := by
  refine wp_XEnding_candidateCount_ok ?_
  unfold wp_XEnding_candidateCount
  refine (xe_stands h hP h1).mono (fun y s2 hy => ?_)
  have hno := hy.no
  have hyes := hy.yes
  have q2 := hy.eq
  subst q2
  refine ⟨fun c => ⟨rfl, ?_⟩, fun c => ⟨rfl, ?_⟩⟩
  · rw [ecn_n (hno c)]
    exact h.2.2.2.2.1
  · rw [ecn_y (hyes c)]
    rfl
theorem xe_row {P k : Nat} (h1 : x1.toInt = (P : Int)) (h2 : x2.toInt = (k : Int)) (hP : P ≤ 48) (hk : k ≤ 400) : am_SpI 19 [.int x1, .int x2] s (fun r s2 => s2 = s ∧ r.toInt = ((16 * (400 * P + k) : Nat) : Int)) := by
  refine wp_XEnding_rowOf_ok ?_
  unfold wp_XEnding_rowOf
  have e4 : (Int32.ofInt 400).toInt = 400 := rfl
  have e6 : (Int32.ofInt 16).toInt = 16 := rfl
  have m1 : (x1 * Int32.ofInt 400).toInt = (P : Int) * 400 := by rw [i32_mul (by rw [e4]; omega) (by rw [e4]; omega), e4, h1]
  have m2 : (x1 * Int32.ofInt 400 + x2).toInt = (P : Int) * 400 + (k : Int) := by rw [i32_add (by omega) (by omega), m1, h2]
  refine ⟨rfl, ?_⟩
  rw [i32_mul (by rw [e6]; omega) (by rw [e6]; omega), e6, m2]
  omega
end CA
