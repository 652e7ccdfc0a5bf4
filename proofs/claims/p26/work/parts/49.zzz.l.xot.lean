/-! ===== ends: a state is taken, and what it allows (X's Onward) ===== -/
theorem x_ext {x : Int32} {a : Int} (h : x.toInt = a) : x.toInt64.toInt = a := (Int32.toInt_toInt64 x).trans h
theorem no_48 {so a p n : Int} (h : no_ so a p n) (hp : p ≤ 48) : no_ so a 48 n := ⟨h.1, fun c => by have := h.2.1 c; omega, h.2.2.1, h.2.2.2⟩
/-- a number's part of the lower long, of the higher one -/
def pl_ (n : Int) (i : Nat) : Int := if i < 10 then n * p64_ i else 0
def ph_ (n : Int) (i : Nat) : Int := if i < 10 then 0 else n * p64_ (i - 10)
theorem pl_rng {n : Int} {i : Nat} (h : 0 ≤ n ∧ n < 64) : 0 ≤ pl_ n i ∧ pl_ n i < 1152921504606846976 := by
  unfold pl_
  have k2 : ∀ i : Nat, i < 10 → p64_ i ≤ 18014398509481984 := by decide
  by_cases c : i < 10
  · rw [if_pos c]
    have h0 := p64_pos i
    have h1 := k2 i c
    have h2 : n * p64_ i ≤ 63 * p64_ i := Int.mul_le_mul_of_nonneg_right (by omega) (by omega)
    have h3 : 0 ≤ n * p64_ i := Int.mul_nonneg h.1 (by omega)
    omega
  · rw [if_neg c]
    omega
theorem ph_rng {n : Int} {i : Nat} (h : 0 ≤ n ∧ n < 64) (hi : i < 12) : 0 ≤ ph_ n i ∧ ph_ n i < 4096 := by
  unfold ph_
  have k2 : ∀ i : Nat, i < 12 → p64_ (i - 10) ≤ 64 := by decide
  by_cases c : i < 10
  · rw [if_pos c]
    omega
  · rw [if_neg c]
    have h0 := p64_pos (i - 10)
    have h1 := k2 i hi
    have h2 : n * p64_ (i - 10) ≤ 63 * p64_ (i - 10) := Int.mul_le_mul_of_nonneg_right (by omega) (by omega)
    have h3 : 0 ≤ n * p64_ (i - 10) := Int.mul_nonneg h.1 (by omega)
    omega
theorem pl_sub {a b : Int} {i : Nat} : pl_ a i - pl_ b i = pl_ (a - b) i := by
  unfold pl_
  by_cases c : i < 10
  · rw [if_pos c, if_pos c, if_pos c, Int.sub_mul]
  · rw [if_neg c, if_neg c, if_neg c]
    rfl
theorem ph_sub {a b : Int} {i : Nat} : ph_ a i - ph_ b i = ph_ (a - b) i := by
  unfold ph_
  by_cases c : i < 10
  · rw [if_pos c, if_pos c, if_pos c]
    rfl
  · rw [if_neg c, if_neg c, if_neg c, Int.sub_mul]
theorem pl_s {g : Nat → Int} {i : Nat} : plo_ g (i + 1) = plo_ g i + pl_ (g i) i := by
  unfold pl_
  by_cases c : i < 10
  · rw [if_pos c]
    exact plo_s.1 c
  · rw [if_neg c, plo_s.2 c]
    omega
theorem ph_s {g : Nat → Int} {i : Nat} : phn_ g (i + 1) = phn_ g i + ph_ (g i) i := by
  unfold ph_
  by_cases c : i < 10
  · rw [if_pos c, phn_s.1 c]
    omega
  · rw [if_neg c]
    exact phn_s.2 c
theorem plo_0 {g : Nat → Int} : plo_ g 0 = 0 := rfl
theorem phn_0 {g : Nat → Int} : phn_ g 0 = 0 := rfl
section OT
variable {s : sg_S} {x1 x2 x3 x4 : Int32} {y1 : Int64} {ϖ : ep_} {C : Nat} {cnt : Nat → Nat}
theorem xo_low2 {i : Nat} {n : Int} (h1 : x1.toInt = (i : Int)) (hi : i < 12) (hn : y1.toInt = n) (hn2 : 0 ≤ n ∧ n < 64) : am_SpL 97 [.int x1, .long y1] s (fun r s2 => s2 = s ∧ r.toInt = pl_ n i) := (xo_low h1 hi hn hn2).mono (fun r s2 h => ⟨h.1, by
  unfold pl_
  by_cases c : i < 10
  · rw [if_pos c]; exact h.2.1 c
  · rw [if_neg c]; exact h.2.2 c⟩)
theorem xo_high2 {i : Nat} {n : Int} (h1 : x1.toInt = (i : Int)) (hi : i < 12) (hn : y1.toInt = n) (hn2 : 0 ≤ n ∧ n < 64) : am_SpL 98 [.int x1, .long y1] s (fun r s2 => s2 = s ∧ r.toInt = ph_ n i) := (xo_high h1 hi hn hn2).mono (fun r s2 h => ⟨h.1, by
  unfold ph_
  by_cases c : i < 10
  · rw [if_pos c]; exact h.2.1 c
  · rw [if_neg c]; exact h.2.2 c⟩)
theorem xo_numbers {i : Nat} {a b A B : Int} (h1 : x1.toInt = (i : Int)) (hi : i < 12) (ha : x2.toInt = a) (ha2 : 0 ≤ a ∧ a < 64) (hb : x3.toInt = b) (hb2 : 0 ≤ b ∧ b < 64) (hA : (s.2.1 54 8).toInt = A) (hA2 : 0 ≤ A ∧ A < 1152921504606846976) (hB : (s.2.1 54 9).toInt = B) (hB2 : 0 ≤ B ∧ B < 1152921504606846976) : am_SpV 30 [.ref 54, .int x1, .int x2, .int x3] s (fun s2 => sg_fr [(54, 8), (54, 9)] [56, 57] s s2 ∧ (s2.2.1 54 8).toInt = A + pl_ b i ∧ (s2.2.1 54 9).toInt = B + ph_ b i ∧ (s2.2.2.2.1 56 i).toInt = pl_ (a - b) i ∧ (s2.2.2.2.1 57 i).toInt = ph_ (a - b) i ∧ ∀ j, ¬ j = i → s2.2.2.2.1 56 j = s.2.2.2.1 56 j ∧ s2.2.2.2.1 57 j = s.2.2.2.1 57 j) := by
  refine wp_XOnward_takeNumbers_ok ?_
  unfold wp_XOnward_takeNumbers
  have e2 := x_ext ha
  have e3 := x_ext hb
  have a1 := pl_rng (i := i) ha2
  have a2 := ph_rng ha2 hi
  have b1 := pl_rng (i := i) hb2
  have b2 := ph_rng hb2 hi
  have ei : x1.toInt.toNat = i := by omega
  refine (xo_low2 h1 hi e3 hb2).mono (fun x4 s4 h4 => ?_)
  obtain ⟨q4, h4⟩ := h4
  subst q4
  refine (xo_high2 h1 hi e3 hb2).mono (fun x5 s5 h5 => ?_)
  obtain ⟨q5, h5⟩ := h5
  subst q5
  refine (xo_low2 h1 hi e2 ha2).mono (fun x6 s6 h6 => ?_)
  obtain ⟨q6, h6⟩ := h6
  subst q6
  refine (xo_low2 h1 hi e3 hb2).mono (fun x7 s7 h7 => ?_)
  obtain ⟨q7, h7⟩ := h7
  subst q7
  intro _ _
  refine (xo_high2 h1 hi e2 ha2).mono (fun x8 s8 h8 => ?_)
  obtain ⟨q8, h8⟩ := h8
  subst q8
  refine (xo_high2 h1 hi e3 hb2).mono (fun x9 s9 h9 => ?_)
  obtain ⟨q9, h9⟩ := h9
  subst q9
  intro _ _
  rw [ei]
  refine ⟨(((sg_fr.rf.uL rfl).uL rfl).uM rfl).uM rfl, ?_, ?_, ?_, ?_, fun j hj => ⟨?_, ?_⟩⟩
  · show (s4.2.1 54 8 + x4).toInt = _
    rw [x_add (by omega) (by omega), hA, h4]
  · show (s4.2.1 54 9 + x5).toInt = _
    rw [x_add (by omega) (by omega), hB, h5]
  · rw [sg_M2 (fun z => absurd z.1 (by decide)), sg_M1, x_sub (by omega) (by omega), h6, h7, pl_sub]
  · rw [sg_M1, x_sub (by omega) (by omega), h8, h9, ph_sub]
  · rw [sg_M2 (fun z => absurd z.1 (by decide)), sg_M2 (fun z => hj z.2)]
    rfl
  · rw [sg_M2 (fun z => hj z.2), sg_M2 (fun z => absurd z.1 (by decide))]
    rfl
/-- a rule's answer at a state, and its next number -/
def bkv_ (ϖ : ep_) (P : Nat) (v : Nat → Int32) (q : Nat) (h : Bool) : Prop := bk_ (rp_rl ϖ.1 q).1.toInt (rp_rl ϖ.1 q).2.2.1.toInt (rp_rl ϖ.1 q).2.2.2.toInt (v (2 + q)).toInt (P : Int) ϖ.1.2.2.2.1 h
def gk_ (ϖ : ep_) (cnt : Nat → Nat) (v : Nat → Int32) (h : Bool) (i : Nat) : Int := nx_ (rp_rl ϖ.1 (cnt i)).1.toInt (rp_rl ϖ.1 (cnt i)).2.2.1.toInt (v (2 + cnt i)).toInt h
def xtI_ (ϖ : ep_) (P : Nat) (cnt : Nat → Nat) (v : Nat → Int32) (i : Nat) (s : sg_S) : Prop := (∀ q, q < 32 → (bt_ (s.1 54 6) q = true ↔ (q < ϖ.1.2.2.1 ∧ bkv_ ϖ P v q true) ∧ (ctg_ ϖ.1 q → ∃ j, j < i ∧ cnt j = q))) ∧ (∀ q, q < 32 → (bt_ (s.1 54 7) q = true ↔ (q < ϖ.1.2.2.1 ∧ bkv_ ϖ P v q false) ∧ (ctg_ ϖ.1 q → ∃ j, j < i ∧ cnt j = q))) ∧ (s.2.1 54 8).toInt = plo_ (gk_ ϖ cnt v false) i ∧ (s.2.1 54 9).toInt = phn_ (gk_ ϖ cnt v false) i ∧ ∀ j, j < i → (s.2.2.2.1 56 j).toInt = pl_ (gk_ ϖ cnt v true j - gk_ ϖ cnt v false j) j ∧ (s.2.2.2.1 57 j).toInt = ph_ (gk_ ϖ cnt v true j - gk_ ϖ cnt v false j) j
def xtJ_ (ϖ : ep_) (P C : Nat) (cnt : Nat → Nat) (v : Nat → Int32) (s : sg_S) (l : Int32) (s1 : sg_S) : Prop := sg_fr [(54, 6), (54, 7), (54, 8), (54, 9)] [56, 57] s s1 ∧ ∃ i : Nat, l.toInt = (i : Int) ∧ i ≤ C ∧ xtI_ ϖ P cnt v i s1
/-- what a state and the place decide -/
def xtS_ (ϖ : ep_) (P C : Nat) (cnt : Nat → Nat) (v : Nat → Int32) (s : sg_S) : Prop := (∀ q, q < 32 → (bt_ (s.1 54 6) q = true ↔ q < ϖ.1.2.2.1 ∧ bkv_ ϖ P v q true)) ∧ (∀ q, q < 32 → (bt_ (s.1 54 7) q = true ↔ q < ϖ.1.2.2.1 ∧ bkv_ ϖ P v q false)) ∧ (s.2.1 54 8).toInt = plo_ (gk_ ϖ cnt v false) C ∧ (s.2.1 54 9).toInt = phn_ (gk_ ϖ cnt v false) C ∧ ∀ j, j < C → (s.2.2.2.1 56 j).toInt = pl_ (gk_ ϖ cnt v true j - gk_ ϖ cnt v false j) j ∧ (s.2.2.2.1 57 j).toInt = ph_ (gk_ ϖ cnt v true j - gk_ ϖ cnt v false j) j
theorem gk_rng {p : Nat} {v : Nat → Int32} {h : Bool} (hϖ : eP_ ϖ) (hx : cx_ ϖ.1 C cnt) (hp : (p : Int) < ϖ.1.2.2.2.1) (hv : ewf_ ϖ p v) : ∀ i, i < C → 0 ≤ gk_ ϖ cnt v h i ∧ gk_ ϖ cnt v h i < 64 := by
  intro i hi
  have hl := hϖ.2.2.1
  obtain ⟨r1, r2, r3⟩ := hϖ.2.1 (cnt i) (hx.2.1 i hi).1
  have := no_le r1.1 r2.2 (by omega) (by omega) (no_nx (h := h) r2.1 (by omega) (hv.2.2.2.2.1 (cnt i) (hx.2.1 i hi).1))
  unfold gk_
  omega
theorem xtI_.up {P i : Nat} {v : Nat → Int32} {A B : Int32} {h : Bool} (ha : ∀ q, q < 32 → (bt_ A q = true ↔ (q < ϖ.1.2.2.1 ∧ bkv_ ϖ P v q h) ∧ (ctg_ ϖ.1 q → ∃ j, j < i ∧ cnt j = q))) (hR : cnt i < ϖ.1.2.2.1) (hb : ∀ q, q < 32 → (bt_ B q = true ↔ bt_ A q = true ∨ (q = cnt i ∧ bkv_ ϖ P v (cnt i) h))) : ∀ q, q < 32 → (bt_ B q = true ↔ (q < ϖ.1.2.2.1 ∧ bkv_ ϖ P v q h) ∧ (ctg_ ϖ.1 q → ∃ j, j < i + 1 ∧ cnt j = q)) := by
  intro q hq
  rw [hb q hq, ha q hq]
  constructor
  · rintro (z | z)
    · refine ⟨z.1, fun c => ?_⟩
      obtain ⟨j, j1, j2⟩ := z.2 c
      exact ⟨j, by omega, j2⟩
    · obtain ⟨e, z⟩ := z
      subst e
      exact ⟨⟨hR, z⟩, fun _ => ⟨i, by omega, rfl⟩⟩
  · intro z
    by_cases e : q = cnt i
    · rw [e] at z
      exact Or.inr ⟨e, z.1.2⟩
    · refine Or.inl ⟨z.1, fun c => ?_⟩
      obtain ⟨j, j1, j2⟩ := z.2 c
      refine ⟨j, ?_, j2⟩
      have : ¬ j = i := fun w => e (by rw [← j2, w])
      omega
theorem xo_state {F k p : Nat} {v : Nat → Int32} (hF : F = 39 ∨ F = 43) (hϖ : eP_ ϖ) (hU : rx_RU ϖ.1 s) (hx : cx_ ϖ.1 C cnt) (hz : cz_ C cnt s) (hp : (p : Int) < ϖ.1.2.2.2.1) (hpl : xp_ ϖ (p + 1) s) (hv : ewf_ ϖ p v) (h2 : x2.toInt = (k : Int)) (hA : (s.2.2.2.1 (F + 1) k).toInt = plo_ (dv_ cnt v) C) (hB : (s.2.2.2.1 (F + 2) k).toInt = phi_ (dv_ cnt v) C (v 0) (v 1)) : am_SpV 29 [.ref 54, .ref F, .int x2] s (fun s2 => sg_fr [(54, 6), (54, 7), (54, 8), (54, 9)] [56, 57] s s2 ∧ xtS_ ϖ (p + 1) C cnt v s2) := by
  have h12 := hϖ.1.2.2.1
  have hl := hϖ.2.2.1
  have hC : C ≤ 12 := by have := hx.1; omega
  have dv := dv_rng hϖ (show (p : Int) ≤ ϖ.1.2.2.2.1 by omega) hx hv
  have av := as_rng hϖ hv
  have nv := phn_rng hC dv
  have lv := plo_rng dv
  have z1 : ¬ (Int32.ofInt 1).toInt = 0 := by decide
  have z0 : (Int32.ofInt 0).toInt = 0 := rfl
  obtain ⟨p3, p4, p5⟩ := hpl
  have hB0 : 0 ≤ (s.2.2.2.1 (F + 2) k).toInt := by rw [hB]; unfold phi_; omega
  refine wp_XOnward_takeState_F_ok (I28 := xtJ_ ϖ (p + 1) C cnt v s) ?_ ?_
  · intro l s1 hI
    obtain ⟨f, i, hi, hiC, b6, b7, b8, b9, b5⟩ := hI
    have hU1 : rx_RU ϖ.1 s1 := hU.fr f (by decide) (by decide)
    have hz1 : (s1.1 54 2).toInt = (C : Int) := by rw [f.i rfl]; exact hz.1
    have ei : l.toInt.toNat = i := by omega
    unfold wp_XOnward_takeState_F_28
    rw [hz1, hi, Int.toNat_natCast]
    refine ⟨fun c _ _ => ?_, fun c => ?_⟩
    · have hiC2 : i < C := by omega
      obtain ⟨hR, hct⟩ := hx.2.1 i hiC2
      obtain ⟨r1, r2, r3⟩ := hϖ.2.1 (cnt i) hR
      have h55 : (s1.2.2.1 55 i).toInt = (cnt i : Int) := by rw [f.a rfl]; exact hz.2 i hiC2
      have hinc : (l + Int32.ofInt 1).toInt = ((i + 1 : Nat) : Int) := by
        rw [i32_inc (c := 0) (by omega) (by omega), hi]
        rfl
      have m1 : s1.2.2.2.1 (F + 1) = s.2.2.2.1 (F + 1) := f.m (by rcases hF with e | e <;> rw [e] <;> rfl)
      have m2 : s1.2.2.2.1 (F + 2) = s.2.2.2.1 (F + 2) := f.m (by rcases hF with e | e <;> rw [e] <;> rfl)
      have hp3 : (s1.1 54 3).toInt = ((p + 1 : Nat) : Int) := by rw [f.i rfl]; exact p3
      refine (xs_number hF h2 hi (by omega) (by rw [m1, hA]; exact lv.1) (by rw [m2]; exact hB0)).mono (fun x3 s3 h3 => ?_)
      obtain ⟨q3, h3a, h3b⟩ := h3
      subst q3
      rw [m1, hA] at h3a
      rw [m2, hB] at h3b
      have hd : x3.toInt = (v (2 + cnt i)).toInt := by
        show _ = dv_ cnt v i
        by_cases c : i < 10
        · rw [h3a c, ← p64_2 i (by omega), plo_dig dv hiC2 c]
        · rw [h3b c, ← p64_2 (i - 10) (by omega)]
          unfold phi_
          rw [phi_dig nv.1 nv.2 (by omega), phn_dig dv hiC2 c]
      have hd2 : 0 ≤ (v (2 + cnt i)).toInt ∧ (v (2 + cnt i)).toInt ≤ 48 := ewf_no hϖ (by omega) hv (cnt i) hR
      have hno := no_48 (hv.2.2.2.2.1 (cnt i) hR) (show (p : Int) ≤ 48 by omega)
      have g1 := gk_rng (h := true) hϖ hx hp hv i hiC2
      have g0 := gk_rng (h := false) hϖ hx hp hv i hiC2
      have lo := plo_rng (g := gk_ ϖ cnt v false) (C := i) (fun j hj => gk_rng (h := false) hϖ hx hp hv j (by omega))
      have hi9 := phn_rng (g := gk_ ϖ cnt v false) (C := i) (by omega) (fun j hj => gk_rng (h := false) hϖ hx hp hv j (by omega))
      -- the numbers that follow
      have fin : ∀ V6 V7 : Int32, (∀ q, q < 32 → (bt_ V6 q = true ↔ (q < ϖ.1.2.2.1 ∧ bkv_ ϖ (p + 1) v q true) ∧ (ctg_ ϖ.1 q → ∃ j, j < i + 1 ∧ cnt j = q))) → (∀ q, q < 32 → (bt_ V7 q = true ↔ (q < ϖ.1.2.2.1 ∧ bkv_ ϖ (p + 1) v q false) ∧ (ctg_ ϖ.1 q → ∃ j, j < i + 1 ∧ cnt j = q))) → am_SpI 75 [.ref 1, .int (s3.2.2.1 55 i), .int x3, .int (Int32.ofInt (1))] (sg_uI (sg_uI s3 54 6 V6) 54 7 V7) (fun x6 s6 => (am_SpI 75 [.ref 1, .int (s3.2.2.1 55 i), .int x3, .int (Int32.ofInt (0))] s6 (fun x7 s7 => (am_SpV 30 [.ref 54, .int l, .int x6, .int x7] s7 (fun s8 => (xtJ_ ϖ (p + 1) C cnt v s (l + Int32.ofInt (1)) s8)))))) := by
        intro V6 V7 hV6 hV7
        have fV : sg_fr [(54, 6), (54, 7), (54, 8), (54, 9)] [56, 57] s (sg_uI (sg_uI s3 54 6 V6) 54 7 V7) := (f.uI rfl).uI rfl
        have hU5 : rx_RU ϖ.1 (sg_uI (sg_uI s3 54 6 V6) 54 7 V7) := hU.fr fV (by decide) (by decide)
        refine (sx_next (h := true) (n := (v (2 + cnt i)).toInt) hU5 h55 hR hd (Or.inl ⟨z1, rfl⟩) hno r2 r1.1).mono (fun x6 s6 h6 => ?_)
        obtain ⟨q6, h6⟩ := h6
        subst q6
        refine (sx_next (h := false) (n := (v (2 + cnt i)).toInt) hU5 h55 hR hd (Or.inr ⟨z0, rfl⟩) hno r2 r1.1).mono (fun x7 s7 h7 => ?_)
        obtain ⟨q7, h7⟩ := h7
        subst q7
        refine (xo_numbers (a := gk_ ϖ cnt v true i) (b := gk_ ϖ cnt v false i) hi (by omega) h6 g1 h7 g0 (show ((sg_uI (sg_uI s3 54 6 V6) 54 7 V7).2.1 54 8).toInt = _ from b8) lo (show ((sg_uI (sg_uI s3 54 6 V6) 54 7 V7).2.1 54 9).toInt = _ from b9) (by omega)).mono (fun s8 h8 => ?_)
        obtain ⟨f8, n8, n9, n56, n57, nn⟩ := h8
        refine ⟨fV.tr (f8.le (by decide) (by decide)), i + 1, hinc, by omega, ?_, ?_, ?_, ?_, fun j hj => ?_⟩
        · intro q hq
          rw [f8.i rfl]
          exact hV6 q hq
        · intro q hq
          rw [f8.i rfl]
          exact hV7 q hq
        · rw [n8, pl_s]
        · rw [n9, ph_s]
        · by_cases e : j = i
          · subst e
            exact ⟨n56, n57⟩
          · obtain ⟨w1, w2⟩ := nn j e
            rw [w1, w2]
            exact b5 j (by omega)
      have second : ∀ V6 : Int32, (∀ q, q < 32 → (bt_ V6 q = true ↔ (q < ϖ.1.2.2.1 ∧ bkv_ ϖ (p + 1) v q true) ∧ (ctg_ ϖ.1 q → ∃ j, j < i + 1 ∧ cnt j = q))) → am_SpI 76 [.ref 1, .int (s3.2.2.1 55 i), .int x3, .int (s3.1 54 3), .int (Int32.ofInt (0))] (sg_uI s3 54 6 V6) (bo_ (bkv_ ϖ (p + 1) v (cnt i) false) (sg_uI s3 54 6 V6)) := by
        intro V6 _
        have fV : sg_fr [(54, 6), (54, 7), (54, 8), (54, 9)] [56, 57] s (sg_uI s3 54 6 V6) := f.uI rfl
        exact sx_brk (k := cnt i) (n := (v (2 + cnt i)).toInt) (p := ((p + 1 : Nat) : Int)) (len := ϖ.1.2.2.2.1) (h := false) (hU.fr fV (by decide) (by decide)) h55 hR hd hd2 hp3 (by omega) rfl (by omega) (Or.inr ⟨z0, rfl⟩)
      refine (sx_brk (k := cnt i) (n := (v (2 + cnt i)).toInt) (p := ((p + 1 : Nat) : Int)) (len := ϖ.1.2.2.2.1) (h := true) hU1 h55 hR hd hd2 hp3 (by omega) rfl (by omega) (Or.inl ⟨z1, rfl⟩)).mono (fun x4 s4 h4 => ?_)
      have no4 : x4.toInt = 0 → ¬ bkv_ ϖ (p + 1) v (cnt i) true := h4.no
      have yes4 : ¬ x4.toInt = 0 → bkv_ ϖ (p + 1) v (cnt i) true := h4.yes
      have q4 := h4.eq
      subst q4
      have V0 : ∀ {A : Int32} {h : Bool}, (∀ q, q < 32 → (bt_ A q = true ↔ (q < ϖ.1.2.2.1 ∧ bkv_ ϖ (p + 1) v q h) ∧ (ctg_ ϖ.1 q → ∃ j, j < i ∧ cnt j = q))) → ¬ bkv_ ϖ (p + 1) v (cnt i) h → ∀ q, q < 32 → (bt_ (A ||| Int32.ofInt 0) q = true ↔ (q < ϖ.1.2.2.1 ∧ bkv_ ϖ (p + 1) v q h) ∧ (ctg_ ϖ.1 q → ∃ j, j < i + 1 ∧ cnt j = q)) := by
        intro A h hA0 hn
        refine xtI_.up hA0 hR (fun q hq => ?_)
        rw [bt_o0 hq]
        exact ⟨Or.inl, fun z => by rcases z with z | z; exact z; exact absurd z.2 hn⟩
      have V1 : ∀ {A : Int32} {h : Bool}, (∀ q, q < 32 → (bt_ A q = true ↔ (q < ϖ.1.2.2.1 ∧ bkv_ ϖ (p + 1) v q h) ∧ (ctg_ ϖ.1 q → ∃ j, j < i ∧ cnt j = q))) → bkv_ ϖ (p + 1) v (cnt i) h → ∀ q, q < 32 → (bt_ (A ||| (Int32.ofInt 1 <<< (s4.2.2.1 55 i &&& 31))) q = true ↔ (q < ϖ.1.2.2.1 ∧ bkv_ ϖ (p + 1) v q h) ∧ (ctg_ ϖ.1 q → ∃ j, j < i + 1 ∧ cnt j = q)) := by
        intro A h hA0 hn
        refine xtI_.up hA0 hR (fun q hq => ?_)
        rw [bt_o1 h55 (by omega) hq]
        exact ⟨fun z => by rcases z with z | z; exact Or.inl z; exact Or.inr ⟨z, hn⟩, fun z => by rcases z with z | z; exact Or.inl z; exact Or.inr z.1⟩
      refine ⟨fun c4 => (second _ (V0 b6 (no4 c4))).mono (fun x5 s5 h5 => ?_), fun c4 => (second _ (V1 b6 (yes4 c4))).mono (fun x5 s5 h5 => ?_)⟩
      · have q5 := h5.eq
        have no5 := h5.no
        have yes5 := h5.yes
        subst q5
        exact ⟨fun c5 => fin _ _ (V0 b6 (no4 c4)) (V0 b7 (no5 c5)), fun c5 => fin _ _ (V0 b6 (no4 c4)) (V1 b7 (yes5 c5))⟩
      · have q5 := h5.eq
        have no5 := h5.no
        have yes5 := h5.yes
        subst q5
        exact ⟨fun c5 => fin _ _ (V1 b6 (yes4 c4)) (V0 b7 (no5 c5)), fun c5 => fin _ _ (V1 b6 (yes4 c4)) (V1 b7 (yes5 c5))⟩
    · have : i = C := by omega
      subst this
      refine ⟨f, fun q hq => ?_, fun q hq => ?_, b8, b9, b5⟩
      · rw [b6 q hq]
        exact ⟨fun z => z.1, fun z => ⟨z, fun c => hx.2.2.2 q z.1 c⟩⟩
      · rw [b7 q hq]
        exact ⟨fun z => z.1, fun z => ⟨z, fun c => hx.2.2.2 q z.1 c⟩⟩
  · have zero : ∀ q, q < ϖ.1.2.2.1 → ¬ ctg_ ϖ.1 q → (v (2 + q)).toInt = 0 := fun q hq hc => (hv.2.2.2.2.1 q hq).2.2.2 (by unfold ctg_ at hc; omega)
    have start : ∀ {A : Int32} {h : Bool}, (∀ q, q < 32 → (bt_ A q = true ↔ q < ϖ.1.2.2.1 ∧ ¬ ctg_ ϖ.1 q ∧ bk_ (rp_rl ϖ.1 q).1.toInt (rp_rl ϖ.1 q).2.2.1.toInt (rp_rl ϖ.1 q).2.2.2.toInt 0 ((p + 1 : Nat) : Int) ϖ.1.2.2.2.1 h)) → ∀ q, q < 32 → (bt_ A q = true ↔ (q < ϖ.1.2.2.1 ∧ bkv_ ϖ (p + 1) v q h) ∧ (ctg_ ϖ.1 q → ∃ j, j < 0 ∧ cnt j = q)) := by
      intro A h ha q hq
      rw [ha q hq]
      unfold bkv_
      constructor
      · intro z
        rw [zero q z.1 z.2.1]
        exact ⟨⟨z.1, z.2.2⟩, fun c => absurd c z.2.1⟩
      · intro z
        have nc : ¬ ctg_ ϖ.1 q := fun c => by obtain ⟨j, j1, -⟩ := z.2 c; omega
        have z2 := z.1.2
        rw [zero q z.1.1 nc] at z2
        exact ⟨z.1.1, nc, z2⟩
    exact ⟨(((sg_fr.rf.uI rfl).uI rfl).uL rfl).uL rfl, 0, rfl, Nat.zero_le _, start p4, start p5, rfl, rfl, fun j hj => absurd hj (Nat.not_lt_zero j)⟩
end OT
