/-! ===== ends: what one state asks of the next set (X's Onward) ===== -/
/-- a rule that keeps a number -/
def ctg_ (T : rp_T) (k : Nat) : Prop := 2 ≤ (rp_rl T k).1.toInt ∧ (rp_rl T k).1.toInt ≤ 5
def cx_ (T : rp_T) (C : Nat) (cnt : Nat → Nat) : Prop := C ≤ T.2.2.1 ∧ (∀ i, i < C → cnt i < T.2.2.1 ∧ ctg_ T (cnt i)) ∧ (∀ i j, i < C → j < C → cnt i = cnt j → i = j) ∧ ∀ k, k < T.2.2.1 → ctg_ T k → ∃ i, i < C ∧ cnt i = k
def cz_ (C : Nat) (cnt : Nat → Nat) (s : sg_S) : Prop := (s.1 54 2).toInt = (C : Int) ∧ ∀ i, i < C → (s.2.2.1 55 i).toInt = (cnt i : Int)
/-- a state in two longs -/
def dv_ (cnt : Nat → Nat) (v : Nat → Int32) (i : Nat) : Int := (v (2 + cnt i)).toInt
def plo_ (g : Nat → Int) (C : Nat) : Int := sd_ g (if C ≤ 10 then C else 10)
def phn_ (g : Nat → Int) (C : Nat) : Int := sd_ (fun i => g (i + 10)) (C - 10)
def as_ (x : Int32) : Int := if x.toInt = -1 then 0 else x.toInt
def phi_ (g : Nat → Int) (C : Nat) (a0 a1 : Int32) : Int := phn_ g C + 4096 * as_ a0 + 1048576 * as_ a1
theorem p64_le {m n : Nat} (h : m ≤ n) : p64_ m ≤ p64_ n := by
  obtain ⟨d, rfl⟩ : ∃ d, n = m + d := ⟨n - m, by omega⟩
  rw [p64_add]
  have h1 := p64_pos m
  have h2 := p64_pos d
  have : p64_ m * 1 ≤ p64_ m * p64_ d := Int.mul_le_mul_of_nonneg_left (by omega) (by omega)
  omega
theorem p64_2 : ∀ i : Nat, i < 11 → p64_ i = ((2 ^ (6 * i) : Nat) : Int) := by decide
theorem plo_rng {g : Nat → Int} {C : Nat} (h : ∀ i, i < C → 0 ≤ g i ∧ g i < 64) : 0 ≤ plo_ g C ∧ plo_ g C < 1152921504606846976 := by
  have h1 := sd_rng (g := g) (if C ≤ 10 then C else 10) (fun i hi => h i (by split at hi <;> omega))
  have h2 : p64_ (if C ≤ 10 then C else 10) ≤ p64_ 10 := p64_le (by split <;> omega)
  have h3 : p64_ 10 = 1152921504606846976 := rfl
  unfold plo_
  omega
theorem phn_rng {g : Nat → Int} {C : Nat} (hC : C ≤ 12) (h : ∀ i, i < C → 0 ≤ g i ∧ g i < 64) : 0 ≤ phn_ g C ∧ phn_ g C < 4096 := by
  have h1 := sd_rng (g := fun i => g (i + 10)) (C - 10) (fun i hi => h (i + 10) (by omega))
  have h2 : p64_ (C - 10) ≤ p64_ 2 := p64_le (by omega)
  have h3 : p64_ 2 = 4096 := rfl
  unfold phn_
  omega
/-- one number more -/
theorem plo_s {g : Nat → Int} {i : Nat} : (i < 10 → plo_ g (i + 1) = plo_ g i + g i * p64_ i) ∧ (¬ i < 10 → plo_ g (i + 1) = plo_ g i) := by
  unfold plo_
  refine ⟨fun h => ?_, fun h => ?_⟩
  · rw [if_pos (by omega), if_pos (by omega)]
    rfl
  · rw [if_neg (by omega)]
    by_cases c : i ≤ 10
    · rw [if_pos c, show i = 10 by omega]
    · rw [if_neg c]
theorem phn_s {g : Nat → Int} {i : Nat} : (i < 10 → phn_ g (i + 1) = phn_ g i) ∧ (¬ i < 10 → phn_ g (i + 1) = phn_ g i + g i * p64_ (i - 10)) := by
  unfold phn_
  refine ⟨fun h => ?_, fun h => ?_⟩
  · rw [show i + 1 - 10 = 0 by omega, show i - 10 = 0 by omega]
  · rw [show i + 1 - 10 = (i - 10) + 1 by omega]
    show sd_ _ (i - 10) + g (i - 10 + 10) * p64_ (i - 10) = _
    rw [show i - 10 + 10 = i by omega]
theorem plo_dig {g : Nat → Int} {C i : Nat} (h : ∀ i, i < C → 0 ≤ g i ∧ g i < 64) (hi : i < C) (h10 : i < 10) : plo_ g C / p64_ i % 64 = g i := by
  unfold plo_
  exact sd_dig _ (fun j hj => h j (by split at hj <;> omega)) i (by split <;> omega)
theorem phn_dig {g : Nat → Int} {C i : Nat} (h : ∀ i, i < C → 0 ≤ g i ∧ g i < 64) (hi : i < C) (h10 : ¬ i < 10) : phn_ g C / p64_ (i - 10) % 64 = g i := by
  unfold phn_
  have := sd_dig (g := fun i => g (i + 10)) (C - 10) (fun j hj => h (j + 10) (by omega)) (i - 10) (by omega)
  rw [this]
  show g (i - 10 + 10) = g i
  rw [show i - 10 + 10 = i by omega]
/-- high bits hide nothing of the lower ones -/
theorem phi_dig {n a b : Int} {q : Nat} (h0 : 0 ≤ n) (h1 : n < 4096) (hq : q < 2) : (n + 4096 * a + 1048576 * b) / p64_ q % 64 = n / p64_ q % 64 := by
  match q, hq with
  | 0, _ => show (n + 4096 * a + 1048576 * b) / 1 % 64 = n / 1 % 64; omega
  | 1, _ => show (n + 4096 * a + 1048576 * b) / (64 * 1) % 64 = n / (64 * 1) % 64; omega
  | q + 2, hq => omega
section PK
variable {ϖ : ep_} {p C : Nat} {cnt : Nat → Nat} {v w : Nat → Int32}
theorem dv_rng (hϖ : eP_ ϖ) (hp : (p : Int) ≤ ϖ.1.2.2.2.1) (hx : cx_ ϖ.1 C cnt) (hv : ewf_ ϖ p v) : ∀ i, i < C → 0 ≤ dv_ cnt v i ∧ dv_ cnt v i < 64 := by
  intro i hi
  have := ewf_no hϖ hp hv (cnt i) (hx.2.1 i hi).1
  unfold dv_
  omega
theorem as_rng (hϖ : eP_ ϖ) (hv : ewf_ ϖ p v) : (0 ≤ as_ (v 0) ∧ as_ (v 0) < 256) ∧ (0 ≤ as_ (v 1) ∧ as_ (v 1) < 256) := by
  obtain ⟨v1, v2, v3, v4, -⟩ := hv
  have h9 := (rp_kset_9 hϖ.1.1).2
  have m1 : (Int32.ofInt (-1)).toInt = -1 := rfl
  unfold as_
  refine ⟨?_, ?_⟩
  · by_cases c : p = 0
    · rw [v1 c, if_pos m1]; omega
    · have := v2 (by omega)
      rw [if_neg (by omega)]; omega
  · by_cases c : p ≤ 1
    · rw [v3 c, if_pos m1]; omega
    · have := v4 (by omega)
      rw [if_neg (by omega)]; omega
/-- the two longs tell the state -/
theorem pk_inj (hϖ : eP_ ϖ) (hp : (p : Int) ≤ ϖ.1.2.2.2.1) (hx : cx_ ϖ.1 C cnt) (hv : ewf_ ϖ p v) (hw : ewf_ ϖ p w) (h1 : plo_ (dv_ cnt v) C = plo_ (dv_ cnt w) C) (h2 : phi_ (dv_ cnt v) C (v 0) (v 1) = phi_ (dv_ cnt w) C (w 0) (w 1)) : eqs_ v w := by
  have h12 := hϖ.1.2.2.1
  have hC : C ≤ 12 := by have := hx.1; omega
  have dv := dv_rng hϖ hp hx hv
  have dw := dv_rng hϖ hp hx hw
  have nv := phn_rng hC dv
  have nw := phn_rng hC dw
  have av := as_rng hϖ hv
  have aw := as_rng hϖ hw
  unfold phi_ at h2
  have en : phn_ (dv_ cnt v) C = phn_ (dv_ cnt w) C := by omega
  have e0 : as_ (v 0) = as_ (w 0) := by omega
  have e1 : as_ (v 1) = as_ (w 1) := by omega
  obtain ⟨v1, v2, v3, v4, v5, v6⟩ := hv
  obtain ⟨w1, w2, w3, w4, w5, w6⟩ := hw
  have ed : ∀ i, i < C → v (2 + cnt i) = w (2 + cnt i) := by
    intro i hi
    apply Int32.toInt_inj.mp
    show dv_ cnt v i = dv_ cnt w i
    by_cases c : i < 10
    · rw [← plo_dig dv hi c, ← plo_dig dw hi c, h1]
    · rw [← phn_dig dv hi c, ← phn_dig dw hi c, en]
  intro i hi
  by_cases c0 : i = 0
  · subst c0
    by_cases cp : p = 0
    · rw [v1 cp, w1 cp]
    · have a := v2 (by omega)
      have b := w2 (by omega)
      unfold as_ at e0
      rw [if_neg (by omega), if_neg (by omega)] at e0
      exact Int32.toInt_inj.mp e0
  · by_cases c1 : i = 1
    · subst c1
      by_cases cp : p ≤ 1
      · rw [v3 cp, w3 cp]
      · have a := v4 (by omega)
        have b := w4 (by omega)
        unfold as_ at e1
        rw [if_neg (by omega), if_neg (by omega)] at e1
        exact Int32.toInt_inj.mp e1
    · obtain ⟨k, rfl⟩ : ∃ k, i = 2 + k := ⟨i - 2, by omega⟩
      by_cases ck : k < ϖ.1.2.2.1
      · by_cases cc : ctg_ ϖ.1 k
        · obtain ⟨j, hj, rfl⟩ := hx.2.2.2 k ck cc
          exact ed j hj
        · have a := (v5 k ck).2.2.2
          have b := (w5 k ck).2.2.2
          have hc : (rp_rl ϖ.1 k).1.toInt < 2 ∨ 5 < (rp_rl ϖ.1 k).1.toInt := by unfold ctg_ at cc; omega
          exact Int32.toInt_inj.mp (by rw [a hc, b hc])
      · rw [v6 _ (by omega) hi, w6 _ (by omega) hi]
end PK
section ON
variable {s : sg_S} {x1 x2 x3 x4 : Int32} {y1 y2 : Int64} {ϖ : ep_} {C : Nat} {cnt : Nat → Nat}
theorem xo_low {i : Nat} {n : Int} (h1 : x1.toInt = (i : Int)) (hi : i < 12) (hn : y1.toInt = n) (hn2 : 0 ≤ n ∧ n < 64) : am_SpL 97 [.int x1, .long y1] s (fun r s2 => s2 = s ∧ (i < 10 → r.toInt = n * p64_ i) ∧ (¬ i < 10 → r.toInt = 0)) := by
  refine wp_XStates_lowPart_ok ?_
  unfold wp_XStates_lowPart
  have ex : x1 = Int32.ofInt (i : Int) := rx_ofI h1
  have k1 : ∀ i : Nat, i < 10 → (((Int32.ofInt (i : Int) * Int32.ofInt 6).toInt64 &&& 63).toBitVec.smod 64).toNat = 6 * i := by decide +kernel
  have k2 : ∀ i : Nat, i < 10 → p64_ i ≤ 18014398509481984 := by decide
  rw [h1]
  refine ⟨fun c => ⟨rfl, fun c2 => ?_, fun c2 => absurd (show i < 10 by omega) c2⟩, fun c => ⟨rfl, fun c2 => absurd (show (i : Int) < 10 by omega) c, fun _ => rfl⟩⟩
  have hp := p64_2 i (by omega)
  have hle : n * p64_ i ≤ 63 * p64_ i := Int.mul_le_mul_of_nonneg_right (by omega) (by have := p64_pos i; omega)
  have := k2 i c2
  rw [ex, x_shl (m := 6 * i) (by omega) (k1 i c2) (by rw [← hp, hn]; omega), ← hp, hn]
theorem xo_high {i : Nat} {n : Int} (h1 : x1.toInt = (i : Int)) (hi : i < 12) (hn : y1.toInt = n) (hn2 : 0 ≤ n ∧ n < 64) : am_SpL 98 [.int x1, .long y1] s (fun r s2 => s2 = s ∧ (i < 10 → r.toInt = 0) ∧ (¬ i < 10 → r.toInt = n * p64_ (i - 10))) := by
  refine wp_XStates_highPart_ok ?_
  unfold wp_XStates_highPart
  have ex : x1 = Int32.ofInt (i : Int) := rx_ofI h1
  have k1 : ∀ i : Nat, i < 12 → ¬ i < 10 → ((((Int32.ofInt (i : Int) - Int32.ofInt 10) * Int32.ofInt 6).toInt64 &&& 63).toBitVec.smod 64).toNat = 6 * (i - 10) := by decide +kernel
  have k2 : ∀ i : Nat, i < 12 → p64_ (i - 10) ≤ 64 := by decide
  rw [h1]
  refine ⟨fun c => ⟨rfl, fun _ => rfl, fun c2 => absurd (show i < 10 by omega) c2⟩, fun c => ⟨rfl, fun c2 => absurd (show (i : Int) < 10 by omega) c, fun c2 => ?_⟩⟩
  have hp := p64_2 (i - 10) (by omega)
  have hle : n * p64_ (i - 10) ≤ 63 * p64_ (i - 10) := Int.mul_le_mul_of_nonneg_right (by omega) (by have := p64_pos (i - 10); omega)
  have := k2 i hi
  rw [ex, x_shl (m := 6 * (i - 10)) (by omega) (k1 i hi c2) (by rw [← hp, hn]; omega), ← hp, hn]
theorem xo_sets {a b : Int} (h1 : y1.toInt = a) (h2 : y2.toInt = b) (ha : 0 ≤ a ∧ a < 256) (hb : 0 ≤ b ∧ b < 256) : am_SpL 104 [.long y1, .long y2] s (fun r s2 => s2 = s ∧ r.toInt = 4096 * a + 1048576 * b) := by
  refine wp_XStates_setsPart_ok ?_
  unfold wp_XStates_setsPart
  have k1 : (((Int32.ofInt 12).toInt64 &&& 63).toBitVec.smod 64).toNat = 12 := by decide
  have k2 : (((Int32.ofInt 20).toInt64 &&& 63).toBitVec.smod 64).toNat = 20 := by decide
  have e1 : (y1 <<< ((Int32.ofInt 12).toInt64 &&& 63)).toInt = a * 4096 := by
    rw [x_shl (m := 12) (by omega) k1 (by rw [h1]; show a * 4096 < _; omega), h1]
    rfl
  have e2 : (y2 <<< ((Int32.ofInt 20).toInt64 &&& 63)).toInt = b * 1048576 := by
    rw [x_shl (m := 20) (by omega) k2 (by rw [h2]; show b * 1048576 < _; omega), h2]
    rfl
  refine ⟨rfl, ?_⟩
  rw [x_add (by omega) (by omega), e1, e2]
  omega
theorem xo_count {k : Nat} {T : rp_T} (hU : rx_RU T s) (h1 : x1.toInt = (k : Int)) (hk : k < T.2.2.1) : am_SpI 78 [.ref 1, .int x1] s (bo_ (ctg_ T k) s) := by
  refine wp_XRules_isCounting_1_ok ?_
  unfold wp_XRules_isCounting_1
  have e1 : x1.toInt.toNat = k := by omega
  rw [e1, (hU.2.2.2.2.2 k hk).1]
  refine fun _ _ => ⟨fun c => bo_1 ?_, fun c => ⟨fun c2 => bo_1 ?_, fun c2 => ⟨fun c3 => bo_1 ?_, fun c3 => ⟨fun c4 => bo_1 ?_, fun c4 => bo_0 ?_⟩⟩⟩⟩
  all_goals unfold ctg_; omega
theorem xo_rules {T : rp_T} (hU : rx_RU T s) (h12 : T.2.2.1 ≤ 12) : am_SpV 26 [.ref 54] s (fun s2 => sg_fr [(54, 2)] [55] s s2 ∧ ∃ (C : Nat) (cnt : Nat → Nat), cx_ T C cnt ∧ cz_ C cnt s2) := by
  refine wp_XOnward_takeRules_ok (I7 := fun l s1 => sg_fr [(54, 2)] [55] s s1 ∧ ∃ (k C : Nat) (cnt : Nat → Nat), l.toInt = (k : Int) ∧ k ≤ T.2.2.1 ∧ C ≤ k ∧ cz_ C cnt s1 ∧ (∀ i, i < C → cnt i < k ∧ ctg_ T (cnt i)) ∧ (∀ i j, i < C → j < C → cnt i = cnt j → i = j) ∧ ∀ q, q < k → ctg_ T q → ∃ i, i < C ∧ cnt i = q) ?_ ⟨sg_fr.rf.uI rfl, 0, 0, fun _ => 0, rfl, Nat.zero_le _, Nat.zero_le _, ⟨rfl, fun i hi => absurd hi (Nat.not_lt_zero i)⟩, fun i hi => absurd hi (Nat.not_lt_zero i), fun i j hi => absurd hi (Nat.not_lt_zero i), fun q hq => absurd hq (Nat.not_lt_zero q)⟩
  intro l s1 hI
  obtain ⟨f, k, C, cnt, hl, hk, hCk, ⟨hz1, hz2⟩, hb, hinj, hsu⟩ := hI
  have hU1 : rx_RU T s1 := hU.fr f (by decide) (by decide)
  unfold wp_XOnward_takeRules_7
  rw [hU1.2.2.1, hl]
  refine ⟨fun c => (xo_count hU1 hl (by omega)).mono (fun y s2 hy => ?_), fun c => ⟨f, C, cnt, ⟨by omega, fun i hi => ⟨by have := (hb i hi).1; omega, (hb i hi).2⟩, hinj, fun q hq hc => hsu q (by omega) hc⟩, hz1, hz2⟩⟩
  have hno := hy.no
  have hyes := hy.yes
  obtain rfl := hy.eq
  have hinc : (l + Int32.ofInt 1).toInt = ((k + 1 : Nat) : Int) := by
    rw [i32_inc (c := 0) (by omega) (by omega), hl]
    rfl
  refine ⟨fun c2 => ⟨f, k + 1, C, cnt, hinc, by omega, by omega, ⟨hz1, hz2⟩, fun i hi => ⟨by have := (hb i hi).1; omega, (hb i hi).2⟩, hinj, fun q hq hc => ?_⟩, fun c2 _ _ => ?_⟩
  · by_cases e : q = k
    · rw [e] at hc; exact absurd hc (hno c2)
    · exact hsu q (by omega) hc
  · have eC : (s2.1 54 2).toInt.toNat = C := by omega
    rw [eC]
    refine ⟨(f.uA rfl).uI rfl, k + 1, C + 1, up_ cnt C k, hinc, by omega, by omega, ⟨?_, fun i hi => ?_⟩, fun i hi => ?_, fun i j hi hj e => ?_, fun q hq hc => ?_⟩
    · show (s2.1 54 2 + Int32.ofInt 1).toInt = _
      rw [i32_inc (c := 0) (by omega) (by omega), hz1]
      rfl
    · show ((sg_uA s2 55 C l).2.2.1 55 i).toInt = _
      by_cases e : i = C
      · rw [e, sg_A1, up_1]; exact hl
      · rw [sg_A2 (fun z => e z.2), up_2 e]
        exact hz2 i (by omega)
    · by_cases e : i = C
      · rw [e, up_1]; exact ⟨by omega, hyes c2⟩
      · rw [up_2 e]
        exact ⟨by have := (hb i (by omega)).1; omega, (hb i (by omega)).2⟩
    · by_cases ei : i = C
      · by_cases ej : j = C
        · omega
        · rw [ei, up_1, up_2 ej] at e
          have := (hb j (by omega)).1
          omega
      · by_cases ej : j = C
        · rw [ej, up_1, up_2 ei] at e
          have := (hb i (by omega)).1
          omega
        · rw [up_2 ei, up_2 ej] at e
          exact hinj i j (by omega) (by omega) e
    · by_cases e : q = k
      · exact ⟨C, by omega, by rw [up_1, e]⟩
      · obtain ⟨i, hi, h⟩ := hsu q (by omega) hc
        exact ⟨i, by omega, by rw [up_2 (by omega)]; exact h⟩
/-- what the place alone decides -/
def xp_ (ϖ : ep_) (P : Nat) (s : sg_S) : Prop := (s.1 54 3).toInt = (P : Int) ∧ (∀ k, k < 32 → (bt_ (s.1 54 4) k = true ↔ k < ϖ.1.2.2.1 ∧ ¬ ctg_ ϖ.1 k ∧ bk_ (rp_rl ϖ.1 k).1.toInt (rp_rl ϖ.1 k).2.2.1.toInt (rp_rl ϖ.1 k).2.2.2.toInt 0 (P : Int) ϖ.1.2.2.2.1 true)) ∧ ∀ k, k < 32 → (bt_ (s.1 54 5) k = true ↔ k < ϖ.1.2.2.1 ∧ ¬ ctg_ ϖ.1 k ∧ bk_ (rp_rl ϖ.1 k).1.toInt (rp_rl ϖ.1 k).2.2.1.toInt (rp_rl ϖ.1 k).2.2.2.toInt 0 (P : Int) ϖ.1.2.2.2.1 false)
/-- one bit more, or not -/
theorem bt_st {A l : Int32} {k q : Nat} {Q R : Prop} (hl : l.toInt = (k : Int)) (hk : k < 31) (hq : q < 32) (h : bt_ A q = true ↔ Q) (hne : ¬ q = k → (Q ↔ R)) : (q = k → ¬ Q) → ((R → bt_ (A ||| (Int32.ofInt 1 <<< (l &&& 31))) q = true) ∧ (bt_ (A ||| (Int32.ofInt 1 <<< (l &&& 31))) q = true → q = k ∨ R)) := by
  intro _
  rw [bt_or hq, bt_sh hl hk hq, Bool.or_eq_true, decide_eq_true_eq, h]
  refine ⟨fun r => ?_, fun z => ?_⟩
  · by_cases c : q = k
    · exact Or.inr c
    · exact Or.inl ((hne c).mpr r)
  · rcases z with z | z
    · by_cases c : q = k
      · exact Or.inl c
      · exact Or.inr ((hne c).mp z)
    · exact Or.inl z
theorem bt_o0 {A : Int32} {q : Nat} (hq : q < 32) : bt_ (A ||| Int32.ofInt 0) q = bt_ A q := by rw [bt_or hq, bt_z hq, Bool.or_false]
theorem bt_o1 {A l : Int32} {k q : Nat} (hl : l.toInt = (k : Int)) (hk : k < 31) (hq : q < 32) : bt_ (A ||| (Int32.ofInt 1 <<< (l &&& 31))) q = true ↔ bt_ A q = true ∨ q = k := by rw [bt_or hq, bt_sh hl hk hq, Bool.or_eq_true, decide_eq_true_eq]
theorem xo_place {P : Nat} (hϖ : eP_ ϖ) (hU : rx_RU ϖ.1 s) (h1 : x1.toInt = (P : Int)) (hP : P ≤ 48) : am_SpV 28 [.ref 54, .int x1] s (fun s2 => sg_fr [(54, 3), (54, 4), (54, 5)] [] s s2 ∧ xp_ ϖ P s2) := by
  have h12 := hϖ.1.2.2.1
  have hl := hϖ.2.2.1
  have z0 : (Int32.ofInt 0).toInt = 0 := rfl
  have z1 : ¬ (Int32.ofInt 1).toInt = 0 := by decide
  refine wp_XOnward_takePlace_ok (I17 := fun l s1 => sg_fr [(54, 3), (54, 4), (54, 5)] [] s s1 ∧ (s1.1 54 3).toInt = (P : Int) ∧ ∃ k : Nat, l.toInt = (k : Int) ∧ k ≤ ϖ.1.2.2.1 ∧ (∀ q, q < 32 → (bt_ (s1.1 54 4) q = true ↔ q < k ∧ ¬ ctg_ ϖ.1 q ∧ bk_ (rp_rl ϖ.1 q).1.toInt (rp_rl ϖ.1 q).2.2.1.toInt (rp_rl ϖ.1 q).2.2.2.toInt 0 (P : Int) ϖ.1.2.2.2.1 true)) ∧ ∀ q, q < 32 → (bt_ (s1.1 54 5) q = true ↔ q < k ∧ ¬ ctg_ ϖ.1 q ∧ bk_ (rp_rl ϖ.1 q).1.toInt (rp_rl ϖ.1 q).2.2.1.toInt (rp_rl ϖ.1 q).2.2.2.toInt 0 (P : Int) ϖ.1.2.2.2.1 false)) ?_ ⟨((sg_fr.rf.uI rfl).uI rfl).uI rfl, h1, 0, rfl, Nat.zero_le _, fun q hq => ?_, fun q hq => ?_⟩
  · intro l s1 hI
    obtain ⟨f, h3, k, hk, hkR, b4, b5⟩ := hI
    have hU1 : rx_RU ϖ.1 s1 := hU.fr f (by decide) (by decide)
    unfold wp_XOnward_takePlace_17
    rw [hU1.2.2.1, hk]
    refine ⟨fun c => ?_, fun c => ?_⟩
    · have hkR2 : k < ϖ.1.2.2.1 := by omega
      have hinc : (l + Int32.ofInt 1).toInt = ((k + 1 : Nat) : Int) := by
        rw [i32_inc (c := 0) (by omega) (by omega), hk]
        rfl
      have up : ∀ {A B : Int32} {h : Bool}, (∀ q, q < 32 → (bt_ A q = true ↔ q < k ∧ ¬ ctg_ ϖ.1 q ∧ bk_ (rp_rl ϖ.1 q).1.toInt (rp_rl ϖ.1 q).2.2.1.toInt (rp_rl ϖ.1 q).2.2.2.toInt 0 (P : Int) ϖ.1.2.2.2.1 h)) → (∀ q, q < 32 → (bt_ B q = true ↔ bt_ A q = true ∨ (q = k ∧ ¬ ctg_ ϖ.1 k ∧ bk_ (rp_rl ϖ.1 k).1.toInt (rp_rl ϖ.1 k).2.2.1.toInt (rp_rl ϖ.1 k).2.2.2.toInt 0 (P : Int) ϖ.1.2.2.2.1 h))) → ∀ q, q < 32 → (bt_ B q = true ↔ q < k + 1 ∧ ¬ ctg_ ϖ.1 q ∧ bk_ (rp_rl ϖ.1 q).1.toInt (rp_rl ϖ.1 q).2.2.1.toInt (rp_rl ϖ.1 q).2.2.2.toInt 0 (P : Int) ϖ.1.2.2.2.1 h) := by
        intro A B h ha hb q hq
        rw [hb q hq, ha q hq]
        constructor
        · rintro (z | z)
          · exact ⟨by omega, z.2⟩
          · obtain ⟨rfl, z⟩ := z
            exact ⟨by omega, z⟩
        · intro z
          by_cases e : q = k
          · subst e
            exact Or.inr ⟨rfl, z.2⟩
          · exact Or.inl ⟨by omega, z.2⟩
      refine (xo_count hU1 hk hkR2).mono (fun y s2 hy => ?_)
      have hno := hy.no
      have hyes := hy.yes
      obtain rfl := hy.eq
      refine ⟨fun c2 => ?_, fun c2 => ⟨f, h3, k + 1, hinc, by omega, up b4 (fun q hq => ⟨Or.inl, fun z => ?_⟩), up b5 (fun q hq => ⟨Or.inl, fun z => ?_⟩)⟩⟩
      · have nc := hno c2
        refine (sx_brk (k := k) (n := 0) (p := (P : Int)) (len := ϖ.1.2.2.2.1) (h := true) hU1 hk hkR2 rfl (by omega) h3 (by omega) rfl (by omega) (Or.inl ⟨z1, rfl⟩)).mono (fun y3 s3 h3' => ?_)
        have hno3 := h3'.no
        have hyes3 := h3'.yes
        obtain rfl := h3'.eq
        have second : ∀ V : Int32, (∀ q, q < 32 → (bt_ V q = true ↔ q < k + 1 ∧ ¬ ctg_ ϖ.1 q ∧ bk_ (rp_rl ϖ.1 q).1.toInt (rp_rl ϖ.1 q).2.2.1.toInt (rp_rl ϖ.1 q).2.2.2.toInt 0 (P : Int) ϖ.1.2.2.2.1 true)) → am_SpI 76 [.ref 1, .int l, .int (Int32.ofInt 0), .int (s3.1 54 3), .int (Int32.ofInt 0)] (sg_uI s3 54 4 V) (fun x4 s4 => (x4.toInt = 0 → sg_fr [(54, 3), (54, 4), (54, 5)] [] s (sg_uI s4 54 5 (s3.1 54 5 ||| Int32.ofInt 0)) ∧ ((sg_uI s4 54 5 (s3.1 54 5 ||| Int32.ofInt 0)).1 54 3).toInt = (P : Int) ∧ ∃ k : Nat, (l + Int32.ofInt 1).toInt = (k : Int) ∧ k ≤ ϖ.1.2.2.1 ∧ (∀ q, q < 32 → (bt_ ((sg_uI s4 54 5 (s3.1 54 5 ||| Int32.ofInt 0)).1 54 4) q = true ↔ q < k ∧ ¬ ctg_ ϖ.1 q ∧ bk_ (rp_rl ϖ.1 q).1.toInt (rp_rl ϖ.1 q).2.2.1.toInt (rp_rl ϖ.1 q).2.2.2.toInt 0 (P : Int) ϖ.1.2.2.2.1 true)) ∧ ∀ q, q < 32 → (bt_ ((sg_uI s4 54 5 (s3.1 54 5 ||| Int32.ofInt 0)).1 54 5) q = true ↔ q < k ∧ ¬ ctg_ ϖ.1 q ∧ bk_ (rp_rl ϖ.1 q).1.toInt (rp_rl ϖ.1 q).2.2.1.toInt (rp_rl ϖ.1 q).2.2.2.toInt 0 (P : Int) ϖ.1.2.2.2.1 false)) ∧ (¬ x4.toInt = 0 → sg_fr [(54, 3), (54, 4), (54, 5)] [] s (sg_uI s4 54 5 (s3.1 54 5 ||| (Int32.ofInt 1 <<< (l &&& 31)))) ∧ ((sg_uI s4 54 5 (s3.1 54 5 ||| (Int32.ofInt 1 <<< (l &&& 31)))).1 54 3).toInt = (P : Int) ∧ ∃ k : Nat, (l + Int32.ofInt 1).toInt = (k : Int) ∧ k ≤ ϖ.1.2.2.1 ∧ (∀ q, q < 32 → (bt_ ((sg_uI s4 54 5 (s3.1 54 5 ||| (Int32.ofInt 1 <<< (l &&& 31)))).1 54 4) q = true ↔ q < k ∧ ¬ ctg_ ϖ.1 q ∧ bk_ (rp_rl ϖ.1 q).1.toInt (rp_rl ϖ.1 q).2.2.1.toInt (rp_rl ϖ.1 q).2.2.2.toInt 0 (P : Int) ϖ.1.2.2.2.1 true)) ∧ ∀ q, q < 32 → (bt_ ((sg_uI s4 54 5 (s3.1 54 5 ||| (Int32.ofInt 1 <<< (l &&& 31)))).1 54 5) q = true ↔ q < k ∧ ¬ ctg_ ϖ.1 q ∧ bk_ (rp_rl ϖ.1 q).1.toInt (rp_rl ϖ.1 q).2.2.1.toInt (rp_rl ϖ.1 q).2.2.2.toInt 0 (P : Int) ϖ.1.2.2.2.1 false))) := by
          intro V hV
          refine (sx_brk (s := sg_uI s3 54 4 V) (k := k) (n := 0) (p := (P : Int)) (len := ϖ.1.2.2.2.1) (h := false) (hU1.fr (sg_fr.rf.uI (mo := [(54, 4)]) (ao := []) rfl) (by decide) (by decide)) hk hkR2 rfl (by omega) h3 (by omega) rfl (by omega) (Or.inr ⟨rfl, rfl⟩)).mono (fun y4 s4 h4 => ?_)
          have hno4 := h4.no
          have hyes4 := h4.yes
          obtain rfl := h4.eq
          refine ⟨fun c4 => ⟨(f.uI rfl).uI rfl, h3, k + 1, hinc, by omega, hV, up b5 (fun q hq => ?_)⟩, fun c4 => ⟨(f.uI rfl).uI rfl, h3, k + 1, hinc, by omega, hV, up b5 (fun q hq => ?_)⟩⟩
          · show bt_ (s3.1 54 5 ||| Int32.ofInt 0) q = true ↔ _
            rw [bt_o0 hq]
            exact ⟨Or.inl, fun z => by rcases z with z | z; exact z; exact absurd z.2.2 (hno4 c4)⟩
          · show bt_ (s3.1 54 5 ||| (Int32.ofInt 1 <<< (l &&& 31))) q = true ↔ _
            rw [bt_o1 hk (by omega) hq]
            exact ⟨fun z => by rcases z with z | z; exact Or.inl z; exact Or.inr ⟨z, nc, hyes4 c4⟩, fun z => by rcases z with z | z; exact Or.inl z; exact Or.inr z.1⟩
        refine ⟨fun c3 => second _ (up b4 (fun q hq => ?_)), fun c3 => second _ (up b4 (fun q hq => ?_))⟩
        · rw [bt_o0 hq]
          exact ⟨Or.inl, fun z => by rcases z with z | z; exact z; exact absurd z.2.2 (hno3 c3)⟩
        · rw [bt_o1 hk (by omega) hq]
          exact ⟨fun z => by rcases z with z | z; exact Or.inl z; exact Or.inr ⟨z, nc, hyes3 c3⟩, fun z => by rcases z with z | z; exact Or.inl z; exact Or.inr z.1⟩
      · rcases z with z | z
        · exact z
        · exact absurd (hyes c2) z.2.1
      · rcases z with z | z
        · exact z
        · exact absurd (hyes c2) z.2.1
    · have : k = ϖ.1.2.2.1 := by omega
      subst this
      exact ⟨f, h3, b4, b5⟩
  · show bt_ (Int32.ofInt 0) q = true ↔ _
    rw [bt_z hq]
    exact ⟨fun z => (by cases z), fun z => by omega⟩
  · show bt_ (Int32.ofInt 0) q = true ↔ _
    rw [bt_z hq]
    exact ⟨fun z => (by cases z), fun z => by omega⟩
end ON
