/-! ===== X: the first rule that the verse laid on a place breaks ===== -/
def wsh_ (w : Nat → Int32) (o q : Nat) : Prop := ∃ i j : Nat, i < 3 ∧ j < 3 ∧ ¬ (w (3 * o + i)).toInt = -1 ∧ (w (3 * o + i)).toInt = (w (3 * q + j)).toInt
def wag_ (w : Nat → Int32) (p : Nat) (n : Int) : Prop := ∃ q : Nat, (p : Int) - n ≤ (q : Int) ∧ 1 ≤ q ∧ q < p ∧ wsh_ w p q
theorem wag_ag {w : Nat → Int32} {p : Nat} {n : Int} (hp : 1 ≤ p) : wag_ w p n ↔ ag_ (fun k => w (k + 3)) (w (3 * p)) (w (3 * p + 1)) (w (3 * p + 2)) (p : Int) n := by
  constructor
  · rintro ⟨q, q1, q2, q3, i, j, hi, hj, h1, h2⟩
    refine ⟨3 * (q - 1) + j, by omega, by omega, ?_, ?_⟩
    · show ¬ (w (3 * (q - 1) + j + 3)).toInt = -1
      rw [show 3 * (q - 1) + j + 3 = 3 * q + j by omega, ← h2]
      exact h1
    · show (w (3 * (q - 1) + j + 3)).toInt = _ ∨ (w (3 * (q - 1) + j + 3)).toInt = _ ∨ (w (3 * (q - 1) + j + 3)).toInt = _
      rw [show 3 * (q - 1) + j + 3 = 3 * q + j by omega, ← h2]
      match i, hi with
      | 0, _ => exact Or.inl rfl
      | 1, _ => exact Or.inr (Or.inl rfl)
      | 2, _ => exact Or.inr (Or.inr rfl)
      | i + 3, hi => omega
  · rintro ⟨k, k1, k2, k3, k4⟩
    have k3 : ¬ (w (k + 3)).toInt = -1 := k3
    have e : k + 3 = 3 * (k / 3 + 1) + k % 3 := by omega
    refine ⟨k / 3 + 1, by omega, by omega, by omega, ?_⟩
    rcases k4 with k4 | k4 | k4
    · have k4 : (w (k + 3)).toInt = (w (3 * p)).toInt := k4
      exact ⟨0, k % 3, by omega, by omega, by rw [Nat.add_zero, ← k4]; exact k3, by rw [Nat.add_zero, ← e]; exact k4.symm⟩
    · have k4 : (w (k + 3)).toInt = (w (3 * p + 1)).toInt := k4
      exact ⟨1, k % 3, by omega, by omega, by rw [← k4]; exact k3, by rw [← e]; exact k4.symm⟩
    · have k4 : (w (k + 3)).toInt = (w (3 * p + 2)).toInt := k4
      exact ⟨2, k % 3, by omega, by omega, by rw [← k4]; exact k3, by rw [← e]; exact k4.symm⟩
/-- what a verse on place p breaks: f the sets by place, w the words, n the number ahead -/
def bx_ (t w f : Nat → Int32) (ρ : Int32 × Int32 × Int32 × Int32) (n : Int) (p : Nat) (len : Int) : Prop := bk_ ρ.1.toInt ρ.2.2.1.toInt ρ.2.2.2.toInt n (p : Int) len (hb_ ρ.2.1 (f p)) ∨ (ρ.1.toInt = 6 ∧ wag_ w p ρ.2.2.1.toInt) ∨ (ρ.1.toInt = 7 ∧ 1 < p ∧ ¬ ln_ t (f (p - 1)) (f p) 8) ∨ (ρ.1.toInt = 8 ∧ 2 < p ∧ ln_ t (f (p - 2)) (f p) 8)
section FI
variable {s : sg_S} {x1 x2 : Int32} {T : rp_T}
theorem fi_ix {x l : Int32} {p k : Nat} (hx : x.toInt = (p : Int)) (hp : p ≤ 48) (hl : l.toInt = (k : Int)) (hk : k < 3) : (x * Int32.ofInt 3 + l).toInt = ((3 * p + k : Nat) : Int) := by
  have z3 : (Int32.ofInt 3).toInt = 3 := rfl
  have e3 : (x * Int32.ofInt 3).toInt = (p : Int) * 3 := by rw [i32_mul (by rw [z3, hx]; omega) (by rw [z3, hx]; omega), z3, hx]
  rw [i32_add (by omega) (by omega), e3, hl]
  omega
theorem sx_shared {o q : Nat} (ho : x1.toInt = (o : Int)) (ho2 : o ≤ 48) (hq : x2.toInt = (q : Int)) (hq2 : q ≤ 48) : am_SpI 87 [.ref 28, .int x1, .int x2] s (bo_ (wsh_ (s.2.2.1 32) o q) s) := by
  refine wp_XSheet_isWordShared_ok
    (I2 := fun l s1 => s1 = s ∧ ∃ i : Nat, l.toInt = (i : Int) ∧ i ≤ 3 ∧ ∀ a j : Nat, a < i → j < 3 → ¬ (¬ (s.2.2.1 32 (3 * o + a)).toInt = -1 ∧ (s.2.2.1 32 (3 * o + a)).toInt = (s.2.2.1 32 (3 * q + j)).toInt))
    (I22 := fun l3 l4 l5 s1 => s1 = s ∧ ∃ i j : Nat, l3.toInt = (i : Int) ∧ i < 3 ∧ l5.toInt = (j : Int) ∧ j ≤ 3 ∧ l4 = s.2.2.1 32 (3 * o + i) ∧ (∀ a b : Nat, a < i → b < 3 → ¬ (¬ (s.2.2.1 32 (3 * o + a)).toInt = -1 ∧ (s.2.2.1 32 (3 * o + a)).toInt = (s.2.2.1 32 (3 * q + b)).toInt)) ∧ ∀ b : Nat, b < j → ¬ (¬ (s.2.2.1 32 (3 * o + i)).toInt = -1 ∧ (s.2.2.1 32 (3 * o + i)).toInt = (s.2.2.1 32 (3 * q + b)).toInt)) ?_ ?_ ⟨rfl, 0, rfl, by omega, fun a j ha => absurd ha (Nat.not_lt_zero a)⟩
  · intro l s1 hI
    obtain ⟨rfl, i, hi, hi3, h⟩ := hI
    unfold wp_XSheet_isWordShared_2
    refine ⟨fun c _ _ => ?_, fun c => bo_0 ?_⟩
    · have e := fi_ix ho ho2 hi (by omega)
      exact ⟨rfl, i, 0, hi, by omega, rfl, by omega, by rw [e, Int.toNat_natCast], h, fun b hb => absurd hb (Nat.not_lt_zero b)⟩
    · rintro ⟨a, j, ha, hj, h1, h2⟩
      exact h a j (by omega) hj ⟨h1, h2⟩
  · intro l3 l4 l5 s1 hI
    obtain ⟨rfl, i, j, hi, hi3, hj, hj3, rfl, h, h2⟩ := hI
    unfold wp_XSheet_isWordShared_22
    have step : j < 3 → ¬ (¬ (s1.2.2.1 32 (3 * o + i)).toInt = -1 ∧ (s1.2.2.1 32 (3 * o + i)).toInt = (s1.2.2.1 32 (3 * q + j)).toInt) → s1 = s1 ∧ ∃ a b : Nat, l3.toInt = (a : Int) ∧ a < 3 ∧ (l5 + Int32.ofInt 1).toInt = (b : Int) ∧ b ≤ 3 ∧ s1.2.2.1 32 (3 * o + i) = s1.2.2.1 32 (3 * o + a) ∧ (∀ c b : Nat, c < a → b < 3 → ¬ (¬ (s1.2.2.1 32 (3 * o + c)).toInt = -1 ∧ (s1.2.2.1 32 (3 * o + c)).toInt = (s1.2.2.1 32 (3 * q + b)).toInt)) ∧ ∀ c : Nat, c < b → ¬ (¬ (s1.2.2.1 32 (3 * o + a)).toInt = -1 ∧ (s1.2.2.1 32 (3 * o + a)).toInt = (s1.2.2.1 32 (3 * q + c)).toInt) := by
      intro hj2 hno
      refine ⟨rfl, i, j + 1, hi, hi3, ?_, by omega, rfl, h, fun c hc => ?_⟩
      · rw [i32_inc (c := 0) (by omega) (by omega), hj]
        rfl
      · by_cases ec : c = j
        · rw [ec]; exact hno
        · exact h2 c (by omega)
    refine ⟨fun c => ⟨fun d => step (by omega) (fun z => z.1 d), fun d _ _ => ?_⟩, fun c => ?_⟩
    · have e := fi_ix hq hq2 hj (by omega)
      rw [e, Int.toNat_natCast]
      exact ⟨fun g => bo_1 ⟨i, j, hi3, by omega, d, g⟩, fun g => step (by omega) (fun z => g z.2)⟩
    · refine ⟨rfl, i + 1, ?_, by omega, fun a b ha hb => ?_⟩
      · rw [i32_inc (c := 0) (by omega) (by omega), hi]
        rfl
      · by_cases ea : a = i
        · rw [ea]; exact h2 b (by omega)
        · exact h a b (by omega) hb
theorem sx_again {p : Nat} {n : Int} (hp : x1.toInt = (p : Int)) (hp2 : 1 ≤ p ∧ p ≤ 48) (hn : x2.toInt = n) (hn2 : 0 ≤ n ∧ n ≤ 48) : am_SpI 86 [.ref 28, .int x1, .int x2] s (bo_ (wag_ (s.2.2.1 32) p n) s) := by
  have z1 : (Int32.ofInt 1).toInt = 1 := rfl
  have e1 : (x1 - x2).toInt = (p : Int) - n := by rw [i32_sub (by omega) (by omega), hp, hn]
  refine wp_XSheet_isAgain_ok (I8 := fun l s1 => s1 = s ∧ ∃ i : Nat, l.toInt = (i : Int) ∧ 1 ≤ i ∧ i ≤ 48 ∧ (p : Int) - n ≤ (i : Int) ∧ ∀ q : Nat, (p : Int) - n ≤ (q : Int) → 1 ≤ q → q < i → ¬ wsh_ (s.2.2.1 32) p q) ?_ ?_
  · intro l s1 hI
    obtain ⟨rfl, i, hi, hi1, hi2, hlo, h⟩ := hI
    unfold wp_XSheet_isAgain_8
    rw [hi, hp]
    refine ⟨fun c => (sx_shared hp hp2.2 hi hi2).mono (fun y s2 hy => ?_), fun c => bo_0 ?_⟩
    · obtain rfl := hy.eq
      refine ⟨fun d => ⟨rfl, i + 1, ?_, by omega, by omega, by omega, fun q q1 q2 q3 => ?_⟩, fun d => bo_1 ⟨i, hlo, hi1, by omega, hy.yes d⟩⟩
      · rw [i32_inc (c := 0) (by omega) (by omega), hi]
        rfl
      · by_cases eq : q = i
        · rw [eq]; exact hy.no d
        · exact h q q1 q2 (by omega)
    · rintro ⟨q, q1, q2, q3, q4⟩
      exact h q q1 q2 (by omega) q4
  · unfold wp_XSheet_isAgain
    by_cases c : (Int32.ofInt 1) < (x1 - x2)
    · have c2 : 1 < (p : Int) - n := by
        have := Int32.lt_iff_toInt_lt.mp c
        rw [z1, e1] at this
        exact this
      rw [if_pos c]
      exact ⟨rfl, ((p : Int) - n).toNat, by rw [e1]; omega, by omega, by omega, by omega, fun q q1 q2 q3 => by omega⟩
    · have c2 : ¬ 1 < (p : Int) - n := by
        intro q
        exact c (Int32.lt_iff_toInt_lt.mpr (by rw [z1, e1]; exact q))
      rw [if_neg c]
      exact ⟨rfl, 1, rfl, by omega, by omega, by omega, fun q q1 q2 q3 => by omega⟩
theorem sx_isBroken {R p k : Nat} {len : Int} (hU : rx_RU T s) (hk : rk_ T) (hR : T.2.2.1 = R) (h12 : R ≤ 12) (hlen : T.2.2.2.1 = len) (hl : 0 ≤ len ∧ len ≤ 48) (hx : x1.toInt = (k : Int)) (hkR : k < R) (hp : x2.toInt = (p : Int)) (hp2 : 1 ≤ p ∧ p ≤ 48) (ht : ∀ i, i < 64 → -9 ≤ (s.2.2.1 23 i).toInt ∧ (s.2.2.1 23 i).toInt ≤ 9) (hn : 0 ≤ (s.2.2.1 34 (12 * (p - 1) + k)).toInt ∧ (s.2.2.1 34 (12 * (p - 1) + k)).toInt ≤ 48) : am_SpI 85 [.ref 28, .int x1, .int x2] s (bo_ (bx_ (s.2.2.1 23) (s.2.2.1 32) (s.2.2.1 30) (rp_rl T k) (s.2.2.1 34 (12 * (p - 1) + k)).toInt p len) s) := by
  have z1 : (Int32.ofInt 1).toInt = 1 := rfl
  have z2 : (Int32.ofInt 2).toInt = 2 := rfl
  obtain ⟨u4, u5, u6, u7⟩ := hU.2.2.2.2.2 k (by omega)
  obtain ⟨r1, r2, r3⟩ := hk k (by omega)
  have ex : x1.toInt.toNat = k := by omega
  have ep : x2.toInt.toNat = p := by omega
  refine wp_XSheet_isBroken_ok ?_
  unfold wp_XSheet_isBroken
  rw [ex, ep, u4, u6]
  intro _ _
  refine ⟨fun c => (sx_again hp hp2 rfl r2).mono (fun y s2 hy => ?_), fun c => ⟨fun d => ?_, fun d => bo_0 ?_⟩, fun c => ⟨fun d => ?_, fun d => bo_0 ?_⟩, fun c => ?_⟩
  · refine ⟨hy.1, ?_⟩
    rcases hy.2 with q | q
    · exact Or.inl ⟨q.1, Or.inr (Or.inl ⟨c, q.2⟩)⟩
    · refine Or.inr ⟨q.1, fun z => ?_⟩
      rcases z with (z | z | z | z | z | z) | z | z | z <;> first | omega | exact q.2 z.2
  · have e : (x2 - Int32.ofInt 1).toInt.toNat = p - 1 := by rw [i32_sub (by omega) (by omega), hp, z1]; omega
    rw [e]
    intro _ _ _ _
    refine (sx_linked ht).mono (fun y s2 hy => ?_)
    obtain rfl := hy.eq
    refine ⟨fun g => bo_1 (Or.inr (Or.inr (Or.inl ⟨c, by omega, hy.no g⟩))), fun g => bo_0 (fun z => ?_)⟩
    rcases z with (z | z | z | z | z | z) | z | z | z <;> first | omega | exact z.2.2 (hy.yes g)
  · intro z
    rcases z with (z | z | z | z | z | z) | z | z | z <;> omega
  · have e : (x2 - Int32.ofInt 2).toInt.toNat = p - 2 := by rw [i32_sub (by omega) (by omega), hp, z2]; omega
    rw [e]
    intro _ _ _ _
    refine (sx_linked ht).mono (fun y s2 hy => ?_)
    obtain rfl := hy.eq
    refine ⟨fun g => bo_0 (fun z => ?_), fun g => bo_1 (Or.inr (Or.inr (Or.inr ⟨c, by omega, hy.yes g⟩)))⟩
    rcases z with (z | z | z | z | z | z) | z | z | z <;> first | omega | exact hy.no g z.2.2
  · intro z
    rcases z with (z | z | z | z | z | z) | z | z | z <;> omega
  · obtain ⟨i1, -⟩ := ly_ix hp hp2 hx (by omega)
    rw [i1]
    simp only [Int.toNat_natCast]
    intro _ _ _ _
    refine (sx_had hU hx (by omega)).mono (fun y s2 hy => ?_)
    obtain ⟨rfl, hy⟩ := hy
    refine (sx_brk (h := hb_ (rp_rl T k).2.1 (s2.2.2.1 30 p)) hU hx (by omega) rfl hn hp (by omega) hlen hl (by rcases hy with q | q; exact Or.inl q; exact Or.inr ⟨q.1, by simpa using q.2⟩)).mono (fun r s3 h3 => ?_)
    refine ⟨h3.1, ?_⟩
    rcases h3.2 with q | q
    · exact Or.inl ⟨q.1, Or.inl q.2⟩
    · refine Or.inr ⟨q.1, fun z => ?_⟩
      rcases z with z | z | z | z
      · exact q.2 z
      all_goals omega
theorem sx_first {R p : Nat} {len : Int} (hU : rx_RU T s) (hk : rk_ T) (hR : T.2.2.1 = R) (h12 : R ≤ 12) (hlen : T.2.2.2.1 = len) (hl : 0 ≤ len ∧ len ≤ 48) (hp : x1.toInt = (p : Int)) (hp2 : 1 ≤ p ∧ p ≤ 48) (hpl : (p : Int) ≤ len) (ht : ∀ i, i < 64 → -9 ≤ (s.2.2.1 23 i).toInt ∧ (s.2.2.1 23 i).toInt ≤ 9) (hn : ∀ k, k < R → 0 ≤ (s.2.2.1 34 (12 * (p - 1) + k)).toInt ∧ (s.2.2.1 34 (12 * (p - 1) + k)).toInt ≤ 48) : am_SpI 84 [.ref 28, .int x1] s (fun r s2 => s2 = s ∧ fb_ (fun k => bx_ (s.2.2.1 23) (s.2.2.1 32) (s.2.2.1 30) (rp_rl T k) (s.2.2.1 34 (12 * (p - 1) + k)).toInt p len) R r.toInt) := by
  have e12 : (s.1 1 2).toInt = (R : Int) := by rw [hU.2.2.1, hR]
  have e13 : (s.1 1 3).toInt = len := by rw [hU.2.2.2.1, hlen]
  refine wp_XSheet_firstBroken_ok (I12 := fun l s1 => s1 = s ∧ ∃ i : Nat, l.toInt = (i : Int) ∧ i ≤ R ∧ ∀ k, k < i → ¬ bx_ (s.2.2.1 23) (s.2.2.1 32) (s.2.2.1 30) (rp_rl T k) (s.2.2.1 34 (12 * (p - 1) + k)).toInt p len) ?_ ?_
  · intro l s1 hI
    obtain ⟨rfl, i, hi, hiR, h⟩ := hI
    unfold wp_XSheet_firstBroken_12
    rw [hi, e12]
    refine ⟨fun c => (sx_isBroken hU hk hR h12 hlen hl hi (by omega) hp hp2 ht (hn i (by omega))).mono (fun y s2 hy => ?_), fun c => ⟨rfl, Or.inl ⟨rfl, fun k hkR => h k (by omega)⟩⟩⟩
    obtain rfl := hy.eq
    refine ⟨fun d => ⟨rfl, i + 1, ?_, by omega, fun k hkk => ?_⟩, fun d => ⟨rfl, Or.inr ⟨i, hi, by omega, hy.yes d, h⟩⟩⟩
    · rw [i32_inc (c := 0) (by omega) (by omega), hi]
      rfl
    · by_cases ek : k = i
      · rw [ek]; exact hy.no d
      · exact h k (by omega)
  · unfold wp_XSheet_firstBroken
    refine (sx_place hp).mono (fun y s1 hy => ?_)
    obtain ⟨rfl, hy⟩ := hy
    refine ⟨fun c => ?_, fun c => ⟨rfl, 0, rfl, Nat.zero_le _, fun k hkk => absurd hkk (Nat.not_lt_zero k)⟩⟩
    rcases hy with q | q
    · exact absurd c q.1
    · exact absurd (show 1 ≤ (p : Int) ∧ (p : Int) ≤ (s1.1 1 3).toInt by omega) q.2
end FI
