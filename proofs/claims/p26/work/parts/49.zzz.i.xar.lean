/-! ===== ends: X's packed states, arithmetic ===== -/
theorem x_ti (x : Int64) : x.toInt = if 2 * x.toBitVec.toNat < 2 ^ 64 then (x.toBitVec.toNat : Int) else (x.toBitVec.toNat : Int) - ((2 ^ 64 : Nat) : Int) := BitVec.toInt_eq_toNat_cond x.toBitVec
theorem x_tn (x : Int64) : x.toBitVec.toNat < 2 ^ 64 := x.toBitVec.isLt
theorem x_nn {x : Int64} (h : 0 ≤ x.toInt) : (x.toBitVec.toNat : Int) = x.toInt := by
  have h1 := x_ti x
  have h2 := x_tn x
  split at h1 <;> omega
theorem x_of {x : Int64} {n : Nat} (h : x.toBitVec.toNat = n) (h2 : n < 9223372036854775808) : x.toInt = (n : Int) := by
  have h1 := x_ti x
  rw [h] at h1
  rw [if_pos (by omega)] at h1
  exact h1
theorem y_nn {x : Int32} (h : 0 ≤ x.toInt) : (x.toBitVec.toNat : Int) = x.toInt := by
  have h1 := ab_ti x
  have h2 := ab_tn x
  split at h1 <;> omega
theorem y_of {x : Int32} {n : Nat} (h : x.toBitVec.toNat = n) (h2 : n < 2147483648) : x.toInt = (n : Int) := by
  have h1 := ab_ti x
  rw [h] at h1
  rw [if_pos (by omega)] at h1
  exact h1
theorem x_add {x y : Int64} (h1 : -9223372036854775808 ≤ x.toInt + y.toInt) (h2 : x.toInt + y.toInt ≤ 9223372036854775807) : (x + y).toInt = x.toInt + y.toInt := by
  rw [Int64.toInt_add]
  exact Int.bmod_eq_of_le (by omega) (by omega)
theorem x_sub {x y : Int64} (h1 : -9223372036854775808 ≤ x.toInt - y.toInt) (h2 : x.toInt - y.toInt ≤ 9223372036854775807) : (x - y).toInt = x.toInt - y.toInt := by
  rw [Int64.toInt_sub]
  exact Int.bmod_eq_of_le (by omega) (by omega)
theorem x_shl {x b : Int64} {m : Nat} (h : 0 ≤ x.toInt) (hb : (b.toBitVec.smod 64).toNat = m) (h2 : x.toInt * ((2 ^ m : Nat) : Int) < 9223372036854775808) : (x <<< b).toInt = x.toInt * ((2 ^ m : Nat) : Int) := by
  have h3 := x_nn h
  have e : (x <<< b).toBitVec.toNat = x.toBitVec.toNat * 2 ^ m := by
    rw [Int64.toBitVec_shiftLeft, BitVec.shiftLeft_eq', BitVec.toNat_shiftLeft, hb, Nat.shiftLeft_eq, Nat.mod_eq_of_lt]
    have : ((x.toBitVec.toNat * 2 ^ m : Nat) : Int) = x.toInt * ((2 ^ m : Nat) : Int) := by rw [Int.natCast_mul, h3]
    omega
  have e2 : ((x.toBitVec.toNat * 2 ^ m : Nat) : Int) = x.toInt * ((2 ^ m : Nat) : Int) := by rw [Int.natCast_mul, h3]
  rw [x_of e (by omega), e2]
/-- some bits of a long, from m on -/
theorem x_dig {x : Int64} {k : UInt64} {m b : Nat} {M : Int32} (h : 0 ≤ x.toInt) (hk : k.toNat % 64 = m) (hb : b ≤ 8) (hM : M.toBitVec.toNat = 2 ^ b - 1) : ((x.toUInt64 >>> k).toInt64.toInt32 &&& M).toInt = (x.toInt / ((2 ^ m : Nat) : Int)) % ((2 ^ b : Nat) : Int) := by
  have h3 := x_nn h
  have e1 : ((x.toUInt64 >>> k).toInt64).toBitVec.toNat = x.toBitVec.toNat / 2 ^ m := by
    show (x.toUInt64 >>> k).toNat = x.toUInt64.toNat / 2 ^ m
    rw [UInt64.toNat_shiftRight, hk, Nat.shiftRight_eq_div_pow]
  have e2 : ((x.toUInt64 >>> k).toInt64.toInt32).toBitVec.toNat = x.toBitVec.toNat / 2 ^ m % 2 ^ 32 := by
    show (((x.toUInt64 >>> k).toInt64).toBitVec.signExtend 32).toNat = _
    rw [BitVec.signExtend_eq_setWidth_of_le _ (by decide), BitVec.toNat_setWidth, e1]
  have p8 : 2 ^ b ≤ 2 ^ 8 := Nat.pow_le_pow_right (by decide) hb
  have p0 : 0 < 2 ^ b := Nat.pow_pos (by decide)
  have pd : 2 ^ b ∣ 2 ^ 32 := Nat.pow_dvd_pow 2 (by omega)
  have e3 : ((x.toUInt64 >>> k).toInt64.toInt32 &&& M).toBitVec.toNat = x.toBitVec.toNat / 2 ^ m % 2 ^ b := by
    rw [Int32.toBitVec_and, BitVec.toNat_and, hM, e2, Nat.and_two_pow_sub_one_eq_mod, Nat.mod_mod_of_dvd _ pd]
  have hlt : x.toBitVec.toNat / 2 ^ m % 2 ^ b < 2 ^ b := Nat.mod_lt _ p0
  rw [y_of e3 (by omega), Int.natCast_emod, Int.natCast_ediv, h3]
/-- a slot's stamp and number -/
theorem y_s9 {x : Int32} (h : 0 ≤ x.toInt) : ((x.toUInt32 >>> ((Int32.ofInt 9).toUInt32 &&& Int32.toUInt32 31)).toInt32).toInt = x.toInt / 512 := by
  have h3 := y_nn h
  have hk : ((Int32.ofInt 9).toUInt32 &&& Int32.toUInt32 31).toNat % 32 = 9 := by decide
  have e1 : ((x.toUInt32 >>> ((Int32.ofInt 9).toUInt32 &&& Int32.toUInt32 31)).toInt32).toBitVec.toNat = x.toBitVec.toNat / 512 := by
    show (x.toUInt32 >>> ((Int32.ofInt 9).toUInt32 &&& Int32.toUInt32 31)).toNat = x.toUInt32.toNat / 512
    rw [UInt32.toNat_shiftRight, hk, Nat.shiftRight_eq_div_pow]
  have hlt : x.toBitVec.toNat / 512 < 2147483648 := by
    have := ab_tn x
    omega
  rw [y_of e1 hlt]
  omega
theorem y_m511 {x : Int32} (h : 0 ≤ x.toInt) : (x &&& Int32.ofInt 511).toInt = x.toInt % 512 := by
  have h3 := y_nn h
  have e1 : (x &&& Int32.ofInt 511).toBitVec.toNat = x.toBitVec.toNat % 512 := by
    rw [Int32.toBitVec_and, BitVec.toNat_and]
    exact Nat.and_two_pow_sub_one_eq_mod _ 9
  rw [y_of e1 (by omega)]
  omega
theorem y_m255 {x : Int32} (h : 0 ≤ x.toInt) (h2 : x.toInt < 256) : x &&& Int32.ofInt 255 = x := by
  have h3 := y_nn h
  have e1 : (x &&& Int32.ofInt 255).toBitVec.toNat = x.toBitVec.toNat % 256 := by
    rw [Int32.toBitVec_and, BitVec.toNat_and]
    exact Nat.and_two_pow_sub_one_eq_mod _ 8
  apply Int32.toInt_inj.mp
  rw [y_of e1 (by omega)]
  omega
/-- where a state is looked for: the q-th slot from its home -/
def hx_ (h : Int32) (q : Nat) : Nat := ((h + Int32.ofInt (q : Int)) &&& Int32.ofInt 1023).toInt.toNat
theorem hx_eq {h : Int32} {q : Nat} (hq : q < 1024) : hx_ h q = (h.toBitVec.toNat + q) % 1024 ∧ ((h + Int32.ofInt (q : Int)) &&& Int32.ofInt 1023).toInt = ((hx_ h q : Nat) : Int) := by
  have e1 : ((h + Int32.ofInt (q : Int)) &&& Int32.ofInt 1023).toBitVec.toNat = (h.toBitVec.toNat + q) % 1024 := by
    rw [Int32.toBitVec_and, BitVec.toNat_and]
    have e2 : (h + Int32.ofInt (q : Int)).toBitVec.toNat = (h.toBitVec.toNat + q) % 2 ^ 32 := by
      show (h.toBitVec + (Int32.ofInt (q : Int)).toBitVec).toNat = _
      rw [BitVec.toNat_add]
      have e3 : (Int32.ofInt (q : Int)).toBitVec.toNat = q := by
        have h1 : (Int32.ofInt (q : Int)).toInt = (q : Int) := am_oi (by omega) (by omega)
        have h2 := y_nn (x := Int32.ofInt (q : Int)) (by omega)
        omega
      rw [e3]
    rw [e2]
    show (h.toBitVec.toNat + q) % 2 ^ 32 &&& (2 ^ 10 - 1) = _
    rw [Nat.and_two_pow_sub_one_eq_mod]
    omega
  have e4 : ((h + Int32.ofInt (q : Int)) &&& Int32.ofInt 1023).toInt = (((h.toBitVec.toNat + q) % 1024 : Nat) : Int) := y_of e1 (by omega)
  have e5 : hx_ h q = (h.toBitVec.toNat + q) % 1024 := by
    unfold hx_
    rw [e4]
    omega
  exact ⟨e5, by rw [e5]; exact e4⟩
theorem hx_lt {h : Int32} {q : Nat} (hq : q < 1024) : hx_ h q < 1024 := by
  rw [(hx_eq hq).1]
  omega
theorem hx_inj {h : Int32} {q r : Nat} (hq : q < 1024) (hr : r < 1024) (e : hx_ h q = hx_ h r) : q = r := by
  rw [(hx_eq hq).1, (hx_eq hr).1] at e
  omega
/-- more holes than pigeons -/
theorem pg_hole : ∀ (n : Nat) (f : Nat → Nat), (∀ i, i < n + 1 → f i < n) → ¬ ∀ i j, i < n + 1 → j < n + 1 → f i = f j → i = j := by
  intro n
  induction n with
  | zero => intro f h _; exact absurd (h 0 (by omega)) (Nat.not_lt_zero _)
  | succ n ih =>
    intro f h hinj
    refine ih (fun i => if f i = n then f (n + 1) else f i) (fun i hi => ?_) (fun i j hi hj e => ?_)
    · show (if f i = n then f (n + 1) else f i) < n
      have a := h i (by omega)
      have b := h (n + 1) (by omega)
      by_cases c : f i = n
      · rw [if_pos c]
        by_cases c2 : f (n + 1) = n
        · have := hinj i (n + 1) (by omega) (by omega) (by omega)
          omega
        · omega
      · rw [if_neg c]; omega
    · have e : (if f i = n then f (n + 1) else f i) = (if f j = n then f (n + 1) else f j) := e
      by_cases c : f i = n
      · rw [if_pos c] at e
        by_cases c2 : f j = n
        · exact hinj i j (by omega) (by omega) (by omega)
        · rw [if_neg c2] at e
          have := hinj (n + 1) j (by omega) (by omega) e
          omega
      · rw [if_neg c] at e
        by_cases c2 : f j = n
        · rw [if_pos c2] at e
          have := hinj i (n + 1) (by omega) (by omega) e
          omega
        · rw [if_neg c2] at e
          exact hinj i j (by omega) (by omega) e
/-! ===== digits ===== -/
theorem dg_lt (a n P Q : Int) (hP : P ≠ 0) : (a + n * (P * (64 * Q))) / P % 64 = a / P % 64 := by
  have e : a + n * (P * (64 * Q)) = a + (n * Q * 64) * P := by
    have : n * (P * (64 * Q)) = (n * Q * 64) * P := by
      rw [Int.mul_left_comm n P, Int.mul_comm P, Int.mul_assoc n Q 64, Int.mul_comm Q 64]
    rw [this]
  rw [e, Int.add_mul_ediv_right _ _ hP, Int.add_mul_emod_self_right]
theorem dg_eq (a n P : Int) (h0 : 0 ≤ a) (h1 : a < P) (n0 : 0 ≤ n) (n1 : n < 64) : (a + n * P) / P % 64 = n := by
  rw [Int.add_mul_ediv_right _ _ (by omega), Int.ediv_eq_zero_of_lt h0 h1, Int.zero_add, Int.emod_eq_of_lt n0 n1]
def p64_ : Nat → Int
  | 0 => 1
  | n + 1 => 64 * p64_ n
theorem p64_pos : ∀ n, 0 < p64_ n := by
  intro n
  induction n with
  | zero => decide
  | succ n ih => show 0 < 64 * p64_ n; omega
theorem p64_add : ∀ m n, p64_ (m + n) = p64_ m * p64_ n := by
  intro m n
  induction n with
  | zero => show p64_ m = p64_ m * 1; rw [Int.mul_one]
  | succ n ih =>
    show 64 * p64_ (m + n) = p64_ m * (64 * p64_ n)
    rw [ih, Int.mul_left_comm]
/-- a sum of digits -/
def sd_ (g : Nat → Int) : Nat → Int
  | 0 => 0
  | i + 1 => sd_ g i + g i * p64_ i
theorem sd_rng {g : Nat → Int} : ∀ n, (∀ i, i < n → 0 ≤ g i ∧ g i < 64) → 0 ≤ sd_ g n ∧ sd_ g n < p64_ n := by
  intro n
  induction n with
  | zero => intro _; exact ⟨Int.le_refl _, show (0 : Int) < 1 by decide⟩
  | succ n ih =>
    intro h
    have h1 := ih (fun i hi => h i (by omega))
    have h2 := h n (by omega)
    have hp := p64_pos n
    show 0 ≤ sd_ g n + g n * p64_ n ∧ sd_ g n + g n * p64_ n < 64 * p64_ n
    have a1 : 0 ≤ g n * p64_ n := Int.mul_nonneg h2.1 (by omega)
    have a2 : g n * p64_ n ≤ 63 * p64_ n := Int.mul_le_mul_of_nonneg_right (by omega) (by omega)
    omega
theorem sd_dig {g : Nat → Int} : ∀ n, (∀ i, i < n → 0 ≤ g i ∧ g i < 64) → ∀ i, i < n → sd_ g n / p64_ i % 64 = g i := by
  intro n
  induction n with
  | zero => intro _ i hi; exact absurd hi (Nat.not_lt_zero i)
  | succ n ih =>
    intro h i hi
    have h1 := sd_rng n (fun j hj => h j (by omega))
    have h2 := h n (by omega)
    show (sd_ g n + g n * p64_ n) / p64_ i % 64 = g i
    by_cases c : i = n
    · rw [c]
      exact dg_eq _ _ _ h1.1 h1.2 h2.1 h2.2
    · obtain ⟨d, rfl⟩ : ∃ d, n = i + 1 + d := ⟨n - (i + 1), by omega⟩
      have e : p64_ (i + 1 + d) = p64_ i * (64 * p64_ d) := by
        rw [p64_add]
        show 64 * p64_ i * p64_ d = _
        rw [Int.mul_assoc, Int.mul_left_comm]
      rw [e, dg_lt _ _ _ _ (by have := p64_pos i; omega)]
      exact ih (fun j hj => h j (by omega)) i (by omega)
theorem sd_congr {g f : Nat → Int} : ∀ n, (∀ i, i < n → g i = f i) → sd_ g n = sd_ f n := by
  intro n
  induction n with
  | zero => intro _; rfl
  | succ n ih =>
    intro h
    show sd_ g n + g n * p64_ n = sd_ f n + f n * p64_ n
    rw [ih (fun i hi => h i (by omega)), h n (by omega)]
