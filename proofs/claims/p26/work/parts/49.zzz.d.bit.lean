/-! ===== bits of ints ===== -/
theorem bt_lsb {A : Int32} {i : Nat} (hi : i < 32) : bt_ A i = A.toBitVec.getLsbD i := by
  have key : ∀ i : Nat, i < 32 → ((Int32.ofInt (i : Int) &&& 31).toBitVec.smod 32).toNat = i := by decide +kernel
  have h1 : (A >>> (Int32.ofInt (i : Int) &&& 31)).toBitVec.getLsbD 0 = A.toBitVec.getLsbD i := by
    rw [Int32.toBitVec_shiftRight, BitVec.getLsbD_sshiftRight', key i hi, Nat.add_zero, if_pos hi]
    rfl
  have h2 : ∀ y : Int32, (!decide ((y &&& Int32.ofInt 1).toInt = 0)) = y.toBitVec.getLsbD 0 := by
    intro y
    have a1 := ab_ti (y &&& Int32.ofInt 1)
    have a2 : (y &&& Int32.ofInt 1).toBitVec.toNat = y.toBitVec.toNat % 2 := by
      rw [Int32.toBitVec_and, BitVec.toNat_and]
      exact Nat.and_two_pow_sub_one_eq_mod _ 1
    have a3 : y.toBitVec.getLsbD 0 = decide (y.toBitVec.toNat % 2 = 1) := Nat.testBit_zero _
    rw [a3]
    by_cases c : y.toBitVec.toNat % 2 = 1
    · have e : ¬ (y &&& Int32.ofInt 1).toInt = 0 := by split at a1 <;> omega
      rw [decide_eq_true c, decide_eq_false e]
      rfl
    · have e : (y &&& Int32.ofInt 1).toInt = 0 := by split at a1 <;> omega
      rw [decide_eq_false c, decide_eq_true e]
      rfl
  unfold bt_
  rw [h2, h1]
theorem bt_ext {A B : Int32} (h : ∀ i, i < 32 → bt_ A i = bt_ B i) : A = B := by
  apply Int32.toBitVec_inj.mp
  apply BitVec.eq_of_getLsbD_eq
  intro i hi
  rw [← bt_lsb hi, ← bt_lsb hi]
  exact h i hi
theorem bt_or {A B : Int32} {i : Nat} (hi : i < 32) : bt_ (A ||| B) i = (bt_ A i || bt_ B i) := by
  rw [bt_lsb hi, bt_lsb hi, bt_lsb hi, Int32.toBitVec_or, BitVec.getLsbD_or]
theorem bt_and {A B : Int32} {i : Nat} (hi : i < 32) : bt_ (A &&& B) i = (bt_ A i && bt_ B i) := by
  rw [bt_lsb hi, bt_lsb hi, bt_lsb hi, Int32.toBitVec_and, BitVec.getLsbD_and]
theorem bt_not {A : Int32} {i : Nat} (hi : i < 32) : bt_ (A ^^^ Int32.ofInt (-1)) i = !bt_ A i := by
  have key : ∀ i : Nat, i < 32 → (Int32.ofInt (-1)).toBitVec.getLsbD i = true := by decide +kernel
  rw [bt_lsb hi, bt_lsb hi, Int32.toBitVec_xor, BitVec.getLsbD_xor, key i hi]
  cases A.toBitVec.getLsbD i <;> rfl
theorem bt_sh {l : Int32} {t i : Nat} (hl : l.toInt = (t : Int)) (ht : t < 31) (hi : i < 32) : bt_ (Int32.ofInt 1 <<< (l &&& 31)) i = decide (i = t) := by
  have key : ∀ t : Nat, t < 31 → ∀ i : Nat, i < 32 → bt_ (Int32.ofInt 1 <<< (Int32.ofInt (t : Int) &&& 31)) i = decide (i = t) := by decide +kernel
  rw [rx_ofI hl]
  exact key t ht i hi
theorem bt_z {i : Nat} (hi : i < 32) : bt_ (Int32.ofInt 0) i = false := by
  have key : ∀ i : Nat, i < 32 → bt_ (Int32.ofInt 0) i = false := by decide +kernel
  exact key i hi
/-- nothing in common -/
theorem bt_dis {A B : Int32} : (A &&& B).toInt = 0 ↔ ∀ i, i < 32 → ¬ (bt_ A i = true ∧ bt_ B i = true) := by
  constructor
  · intro h i hi z
    have e : A &&& B = Int32.ofInt 0 := rx_ofI h
    have := bt_and (A := A) (B := B) hi
    rw [e, bt_z hi, z.1, z.2] at this
    cases this
  · intro h
    have e : A &&& B = Int32.ofInt 0 := bt_ext (fun i hi => by
      rw [bt_and hi, bt_z hi]
      have := h i hi
      cases ha : bt_ A i with
      | false => rfl
      | true =>
        cases hb : bt_ B i with
        | false => rfl
        | true => exact absurd ⟨ha, hb⟩ this)
    rw [e]
    rfl
/-- the lowest n bits -/
theorem bt_low {l : Int32} {n i : Nat} (hl : l.toInt = (n : Int)) (hn : n ≤ 16) (hi : i < 32) : bt_ ((Int32.ofInt 1 <<< (l &&& 31)) - Int32.ofInt 1) i = decide (i < n) := by
  have key : ∀ n : Nat, n < 17 → ∀ i : Nat, i < 32 → bt_ ((Int32.ofInt 1 <<< (Int32.ofInt (n : Int) &&& 31)) - Int32.ofInt 1) i = decide (i < n) := by decide +kernel
  rw [rx_ofI hl]
  exact key n (by omega) i hi
/-- one bit is looked at -/
theorem bt_at {A l : Int32} {t : Nat} (hl : l.toInt = (t : Int)) : ((A >>> (l &&& 31)) &&& Int32.ofInt 1).toInt = 0 ↔ bt_ A t = false := by
  unfold bt_
  rw [← rx_ofI hl, Bool.not_eq_false', decide_eq_true_eq]
