theorem am_bits (s : Nat) (hs : s ≤ 56) (v : BitVec 64) : ((v >>> s).setWidth 32 &&& 255#32 = 0#32) ↔ ((v.sshiftRight s).setWidth 32).setWidth 8 = 0#8 := by
  constructor
  · intro h
    apply BitVec.eq_of_getLsbD_eq
    intro i hi
    have h1 := congrArg (fun w : BitVec 32 => w.getLsbD i) h
    simp only [BitVec.getLsbD_and, BitVec.getLsbD_setWidth, BitVec.getLsbD_ushiftRight, BitVec.getLsbD_zero] at h1
    have h255 : (255#32).getLsbD i = true := by
      match i, hi with
      | 0, _ => rfl
      | 1, _ => rfl
      | 2, _ => rfl
      | 3, _ => rfl
      | 4, _ => rfl
      | 5, _ => rfl
      | 6, _ => rfl
      | 7, _ => rfl
    rw [h255] at h1
    have h32 : i < 32 := by omega
    have h64 : s + i < 64 := by omega
    simp only [h32, decide_true, Bool.true_and, Bool.and_true] at h1
    simp only [BitVec.getLsbD_setWidth, BitVec.getLsbD_sshiftRight, BitVec.getLsbD_zero]
    have e1 : decide (64 ≤ i) = false := decide_eq_false (by omega)
    simp only [e1, Bool.not_false, Bool.true_and, h64, if_true, h1, Bool.and_false]
  · intro h
    apply BitVec.eq_of_getLsbD_eq
    intro i hi
    simp only [BitVec.getLsbD_and, BitVec.getLsbD_setWidth, BitVec.getLsbD_ushiftRight, BitVec.getLsbD_zero]
    by_cases h8 : i < 8
    · have h1 := congrArg (fun w : BitVec 8 => w.getLsbD i) h
      simp only [BitVec.getLsbD_setWidth, BitVec.getLsbD_sshiftRight, BitVec.getLsbD_zero] at h1
      have e1 : decide (64 ≤ i) = false := decide_eq_false (by omega)
      have h32 : i < 32 := by omega
      have h64 : s + i < 64 := by omega
      simp only [e1, Bool.not_false, Bool.true_and, h64, if_true, h8, h32, decide_true] at h1
      rw [h1]
      simp
    · have h255 : (255#32).getLsbD i = false := by
        rw [show (255#32) = (BitVec.ofNat 32 (2 ^ 8 - 1)) from rfl, BitVec.getLsbD_ofNat, Nat.testBit_two_pow_sub_one]
        simp [h8]
      rw [h255]
      simp
