theorem am_bits (s : Nat) (hs : s ≤ 56) (v : BitVec 64) : ((v >>> s).setWidth 32 &&& 255#32 = 0#32) ↔ ((v.sshiftRight s).setWidth 32).setWidth 8 = 0#8 := by
  constructor
  · intro h
    apply BitVec.eq_of_getLsbD_eq
    intro i hi
    have h1 := congrArg (fun w : BitVec 32 => w.getLsbD i) h
    simp only [BitVec.getLsbD_and, BitVec.getLsbD_setWidth, BitVec.getLsbD_ushiftRight, BitVec.getLsbD_zero] at h1
    have h255 : (255#32).getLsbD i = true := by
      match i, hi with
      | 0, _ => rfl
      | 1, _ => rfl
      | 2, _ => rfl
      | 3, _ => rfl
      | 4, _ => rfl
      | 5, _ => rfl
      | 6, _ => rfl
      | 7, _ => rfl
    rw [h255] at h1
    have h32 : i < 32 := by omega
    have h64 : s + i < 64 := by omega
    simp only [h32, decide_true, Bool.true_and, Bool.and_true] at h1
    simp only [BitVec.getLsbD_setWidth, BitVec.getLsbD_sshiftRight, BitVec.getLsbD_zero]
    have e1 : decide (64 ≤ i) = false := decide_eq_false (by omega)
    simp only [e1, Bool.not_false, Bool.true_and, h64, if_true, h1, Bool.and_false]
  · intro h
    apply BitVec.eq_of_getLsbD_eq
    intro i hi
    simp only [BitVec.getLsbD_and, BitVec.getLsbD_setWidth, BitVec.getLsbD_ushiftRight, BitVec.getLsbD_zero]
    by_cases h8 : i < 8
    · have h1 := congrArg (fun w : BitVec 8 => w.getLsbD i) h
      simp only [BitVec.getLsbD_setWidth, BitVec.getLsbD_sshiftRight, BitVec.getLsbD_zero] at h1
      have e1 : decide (64 ≤ i) = false := decide_eq_false (by omega)
      have h32 : i < 32 := by omega
      have h64 : s + i < 64 := by omega
      simp only [e1, Bool.not_false, Bool.true_and, h64, if_true, h8, h32, decide_true] at h1
      rw [h1]
      simp
    · have h255 : (255#32).getLsbD i = false := by
        rw [show (255#32) = (BitVec.ofNat 32 (2 ^ 8 - 1)) from rfl, BitVec.getLsbD_ofNat, Nat.testBit_two_pow_sub_one]
        simp [h8]
      rw [h255]
      simp
theorem am_b_eq (s : Int32) (t : Nat) (A : Int64) (ht : t ≤ 56) (h1 : (s.toInt64.toUInt64 &&& Int64.toUInt64 63).toBitVec = BitVec.ofNat 64 t) (h2 : (s.toInt64 &&& 63).toBitVec = BitVec.ofNat 64 t) : (am_bx s A = 0) ↔ (am_bm s A = 0) := by
  sorry
theorem am_z_eq (A : Int64) : am_zx A = am_zm A := by
  sorry
theorem am_p_feed (A B C : Int64) : am_PairOK 119 151 [.long A, .long B, .long C] := by
  obtain ⟨f2, d1⟩ := am_fX A B C (am_ctI am_hM 16) (am_ctI am_hM 65)
  obtain ⟨g2, d2⟩ := am_fM A B C (am_cn (am_zx C) (am_cn (am_zx B) (am_cn (am_zx A) 0))) f2 (am_ctI am_hM 65)
  rw [← am_z_eq, ← am_z_eq, ← am_z_eq] at d2
  rw [← am_hF0] at d1
  exact ⟨_, _, _, d1, ⟨_, rfl⟩, rfl, d2, rfl⟩
