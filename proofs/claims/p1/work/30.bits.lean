theorem am_bits (s : Nat) (hs : s ≤ 56) (v : BitVec 64) : ((v >>> s).setWidth 32 &&& 255#32 = 0#32) ↔ ((v.sshiftRight s).setWidth 32).setWidth 8 = 0#8 := by
  constructor
  · intro h
    apply BitVec.eq_of_getLsbD_eq
    intro i hi
    have h1 := congrArg (fun w : BitVec 32 => w.getLsbD i) h
    simp only [BitVec.getLsbD_and, BitVec.getLsbD_setWidth, BitVec.getLsbD_ushiftRight, BitVec.getLsbD_zero] at h1
    have h255 : (255#32).getLsbD i = true := by
      match i, hi with
      | 0, _ => rfl
      | 1, _ => rfl
      | 2, _ => rfl
      | 3, _ => rfl
      | 4, _ => rfl
      | 5, _ => rfl
      | 6, _ => rfl
      | 7, _ => rfl
    rw [h255] at h1
    have h32 : i < 32 := by omega
    have h64 : s + i < 64 := by omega
    simp only [h32, decide_true, Bool.true_and, Bool.and_true] at h1
    simp only [BitVec.getLsbD_setWidth, BitVec.getLsbD_sshiftRight, BitVec.getLsbD_zero]
    have e1 : decide (64 ≤ i) = false := decide_eq_false (by omega)
    simp only [e1, Bool.not_false, Bool.true_and, h64, if_true, h1, Bool.and_false]
  · intro h
    apply BitVec.eq_of_getLsbD_eq
    intro i hi
    simp only [BitVec.getLsbD_and, BitVec.getLsbD_setWidth, BitVec.getLsbD_ushiftRight, BitVec.getLsbD_zero]
    by_cases h8 : i < 8
    · have h1 := congrArg (fun w : BitVec 8 => w.getLsbD i) h
      simp only [BitVec.getLsbD_setWidth, BitVec.getLsbD_sshiftRight, BitVec.getLsbD_zero] at h1
      have e1 : decide (64 ≤ i) = false := decide_eq_false (by omega)
      have h32 : i < 32 := by omega
      have h64 : s + i < 64 := by omega
      simp only [e1, Bool.not_false, Bool.true_and, h64, if_true, h8, h32, decide_true] at h1
      rw [h1]
      simp
    · have h255 : (255#32).getLsbD i = false := by
        rw [show (255#32) = (BitVec.ofNat 32 (2 ^ 8 - 1)) from rfl, BitVec.getLsbD_ofNat, Nat.testBit_two_pow_sub_one]
        simp [h8]
      rw [h255]
      simp
theorem am_sx8 (x : BitVec 8) : x.signExtend 32 = 0#32 ↔ x = 0#8 := by
  constructor
  · intro h
    apply BitVec.eq_of_getLsbD_eq
    intro i hi
    have h1 := congrArg (fun w : BitVec 32 => w.getLsbD i) h
    simp only [BitVec.getLsbD_signExtend, BitVec.getLsbD_zero] at h1
    have h32 : i < 32 := by omega
    simp only [h32, hi, decide_true, Bool.true_and, if_true] at h1
    rw [h1]
    simp
  · intro h
    subst h
    decide
theorem am_sxw (x : BitVec 64) : x.signExtend 32 = x.setWidth 32 := BitVec.signExtend_eq_setWidth_of_le x (by decide)
theorem am_sxv (x : BitVec 32) : x.signExtend 8 = x.setWidth 8 := BitVec.signExtend_eq_setWidth_of_le x (by decide)
theorem am_be (s : Nat) (hs : s ≤ 56) (v : BitVec 64) : ((v >>> s).signExtend 32 &&& 255#32 = 0#32) ↔ (((v.sshiftRight s).signExtend 32).signExtend 8).signExtend 32 = 0#32 := by
  rw [am_sx8, am_sxv, am_sxw, am_sxw]
  exact am_bits s hs v
theorem am_cb {x y : Int32} (h : x.toBitVec = 0#32 ↔ y.toBitVec = 0#32) : am_cmp .eq x 0 = am_cmp .eq y 0 := by
  have e : ∀ z : Int32, z = 0 ↔ z.toBitVec = 0#32 := fun z => ⟨fun q => by rw [q]; rfl, fun q => Int32.toBitVec_inj.mp q⟩
  simp only [am_cmp]
  by_cases hx : x.toBitVec = 0#32
  · rw [decide_eq_true ((e x).mpr hx), decide_eq_true ((e y).mpr (h.mp hx))]
  · rw [decide_eq_false (fun q => hx ((e x).mp q)), decide_eq_false (fun q => hx (h.mpr ((e y).mp q)))]
theorem am_b56 (A : Int64) : am_cmp .eq (am_bx 56 A) 0 = am_cmp .eq (am_bm 56 A) 0 := am_cb (am_be 56 (by decide) A.toBitVec)
theorem am_b48 (A : Int64) : am_cmp .eq (am_bx 48 A) 0 = am_cmp .eq (am_bm 48 A) 0 := am_cb (am_be 48 (by decide) A.toBitVec)
theorem am_b40 (A : Int64) : am_cmp .eq (am_bx 40 A) 0 = am_cmp .eq (am_bm 40 A) 0 := am_cb (am_be 40 (by decide) A.toBitVec)
theorem am_b32 (A : Int64) : am_cmp .eq (am_bx 32 A) 0 = am_cmp .eq (am_bm 32 A) 0 := am_cb (am_be 32 (by decide) A.toBitVec)
theorem am_b24 (A : Int64) : am_cmp .eq (am_bx 24 A) 0 = am_cmp .eq (am_bm 24 A) 0 := am_cb (am_be 24 (by decide) A.toBitVec)
theorem am_b16 (A : Int64) : am_cmp .eq (am_bx 16 A) 0 = am_cmp .eq (am_bm 16 A) 0 := am_cb (am_be 16 (by decide) A.toBitVec)
theorem am_b8 (A : Int64) : am_cmp .eq (am_bx 8 A) 0 = am_cmp .eq (am_bm 8 A) 0 := am_cb (am_be 8 (by decide) A.toBitVec)
theorem am_b0 (A : Int64) : am_cmp .eq (am_bx 0 A) 0 = am_cmp .eq (am_bm 0 A) 0 := am_cb (am_be 0 (by decide) A.toBitVec)
theorem am_z_eq (A : Int64) : am_zx A = am_zm A := by
  unfold am_zx am_zm
  rw [am_b56, am_b48, am_b40, am_b32, am_b24, am_b16, am_b8, am_b0]
theorem am_p_feed (A B C : Int64) : am_PairOK 119 151 [.long A, .long B, .long C] := by
  obtain ⟨f2, d1⟩ := am_fX A B C (am_ctI am_hM 16) (am_ctI am_hM 65)
  obtain ⟨g2, d2⟩ := am_fM A B C (am_cn (am_zx C) (am_cn (am_zx B) (am_cn (am_zx A) 0))) f2 (am_ctI am_hM 65)
  rw [← am_z_eq, ← am_z_eq, ← am_z_eq] at d2
  rw [← am_hF0] at d1
  exact ⟨_, _, _, d1, ⟨_, rfl⟩, rfl, d2, rfl⟩
