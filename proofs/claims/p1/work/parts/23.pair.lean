/-! ===== one call on each of the fresh pair ===== -/
theorem am_Go.brT {al : Bool} {d : Nat} {S : am_S} {r : am_M} {b : Bool} {t f : Nat} {c : List (Option Value) × List Value × am_H × Nat × Nat} {z : am_C} (hb : b = true) (h : am_Go al d S r (t, c) z) : am_Go al d S r (bif b then t else f, c) z := by
  subst hb
  exact h
theorem am_Go.brF {al : Bool} {d : Nat} {S : am_S} {r : am_M} {b : Bool} {t f : Nat} {c : List (Option Value) × List Value × am_H × Nat × Nat} {z : am_C} (hb : b = false) (h : am_Go al d S r (f, c) z) : am_Go al d S r (bif b then t else f, c) z := by
  subst hb
  exact h
theorem am_ceq_t {x y : Int32} {k : Int} (hk : y.toInt = k) : am_cmp .eq x y = true ↔ x.toInt = k := by
  subst hk; simp only [am_cmp, decide_eq_true_eq]; exact ⟨fun h => by rw [h], fun h => Int32.toInt_inj.mp h⟩
theorem am_ceq_f {x y : Int32} {k : Int} (hk : y.toInt = k) : am_cmp .eq x y = false ↔ ¬ x.toInt = k := by
  rw [← Bool.not_eq_true, am_ceq_t hk]
theorem am_cne_t {x y : Int32} {k : Int} (hk : y.toInt = k) : am_cmp .ne x y = true ↔ ¬ x.toInt = k := by
  rw [← am_ceq_f hk]; simp only [am_cmp, Bool.not_eq_true']
theorem am_cne_f {x y : Int32} {k : Int} (hk : y.toInt = k) : am_cmp .ne x y = false ↔ x.toInt = k := by
  rw [← am_ceq_t hk]; simp only [am_cmp, Bool.not_eq_false']
theorem am_clt_t {x y : Int32} {k : Int} (hk : y.toInt = k) : am_cmp .lt x y = true ↔ x.toInt < k := by
  subst hk; simp only [am_cmp, decide_eq_true_eq, Int32.lt_iff_toInt_lt]
theorem am_clt_f {x y : Int32} {k : Int} (hk : y.toInt = k) : am_cmp .lt x y = false ↔ ¬ x.toInt < k := by
  rw [← Bool.not_eq_true, am_clt_t hk]
theorem am_cgt_t {x y : Int32} {k : Int} (hk : y.toInt = k) : am_cmp .gt x y = true ↔ k < x.toInt := by
  subst hk; simp only [am_cmp, decide_eq_true_eq, Int32.lt_iff_toInt_lt]
theorem am_cgt_f {x y : Int32} {k : Int} (hk : y.toInt = k) : am_cmp .gt x y = false ↔ ¬ k < x.toInt := by
  rw [← Bool.not_eq_true, am_cgt_t hk]
theorem am_cle_t {x y : Int32} {k : Int} (hk : y.toInt = k) : am_cmp .le x y = true ↔ x.toInt ≤ k := by
  subst hk; simp only [am_cmp, decide_eq_true_eq, Int32.le_iff_toInt_le]
theorem am_cle_f {x y : Int32} {k : Int} (hk : y.toInt = k) : am_cmp .le x y = false ↔ ¬ x.toInt ≤ k := by
  rw [← Bool.not_eq_true, am_cle_t hk]
theorem am_cge_t {x y : Int32} {k : Int} (hk : y.toInt = k) : am_cmp .ge x y = true ↔ k ≤ x.toInt := by
  subst hk; simp only [am_cmp, decide_eq_true_eq, Int32.le_iff_toInt_le]
theorem am_cge_f {x y : Int32} {k : Int} (hk : y.toInt = k) : am_cmp .ge x y = false ↔ ¬ k ≤ x.toInt := by
  rw [← Bool.not_eq_true, am_cge_t hk]
theorem am_in_of {i : Int32} {n : Nat} (h1 : 0 ≤ i.toInt) (h2 : i.toInt < (n : Int)) : am_in i n = true := by
  unfold am_in
  have h3 : ¬ i < 0 := fun q => by
    rw [Int32.lt_iff_toInt_lt] at q
    have : (0 : Int32).toInt = 0 := rfl
    omega
  have h4 : i.toNatClampNeg = i.toInt.toNat := rfl
  simp only [Bool.and_eq_true, Bool.not_eq_true', decide_eq_false_iff_not, Nat.blt_eq]
  exact ⟨h3, by omega⟩
theorem am_lt_of {i : Int32} {n : Nat} (h1 : 0 ≤ i.toInt) (h2 : i.toInt < (n : Int)) : i.toNatClampNeg < n := by
  have h4 : i.toNatClampNeg = i.toInt.toNat := rfl
  omega
theorem am_Go.st1 {al : Bool} {d : Nat} {S : am_S} {r : am_M} {i : am_I} {x y z : am_C} (hi : am_at r x.1 = some i) (hs : ∀ call : am_CALL, am_step call (d + 1) S al r i x = some y) (h : am_Go al d S r y z) : am_Go al d S r x z := by
  refine am_Go.bl 1 (fun call => ?_) h
  unfold am_nst
  simp only [hi, hs call]
  rfl
theorem am_Go.iald {al : Bool} {d : Nat} {S : am_S} {r : am_M} {pc : Nat} {lv : List (Option Value)} {i : Int32} {a : Nat} {rest : List Value} {h : am_H} {nc ns n : Nat} {f : Nat → Int32} {z : am_C} (hi : am_at r pc = some .iaload) (ha : am_ari h a 1 = some (n, f)) (hin : am_in i n = true) (k : am_Go al d S r (pc + 1, lv, .int (f i.toNatClampNeg) :: rest, h, nc, ns) z) : am_Go al d S r (pc, lv, .int i :: .ref a :: rest, h, nc, ns) z := by
  refine am_Go.st1 hi (fun call => ?_) k
  have e1 : am_s3 S (am_o r) .iaload h pc (.int i :: .ref a :: rest) = some (pc + 1, .int (f i.toNatClampNeg) :: rest) := by
    show am_or (am_ald h pc (.int i :: .ref a :: rest) 1) _ = _
    have e2 : am_ald h pc (.int i :: .ref a :: rest) 1 = some (pc + 1, .int (f i.toNatClampNeg) :: rest) := by
      unfold am_ald
      simp only [ha, hin, cond_true]
    rw [e2]
    rfl
  show (match am_s3 S (am_o r) .iaload h pc (.int i :: .ref a :: rest) with
    | some x => some (x.1, lv, x.2, h, nc, ns)
    | none => _) = _
  rw [e1]
theorem am_Go.tso {al : Bool} {d : Nat} {S : am_S} {r : am_M} {pc t : Nat} {lv : List (Option Value)} {x : Int32} {rest : List Value} {h : am_H} {nc ns : Nat} {dd lo hi : Int} {offs : Array Int} {z : am_C} (hi0 : am_at r pc = some (.tableswitch dd lo hi offs)) (hx : x.toInt < lo ∨ hi < x.toInt) (ht : am_tg pc dd = some t) (k : am_Go al d S r (t, lv, rest, h, nc, ns) z) : am_Go al d S r (pc, lv, .int x :: rest, h, nc, ns) z := by
  refine am_Go.st1 hi0 (fun call => ?_) k
  have e1 : am_s2 (.tableswitch dd lo hi offs) pc (.int x :: rest) = some (t, rest) := by
    have hc1 : (decide (x.toInt < lo) || decide (hi < x.toInt)) = true := by simpa using hx
    simp only [am_s2, hc1, cond_true, ht]
    rfl
  show (match am_s2 (.tableswitch dd lo hi offs) pc (.int x :: rest) with
    | some x => some (x.1, lv, x.2, h, nc, ns)
    | none => _) = _
  rw [e1]
/-- the same call on both: the same answer -/
def am_PairOK (mX mM : Nat) (as : List Value) : Prop := ∃ r h1 h2, am_Do true 19 mX (.ref 0 :: as) am_h0 (some (.int r), h1) ∧ (∃ fs, am_obj h1 64 12 = some fs) ∧ h1.length = 101 ∧ am_Do true 19 mM (.ref 64 :: as) h1 (some (.int r), h2) ∧ h2.length = 101
def am_pchk (mX mM : Nat) (as : List Value) : Bool := match am_call true 100000 19 mX (.ref 0 :: as) am_h0 with
  | some (some (.int r), h1) => (am_obj h1 64 12).isSome && Nat.beq h1.length 101 && (match am_call true 100000 19 mM (.ref 64 :: as) h1 with
    | some (some (.int r2), h2) => Nat.beq r.toBitVec.toNat r2.toBitVec.toNat && Nat.beq h2.length 101
    | _ => false)
  | _ => false
theorem am_pchk_ok {mX mM : Nat} {as : List Value} (h : am_pchk mX mM as = true) : am_PairOK mX mM as := by
  unfold am_pchk at h
  split at h
  · rename_i r h1 e1
    simp only [Bool.and_eq_true] at h
    obtain ⟨⟨g1, g2⟩, g3⟩ := h
    split at g3
    · rename_i r2 h2 e2
      rw [Bool.and_eq_true] at g3
      have g4 : r = r2 := Int32.toBitVec_inj.mp (BitVec.eq_of_toNat_eq (Nat.eq_of_beq_eq_true g3.1))
      subst g4
      exact ⟨r, h1, h2, am_Do.cl e1, Option.isSome_iff_exists.mp g1, Nat.eq_of_beq_eq_true g2, am_Do.cl e2, Nat.eq_of_beq_eq_true g3.2⟩
    · cases g3
  · cases h
theorem am_f37 : ∀ j, j < 49 → am_ctI am_hM 37 j = -1 := by decide +kernel
theorem am_f38 : ∀ j, j < 49 → am_ctI am_hM 38 j = -1 := by decide +kernel
