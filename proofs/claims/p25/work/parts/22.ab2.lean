/-! ===== bounds: values, locals, the stack ===== -/
abbrev ab_V : Type := ab_T ⊕ (Option ab_T ⊕ Nat)
abbrev ab_R : Type := ab_T ⊕ (Int × Int × Int)
def ab_v (ro : List Int) (v : ab_V) (w : Value) : Prop := match v, w with
  | .inl t, .int x => ab_ev ro t = some x.toInt
  | .inr (.inl u), .long x => ∀ t, u = some t → ab_ev ro t = some x.toInt
  | .inr (.inr a), .ref b => a = b
  | _, _ => False
def ab_st (ro : List Int) : List ab_V → List Value → Prop
  | [], [] => True
  | v :: A, w :: C => ab_v ro v w ∧ ab_st ro A C
  | _, _ => False
def ab_lv (ro : List Int) (A : List (Option ab_V)) (C : List (Option Value)) : Prop := A.length = C.length ∧ ∀ (i : Nat) (v : ab_V), A[i]? = some (some v) → ∃ w, C[i]? = some (some w) ∧ ab_v ro v w
theorem ab_v_mono {ro ro2 : List Int} {v : ab_V} {w : Value} (h : ab_v ro v w) : ab_v (ro ++ ro2) v w := by
  unfold ab_v at h ⊢
  split at h
  · exact ab_ev_mono h
  · exact fun t ht => ab_ev_mono (h t ht)
  · exact h
  · exact h.elim
theorem ab_st_mono {ro ro2 : List Int} : ∀ (A : List ab_V) (C : List Value), ab_st ro A C → ab_st (ro ++ ro2) A C := by
  intro A
  induction A with
  | nil =>
    intro C h
    cases C with
    | nil => trivial
    | cons w C => exact h.elim
  | cons v A ih =>
    intro C h
    cases C with
    | nil => exact h.elim
    | cons w C => exact ⟨ab_v_mono h.1, ih C h.2⟩
theorem ab_lv_mono {ro ro2 : List Int} {A : List (Option ab_V)} {C : List (Option Value)} (h : ab_lv ro A C) : ab_lv (ro ++ ro2) A C := ⟨h.1, fun i v hv => by
  obtain ⟨w, h1, h2⟩ := h.2 i v hv
  exact ⟨w, h1, ab_v_mono h2⟩⟩
theorem ab_v_int {ro : List Int} {t : ab_T} {w : Value} (h : ab_v ro (.inl t) w) : ∃ x : Int32, w = .int x ∧ ab_ev ro t = some x.toInt := by
  cases w with
  | int x => exact ⟨x, rfl, h⟩
  | _ => exact h.elim
theorem ab_v_l0 {ro : List Int} {x : Int64} : ab_v ro (.inr (.inl none)) (.long x) := fun _ h => by cases h
theorem ab_v_long {ro : List Int} {u : Option ab_T} {w : Value} (h : ab_v ro (.inr (.inl u)) w) : ∃ x : Int64, w = .long x := by
  cases w with
  | long x => exact ⟨x, rfl⟩
  | _ => exact h.elim
theorem ab_v_ref {ro : List Int} {a : Nat} {w : Value} (h : ab_v ro (.inr (.inr a)) w) : w = .ref a := by
  cases w with
  | ref x => exact congrArg Value.ref h.symm
  | _ => exact h.elim
theorem ab_st_cons {ro : List Int} {v : ab_V} {A : List ab_V} {C : List Value} (h : ab_st ro (v :: A) C) : ∃ w C2, C = w :: C2 ∧ ab_v ro v w ∧ ab_st ro A C2 := by
  cases C with
  | nil => exact h.elim
  | cons w C => exact ⟨w, C, rfl, h.1, h.2⟩
theorem ab_st_nil {ro : List Int} {C : List Value} (h : ab_st ro [] C) : C = [] := by
  cases C with
  | nil => rfl
  | cons w C => exact h.elim
/-- the category of a value -/
def ab_cat (v : ab_V) : Nat := match v with
  | .inr (.inl _) => 2
  | _ => 1
theorem ab_cat_ok {ro : List Int} {v : ab_V} {w : Value} (h : ab_v ro v w) : w.category = ab_cat v := by
  match v, h with
  | .inl t, h => obtain ⟨x, rfl, -⟩ := ab_v_int h; rfl
  | .inr (.inl u), h => obtain ⟨x, rfl⟩ := ab_v_long h; rfl
  | .inr (.inr a), h => rw [ab_v_ref h]; rfl
def ab_top : Int × Int × Int := (-2147483648, 2147483647, 511)
theorem ab_i32 (x : Int32) : -2147483648 ≤ x.toInt ∧ x.toInt ≤ 2147483647 := by
  have h1 := Int32.le_toInt x
  have h2 := Int32.toInt_lt x
  constructor <;> omega
theorem ab_top_ok (x : Int32) : ab_in x.toInt ab_top := by
  obtain ⟨h1, h2⟩ := ab_i32 x
  refine ⟨h1, h2, ?_⟩
  show x.toInt % 512 ≤ 511
  omega
/-- an answer: a sum, or a new unknown -/
def ab_rok (ro : List Int) (r : ab_R) (z : Int) : Prop := match r with
  | .inl t => ab_ev ro t = some z
  | .inr e => ab_in z e
def ab_res (r : ab_R) (N : ab_N) : ab_V × ab_N := match r with
  | .inl t => (.inl t, N)
  | .inr e => (.inl (ab_var N.length), N ++ [e])
theorem ab_res_ok {ro : List Int} {N : ab_N} (hN : ab_env ro N) {r : ab_R} {x : Int32} (h : ab_rok ro r x.toInt) : ∃ ro2, ab_env (ro ++ ro2) (ab_res r N).2 ∧ ab_v (ro ++ ro2) (ab_res r N).1 (.int x) := by
  cases r with
  | inl t => exact ⟨[], by rw [List.append_nil]; exact hN, by rw [List.append_nil]; exact h⟩
  | inr e => exact ⟨[x.toInt], ab_env_push hN h, ab_ev_new hN _⟩
def ab_xct (N : ab_N) (F : List ab_T) (t : ab_T) : ab_R := bif ab_rng N F t (-2147483648) 2147483647 then .inl t else .inr ab_top
theorem ab_bm {z : Int} (h1 : -2147483648 ≤ z) (h2 : z ≤ 2147483647) : z.bmod (2 ^ 32) = z := by
  rw [Int.bmod_def]
  split <;> omega
theorem ab_xct_ok {ro : List Int} {N : ab_N} {F : List ab_T} (hN : ab_env ro N) (hF : ab_F ro F) {t : ab_T} {z : Int} {x : Int32} (ht : ab_ev ro t = some z) (hx : x.toInt = z.bmod (2 ^ 32)) : ab_rok ro (ab_xct N F t) x.toInt := by
  unfold ab_xct
  cases hb : ab_rng N F t (-2147483648) 2147483647 with
  | true =>
    obtain ⟨h1, h2⟩ := ab_rng_ok hN hF ht hb
    rw [hx, ab_bm h1 h2]
    exact ht
  | false => exact ab_top_ok x
def ab_const (t : ab_T) : Option Int := match t with
  | (k, []) => some k
  | _ => none
theorem ab_const_ok {ro : List Int} {t : ab_T} {k z : Int} (h : ab_const t = some k) (hz : ab_ev ro t = some z) : z = k := by
  unfold ab_const at h
  split at h
  · cases h
    rw [ab_ev_k] at hz
    cases hz
    rfl
  · cases h
def ab_hi (N : ab_N) (t : ab_T) : Int := match ab_lo N (ab_neg t) with
  | some v => -v
  | none => 2147483647
theorem ab_hi_ok {ro : List Int} {N : ab_N} (hN : ab_env ro N) {t : ab_T} {x : Int32} (ht : ab_ev ro t = some x.toInt) : x.toInt ≤ ab_hi N t := by
  unfold ab_hi
  split
  · rename_i v hv
    have := ab_lo_ok hN (ab_neg_ok ht) hv
    omega
  · exact (ab_i32 x).2
def ab_lw (N : ab_N) (t : ab_T) : Int := match ab_lo N t with
  | some v => v
  | none => -2147483648
theorem ab_lw_ok {ro : List Int} {N : ab_N} (hN : ab_env ro N) {t : ab_T} {x : Int32} (ht : ab_ev ro t = some x.toInt) : ab_lw N t ≤ x.toInt := by
  unfold ab_lw
  split
  · rename_i v hv
    exact ab_lo_ok hN ht hv
  · exact (ab_i32 x).1
/-- the greatest rest by 512 -/
def ab_m (N : ab_N) (t : ab_T) : Int := match t with
  | (k, []) => k % 512
  | (k, [(x, c)]) => bif decide (k = 0) && decide (c = 1) then (match N[x]? with
      | some (lo, hi, m) => bif decide (0 ≤ lo) && decide (hi < m) then hi else m
      | none => 511) else 511
  | _ => 511
theorem ab_m_ok {ro : List Int} {N : ab_N} (hN : ab_env ro N) {t : ab_T} {z : Int} (ht : ab_ev ro t = some z) : z % 512 ≤ ab_m N t := by
  have h511 : z % 512 ≤ 511 := by omega
  unfold ab_m
  split
  · rename_i k
    rw [ab_ev_k] at ht
    cases ht
    exact Int.le_refl _
  · rename_i k x c
    cases hb : (decide (k = 0) && decide (c = 1)) with
    | false => exact h511
    | true =>
      simp only [cond_true]
      rw [Bool.and_eq_true] at hb
      have hk := of_decide_eq_true hb.1
      have hc := of_decide_eq_true hb.2
      subst hk
      subst hc
      obtain ⟨s, e1, rfl⟩ := ab_ev_inv ht
      obtain ⟨a, s2, e2, e3, rfl⟩ := ab_evl_inv e1
      cases e3
      simp only at h511 ⊢
      split
      · rename_i lo hi m hx
        obtain ⟨g1, g2, g3⟩ := hN.2 x a _ e2 hx
        simp only at g1 g2 g3
        cases hd : (decide (0 ≤ lo) && decide (hi < m)) with
        | false => simp only [cond_false]; omega
        | true =>
          rw [Bool.and_eq_true] at hd
          have := of_decide_eq_true hd.1
          simp only [cond_true]
          omega
      · omega
  · exact h511
def ab_and (N : ab_N) (t u : ab_T) : Int × Int × Int := match ab_const u with
  | some k => bif decide (k = 511) then (0, ab_m N t, 511) else bif decide (0 ≤ k) then (0, k, 511) else ab_top
  | none => bif ab_nn N u then (0, ab_hi N u, 511) else bif ab_nn N t then (0, ab_hi N t, 511) else ab_top
def ab_ior (N : ab_N) (t u : ab_T) : Int × Int × Int := (-2147483648, 2147483647, bif decide (ab_m N t = 0) then ab_m N u else 511)
def ab_shl (u : ab_T) : Int × Int × Int := match ab_const u with
  | some k => bif decide (k = 9) then (-2147483648, 2147483647, 0) else ab_top
  | none => ab_top
theorem ab_ti (x : Int32) : x.toInt = if 2 * x.toBitVec.toNat < 2 ^ 32 then (x.toBitVec.toNat : Int) else (x.toBitVec.toNat : Int) - ((2 ^ 32 : Nat) : Int) := BitVec.toInt_eq_toNat_cond x.toBitVec
theorem ab_tn (x : Int32) : x.toBitVec.toNat < 2 ^ 32 := x.toBitVec.isLt
theorem ab_and_le {x y : Int32} (h : 0 ≤ y.toInt) : 0 ≤ (x &&& y).toInt ∧ (x &&& y).toInt ≤ y.toInt := by
  have h1 := ab_ti y
  have h2 := ab_ti (x &&& y)
  have h3 := ab_tn y
  have h4 : (x &&& y).toBitVec.toNat ≤ y.toBitVec.toNat := by
    rw [Int32.toBitVec_and, BitVec.toNat_and]
    exact Nat.and_le_right
  split at h1 <;> split at h2 <;> omega
theorem ab_and_le2 {x y : Int32} (h : 0 ≤ x.toInt) : 0 ≤ (x &&& y).toInt ∧ (x &&& y).toInt ≤ x.toInt := by
  have h1 := ab_ti x
  have h2 := ab_ti (x &&& y)
  have h3 := ab_tn x
  have h4 : (x &&& y).toBitVec.toNat ≤ x.toBitVec.toNat := by
    rw [Int32.toBitVec_and, BitVec.toNat_and]
    exact Nat.and_le_left
  split at h1 <;> split at h2 <;> omega
theorem ab_and_511 (x : Int32) : (x &&& 511).toInt = x.toInt % 512 := by
  have h1 := ab_ti x
  have h2 := ab_ti (x &&& 511)
  have h3 := ab_tn x
  have h4 : (x &&& 511).toBitVec.toNat = x.toBitVec.toNat % 512 := by
    rw [Int32.toBitVec_and, BitVec.toNat_and]
    exact Nat.and_two_pow_sub_one_eq_mod _ 9
  split at h1 <;> split at h2 <;> omega
theorem ab_or_m {x y : Int32} (h : x.toInt % 512 = 0) : (x ||| y).toInt % 512 = y.toInt % 512 := by
  have h1 := ab_ti x
  have h2 := ab_ti (x ||| y)
  have h3 := ab_ti y
  have hx : x.toBitVec.toNat % 512 = 0 := by
    have := ab_tn x
    split at h1 <;> omega
  have h4 : (x ||| y).toBitVec.toNat % 512 = y.toBitVec.toNat % 512 := by
    rw [Int32.toBitVec_or, BitVec.toNat_or]
    have h5 : (x.toBitVec.toNat ||| y.toBitVec.toNat) % 2 ^ 9 = x.toBitVec.toNat % 2 ^ 9 ||| y.toBitVec.toNat % 2 ^ 9 := Nat.or_mod_two_pow
    have h6 : x.toBitVec.toNat % 2 ^ 9 = 0 := hx
    rw [h6, Nat.zero_or] at h5
    exact h5
  have := ab_tn x
  have := ab_tn y
  have := ab_tn (x ||| y)
  split at h2 <;> split at h3 <;> omega
theorem ab_shl_9 (x : Int32) : (x <<< ((9 : Int32) &&& 31)).toInt % 512 = 0 := by
  have h2 := ab_ti (x <<< ((9 : Int32) &&& 31))
  have h4 : (x <<< ((9 : Int32) &&& 31)).toBitVec.toNat % 512 = 0 := by
    have h5 : (x <<< ((9 : Int32) &&& 31)).toBitVec = x.toBitVec <<< 9 := rfl
    rw [h5, BitVec.toNat_shiftLeft, Nat.shiftLeft_eq]
    omega
  have := ab_tn (x <<< ((9 : Int32) &&& 31))
  split at h2 <;> omega
/-- two ints into one -/
def ab_bin (i : am_I) (N : ab_N) (F : List ab_T) (t u : ab_T) : Option ab_R := match i with
  | .iadd => some (ab_xct N F (ab_add t u))
  | .isub => some (ab_xct N F (ab_sub t u))
  | .imul => match ab_const t with
    | some c => some (ab_xct N F (ab_scl c u))
    | none => match ab_const u with
      | some c => some (ab_xct N F (ab_scl c t))
      | none => some (.inr ab_top)
  | .iand => some (.inr (ab_and N t u))
  | .ior => some (.inr (ab_ior N t u))
  | .ixor => some (.inr ab_top)
  | .ishl => some (.inr (ab_shl u))
  | .ishr => some (.inr ab_top)
  | .iushr => some (.inr ab_top)
  | _ => none
def ab_f (i : am_I) : Int32 → Int32 → Int32 := match i with
  | .iadd => fun x y => x + y
  | .isub => fun x y => x - y
  | .imul => fun x y => x * y
  | .iand => fun x y => x &&& y
  | .ior => fun x y => x ||| y
  | .ixor => fun x y => x ^^^ y
  | .ishl => fun x y => x <<< (y &&& 31)
  | .ishr => fun x y => x >>> (y &&& 31)
  | _ => fun x y => (x.toUInt32 >>> (y.toUInt32 &&& Int32.toUInt32 31)).toInt32
theorem ab_bin_ok {ro : List Int} {N : ab_N} {F : List ab_T} (hN : ab_env ro N) (hF : ab_F ro F) {i : am_I} {t u : ab_T} {r : ab_R} {x y : Int32} (ht : ab_ev ro t = some x.toInt) (hu : ab_ev ro u = some y.toInt) (h : ab_bin i N F t u = some r) : ab_rok ro r (ab_f i x y).toInt ∧ ∀ (pc : Nat) (lv : List (Option Value)) (st : List Value), am_s1 i pc lv (.int y :: .int x :: st) = some (pc + 1, lv, .int (ab_f i x y) :: st) := by
  cases i
  case iadd =>
    cases h
    exact ⟨ab_xct_ok hN hF (ab_add_ok ht hu) (Int32.toInt_add x y), fun _ _ _ => rfl⟩
  case isub =>
    cases h
    exact ⟨ab_xct_ok hN hF (ab_sub_ok ht hu) (Int32.toInt_sub x y), fun _ _ _ => rfl⟩
  case imul =>
    refine ⟨?_, fun _ _ _ => rfl⟩
    unfold ab_bin at h
    simp only at h
    split at h
    · rename_i c hc
      cases h
      have := ab_const_ok hc ht
      exact ab_xct_ok hN hF (ab_scl_ok (c := c) hu) (by rw [← this]; exact Int32.toInt_mul x y)
    · split at h
      · rename_i c hc
        cases h
        have := ab_const_ok hc hu
        exact ab_xct_ok hN hF (ab_scl_ok (c := c) ht) (by rw [← this, Int.mul_comm]; exact Int32.toInt_mul x y)
      · cases h
        exact ab_top_ok _
  case iand =>
    cases h
    refine ⟨?_, fun _ _ _ => rfl⟩
    show ab_in (x &&& y).toInt (ab_and N t u)
    have hT := ab_top_ok (x &&& y)
    have h512 : (x &&& y).toInt % 512 ≤ 511 := hT.2.2
    unfold ab_and
    split
    · rename_i k hk
      have hyk := ab_const_ok hk hu
      cases hb : decide (k = 511) with
      | true =>
        simp only [cond_true]
        have := of_decide_eq_true hb
        subst this
        have hy : y = 511 := Int32.toInt_inj.mp hyk
        subst hy
        rw [ab_and_511] at h512 ⊢
        have := ab_m_ok hN ht
        exact ⟨by show (0 : Int) ≤ _; omega, this, h512⟩
      | false =>
        simp only [cond_false]
        cases hc : decide (0 ≤ k) with
        | true =>
          simp only [cond_true]
          have := of_decide_eq_true hc
          obtain ⟨g1, g2⟩ := ab_and_le (x := x) (y := y) (by omega)
          exact ⟨g1, by show _ ≤ k; omega, h512⟩
        | false => exact hT
    · cases hb : ab_nn N u with
      | true =>
        simp only [cond_true]
        obtain ⟨g1, g2⟩ := ab_and_le (x := x) (ab_nn_ok hN hu hb)
        exact ⟨g1, Int.le_trans g2 (ab_hi_ok hN hu), h512⟩
      | false =>
        simp only [cond_false]
        cases hc : ab_nn N t with
        | true =>
          simp only [cond_true]
          obtain ⟨g1, g2⟩ := ab_and_le2 (y := y) (ab_nn_ok hN ht hc)
          exact ⟨g1, Int.le_trans g2 (ab_hi_ok hN ht), h512⟩
        | false => exact hT
  case ior =>
    cases h
    refine ⟨?_, fun _ _ _ => rfl⟩
    show ab_in (x ||| y).toInt (ab_ior N t u)
    obtain ⟨g1, g2, g3⟩ := ab_top_ok (x ||| y)
    refine ⟨g1, g2, ?_⟩
    unfold ab_ior
    simp only
    cases hb : decide (ab_m N t = 0) with
    | false => exact g3
    | true =>
      have := of_decide_eq_true hb
      have h1 := ab_m_ok hN ht
      have h2 := ab_m_ok hN hu
      simp only [cond_true]
      rw [ab_or_m (by omega)]
      exact h2
  case ixor => cases h; exact ⟨ab_top_ok _, fun _ _ _ => rfl⟩
  case ishl =>
    cases h
    refine ⟨?_, fun _ _ _ => rfl⟩
    show ab_in (x <<< (y &&& 31)).toInt (ab_shl u)
    unfold ab_shl
    split
    · rename_i k hk
      have hyk := ab_const_ok hk hu
      cases hb : decide (k = 9) with
      | false => exact ab_top_ok _
      | true =>
        have := of_decide_eq_true hb
        subst this
        have hy : y = 9 := Int32.toInt_inj.mp hyk
        subst hy
        obtain ⟨g1, g2, -⟩ := ab_top_ok (x <<< ((9 : Int32) &&& 31))
        exact ⟨g1, g2, Int.le_of_eq (ab_shl_9 x)⟩
    · exact ab_top_ok _
  case ishr => cases h; exact ⟨ab_top_ok _, fun _ _ _ => rfl⟩
  case iushr => cases h; exact ⟨ab_top_ok _, fun _ _ _ => rfl⟩
  all_goals cases h
