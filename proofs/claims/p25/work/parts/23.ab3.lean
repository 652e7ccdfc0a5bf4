/-! ===== bounds: constants, locals, the stack, sums ===== -/
abbrev ab_3 : Type := Nat × List (Option ab_V) × List ab_V × ab_N
def ab_get (lv : List (Option ab_V)) (i : Nat) : Option ab_V := match lv[i]? with
  | some (some v) => some v
  | _ => none
def ab_kill (lv : List (Option ab_V)) (i : Nat) : List (Option ab_V) := match i with
  | 0 => lv
  | j + 1 => match lv[j]? with
    | some (some (.inr (.inl _))) => lv.set j none
    | _ => lv
def ab_set1 (lv : List (Option ab_V)) (i : Nat) (v : ab_V) : List (Option ab_V) := ab_kill (lv.set i (some v)) i
def ab_set2 (lv : List (Option ab_V)) (i : Nat) (v : ab_V) : List (Option ab_V) := ab_kill ((lv.set i (some v)).set (i + 1) none) i
theorem ab_get_ok {ro : List Int} {A : List (Option ab_V)} {C : List (Option Value)} (h : ab_lv ro A C) {i : Nat} {v : ab_V} (hv : ab_get A i = some v) : ∃ w, am_lget C i = some w ∧ ab_v ro v w := by
  unfold ab_get at hv
  split at hv
  · rename_i u hu
    cases hv
    obtain ⟨w, h1, h2⟩ := h.2 i _ hu
    refine ⟨w, ?_, h2⟩
    unfold am_lget
    rw [h1]
  · cases hv
theorem ab_lv_set {ro : List Int} {A : List (Option ab_V)} {C : List (Option Value)} (h : ab_lv ro A C) {i : Nat} {v : ab_V} {w : Value} (hv : ab_v ro v w) : ab_lv ro (A.set i (some v)) (C.set i (some w)) := by
  refine ⟨by simp [h.1], fun j u hu => ?_⟩
  by_cases hj : i = j
  · subst hj
    have hl : i < (A.set i (some v)).length := (List.getElem?_eq_some_iff.mp hu).1
    rw [List.length_set] at hl
    rw [List.getElem?_set_self hl] at hu
    cases hu
    exact ⟨w, List.getElem?_set_self (by rw [← h.1]; exact hl), hv⟩
  · rw [List.getElem?_set_ne hj] at hu
    rw [List.getElem?_set_ne hj]
    exact h.2 j u hu
theorem ab_lv_none {ro : List Int} {A : List (Option ab_V)} {C : List (Option Value)} (h : ab_lv ro A C) {i : Nat} {c : Option Value} : ab_lv ro (A.set i none) (C.set i c) := by
  refine ⟨by simp [h.1], fun j u hu => ?_⟩
  by_cases hj : i = j
  · subst hj
    have hl : i < (A.set i none).length := (List.getElem?_eq_some_iff.mp hu).1
    rw [List.length_set] at hl
    rw [List.getElem?_set_self hl] at hu
    cases hu
  · rw [List.getElem?_set_ne hj] at hu
    rw [List.getElem?_set_ne hj]
    exact h.2 j u hu
theorem ab_lv_cn {ro : List Int} {A : List (Option ab_V)} {C : List (Option Value)} (h : ab_lv ro A C) {i : Nat} (hi : ∀ v, A[i]? ≠ some (some v)) {c : Option Value} : ab_lv ro A (C.set i c) := by
  refine ⟨by simp [h.1], fun j u hu => ?_⟩
  by_cases hj : i = j
  · subst hj
    exact absurd hu (hi u)
  · rw [List.getElem?_set_ne hj]
    exact h.2 j u hu
theorem ab_lv_kill {ro : List Int} {A : List (Option ab_V)} {C : List (Option Value)} (h : ab_lv ro A C) (i : Nat) : ab_lv ro (ab_kill A i) (am_kill C i) := by
  cases i with
  | zero => exact h
  | succ j =>
    unfold ab_kill am_kill
    simp only
    split
    · rename_i u hu
      obtain ⟨w, h1, h2⟩ := h.2 j _ hu
      obtain ⟨x, rfl⟩ := ab_v_long h2
      rw [h1]
      exact ab_lv_none h
    · rename_i hn
      have hA : ∀ x, C[j]? = some (some (.long x)) ∨ (∃ y, C[j]? = some (some (.double y))) → ∀ v, A[j]? ≠ some (some v) := by
        intro x hx v hv
        obtain ⟨w, h1, h2⟩ := h.2 j v hv
        rcases hx with hx | ⟨y, hx⟩
        · rw [hx] at h1
          cases h1
          match v, h2, hv with
          | .inl t, h2, _ => exact h2
          | .inr (.inl u), _, hv => exact hn u hv
          | .inr (.inr a), h2, _ => exact h2
        · rw [hx] at h1
          cases h1
          match v, h2 with
          | .inl t, h2 => exact h2
          | .inr (.inl u), h2 => exact h2
          | .inr (.inr a), h2 => exact h2
      split
      · rename_i x hx
        exact ab_lv_cn h (hA x (Or.inl hx))
      · rename_i x hx
        exact ab_lv_cn h (hA 0 (Or.inr ⟨x, hx⟩))
      · exact h
theorem ab_lv_set1 {ro : List Int} {A : List (Option ab_V)} {C : List (Option Value)} (h : ab_lv ro A C) {i : Nat} {v : ab_V} {w : Value} (hv : ab_v ro v w) : ab_lv ro (ab_set1 A i v) (am_lset1 C i w) := ab_lv_kill (ab_lv_set h hv) i
theorem ab_lv_set2 {ro : List Int} {A : List (Option ab_V)} {C : List (Option Value)} (h : ab_lv ro A C) {i : Nat} {v : ab_V} {w : Value} (hv : ab_v ro v w) : ab_lv ro (ab_set2 A i v) (am_lset2 C i w) := ab_lv_kill (ab_lv_none (ab_lv_set h hv)) i
def ab_ldi (pc : Nat) (lv : List (Option ab_V)) (st : List ab_V) (N : ab_N) (n i : Nat) : Option ab_3 := match ab_get lv i with
  | some (.inl t) => some (pc + n, lv, .inl t :: st, N)
  | _ => none
def ab_ldl (pc : Nat) (lv : List (Option ab_V)) (st : List ab_V) (N : ab_N) (n i : Nat) : Option ab_3 := match ab_get lv i with
  | some (.inr (.inl u)) => some (pc + n, lv, .inr (.inl u) :: st, N)
  | _ => none
def ab_lda (pc : Nat) (lv : List (Option ab_V)) (st : List ab_V) (N : ab_N) (n i : Nat) : Option ab_3 := match ab_get lv i with
  | some (.inr (.inr a)) => some (pc + n, lv, .inr (.inr a) :: st, N)
  | _ => none
def ab_sti (pc : Nat) (lv : List (Option ab_V)) (st : List ab_V) (N : ab_N) (n i : Nat) : Option ab_3 := match st with
  | .inl t :: r => bif Nat.blt i lv.length then some (pc + n, ab_set1 lv i (.inl t), r, N) else none
  | _ => none
def ab_sta (pc : Nat) (lv : List (Option ab_V)) (st : List ab_V) (N : ab_N) (n i : Nat) : Option ab_3 := match st with
  | .inr (.inr a) :: r => bif Nat.blt i lv.length then some (pc + n, ab_set1 lv i (.inr (.inr a)), r, N) else none
  | _ => none
def ab_stl (pc : Nat) (lv : List (Option ab_V)) (st : List ab_V) (N : ab_N) (n i : Nat) : Option ab_3 := match st with
  | .inr (.inl u) :: r => bif Nat.blt (i + 1) lv.length then some (pc + n, ab_set2 lv i (.inr (.inl u)), r, N) else none
  | _ => none
def ab_ll (pc : Nat) (lv : List (Option ab_V)) (st : List ab_V) (N : ab_N) : Option ab_3 := match st with
  | .inr (.inl _) :: .inr (.inl _) :: r => some (pc + 1, lv, .inr (.inl none) :: r, N)
  | _ => none
def ab_li (pc : Nat) (lv : List (Option ab_V)) (st : List ab_V) (N : ab_N) : Option ab_3 := match st with
  | .inl _ :: .inr (.inl _) :: r => some (pc + 1, lv, .inr (.inl none) :: r, N)
  | _ => none
def ab_pr (pc : Nat) (lv : List (Option ab_V)) (st : List ab_V) (N : ab_N) (r : ab_R) : Option ab_3 := some (pc, lv, (ab_res r N).1 :: st, (ab_res r N).2)
def ab_nar (N : ab_N) (F : List ab_T) (t : ab_T) (lo hi : Int) : ab_R := bif ab_rng N F t lo hi then .inl t else .inr (lo, hi, 511)
def ab_b1 (i : am_I) (pc : Nat) (lv : List (Option ab_V)) (st : List ab_V) (N : ab_N) (F : List ab_T) : Option ab_3 := match st with
  | .inl u :: .inl t :: r => match ab_bin i N F t u with
    | some q => ab_pr (pc + 1) lv r N q
    | none => none
  | _ => none
/-- a long made an int -/
def ab_l2 (N : ab_N) (F : List ab_T) (u : Option ab_T) : ab_R := match u with
  | some t => ab_xct N F t
  | none => .inr ab_top
/-- as am_s1 -/
def ab_s1 (i : am_I) (pc : Nat) (lv : List (Option ab_V)) (st : List ab_V) (N : ab_N) (F : List ab_T) : Option ab_3 := match i with
  | .iconst n => some (pc + 1, lv, .inl ((Int32.ofInt n).toInt, []) :: st, N)
  | .bipush n => some (pc + 2, lv, .inl (((Int8.ofInt n).toInt32).toInt, []) :: st, N)
  | .sipush n => some (pc + 3, lv, .inl (((Int16.ofInt n).toInt32).toInt, []) :: st, N)
  | .lconst _ => some (pc + 1, lv, .inr (.inl none) :: st, N)
  | .iload_n k => ab_ldi pc lv st N 1 k
  | .iload k => ab_ldi pc lv st N 2 k
  | .lload_n k => ab_ldl pc lv st N 1 k
  | .lload k => ab_ldl pc lv st N 2 k
  | .aload_n k => ab_lda pc lv st N 1 k
  | .aload k => ab_lda pc lv st N 2 k
  | .istore_n k => ab_sti pc lv st N 1 k
  | .istore k => ab_sti pc lv st N 2 k
  | .lstore_n k => ab_stl pc lv st N 1 k
  | .lstore k => ab_stl pc lv st N 2 k
  | .astore_n k => ab_sta pc lv st N 1 k
  | .astore k => ab_sta pc lv st N 2 k
  | .iinc k n => match ab_get lv k with
    | some (.inl t) => bif Nat.blt k lv.length then (match ab_res (ab_xct N F (ab_add t ((Int32.ofInt n).toInt, []))) N with
      | (v, N2) => some (pc + 3, ab_set1 lv k v, st, N2)) else none
    | _ => none
  | .irem => match st with
    | .inl u :: .inl _ :: r => match ab_const u with
      | some k => bif decide (k = 0) then none else ab_pr (pc + 1) lv r N (.inr ab_top)
      | none => none
    | _ => none
  | .ladd => ab_ll pc lv st N
  | .lsub => ab_ll pc lv st N
  | .lmul => ab_ll pc lv st N
  | .land => ab_ll pc lv st N
  | .lor => ab_ll pc lv st N
  | .lxor => ab_ll pc lv st N
  | .lcmp => match st with
    | .inr (.inl _) :: .inr (.inl _) :: r => ab_pr (pc + 1) lv r N (.inr ab_top)
    | _ => none
  | .lshl => ab_li pc lv st N
  | .lshr => ab_li pc lv st N
  | .lushr => ab_li pc lv st N
  | .i2l => match st with
    | .inl t :: r => some (pc + 1, lv, .inr (.inl (some t)) :: r, N)
    | _ => none
  | .l2i => match st with
    | .inr (.inl u) :: r => ab_pr (pc + 1) lv r N (ab_l2 N F u)
    | _ => none
  | .i2b => match st with
    | .inl t :: r => ab_pr (pc + 1) lv r N (ab_nar N F t (-128) 127)
    | _ => none
  | .i2s => match st with
    | .inl t :: r => ab_pr (pc + 1) lv r N (ab_nar N F t (-32768) 32767)
    | _ => none
  | .dup => match st with
    | v :: r => bif Nat.beq (ab_cat v) 1 then some (pc + 1, lv, v :: v :: r, N) else none
    | _ => none
  | .dup2 => match st with
    | v :: w :: r => bif Nat.beq (ab_cat v) 1 && Nat.beq (ab_cat w) 1 then some (pc + 1, lv, v :: w :: v :: w :: r, N) else none
    | _ => none
  | .pop => match st with
    | v :: r => bif Nat.beq (ab_cat v) 1 then some (pc + 1, lv, r, N) else none
    | _ => none
  | i => ab_b1 i pc lv st N F
/-- what the step must show -/
def ab_S1 (ro : List Int) (e : Option am_3) (q : ab_3) : Prop := ∃ ro2 lv2 st2, e = some (q.1, lv2, st2) ∧ ab_env (ro ++ ro2) q.2.2.2 ∧ ab_lv (ro ++ ro2) q.2.1 lv2 ∧ ab_st (ro ++ ro2) q.2.2.1 st2
section AB1
variable {ro : List Int} {N : ab_N} {F : List ab_T} {lv : List (Option ab_V)} {st : List ab_V} {lvc : List (Option Value)} {stc : List Value} {pc : Nat} {q : ab_3}
theorem ab_S1.mk0 {e : Option am_3} {pc2 : Nat} {A : List (Option ab_V)} {B : List ab_V} {lv2 : List (Option Value)} {st2 : List Value} (hN : ab_env ro N) (he : e = some (pc2, lv2, st2)) (h1 : ab_lv ro A lv2) (h2 : ab_st ro B st2) : ab_S1 ro e (pc2, A, B, N) := ⟨[], lv2, st2, he, by rw [List.append_nil]; exact hN, by rw [List.append_nil]; exact h1, by rw [List.append_nil]; exact h2⟩
theorem ab_pr_ok {e : Option am_3} {B : List ab_V} {r : ab_R} {x : Int32} {st2 : List Value} (hN : ab_env ro N) (hl : ab_lv ro lv lvc) (hs : ab_st ro B st2) (hr : ab_rok ro r x.toInt) (he : e = some (pc, lvc, .int x :: st2)) (h : ab_pr pc lv B N r = some q) : ab_S1 ro e q := by
  cases h
  obtain ⟨ro2, h1, h2⟩ := ab_res_ok hN hr
  exact ⟨ro2, lvc, .int x :: st2, he, h1, ab_lv_mono hl, h2, ab_st_mono _ _ hs⟩
theorem ab_ldi_ok {n i : Nat} (hN : ab_env ro N) (hl : ab_lv ro lv lvc) (hs : ab_st ro st stc) (h : ab_ldi pc lv st N n i = some q) : ab_S1 ro (am_ldi pc lvc stc n i) q := by
  unfold ab_ldi at h
  split at h
  · rename_i t ht
    cases h
    obtain ⟨w, h1, h2⟩ := ab_get_ok hl ht
    obtain ⟨x, rfl, h3⟩ := ab_v_int h2
    exact ab_S1.mk0 (st2 := .int x :: stc) hN (by unfold am_ldi; rw [h1]) hl ⟨h3, hs⟩
  · cases h
theorem ab_ldl_ok {n i : Nat} (hN : ab_env ro N) (hl : ab_lv ro lv lvc) (hs : ab_st ro st stc) (h : ab_ldl pc lv st N n i = some q) : ab_S1 ro (am_ldl pc lvc stc n i) q := by
  unfold ab_ldl at h
  split at h
  · rename_i t ht
    cases h
    obtain ⟨w, h1, h2⟩ := ab_get_ok hl ht
    obtain ⟨x, rfl⟩ := ab_v_long h2
    exact ab_S1.mk0 (st2 := .long x :: stc) hN (by unfold am_ldl; rw [h1]) hl ⟨h2, hs⟩
  · cases h
theorem ab_lda_ok {n i : Nat} (hN : ab_env ro N) (hl : ab_lv ro lv lvc) (hs : ab_st ro st stc) (h : ab_lda pc lv st N n i = some q) : ab_S1 ro (am_lda pc lvc stc n i) q := by
  unfold ab_lda at h
  split at h
  · rename_i t ht
    cases h
    obtain ⟨w, h1, h2⟩ := ab_get_ok hl ht
    obtain rfl := ab_v_ref h2
    exact ab_S1.mk0 (st2 := .ref t :: stc) hN (by unfold am_lda; rw [h1]) hl ⟨rfl, hs⟩
  · cases h
theorem ab_cb {α : Type} {b : Bool} {x : Option α} {y : α} (h : (bif b then x else none) = some y) : b = true ∧ x = some y := by
  cases b with
  | true => exact ⟨rfl, h⟩
  | false => cases h
theorem ab_sti_ok {n i : Nat} (hN : ab_env ro N) (hl : ab_lv ro lv lvc) (hs : ab_st ro st stc) (h : ab_sti pc lv st N n i = some q) : ab_S1 ro (am_sti pc lvc stc n i) q := by
  unfold ab_sti at h
  split at h
  · obtain ⟨hb, h⟩ := ab_cb h
    cases h
    obtain ⟨w, C, rfl, h1, h2⟩ := ab_st_cons hs
    obtain ⟨x, rfl, h3⟩ := ab_v_int h1
    exact ab_S1.mk0 hN (by unfold am_sti; rw [hl.1] at hb; simp only [hb, cond_true]) (ab_lv_set1 hl h1) h2
  · cases h
theorem ab_sta_ok {n i : Nat} (hN : ab_env ro N) (hl : ab_lv ro lv lvc) (hs : ab_st ro st stc) (h : ab_sta pc lv st N n i = some q) : ab_S1 ro (am_sta pc lvc stc n i) q := by
  unfold ab_sta at h
  split at h
  · obtain ⟨hb, h⟩ := ab_cb h
    cases h
    obtain ⟨w, C, rfl, h1, h2⟩ := ab_st_cons hs
    obtain rfl := ab_v_ref h1
    exact ab_S1.mk0 hN (by unfold am_sta; rw [hl.1] at hb; simp only [hb, cond_true]) (ab_lv_set1 hl h1) h2
  · cases h
theorem ab_stl_ok {n i : Nat} (hN : ab_env ro N) (hl : ab_lv ro lv lvc) (hs : ab_st ro st stc) (h : ab_stl pc lv st N n i = some q) : ab_S1 ro (am_stl pc lvc stc n i) q := by
  unfold ab_stl at h
  split at h
  · obtain ⟨hb, h⟩ := ab_cb h
    cases h
    obtain ⟨w, C, rfl, h1, h2⟩ := ab_st_cons hs
    obtain ⟨x, rfl⟩ := ab_v_long h1
    exact ab_S1.mk0 hN (by unfold am_stl; rw [hl.1] at hb; simp only [hb, cond_true]) (ab_lv_set2 hl h1) h2
  · cases h
theorem ab_ll_ok {f : Int64 → Int64 → Int64} (hN : ab_env ro N) (hl : ab_lv ro lv lvc) (hs : ab_st ro st stc) (h : ab_ll pc lv st N = some q) : ab_S1 ro (am_ll pc lvc stc (fun x y => .long (f x y))) q := by
  unfold ab_ll at h
  split at h
  · cases h
    obtain ⟨w, C, rfl, h1, h2⟩ := ab_st_cons hs
    obtain ⟨w2, C2, rfl, h3, h4⟩ := ab_st_cons h2
    obtain ⟨x, rfl⟩ := ab_v_long h1
    obtain ⟨y, rfl⟩ := ab_v_long h3
    exact ab_S1.mk0 hN rfl hl ⟨ab_v_l0, h4⟩
  · cases h
theorem ab_li_ok {f : Int64 → Int32 → Int64} (hN : ab_env ro N) (hl : ab_lv ro lv lvc) (hs : ab_st ro st stc) (h : ab_li pc lv st N = some q) : ab_S1 ro (am_li pc lvc stc f) q := by
  unfold ab_li at h
  split at h
  · cases h
    obtain ⟨w, C, rfl, h1, h2⟩ := ab_st_cons hs
    obtain ⟨w2, C2, rfl, h3, h4⟩ := ab_st_cons h2
    obtain ⟨x, rfl, -⟩ := ab_v_int h1
    obtain ⟨y, rfl⟩ := ab_v_long h3
    exact ab_S1.mk0 hN rfl hl ⟨ab_v_l0, h4⟩
  · cases h
theorem ab_bin1_ok {i : am_I} (hN : ab_env ro N) (hF : ab_F ro F) (hl : ab_lv ro lv lvc) (hs : ab_st ro st stc) (h : ab_b1 i pc lv st N F = some q) : ab_S1 ro (am_s1 i pc lvc stc) q := by
  unfold ab_b1 at h
  split at h
  · rename_i u t r
    split at h
    · rename_i a ha
      obtain ⟨w, C, rfl, h1, h2⟩ := ab_st_cons hs
      obtain ⟨w2, C2, rfl, h3, h4⟩ := ab_st_cons h2
      obtain ⟨y, rfl, hy⟩ := ab_v_int h1
      obtain ⟨x, rfl, hx⟩ := ab_v_int h3
      obtain ⟨g1, g2⟩ := ab_bin_ok hN hF hx hy ha
      exact ab_pr_ok hN hl h4 g1 (g2 pc lvc C2) h
    · cases h
  · cases h
theorem ab_nar_ok {t : ab_T} {lo hi : Int} {x y : Int32} (hN : ab_env ro N) (hF : ab_F ro F) (ht : ab_ev ro t = some x.toInt) (h1 : lo ≤ x.toInt → x.toInt ≤ hi → y.toInt = x.toInt) (h2 : lo ≤ y.toInt ∧ y.toInt ≤ hi) : ab_rok ro (ab_nar N F t lo hi) y.toInt := by
  unfold ab_nar
  cases hb : ab_rng N F t lo hi with
  | true =>
    obtain ⟨a1, a2⟩ := ab_rng_ok hN hF ht hb
    rw [h1 a1 a2]
    exact ht
  | false => exact ⟨h2.1, h2.2, by show y.toInt % 512 ≤ 511; omega⟩
theorem ab_i8 (x : Int32) : (-128 ≤ x.toInt → x.toInt ≤ 127 → x.toInt8.toInt32.toInt = x.toInt) ∧ -128 ≤ x.toInt8.toInt32.toInt ∧ x.toInt8.toInt32.toInt ≤ 127 := by
  have h1 : x.toInt8.toInt32.toInt = x.toInt8.toInt := Int8.toInt_toInt32 _
  have h2 : x.toInt8.toInt = x.toInt.bmod (2 ^ 8) := Int32.toInt_toInt8 x
  rw [h1, h2, Int.bmod_def]
  split <;> omega
theorem ab_i16 (x : Int32) : (-32768 ≤ x.toInt → x.toInt ≤ 32767 → x.toInt16.toInt32.toInt = x.toInt) ∧ -32768 ≤ x.toInt16.toInt32.toInt ∧ x.toInt16.toInt32.toInt ≤ 32767 := by
  have h1 : x.toInt16.toInt32.toInt = x.toInt16.toInt := Int16.toInt_toInt32 _
  have h2 : x.toInt16.toInt = x.toInt.bmod (2 ^ 16) := Int32.toInt_toInt16 x
  rw [h1, h2, Int.bmod_def]
  split <;> omega
set_option maxHeartbeats 4000000 in
theorem ab_s1_ok {i : am_I} (hN : ab_env ro N) (hF : ab_F ro F) (hl : ab_lv ro lv lvc) (hs : ab_st ro st stc) (h : ab_s1 i pc lv st N F = some q) : ab_S1 ro (am_s1 i pc lvc stc) q := by
  cases i
  case iconst n => cases h; exact ab_S1.mk0 hN rfl hl ⟨ab_ev_k _ _, hs⟩
  case bipush n => cases h; exact ab_S1.mk0 hN rfl hl ⟨ab_ev_k _ _, hs⟩
  case sipush n => cases h; exact ab_S1.mk0 hN rfl hl ⟨ab_ev_k _ _, hs⟩
  case lconst n => cases h; exact ab_S1.mk0 hN rfl hl ⟨ab_v_l0, hs⟩
  case iload_n k => exact ab_ldi_ok hN hl hs h
  case iload k => exact ab_ldi_ok hN hl hs h
  case lload_n k => exact ab_ldl_ok hN hl hs h
  case lload k => exact ab_ldl_ok hN hl hs h
  case aload_n k => exact ab_lda_ok hN hl hs h
  case aload k => exact ab_lda_ok hN hl hs h
  case istore_n k => exact ab_sti_ok hN hl hs h
  case istore k => exact ab_sti_ok hN hl hs h
  case lstore_n k => exact ab_stl_ok hN hl hs h
  case lstore k => exact ab_stl_ok hN hl hs h
  case astore_n k => exact ab_sta_ok hN hl hs h
  case astore k => exact ab_sta_ok hN hl hs h
  case iinc k n =>
    unfold ab_s1 at h
    simp only at h
    split at h
    · rename_i t ht
      obtain ⟨hb, h⟩ := ab_cb h
      cases h
      obtain ⟨w, h1, h2⟩ := ab_get_ok hl ht
      obtain ⟨x, rfl, h3⟩ := ab_v_int h2
      obtain ⟨ro2, g1, g2⟩ := ab_res_ok (x := x + Int32.ofInt n) hN (ab_xct_ok hN hF (ab_add_ok h3 (ab_ev_k ro (Int32.ofInt n).toInt)) (Int32.toInt_add x (Int32.ofInt n)))
      refine ⟨ro2, am_lset1 lvc k (.int (x + Int32.ofInt n)), stc, ?_, g1, ab_lv_set1 (ab_lv_mono hl) g2, ab_st_mono _ _ hs⟩
      show am_inc pc lvc stc k n = _
      unfold am_inc
      rw [hl.1] at hb
      simp only [h1, hb, cond_true]
    · cases h
  case irem =>
    unfold ab_s1 at h
    simp only at h
    split at h
    · split at h
      · rename_i u t r k hk
        cases hz : decide (k = 0) with
        | true => rw [hz] at h; cases h
        | false =>
          rw [hz] at h
          simp only [cond_false] at h
          obtain ⟨w, C, rfl, h1, h2⟩ := ab_st_cons hs
          obtain ⟨w2, C2, rfl, h3, h4⟩ := ab_st_cons h2
          obtain ⟨y, rfl, hy⟩ := ab_v_int h1
          obtain ⟨x, rfl, hx⟩ := ab_v_int h3
          have hyk := ab_const_ok hk hy
          refine ab_pr_ok (r := .inr ab_top) (x := x - x / y * y) hN hl h4 (ab_top_ok _) ?_ h
          show am_rem pc lvc (.int y :: .int x :: C2) = _
          unfold am_rem
          have hy0 : ¬ y = 0 := fun e => by
            rw [e] at hyk
            have hk0 : k = 0 := hyk.symm
            rw [hk0] at hz
            cases hz
          simp only [decide_eq_false hy0, cond_false]
      · cases h
    · cases h
  case ladd => exact ab_ll_ok hN hl hs h
  case lsub => exact ab_ll_ok hN hl hs h
  case lmul => exact ab_ll_ok hN hl hs h
  case land => exact ab_ll_ok hN hl hs h
  case lor => exact ab_ll_ok hN hl hs h
  case lxor => exact ab_ll_ok hN hl hs h
  case lcmp =>
    unfold ab_s1 at h
    simp only at h
    split at h
    · obtain ⟨w, C, rfl, h1, h2⟩ := ab_st_cons hs
      obtain ⟨w2, C2, rfl, h3, h4⟩ := ab_st_cons h2
      obtain ⟨x, rfl⟩ := ab_v_long h1
      obtain ⟨y, rfl⟩ := ab_v_long h3
      exact ab_pr_ok (r := .inr ab_top) hN hl h4 (ab_top_ok _) rfl h
    · cases h
  case lshl => exact ab_li_ok hN hl hs h
  case lshr => exact ab_li_ok hN hl hs h
  case lushr => exact ab_li_ok hN hl hs h
  case i2l =>
    unfold ab_s1 at h
    simp only at h
    split at h
    · cases h
      obtain ⟨w, C, rfl, h1, h2⟩ := ab_st_cons hs
      obtain ⟨x, rfl, hx⟩ := ab_v_int h1
      refine ab_S1.mk0 (st2 := .long x.toInt64 :: C) hN rfl hl ⟨fun t ht => ?_, h2⟩
      cases ht
      rw [hx, Int32.toInt_toInt64]
    · cases h
  case l2i =>
    unfold ab_s1 at h
    simp only at h
    split at h
    · obtain ⟨w, C, rfl, h1, h2⟩ := ab_st_cons hs
      obtain ⟨x, rfl⟩ := ab_v_long h1
      refine ab_pr_ok (x := x.toInt32) hN hl h2 ?_ rfl h
      unfold ab_l2
      split
      · rename_i t
        exact ab_xct_ok hN hF (h1 t rfl) (Int64.toInt_toInt32 x)
      · exact ab_top_ok _
    · cases h
  case i2b =>
    unfold ab_s1 at h
    simp only at h
    split at h
    · obtain ⟨w, C, rfl, h1, h2⟩ := ab_st_cons hs
      obtain ⟨x, rfl, hx⟩ := ab_v_int h1
      exact ab_pr_ok (x := x.toInt8.toInt32) hN hl h2 (ab_nar_ok hN hF hx (ab_i8 x).1 (ab_i8 x).2) rfl h
    · cases h
  case i2s =>
    unfold ab_s1 at h
    simp only at h
    split at h
    · obtain ⟨w, C, rfl, h1, h2⟩ := ab_st_cons hs
      obtain ⟨x, rfl, hx⟩ := ab_v_int h1
      exact ab_pr_ok (x := x.toInt16.toInt32) hN hl h2 (ab_nar_ok hN hF hx (ab_i16 x).1 (ab_i16 x).2) rfl h
    · cases h
  case dup =>
    unfold ab_s1 at h
    simp only at h
    split at h
    · obtain ⟨hb, h⟩ := ab_cb h
      cases h
      obtain ⟨w, C, rfl, h1, h2⟩ := ab_st_cons hs
      refine ab_S1.mk0 (st2 := w :: w :: C) hN ?_ hl ⟨h1, h1, h2⟩
      show am_du pc lvc (w :: C) = _
      unfold am_du
      rw [← ab_cat_ok h1] at hb
      simp only [hb, cond_true]
    · cases h
  case dup2 =>
    unfold ab_s1 at h
    simp only at h
    split at h
    · obtain ⟨hb, h⟩ := ab_cb h
      cases h
      obtain ⟨w, C, rfl, h1, h2⟩ := ab_st_cons hs
      obtain ⟨w2, C2, rfl, h3, h4⟩ := ab_st_cons h2
      refine ab_S1.mk0 (st2 := w :: w2 :: w :: w2 :: C2) hN ?_ hl ⟨h1, h3, h1, h3, h4⟩
      show am_d2 pc lvc (w :: w2 :: C2) = _
      unfold am_d2
      rw [← ab_cat_ok h1, ← ab_cat_ok h3] at hb
      simp only [hb, cond_true]
    · cases h
  case pop =>
    unfold ab_s1 at h
    simp only at h
    split at h
    · obtain ⟨hb, h⟩ := ab_cb h
      cases h
      obtain ⟨w, C, rfl, h1, h2⟩ := ab_st_cons hs
      refine ab_S1.mk0 hN ?_ hl h2
      show am_po pc lvc (w :: C) = _
      unfold am_po
      rw [← ab_cat_ok h1] at hb
      simp only [hb, cond_true]
    · cases h
  all_goals exact ab_bin1_ok hN hF hl hs h
end AB1
