/-! ===== bounds: sums of unknowns, what is known of them ===== -/
abbrev ab_L : Type := List (Nat × Int)
/-- a sum: a number and unknowns with their factors -/
abbrev ab_T : Type := Int × ab_L
/-- what is known of each unknown: least, greatest, greatest rest by 512 -/
abbrev ab_N : Type := List (Int × Int × Int)
def ab_evl (ro : List Int) : ab_L → Option Int
  | [] => some 0
  | (x, c) :: r => match ro[x]? with
    | some z => match ab_evl ro r with
      | some s => some (c * z + s)
      | none => none
    | none => none
def ab_ev (ro : List Int) (t : ab_T) : Option Int := match ab_evl ro t.2 with
  | some s => some (t.1 + s)
  | none => none
theorem ab_ev_inv {ro : List Int} {t : ab_T} {z : Int} (h : ab_ev ro t = some z) : ∃ s, ab_evl ro t.2 = some s ∧ z = t.1 + s := by
  unfold ab_ev at h
  split at h
  · rename_i s hs
    cases h
    exact ⟨s, hs, rfl⟩
  · cases h
theorem ab_ev_of {ro : List Int} {t : ab_T} {s : Int} (h : ab_evl ro t.2 = some s) : ab_ev ro t = some (t.1 + s) := by
  unfold ab_ev
  rw [h]
theorem ab_evl_inv {ro : List Int} {x : Nat} {c : Int} {r : ab_L} {z : Int} (h : ab_evl ro ((x, c) :: r) = some z) : ∃ a s, ro[x]? = some a ∧ ab_evl ro r = some s ∧ z = c * a + s := by
  unfold ab_evl at h
  split at h
  · rename_i a ha
    split at h
    · rename_i s hs
      cases h
      exact ⟨a, s, ha, hs, rfl⟩
    · cases h
  · cases h
theorem ab_evl_of {ro : List Int} {x : Nat} {c : Int} {r : ab_L} {a s : Int} (h1 : ro[x]? = some a) (h2 : ab_evl ro r = some s) : ab_evl ro ((x, c) :: r) = some (c * a + s) := by
  unfold ab_evl
  simp only [h1, h2]
theorem ab_evl_mono {ro ro2 : List Int} : ∀ (l : ab_L) (z : Int), ab_evl ro l = some z → ab_evl (ro ++ ro2) l = some z := by
  intro l
  induction l with
  | nil => intro z h; exact h
  | cons q r ih =>
    intro z h
    obtain ⟨x, c⟩ := q
    obtain ⟨a, s, h1, h2, rfl⟩ := ab_evl_inv h
    have hx : x < ro.length := (List.getElem?_eq_some_iff.mp h1).1
    exact ab_evl_of (by rw [List.getElem?_append_left hx]; exact h1) (ih s h2)
theorem ab_ev_mono {ro ro2 : List Int} {t : ab_T} {z : Int} (h : ab_ev ro t = some z) : ab_ev (ro ++ ro2) t = some z := by
  obtain ⟨s, h1, rfl⟩ := ab_ev_inv h
  exact ab_ev_of (ab_evl_mono _ _ h1)
theorem ab_ev_k (ro : List Int) (k : Int) : ab_ev ro (k, []) = some k := by
  have h := ab_ev_of (ro := ro) (t := (k, [])) (s := 0) rfl
  simpa using h
def ab_ins (x : Nat) (c : Int) : ab_L → ab_L
  | [] => [(x, c)]
  | (y, d) :: r => bif Nat.beq x y then (bif decide (c + d = 0) then r else (y, c + d) :: r) else bif Nat.blt x y then (x, c) :: (y, d) :: r else (y, d) :: ab_ins x c r
theorem ab_ins_ok {ro : List Int} {x : Nat} {c a : Int} (ha : ro[x]? = some a) : ∀ (l : ab_L) (s : Int), ab_evl ro l = some s → ab_evl ro (ab_ins x c l) = some (c * a + s) := by
  intro l
  induction l with
  | nil =>
    intro s h
    cases h
    exact ab_evl_of ha rfl
  | cons q r ih =>
    intro s h
    obtain ⟨y, d⟩ := q
    obtain ⟨b, s2, h1, h2, rfl⟩ := ab_evl_inv h
    unfold ab_ins
    cases hb : Nat.beq x y with
    | true =>
      have := Nat.eq_of_beq_eq_true hb
      subst this
      rw [ha] at h1
      cases h1
      simp only [cond_true]
      by_cases hz : c + d = 0
      · rw [decide_eq_true hz]
        simp only [cond_true]
        rw [h2]
        have h3 : (c + d) * a = 0 := by rw [hz, Int.zero_mul]
        rw [Int.add_mul] at h3
        congr 1
        omega
      · rw [decide_eq_false hz]
        simp only [cond_false]
        rw [ab_evl_of ha h2, Int.add_mul]
        congr 1
        omega
    | false =>
      simp only [cond_false]
      cases hl : Nat.blt x y with
      | true =>
        simp only [cond_true]
        exact ab_evl_of ha (ab_evl_of h1 h2)
      | false =>
        simp only [cond_false]
        rw [ab_evl_of h1 (ih s2 h2)]
        congr 1
        omega
def ab_mrg : ab_L → ab_L → ab_L
  | [], m => m
  | (x, c) :: r, m => ab_ins x c (ab_mrg r m)
theorem ab_mrg_ok {ro : List Int} {m : ab_L} {b : Int} (hm : ab_evl ro m = some b) : ∀ (l : ab_L) (a : Int), ab_evl ro l = some a → ab_evl ro (ab_mrg l m) = some (a + b) := by
  intro l
  induction l with
  | nil =>
    intro a h
    cases h
    rw [Int.zero_add]
    exact hm
  | cons q r ih =>
    intro a h
    obtain ⟨x, c⟩ := q
    obtain ⟨z, s, h1, h2, rfl⟩ := ab_evl_inv h
    rw [show ab_mrg ((x, c) :: r) m = ab_ins x c (ab_mrg r m) from rfl, ab_ins_ok h1 _ _ (ih s h2)]
    congr 1
    omega
def ab_sl (k : Int) : ab_L → ab_L
  | [] => []
  | (x, c) :: r => (x, k * c) :: ab_sl k r
theorem ab_sl_ok {ro : List Int} {k : Int} : ∀ (l : ab_L) (a : Int), ab_evl ro l = some a → ab_evl ro (ab_sl k l) = some (k * a) := by
  intro l
  induction l with
  | nil =>
    intro a h
    cases h
    simp [ab_sl, ab_evl]
  | cons q r ih =>
    intro a h
    obtain ⟨x, c⟩ := q
    obtain ⟨z, s, h1, h2, rfl⟩ := ab_evl_inv h
    rw [show ab_sl k ((x, c) :: r) = (x, k * c) :: ab_sl k r from rfl, ab_evl_of h1 (ih s h2), Int.mul_add, Int.mul_assoc]
def ab_add (t u : ab_T) : ab_T := match t, u with
  | (k, l), (j, m) => (k + j, ab_mrg l m)
def ab_scl (c : Int) (t : ab_T) : ab_T := match t with
  | (k, l) => (c * k, ab_sl c l)
def ab_sub (t u : ab_T) : ab_T := ab_add t (ab_scl (-1) u)
def ab_neg (t : ab_T) : ab_T := ab_scl (-1) t
theorem ab_add_ok {ro : List Int} {t u : ab_T} {a b : Int} (h1 : ab_ev ro t = some a) (h2 : ab_ev ro u = some b) : ab_ev ro (ab_add t u) = some (a + b) := by
  obtain ⟨s1, e1, rfl⟩ := ab_ev_inv h1
  obtain ⟨s2, e2, rfl⟩ := ab_ev_inv h2
  obtain ⟨k, l⟩ := t
  obtain ⟨j, m⟩ := u
  rw [show ab_add (k, l) (j, m) = (k + j, ab_mrg l m) from rfl, ab_ev_of (t := (k + j, ab_mrg l m)) (ab_mrg_ok e2 l s1 e1)]
  congr 1
  simp only
  omega
theorem ab_scl_ok {ro : List Int} {c : Int} {t : ab_T} {a : Int} (h1 : ab_ev ro t = some a) : ab_ev ro (ab_scl c t) = some (c * a) := by
  obtain ⟨s1, e1, rfl⟩ := ab_ev_inv h1
  obtain ⟨k, l⟩ := t
  rw [show ab_scl c (k, l) = (c * k, ab_sl c l) from rfl, ab_ev_of (t := (c * k, ab_sl c l)) (ab_sl_ok l s1 e1), Int.mul_add]
theorem ab_sub_ok {ro : List Int} {t u : ab_T} {a b : Int} (h1 : ab_ev ro t = some a) (h2 : ab_ev ro u = some b) : ab_ev ro (ab_sub t u) = some (a - b) := by
  unfold ab_sub
  rw [ab_add_ok h1 (ab_scl_ok (c := -1) h2)]
  congr 1
  omega
theorem ab_neg_ok {ro : List Int} {t : ab_T} {a : Int} (h1 : ab_ev ro t = some a) : ab_ev ro (ab_neg t) = some (-a) := by
  unfold ab_neg
  rw [ab_scl_ok (c := -1) h1]
  congr 1
  omega
/-- what is known holds -/
def ab_in (z : Int) (e : Int × Int × Int) : Prop := e.1 ≤ z ∧ z ≤ e.2.1 ∧ z % 512 ≤ e.2.2
def ab_env (ro : List Int) (N : ab_N) : Prop := ro.length = N.length ∧ ∀ (x : Nat) (z : Int) (e : Int × Int × Int), ro[x]? = some z → N[x]? = some e → ab_in z e
def ab_lol (N : ab_N) : ab_L → Option Int
  | [] => some 0
  | (x, c) :: r => match N[x]? with
    | some (lo, hi, _) => match ab_lol N r with
      | some s => some ((bif decide (0 ≤ c) then c * lo else c * hi) + s)
      | none => none
    | none => none
theorem ab_lol_ok {ro : List Int} {N : ab_N} (hN : ab_env ro N) : ∀ (l : ab_L) (z v : Int), ab_evl ro l = some z → ab_lol N l = some v → v ≤ z := by
  intro l
  induction l with
  | nil =>
    intro z v h1 h2
    cases h1
    cases h2
    exact Int.le_refl _
  | cons q r ih =>
    intro z v h1 h2
    obtain ⟨x, c⟩ := q
    obtain ⟨a, s, e1, e2, rfl⟩ := ab_evl_inv h1
    unfold ab_lol at h2
    split at h2
    · rename_i lo hi m hx
      split at h2
      · rename_i s2 hs2
        cases h2
        have h3 := ih s s2 e2 hs2
        obtain ⟨g1, g2, -⟩ := hN.2 x a _ e1 hx
        simp only at g1 g2
        by_cases hc : 0 ≤ c
        · rw [decide_eq_true hc]
          simp only [cond_true]
          have h4 := Int.mul_nonneg hc (Int.sub_nonneg.mpr g1)
          rw [Int.mul_sub] at h4
          omega
        · rw [decide_eq_false hc]
          simp only [cond_false]
          have h4 := Int.mul_nonneg (show 0 ≤ -c by omega) (Int.sub_nonneg.mpr g2)
          rw [Int.mul_sub, Int.neg_mul, Int.neg_mul] at h4
          omega
      · cases h2
    · cases h2
def ab_lo (N : ab_N) (t : ab_T) : Option Int := match t with
  | (k, l) => match ab_lol N l with
    | some s => some (k + s)
    | none => none
theorem ab_lo_ok {ro : List Int} {N : ab_N} (hN : ab_env ro N) {t : ab_T} {z v : Int} (h1 : ab_ev ro t = some z) (h2 : ab_lo N t = some v) : v ≤ z := by
  obtain ⟨s, e1, rfl⟩ := ab_ev_inv h1
  obtain ⟨k, l⟩ := t
  unfold ab_lo at h2
  simp only at h2
  split at h2
  · rename_i s2 hs
    cases h2
    have := ab_lol_ok hN l s s2 e1 hs
    simp only
    omega
  · cases h2
theorem ab_lol_ev {ro : List Int} {N : ab_N} (hN : ab_env ro N) : ∀ (l : ab_L) (v : Int), ab_lol N l = some v → ∃ z, ab_evl ro l = some z := by
  intro l
  induction l with
  | nil => intro v _; exact ⟨0, rfl⟩
  | cons q r ih =>
    intro v h
    obtain ⟨x, c⟩ := q
    unfold ab_lol at h
    split at h
    · rename_i lo hi m hx
      split at h
      · rename_i s hs
        obtain ⟨z, hz⟩ := ih s hs
        have hl : x < ro.length := by rw [hN.1]; exact (List.getElem?_eq_some_iff.mp hx).1
        exact ⟨_, ab_evl_of (List.getElem?_eq_getElem hl) hz⟩
      · cases h
    · cases h
theorem ab_lo_ev {ro : List Int} {N : ab_N} (hN : ab_env ro N) {t : ab_T} {v : Int} (h : ab_lo N t = some v) : ∃ z, ab_ev ro t = some z := by
  obtain ⟨k, l⟩ := t
  unfold ab_lo at h
  simp only at h
  split at h
  · rename_i s hs
    obtain ⟨z, hz⟩ := ab_lol_ev hN l s hs
    exact ⟨_, ab_ev_of (t := (k, l)) hz⟩
  · cases h
def ab_nn (N : ab_N) (t : ab_T) : Bool := match ab_lo N t with
  | some v => decide (0 ≤ v)
  | none => false
theorem ab_nn_ok {ro : List Int} {N : ab_N} (hN : ab_env ro N) {t : ab_T} {z : Int} (h1 : ab_ev ro t = some z) (h2 : ab_nn N t = true) : 0 ≤ z := by
  unfold ab_nn at h2
  split at h2
  · rename_i v hv
    have := ab_lo_ok hN h1 hv
    have := of_decide_eq_true h2
    omega
  · cases h2
def ab_F (ro : List Int) (F : List ab_T) : Prop := ∀ f ∈ F, ∃ z, ab_ev ro f = some z ∧ 0 ≤ z
def ab_ge (N : ab_N) (F : List ab_T) (t : ab_T) : Bool := ab_nn N t || F.any (fun f => ab_nn N (ab_sub t f) || ab_nn N (ab_sub t (ab_scl 3 f)))
theorem ab_ge_ok {ro : List Int} {N : ab_N} {F : List ab_T} (hN : ab_env ro N) (hF : ab_F ro F) {t : ab_T} {z : Int} (h1 : ab_ev ro t = some z) (h2 : ab_ge N F t = true) : 0 ≤ z := by
  unfold ab_ge at h2
  rcases Bool.or_eq_true_iff.mp h2 with h | h
  · exact ab_nn_ok hN h1 h
  · obtain ⟨f, hf, h3⟩ := List.any_eq_true.mp h
    obtain ⟨y, e1, e2⟩ := hF f hf
    rcases Bool.or_eq_true_iff.mp h3 with h3 | h3
    · have := ab_nn_ok hN (ab_sub_ok h1 e1) h3
      omega
    · have := ab_nn_ok hN (ab_sub_ok h1 (ab_scl_ok (c := 3) e1)) h3
      omega
/-- t lies in lo .. hi -/
def ab_rng (N : ab_N) (F : List ab_T) (t : ab_T) (lo hi : Int) : Bool := ab_ge N F (ab_sub t (lo, [])) && ab_ge N F (ab_sub (hi, []) t)
theorem ab_rng_ok {ro : List Int} {N : ab_N} {F : List ab_T} (hN : ab_env ro N) (hF : ab_F ro F) {t : ab_T} {lo hi z : Int} (h1 : ab_ev ro t = some z) (h2 : ab_rng N F t lo hi = true) : lo ≤ z ∧ z ≤ hi := by
  unfold ab_rng at h2
  rw [Bool.and_eq_true] at h2
  have a1 := ab_ge_ok hN hF (ab_sub_ok h1 (ab_ev_k ro lo)) h2.1
  have a2 := ab_ge_ok hN hF (ab_sub_ok (ab_ev_k ro hi) h1) h2.2
  omega
def ab_eqt (N : ab_N) (F : List ab_T) (t u : ab_T) : Bool := ab_ge N F (ab_sub t u) && ab_ge N F (ab_sub u t)
theorem ab_eqt_ok {ro : List Int} {N : ab_N} {F : List ab_T} (hN : ab_env ro N) (hF : ab_F ro F) {t u : ab_T} {a b : Int} (h1 : ab_ev ro t = some a) (h2 : ab_ev ro u = some b) (h : ab_eqt N F t u = true) : a = b := by
  unfold ab_eqt at h
  rw [Bool.and_eq_true] at h
  have a1 := ab_ge_ok hN hF (ab_sub_ok h1 h2) h.1
  have a2 := ab_ge_ok hN hF (ab_sub_ok h2 h1) h.2
  omega
/-- a new unknown -/
theorem ab_env_push {ro : List Int} {N : ab_N} (hN : ab_env ro N) {z : Int} {e : Int × Int × Int} (h : ab_in z e) : ab_env (ro ++ [z]) (N ++ [e]) := by
  refine ⟨by simp [hN.1], fun x a q h1 h2 => ?_⟩
  by_cases hx : x < ro.length
  · rw [List.getElem?_append_left hx] at h1
    rw [List.getElem?_append_left (by rw [← hN.1]; exact hx)] at h2
    exact hN.2 x a q h1 h2
  · rw [List.getElem?_append_right (by omega)] at h1
    rw [List.getElem?_append_right (by rw [← hN.1]; omega)] at h2
    have hy : x - ro.length = 0 := by
      have := (List.getElem?_eq_some_iff.mp h1).1
      simp at this
      omega
    rw [hy] at h1
    rw [← hN.1, hy] at h2
    cases h1
    cases h2
    exact h
abbrev ab_var (x : Nat) : ab_T := (0, [(x, 1)])
theorem ab_ev_var {ro : List Int} {x : Nat} {z : Int} (h : ro[x]? = some z) : ab_ev ro (ab_var x) = some z := by
  have h1 := ab_ev_of (t := ab_var x) (ab_evl_of (c := 1) h (show ab_evl ro [] = some 0 from rfl))
  rw [h1]
  congr 1
  simp only
  omega
theorem ab_ev_new {ro : List Int} {N : ab_N} (hN : ab_env ro N) (z : Int) : ab_ev (ro ++ [z]) (ab_var N.length) = some z := by
  apply ab_ev_var
  rw [← hN.1, List.getElem?_append_right (Nat.le_refl _), Nat.sub_self]
  rfl
theorem ab_F_mono {ro ro2 : List Int} {F : List ab_T} (h : ab_F ro F) : ab_F (ro ++ ro2) F := fun f hf => by
  obtain ⟨z, h1, h2⟩ := h f hf
  exact ⟨z, ab_ev_mono h1, h2⟩
/-- what follows for each unknown from f being no less than 0 -/
def ab_prop (f : ab_T) : ab_L → ab_N → ab_N
  | [], N => N
  | (x, c) :: r, N => bif decide (c = 1) then (match N[x]?, ab_lo N (ab_neg (ab_sub f (ab_var x))) with
      | some (lo, hi, m), some v => ab_prop f r (N.set x (bif decide (lo < v) then v else lo, hi, m))
      | _, _ => ab_prop f r N)
    else bif decide (c = -1) then (match N[x]?, ab_lo N (ab_neg (ab_add f (ab_var x))) with
      | some (lo, hi, m), some v => ab_prop f r (N.set x (lo, bif decide (-v < hi) then -v else hi, m))
      | _, _ => ab_prop f r N)
    else ab_prop f r N
theorem ab_env_set {ro : List Int} {N : ab_N} (hN : ab_env ro N) {x : Nat} {z : Int} {e : Int × Int × Int} (hz : ro[x]? = some z) (h : ab_in z e) : ab_env ro (N.set x e) := by
  refine ⟨by simp [hN.1], fun y a q h1 h2 => ?_⟩
  by_cases hy : x = y
  · subst hy
    rw [hz] at h1
    cases h1
    rw [List.getElem?_set_self (by rw [← hN.1]; exact (List.getElem?_eq_some_iff.mp hz).1)] at h2
    cases h2
    exact h
  · rw [List.getElem?_set_ne hy] at h2
    exact hN.2 y a q h1 h2
theorem ab_prop_ok {ro : List Int} {f : ab_T} {z : Int} (hz : ab_ev ro f = some z) (h0 : 0 ≤ z) : ∀ (l : ab_L) (N : ab_N), ab_env ro N → ab_env ro (ab_prop f l N) := by
  intro l
  induction l with
  | nil => intro N hN; exact hN
  | cons q r ih =>
    intro N hN
    obtain ⟨x, c⟩ := q
    unfold ab_prop
    have hro : ∀ e, N[x]? = some e → ∃ a, ro[x]? = some a := fun e he => by
      have := (List.getElem?_eq_some_iff.mp he).1
      rw [← hN.1] at this
      exact ⟨ro[x], List.getElem?_eq_getElem this⟩
    cases hc : decide (c = 1) with
    | true =>
      simp only [cond_true]
      split
      · rename_i lo hi m v hx hv
        obtain ⟨a, ha⟩ := hro _ hx
        refine ih _ (ab_env_set hN ha ?_)
        obtain ⟨g1, g2, g3⟩ := hN.2 x a _ ha hx
        have h5 := ab_lo_ok hN (ab_neg_ok (ab_sub_ok hz (ab_ev_var ha))) hv
        refine ⟨?_, g2, g3⟩
        simp only at g1 ⊢
        cases hd : decide (lo < v) with
        | true => simp only [cond_true]; omega
        | false => exact g1
      · exact ih N hN
    | false =>
      simp only [cond_false]
      cases hc2 : decide (c = -1) with
      | true =>
        simp only [cond_true]
        split
        · rename_i lo hi m v hx hv
          obtain ⟨a, ha⟩ := hro _ hx
          refine ih _ (ab_env_set hN ha ?_)
          obtain ⟨g1, g2, g3⟩ := hN.2 x a _ ha hx
          have h5 := ab_lo_ok hN (ab_neg_ok (ab_add_ok hz (ab_ev_var ha))) hv
          refine ⟨g1, ?_, g3⟩
          simp only at g2 ⊢
          cases hd : decide (-v < hi) with
          | true => simp only [cond_true]; omega
          | false => exact g2
        · exact ih N hN
      | false =>
        simp only [cond_false]
        exact ih N hN
/-- f is no less than 0: none where it can't be -/
def ab_asm (N : ab_N) (F : List ab_T) (f : ab_T) : Option (ab_N × List ab_T) := bif ab_ge N F (ab_sub (-1, []) f) then none else some (ab_prop f f.2 N, match f.2 with
  | [] => F
  | [_] => F
  | _ => bif ab_ge N F f then F else f :: F)
theorem ab_asm_ok {ro : List Int} {N : ab_N} {F : List ab_T} (hN : ab_env ro N) (hF : ab_F ro F) {f : ab_T} {z : Int} (hz : ab_ev ro f = some z) (h0 : 0 ≤ z) : ∃ q, ab_asm N F f = some q ∧ ab_env ro q.1 ∧ ab_F ro q.2 := by
  have hcons : ab_F ro (f :: F) := by
    intro g hg
    rcases List.mem_cons.mp hg with rfl | hg
    · exact ⟨z, hz, h0⟩
    · exact hF g hg
  unfold ab_asm
  cases hb : ab_ge N F (ab_sub (-1, []) f) with
  | true =>
    have := ab_ge_ok hN hF (ab_sub_ok (ab_ev_k ro (-1)) hz) hb
    omega
  | false =>
    refine ⟨_, rfl, ab_prop_ok hz h0 _ _ hN, ?_⟩
    simp only
    split
    · exact hF
    · exact hF
    · cases ab_ge N F f with
      | true => exact hF
      | false => exact hcons
/-- all of a list -/
def ab_asms (N : ab_N) (F : List ab_T) : List ab_T → Option (ab_N × List ab_T)
  | [] => some (N, F)
  | f :: r => match ab_asm N F f with
    | some (N2, F2) => ab_asms N2 F2 r
    | none => none
theorem ab_asms_ok {ro : List Int} : ∀ (l : List ab_T) (N : ab_N) (F : List ab_T), ab_env ro N → ab_F ro F → ab_F ro l → ∃ q, ab_asms N F l = some q ∧ ab_env ro q.1 ∧ ab_F ro q.2 := by
  intro l
  induction l with
  | nil => intro N F hN hF _; exact ⟨_, rfl, hN, hF⟩
  | cons f r ih =>
    intro N F hN hF hl
    obtain ⟨z, h1, h2⟩ := hl f List.mem_cons_self
    obtain ⟨⟨N2, F2⟩, e1, e2, e3⟩ := ab_asm_ok hN hF h1 h2
    obtain ⟨q, g1, g2, g3⟩ := ih N2 F2 e2 e3 (fun g hg => hl g (List.mem_cons_of_mem _ hg))
    refine ⟨q, ?_, g2, g3⟩
    unfold ab_asms
    rw [e1]
    exact g1
