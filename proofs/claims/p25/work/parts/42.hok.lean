/-! ===== the fresh pair's ints lie where they should: the constructors run once more, each store looked at ===== -/
def am_okst (i : am_I) (st : List Value) : Bool := match i with
  | .iastore => (match st with
    | .int v :: .int _ :: .ref a :: _ => (match ab_D0[a]? with
      | some (.inl (_, _, lo, hi, m)) => decide (lo ≤ v.toInt) && decide (v.toInt ≤ hi) && decide (v.toInt % 512 ≤ m)
      | _ => false)
    | _ => false)
  | .bastore => false
  | .sastore => false
  | _ => true
def am_goc (call : am_CALL) (d : Nat) (S : am_S) (al : Bool) (r : am_M) : Nat → am_C → Option am_C
  | 0, _ => none
  | f + 1, c => match am_at r c.1 with
    | none => none
    | some i => bif am_isr i then some c else bif am_okst i c.2.2.1 then (match am_step call d S al r i c with
      | some c2 => am_goc call d S al r f c2
      | none => none) else none
def am_runc (call : am_CALL) (d : Nat) (al : Bool) (F mi : Nat) (as : List Value) (h : am_H) : Option (Option Value × am_H) := match am_T[mi]? with
  | some r => match am_ent as (am_L r) with
    | some lv => match am_goc call d (0, fun _ => 0) al r F (0, lv, [], h, 0, 0) with
      | some c => am_ret r c
      | none => none
    | none => none
  | none => none
def am_callc (al : Bool) (F : Nat) : Nat → am_CALL
  | 0 => am_runc (fun _ _ _ => none) 0 al F
  | d + 1 => am_runc (am_callc al F d) (d + 1) al F
theorem am_goc_go {call call2 : am_CALL} (hc : ∀ mi as h q, call mi as h = some q → call2 mi as h = some q) {d : Nat} {S : am_S} {al : Bool} {r : am_M} : ∀ (f : Nat) (x y : am_C), am_goc call d S al r f x = some y → am_go call2 d S al r f x = some y := by
  intro f
  induction f with
  | zero => intro x y h; cases h
  | succ f ih =>
    intro x y h
    unfold am_goc at h
    unfold am_go
    cases hi : am_at r x.1 with
    | none => rw [hi] at h; cases h
    | some i =>
      simp only [hi] at h ⊢
      cases hr : am_isr i with
      | true => rw [hr] at h; exact h
      | false =>
        simp only [hr, cond_false] at h ⊢
        cases ho : am_okst i x.2.2.1 with
        | false => rw [ho] at h; cases h
        | true =>
          simp only [ho, cond_true] at h
          cases hs : am_step call d S al r i x with
          | none => rw [hs] at h; cases h
          | some z =>
            simp only [hs] at h
            rw [am_step_mono hc hs]
            exact ih z y h
theorem am_runc_run {call call2 : am_CALL} (hc : ∀ mi as h q, call mi as h = some q → call2 mi as h = some q) {d : Nat} {al : Bool} {F mi : Nat} {as : List Value} {h : am_H} {q : Option Value × am_H} (he : am_runc call d al F mi as h = some q) : am_run call2 d al F mi as h = some q := by
  unfold am_runc at he
  unfold am_run
  cases hr : am_T[mi]? with
  | none => rw [hr] at he; cases he
  | some r =>
    simp only [hr] at he ⊢
    cases hl : am_ent as (am_L r) with
    | none => rw [hl] at he; cases he
    | some lv =>
      simp only [hl] at he ⊢
      cases hg : am_goc call d (0, fun _ => 0) al r F (0, lv, [], h, 0, 0) with
      | none => rw [hg] at he; cases he
      | some y =>
        rw [am_goc_go hc F _ _ hg]
        simp only [hg] at he
        exact he
theorem am_callc_call {al : Bool} {F : Nat} : ∀ (d mi : Nat) (as : List Value) (h : am_H) (q : Option Value × am_H), am_callc al F d mi as h = some q → am_call al F d mi as h = some q := by
  intro d
  induction d with
  | zero => intro mi as h q he; exact am_runc_run (fun _ _ _ _ h => by cases h) he
  | succ d ih => intro mi as h q he; exact am_runc_run ih he
def am_inv (h : am_H) : Prop := ∀ (a t n : Nat) (f : Nat → Int32), h[a]? = some (.inl (t, n, .inl f)) → ∀ (t2 n2 : Nat) (lo hi m : Int), ab_D0[a]? = some (.inl (t2, n2, lo, hi, m)) → ∀ j, ab_in (f j).toInt (lo, hi, m)
theorem am_zin : (ab_D0.all (fun d => match d with
  | .inl (_, _, lo, hi, m) => decide (lo ≤ 0) && decide (0 ≤ hi) && decide (0 ≤ m)
  | _ => true)) = true := by decide +kernel
theorem am_inv.set {h : am_H} (hi : am_inv h) {a : Nat} {e : am_E} (he : ∀ (t n : Nat) (f : Nat → Int32), e = .inl (t, n, .inl f) → ∀ (t2 n2 : Nat) (lo hi m : Int), ab_D0[a]? = some (.inl (t2, n2, lo, hi, m)) → ∀ j, ab_in (f j).toInt (lo, hi, m)) : am_inv (h.set a e) := by
  intro b t n f hb t2 n2 lo hi0 m hd j
  by_cases hab : a = b
  · subst hab
    by_cases hl : a < h.length
    · rw [List.getElem?_set_self hl] at hb
      exact he t n f (Option.some.inj hb) t2 n2 lo hi0 m hd j
    · rw [List.getElem?_eq_none (by simpa using hl)] at hb
      cases hb
  · rw [List.getElem?_set_ne hab] at hb
    exact hi b t n f hb t2 n2 lo hi0 m hd j
theorem am_inv.app {h : am_H} (hi : am_inv h) {e : am_E} (he : ∀ (t n : Nat) (f : Nat → Int32), e = .inl (t, n, .inl f) → f = fun _ => 0) : am_inv (h ++ [e]) := by
  intro b t n f hb t2 n2 lo hi0 m hd j
  by_cases hl : b < h.length
  · rw [List.getElem?_append_left hl] at hb
    exact hi b t n f hb t2 n2 lo hi0 m hd j
  · rw [List.getElem?_append_right (by omega)] at hb
    have hz : b - h.length = 0 := by
      have := (List.getElem?_eq_some_iff.mp hb).1
      simp at this
      omega
    rw [hz] at hb
    have hf := he t n f (Option.some.inj hb)
    have h9 := List.all_eq_true.mp am_zin _ (List.mem_of_getElem? hd)
    simp only [Bool.and_eq_true, decide_eq_true_eq] at h9
    rw [hf]
    exact ⟨h9.1.1, h9.1.2, h9.2⟩
theorem am_s6_heap {call : am_CALL} {d : Nat} {lim : Nat × Nat} {o : Nat} {i : am_I} {pc : Nat} {lv : List (Option Value)} {st : List Value} {h : am_H} {nc ns : Nat} {x : am_C} (he : am_s6 call d lim o i pc lv st h nc ns = some x) : x.2.2.2.1 = h ∨ ∃ mi as q, call mi as h = some q ∧ x.2.2.2.1 = q.2 := by
  have fin : ∀ {mi : Nat} {as : List Value} {r2 : am_M} {rest : List Value}, am_fin call lim mi as r2 pc lv rest h nc ns = some x → ∃ mi as q, call mi as h = some q ∧ x.2.2.2.1 = q.2 := by
    intro mi as r2 rest e
    obtain ⟨q, h1, -, -, -, -, rfl⟩ := am_fin_inv e
    exact ⟨mi, as, q, h1, rfl⟩
  cases i
  case invokevirtual idx =>
    unfold am_s6 at he
    simp only at he
    cases hinf : am_inf o idx with
    | none => rw [hinf] at he; cases he
    | some e0 =>
      simp only [hinf] at he
      cases hp : am_pop e0.2.2.1 st with
      | none => rw [hp] at he; cases he
      | some q =>
        simp only [hp] at he
        obtain ⟨q1, q2⟩ := q
        simp only at he
        split at he
        · rename_i b rest
          cases hk0 : Nat.beq e0.1 0 with
          | true =>
            simp only [hk0, cond_true] at he
            split at he
            · split at he
              · exact Or.inr (fin he)
              · cases he
            · cases he
          | false =>
            simp only [hk0, cond_false] at he
            cases hk4 : (Nat.beq e0.1 4 && Nat.beq b 1000001 && am_rsm rest && Nat.ble 4 d) with
            | true =>
              simp only [hk4, cond_true] at he
              split at he
              · cases he; exact Or.inl rfl
              · cases he
            | false =>
              simp only [hk4, cond_false] at he
              cases hk5 : (Nat.beq e0.1 5 && Nat.beq b 1000001 && am_rsm rest && Nat.ble 4 d) with
              | true =>
                simp only [hk5, cond_true] at he
                split at he
                · obtain ⟨-, rfl⟩ := am_cond_inv he
                  exact Or.inl rfl
                · cases he
              | false => simp only [hk5, cond_false] at he; cases he
        · cases he
  case invokestatic idx =>
    unfold am_s6 at he
    simp only at he
    cases hinf : am_inf o idx with
    | none => rw [hinf] at he; cases he
    | some e0 =>
      simp only [hinf] at he
      cases hkm : (Nat.beq e0.1 7 || Nat.beq e0.1 8) with
      | true =>
        simp only [hkm, cond_true] at he
        split at he
        · obtain ⟨-, rfl⟩ := am_cond_inv he
          exact Or.inl rfl
        · cases he
      | false =>
        simp only [hkm, cond_false] at he
        cases hk1 : Nat.beq e0.1 1 with
        | false => rw [hk1] at he; cases he
        | true =>
          simp only [hk1, cond_true] at he
          split at he
          · split at he
            · exact Or.inr (fin he)
            · cases he
          · cases he
  case invokespecial idx =>
    unfold am_s6 at he
    simp only at he
    cases hinf : am_inf o idx with
    | none => rw [hinf] at he; cases he
    | some e0 =>
      simp only [hinf] at he
      cases hp : am_pop e0.2.2.1 st with
      | none => rw [hp] at he; cases he
      | some q =>
        simp only [hp] at he
        obtain ⟨q1, q2⟩ := q
        simp only at he
        split at he
        · rename_i b rest
          cases hk3 : Nat.beq e0.1 3 with
          | true =>
            simp only [hk3, cond_true] at he
            obtain ⟨-, rfl⟩ := am_cond_inv he
            exact Or.inl rfl
          | false =>
            simp only [hk3, cond_false] at he
            cases hk2 : (Nat.beq e0.1 2 || Nat.beq e0.1 6) with
            | false => rw [hk2] at he; cases he
            | true =>
              simp only [hk2, cond_true] at he
              split at he
              · exact Or.inr (fin he)
              · cases he
        · cases he
  all_goals exact absurd he (by simp [am_s6])
theorem am_inv_step {call : am_CALL} (hc : ∀ mi as h q, am_inv h → call mi as h = some q → am_inv q.2) {d : Nat} {S : am_S} {al : Bool} {r : am_M} {i : am_I} {x y : am_C} (ho : am_okst i x.2.2.1 = true) (hx : am_inv x.2.2.2.1) (he : am_step call d S al r i x = some y) : am_inv y.2.2.2.1 := by
  obtain ⟨pc, lv, st, h, nc, ns⟩ := x
  simp only at ho hx
  unfold am_step at he
  simp only at he
  split at he
  · cases he; exact hx
  · split at he
    · cases he; exact hx
    · split at he
      · cases he; exact hx
      · split at he
        · rename_i z hz
          cases he
          simp only
          cases i
          case putfield idx =>
            unfold am_s4 at hz
            simp only at hz
            split at hz
            · split at hz
              · split at hz
                · obtain ⟨-, rfl⟩ := am_cond_inv hz
                  exact hx.set (fun t n f q => by cases q)
                · cases hz
              · cases hz
            · cases hz
          case iastore =>
            obtain ⟨v, i, a, rr, n, f, rfl, h1, h2, -, rfl⟩ := am_ast_inv hz
            refine hx.set (fun t n2 f2 q t2 n3 lo hi m hd j => ?_)
            simp only [Sum.inl.injEq, Prod.mk.injEq] at q
            obtain ⟨-, -, rfl⟩ := q
            simp only [am_okst, hd, Bool.and_eq_true, decide_eq_true_eq] at ho
            unfold upd
            split
            · exact ⟨ho.1.1, ho.1.2, ho.2⟩
            · exact hx a _ _ f h2 t2 n3 lo hi m hd j
          case bastore => cases ho
          case sastore => cases ho
          case lastore =>
            obtain ⟨v, i, a, rr, n, f, rfl, h1, h2, -, rfl⟩ := am_lst_inv hz
            exact hx.set (fun t n f q => by cases q)
          all_goals exact absurd hz (by simp [am_s4])
        · split at he
          · rename_i z hz
            cases he
            simp only
            cases i
            case new idx =>
              unfold am_s5 at hz
              simp only at hz
              split at hz
              · obtain ⟨-, rfl⟩ := am_cond_inv hz
                exact hx.app (fun t n f q => by cases q)
              · cases hz
            case newarray t =>
              unfold am_s5 at hz
              simp only at hz
              split at hz
              · split at hz
                · rename_i q hq
                  obtain ⟨-, rfl⟩ := am_cond_inv hz
                  refine hx.app (fun t n f e => ?_)
                  simp only [Sum.inl.injEq, Prod.mk.injEq] at e
                  obtain ⟨-, -, e3⟩ := e
                  unfold am_fty at hq
                  split at hq
                  · cases hq; exact (Sum.inl.inj e3).symm
                  · cases hq; exact (Sum.inl.inj e3).symm
                  · cases hq
                    have e4 : (Sum.inr (Sum.inl fun _ => 0) : (Nat → Int32) ⊕ (Nat → Int64) ⊕ (Nat → UInt32) ⊕ (Nat → UInt64) ⊕ (Nat → Option Nat)) = Sum.inl f := e3
                    cases e4
                  · cases hq; exact (Sum.inl.inj e3).symm
                  · cases hq; exact (Sum.inl.inj e3).symm
                  · cases hq
                · cases hz
              · cases hz
            all_goals exact absurd hz (by simp [am_s5])
          · rcases am_s6_heap he with q | ⟨mi, as, q, q1, q2⟩
            · rw [q]; exact hx
            · rw [q2]; exact hc mi as h q hx q1
theorem am_inv_go {call : am_CALL} (hc : ∀ mi as h q, am_inv h → call mi as h = some q → am_inv q.2) {d : Nat} {S : am_S} {al : Bool} {r : am_M} : ∀ (f : Nat) (x y : am_C), am_inv x.2.2.2.1 → am_goc call d S al r f x = some y → am_inv y.2.2.2.1 := by
  intro f
  induction f with
  | zero => intro x y _ h; cases h
  | succ f ih =>
    intro x y hx h
    unfold am_goc at h
    split at h
    · cases h
    · rename_i i hi
      cases hr : am_isr i with
      | true => rw [hr] at h; cases h; exact hx
      | false =>
        simp only [hr, cond_false] at h
        cases ho : am_okst i x.2.2.1 with
        | false => rw [ho] at h; cases h
        | true =>
          simp only [ho, cond_true] at h
          split at h
          · rename_i z hz
            exact ih z y (am_inv_step hc ho hx hz) h
          · cases h
theorem am_inv_ret {r : am_M} {c : am_C} {q : Option Value × am_H} (h : am_ret r c = some q) : q.2 = c.2.2.2.1 := by
  unfold am_ret at h
  split at h
  · split at h
    · obtain ⟨-, rfl⟩ := am_cond_inv h; rfl
    · cases h
  · split at h
    · cases h; rfl
    · cases h
  · split at h
    · cases h; rfl
    · cases h
  · cases h
theorem am_inv_run {call : am_CALL} (hc : ∀ mi as h q, am_inv h → call mi as h = some q → am_inv q.2) {d : Nat} {al : Bool} {F mi : Nat} {as : List Value} {h : am_H} {q : Option Value × am_H} (hx : am_inv h) (he : am_runc call d al F mi as h = some q) : am_inv q.2 := by
  unfold am_runc at he
  split at he
  · split at he
    · split at he
      · rename_i c hcc
        rw [am_inv_ret he]
        exact am_inv_go hc _ _ _ hx hcc
      · cases he
    · cases he
  · cases he
theorem am_inv_call {al : Bool} {F : Nat} : ∀ (d mi : Nat) (as : List Value) (h : am_H) (q : Option Value × am_H), am_inv h → am_callc al F d mi as h = some q → am_inv q.2 := by
  intro d
  induction d with
  | zero => intro mi as h q hx he; exact am_inv_run (fun _ _ _ _ _ h => by cases h) hx he
  | succ d ih => intro mi as h q hx he; exact am_inv_run ih hx he
