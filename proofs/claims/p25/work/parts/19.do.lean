/-! ===== runs and calls of the small machine, put together ===== -/
theorem am_nst_add {call : am_CALL} {d : Nat} {S : am_S} {al : Bool} {r : am_M} : ∀ (n m : Nat) (x y z : am_C), am_nst call d S al r n x = some y → am_nst call d S al r m y = some z → am_nst call d S al r (n + m) x = some z := by
  intro n
  induction n with
  | zero =>
    intro m x y z h1 h2
    cases h1
    rw [Nat.zero_add]
    exact h2
  | succ n ih =>
    intro m x y z h1 h2
    rw [show n + 1 + m = (n + m) + 1 by omega]
    unfold am_nst at h1
    split at h1
    · cases h1
    · rename_i i hi
      split at h1
      · rename_i w hw
        show (match am_at r x.1 with
          | none => none
          | some i => match am_step call d S al r i x with
            | some y => am_nst call d S al r (n + m) y
            | none => none) = some z
        simp only [hi, hw]
        exact ih m w y z h1 h2
      · cases h1
theorem am_isr_step {call : am_CALL} {d : Nat} {S : am_S} {al : Bool} {r : am_M} {i : am_I} {x : am_C} (h : am_isr i = true) : am_step call d S al r i x = none := by
  cases i <;> first | rfl | cases h
theorem am_nst_go {call : am_CALL} {d : Nat} {S : am_S} {al : Bool} {r : am_M} {i : am_I} : ∀ (n : Nat) (x y : am_C), am_nst call d S al r n x = some y → am_at r y.1 = some i → am_isr i = true → ∀ f, n < f → am_go call d S al r f x = some y := by
  intro n
  induction n with
  | zero =>
    intro x y h1 h2 h3 f hf
    cases h1
    match f, hf with
    | f + 1, _ =>
      unfold am_go
      simp only [h2, h3, cond_true]
  | succ n ih =>
    intro x y h1 h2 h3 f hf
    match f, hf with
    | f + 1, hf =>
      unfold am_nst at h1
      split at h1
      · cases h1
      · rename_i j hj
        split at h1
        · rename_i z hz
          have hn : am_isr j = false := by
            cases hq : am_isr j with
            | false => rfl
            | true => rw [am_isr_step hq] at hz; cases hz
          unfold am_go
          simp only [hj, hn, cond_false, hz]
          exact ih z y h1 h2 h3 f (by omega)
        · cases h1
def am_Go (al : Bool) (d : Nat) (S : am_S) (r : am_M) (x y : am_C) : Prop := ∃ n F0, ∀ F, F0 ≤ F → am_nst (am_call al F d) (d + 1) S al r n x = some y
def am_Do (al : Bool) (d mi : Nat) (as : List Value) (h : am_H) (q : Option Value × am_H) : Prop := ∃ F0, ∀ F, F0 ≤ F → am_call al F d mi as h = some q
theorem am_Go.rf {al : Bool} {d : Nat} {S : am_S} {r : am_M} {x : am_C} : am_Go al d S r x x := ⟨0, 0, fun _ _ => rfl⟩
theorem am_Go.tr {al : Bool} {d : Nat} {S : am_S} {r : am_M} {x y z : am_C} (h1 : am_Go al d S r x y) (h2 : am_Go al d S r y z) : am_Go al d S r x z := by
  obtain ⟨n, F1, h1⟩ := h1
  obtain ⟨m, F2, h2⟩ := h2
  exact ⟨n + m, F1 + F2, fun F hF => am_nst_add n m x y z (h1 F (by omega)) (h2 F (by omega))⟩
theorem am_Go.bl {al : Bool} {d : Nat} {S : am_S} {r : am_M} {x y z : am_C} (n : Nat) (h : ∀ call : am_CALL, am_nst call (d + 1) S al r n x = some y) (h2 : am_Go al d S r y z) : am_Go al d S r x z := am_Go.tr ⟨n, 0, fun F _ => h _⟩ h2
theorem am_Do.of {al : Bool} {d mi : Nat} {as : List Value} {h : am_H} {q : Option Value × am_H} {r : am_M} {lv : List (Option Value)} {y : am_C} {i : am_I} (h1 : am_T[mi]? = some r) (h2 : am_ent as (am_L r) = some lv) (h3 : am_Go al d (0, fun _ => 0) r (0, lv, [], h, 0, 0) y) (h4 : am_at r y.1 = some i) (h5 : am_isr i = true) (h6 : am_ret r y = some q) : am_Do al (d + 1) mi as h q := by
  obtain ⟨n, F0, h3⟩ := h3
  refine ⟨F0 + n + 1, fun F hF => ?_⟩
  show am_run (am_call al F d) (d + 1) al F mi as h = some q
  unfold am_run
  simp only [h1, h2, am_nst_go n _ _ (h3 F (by omega)) h4 h5 F (by omega)]
  exact h6
theorem am_Go.cV {al : Bool} {d : Nat} {S : am_S} {r : am_M} {pc : Nat} {lv : List (Option Value)} {st : List Value} {h : am_H} {nc ns idx mi n pl b : Nat} {as rest fs : List Value} {r2 : am_M} {q : Option Value × am_H} {z : am_C} (hdo : am_Do al d mi (.ref b :: as) h q) (hi : am_at r pc = some (.invokevirtual idx)) (hinf : am_inf (am_o r) idx = some (0, mi, n, pl)) (hpop : am_pop n st = some (as, .ref b :: rest)) (hr2 : am_T[mi]? = some r2) (hobj : am_obj h b (am_o r2) = some fs) (hchk : (am_rsm rest && Nat.ble (nc + (am_k r2).1) (am_k r).1 && Nat.ble (ns + (am_k r2).2) (am_k r).2) = true) (hlen : Nat.beq q.2.length (h.length + (am_k r2).1) = true) (hz : am_Go al d S r (pc + 3, lv, q.1.toList ++ rest, q.2, nc + (am_k r2).1, ns + (am_k r2).2) z) : am_Go al d S r (pc, lv, st, h, nc, ns) z := by
  refine am_Go.tr ?_ hz
  obtain ⟨F0, hdo⟩ := hdo
  refine ⟨1, F0, fun F hF => ?_⟩
  have e1 : am_step (am_call al F d) (d + 1) S al r (.invokevirtual idx) (pc, lv, st, h, nc, ns) = some (pc + 3, lv, q.1.toList ++ rest, q.2, nc + (am_k r2).1, ns + (am_k r2).2) := by
    show am_s6 (am_call al F d) (d + 1) (am_k r) (am_o r) (.invokevirtual idx) pc lv st h nc ns = _
    have b1 : Nat.beq 0 0 = true := rfl
    simp only [am_s6, hinf, hpop, hr2, hobj, b1, cond_true, am_fin, hchk, hdo F hF, hlen]
    try rfl
  unfold am_nst
  simp only [hi, e1]
  rfl
theorem am_Go.cS {al : Bool} {d : Nat} {S : am_S} {r : am_M} {pc : Nat} {lv : List (Option Value)} {st : List Value} {h : am_H} {nc ns idx mi n pl : Nat} {as rest : List Value} {r2 : am_M} {q : Option Value × am_H} {z : am_C} (hdo : am_Do al d mi as h q) (hi : am_at r pc = some (.invokestatic idx)) (hinf : am_inf (am_o r) idx = some (1, mi, n, pl)) (hpop : am_pop n st = some (as, rest)) (hr2 : am_T[mi]? = some r2) (hchk : (am_rsm rest && Nat.ble (nc + (am_k r2).1) (am_k r).1 && Nat.ble (ns + (am_k r2).2) (am_k r).2) = true) (hlen : Nat.beq q.2.length (h.length + (am_k r2).1) = true) (hz : am_Go al d S r (pc + 3, lv, q.1.toList ++ rest, q.2, nc + (am_k r2).1, ns + (am_k r2).2) z) : am_Go al d S r (pc, lv, st, h, nc, ns) z := by
  refine am_Go.tr ?_ hz
  obtain ⟨F0, hdo⟩ := hdo
  refine ⟨1, F0, fun F hF => ?_⟩
  have e1 : am_step (am_call al F d) (d + 1) S al r (.invokestatic idx) (pc, lv, st, h, nc, ns) = some (pc + 3, lv, q.1.toList ++ rest, q.2, nc + (am_k r2).1, ns + (am_k r2).2) := by
    show am_s6 (am_call al F d) (d + 1) (am_k r) (am_o r) (.invokestatic idx) pc lv st h nc ns = _
    have b1 : (Nat.beq 1 7 || Nat.beq 1 8) = false := rfl
    have b2 : Nat.beq 1 1 = true := rfl
    simp only [am_s6, hinf, hpop, hr2, b1, b2, cond_true, cond_false, am_fin, hchk, hdo F hF, hlen]
    try rfl
  unfold am_nst
  simp only [hi, e1]
  rfl
