/-! ===== more instructions allowed: the same run ===== -/
theorem am_fin_mono {call call2 : am_CALL} (hc : ∀ mi as h q, call mi as h = some q → call2 mi as h = some q) {lim : Nat × Nat} {mi : Nat} {as : List Value} {r2 : am_M} {pc : Nat} {lv : List (Option Value)} {rest : List Value} {h : am_H} {nc ns : Nat} {x : am_C} (e : am_fin call lim mi as r2 pc lv rest h nc ns = some x) : am_fin call2 lim mi as r2 pc lv rest h nc ns = some x := by
  obtain ⟨q, h1, -⟩ := am_fin_inv e
  unfold am_fin at e ⊢
  rw [h1] at e
  rw [hc _ _ _ _ h1]
  exact e
theorem am_s6_mono {call call2 : am_CALL} (hc : ∀ mi as h q, call mi as h = some q → call2 mi as h = some q) {d : Nat} {lim : Nat × Nat} {o : Nat} {i : am_I} {pc : Nat} {lv : List (Option Value)} {st : List Value} {h : am_H} {nc ns : Nat} {x : am_C} (he : am_s6 call d lim o i pc lv st h nc ns = some x) : am_s6 call2 d lim o i pc lv st h nc ns = some x := by
  cases i
  case invokevirtual idx =>
    unfold am_s6 at he ⊢
    simp only at he ⊢
    cases hinf : am_inf o idx with
    | none => rw [hinf] at he; cases he
    | some e0 =>
      simp only [hinf] at he ⊢
      cases hp : am_pop e0.2.2.1 st with
      | none => rw [hp] at he; cases he
      | some q =>
        simp only [hp] at he ⊢
        obtain ⟨q1, q2⟩ := q
        simp only at he ⊢
        match q2, he with
        | .ref b :: rest, he =>
          simp only at he ⊢
          cases hk0 : Nat.beq e0.1 0 with
          | false => rw [hk0] at he; exact he
          | true =>
            simp only [hk0, cond_true] at he ⊢
            cases hr2 : am_T[e0.2.1]? with
            | none => rw [hr2] at he; cases he
            | some r2 =>
              simp only [hr2] at he ⊢
              cases hob : am_obj h b (am_o r2) with
              | none => rw [hob] at he; cases he
              | some fs =>
                simp only [hob] at he ⊢
                exact am_fin_mono hc he
        | [], he => cases he
        | .int _ :: _, he => cases he
        | .long _ :: _, he => cases he
        | .float _ :: _, he => cases he
        | .double _ :: _, he => cases he
        | .null :: _, he => cases he
        | .retAddr _ :: _, he => cases he
  case invokestatic idx =>
    unfold am_s6 at he ⊢
    simp only at he ⊢
    cases hinf : am_inf o idx with
    | none => rw [hinf] at he; cases he
    | some e0 =>
      simp only [hinf] at he ⊢
      cases hkm : (Nat.beq e0.1 7 || Nat.beq e0.1 8) with
      | true => rw [hkm] at he; exact he
      | false =>
        simp only [hkm, cond_false] at he ⊢
        cases hk1 : Nat.beq e0.1 1 with
        | false => rw [hk1] at he; cases he
        | true =>
          simp only [hk1, cond_true] at he ⊢
          cases hp : am_pop e0.2.2.1 st with
          | none => rw [hp] at he; cases he
          | some q =>
            simp only [hp] at he ⊢
            cases hr2 : am_T[e0.2.1]? with
            | none => rw [hr2] at he; cases he
            | some r2 =>
              simp only [hr2] at he ⊢
              exact am_fin_mono hc he
  case invokespecial idx =>
    unfold am_s6 at he ⊢
    simp only at he ⊢
    cases hinf : am_inf o idx with
    | none => rw [hinf] at he; cases he
    | some e0 =>
      simp only [hinf] at he ⊢
      cases hp : am_pop e0.2.2.1 st with
      | none => rw [hp] at he; cases he
      | some q =>
        simp only [hp] at he ⊢
        obtain ⟨q1, q2⟩ := q
        simp only at he ⊢
        match q2, he with
        | .ref b :: rest, he =>
          simp only at he ⊢
          cases hk3 : Nat.beq e0.1 3 with
          | true => rw [hk3] at he; exact he
          | false =>
            simp only [hk3, cond_false] at he ⊢
            cases hk2 : (Nat.beq e0.1 2 || Nat.beq e0.1 6) with
            | false => rw [hk2] at he; cases he
            | true =>
              simp only [hk2, cond_true] at he ⊢
              cases hr2 : am_T[e0.2.1]? with
              | none => rw [hr2] at he; cases he
              | some r2 =>
                simp only [hr2] at he ⊢
                exact am_fin_mono hc he
        | [], he => cases he
        | .int _ :: _, he => cases he
        | .long _ :: _, he => cases he
        | .float _ :: _, he => cases he
        | .double _ :: _, he => cases he
        | .null :: _, he => cases he
        | .retAddr _ :: _, he => cases he
  all_goals exact absurd he (by simp [am_s6])
theorem am_step_mono {call call2 : am_CALL} (hc : ∀ mi as h q, call mi as h = some q → call2 mi as h = some q) {d : Nat} {S : am_S} {al : Bool} {r : am_M} {i : am_I} {x y : am_C} (he : am_step call d S al r i x = some y) : am_step call2 d S al r i x = some y := by
  obtain ⟨pc, lv, st, h, nc, ns⟩ := x
  unfold am_step at he ⊢
  simp only at he ⊢
  cases h1 : am_s1 i pc lv st with
  | some z => rw [h1] at he; exact he
  | none =>
    simp only [h1] at he ⊢
    cases h2 : am_s2 i pc st with
    | some z => rw [h2] at he; exact he
    | none =>
      simp only [h2] at he ⊢
      cases h3 : am_s3 S (am_o r) i h pc st with
      | some z => rw [h3] at he; exact he
      | none =>
        simp only [h3] at he ⊢
        cases h4 : am_s4 (am_o r) (am_i r) i h pc st with
        | some z => rw [h4] at he; exact he
        | none =>
          simp only [h4] at he ⊢
          cases h5 : am_s5 al (am_k r) (am_o r) i pc st h nc ns with
          | some z => rw [h5] at he; exact he
          | none =>
            simp only [h5] at he ⊢
            exact am_s6_mono hc he
theorem am_go_mono {call call2 : am_CALL} (hc : ∀ mi as h q, call mi as h = some q → call2 mi as h = some q) {d : Nat} {S : am_S} {al : Bool} {r : am_M} : ∀ (f f2 : Nat) (x y : am_C), f ≤ f2 → am_go call d S al r f x = some y → am_go call2 d S al r f2 x = some y := by
  intro f
  induction f with
  | zero => intro f2 x y _ h; cases h
  | succ f ih =>
    intro f2 x y hf h
    match f2, hf with
    | f2 + 1, hf =>
      unfold am_go at h ⊢
      cases hi : am_at r x.1 with
      | none => rw [hi] at h; cases h
      | some i =>
        simp only [hi] at h ⊢
        cases hr : am_isr i with
        | true => rw [hr] at h; exact h
        | false =>
          simp only [hr, cond_false] at h ⊢
          cases hs : am_step call d S al r i x with
          | none => rw [hs] at h; cases h
          | some z =>
            simp only [hs] at h
            rw [am_step_mono hc hs]
            exact ih f2 z y (by omega) h
theorem am_run_mono {call call2 : am_CALL} (hc : ∀ mi as h q, call mi as h = some q → call2 mi as h = some q) {d : Nat} {al : Bool} {F F2 mi : Nat} {as : List Value} {h : am_H} {q : Option Value × am_H} (hF : F ≤ F2) (he : am_run call d al F mi as h = some q) : am_run call2 d al F2 mi as h = some q := by
  unfold am_run at he ⊢
  cases hr : am_T[mi]? with
  | none => rw [hr] at he; cases he
  | some r =>
    simp only [hr] at he ⊢
    cases hl : am_ent as (am_L r) with
    | none => rw [hl] at he; cases he
    | some lv =>
      simp only [hl] at he ⊢
      cases hg : am_go call d (0, fun _ => 0) al r F (0, lv, [], h, 0, 0) with
      | none => rw [hg] at he; cases he
      | some y =>
        rw [am_go_mono hc F F2 _ _ hF hg]
        simp only [hg] at he
        exact he
theorem am_call_mono {al : Bool} {F F2 : Nat} (hF : F ≤ F2) : ∀ (d mi : Nat) (as : List Value) (h : am_H) (q : Option Value × am_H), am_call al F d mi as h = some q → am_call al F2 d mi as h = some q := by
  intro d
  induction d with
  | zero => intro mi as h q he; exact am_run_mono (fun _ _ _ _ h => by cases h) hF he
  | succ d ih => intro mi as h q he; exact am_run_mono ih hF he
theorem am_Do.cl {al : Bool} {F d mi : Nat} {as : List Value} {h : am_H} {q : Option Value × am_H} (he : am_call al F d mi as h = some q) : am_Do al d mi as h q := ⟨F, fun _ hF => am_call_mono hF d mi as h q he⟩
theorem am_Go.cI {al : Bool} {d : Nat} {S : am_S} {r : am_M} {pc : Nat} {lv : List (Option Value)} {st : List Value} {h : am_H} {nc ns idx mi n pl b kd : Nat} {as rest : List Value} {r2 : am_M} {q : Option Value × am_H} {z : am_C} (hdo : am_Do al d mi (.ref b :: as) h q) (hi : am_at r pc = some (.invokespecial idx)) (hinf : am_inf (am_o r) idx = some (kd, mi, n, pl)) (hkd : (Nat.beq kd 3 = false) ∧ (Nat.beq kd 2 || Nat.beq kd 6) = true) (hpop : am_pop n st = some (as, .ref b :: rest)) (hr2 : am_T[mi]? = some r2) (hchk : (am_rsm rest && Nat.ble (nc + (am_k r2).1) (am_k r).1 && Nat.ble (ns + (am_k r2).2) (am_k r).2) = true) (hlen : Nat.beq q.2.length (h.length + (am_k r2).1) = true) (hz : am_Go al d S r (pc + 3, lv, q.1.toList ++ rest, q.2, nc + (am_k r2).1, ns + (am_k r2).2) z) : am_Go al d S r (pc, lv, st, h, nc, ns) z := by
  refine am_Go.tr ?_ hz
  obtain ⟨F0, hdo⟩ := hdo
  refine ⟨1, F0, fun F hF => ?_⟩
  have e1 : am_step (am_call al F d) (d + 1) S al r (.invokespecial idx) (pc, lv, st, h, nc, ns) = some (pc + 3, lv, q.1.toList ++ rest, q.2, nc + (am_k r2).1, ns + (am_k r2).2) := by
    show am_s6 (am_call al F d) (d + 1) (am_k r) (am_o r) (.invokespecial idx) pc lv st h nc ns = _
    simp only [am_s6, hinf, hpop, hr2, hkd.1, hkd.2, cond_true, cond_false, am_fin, hchk, hdo F hF, hlen]
    try rfl
  unfold am_nst
  simp only [hi, e1]
  rfl
