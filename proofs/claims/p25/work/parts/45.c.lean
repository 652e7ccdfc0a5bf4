/-- a cell's shape is of its kind -/
def am_shw (w : ab_W) (v : Value) : Bool := match w, v with
  | .inl (lo, hi), .int x => decide (lo ≤ x.toInt) && decide (x.toInt ≤ hi)
  | .inr (.inl _), .long _ => true
  | .inr (.inr l), .ref a => l.contains a
  | _, _ => false
def am_shws : List ab_W → List Value → Bool
  | [], [] => true
  | w :: ws, v :: vs => am_shw w v && am_shws ws vs
  | _, _ => false
def am_sh (d : ab_D) (s : am_DS) : Bool := match d, s with
  | .inl (t, n, _, _, _), (k, t2, n2, _) => Nat.beq t t2 && Nat.beq n n2 && ((Nat.beq k 1 && !Nat.beq t 2) || (Nat.beq k 2 && Nat.beq t 2))
  | .inr (c, ws), (k, c2, _, fs) => Nat.beq k 0 && Nat.beq c c2 && am_shws ws fs
def am_shs : List ab_D → List am_DS → Bool
  | [], [] => true
  | d :: ds, s :: ss => am_sh d s && am_shs ds ss
  | _, _ => false
theorem am_shws_ok : ∀ (ws : List ab_W) (vs : List Value), am_shws ws vs = true → vs.length = ws.length ∧ ∀ (k : Nat) (w : ab_W) (v : Value), ws[k]? = some w → vs[k]? = some v → ab_w w v := by
  intro ws
  induction ws with
  | nil => intro vs h; cases vs with
    | nil => exact ⟨rfl, fun k w v h => by simp at h⟩
    | cons v vs => cases h
  | cons w ws ih =>
    intro vs h
    cases vs with
    | nil => cases h
    | cons v vs =>
      unfold am_shws at h
      rw [Bool.and_eq_true] at h
      obtain ⟨i1, i2⟩ := ih vs h.2
      refine ⟨by simp [i1], fun k w2 v2 h1 h2 => ?_⟩
      match k, h1, h2 with
      | 0, h1, h2 =>
        cases h1
        cases h2
        have h3 := h.1
        unfold am_shw at h3
        split at h3
        · simp only [Bool.and_eq_true, decide_eq_true_eq] at h3
          exact h3
        · trivial
        · exact List.contains_iff_mem.mp h3
        · cases h3
      | k + 1, h1, h2 => exact i2 k w2 v2 h1 h2
theorem am_shs_get : ∀ (ds : List ab_D) (ss : List am_DS), am_shs ds ss = true → ss.length = ds.length ∧ ∀ (a : Nat) (d : ab_D) (s : am_DS), ds[a]? = some d → ss[a]? = some s → am_sh d s = true := by
  intro ds
  induction ds with
  | nil => intro ss h; cases ss with
    | nil => exact ⟨rfl, fun a d s h => by simp at h⟩
    | cons s ss => cases h
  | cons d ds ih =>
    intro ss h
    cases ss with
    | nil => cases h
    | cons s ss =>
      unfold am_shs at h
      rw [Bool.and_eq_true] at h
      obtain ⟨i1, i2⟩ := ih ss h.2
      refine ⟨by simp [i1], fun a d2 s2 h1 h2 => ?_⟩
      match a, h1, h2 with
      | 0, h1, h2 => cases h1; cases h2; exact h.1
      | a + 1, h1, h2 => exact i2 a d2 s2 h1 h2
