/-! ===== ends: layers of states, purely ===== -/
/-- a layer: how many states, each by its fourteen numbers -/
abbrev el_ : Type := Nat × (Nat → Nat → Int32)
def eqs_ (v w : Nat → Int32) : Prop := ∀ i, i < 14 → v i = w i
theorem eqs_.rf {v : Nat → Int32} : eqs_ v v := fun _ _ => rfl
theorem eqs_.sy {v w : Nat → Int32} (h : eqs_ v w) : eqs_ w v := fun i hi => (h i hi).symm
theorem eqs_.tr {u v w : Nat → Int32} (h : eqs_ u v) (g : eqs_ v w) : eqs_ u w := fun i hi => (h i hi).trans (g i hi)
noncomputable def fx_ (f : Nat → Nat → Int32) (w : Nat → Int32) : Nat → Nat → Nat
  | 0, k => k
  | c + 1, k => @ite Nat (eqs_ (f k) w) (Classical.propDecidable _) k (fx_ f w c (k + 1))
theorem fx_spec {f : Nat → Nat → Int32} {w : Nat → Int32} : ∀ c k : Nat, (k ≤ fx_ f w c k ∧ fx_ f w c k ≤ k + c) ∧ (∀ j, k ≤ j → j < fx_ f w c k → ¬ eqs_ (f j) w) ∧ (fx_ f w c k < k + c → eqs_ (f (fx_ f w c k)) w) := by
  intro c
  induction c with
  | zero =>
    intro k
    show (k ≤ k ∧ k ≤ k + 0) ∧ (∀ j, k ≤ j → j < k → ¬ eqs_ (f j) w) ∧ (k < k + 0 → eqs_ (f k) w)
    exact ⟨⟨Nat.le_refl _, Nat.le_refl _⟩, fun j h1 h2 => by omega, fun h => by omega⟩
  | succ c ih =>
    intro k
    by_cases e : eqs_ (f k) w
    · have h : fx_ f w (c + 1) k = k := if_pos e
      rw [h]
      exact ⟨⟨Nat.le_refl _, by omega⟩, fun j h1 h2 => by omega, fun _ => e⟩
    · have h : fx_ f w (c + 1) k = fx_ f w c (k + 1) := if_neg e
      obtain ⟨⟨a1, a2⟩, a3, a4⟩ := ih (k + 1)
      rw [h]
      refine ⟨⟨by omega, by omega⟩, fun j h1 h2 => ?_, fun h2 => a4 (by omega)⟩
      by_cases ej : j = k
      · rw [ej]; exact e
      · exact a3 j (by omega) h2
/-- the first state of a layer that is alike, or how many there are -/
noncomputable def ef_ (L : el_) (w : Nat → Int32) : Nat := fx_ L.2 w L.1 0
theorem ef_le {L : el_} {w : Nat → Int32} : ef_ L w ≤ L.1 := by
  have := (fx_spec (f := L.2) (w := w) L.1 0).1.2
  unfold ef_
  omega
theorem ef_hit {L : el_} {w : Nat → Int32} (h : ef_ L w < L.1) : eqs_ (L.2 (ef_ L w)) w := (fx_spec (f := L.2) (w := w) L.1 0).2.2 (by unfold ef_ at h; omega)
theorem ef_no {L : el_} {w : Nat → Int32} {j : Nat} (h : j < ef_ L w) : ¬ eqs_ (L.2 j) w := (fx_spec (f := L.2) (w := w) L.1 0).2.1 j (Nat.zero_le _) h
theorem ef_at {L : el_} {w : Nat → Int32} {k : Nat} (hk : k < L.1) (h1 : eqs_ (L.2 k) w) (h2 : ∀ j, j < k → ¬ eqs_ (L.2 j) w) : ef_ L w = k := by
  rcases Nat.lt_trichotomy (ef_ L w) k with c | c | c
  · exact absurd (ef_hit (by omega)) (h2 _ c)
  · exact c
  · exact absurd h1 (ef_no c)
theorem ef_none {L : el_} {w : Nat → Int32} (h : ∀ k, k < L.1 → ¬ eqs_ (L.2 k) w) : ef_ L w = L.1 := by
  have h1 := ef_le (L := L) (w := w)
  by_cases c : ef_ L w < L.1
  · exact absurd (ef_hit c) (h _ c)
  · omega
def ea_ (L : el_) (w : Nat → Int32) : el_ := (L.1 + 1, fun k => if k = L.1 then w else L.2 k)
/-- one set behind one state: the layer, and where it leads (-1: nowhere) -/
noncomputable def es_ (ok : Prop) (L : el_) (w : Nat → Int32) : el_ × Int := @ite (el_ × Int) ok (Classical.propDecidable _) (if ef_ L w < L.1 then (L, (ef_ L w : Int)) else (ea_ L w, (L.1 : Int))) (L, -1)
theorem es_no {ok : Prop} {L : el_} {w : Nat → Int32} (h : ¬ ok) : es_ ok L w = (L, -1) := if_neg h
theorem es_old {ok : Prop} {L : el_} {w : Nat → Int32} (h : ok) (h2 : ef_ L w < L.1) : es_ ok L w = (L, (ef_ L w : Int)) := (if_pos h).trans (if_pos h2)
theorem es_new {ok : Prop} {L : el_} {w : Nat → Int32} (h : ok) (h2 : ¬ ef_ L w < L.1) : es_ ok L w = (ea_ L w, (L.1 : Int)) := (if_pos h).trans (if_neg h2)
section EN
variable (ok : (Nat → Int32) → Int32 → Nat → Prop) (nxt : (Nat → Int32) → Int32 → Nat → Int32) (cn : Nat → Nat) (cs : Nat → Nat → Int32) (v0 : Nat → Int32)
noncomputable def er_ (p : Nat) (v : Nat → Int32) (L : el_) : Nat → el_
  | 0 => L
  | t + 1 => (es_ (ok v (cs p t) p) (er_ p v L t) (nxt v (cs p t))).1
noncomputable def ey_ (p : Nat) (P : el_) : Nat → el_
  | 0 => (0, fun _ _ => 0)
  | k + 1 => er_ ok nxt cs p (P.2 k) (ey_ p P k) (cn p)
noncomputable def eL_ : Nat → el_
  | 0 => (1, fun _ => v0)
  | p + 1 => ey_ ok nxt cn cs (p + 1) (eL_ p) (eL_ p).1
/-- the layer p + 1 before the set t of the state k of the layer p -/
noncomputable def ec_ (p k t : Nat) : el_ := er_ ok nxt cs (p + 1) ((eL_ ok nxt cn cs v0 p).2 k) (ey_ ok nxt cn cs (p + 1) (eL_ ok nxt cn cs v0 p) k) t
/-- where the set t leads from the state k of the layer p -/
noncomputable def ed_ (p k t : Nat) : Int := (es_ (ok ((eL_ ok nxt cn cs v0 p).2 k) (cs (p + 1) t) (p + 1)) (ec_ ok nxt cn cs v0 p k t) (nxt ((eL_ ok nxt cn cs v0 p).2 k) (cs (p + 1) t))).2
/-- how many states there are ahead of a layer -/
noncomputable def eS_ : Nat → Int
  | 0 => 0
  | p + 1 => eS_ p + ((eL_ ok nxt cn cs v0 p).1 : Int)
end EN
section EP
variable {ok : (Nat → Int32) → Int32 → Nat → Prop} {nxt : (Nat → Int32) → Int32 → Nat → Int32} {cn : Nat → Nat} {cs : Nat → Nat → Int32} {v0 : Nat → Int32}
/-- a layer goes on in another: its states stand -/
def eg_ (L M : el_) : Prop := L.1 ≤ M.1 ∧ ∀ k, k < L.1 → M.2 k = L.2 k
theorem eg_.rf {L : el_} : eg_ L L := ⟨Nat.le_refl _, fun _ _ => rfl⟩
theorem eg_.tr {L M N : el_} (h : eg_ L M) (g : eg_ M N) : eg_ L N := ⟨Nat.le_trans h.1 g.1, fun k hk => (g.2 k (by have := h.1; omega)).trans (h.2 k hk)⟩
theorem es_eg {o : Prop} {L : el_} {w : Nat → Int32} : eg_ L (es_ o L w).1 ∧ (es_ o L w).1.1 ≤ L.1 + 1 := by
  by_cases h : o
  · by_cases h2 : ef_ L w < L.1
    · rw [es_old h h2]
      exact ⟨eg_.rf, by show L.1 ≤ L.1 + 1; omega⟩
    · rw [es_new h h2]
      refine ⟨⟨by show L.1 ≤ L.1 + 1; omega, fun k hk => ?_⟩, Nat.le_refl _⟩
      show (if k = L.1 then w else L.2 k) = L.2 k
      rw [if_neg (by omega)]
  · rw [es_no h]
    exact ⟨eg_.rf, by show L.1 ≤ L.1 + 1; omega⟩
/-- where it leads is a state of the layer -/
theorem es_to {o : Prop} {L : el_} {w : Nat → Int32} : (es_ o L w).2 = -1 ∨ (0 ≤ (es_ o L w).2 ∧ (es_ o L w).2 < ((es_ o L w).1.1 : Int)) := by
  by_cases h : o
  · by_cases h2 : ef_ L w < L.1
    · rw [es_old h h2]
      exact Or.inr ⟨by show (0 : Int) ≤ (ef_ L w : Int); omega, by show (ef_ L w : Int) < (L.1 : Int); omega⟩
    · rw [es_new h h2]
      exact Or.inr ⟨by show (0 : Int) ≤ (L.1 : Int); omega, by show (L.1 : Int) < ((L.1 + 1 : Nat) : Int); omega⟩
  · rw [es_no h]
    exact Or.inl rfl
theorem er_eg {p : Nat} {v : Nat → Int32} {L : el_} : ∀ t u : Nat, t ≤ u → eg_ (er_ ok nxt cs p v L t) (er_ ok nxt cs p v L u) := by
  intro t u
  induction u with
  | zero =>
    intro h
    rw [show t = 0 by omega]
    exact eg_.rf
  | succ u ih =>
    intro h
    by_cases c : t = u + 1
    · rw [c]; exact eg_.rf
    · exact (ih (by omega)).tr es_eg.1
theorem ey_eg {p : Nat} {P : el_} : ∀ k j : Nat, k ≤ j → eg_ (ey_ ok nxt cn cs p P k) (ey_ ok nxt cn cs p P j) := by
  intro k j
  induction j with
  | zero =>
    intro h
    rw [show k = 0 by omega]
    exact eg_.rf
  | succ j ih =>
    intro h
    by_cases c : k = j + 1
    · rw [c]; exact eg_.rf
    · exact (ih (by omega)).tr (er_eg 0 (cn p) (Nat.zero_le _))
theorem ec_eg {p k t : Nat} (hk : k < (eL_ ok nxt cn cs v0 p).1) (ht : t ≤ cn (p + 1)) : eg_ (ec_ ok nxt cn cs v0 p k t) (eL_ ok nxt cn cs v0 (p + 1)) := by
  have h1 : eg_ (ec_ ok nxt cn cs v0 p k t) (ey_ ok nxt cn cs (p + 1) (eL_ ok nxt cn cs v0 p) (k + 1)) := er_eg t (cn (p + 1)) ht
  exact h1.tr (ey_eg (k + 1) (eL_ ok nxt cn cs v0 p).1 (by omega))
theorem ec_0 {p : Nat} : ec_ ok nxt cn cs v0 p 0 0 = (0, fun _ _ => 0) := rfl
theorem ec_row {p k : Nat} : ec_ ok nxt cn cs v0 p k (cn (p + 1)) = ec_ ok nxt cn cs v0 p (k + 1) 0 := rfl
theorem ec_all {p : Nat} : ec_ ok nxt cn cs v0 p (eL_ ok nxt cn cs v0 p).1 0 = eL_ ok nxt cn cs v0 (p + 1) := rfl
theorem ec_succ {p k t : Nat} : ec_ ok nxt cn cs v0 p k (t + 1) = (es_ (ok ((eL_ ok nxt cn cs v0 p).2 k) (cs (p + 1) t) (p + 1)) (ec_ ok nxt cn cs v0 p k t) (nxt ((eL_ ok nxt cn cs v0 p).2 k) (cs (p + 1) t))).1 := rfl
theorem ed_rng {p k t : Nat} (hk : k < (eL_ ok nxt cn cs v0 p).1) (ht : t < cn (p + 1)) : ed_ ok nxt cn cs v0 p k t = -1 ∨ (0 ≤ ed_ ok nxt cn cs v0 p k t ∧ ed_ ok nxt cn cs v0 p k t < ((eL_ ok nxt cn cs v0 (p + 1)).1 : Int)) := by
  have h := (ec_eg (t := t + 1) hk (by omega)).1
  rcases es_to (o := ok ((eL_ ok nxt cn cs v0 p).2 k) (cs (p + 1) t) (p + 1)) (L := ec_ ok nxt cn cs v0 p k t) (w := nxt ((eL_ ok nxt cn cs v0 p).2 k) (cs (p + 1) t)) with c | c
  · exact Or.inl c
  · refine Or.inr ⟨c.1, ?_⟩
    rw [ec_succ] at h
    have h3 := c.2
    show (es_ _ _ _).2 < _
    omega
/-- every state behind the first place is led to -/
theorem ec_from {p : Nat} : ∀ k : Nat, k ≤ (eL_ ok nxt cn cs v0 p).1 → ∀ j, j < (ec_ ok nxt cn cs v0 p k 0).1 → ∃ i t, i < k ∧ t < cn (p + 1) ∧ ed_ ok nxt cn cs v0 p i t = (j : Int) := by
  intro k
  induction k with
  | zero => intro _ j hj; exact absurd hj (Nat.not_lt_zero j)
  | succ k ih =>
    intro hk
    have key : ∀ t, t ≤ cn (p + 1) → ∀ j, j < (ec_ ok nxt cn cs v0 p k t).1 → ∃ i u, ((i < k ∧ u < cn (p + 1)) ∨ (i = k ∧ u < t)) ∧ ed_ ok nxt cn cs v0 p i u = (j : Int) := by
      intro t
      induction t with
      | zero =>
        intro _ j hj
        obtain ⟨i, u, h1, h2, h3⟩ := ih (by omega) j hj
        exact ⟨i, u, Or.inl ⟨h1, h2⟩, h3⟩
      | succ t iht =>
        intro ht j hj
        by_cases c : j < (ec_ ok nxt cn cs v0 p k t).1
        · obtain ⟨i, u, h1, h2⟩ := iht (by omega) j c
          refine ⟨i, u, ?_, h2⟩
          rcases h1 with h1 | h1
          · exact Or.inl h1
          · exact Or.inr ⟨h1.1, by omega⟩
        · refine ⟨k, t, Or.inr ⟨rfl, by omega⟩, ?_⟩
          rw [ec_succ] at hj
          show (es_ _ _ _).2 = _
          by_cases h : ok ((eL_ ok nxt cn cs v0 p).2 k) (cs (p + 1) t) (p + 1)
          · by_cases h2 : ef_ (ec_ ok nxt cn cs v0 p k t) (nxt ((eL_ ok nxt cn cs v0 p).2 k) (cs (p + 1) t)) < (ec_ ok nxt cn cs v0 p k t).1
            · rw [es_old h h2] at hj
              exact absurd hj c
            · rw [es_new h h2] at hj ⊢
              have hj : j < (ec_ ok nxt cn cs v0 p k t).1 + 1 := hj
              show ((ec_ ok nxt cn cs v0 p k t).1 : Int) = (j : Int)
              omega
          · rw [es_no h] at hj
            exact absurd hj c
    intro j hj
    obtain ⟨i, u, h1, h2⟩ := key (cn (p + 1)) (Nat.le_refl _) j hj
    exact ⟨i, u, by omega, by omega, h2⟩
theorem eL_from {p j : Nat} (hj : j < (eL_ ok nxt cn cs v0 (p + 1)).1) : ∃ i t, i < (eL_ ok nxt cn cs v0 p).1 ∧ t < cn (p + 1) ∧ ed_ ok nxt cn cs v0 p i t = (j : Int) := ec_from _ (Nat.le_refl _) j hj
/-- the states of a layer are unlike -/
def eu_ (L : el_) : Prop := ∀ j k, j < k → k < L.1 → ¬ eqs_ (L.2 j) (L.2 k)
theorem es_eu {o : Prop} {L : el_} {w : Nat → Int32} (h : eu_ L) : eu_ (es_ o L w).1 := by
  by_cases ho : o
  · by_cases h2 : ef_ L w < L.1
    · rw [es_old ho h2]; exact h
    · rw [es_new ho h2]
      intro j k hjk hk
      have hk : k < L.1 + 1 := hk
      have e0 := ef_le (L := L) (w := w)
      show ¬ eqs_ (if j = L.1 then w else L.2 j) (if k = L.1 then w else L.2 k)
      rw [if_neg (by omega)]
      by_cases c : k = L.1
      · rw [if_pos c]
        exact ef_no (by omega)
      · rw [if_neg c]
        exact h j k hjk (by omega)
  · rw [es_no ho]; exact h
theorem ec_eu {p : Nat} : ∀ k t : Nat, eu_ (ec_ ok nxt cn cs v0 p k t) := by
  have row : ∀ (v : Nat → Int32) (L : el_) (t : Nat), eu_ L → eu_ (er_ ok nxt cs (p + 1) v L t) := by
    intro v L t h
    induction t with
    | zero => exact h
    | succ t ih => exact es_eu ih
  intro k
  induction k with
  | zero => intro t; exact row _ _ t (fun j k _ hk => absurd hk (Nat.not_lt_zero k))
  | succ k ih => intro t; exact row _ _ t (ih (cn (p + 1)))
/-- what holds of all next states holds of a layer's -/
theorem ec_all_of {p : Nat} {Q : (Nat → Int32) → Prop} (hQ : ∀ k t, k < (eL_ ok nxt cn cs v0 p).1 → t < cn (p + 1) → ok ((eL_ ok nxt cn cs v0 p).2 k) (cs (p + 1) t) (p + 1) → Q (nxt ((eL_ ok nxt cn cs v0 p).2 k) (cs (p + 1) t))) : ∀ k, k ≤ (eL_ ok nxt cn cs v0 p).1 → ∀ t, (t ≤ cn (p + 1) ∧ k < (eL_ ok nxt cn cs v0 p).1) ∨ t = 0 → ∀ j, j < (ec_ ok nxt cn cs v0 p k t).1 → Q ((ec_ ok nxt cn cs v0 p k t).2 j) := by
  intro k
  induction k with
  | zero =>
    intro _ t
    induction t with
    | zero => intro _ j hj; exact absurd hj (Nat.not_lt_zero j)
    | succ t iht =>
      intro ht j hj
      have h0 : t + 1 ≤ cn (p + 1) ∧ 0 < (eL_ ok nxt cn cs v0 p).1 := by rcases ht with q | q; exact q; omega
      have prev := iht (Or.inl ⟨by omega, h0.2⟩)
      rw [ec_succ] at hj ⊢
      by_cases h : ok ((eL_ ok nxt cn cs v0 p).2 0) (cs (p + 1) t) (p + 1)
      · by_cases h2 : ef_ (ec_ ok nxt cn cs v0 p 0 t) (nxt ((eL_ ok nxt cn cs v0 p).2 0) (cs (p + 1) t)) < (ec_ ok nxt cn cs v0 p 0 t).1
        · rw [es_old h h2] at hj ⊢
          exact prev j hj
        · rw [es_new h h2] at hj ⊢
          show Q (if j = (ec_ ok nxt cn cs v0 p 0 t).1 then _ else (ec_ ok nxt cn cs v0 p 0 t).2 j)
          have hj : j < (ec_ ok nxt cn cs v0 p 0 t).1 + 1 := hj
          by_cases c : j = (ec_ ok nxt cn cs v0 p 0 t).1
          · rw [if_pos c]
            exact hQ 0 t h0.2 (by omega) h
          · rw [if_neg c]
            exact prev j (by omega)
      · rw [es_no h] at hj ⊢
        exact prev j hj
  | succ k ih =>
    intro hk t
    induction t with
    | zero =>
      intro _ j hj
      exact ih (by omega) (cn (p + 1)) (Or.inl ⟨Nat.le_refl _, by omega⟩) j hj
    | succ t iht =>
      intro ht j hj
      have h0 : t + 1 ≤ cn (p + 1) ∧ k + 1 < (eL_ ok nxt cn cs v0 p).1 := by rcases ht with q | q; exact q; omega
      have prev := iht (Or.inl ⟨by omega, h0.2⟩)
      rw [ec_succ] at hj ⊢
      by_cases h : ok ((eL_ ok nxt cn cs v0 p).2 (k + 1)) (cs (p + 1) t) (p + 1)
      · by_cases h2 : ef_ (ec_ ok nxt cn cs v0 p (k + 1) t) (nxt ((eL_ ok nxt cn cs v0 p).2 (k + 1)) (cs (p + 1) t)) < (ec_ ok nxt cn cs v0 p (k + 1) t).1
        · rw [es_old h h2] at hj ⊢
          exact prev j hj
        · rw [es_new h h2] at hj ⊢
          show Q (if j = (ec_ ok nxt cn cs v0 p (k + 1) t).1 then _ else (ec_ ok nxt cn cs v0 p (k + 1) t).2 j)
          have hj : j < (ec_ ok nxt cn cs v0 p (k + 1) t).1 + 1 := hj
          by_cases c : j = (ec_ ok nxt cn cs v0 p (k + 1) t).1
          · rw [if_pos c]
            exact hQ (k + 1) t h0.2 (by omega) h
          · rw [if_neg c]
            exact prev j (by omega)
      · rw [es_no h] at hj ⊢
        exact prev j hj
end EP
/-- how it ends: the answer and how many states were laid down -/
def eo_ (N : Nat → Nat) (S : Nat → Int) (len : Nat) (r laid : Int) : Prop := (∃ p, 1 ≤ p ∧ p ≤ len ∧ (∀ q, q < p → N q ≤ 400) ∧ 400 < N p ∧ r = -4 ∧ laid = S p + 401) ∨ ((∀ q, q ≤ len → N q ≤ 400) ∧ laid = S (len + 1) ∧ ((N len = 0 ∧ r = 0) ∨ (0 < N len ∧ r = 1)))
theorem eo_det {N : Nat → Nat} {S : Nat → Int} {len : Nat} {r l r2 l2 : Int} (h : eo_ N S len r l) (g : eo_ N S len r2 l2) : r = r2 ∧ l = l2 := by
  rcases h with ⟨p, h1, h2, h3, h4, h5, h6⟩ | ⟨h1, h2, h3⟩
  · rcases g with ⟨q, g1, g2, g3, g4, g5, g6⟩ | ⟨g1, g2, g3⟩
    · have : p = q := by
        rcases Nat.lt_trichotomy p q with c | c | c
        · have := g3 p c; omega
        · exact c
        · have := h3 q c; omega
      subst this
      exact ⟨by rw [h5, g5], by rw [h6, g6]⟩
    · have := g1 p h2
      omega
  · rcases g with ⟨q, g1, g2, g3, g4, g5, g6⟩ | ⟨g1, g2, g3⟩
    · have := h1 q g2
      omega
    · refine ⟨?_, by rw [h2, g2]⟩
      rcases h3 with h3 | h3 <;> rcases g3 with g3 | g3 <;> omega
/-! ===== from the last place back ===== -/
section EB
variable (N : Nat → Nat) (cn : Nat → Nat) (ld : Nat → Nat → Nat → Int) (len : Nat)
/-- d places ahead of the last: a state leads to the end -/
def al_ : Nat → Nat → Prop
  | 0, _ => True
  | d + 1, k => ∃ t, t < cn (len - d) ∧ 0 ≤ ld (len - (d + 1)) k t ∧ al_ d (ld (len - (d + 1)) k t).toNat
/-- a set of a state behind the place p leads on to the end -/
def av_ (p k t : Nat) : Prop := 0 ≤ ld p k t ∧ al_ cn ld len (len - (p + 1)) (ld p k t).toNat
end EB
section EW
variable {N : Nat → Nat} {cn : Nat → Nat} {ld : Nat → Nat → Nat → Int} {len : Nat}
theorem al_iff {p k : Nat} (hp : p < len) : al_ cn ld len (len - p) k ↔ ∃ t, t < cn (p + 1) ∧ av_ cn ld len p k t := by
  have e : len - p = (len - (p + 1)) + 1 := by omega
  rw [e]
  show (∃ t, t < cn (len - (len - (p + 1))) ∧ 0 ≤ ld (len - (len - (p + 1) + 1)) k t ∧ al_ cn ld len (len - (p + 1)) (ld (len - (len - (p + 1) + 1)) k t).toNat) ↔ _
  rw [show len - (len - (p + 1)) = p + 1 by omega, show len - (len - (p + 1) + 1) = p by omega]
  exact Iff.rfl
/-- the first way: states kk, sets tt -/
def ew_ (cn : Nat → Nat) (ld : Nat → Nat → Nat → Int) (len : Nat) (kk tt : Nat → Nat) : Prop := kk 0 = 0 ∧ ∀ p, p < len → (tt p < cn (p + 1) ∧ av_ cn ld len p (kk p) (tt p) ∧ ∀ u, u < tt p → ¬ av_ cn ld len p (kk p) u) ∧ (kk (p + 1) : Int) = ld p (kk p) (tt p)
theorem ew_det {kk tt kk2 tt2 : Nat → Nat} (h : ew_ cn ld len kk tt) (g : ew_ cn ld len kk2 tt2) : ∀ p, p ≤ len → kk p = kk2 p ∧ (p < len → tt p = tt2 p) := by
  have one : ∀ p, p < len → kk p = kk2 p → tt p = tt2 p := by
    intro p hp e
    obtain ⟨⟨a1, a2, a3⟩, -⟩ := h.2 p hp
    obtain ⟨⟨b1, b2, b3⟩, -⟩ := g.2 p hp
    rcases Nat.lt_trichotomy (tt p) (tt2 p) with c | c | c
    · exact absurd (by rw [← e]; exact a2) (b3 _ c)
    · exact c
    · exact absurd (by rw [e]; exact b2) (a3 _ c)
  intro p
  induction p with
  | zero => intro _; exact ⟨h.1.trans g.1.symm, fun hp => one 0 hp (h.1.trans g.1.symm)⟩
  | succ p ih =>
    intro hp
    obtain ⟨i1, i2⟩ := ih (by omega)
    have e : kk (p + 1) = kk2 (p + 1) := by
      have a := (h.2 p (by omega)).2
      have b := (g.2 p (by omega)).2
      rw [i1, i2 (by omega)] at a
      omega
    exact ⟨e, fun hp2 => one (p + 1) hp2 e⟩
end EW
