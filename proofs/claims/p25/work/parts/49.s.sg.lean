/-! ===== cells by what they hold: a state as functions of place and index ===== -/
/-- ints and longs of fields, ints and longs of arrays, references -/
abbrev sg_S : Type := (Nat → Nat → Int32) × (Nat → Nat → Int64) × (Nat → Nat → Int32) × (Nat → Nat → Int64) × (Nat → Nat → Nat)
def sg_w (s : sg_S) (a k : Nat) (w : ab_W) : Value := match w with
  | .inl _ => .int (s.1 a k)
  | .inr (.inl _) => .long (s.2.1 a k)
  | .inr (.inr [b]) => .ref b
  | .inr (.inr _) => .ref (s.2.2.2.2 a k)
def sg_ws (s : sg_S) (a : Nat) : Nat → List ab_W → List Value
  | _, [] => []
  | k, w :: ws => sg_w s a k w :: sg_ws s a (k + 1) ws
def sg_c (s : sg_S) (a : Nat) (d : ab_D) : am_E := match d with
  | .inl (t, n, _, _, _) => bif Nat.beq t 2 then .inl (2, n, .inr (.inl (s.2.2.2.1 a))) else .inl (t, n, .inl (s.2.2.1 a))
  | .inr (c, ws) => .inr (c, sg_ws s a 0 ws)
def sg_hs (s : sg_S) : Nat → List ab_D → am_H
  | _, [] => []
  | a, d :: ds => sg_c s a d :: sg_hs s (a + 1) ds
def sg_h (s : sg_S) : am_H := sg_hs s 0 ab_D0
theorem sg_ws_get (s : sg_S) (a : Nat) : ∀ (ws : List ab_W) (k i : Nat), (sg_ws s a k ws)[i]? = (ws[i]?).map (fun w => sg_w s a (k + i) w) := by
  intro ws
  induction ws with
  | nil => intro k i; rfl
  | cons w ws ih =>
    intro k i
    match i with
    | 0 => rfl
    | i + 1 =>
      show (sg_ws s a (k + 1) ws)[i]? = _
      rw [ih (k + 1) i, show k + 1 + i = k + (i + 1) by omega]
      rfl
theorem sg_hs_get (s : sg_S) : ∀ (ds : List ab_D) (a i : Nat), (sg_hs s a ds)[i]? = (ds[i]?).map (fun d => sg_c s (a + i) d) := by
  intro ds
  induction ds with
  | nil => intro a i; rfl
  | cons d ds ih =>
    intro a i
    match i with
    | 0 => rfl
    | i + 1 =>
      show (sg_hs s (a + 1) ds)[i]? = _
      rw [ih (a + 1) i, show a + 1 + i = a + (i + 1) by omega]
      rfl
theorem sg_get (s : sg_S) (a : Nat) : (sg_h s)[a]? = (ab_D0[a]?).map (sg_c s a) := by
  unfold sg_h
  rw [sg_hs_get, Nat.zero_add]
theorem sg_obj {s : sg_S} {a c : Nat} {ws : List ab_W} (hd : ab_D0[a]? = some (.inr (c, ws))) (ha : Nat.blt a 1000000 = true) : am_obj (sg_h s) a c = some (sg_ws s a 0 ws) := by
  unfold am_obj
  rw [ha, sg_get, hd]
  show (bif true then (match some (sg_c s a (.inr (c, ws))) with
    | some (.inr o) => bif Nat.beq o.1 c then some o.2 else none
    | _ => none) else none) = _
  simp only [sg_c, Nat.beq_refl, cond_true]
theorem sg_arr {s : sg_S} {a t n : Nat} {lo hi m : Int} (hd : ab_D0[a]? = some (.inl (t, n, lo, hi, m))) (ht : Nat.beq t 2 = false) : (sg_h s)[a]? = some (.inl (t, n, .inl (s.2.2.1 a))) := by
  rw [sg_get, hd]
  show some (sg_c s a (.inl (t, n, lo, hi, m))) = _
  simp only [sg_c, ht, cond_false]
theorem sg_arl {s : sg_S} {a n : Nat} {lo hi m : Int} (hd : ab_D0[a]? = some (.inl (2, n, lo, hi, m))) : (sg_h s)[a]? = some (.inl (2, n, .inr (.inl (s.2.2.2.1 a)))) := by
  rw [sg_get, hd]
  rfl
/-- writes -/
def sg_uI (s : sg_S) (a k : Nat) (v : Int32) : sg_S := (fun b j => if b = a ∧ j = k then v else s.1 b j, s.2)
def sg_uL (s : sg_S) (a k : Nat) (v : Int64) : sg_S := (s.1, fun b j => if b = a ∧ j = k then v else s.2.1 b j, s.2.2)
def sg_uA (s : sg_S) (a k : Nat) (v : Int32) : sg_S := (s.1, s.2.1, fun b j => if b = a ∧ j = k then v else s.2.2.1 b j, s.2.2.2)
def sg_uM (s : sg_S) (a k : Nat) (v : Int64) : sg_S := (s.1, s.2.1, s.2.2.1, fun b j => if b = a ∧ j = k then v else s.2.2.2.1 b j, s.2.2.2.2)
def sg_uR (s : sg_S) (a k b2 : Nat) : sg_S := (s.1, s.2.1, s.2.2.1, s.2.2.2.1, fun b j => if b = a ∧ j = k then b2 else s.2.2.2.2 b j)
theorem sg_ws_set {s s2 : sg_S} {a : Nat} : ∀ (ws : List ab_W) (i k : Nat) (v : Value), (∀ j w, ws[j]? = some w → i + j ≠ k → sg_w s2 a (i + j) w = sg_w s a (i + j) w) → (∀ w, i ≤ k → ws[k - i]? = some w → sg_w s2 a k w = v) → i ≤ k → (sg_ws s a i ws).set (k - i) v = sg_ws s2 a i ws := by
  intro ws
  induction ws with
  | nil => intro i k v _ _ _; rfl
  | cons w ws ih =>
    intro i k v h1 h2 hik
    by_cases hk : k = i
    · subst hk
      rw [Nat.sub_self]
      have e1 := h2 w (Nat.le_refl _) (by rw [Nat.sub_self]; rfl)
      have e2 : sg_ws s a (k + 1) ws = sg_ws s2 a (k + 1) ws := by
        apply List.ext_getElem?
        intro j
        rw [sg_ws_get, sg_ws_get]
        cases hj : ws[j]? with
        | none => rfl
        | some u =>
          have := h1 (j + 1) u hj (by omega)
          rw [show k + (j + 1) = k + 1 + j by omega] at this
          show some (sg_w s a (k + 1 + j) u) = some (sg_w s2 a (k + 1 + j) u)
          rw [this]
      show v :: sg_ws s a (k + 1) ws = sg_w s2 a k w :: sg_ws s2 a (k + 1) ws
      rw [e1, e2]
    · have e : k - i = (k - (i + 1)) + 1 := by omega
      rw [e]
      show sg_w s a i w :: (sg_ws s a (i + 1) ws).set (k - (i + 1)) v = sg_w s2 a i w :: sg_ws s2 a (i + 1) ws
      have e0 := h1 0 w rfl (by omega)
      rw [Nat.add_zero] at e0
      rw [e0, ih (i + 1) k v (fun j u hj hne => by
        have := h1 (j + 1) u hj (by omega)
        rw [show i + (j + 1) = i + 1 + j by omega] at this
        exact this) (fun u _ hu => h2 u hik (by rw [e]; exact hu)) (by omega)]
/-- a cell is set: the state is set -/
theorem sg_set {s s2 : sg_S} {a : Nat} {d : ab_D} {e : am_E} (hd : ab_D0[a]? = some d) (he : sg_c s2 a d = e) (ho : ∀ b d, b ≠ a → ab_D0[b]? = some d → sg_c s2 b d = sg_c s b d) : (sg_h s).set a e = sg_h s2 := by
  apply List.ext_getElem?
  intro b
  by_cases hb : a = b
  · subst hb
    have hl : a < (sg_h s).length := by
      have h1 : (sg_h s)[a]? = some (sg_c s a d) := by rw [sg_get, hd]; rfl
      exact (List.getElem?_eq_some_iff.mp h1).1
    rw [List.getElem?_set_self hl, sg_get, hd, ← he]
    rfl
  · rw [List.getElem?_set_ne hb, sg_get, sg_get]
    cases hq : ab_D0[b]? with
    | none => rfl
    | some d2 =>
      show some (sg_c s b d2) = some (sg_c s2 b d2)
      rw [ho b d2 (fun q => hb q.symm) hq]
theorem sg_c_ne {s s2 : sg_S} {b : Nat} (h : ∀ k, s2.1 b k = s.1 b k ∧ s2.2.1 b k = s.2.1 b k ∧ s2.2.2.1 b k = s.2.2.1 b k ∧ s2.2.2.2.1 b k = s.2.2.2.1 b k ∧ s2.2.2.2.2 b k = s.2.2.2.2 b k) (d : ab_D) : sg_c s2 b d = sg_c s b d := by
  have e1 : s2.2.2.1 b = s.2.2.1 b := funext (fun k => (h k).2.2.1)
  have e2 : s2.2.2.2.1 b = s.2.2.2.1 b := funext (fun k => (h k).2.2.2.1)
  have e3 : ∀ (ws : List ab_W) (k : Nat), sg_ws s2 b k ws = sg_ws s b k ws := by
    intro ws
    induction ws with
    | nil => intro k; rfl
    | cons w ws ih =>
      intro k
      show sg_w s2 b k w :: _ = sg_w s b k w :: _
      rw [ih (k + 1)]
      congr 1
      obtain ⟨g1, g2, -, -, g5⟩ := h k
      unfold sg_w
      split
      · rw [g1]
      · rw [g2]
      · rfl
      · rw [g5]
  obtain ⟨t, n, lo, hi, m⟩ | ⟨c, ws⟩ := d
  · simp only [sg_c, e1, e2]
  · simp only [sg_c, e3]
/-- every state of the cells' kinds is one -/
def sg_of (h : am_H) : sg_S := (fun a k => match ab_cell h a (k : Int) with
  | some (.int x) => x
  | _ => 0, fun a k => match ab_cell h a (k : Int) with
  | some (.long x) => x
  | _ => 0, am_ctI h, am_ctL h, fun a k => match ab_cell h a (k : Int) with
  | some (.ref x) => x
  | _ => 0)
theorem sg_of_ok {h : am_H} (hok : ab_hok ab_D0 h) : h = sg_h (sg_of h) := by
  apply List.ext_getElem?
  intro a
  rw [sg_get]
  cases hd : ab_D0[a]? with
  | none =>
    have : ab_D0.length ≤ a := List.getElem?_eq_none_iff.mp hd
    rw [List.getElem?_eq_none (by rw [hok.1]; exact this)]
    rfl
  | some d =>
    obtain ⟨e, he, hk⟩ := ab_hok_get hok hd
    rw [he]
    show some e = some (sg_c (sg_of h) a d)
    congr 1
    obtain ⟨t, n, lo, hi, m⟩ | ⟨c, ws⟩ := d
    · rcases hk with ⟨ht, f, rfl, -⟩ | ⟨ht, f, rfl⟩
      · have hb : Nat.beq t 2 = false := by
          cases hq : Nat.beq t 2 with
          | false => rfl
          | true => exact absurd (Nat.eq_of_beq_eq_true hq) ht
        simp only [sg_c, hb, cond_false]
        have e1 : am_ctI h a = f := by
          unfold am_ctI
          rw [he]
        show _ = Sum.inl (t, n, Sum.inl (am_ctI h a))
        rw [e1]
      · subst ht
        have e1 : am_ctL h a = f := by
          unfold am_ctL
          rw [he]
        show _ = Sum.inl (2, n, Sum.inr (Sum.inl (am_ctL h a)))
        rw [e1]
    · obtain ⟨fs, rfl, hl, hw⟩ := hk
      show _ = Sum.inr (c, sg_ws (sg_of h) a 0 ws)
      congr 2
      apply List.ext_getElem?
      intro k
      rw [sg_ws_get, Nat.zero_add]
      cases hwk : ws[k]? with
      | none =>
        have : ws.length ≤ k := List.getElem?_eq_none_iff.mp hwk
        rw [List.getElem?_eq_none (by omega)]
        rfl
      | some w =>
        have hk2 : k < fs.length := by rw [hl]; exact (List.getElem?_eq_some_iff.mp hwk).1
        have hv := List.getElem?_eq_getElem hk2
        have hq := hw k w _ hwk hv
        have hc : ab_cell h a (k : Int) = some fs[k] := by rw [ab_cell_obj he]; exact hv
        rw [hv]
        show some fs[k] = some (sg_w (sg_of h) a k w)
        congr 1
        generalize fs[k] = v at hq hc
        obtain ⟨lo, hi⟩ | (u | l) := w
        · cases v with
          | int x =>
            show _ = Value.int (match ab_cell h a (k : Int) with
              | some (.int x) => x
              | _ => 0)
            rw [hc]
          | _ => exact hq.elim
        · cases v with
          | long x =>
            show _ = Value.long (match ab_cell h a (k : Int) with
              | some (.long x) => x
              | _ => 0)
            rw [hc]
          | _ => exact hq.elim
        · cases v with
          | ref x =>
            have hx : x ∈ l := hq
            have hr : (sg_of h).2.2.2.2 a k = x := by
              show (match ab_cell h a (k : Int) with
                | some (.ref x) => x
                | _ => 0) = x
              rw [hc]
            match l, hx with
            | [], hx => cases hx
            | [b], hx =>
              rcases List.mem_singleton.mp hx with rfl
              rfl
            | b :: c :: l, hx =>
              show _ = Value.ref ((sg_of h).2.2.2.2 a k)
              rw [hr]
          | _ => exact hq.elim
