/-! ===== the machine in small and the machine: addresses, values, cells, locals ===== -/
/-- where the cells begin, where the script lies, where the text lies -/
abbrev am_G : Type := Nat × Nat × Nat
def am_ad (G : am_G) (i : Nat) : Nat := bif Nat.beq i 1000000 then G.2.1 else bif Nat.beq i 1000001 then G.2.2 else G.1 + i
def am_tv (G : am_G) (v : Value) : Value := match v with
  | .ref i => .ref (am_ad G i)
  | .int x => .int x
  | .long x => .long x
  | .float x => .float x
  | .double x => .double x
  | .null => .null
  | .retAddr x => .retAddr x
def am_te (G : am_G) (cy : Nat → ClassId) (e : am_E) : va_E := match e with
  | .inl a => .inl (cy a.1, a.2)
  | .inr o => .inr (o.1, o.2.map (am_tv G))
def am_ws (G : am_G) (cy : Nat → ClassId) (h : am_H) : va_W := h.mapIdx (fun i e => (G.1 + i, am_te G cy e))
abbrev am_A (G : am_G) : Nat → Prop := fun q => G.1 ≤ q
abbrev am_tys (cy : Nat → ClassId) : List (ClassId × FieldType) := [(cy 0, .byte), (cy 1, .int), (cy 2, .long), (cy 3, .short), (cy 4, .boolean)]
theorem am_ad_lt {G : am_G} {i : Nat} (h : i < 1000000) : am_ad G i = G.1 + i := by
  have h1 : Nat.beq i 1000000 = false := by
    cases hc : Nat.beq i 1000000 with
    | false => rfl
    | true => exact absurd (Nat.eq_of_beq_eq_true hc) (by omega)
  have h2 : Nat.beq i 1000001 = false := by
    cases hc : Nat.beq i 1000001 with
    | false => rfl
    | true => exact absurd (Nat.eq_of_beq_eq_true hc) (by omega)
  simp [am_ad, h1, h2]
theorem am_tv_cat (G : am_G) (v : Value) : (am_tv G v).category = v.category := by cases v <;> rfl
theorem am_cat_sum (G : am_G) (st : List Value) : ((st.map (am_tv G)).map fun v => v.category).sum = (st.map fun v => v.category).sum := by
  rw [List.map_map]
  congr 1
  apply List.map_congr_left
  intro v _
  exact am_tv_cat G v
theorem am_tv_fits (G : am_G) (ty : FieldType) (v : Value) (h : fits ty v = true) : fits ty (am_tv G v) = true := by
  cases v <;> cases ty <;> first | exact h | rfl | (exact absurd h (by decide))
theorem am_tv_nar (G : am_G) (ty : FieldType) (v : Value) (h : narrow ty v = v) : narrow ty (am_tv G v) = am_tv G v := by
  cases v <;> cases ty <;> first | exact h | rfl
theorem am_ws_get {G : am_G} {cy : Nat → ClassId} {h : am_H} {a : Nat} {e : am_E} (he : h[a]? = some e) : (am_ws G cy h)[a]? = some (G.1 + a, am_te G cy e) := by
  unfold am_ws
  rw [List.getElem?_mapIdx, he]
  rfl
theorem am_ws_len {G : am_G} {cy : Nat → ClassId} {h : am_H} : (am_ws G cy h).length = h.length := by unfold am_ws; exact List.length_mapIdx
theorem am_ws_inv {G : am_G} {cy : Nat → ClassId} {h : am_H} {a : Nat} {q : Nat × va_E} (hq : (am_ws G cy h)[a]? = some q) : q.1 = G.1 + a := by
  unfold am_ws at hq
  rw [List.getElem?_mapIdx] at hq
  cases hh : h[a]? with
  | none => rw [hh] at hq; cases hq
  | some e => rw [hh] at hq; cases hq; rfl
theorem am_ws_set {G : am_G} {cy : Nat → ClassId} {h : am_H} {a : Nat} {e : am_E} : (am_ws G cy h).set a (G.1 + a, am_te G cy e) = am_ws G cy (h.set a e) := by
  apply List.ext_getElem?
  intro k
  rw [List.getElem?_set]
  unfold am_ws
  rw [List.getElem?_mapIdx, List.getElem?_mapIdx, List.getElem?_set, List.length_mapIdx]
  by_cases hk : a = k
  · subst hk
    by_cases hl : a < h.length <;> simp [hl]
  · simp [hk]
theorem am_ws_push {G : am_G} {cy : Nat → ClassId} {h : am_H} {e : am_E} : am_ws G cy h ++ [(G.1 + h.length, am_te G cy e)] = am_ws G cy (h ++ [e]) := by
  unfold am_ws
  rw [List.mapIdx_append]
  simp
theorem am_D {G : am_G} {cy : Nat → ClassId} {h : am_H} : va_D (am_A G) (am_ws G cy h) := by
  refine ⟨fun i j p q hi hj e => ?_, fun k q hk => ?_⟩
  · have h1 := am_ws_inv hi
    have h2 := am_ws_inv hj
    omega
  · have h1 := am_ws_inv hk
    show G.1 ≤ q.1
    omega
theorem am_obj_inv {h : am_H} {a ci : Nat} {fs : List Value} (e : am_obj h a ci = some fs) : a < 1000000 ∧ h[a]? = some (.inr (ci, fs)) := by
  unfold am_obj at e
  cases hb : Nat.blt a 1000000 with
  | false => rw [hb] at e; cases e
  | true =>
    rw [hb] at e
    refine ⟨by simpa [Nat.blt_eq] using hb, ?_⟩
    simp only [cond_true] at e
    split at e
    · rename_i o ho
      cases hc : Nat.beq o.1 ci with
      | false => rw [hc] at e; cases e
      | true =>
        rw [hc] at e
        cases e
        have := Nat.eq_of_beq_eq_true hc
        subst this
        exact ho
    · cases e
theorem am_ari_inv {h : am_H} {a t : Nat} {x : Nat × (Nat → Int32)} (e : am_ari h a t = some x) : a < 1000000 ∧ h[a]? = some (.inl (t, x.1, .inl x.2)) := by
  unfold am_ari at e
  cases hb : Nat.blt a 1000000 with
  | false => rw [hb] at e; cases e
  | true =>
    rw [hb] at e
    refine ⟨by simpa [Nat.blt_eq] using hb, ?_⟩
    simp only [cond_true] at e
    split at e
    · rename_i t2 n f ho
      obtain ⟨h1, h2⟩ := am_cond_inv e
      have := Nat.eq_of_beq_eq_true h1
      subst this
      subst h2
      exact ho
    · cases e
theorem am_arl_inv {h : am_H} {a t : Nat} {x : Nat × (Nat → Int64)} (e : am_arl h a t = some x) : a < 1000000 ∧ h[a]? = some (.inl (t, x.1, .inr (.inl x.2))) := by
  unfold am_arl at e
  cases hb : Nat.blt a 1000000 with
  | false => rw [hb] at e; cases e
  | true =>
    rw [hb] at e
    refine ⟨by simpa [Nat.blt_eq] using hb, ?_⟩
    simp only [cond_true] at e
    split at e
    · rename_i t2 n f ho
      obtain ⟨h1, h2⟩ := am_cond_inv e
      have := Nat.eq_of_beq_eq_true h1
      subst this
      subst h2
      exact ho
    · cases e
theorem am_in_ok {i : Int32} {n : Nat} (h : am_in i n = true) : vp_in i n := by
  unfold am_in at h
  simp only [Bool.and_eq_true, Bool.not_eq_true', decide_eq_false_iff_not, Nat.blt_eq] at h
  intro q
  rcases q with q | q
  · exact h.1 q
  · omega
-- locals
def am_lv (G : am_G) (ls : Array Slot) (nL : Nat) (lv : List (Option Value)) : Prop := lv.length = nL ∧ ls.size = nL ∧ lv_wf ls ∧ ∀ (i : Nat) (v : Value), lv[i]? = some (some v) → ls[i]? = some (.val (am_tv G v))
def am_asc (G : am_G) (lv : List (Option Value)) : List (Nat × Value) := lv.zipIdx.filterMap (fun q => q.1.map (fun v => (q.2, am_tv G v)))
theorem am_asc_mem {G : am_G} {lv : List (Option Value)} {q : Nat × Value} : q ∈ am_asc G lv ↔ ∃ v, lv[q.1]? = some (some v) ∧ q.2 = am_tv G v := by
  unfold am_asc
  rw [List.mem_filterMap]
  constructor
  · rintro ⟨⟨o, i⟩, ho, hq⟩
    rw [List.mem_zipIdx_iff_getElem?] at ho
    cases o with
    | none => cases hq
    | some v => cases hq; exact ⟨v, ho, rfl⟩
  · rintro ⟨v, hv, hq⟩
    refine ⟨(some v, q.1), List.mem_zipIdx_iff_getElem?.mpr hv, ?_⟩
    obtain ⟨q1, q2⟩ := q
    simp only at hq
    subst hq
    rfl
theorem am_lv.has {G : am_G} {ls : Array Slot} {nL : Nat} {lv : List (Option Value)} (h : am_lv G ls nL lv) : lv_has ls nL (am_asc G lv) := by
  refine ⟨h.2.1, h.2.2.1, fun q hq => ?_⟩
  obtain ⟨v, hv, e⟩ := am_asc_mem.mp hq
  rw [e]
  exact h.2.2.2 _ _ hv
theorem am_kill_len (lv : List (Option Value)) (i : Nat) : (am_kill lv i).length = lv.length := by
  unfold am_kill
  split
  · rfl
  · split <;> simp
theorem am_kill_get {lv : List (Option Value)} {i j : Nat} {w : Value} (h : (am_kill lv i)[j]? = some (some w)) : lv[j]? = some (some w) ∧ (j + 1 = i → w.category ≠ 2) := by
  cases i with
  | zero => exact ⟨h, fun q => by omega⟩
  | succ k =>
    unfold am_kill at h
    simp only at h
    by_cases hj : k = j
    · subst hj
      split at h
      · rw [List.getElem?_set] at h
        simp at h
      · rw [List.getElem?_set] at h
        simp at h
      · rename_i h1 h2
        refine ⟨h, fun _ hc => ?_⟩
        cases w with
        | long x => exact h1 x h
        | double x => exact h2 x h
        | _ => simp [Value.category] at hc
    · have h3 : lv[j]? = some (some w) := by
        split at h
        · rw [List.getElem?_set_ne hj] at h; exact h
        · rw [List.getElem?_set_ne hj] at h; exact h
        · exact h
      exact ⟨h3, fun q => by omega⟩
theorem am_set1 {G : am_G} {ls' : Array Slot} {nL i : Nat} {lv : List (Option Value)} {v : Value} (hn : lv.length = nL) (h : lv_has ls' nL ((i, am_tv G v) :: (am_asc G lv).filter (fun q => !(q.1 == i) && !(q.1 + 1 == i && q.2.category == 2)))) : am_lv G ls' nL (am_lset1 lv i v) := by
  refine ⟨by unfold am_lset1; rw [am_kill_len, List.length_set]; exact hn, h.1, h.2.1, fun j w hj => ?_⟩
  obtain ⟨h1, h2⟩ := am_kill_get hj
  by_cases hji : i = j
  · subst hji
    rw [List.getElem?_set] at h1
    by_cases hl : i < lv.length
    · simp [hl] at h1
      subst h1
      exact h.2.2 _ (List.mem_cons_self ..)
    · simp [hl] at h1
  · rw [List.getElem?_set_ne hji] at h1
    refine h.2.2 (j, am_tv G w) (List.mem_cons_of_mem _ (List.mem_filter.mpr ⟨am_asc_mem.mpr ⟨w, h1, rfl⟩, ?_⟩))
    simp only [Bool.and_eq_true, Bool.not_eq_true', beq_eq_false_iff_ne, ne_eq]
    refine ⟨fun e => hji e.symm, ?_⟩
    by_cases hq : j + 1 = i
    · have := h2 hq
      simp [hq, am_tv_cat, this]
    · simp [hq]
theorem am_set2 {G : am_G} {ls' : Array Slot} {nL i : Nat} {lv : List (Option Value)} {v : Value} (hn : lv.length = nL) (h : lv_has ls' nL ((i, am_tv G v) :: (am_asc G lv).filter (fun q => !(q.1 == i) && (!(q.1 == i + 1) && !(q.1 + 1 == i && q.2.category == 2))))) : am_lv G ls' nL (am_lset2 lv i v) := by
  refine ⟨by unfold am_lset2; rw [am_kill_len, List.length_set, List.length_set]; exact hn, h.1, h.2.1, fun j w hj => ?_⟩
  obtain ⟨h1, h2⟩ := am_kill_get hj
  by_cases hj1 : i + 1 = j
  · subst hj1
    rw [List.getElem?_set] at h1
    simp at h1
  · rw [List.getElem?_set_ne hj1] at h1
    by_cases hji : i = j
    · subst hji
      rw [List.getElem?_set] at h1
      by_cases hl : i < lv.length
      · simp [hl] at h1
        subst h1
        exact h.2.2 _ (List.mem_cons_self ..)
      · simp [hl] at h1
    · rw [List.getElem?_set_ne hji] at h1
      refine h.2.2 (j, am_tv G w) (List.mem_cons_of_mem _ (List.mem_filter.mpr ⟨am_asc_mem.mpr ⟨w, h1, rfl⟩, ?_⟩))
      simp only [Bool.and_eq_true, Bool.not_eq_true', beq_eq_false_iff_ne, ne_eq]
      refine ⟨fun e => hji e.symm, fun e => hj1 e.symm, ?_⟩
      by_cases hq : j + 1 = i
      · have := h2 hq
        simp [hq, am_tv_cat, this]
      · simp [hq]
theorem am_lget_inv {lv : List (Option Value)} {i : Nat} {v : Value} (h : am_lget lv i = some v) : lv[i]? = some (some v) := by
  unfold am_lget at h
  split at h
  · cases h; assumption
  · cases h
