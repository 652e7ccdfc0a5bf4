/-! ===== bounds: branches ===== -/
def ab_cnd (N : ab_N) (F : List ab_T) (c : Jvm.ClassFile.Cond) (t u : ab_T) : List ab_T := match c with
  | .eq => [ab_sub t u, ab_sub u t]
  | .ne => bif ab_ge N F (ab_sub t u) then [ab_add (ab_sub t u) (-1, [])] else bif ab_ge N F (ab_sub u t) then [ab_add (ab_sub u t) (-1, [])] else []
  | .lt => [ab_add (ab_sub u t) (-1, [])]
  | .ge => [ab_sub t u]
  | .gt => [ab_add (ab_sub t u) (-1, [])]
  | .le => [ab_sub u t]
def ab_not (c : Jvm.ClassFile.Cond) : Jvm.ClassFile.Cond := match c with
  | .eq => .ne
  | .ne => .eq
  | .lt => .ge
  | .ge => .lt
  | .gt => .le
  | .le => .gt
theorem ab_not_ok (c : Jvm.ClassFile.Cond) (x y : Int32) (h : am_cmp c x y = false) : am_cmp (ab_not c) x y = true := by
  cases c <;> simp only [am_cmp, ab_not, Bool.not_eq_false', Bool.not_eq_true', decide_eq_false_iff_not, decide_eq_true_eq] at h ⊢
  · exact h
  · exact h
  · exact Int32.not_lt.mp h
  · exact Int32.not_le.mp h
  · exact Int32.not_lt.mp h
  · exact Int32.not_le.mp h
theorem ab_cnd_ok {ro : List Int} {N : ab_N} {F : List ab_T} (hN : ab_env ro N) (hF : ab_F ro F) {c : Jvm.ClassFile.Cond} {t u : ab_T} {x y : Int32} (ht : ab_ev ro t = some x.toInt) (hu : ab_ev ro u = some y.toInt) (h : am_cmp c x y = true) : ab_F ro (ab_cnd N F c t u) := by
  have htu := ab_sub_ok ht hu
  have hut := ab_sub_ok hu ht
  have htu1 := ab_add_ok htu (ab_ev_k ro (-1))
  have hut1 := ab_add_ok hut (ab_ev_k ro (-1))
  have one : ∀ {f : ab_T} {z : Int}, ab_ev ro f = some z → 0 ≤ z → ab_F ro [f] := fun {f z} e1 e2 g hg => by
    rw [List.mem_singleton] at hg
    subst hg
    exact ⟨z, e1, e2⟩
  cases c <;> simp only [am_cmp, Bool.not_eq_true', decide_eq_false_iff_not, decide_eq_true_eq] at h <;> unfold ab_cnd <;> simp only
  · subst h
    intro g hg
    simp only [List.mem_cons, List.not_mem_nil, or_false] at hg
    rcases hg with rfl | rfl
    · exact ⟨_, htu, by omega⟩
    · exact ⟨_, hut, by omega⟩
  · have hne : x.toInt ≠ y.toInt := fun e => h (Int32.toInt_inj.mp e)
    cases h1 : ab_ge N F (ab_sub t u) with
    | true =>
      have := ab_ge_ok hN hF htu h1
      exact one htu1 (by omega)
    | false =>
      simp only [cond_false]
      cases h2 : ab_ge N F (ab_sub u t) with
      | true =>
        have := ab_ge_ok hN hF hut h2
        exact one hut1 (by omega)
      | false => exact fun g hg => by cases hg
  · have := Int32.lt_iff_toInt_lt.mp h
    exact one hut1 (by omega)
  · have := Int32.le_iff_toInt_le.mp h
    exact one htu (by omega)
  · have := Int32.lt_iff_toInt_lt.mp h
    exact one htu1 (by omega)
  · have := Int32.le_iff_toInt_le.mp h
    exact one hut (by omega)
abbrev ab_2 : Type := Nat × List ab_V × ab_N × List ab_T
def ab_to (t : Nat) (st : List ab_V) (N : ab_N) (F : List ab_T) (l : List ab_T) : List ab_2 := match ab_asms N F l with
  | some (N2, F2) => [(t, st, N2, F2)]
  | none => []
/-- what a branch must show -/
def ab_S2 (ro : List Int) (e : Option (Nat × List Value)) (l : List ab_2) : Prop := ∃ q ∈ l, ∃ st2, e = some (q.1, st2) ∧ ab_st ro q.2.1 st2 ∧ ab_env ro q.2.2.1 ∧ ab_F ro q.2.2.2
theorem ab_to_ok {ro : List Int} {N : ab_N} {F l : List ab_T} {e : Option (Nat × List Value)} {t : Nat} {st : List ab_V} {stc : List Value} (hN : ab_env ro N) (hF : ab_F ro F) (hl : ab_F ro l) (hs : ab_st ro st stc) (he : e = some (t, stc)) : ab_S2 ro e (ab_to t st N F l) := by
  obtain ⟨⟨N2, F2⟩, h1, h2, h3⟩ := ab_asms_ok l N F hN hF hl
  refine ⟨(t, st, N2, F2), ?_, stc, he, hs, h2, h3⟩
  unfold ab_to
  rw [h1]
  exact List.mem_singleton.mpr rfl
def ab_sw (pc : Nat) (st : List ab_V) (N : ab_N) (F : List ab_T) (x : ab_T) (lo : Int) : List Int → Nat → Option (List ab_2)
  | [], _ => some []
  | off :: r, j => match am_tg pc off, ab_sw pc st N F x lo r (j + 1) with
    | some t, some l => some (ab_to t st N F [ab_sub x (lo + (j : Int), []), ab_sub (lo + (j : Int), []) x] ++ l)
    | _, _ => none
/-- as am_s2 -/
def ab_s2 (i : am_I) (pc : Nat) (st : List ab_V) (N : ab_N) (F : List ab_T) : Option (List ab_2) := match i with
  | .goto off => match am_tg pc off with
    | some t => some [(t, st, N, F)]
    | none => none
  | .ifCond c off => match st with
    | .inl x :: r => match am_tg pc off with
      | some t => some (ab_to t r N F (ab_cnd N F c x (0, [])) ++ ab_to (pc + 3) r N F (ab_cnd N F (ab_not c) x (0, [])))
      | none => none
    | _ => none
  | .if_icmp c off => match st with
    | .inl y :: .inl x :: r => match am_tg pc off with
      | some t => some (ab_to t r N F (ab_cnd N F c x y) ++ ab_to (pc + 3) r N F (ab_cnd N F (ab_not c) x y))
      | none => none
    | _ => none
  | .tableswitch d lo hi offs => match st with
    | .inl x :: r => match am_tg pc d, ab_sw pc r N F x lo offs.toList 0 with
      | some t, some l => bif decide (hi < lo + (offs.toList.length : Int)) then some (ab_to t r N F [ab_sub (lo - 1, []) x] ++ ab_to t r N F [ab_sub x (hi + 1, [])] ++ l) else none
      | _, _ => none
    | _ => none
  | _ => none
theorem ab_S2.l {ro : List Int} {e : Option (Nat × List Value)} {l m : List ab_2} (h : ab_S2 ro e l) : ab_S2 ro e (l ++ m) := by
  obtain ⟨q, h1, h2⟩ := h
  exact ⟨q, List.mem_append_left _ h1, h2⟩
theorem ab_S2.r {ro : List Int} {e : Option (Nat × List Value)} {l m : List ab_2} (h : ab_S2 ro e m) : ab_S2 ro e (l ++ m) := by
  obtain ⟨q, h1, h2⟩ := h
  exact ⟨q, List.mem_append_right _ h1, h2⟩
theorem ab_sw_ok {ro : List Int} {N : ab_N} {F : List ab_T} (hN : ab_env ro N) (hF : ab_F ro F) {pc : Nat} {st : List ab_V} {stc : List Value} (hs : ab_st ro st stc) {x : ab_T} {z lo : Int} (hx : ab_ev ro x = some z) : ∀ (offs : List Int) (j : Nat) (l : List ab_2) (k : Nat) (off : Int), ab_sw pc st N F x lo offs j = some l → offs[k]? = some off → z = lo + ((j + k : Nat) : Int) → ab_S2 ro ((am_tg pc off).map (fun t => (t, stc))) l := by
  intro offs
  induction offs with
  | nil => intro j l k off h hk; simp at hk
  | cons o r ih =>
    intro j l k off h hk hz
    unfold ab_sw at h
    split at h
    · rename_i t l2 ht hl2
      cases h
      cases k with
      | zero =>
        cases hk
        refine ab_S2.l (ab_to_ok hN hF ?_ hs (by rw [ht]; rfl))
        intro g hg
        simp only [List.mem_cons, List.not_mem_nil, or_false] at hg
        rcases hg with rfl | rfl
        · exact ⟨_, ab_sub_ok hx (ab_ev_k ro _), by rw [hz]; simp⟩
        · exact ⟨_, ab_sub_ok (ab_ev_k ro _) hx, by rw [hz]; simp⟩
      | succ k =>
        refine ab_S2.r (ih (j + 1) l2 k off hl2 hk ?_)
        rw [hz]
        congr 2
        omega
    · cases h
theorem ab_s2_ok {ro : List Int} {N : ab_N} {F : List ab_T} {i : am_I} {pc : Nat} {st : List ab_V} {stc : List Value} {l : List ab_2} (hN : ab_env ro N) (hF : ab_F ro F) (hs : ab_st ro st stc) (h : ab_s2 i pc st N F = some l) : ab_S2 ro (am_s2 i pc stc) l := by
  cases i
  case goto off =>
    unfold ab_s2 at h
    simp only at h
    split at h
    · rename_i t ht
      cases h
      refine ⟨_, List.mem_singleton.mpr rfl, stc, ?_, hs, hN, hF⟩
      show (am_tg pc off).map (fun t => (t, stc)) = _
      rw [ht]
      rfl
    · cases h
  case ifCond c off =>
    unfold ab_s2 at h
    simp only at h
    split at h
    · split at h
      · rename_i x r t ht
        cases h
        obtain ⟨w, C, rfl, h1, h2⟩ := ab_st_cons hs
        obtain ⟨a, rfl, ha⟩ := ab_v_int h1
        have h0 : ab_ev ro (0, []) = some (0 : Int32).toInt := ab_ev_k ro 0
        cases hc : am_cmp c a 0 with
        | true =>
          refine ab_S2.l (ab_to_ok hN hF (ab_cnd_ok hN hF ha h0 hc) h2 ?_)
          show (am_tg pc off).map (fun t => (bif am_cmp c a 0 then t else pc + 3, C)) = _
          rw [ht, hc]
          rfl
        | false =>
          refine ab_S2.r (ab_to_ok hN hF (ab_cnd_ok hN hF ha h0 (ab_not_ok _ _ _ hc)) h2 ?_)
          show (am_tg pc off).map (fun t => (bif am_cmp c a 0 then t else pc + 3, C)) = _
          rw [ht, hc]
          rfl
      · cases h
    · cases h
  case if_icmp c off =>
    unfold ab_s2 at h
    simp only at h
    split at h
    · split at h
      · rename_i y x r t ht
        cases h
        obtain ⟨w, C, rfl, h1, h2⟩ := ab_st_cons hs
        obtain ⟨w2, C2, rfl, h3, h4⟩ := ab_st_cons h2
        obtain ⟨b, rfl, hb⟩ := ab_v_int h1
        obtain ⟨a, rfl, ha⟩ := ab_v_int h3
        cases hc : am_cmp c a b with
        | true =>
          refine ab_S2.l (ab_to_ok hN hF (ab_cnd_ok hN hF ha hb hc) h4 ?_)
          show (am_tg pc off).map (fun t => (bif am_cmp c a b then t else pc + 3, C2)) = _
          rw [ht, hc]
          rfl
        | false =>
          refine ab_S2.r (ab_to_ok hN hF (ab_cnd_ok hN hF ha hb (ab_not_ok _ _ _ hc)) h4 ?_)
          show (am_tg pc off).map (fun t => (bif am_cmp c a b then t else pc + 3, C2)) = _
          rw [ht, hc]
          rfl
      · cases h
    · cases h
  case tableswitch d lo hi offs =>
    unfold ab_s2 at h
    simp only at h
    split at h
    · split at h
      · rename_i x r t l2 ht hl2
        obtain ⟨hb, h⟩ := ab_cb h
        have hb := of_decide_eq_true hb
        cases h
        obtain ⟨w, C, rfl, h1, h2⟩ := ab_st_cons hs
        obtain ⟨a, rfl, ha⟩ := ab_v_int h1
        have one : ∀ {f : ab_T} {z : Int}, ab_ev ro f = some z → 0 ≤ z → ab_F ro [f] := fun {f z} e1 e2 g hg => by
          rw [List.mem_singleton] at hg
          subst hg
          exact ⟨z, e1, e2⟩
        have e0 : am_s2 (.tableswitch d lo hi offs) pc (.int a :: C) = (bif decide (a.toInt < lo) || decide (hi < a.toInt) then (am_tg pc d).map (fun t => (t, C)) else match offs[(a.toInt - lo).toNat]? with
          | some off => (am_tg pc off).map (fun t => (t, C))
          | none => none) := rfl
        rw [e0]
        by_cases c1 : a.toInt < lo
        · refine ab_S2.l (ab_S2.l (ab_to_ok hN hF (one (ab_sub_ok (ab_ev_k ro (lo - 1)) ha) (by omega)) h2 ?_))
          rw [decide_eq_true c1, ht]
          rfl
        · by_cases c2 : hi < a.toInt
          · refine ab_S2.l (ab_S2.r (ab_to_ok hN hF (one (ab_sub_ok ha (ab_ev_k ro (hi + 1))) (by omega)) h2 ?_))
            rw [decide_eq_true c2, decide_eq_false c1, ht]
            rfl
          · rw [decide_eq_false c1, decide_eq_false c2]
            simp only [Bool.or_self, cond_false]
            have hk : (a.toInt - lo).toNat < offs.toList.length := by omega
            have hk2 : offs.toList[(a.toInt - lo).toNat]? = some (offs.toList[(a.toInt - lo).toNat]) := List.getElem?_eq_getElem hk
            have hk3 : offs[(a.toInt - lo).toNat]? = some (offs.toList[(a.toInt - lo).toNat]) := by
              rw [← hk2, Array.getElem?_toList]
            rw [hk3]
            refine ab_S2.r (ab_sw_ok hN hF h2 ha offs.toList 0 l2 (a.toInt - lo).toNat _ hl2 hk2 ?_)
            omega
      · cases h
    · cases h
  all_goals cases h
/-! ===== bounds: cells ===== -/
abbrev ab_W : Type := (Int × Int) ⊕ (Unit ⊕ List Nat)
/-- a cell's kind: an array (type, length, least, greatest, greatest rest by 512), or an object (its number, fields) -/
abbrev ab_D : Type := (Nat × Nat × Int × Int × Int) ⊕ (Nat × List ab_W)
def ab_w (w : ab_W) (v : Value) : Prop := match w, v with
  | .inl (lo, hi), .int x => lo ≤ x.toInt ∧ x.toInt ≤ hi
  | .inr (.inl _), .long _ => True
  | .inr (.inr l), .ref a => a ∈ l
  | _, _ => False
def ab_e (d : ab_D) (e : am_E) : Prop := match d with
  | .inl (t, n, lo, hi, m) => (t ≠ 2 ∧ ∃ f, e = .inl (t, n, .inl f) ∧ ∀ j, j < n → ab_in (f j).toInt (lo, hi, m)) ∨ (t = 2 ∧ ∃ f, e = .inl (2, n, .inr (.inl f)))
  | .inr (c, ws) => ∃ fs, e = .inr (c, fs) ∧ fs.length = ws.length ∧ ∀ (k : Nat) (w : ab_W) (v : Value), ws[k]? = some w → fs[k]? = some v → ab_w w v
def ab_hok (D : List ab_D) (h : am_H) : Prop := h.length = D.length ∧ ∀ (a : Nat) (d : ab_D) (e : am_E), D[a]? = some d → h[a]? = some e → ab_e d e
/-- an int or a reference in a cell -/
def ab_cell (h : am_H) (a : Nat) (j : Int) : Option Value := match h[a]? with
  | some (.inl (_, n, .inl f)) => bif decide (0 ≤ j) && Nat.blt j.toNat n then some (.int (f j.toNat)) else none
  | some (.inr (_, fs)) => bif decide (0 ≤ j) then fs[j.toNat]? else none
  | _ => none
abbrev ab_O : Type := List (Nat × ab_T × ab_V)
def ab_ov (ro : List Int) (h : am_H) (o : ab_O) : Prop := ∀ q ∈ o, ∃ j w, ab_ev ro q.2.1 = some j ∧ ab_cell h q.1 j = some w ∧ ab_v ro q.2.2 w
theorem ab_ov_mono {ro ro2 : List Int} {h : am_H} {o : ab_O} (ho : ab_ov ro h o) : ab_ov (ro ++ ro2) h o := fun q hq => by
  obtain ⟨j, w, h1, h2, h3⟩ := ho q hq
  exact ⟨j, w, ab_ev_mono h1, h2, ab_v_mono h3⟩
def ab_find (N : ab_N) (a : Nat) (t : ab_T) : ab_O → Option ab_V
  | [] => none
  | (b, u, v) :: r => bif Nat.beq a b && ab_eqt N [] t u then some v else ab_find N a t r
theorem ab_find_ok {ro : List Int} {N : ab_N} {h : am_H} (hN : ab_env ro N) {a : Nat} {t : ab_T} {j : Int} (ht : ab_ev ro t = some j) : ∀ (o : ab_O) (v : ab_V), ab_ov ro h o → ab_find N a t o = some v → ∃ w, ab_cell h a j = some w ∧ ab_v ro v w := by
  intro o
  induction o with
  | nil => intro v _ h2; cases h2
  | cons q r ih =>
    intro v h1 h2
    obtain ⟨b, u, v2⟩ := q
    unfold ab_find at h2
    cases hb : (Nat.beq a b && ab_eqt N [] t u) with
    | true =>
      rw [hb] at h2
      cases h2
      rw [Bool.and_eq_true] at hb
      have := Nat.eq_of_beq_eq_true hb.1
      subst this
      obtain ⟨j2, w, g1, g2, g3⟩ := h1 (a, u, v) List.mem_cons_self
      have hj := ab_eqt_ok hN (F := []) (fun f hf => by cases hf) ht g1 hb.2
      subst hj
      exact ⟨w, g2, g3⟩
    | false =>
      rw [hb] at h2
      exact ih v (fun q hq => h1 q (List.mem_cons_of_mem _ hq)) h2
theorem ab_hok_get {D : List ab_D} {h : am_H} (hh : ab_hok D h) {a : Nat} {d : ab_D} (hd : D[a]? = some d) : ∃ e, h[a]? = some e ∧ ab_e d e := by
  have hl : a < h.length := by rw [hh.1]; exact (List.getElem?_eq_some_iff.mp hd).1
  exact ⟨h[a], List.getElem?_eq_getElem hl, hh.2 a d _ hd (List.getElem?_eq_getElem hl)⟩
/-- an object of the kind -/
theorem ab_hok_obj {D : List ab_D} {h : am_H} (hh : ab_hok D h) {a c : Nat} {ws : List ab_W} (hd : D[a]? = some (.inr (c, ws))) (ha : Nat.blt a 1000000 = true) : ∃ fs, h[a]? = some (.inr (c, fs)) ∧ am_obj h a c = some fs ∧ fs.length = ws.length ∧ ∀ (k : Nat) (w : ab_W) (v : Value), ws[k]? = some w → fs[k]? = some v → ab_w w v := by
  obtain ⟨e, h1, h2⟩ := ab_hok_get hh hd
  obtain ⟨fs, rfl, h3, h4⟩ := h2
  refine ⟨fs, h1, ?_, h3, h4⟩
  unfold am_obj
  rw [ha, h1]
  simp only [cond_true, show Nat.beq c c = true from Nat.beq_refl c]
theorem ab_hok_ari {D : List ab_D} {h : am_H} (hh : ab_hok D h) {a t n : Nat} {lo hi m : Int} (hd : D[a]? = some (.inl (t, n, lo, hi, m))) (h2 : Nat.beq t 2 = false) (ha : Nat.blt a 1000000 = true) : ∃ f, h[a]? = some (.inl (t, n, .inl f)) ∧ am_ari h a t = some (n, f) ∧ ∀ j, j < n → ab_in (f j).toInt (lo, hi, m) := by
  obtain ⟨e, h1, h3⟩ := ab_hok_get hh hd
  rcases h3 with ⟨-, f, rfl, h4⟩ | ⟨h5, -⟩
  · refine ⟨f, h1, ?_, h4⟩
    unfold am_ari
    rw [ha, h1]
    simp only [cond_true, show Nat.beq t t = true from Nat.beq_refl t]
  · rw [h5] at h2
    cases h2
theorem ab_hok_arl {D : List ab_D} {h : am_H} (hh : ab_hok D h) {a n : Nat} {lo hi m : Int} (hd : D[a]? = some (.inl (2, n, lo, hi, m))) (ha : Nat.blt a 1000000 = true) : ∃ f, h[a]? = some (.inl (2, n, .inr (.inl f))) ∧ am_arl h a 2 = some (n, f) := by
  obtain ⟨e, h1, h3⟩ := ab_hok_get hh hd
  rcases h3 with ⟨h5, -⟩ | ⟨-, f, rfl⟩
  · exact absurd rfl h5
  · refine ⟨f, h1, ?_⟩
    unfold am_arl
    rw [ha, h1]
    rfl
