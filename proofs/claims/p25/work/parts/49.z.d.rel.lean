/-! ===== what both sides keep alike: tape, rules, year, values, book, types, store ===== -/
/-- two states agree on fields, int arrays, long arrays -/
def sg_ag (LF : List (Nat × Nat)) (LA LL : List Nat) (s s2 : sg_S) : Prop := (∀ q ∈ LF, s2.1 q.1 q.2 = s.1 q.1 q.2) ∧ (∀ a ∈ LA, s2.2.2.1 a = s.2.2.1 a) ∧ ∀ a ∈ LL, s2.2.2.2.1 a = s.2.2.2.1 a
section AG
variable {LF LF2 : List (Nat × Nat)} {LA LA2 LL LL2 : List Nat} {s s1 s2 : sg_S}
theorem sg_ag.i (h : sg_ag LF LA LL s s2) {a k : Nat} (hm : (LF.contains (a, k)) = true) : s2.1 a k = s.1 a k := h.1 (a, k) (List.contains_iff_mem.mp hm)
theorem sg_ag.a (h : sg_ag LF LA LL s s2) {a : Nat} (hm : (LA.contains a) = true) : s2.2.2.1 a = s.2.2.1 a := h.2.1 a (List.contains_iff_mem.mp hm)
theorem sg_ag.m (h : sg_ag LF LA LL s s2) {a : Nat} (hm : (LL.contains a) = true) : s2.2.2.2.1 a = s.2.2.2.1 a := h.2.2 a (List.contains_iff_mem.mp hm)
theorem sg_ag.tr (h : sg_ag LF LA LL s s1) (g : sg_ag LF LA LL s1 s2) : sg_ag LF LA LL s s2 := ⟨fun q hq => (g.1 q hq).trans (h.1 q hq), fun a ha => (g.2.1 a ha).trans (h.2.1 a ha), fun a ha => (g.2.2 a ha).trans (h.2.2 a ha)⟩
theorem sg_ag.le (h : sg_ag LF LA LL s s2) (h1 : (LF2.all (fun q => LF.contains q)) = true) (h2 : (LA2.all (fun q => LA.contains q)) = true) (h3 : (LL2.all (fun q => LL.contains q)) = true) : sg_ag LF2 LA2 LL2 s s2 := ⟨fun q hq => h.1 q (List.contains_iff_mem.mp (List.all_eq_true.mp h1 q hq)), fun a ha => h.2.1 a (List.contains_iff_mem.mp (List.all_eq_true.mp h2 a ha)), fun a ha => h.2.2 a (List.contains_iff_mem.mp (List.all_eq_true.mp h3 a ha))⟩
theorem sg_fr.ag {mo : List (Nat × Nat)} {ao : List Nat} (f : sg_fr mo ao s s2) (h1 : (LF.all (fun q => !mo.contains q)) = true) (h2 : (LA.all (fun q => !ao.contains q)) = true) (h3 : (LL.all (fun q => !ao.contains q)) = true) : sg_ag LF LA LL s s2 := ⟨fun q hq => f.i (by have := List.all_eq_true.mp h1 q hq; simpa using this), fun a ha => f.a (by have := List.all_eq_true.mp h2 a ha; simpa using this), fun a ha => f.m (by have := List.all_eq_true.mp h3 a ha; simpa using this)⟩
end AG
theorem sg_cI2 {s : sg_S} {a c k : Nat} {ws : List ab_W} {e : Int × Int} (hd : ab_D0[a]? = some (.inr (c, ws))) (hw : ws[k]? = some (.inl e)) : ab_cell (sg_h s) a (k : Int) = some (.int (s.1 a k)) := by
  have h1 : (sg_h s)[a]? = some (.inr (c, sg_ws s a 0 ws)) := by rw [sg_get, hd]; rfl
  rw [ab_cell_obj h1, sg_ws_get, hw, Nat.zero_add]
  rfl
/-- a contract's frame keeps these -/
def sg_agc (mo : ab_Mo) (LF : List (Nat × Nat)) (LA LL : List Nat) : Bool := LF.all (fun q => (match ab_D0[q.1]? with
    | some (.inr (_, ws)) => match ws[q.2]? with
      | some (.inl _) => true
      | _ => false
    | _ => false) && !ab_md mo q.1 (q.2 + 1)) && LA.all (fun a => (match ab_D0[a]? with
    | some (.inl (t, _)) => !Nat.beq t 2
    | _ => false) && mo.all (fun q => !Nat.beq q.1 a)) && LL.all (fun a => (match ab_D0[a]? with
    | some (.inl (t, _)) => Nat.beq t 2
    | _ => false) && mo.all (fun q => !Nat.beq q.1 a))
theorem sg_agc_ok {mo : ab_Mo} {LF : List (Nat × Nat)} {LA LL : List Nat} {s s2 : sg_S} (hc : sg_agc mo LF LA LL = true) (hf : ab_fr mo (sg_h s) (sg_h s2)) : sg_ag LF LA LL s s2 := by
  unfold sg_agc at hc
  rw [Bool.and_eq_true, Bool.and_eq_true] at hc
  obtain ⟨⟨c1, c2⟩, c3⟩ := hc
  refine ⟨fun q hq => ?_, fun a ha => ?_, fun a ha => ?_⟩
  · have h := List.all_eq_true.mp c1 q hq
    rw [Bool.and_eq_true, Bool.not_eq_true'] at h
    obtain ⟨h1, h2⟩ := h
    cases hd : ab_D0[q.1]? with
    | none => rw [hd] at h1; cases h1
    | some d =>
      rw [hd] at h1
      obtain ⟨t, n, lo, hi, m⟩ | ⟨c, ws⟩ := d
      · cases h1
      · simp only at h1
        cases hw : ws[q.2]? with
        | none => rw [hw] at h1; cases h1
        | some w =>
          rw [hw] at h1
          obtain e | (u | l) := w
          · have g1 : (sg_h s)[q.1]? = some (.inr (c, sg_ws s q.1 0 ws)) := by rw [sg_get, hd]; rfl
            have g2 : (sg_h s2)[q.1]? = some (.inr (c, sg_ws s2 q.1 0 ws)) := by rw [sg_get, hd]; rfl
            obtain ⟨fs2, e1, e2⟩ := hf.2 q.1 q.2 c _ (ab_md_not h2) g1
            rw [g2] at e1
            cases e1
            rw [sg_ws_get, sg_ws_get, hw, Nat.zero_add] at e2
            have e3 := Option.some.inj e2
            exact (Value.int.injEq _ _).mp e3
          · cases h1
          · cases h1
  · have h := List.all_eq_true.mp c2 a ha
    rw [Bool.and_eq_true] at h
    obtain ⟨h1, h2⟩ := h
    cases hd : ab_D0[a]? with
    | none => rw [hd] at h1; cases h1
    | some d =>
      rw [hd] at h1
      obtain ⟨t, n, lo, hi, m⟩ | ⟨c, ws⟩ := d
      · simp only [Bool.not_eq_true'] at h1
        have e := am_fr_get hf h2
        rw [sg_arr hd h1, sg_arr hd h1] at e
        exact Sum.inl.inj (Prod.mk.inj (Prod.mk.inj (Sum.inl.inj (Option.some.inj e))).2).2
      · cases h1
  · have h := List.all_eq_true.mp c3 a ha
    rw [Bool.and_eq_true] at h
    obtain ⟨h1, h2⟩ := h
    cases hd : ab_D0[a]? with
    | none => rw [hd] at h1; cases h1
    | some d =>
      rw [hd] at h1
      obtain ⟨t, n, lo, hi, m⟩ | ⟨c, ws⟩ := d
      · have h1 := Nat.eq_of_beq_eq_true h1
        subst h1
        have e := am_fr_get hf h2
        rw [sg_arl hd, sg_arl hd] at e
        exact Sum.inl.inj (Sum.inr.inj (Prod.mk.inj (Prod.mk.inj (Sum.inl.inj (Option.some.inj e))).2).2)
      · cases h1
/-- an array's range -/
theorem sg_rng {s : sg_S} {a t n : Nat} {lo hi m : Int} (hok : ab_hok ab_D0 (sg_h s)) (hd : ab_D0[a]? = some (.inl (t, n, lo, hi, m))) (ht : Nat.beq t 2 = false) : ∀ j : Nat, j < n → lo ≤ (s.2.2.1 a j).toInt ∧ (s.2.2.1 a j).toInt ≤ hi := by
  obtain ⟨e, he, hk⟩ := ab_hok_get hok hd
  rw [sg_arr hd ht] at he
  cases he
  rcases hk with ⟨-, f, e, hb⟩ | ⟨h, -⟩
  · cases e
    intro j hj
    have := hb j hj
    exact ⟨this.1, this.2.1⟩
  · rw [h] at ht
    cases ht
/-- a field's range -/
theorem sg_rgI {s : sg_S} {a c k : Nat} {ws : List ab_W} {lo hi : Int} (hok : ab_hok ab_D0 (sg_h s)) (hd : ab_D0[a]? = some (.inr (c, ws))) (hw : ws[k]? = some (.inl (lo, hi))) (ha : Nat.blt a 1000000 = true) : lo ≤ (s.1 a k).toInt ∧ (s.1 a k).toInt ≤ hi := by
  obtain ⟨n, n1, n2, n3⟩ := am_fld_int (k := k) (lo := lo) (hi := hi) hok hd hw ha
  rw [sg_cI2 hd hw] at n1
  have n1 := (Value.int.injEq _ _).mp (Option.some.inj n1)
  rw [n1]
  exact ⟨n2, n3⟩
def cm_A (s : sg_S) : Prop := ∃ (B : Nat → Int) (N : Nat), rx_K B N s ∧ rm_K B N s
def cm_B (s : sg_S) : Prop := ∃ T : rp_T, rp_ok T ∧ rx_RU T s ∧ rm_RU T s
def cm_C (s : sg_S) : Prop := s.1 18 0 = s.1 64 33
def cm_D (s : sg_S) : Prop := ∀ i, i < 64 → s.2.2.1 23 i = s.2.2.1 81 i
def cm_E (s : sg_S) : Prop := ∃ n : Nat, n ≤ 100 ∧ (s.1 18 1).toInt = (n : Int) ∧ (s.1 64 34).toInt = (n : Int) ∧ ∀ i, i < n → s.2.2.1 19 i = s.2.2.1 78 i ∧ s.2.2.1 20 i = s.2.2.1 79 i ∧ s.2.2.1 21 i = s.2.2.1 80 i
def cm_F (s : sg_S) : Prop := ∃ n : Nat, n ≤ 16 ∧ (s.1 35 3).toInt = (n : Int) ∧ (s.1 64 46).toInt = (n : Int) ∧ ∀ i, i < n → s.2.2.1 36 i = s.2.2.1 88 i
def cm_G (s : sg_S) : Prop := ∃ n : Nat, n ≤ 20 ∧ (s.1 58 4).toInt = (n : Int) ∧ (s.1 64 58).toInt = (n : Int) ∧ ∀ i, i < 3 * n → s.2.2.1 59 i = s.2.2.1 96 i
section CM
variable {s s2 : sg_S}
def cf_A : List (Nat × Nat) := [(8, 2), (64, 2)]
def ca_A : List Nat := [16, 65]
def cf_B : List (Nat × Nat) := [(1, 0), (1, 1), (1, 2), (1, 3), (1, 4), (64, 21), (64, 22), (64, 23), (64, 24), (64, 25)]
def ca_B : List Nat := [4, 5, 6, 7, 72, 73, 74, 75]
def cf_C : List (Nat × Nat) := [(18, 0), (64, 33)]
def ca_D : List Nat := [23, 81]
def cf_E : List (Nat × Nat) := [(18, 1), (64, 34)]
def ca_E : List Nat := [19, 20, 21, 78, 79, 80]
def cf_F : List (Nat × Nat) := [(35, 3), (64, 46)]
def ca_F : List Nat := [36, 88]
def cf_G : List (Nat × Nat) := [(58, 4), (64, 58)]
def ca_G : List Nat := [59, 96]
theorem cm_A.ag (h : cm_A s) (g : sg_ag cf_A ca_A [17] s s2) : cm_A s2 := by
  obtain ⟨B, N, h1, h2⟩ := h
  refine ⟨B, N, ?_, ?_⟩
  · unfold rx_K
    rw [g.i (a := 8) rfl, g.a (a := 16) rfl, g.m (a := 17) rfl]
    exact h1
  · unfold rm_K
    rw [g.i (a := 64) rfl, g.a (a := 65) rfl]
    exact h2
theorem cm_B.ag (h : cm_B s) (g : sg_ag cf_B ca_B [] s s2) : cm_B s2 := by
  obtain ⟨T, hT, h1, h2⟩ := h
  refine ⟨T, hT, ?_, ?_⟩
  · unfold rx_RU
    rw [g.i (a := 1) (k := 0) rfl, g.i (a := 1) (k := 1) rfl, g.i (a := 1) (k := 2) rfl, g.i (a := 1) (k := 3) rfl, g.i (a := 1) (k := 4) rfl, g.a (a := 4) rfl, g.a (a := 5) rfl, g.a (a := 6) rfl, g.a (a := 7) rfl]
    exact h1
  · unfold rm_RU
    rw [g.i (a := 64) (k := 21) rfl, g.i (a := 64) (k := 22) rfl, g.i (a := 64) (k := 23) rfl, g.i (a := 64) (k := 24) rfl, g.i (a := 64) (k := 25) rfl, g.a (a := 72) rfl, g.a (a := 73) rfl, g.a (a := 74) rfl, g.a (a := 75) rfl]
    exact h2
theorem cm_C.ag (h : cm_C s) (g : sg_ag cf_C [] [] s s2) : cm_C s2 := by
  unfold cm_C
  rw [g.i (a := 18) rfl, g.i (a := 64) rfl]
  exact h
theorem cm_D.ag (h : cm_D s) (g : sg_ag [] ca_D [] s s2) : cm_D s2 := by
  unfold cm_D
  rw [g.a (a := 23) rfl, g.a (a := 81) rfl]
  exact h
theorem cm_E.ag (h : cm_E s) (g : sg_ag cf_E ca_E [] s s2) : cm_E s2 := by
  unfold cm_E
  rw [g.i (a := 18) rfl, g.i (a := 64) rfl, g.a (a := 19) rfl, g.a (a := 20) rfl, g.a (a := 21) rfl, g.a (a := 78) rfl, g.a (a := 79) rfl, g.a (a := 80) rfl]
  exact h
theorem cm_F.ag (h : cm_F s) (g : sg_ag cf_F ca_F [] s s2) : cm_F s2 := by
  unfold cm_F
  rw [g.i (a := 35) rfl, g.i (a := 64) rfl, g.a (a := 36) rfl, g.a (a := 88) rfl]
  exact h
theorem cm_G.ag (h : cm_G s) (g : sg_ag cf_G ca_G [] s s2) : cm_G s2 := by
  unfold cm_G
  rw [g.i (a := 58) rfl, g.i (a := 64) rfl, g.a (a := 59) rfl, g.a (a := 96) rfl]
  exact h
def cm_ (s : sg_S) : Prop := cm_A s ∧ cm_B s ∧ cm_C s ∧ cm_D s ∧ cm_E s ∧ cm_F s ∧ cm_G s
def cf_ : List (Nat × Nat) := cf_A ++ cf_B ++ cf_C ++ cf_E ++ cf_F ++ cf_G
def ca_ : List Nat := ca_A ++ ca_B ++ ca_D ++ ca_E ++ ca_F ++ ca_G
theorem cm_.ag (h : cm_ s) (g : sg_ag cf_ ca_ [17] s s2) : cm_ s2 := by
  obtain ⟨hA, hB, hC, hD, hE, hF, hG⟩ := h
  exact ⟨hA.ag (g.le (by decide) (by decide) (by decide)), hB.ag (g.le (by decide) (by decide) (by decide)), hC.ag (g.le (by decide) (by decide) (by decide)), hD.ag (g.le (by decide) (by decide) (by decide)), hE.ag (g.le (by decide) (by decide) (by decide)), hF.ag (g.le (by decide) (by decide) (by decide)), hG.ag (g.le (by decide) (by decide) (by decide))⟩
end CM
def am_Rel (h : am_H) : Prop := ∃ s, h = sg_h s ∧ cm_ s
def am_Ip (h : am_H) : Prop := am_Iv h ∧ am_Rel h
theorem am_Rel.keep {mo : ab_Mo} {h h2 : am_H} (hr : am_Rel h) (hok2 : ab_hok ab_D0 h2) (hf : ab_fr mo h h2) (hm : sg_agc mo cf_ ca_ [17] = true) : am_Rel h2 := by
  obtain ⟨s, rfl, hc⟩ := hr
  have e := sg_of_ok hok2
  rw [e] at hf
  exact ⟨sg_of h2, e, hc.ag (sg_agc_ok hm hf)⟩
/-- a call by its word: the state behind it -/
theorem am_Do.sI {d mi : Nat} {as : List Value} {s : sg_S} {r : Int32} {h2 : am_H} {Ψ : Int32 → sg_S → Prop} (hd : am_Do false d mi as (sg_h s) (some (.int r), h2)) (hs : am_SpI mi as s Ψ) : ∃ s2, h2 = sg_h s2 ∧ Ψ r s2 := by
  obtain ⟨F, hc⟩ := hd
  obtain ⟨s2, q1, x, q2, q3⟩ := hs false F d _ (hc F (Nat.le_refl _))
  have q2 := (Value.int.injEq _ _).mp (Option.some.inj q2)
  subst q2
  exact ⟨s2, q1, q3⟩
def am_kwc (f : Nat → Int64) : Bool := (List.range 13).all (fun i => decide (f i = Int64.ofInt (rd_cd 32 (rd_KW.getD i []))))
def am_eqc (f g : Nat → Int32) : Bool := (List.range 64).all (fun i => decide (f i = g i))
theorem am_kwM : am_kwc (am_ctL am_hM 17) = true := by decide +kernel
theorem am_deM : am_eqc (am_ctI am_hM 23) (am_ctI am_hM 81) = true := by decide +kernel
theorem am_R0f {h : am_H} (hk : am_kwc (am_ctL h 17) = true) (hd : am_eqc (am_ctI h 23) (am_ctI h 81) = true) : cm_ (sg_of (am_h0f h)) := by
  have kw : ∀ (i : Nat) (v : List Int), rd_KW[i]? = some v → am_ctL h 17 i = Int64.ofInt (rd_cd 32 v) := by
    intro i v hv
    have hi : i < 13 := (List.getElem?_eq_some_iff.mp hv).1
    have h1 := of_decide_eq_true (List.all_eq_true.mp hk i (List.mem_range.mpr hi))
    rw [h1, List.getD_eq_getElem?_getD, hv]
    rfl
  refine ⟨⟨fun _ => 0, 0, ⟨rfl, Nat.zero_le _, fun i hi => absurd hi (Nat.not_lt_zero i), kw⟩, rfl, Nat.zero_le _, fun i hi => absurd hi (Nat.not_lt_zero i)⟩, ⟨rp_T0, ⟨Nat.zero_le _, Nat.zero_le _, Nat.zero_le _, fun i hi => absurd hi (Nat.not_lt_zero i)⟩, ⟨rfl, rfl, rfl, rfl, rfl, fun i hi => absurd hi (Nat.not_lt_zero i)⟩, ⟨rfl, rfl, rfl, rfl, rfl, fun i hi => absurd hi (Nat.not_lt_zero i)⟩⟩, rfl, fun i hi => ?_, ⟨0, Nat.zero_le _, rfl, rfl, fun i hi => absurd hi (Nat.not_lt_zero i)⟩, ⟨0, Nat.zero_le _, rfl, rfl, fun i hi => absurd hi (Nat.not_lt_zero i)⟩, ⟨0, Nat.zero_le _, rfl, rfl, fun i hi => absurd hi (by omega)⟩⟩
  exact of_decide_eq_true (List.all_eq_true.mp hd i (List.mem_range.mpr hi))
theorem am_R00 : am_Rel am_h0 := ⟨sg_of am_h0, sg_of_ok am_hok0, am_R0f am_kwM am_deM⟩
