/-! ===== bounds: one instruction, a method ===== -/
def ab_mx (e : Nat) (N : ab_N) (t u : ab_T) : Int × Int × Int := bif Nat.beq e 7 then (bif decide (ab_lw N t < ab_lw N u) then ab_lw N u else ab_lw N t, bif decide (ab_hi N t < ab_hi N u) then ab_hi N u else ab_hi N t, 511)
  else (bif decide (ab_lw N t < ab_lw N u) then ab_lw N t else ab_lw N u, bif decide (ab_hi N t < ab_hi N u) then ab_hi N t else ab_hi N u, 511)
theorem ab_mx_ok {ro : List Int} {N : ab_N} (hN : ab_env ro N) {e : Nat} {t u : ab_T} {x y : Int32} (ht : ab_ev ro t = some x.toInt) (hu : ab_ev ro u = some y.toInt) : ab_in (bif Nat.beq e 7 then (if x < y then y else x) else (if y < x then y else x)).toInt (ab_mx e N t u) := by
  have a1 := ab_lw_ok hN ht
  have a2 := ab_lw_ok hN hu
  have a3 := ab_hi_ok hN ht
  have a4 := ab_hi_ok hN hu
  have key : ∀ {p q : Int}, decide (p < q) = true → p < q := fun h => of_decide_eq_true h
  have key2 : ∀ {p q : Int}, decide (p < q) = false → ¬ p < q := fun h => of_decide_eq_false h
  unfold ab_mx
  cases hb : Nat.beq e 7 with
  | true =>
    simp only [cond_true]
    refine ⟨?_, ?_, ?_⟩
    · simp only
      cases hc : decide (ab_lw N t < ab_lw N u) with
      | true =>
        have := key hc
        simp only [cond_true]
        split
        · exact a2
        · rename_i hxy
          have := Int32.le_iff_toInt_le.mp (Int32.not_lt.mp hxy)
          omega
      | false =>
        have := key2 hc
        simp only [cond_false]
        split
        · rename_i hxy
          have := Int32.lt_iff_toInt_lt.mp hxy
          omega
        · exact a1
    · simp only
      cases hc : decide (ab_hi N t < ab_hi N u) with
      | true =>
        have := key hc
        simp only [cond_true]
        split <;> omega
      | false =>
        have := key2 hc
        simp only [cond_false]
        split <;> omega
    · simp only
      omega
  | false =>
    simp only [cond_false]
    refine ⟨?_, ?_, ?_⟩
    · simp only
      cases hc : decide (ab_lw N t < ab_lw N u) with
      | true =>
        have := key hc
        simp only [cond_true]
        split <;> omega
      | false =>
        have := key2 hc
        simp only [cond_false]
        split <;> omega
    · simp only
      cases hc : decide (ab_hi N t < ab_hi N u) with
      | true =>
        have := key hc
        simp only [cond_true]
        split
        · rename_i hxy
          have := Int32.lt_iff_toInt_lt.mp hxy
          omega
        · exact a3
      | false =>
        have := key2 hc
        simp only [cond_false]
        split
        · exact a4
        · rename_i hxy
          have := Int32.le_iff_toInt_le.mp (Int32.not_lt.mp hxy)
          omega
    · simp only
      omega
/-- as am_s6 -/
def ab_s6 (Ks : List ab_K) (D : List ab_D) (mo : ab_Mo) (dp c0 : Nat) (i : am_I) (pc : Nat) (lv : List (Option ab_V)) (st : List ab_V) (o : ab_O) (N : ab_N) (F : List ab_T) : Option (List ab_S) := match i with
  | .invokevirtual idx => match am_inf c0 idx with
    | some (e1, mi, n, _) => match ab_pop n st with
      | some (as, .inr (.inr b) :: rest) => match am_T[mi]? with
        | some r2 => match D[b]? with
          | some (.inr (c, _)) => bif Nat.beq e1 0 && Nat.beq c (am_o r2) && Nat.blt b 1000000 && ab_rsm rest && Nat.beq (am_k r2).1 0 && Nat.beq (am_k r2).2 0 then ab_cal D mo dp mi (.inr (.inr b) :: as) rest (pc + 3) lv o N F Ks else none
          | _ => none
        | none => none
      | _ => none
    | none => none
  | .invokestatic idx => match am_inf c0 idx with
    | some (e1, mi, n, _) => bif Nat.beq e1 7 || Nat.beq e1 8 then (match st with
      | .inl u :: .inl t :: rest => bif ab_rsm rest then some [(pc + 3, lv, .inl (ab_var N.length) :: rest, o, N ++ [ab_mx e1 N t u], F)] else none
      | _ => none) else bif Nat.beq e1 1 then (match ab_pop n st with
      | some (as, rest) => match am_T[mi]? with
        | some r2 => bif ab_rsm rest && Nat.beq (am_k r2).1 0 && Nat.beq (am_k r2).2 0 then ab_cal D mo dp mi as rest (pc + 3) lv o N F Ks else none
        | none => none
      | none => none) else none
    | none => none
  | _ => none
section AB6
variable {al : Bool} {D : List ab_D} {mo : ab_Mo} {dp d : Nat} {h0 : am_H} {Ks : List ab_K}
theorem ab_ble0 (n : Nat) : Nat.ble 0 n = true := by rw [Nat.ble_eq]; exact Nat.zero_le n
/-- a callee's end, as am_fin has it -/
theorem ab_fin {mi : Nat} {as : List Value} {h h2 : am_H} {rv : Option Value} {r2 : am_M} {lim : Nat × Nat} {pc : Nat} {lv : List (Option Value)} {rest : List Value} (hdo : am_Do al d mi as h (rv, h2)) (hr : am_rsm rest = true) (k1 : Nat.beq (am_k r2).1 0 = true) (k2 : Nat.beq (am_k r2).2 0 = true) (hl : h2.length = h.length) : ∃ F0, ∀ F, F0 ≤ F → am_fin (am_call al F d) lim mi as r2 pc lv rest h 0 0 = some (pc + 3, lv, rv.toList ++ rest, h2, 0, 0) := by
  obtain ⟨F0, hF⟩ := hdo
  refine ⟨F0, fun F hFF => ?_⟩
  have e1 := Nat.eq_of_beq_eq_true k1
  have e2 := Nat.eq_of_beq_eq_true k2
  unfold am_fin
  rw [hr, e1, e2]
  simp only [hF F hFF, hl, Nat.add_zero, show Nat.beq h.length h.length = true from Nat.beq_refl _, ab_ble0, Bool.and_self, cond_true]
theorem ab_s6_ok {c0 : Nat} {i : am_I} {lim : Nat × Nat} {ro : List Int} {s : ab_S} {x : am_C} {l : List ab_S} (hd : dp ≤ d + 1) (hK : ∀ k ∈ Ks, ab_kok al D k) (J : ab_J D mo h0 ro s x) (e : ab_s6 Ks D mo dp c0 i s.1 s.2.1 s.2.2.1 s.2.2.2.1 s.2.2.2.2.1 s.2.2.2.2.2 = some l) : ∃ y F0, (∀ F, F0 ≤ F → am_s6 (am_call al F d) (d + 1) lim c0 i x.1 x.2.1 x.2.2.1 x.2.2.2.1 0 0 = some y) ∧ ∃ q ∈ l, ∃ ro2, ab_J D mo h0 (ro ++ ro2) q y := by
  obtain ⟨pc, lv, st, o, N, F⟩ := s
  obtain ⟨pc2, lvc, stc, h, nc, ns⟩ := x
  obtain ⟨j1, j2, j3, j4, j5, j6, j7, j8, j9⟩ := J
  simp only at j1 j2 j3 j4 j5 j6 j7 j8 j9 e ⊢
  subst j1
  cases i
  case invokevirtual idx =>
    unfold ab_s6 at e
    simp only at e
    split at e
    · rename_i e1 mi n pl hinf
      split at e
      · rename_i as b rest hpop
        split at e
        · rename_i r2 hr2
          split at e
          · rename_i c ws hD
            obtain ⟨hb, e1q⟩ := ab_cb e
            clear e
            have e := e1q
            clear e1q
            simp only [Bool.and_eq_true] at hb
            obtain ⟨⟨⟨⟨⟨b1, b2⟩, b3⟩, b4⟩, b5⟩, b6⟩ := hb
            obtain ⟨⟨c1, c2⟩, p1, p2, p3⟩ := ab_pop_ok j3 hpop
            simp only at p2 p3
            obtain ⟨w, restc, rfl, g1, g2⟩ := ab_st_cons p3
            obtain rfl := ab_v_ref g1
            have hc := Nat.eq_of_beq_eq_true b2
            subst hc
            obtain ⟨fs, f1, f2, -, -⟩ := ab_hok_obj j7 hD b3
            obtain ⟨rv, h2, k1, k2, q, q1, ro3, q2⟩ := ab_cal_ok (h0 := h0) (asc := .ref b :: c1) (restc := restc) hd j5 j6 j2 (show ab_st ro (.inr (.inr b) :: as) (.ref b :: c1) from ⟨rfl, p2⟩) g2 j4 j7 j8 Ks l hK e
            have hrs : am_rsm restc = true := by
              unfold am_rsm
              rw [ab_rsm_ok _ _ g2]
              exact b4
            obtain ⟨F0, hF0⟩ := ab_fin (lim := lim) (pc := pc2) (lv := lvc) k1 hrs b5 b6 (by rw [k2.1, j7.1])
            refine ⟨_, F0, fun F hF => ?_, q, q1, ro3, q2⟩
            have := hF0 F hF
            unfold am_s6
            simp only [hinf, p1, b1, hr2, f2, cond_true]
            exact this
          · cases e
        · cases e
      · cases e
    · cases e
  case invokestatic idx =>
    unfold ab_s6 at e
    simp only at e
    split at e
    · rename_i e1 mi n pl hinf
      cases hkm : (Nat.beq e1 7 || Nat.beq e1 8) with
      | true =>
        rw [hkm] at e
        simp only [cond_true] at e
        split at e
        · rename_i u t rest
          obtain ⟨hb, e1q⟩ := ab_cb e
          clear e
          have e := e1q
          clear e1q
          cases e
          obtain ⟨w, C, rfl, g1, g2⟩ := ab_st_cons j3
          obtain ⟨w2, C2, rfl, g3, g4⟩ := ab_st_cons g2
          obtain ⟨y, rfl, hy⟩ := ab_v_int g1
          obtain ⟨x, rfl, hx⟩ := ab_v_int g3
          have hrs : am_rsm C2 = true := by
            unfold am_rsm
            rw [ab_rsm_ok _ _ g4]
            exact hb
          refine ⟨(pc2 + 3, lvc, .int (bif Nat.beq e1 7 then (if x < y then y else x) else (if y < x then y else x)) :: C2, h, 0, 0), 0, fun F _ => ?_, _, List.mem_singleton.mpr rfl, [(bif Nat.beq e1 7 then (if x < y then y else x) else (if y < x then y else x)).toInt], ?_⟩
          · unfold am_s6
            simp only [hinf, hkm, cond_true, hrs, show Nat.ble 1 (d + 1) = true by simp [Nat.ble_eq], Bool.and_self]
          · exact ⟨rfl, ab_lv_mono j2, ⟨ab_ev_new j5 _, ab_st_mono _ _ g4⟩, ab_ov_mono j4, ab_env_push j5 (ab_mx_ok j5 hx hy), ab_F_mono j6, j7, j8, rfl⟩
        · cases e
      | false =>
        rw [hkm] at e
        simp only [cond_false] at e
        obtain ⟨hk1, e1q⟩ := ab_cb e
        clear e
        have e := e1q
        clear e1q
        split at e
        · rename_i as rest hpop
          split at e
          · rename_i r2 hr2
            obtain ⟨hb, e1q⟩ := ab_cb e
            clear e
            have e := e1q
            clear e1q
            simp only [Bool.and_eq_true] at hb
            obtain ⟨⟨b4, b5⟩, b6⟩ := hb
            obtain ⟨⟨c1, c2⟩, p1, p2, p3⟩ := ab_pop_ok j3 hpop
            simp only at p2 p3
            obtain ⟨rv, h2, k1, k2, q, q1, ro3, q2⟩ := ab_cal_ok (h0 := h0) (asc := c1) (restc := c2) hd j5 j6 j2 p2 p3 j4 j7 j8 Ks l hK e
            have hrs : am_rsm c2 = true := by
              unfold am_rsm
              rw [ab_rsm_ok _ _ p3]
              exact b4
            obtain ⟨F0, hF0⟩ := ab_fin (lim := lim) (pc := pc2) (lv := lvc) k1 hrs b5 b6 (by rw [k2.1, j7.1])
            refine ⟨_, F0, fun F hF => ?_, q, q1, ro3, q2⟩
            have := hF0 F hF
            unfold am_s6
            simp only [hinf, hkm, cond_false, hk1, p1, hr2, cond_true]
            exact this
          · cases e
        · cases e
    · cases e
  all_goals cases e
/-- two longs that are known, compared -/
def ab_lc (i : am_I) (pc : Nat) (st : List ab_V) (N : ab_N) (F : List ab_T) : Option (List ab_2) := match i with
  | .lcmp => match st with
    | .inr (.inl (some y)) :: .inr (.inl (some x)) :: r => some (ab_to (pc + 1) (.inl (-1, []) :: r) N F [ab_add (ab_sub y x) (-1, [])] ++ (ab_to (pc + 1) (.inl (0, []) :: r) N F [ab_sub x y, ab_sub y x] ++ ab_to (pc + 1) (.inl (1, []) :: r) N F [ab_add (ab_sub x y) (-1, [])]))
    | _ => none
  | _ => none
theorem ab_lc_ok {ro : List Int} {N : ab_N} {F : List ab_T} {i : am_I} {pc : Nat} {st : List ab_V} {stc : List Value} {l : List ab_2} (hN : ab_env ro N) (hF : ab_F ro F) (hs : ab_st ro st stc) (e : ab_lc i pc st N F = some l) (lvc : List (Option Value)) : ∃ q ∈ l, ∃ st2, am_s1 i pc lvc stc = some (q.1, lvc, st2) ∧ ab_st ro q.2.1 st2 ∧ ab_env ro q.2.2.1 ∧ ab_F ro q.2.2.2 := by
  cases i
  case lcmp =>
    unfold ab_lc at e
    simp only at e
    split at e
    · rename_i y x r
      cases e
      obtain ⟨w, C, rfl, g1, g2⟩ := ab_st_cons hs
      obtain ⟨w2, C2, rfl, g3, g4⟩ := ab_st_cons g2
      obtain ⟨b, rfl⟩ := ab_v_long g1
      obtain ⟨a, rfl⟩ := ab_v_long g3
      have hb : ab_ev ro y = some b.toInt := g1 y rfl
      have ha : ab_ev ro x = some a.toInt := g3 x rfl
      have key : ab_S2 ro (some (pc + 1, Value.int (lg_cmp a b) :: C2)) (ab_to (pc + 1) (.inl (-1, []) :: r) N F [ab_add (ab_sub y x) (-1, [])] ++ (ab_to (pc + 1) (.inl (0, []) :: r) N F [ab_sub x y, ab_sub y x] ++ ab_to (pc + 1) (.inl (1, []) :: r) N F [ab_add (ab_sub x y) (-1, [])])) := by
        by_cases h1 : b.toInt < a.toInt
        · have e1 : lg_cmp a b = 1 := by
            unfold lg_cmp
            rw [if_pos (Int64.lt_iff_toInt_lt.mpr h1)]
          rw [e1]
          refine (ab_to_ok hN hF ?_ (show ab_st ro (.inl (1, []) :: r) (.int (1) :: C2) from ⟨ab_ev_k ro 1, g4⟩) rfl).r.r
          intro g hg
          rcases List.mem_singleton.mp hg with rfl
          exact ⟨_, ab_add_ok (ab_sub_ok ha hb) (ab_ev_k ro (-1)), by omega⟩
        · by_cases h2 : a.toInt = b.toInt
          · have e1 : lg_cmp a b = 0 := by
              unfold lg_cmp
              rw [if_neg (fun h => h1 (Int64.lt_iff_toInt_lt.mp h)), if_pos (Int64.toInt_inj.mp h2)]
            rw [e1]
            refine (ab_to_ok hN hF ?_ (show ab_st ro (.inl (0, []) :: r) (.int (0) :: C2) from ⟨ab_ev_k ro 0, g4⟩) rfl).l.r
            intro g hg
            simp only [List.mem_cons, List.not_mem_nil, or_false] at hg
            rcases hg with rfl | rfl
            · exact ⟨_, ab_sub_ok ha hb, by omega⟩
            · exact ⟨_, ab_sub_ok hb ha, by omega⟩
          · have e1 : lg_cmp a b = -1 := by
              unfold lg_cmp
              rw [if_neg (fun h => h1 (Int64.lt_iff_toInt_lt.mp h)), if_neg (fun h => h2 (by rw [h]))]
            rw [e1]
            refine (ab_to_ok hN hF ?_ (show ab_st ro (.inl (-1, []) :: r) (.int (-1) :: C2) from ⟨ab_ev_k ro (-1), g4⟩) rfl).l
            intro g hg
            rcases List.mem_singleton.mp hg with rfl
            exact ⟨_, ab_add_ok (ab_sub_ok hb ha) (ab_ev_k ro (-1)), by omega⟩
      obtain ⟨q, q1, st2, q2, q3, q4, q5⟩ := key
      refine ⟨q, q1, st2, ?_, q3, q4, q5⟩
      show some (pc + 1, lvc, Value.int (lg_cmp a b) :: C2) = _
      injection q2 with q2
      injection q2 with k1 k2
      rw [← k1, ← k2]
    · cases e
  all_goals cases e
def ab_step (Ks : List ab_K) (D : List ab_D) (mo : ab_Mo) (dp c0 : Nat) (i : am_I) (s : ab_S) : Option (List ab_S) := match s with
  | (pc, lv, st, o, N, F) => match ab_lc i pc st N F with
   | some l => some (l.map (fun q => match q with
        | (pc2, st2, N2, F2) => (pc2, lv, st2, o, N2, F2)))
   | none => match ab_s1 i pc lv st N F with
    | some (pc2, lv2, st2, N2) => some [(pc2, lv2, st2, o, N2, F)]
    | none => match ab_s2 i pc st N F with
      | some l => some (l.map (fun q => match q with
        | (pc2, st2, N2, F2) => (pc2, lv, st2, o, N2, F2)))
      | none => match ab_s3 D c0 i pc st o N F with
        | some l => some (l.map (fun q => match q with
          | (pc2, st2, o2, N2) => (pc2, lv, st2, o2, N2, F)))
        | none => match ab_s4 D mo c0 i pc st o N F with
          | some (pc2, st2, o2) => some [(pc2, lv, st2, o2, N, F)]
          | none => ab_s6 Ks D mo dp c0 i pc lv st o N F
theorem ab_n2 {i : am_I} {pc : Nat} {st : List ab_V} {N : ab_N} {F : List ab_T} {l : List ab_2} (h : ab_s2 i pc st N F = some l) (p : Nat) (lv : List (Option Value)) (s : List Value) : am_s1 i p lv s = none := by
  cases i <;> first | rfl | cases h
theorem ab_n3 {D : List ab_D} {c0 : Nat} {i : am_I} {pc : Nat} {st : List ab_V} {o : ab_O} {N : ab_N} {F : List ab_T} {l : List ab_4} (h : ab_s3 D c0 i pc st o N F = some l) (p : Nat) (lv : List (Option Value)) (s : List Value) : am_s1 i p lv s = none ∧ am_s2 i p s = none := by
  cases i <;> first | exact ⟨rfl, rfl⟩ | cases h
theorem ab_n4 {D : List ab_D} {c0 : Nat} {i : am_I} {pc : Nat} {st : List ab_V} {o : ab_O} {N : ab_N} {F : List ab_T} {q : Nat × List ab_V × ab_O} (h : ab_s4 D mo c0 i pc st o N F = some q) (p : Nat) (lv : List (Option Value)) (s : List Value) (S : am_S) (g : am_H) : am_s1 i p lv s = none ∧ am_s2 i p s = none ∧ am_s3 S c0 i g p s = none := by
  cases i <;> first | exact ⟨rfl, rfl, rfl⟩ | cases h
theorem ab_n6 {c0 : Nat} {i : am_I} {pc : Nat} {lv : List (Option ab_V)} {st : List ab_V} {o : ab_O} {N : ab_N} {F : List ab_T} {l : List ab_S} (h : ab_s6 Ks D mo dp c0 i pc lv st o N F = some l) (p : Nat) (lv : List (Option Value)) (s : List Value) (S : am_S) (g : am_H) (ini al : Bool) (lim : Nat × Nat) (nc ns : Nat) : am_s1 i p lv s = none ∧ am_s2 i p s = none ∧ am_s3 S c0 i g p s = none ∧ am_s4 c0 ini i g p s = none ∧ am_s5 al lim c0 i p s g nc ns = none := by
  cases i <;> first | exact ⟨rfl, rfl, rfl, rfl, rfl⟩ | cases h
theorem ab_step_ok {r : am_M} {i : am_I} {S : am_S} {ro : List Int} {s : ab_S} {x : am_C} {l : List ab_S} (hd : dp ≤ d + 1) (h13 : Nat.beq (am_o r) 13 = false) (hK : ∀ k ∈ Ks, ab_kok al D k) (J : ab_J D mo h0 ro s x) (e : ab_step Ks D mo dp (am_o r) i s = some l) : ∃ y F0, (∀ F, F0 ≤ F → am_step (am_call al F d) (d + 1) S al r i x = some y) ∧ ∃ q ∈ l, ∃ ro2, ab_J D mo h0 (ro ++ ro2) q y := by
  have J0 := J
  obtain ⟨pc, lv, st, o, N, F⟩ := s
  obtain ⟨pc2, lvc, stc, h, nc, ns⟩ := x
  obtain ⟨j1, j2, j3, j4, j5, j6, j7, j8, j9⟩ := J
  simp only at j1 j2 j3 j4 j5 j6 j7 j8 j9
  subst j1
  obtain ⟨rfl, rfl⟩ : nc = 0 ∧ ns = 0 := by
    cases j9
    exact ⟨rfl, rfl⟩
  unfold ab_step at e
  simp only at e
  split at e
  · rename_i l2 h2
    cases e
    obtain ⟨q, q1, st4, g1, g2, g3, g4⟩ := ab_lc_ok j5 j6 j3 h2 lvc
    obtain ⟨pc3, st3, N3, F3⟩ := q
    refine ⟨(pc3, lvc, st4, h, 0, 0), 0, fun _ _ => ?_, _, List.mem_map.mpr ⟨_, q1, rfl⟩, [], ?_⟩
    · unfold am_step
      simp only [g1]
    · rw [List.append_nil]
      exact ⟨rfl, j2, g2, j4, g3, g4, j7, j8, rfl⟩
  split at e
  · rename_i pc3 lv3 st3 N3 h1
    cases e
    obtain ⟨ro2, lv4, st4, g1, g2, g3, g4⟩ := ab_s1_ok j5 j6 j2 j3 h1
    refine ⟨(pc3, lv4, st4, h, 0, 0), 0, fun _ _ => ?_, _, List.mem_singleton.mpr rfl, ro2, rfl, g3, g4, ab_ov_mono j4, g2, ab_F_mono j6, j7, j8, rfl⟩
    unfold am_step
    simp only [g1]
  · split at e
    · rename_i l2 h2
      cases e
      obtain ⟨q, q1, st4, g1, g2, g3, g4⟩ := ab_s2_ok j5 j6 j3 h2
      obtain ⟨pc3, st3, N3, F3⟩ := q
      refine ⟨(pc3, lvc, st4, h, 0, 0), 0, fun _ _ => ?_, _, List.mem_map.mpr ⟨_, q1, rfl⟩, [], ?_⟩
      · unfold am_step
        simp only [ab_n2 h2, g1]
      · rw [List.append_nil]
        exact ⟨rfl, j2, g2, j4, g3, g4, j7, j8, rfl⟩
    · split at e
      · rename_i l2 h2
        cases e
        obtain ⟨q, q1, ro2, st4, g1, g2, g3, g4⟩ := ab_s3_ok (S := S) h13 j7 j5 j6 j4 j3 h2
        obtain ⟨pc3, st3, o3, N3⟩ := q
        refine ⟨(pc3, lvc, st4, h, 0, 0), 0, fun _ _ => ?_, _, List.mem_map.mpr ⟨_, q1, rfl⟩, ro2, rfl, ab_lv_mono j2, g2, g3, g4, ab_F_mono j6, j7, j8, rfl⟩
        obtain ⟨n1, n2⟩ := ab_n3 h2 pc2 lvc stc
        unfold am_step
        simp only [n1, n2, g1]
      · split at e
        · rename_i pc3 st3 o3 h2
          cases e
          obtain ⟨st4, h4, g1, g2, g3, g4, g5⟩ := ab_s4_ok (ini := am_i r) j7 j5 j6 j4 j3 h2
          refine ⟨(pc3, lvc, st4, h4, 0, 0), 0, fun _ _ => ?_, _, List.mem_singleton.mpr rfl, [], ?_⟩
          · obtain ⟨n1, n2, n3⟩ := ab_n4 h2 pc2 lvc stc S h
            unfold am_step
            simp only [n1, n2, n3, g1]
          · rw [List.append_nil]
            exact ⟨rfl, j2, g2, g3, j5, j6, g4, j8.tr g5, rfl⟩
        · obtain ⟨y, F0, g1, g2⟩ := ab_s6_ok (lim := am_k r) hd hK J0 e
          refine ⟨y, F0, fun F hF => ?_, g2⟩
          obtain ⟨n1, n2, n3, n4, n5⟩ := ab_n6 e pc2 lvc stc S h (am_i r) al (am_k r) 0 0
          have := g1 F hF
          unfold am_step
          simp only [n1, n2, n3, n4, n5]
          exact this
end AB6
