/-! ===== bounds: a method's whole run ===== -/
/-- a place where runs are cut: its pc, what holds there, its measure -/
abbrev ab_C : Type := Nat × ab_P × ab_T
def ab_ids (n : Nat) : List ab_T := ab_fresh 0 n
def ab_isc (cs : List ab_C) (pc : Nat) : Bool := cs.any (fun q => Nat.beq q.1 pc)
def ab_cm (D : List ab_D) (nE : Nat) (cs : List ab_C) (M : Option ab_T) (s : ab_S) : Bool := match s with
  | (pc, lv, st, o, N, F) => match st with
    | [] => cs.any (fun q => match q with
      | (pc2, P, M2) => Nat.beq pc2 pc && (match ab_mat D P.2.2.2.2.2 o N with
        | (o2, N2) => match ab_mt N2 F lv o2 (ab_ids nE) P with
          | some sg => match M with
            | none => true
            | some M1 => match ab_sb sg M2 with
              | some m2 => ab_gen N2 F 5 (ab_add (ab_sub M1 m2) (-1, []))
              | none => false
          | none => false))
    | _ => false
def ab_om2 (D : List ab_D) (nE : Nat) (Xs : List ab_P) (rv : List (Option ab_V)) (o : ab_O) (N : ab_N) (F : List ab_T) : Bool := Xs.any (fun X => match ab_mat D X.2.2.2.2.2 o N with
  | (o2, N2) => match ab_mt N2 F rv o2 (ab_ids nE) X with
    | some _ => true
    | none => false)
def ab_rm (D : List ab_D) (nE : Nat) (Xs : List ab_P) (r : am_M) (i : am_I) (s : ab_S) : Bool := match s with
  | (_, _, st, o, N, F) => match i with
    | .ireturn => match am_rt r, st with
      | some ty, [.inl t] => (match ty with
        | .int => true
        | .boolean => ab_rng N F t 0 1
        | _ => false) && ab_om2 D nE Xs [some (.inl t)] o N F
      | _, _ => false
    | .lreturn => match am_rt r, st with
      | some .long, [.inr (.inl u)] => ab_om2 D nE Xs [some (.inr (.inl u))] o N F
      | _, _ => false
    | .return_ => match am_rt r, st with
      | none, [] => ab_om2 D nE Xs [] o N F
      | _, _ => false
    | _ => false
/-- the values of one of the locals, one by one -/
def ab_vals (pc : Nat) (lv : List (Option ab_V)) (st : List ab_V) (o : ab_O) (N : ab_N) (F : List ab_T) (t : ab_T) (lo : Int) : Nat → List ab_S
  | 0 => []
  | n + 1 => (match ab_asms N F [ab_sub t (lo + (n : Int), []), ab_sub (lo + (n : Int), []) t] with
    | some (N2, F2) => [(pc, lv, st, o, N2, F2)]
    | none => []) ++ ab_vals pc lv st o N F t lo n
def ab_spl (sp : List (Nat × Nat)) (s : ab_S) : List ab_S := match s with
  | (pc, lv, st, o, N, F) => match sp.find? (fun q => Nat.beq q.1 pc) with
    | some (_, i) => match ab_get lv i with
      | some (.inl t) => match ab_lo N t, ab_lo N (ab_neg t) with
        | some lo, some v => ab_vals pc lv st o N F t lo ((-v - lo + 1).toNat)
        | _, _ => [(pc, lv, st, o, N, F)]
      | _ => [(pc, lv, st, o, N, F)]
    | none => [(pc, lv, st, o, N, F)]
def ab_adv (Ks : List ab_K) (D : List ab_D) (mo : ab_Mo) (dp nE : Nat) (Xs : List ab_P) (r : am_M) (sp : List (Nat × Nat)) (rc : ab_S → Bool) (s : ab_S) : Bool := match am_at r s.1 with
  | none => false
  | some i => bif am_isr i then ab_rm D nE Xs r i s else (ab_spl sp s).all (fun s2 => match ab_step Ks D mo dp (am_o r) i s2 with
    | some l => l.all rc
    | none => false)
def ab_run (Ks : List ab_K) (D : List ab_D) (mo : ab_Mo) (dp nE : Nat) (Xs : List ab_P) (r : am_M) (sp : List (Nat × Nat)) (cs : List ab_C) (M : Option ab_T) : Nat → ab_S → Bool
  | 0, _ => false
  | f + 1, s => bif ab_isc cs s.1 then ab_cm D nE cs M s else ab_adv Ks D mo dp nE Xs r sp (ab_run Ks D mo dp nE Xs r sp cs M f) s
section ABR
variable {al : Bool} {Ks : List ab_K} {D : List ab_D} {mo : ab_Mo} {dp d nE : Nat} {Xs : List ab_P} {r : am_M} {sp : List (Nat × Nat)} {cs : List ab_C} {h0 : am_H} {rE : List Int}
/-- the run from here ends well -/
def ab_Fin (al : Bool) (D : List ab_D) (mo : ab_Mo) (d : Nat) (Xs : List ab_P) (r : am_M) (h0 : am_H) (rE : List Int) (x : am_C) : Prop := ∃ X ∈ Xs, ∃ ro2 y i rv h2, am_Go al d (0, fun _ => 0) r x y ∧ am_at r y.1 = some i ∧ am_isr i = true ∧ am_ret r y = some (rv, h2) ∧ ab_hok D h2 ∧ ab_fr mo h0 h2 ∧ ab_at (rE ++ ro2) X (rv.toList.map some) h2
theorem ab_val_ids {ro : List Int} (hE : rE.length = nE) (s2 : List ab_T) : ab_val (rE ++ ro) (ab_ids nE ++ s2) = rE ++ ab_val (rE ++ ro) s2 := by
  unfold ab_val
  rw [List.map_append]
  congr 1
  apply List.ext_getElem?
  intro i
  rw [List.getElem?_map]
  by_cases hi : i < nE
  · have h1 : i < (ab_ids nE).length := by unfold ab_ids; rw [ab_fresh_len]; exact hi
    have h2 := List.getElem?_eq_getElem h1
    obtain ⟨-, h3⟩ := ab_fresh_get (n := nE) 0 i _ h2
    have h4 : (rE ++ ro)[i]? = some rE[i] := by
      rw [List.getElem?_append_left (by omega)]
      exact List.getElem?_eq_getElem (by omega)
    rw [h2, h3, Nat.zero_add, Option.map_some, ab_ev_var h4, List.getElem?_eq_getElem (by omega)]
    rfl
  · have h1 : (ab_ids nE)[i]? = none := List.getElem?_eq_none (by unfold ab_ids; rw [ab_fresh_len]; omega)
    rw [h1, List.getElem?_eq_none (by omega)]
    rfl
theorem ab_om2_ok {ro : List Int} {rv : List (Option ab_V)} {C : List (Option Value)} {o : ab_O} {N : ab_N} {F : List ab_T} {h : am_H} (hE : rE.length = nE) (hl : ab_lv (rE ++ ro) rv C) (ho : ab_ov (rE ++ ro) h o) (hN : ab_env (rE ++ ro) N) (hF : ab_F (rE ++ ro) F) (hh : ab_hok D h) (e : ab_om2 D nE Xs rv o N F = true) : ∃ X ∈ Xs, ∃ ro2, ab_at (rE ++ ro2) X C h := by
  obtain ⟨X, hX, e1⟩ := List.any_eq_true.mp e
  obtain ⟨roM, m1, m2⟩ := ab_mat_ok hh X.2.2.2.2.2 o N _ hN ho
  generalize hmat : ab_mat D X.2.2.2.2.2 o N = on at e1 m1 m2
  obtain ⟨o2, N2⟩ := on
  simp only at e1 m1 m2
  split at e1
  · rename_i s hs
    obtain ⟨g1, g2, s2, rfl⟩ := ab_mt_ok m1 (ab_F_mono hF) (ab_lv_mono hl) m2 hs
    rw [List.append_assoc, ab_val_ids hE] at g2
    exact ⟨X, hX, _, g2⟩
  · cases e1
theorem ab_rm_ok {i : am_I} {ro : List Int} {s : ab_S} {x : am_C} (hE : rE.length = nE) (hi : am_at r x.1 = some i) (J : ab_J D mo h0 (rE ++ ro) s x) (e : ab_rm D nE Xs r i s = true) : ab_Fin al D mo d Xs r h0 rE x := by
  obtain ⟨pc, lv, st, o, N, F⟩ := s
  obtain ⟨pc2, lvc, stc, h, nc, ns⟩ := x
  obtain ⟨j1, j2, j3, j4, j5, j6, j7, j8, j9⟩ := J
  simp only at j1 j2 j3 j4 j5 j6 j7 j8 j9 hi
  unfold ab_rm at e
  simp only at e
  split at e
  · split at e
    · rename_i ty t hty
      rw [Bool.and_eq_true] at e
      obtain ⟨w, C, rfl, g1, g2⟩ := ab_st_cons j3
      obtain rfl := ab_st_nil g2
      obtain ⟨y, rfl, hy⟩ := ab_v_int g1
      obtain ⟨X, hX, ro2, k⟩ := ab_om2_ok (C := [some (.int y)]) hE (ab_st_lv [.inl t] [.int y] ⟨hy, trivial⟩) j4 j5 j6 j7 e.2
      refine ⟨X, hX, ro2, _, .ireturn, some (.int y), h, am_Go.rf, hi, rfl, ?_, j7, j8, k⟩
      have hfit : am_fit ty (.int y) = true := by
        have h2 := e.1
        split at h2
        · rfl
        · obtain ⟨a1, a2⟩ := ab_rng_ok j5 j6 hy h2
          rcases ab_bool a1 a2 with rfl | rfl
          · decide
          · decide
        · cases h2
      unfold am_ret
      simp only [hi, hty, hfit, cond_true]
    · cases e
  · split at e
    · rename_i u hty
      obtain ⟨w, C, rfl, g1, g2⟩ := ab_st_cons j3
      obtain rfl := ab_st_nil g2
      obtain ⟨y, rfl⟩ := ab_v_long g1
      obtain ⟨X, hX, ro2, k⟩ := ab_om2_ok (C := [some (.long y)]) hE (ab_st_lv [.inr (.inl u)] [.long y] ⟨g1, trivial⟩) j4 j5 j6 j7 e
      refine ⟨X, hX, ro2, _, .lreturn, some (.long y), h, am_Go.rf, hi, rfl, ?_, j7, j8, k⟩
      unfold am_ret
      simp only [hi, hty]
    · cases e
  · split at e
    · rename_i hty
      obtain rfl := ab_st_nil j3
      obtain ⟨X, hX, ro2, k⟩ := ab_om2_ok (C := []) hE ⟨rfl, fun i v hv => by simp at hv⟩ j4 j5 j6 j7 e
      refine ⟨X, hX, ro2, _, .return_, none, h, am_Go.rf, hi, rfl, ?_, j7, j8, k⟩
      unfold am_ret
      simp only [hi, hty]
    · cases e
  · cases e
theorem ab_vals_ok {ro : List Int} {pc : Nat} {lv : List (Option ab_V)} {st : List ab_V} {o : ab_O} {N : ab_N} {F : List ab_T} {t : ab_T} {lo z : Int} {x : am_C} (hz : ab_ev ro t = some z) (hlo : lo ≤ z) (J : ab_J D mo h0 ro (pc, lv, st, o, N, F) x) : ∀ n : Nat, z < lo + (n : Int) → ∃ q ∈ ab_vals pc lv st o N F t lo n, ab_J D mo h0 ro q x := by
  intro n
  induction n with
  | zero => intro h; omega
  | succ n ih =>
    intro h
    by_cases hn : z < lo + (n : Int)
    · obtain ⟨q, h1, h2⟩ := ih hn
      exact ⟨q, List.mem_append_right _ h1, h2⟩
    · have hzn : z = lo + (n : Int) := by omega
      obtain ⟨j1, j2, j3, j4, j5, j6, j7⟩ := J
      have hF2 : ab_F ro [ab_sub t (lo + (n : Int), []), ab_sub (lo + (n : Int), []) t] := by
        intro g hg
        simp only [List.mem_cons, List.not_mem_nil, or_false] at hg
        rcases hg with rfl | rfl
        · exact ⟨_, ab_sub_ok hz (ab_ev_k ro _), by omega⟩
        · exact ⟨_, ab_sub_ok (ab_ev_k ro _) hz, by omega⟩
      obtain ⟨⟨N2, F2⟩, a1, a2, a3⟩ := ab_asms_ok _ N F j5 j6 hF2
      refine ⟨(pc, lv, st, o, N2, F2), List.mem_append_left _ ?_, j1, j2, j3, j4, a2, a3, j7⟩
      rw [a1]
      exact List.mem_singleton.mpr rfl
theorem ab_spl_ok {ro : List Int} {s : ab_S} {x : am_C} (J : ab_J D mo h0 ro s x) : ∃ q ∈ ab_spl sp s, ab_J D mo h0 ro q x := by
  obtain ⟨pc, lv, st, o, N, F⟩ := s
  have hd : ∃ q ∈ [(pc, lv, st, o, N, F)], ab_J D mo h0 ro q x := ⟨_, List.mem_singleton.mpr rfl, J⟩
  unfold ab_spl
  simp only
  split
  · split
    · rename_i p2 i hp t ht
      split
      · rename_i lo v hlo hv
        obtain ⟨w, w1, w2⟩ := ab_get_ok J.2.1 ht
        obtain ⟨y, rfl, hy⟩ := ab_v_int w2
        have a1 := ab_lo_ok J.2.2.2.2.1 hy hlo
        have a2 := ab_lo_ok J.2.2.2.2.1 (ab_neg_ok hy) hv
        exact ab_vals_ok hy a1 J _ (by omega)
      · exact hd
    · exact hd
  · exact hd
theorem ab_adv_ok {ro : List Int} {s : ab_S} {x : am_C} {rc : ab_S → Bool} (hd : dp ≤ d + 1) (h13 : Nat.beq (am_o r) 13 = false) (hK : ∀ k ∈ Ks, ab_kok al D k) (hE : rE.length = nE) (hrc : ∀ (q : ab_S) (ro2 : List Int) (y : am_C), rc q = true → ab_J D mo h0 (rE ++ (ro ++ ro2)) q y → ab_Fin al D mo d Xs r h0 rE y) (J : ab_J D mo h0 (rE ++ ro) s x) (e : ab_adv Ks D mo dp nE Xs r sp rc s = true) : ab_Fin al D mo d Xs r h0 rE x := by
  unfold ab_adv at e
  rw [← J.1] at e
  split at e
  · cases e
  · rename_i i hi
    cases hr : am_isr i with
    | true =>
      rw [hr] at e
      exact ab_rm_ok hE hi J e
    | false =>
      rw [hr] at e
      simp only [cond_false] at e
      obtain ⟨s2, hs2, J2⟩ := ab_spl_ok (sp := sp) J
      have e2 := List.all_eq_true.mp e s2 hs2
      split at e2
      · rename_i l hl
        obtain ⟨y, F0, g1, q, q1, ro2, q2⟩ := ab_step_ok (S := (0, fun _ => 0)) hd h13 hK J2 hl
        have e3 := List.all_eq_true.mp e2 q q1
        rw [List.append_assoc] at q2
        obtain ⟨X, hX, ro3, z, j, rv, h2, k1, k2⟩ := hrc q ro2 y e3 q2
        refine ⟨X, hX, ro3, z, j, rv, h2, am_Go.tr ⟨1, F0, fun F hF => ?_⟩ k1, k2⟩
        unfold am_nst
        simp only [hi, g1 F hF]
        rfl
      · cases e2
theorem ab_cm_ok {ro : List Int} {s : ab_S} {x : am_C} {M : Option ab_T} {m1 : Int} (hE : rE.length = nE) (hM : ∀ M1, M = some M1 → ab_ev (rE ++ ro) M1 = some m1) (J : ab_J D mo h0 (rE ++ ro) s x) (e : ab_cm D nE cs M s = true) : ∃ T ∈ cs, ∃ ro2, ab_J D mo h0 (rE ++ ro2) (T.1, T.2.1.1, [], T.2.1.2.1, T.2.1.2.2.1, T.2.1.2.2.2.1) x ∧ (M = none ∨ ∃ m2, ab_ev (rE ++ ro2) T.2.2 = some m2 ∧ m2 < m1) := by
  obtain ⟨pc, lv, st, o, N, F⟩ := s
  obtain ⟨j1, j2, j3, j4, j5, j6, j7, j8, j9⟩ := J
  simp only at j1 j2 j3 j4 j5 j6
  unfold ab_cm at e
  simp only at e
  split at e
  · obtain ⟨T, hT, e1⟩ := List.any_eq_true.mp e
    obtain ⟨pc2, P, M2⟩ := T
    simp only at e1
    rw [Bool.and_eq_true] at e1
    obtain ⟨e1, e2⟩ := e1
    have hpc := Nat.eq_of_beq_eq_true e1
    obtain ⟨roM, m1', m2'⟩ := ab_mat_ok j7 P.2.2.2.2.2 o N _ j5 j4
    generalize hmat : ab_mat D P.2.2.2.2.2 o N = on at e2 m1' m2'
    obtain ⟨o2, N2⟩ := on
    simp only at e2 m1' m2'
    split at e2
    · rename_i sg hsg
      obtain ⟨g1, ⟨a1, a2, a3, a4⟩, s2, rfl⟩ := ab_mt_ok m1' (ab_F_mono j6) (ab_lv_mono j2) m2' hsg
      have hv := ab_val_ids (ro := ro ++ roM) hE s2
      rw [List.append_assoc] at g1 a1 a2 a3 a4 m1'
      rw [hv] at g1 a1 a2 a3 a4
      refine ⟨(pc2, P, M2), hT, ab_val (rE ++ (ro ++ roM)) s2, ⟨by rw [j1, hpc], a1, by rw [ab_st_nil j3]; exact trivial, a2, a3, a4, j7, j8, j9⟩, ?_⟩
      split at e2
      · exact Or.inl rfl
      · rename_i M1
        split at e2
        · rename_i m2 hm2
          obtain ⟨z, z1, z2⟩ := ab_sb_ok g1 hm2
          have hF2 : ab_F (rE ++ (ro ++ roM)) F := by rw [← List.append_assoc]; exact ab_F_mono j6
          have h1 := hM M1 rfl
          have h2 : ab_ev (rE ++ (ro ++ roM)) M1 = some m1 := by rw [← List.append_assoc]; exact ab_ev_mono h1
          have := ab_gen_ok m1' hF2 5 _ _ (ab_add_ok (ab_sub_ok h2 z2) (ab_ev_k _ (-1))) e2
          exact Or.inr ⟨z, z1, by omega⟩
        · cases e2
    · cases e2
  · cases e
theorem ab_run_ok {M : Option ab_T} {m1 : Int} (hd : dp ≤ d + 1) (h13 : Nat.beq (am_o r) 13 = false) (hK : ∀ k ∈ Ks, ab_kok al D k) (hE : rE.length = nE)
    (hcut : ∀ T ∈ cs, ∀ (ro2 : List Int) (x : am_C), ab_J D mo h0 (rE ++ ro2) (T.1, T.2.1.1, [], T.2.1.2.1, T.2.1.2.2.1, T.2.1.2.2.2.1) x → (M = none ∨ ∃ m2, ab_ev (rE ++ ro2) T.2.2 = some m2 ∧ m2 < m1) → ab_Fin al D mo d Xs r h0 rE x) : ∀ (f : Nat) (s : ab_S) (ro : List Int) (x : am_C), (∀ M1, M = some M1 → ab_ev (rE ++ ro) M1 = some m1) → ab_J D mo h0 (rE ++ ro) s x → ab_run Ks D mo dp nE Xs r sp cs M f s = true → ab_Fin al D mo d Xs r h0 rE x := by
  intro f
  induction f with
  | zero => intro s ro x _ _ h; cases h
  | succ f ih =>
    intro s ro x hM J e
    unfold ab_run at e
    cases hc : ab_isc cs s.1 with
    | true =>
      rw [hc] at e
      obtain ⟨T, hT, ro2, J2, hm⟩ := ab_cm_ok hE hM J e
      exact hcut T hT ro2 x J2 hm
    | false =>
      rw [hc] at e
      exact ab_adv_ok hd h13 hK hE (fun q ro2 y hq Jq => ih q (ro ++ ro2) y (fun M1 h1 => by rw [← List.append_assoc]; exact ab_ev_mono (hM M1 h1)) Jq hq) J e
def ab_slt : List (Option ab_V) → Option (List (Option ab_V))
  | [] => some []
  | some v :: r => match ab_slt r with
    | some l => bif Nat.beq (ab_cat v) 2 then some (some v :: none :: l) else some (some v :: l)
    | none => none
  | none :: _ => none
theorem ab_slt_ok {ro : List Int} : ∀ (A B : List (Option ab_V)) (as : List Value), ab_slt A = some B → ab_lv ro A (as.map some) → ab_lv ro B (am_slt as) := by
  intro A
  induction A with
  | nil =>
    intro B as h hl
    cases h
    have := hl.1
    cases as with
    | nil => exact ⟨rfl, fun i v hv => by simp at hv⟩
    | cons a as => simp at this
  | cons a A ih =>
    intro B as h hl
    cases a with
    | none => cases h
    | some v =>
      unfold ab_slt at h
      split at h
      · rename_i l hA
        cases as with
        | nil => have := hl.1; simp at this
        | cons w as =>
          have h2 := ih l as hA ⟨by have := hl.1; simpa using this, fun i v hv => hl.2 (i + 1) v hv⟩
          obtain ⟨w2, g1, g2⟩ := hl.2 0 v rfl
          cases g1
          unfold am_slt
          rw [ab_cat_ok g2]
          cases hc : Nat.beq (ab_cat v) 2 with
          | true =>
            rw [hc] at h
            cases h
            refine ⟨by simp [h2.1], fun i u hu => ?_⟩
            match i, hu with
            | 0, hu => cases hu; exact ⟨w, rfl, g2⟩
            | 1, hu => cases hu
            | i + 2, hu => exact h2.2 i u hu
          | false =>
            rw [hc] at h
            cases h
            refine ⟨by simp [h2.1], fun i u hu => ?_⟩
            match i, hu with
            | 0, hu => cases hu; exact ⟨w, rfl, g2⟩
            | i + 1, hu => exact h2.2 i u hu
      · cases h
def ab_ent (A : List (Option ab_V)) (n : Nat) : Option (List (Option ab_V)) := match ab_slt A with
  | some l => bif Nat.ble l.length n then some (l ++ List.replicate (n - l.length) none) else none
  | none => none
theorem ab_ent_ok {ro : List Int} {A B : List (Option ab_V)} {as : List Value} {n : Nat} (h : ab_ent A n = some B) (hl : ab_lv ro A (as.map some)) : ∃ lv, am_ent as n = some lv ∧ ab_lv ro B lv := by
  unfold ab_ent at h
  split at h
  · rename_i l hA
    obtain ⟨hb, h⟩ := ab_cb h
    cases h
    have h2 := ab_slt_ok A l as hA hl
    refine ⟨am_slt as ++ List.replicate (n - (am_slt as).length) none, ?_, by simp [h2.1], fun i v hv => ?_⟩
    · unfold am_ent
      rw [h2.1] at hb
      rw [hb]
      rfl
    · by_cases hi : i < l.length
      · rw [List.getElem?_append_left hi] at hv
        rw [List.getElem?_append_left (by rw [← h2.1]; exact hi)]
        exact h2.2 i v hv
      · rw [List.getElem?_append_right (by omega), List.getElem?_replicate] at hv
        split at hv <;> cases hv
  · cases h
/-- a method keeps its word -/
def ab_chk (Ks : List ab_K) (D : List ab_D) (k : ab_K) (sp : List (Nat × Nat)) (cs : List ab_C) (f : Nat) : Bool := match k with
  | (mi, dp, P, mo, Xs) => match am_T[mi]? with
    | some r => match ab_ent P.1 (am_L r) with
      | some lv => !Nat.beq (am_o r) 13 && Nat.blt 0 dp && ab_run Ks D mo dp P.2.2.1.length Xs r sp cs none f (0, lv, [], P.2.1, P.2.2.1, P.2.2.2.1) && cs.all (fun T => match T with
        | (pc, Q, M) => ab_nn Q.2.2.1 M && ab_adv Ks D mo dp P.2.2.1.length Xs r sp (ab_run Ks D mo dp P.2.2.1.length Xs r sp cs (some M) f) (pc, Q.1, [], Q.2.1, Q.2.2.1, Q.2.2.2.1))
      | none => false
    | none => false
theorem ab_chk_ok {k : ab_K} {f : Nat} (hK : ∀ k2 ∈ Ks, ab_kok al D k2) (e : ab_chk Ks D k sp cs f = true) : ab_kok al D k := by
  obtain ⟨mi, dp, P, mo, Xs⟩ := k
  intro ro as h d hd hh hat
  simp only at hd hat ⊢
  obtain ⟨p1, p2, p3, p4⟩ := hat
  unfold ab_chk at e
  simp only at e
  split at e
  · rename_i r hr
    split at e
    · rename_i lv hlv
      simp only [Bool.and_eq_true] at e
      obtain ⟨⟨⟨e1, e0⟩, e2⟩, e3⟩ := e
      have h13 : Nat.beq (am_o r) 13 = false := by simpa using e1
      obtain ⟨lvc, l1, l2⟩ := ab_ent_ok hlv p1
      have hdp : 0 < dp := by simpa [Nat.blt_eq] using e0
      obtain ⟨d', rfl⟩ : ∃ d', d = d' + 1 := ⟨d - 1, by omega⟩
      have hE : ro.length = P.2.2.1.length := p3.1
      have key : ∀ n : Nat, ∀ T ∈ cs, ∀ (ro2 : List Int) (x : am_C) (m : Int), ab_J D mo h (ro ++ ro2) (T.1, T.2.1.1, [], T.2.1.2.1, T.2.1.2.2.1, T.2.1.2.2.2.1) x → ab_ev (ro ++ ro2) T.2.2 = some m → m < (n : Int) → ab_Fin al D mo d' Xs r h ro x := by
        intro n
        induction n with
        | zero =>
          intro T hT ro2 x m J hm hlt
          have e4 := List.all_eq_true.mp e3 T hT
          obtain ⟨pc, Q, M⟩ := T
          simp only [Bool.and_eq_true] at e4
          have := ab_nn_ok J.2.2.2.2.1 hm e4.1
          omega
        | succ n ih =>
          intro T hT ro2 x m J hm hlt
          have e4 := List.all_eq_true.mp e3 T hT
          obtain ⟨pc, Q, M⟩ := T
          simp only [Bool.and_eq_true] at e4 J hm
          have h0m := ab_nn_ok J.2.2.2.2.1 hm e4.1
          refine ab_adv_ok (d := d') hd h13 hK hE (fun q ro3 y hq Jq => ?_) J e4.2
          refine ab_run_ok (M := some M) (m1 := m) hd h13 hK hE (fun T2 hT2 ro4 z Jz hz => ?_) f q (ro2 ++ ro3) y (fun M1 h1 => by cases h1; rw [← List.append_assoc]; exact ab_ev_mono hm) Jq hq
          rcases hz with hz | ⟨m2, z1, z2⟩
          · cases hz
          · exact ih T2 hT2 ro4 z m2 Jz z1 (by omega)
      have hfin : ab_Fin al D mo d' Xs r h ro (0, lvc, [], h, 0, 0) := by
        refine ab_run_ok (M := none) (m1 := 0) hd h13 hK hE (fun T2 hT2 ro4 z Jz _ => ?_) f _ [] _ (fun M1 h1 => by cases h1) ?_ e2
        · have e4 := List.all_eq_true.mp e3 T2 hT2
          obtain ⟨pc, Q, M⟩ := T2
          simp only [Bool.and_eq_true] at e4
          have hev : ∃ m, ab_ev (ro ++ ro4) M = some m := by
            have h5 := e4.1
            unfold ab_nn at h5
            split at h5
            · rename_i v hv
              exact ab_lo_ev Jz.2.2.2.2.1 hv
            · cases h5
          obtain ⟨m, hm⟩ := hev
          exact key (m.toNat + 1) _ hT2 ro4 z m Jz hm (by omega)
        · rw [List.append_nil]
          exact ⟨rfl, l2, trivial, p2, p3, p4, hh, ab_fr.rf, rfl⟩
      obtain ⟨X, hX, ro2, y, i, rv, h2, k1, k2, k3, k4, k5, k6, k7⟩ := hfin
      exact ⟨X, hX, ro2, rv, h2, am_Do.of hr l1 k1 k2 k3 k4, k5, k6, k7⟩
    · cases e
  · cases e
end ABR
