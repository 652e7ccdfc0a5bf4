section AB4
variable {ro : List Int} {D : List ab_D} {N : ab_N} {F : List ab_T} {mo : ab_Mo} {st : List ab_V} {stc : List Value} {pc : Nat} {o : ab_O} {h : am_H} {q : Nat × List ab_V × ab_O}
theorem ab_nb {x : Int32} (h1 : -128 ≤ x.toInt) (h2 : x.toInt ≤ 127) : vp_nar .byte x = x := by
  have h3 : vp_nar .byte x = x.toInt8.toInt32 := rfl
  rw [h3]
  exact Int32.toInt_inj.mp ((ab_i8 x).1 h1 h2)
theorem ab_nsh {x : Int32} (h1 : -32768 ≤ x.toInt) (h2 : x.toInt ≤ 32767) : vp_nar .short x = x := by
  have h3 : vp_nar .short x = x.toInt16.toInt32 := rfl
  rw [h3]
  exact Int32.toInt_inj.mp ((ab_i16 x).1 h1 h2)
theorem ab_nbo {x : Int32} (h1 : 0 ≤ x.toInt) (h2 : x.toInt ≤ 1) : vp_nar .boolean x = x := by
  rcases ab_bool h1 h2 with rfl | rfl
  · rfl
  · rfl
set_option maxHeartbeats 400000 in
theorem ab_s4_ok {c0 : Nat} {ini : Bool} {i : am_I} (hh : ab_hok D h) (hN : ab_env ro N) (hF : ab_F ro F) (ho : ab_ov ro h o) (hs : ab_st ro st stc) (e : ab_s4 D mo c0 i pc st o N F = some q) : ab_S4 ro D mo h (am_s4 c0 ini i h pc stc) q := by
  cases i
  case putfield idx =>
    unfold ab_s4 at e
    simp only at e
    split at e
    · rename_i v a r
      split at e
      · rename_i c k hfl
        split at e
        · rename_i c2 ws hD
          split at e
          · rename_i w hw
            obtain ⟨hb, e1q⟩ := ab_cb e
            clear e
            have e := e1q
            clear e1q
            cases e
            simp only [Bool.and_eq_true] at hb
            obtain ⟨⟨⟨⟨⟨b1, b2⟩, b3⟩, b4⟩, b5⟩, b6⟩ := hb
            have := Nat.eq_of_beq_eq_true b1
            subst this
            obtain ⟨x, C, rfl, g1, g2⟩ := ab_st_cons hs
            obtain ⟨w2, C2, rfl, g3, g4⟩ := ab_st_cons g2
            obtain rfl := ab_v_ref g3
            obtain ⟨fs, f1, f2, f3, f4⟩ := ab_hok_obj hh hD b2
            obtain ⟨t1, t2⟩ := ab_fitw_ok hN hF g1 b4
            have hk : k < fs.length := by rw [f3]; exact (List.getElem?_eq_some_iff.mp hw).1
            have hl : a < h.length := (List.getElem?_eq_some_iff.mp f1).1
            refine ⟨C2, h.set a (.inr (c2, fs.set k x)), ?_, g4, ?_, ?_, ab_fr_obj b6 f1⟩
            · show (match am_fld c0 idx with
                | some f => match am_obj h a f.1 with
                  | some fs => bif Nat.blt f.2 fs.length && Nat.blt f.2 (am_NN f.1) && am_fit (am_ty f.1 f.2) x && (!(am_TT f.1 f.2).2.2.2 || (ini && Nat.beq c0 f.1)) then some (pc + 3, C2, h.set a (.inr (f.1, fs.set f.2 x))) else none
                  | none => none
                | none => none) = _
              simp only [hfl, f2, b3, t1, b5, show Nat.blt k fs.length = true by simpa [Nat.blt_eq] using hk, Bool.true_or, Bool.and_self, cond_true]
            · refine ab_ov_cons ?_ ⟨(k : Int), x, ab_ev_k _ _, ?_, g1⟩
              · refine ab_ov_set (fun p hp => ho p (List.mem_filter.mp hp).1) (fun p hp hpa j w hj hc => ?_)
                have h9 := (List.mem_filter.mp hp).2
                obtain ⟨b, t, v2⟩ := p
                simp only at hpa h9 hj
                subst hpa
                rw [show Nat.beq b b = true from Nat.beq_refl b] at h9
                simp only [Bool.not_true, Bool.false_or] at h9
                split at h9
                · rename_i j2
                  rw [Bool.and_eq_true] at h9
                  rw [ab_ev_k] at hj
                  have hj2 : j2 = j := Option.some.inj hj
                  subst hj2
                  have n1 : ¬ j2 = (k : Int) := by simpa using h9.1
                  have n2 : 0 ≤ j2 := of_decide_eq_true h9.2
                  unfold ab_cell at hc ⊢
                  rw [f1] at hc
                  rw [List.getElem?_set_self hl]
                  simp only [decide_eq_true n2, cond_true] at hc ⊢
                  rw [List.getElem?_set_ne (by omega)]
                  exact hc
                · cases h9
              · rw [ab_cell_obj (List.getElem?_set_self hl)]
                exact List.getElem?_set_self hk
            · refine ab_hok_set hh hD ⟨fs.set k x, rfl, by rw [List.length_set]; exact f3, fun j w3 v3 e1 e2 => ?_⟩
              by_cases hj : k = j
              · subst hj
                rw [List.getElem?_set_self hk] at e2
                cases e2
                rw [hw] at e1
                cases e1
                exact t2
              · rw [List.getElem?_set_ne hj] at e2
                exact f4 j w3 v3 e1 e2
          · cases e
        · cases e
      · cases e
    · cases e
  case iastore =>
    have e2 : ab_st4 D mo 1 (-2147483648) 2147483647 pc st o N F = some q := e
    obtain ⟨h1, -⟩ := ab_st4_ok (ty := 1) (g := fun v => v) rfl (fun _ _ _ => rfl) hh hN hF ho hs e2
    exact h1
  case bastore =>
    unfold ab_s4 at e
    simp only at e
    split at e
    · rename_i q2 hq2
      cases e
      obtain ⟨⟨st2, h2, k1, k2⟩, -⟩ := ab_st4_ok (ty := 0) (g := vp_nar .byte) rfl (fun _ => ab_nb) hh hN hF ho hs hq2
      refine ⟨st2, h2, ?_, k2⟩
      show am_or (am_ast h pc stc 0 (vp_nar .byte)) _ = _
      rw [k1]
      rfl
    · obtain ⟨⟨st2, h2, k1, k2⟩, v, i, a, r, rfl, n, f, hf⟩ := ab_st4_ok (ty := 4) (g := vp_nar .boolean) rfl (fun _ => ab_nbo) hh hN hF ho hs e
      refine ⟨st2, h2, ?_, k2⟩
      have h0 : am_ast h pc (.int v :: .int i :: .ref a :: r) 0 (vp_nar .byte) = none := by
        unfold am_ast am_ari
        simp only [hf]
        cases Nat.blt a 1000000 <;> rfl
      show am_or (am_ast h pc (.int v :: .int i :: .ref a :: r) 0 (vp_nar .byte)) (am_ast h pc (.int v :: .int i :: .ref a :: r) 4 (vp_nar .boolean)) = _
      rw [h0, k1]
      rfl
  case sastore =>
    have e2 : ab_st4 D mo 3 (-32768) 32767 pc st o N F = some q := e
    obtain ⟨h1, -⟩ := ab_st4_ok (ty := 3) (g := vp_nar .short) rfl (fun _ => ab_nsh) hh hN hF ho hs e2
    exact h1
  case lastore =>
    unfold ab_s4 at e
    simp only at e
    split at e
    · rename_i u t a r
      split at e
      · rename_i t2 n lo hi m hD
        obtain ⟨hb, e1q⟩ := ab_cb e
        clear e
        have e := e1q
        clear e1q
        cases e
        simp only [Bool.and_eq_true] at hb
        obtain ⟨⟨⟨b1, b2⟩, b3⟩, b4⟩ := hb
        have := Nat.eq_of_beq_eq_true b1
        subst this
        obtain ⟨w, C, rfl, g1, g2⟩ := ab_st_cons hs
        obtain ⟨w2, C2, rfl, g3, g4⟩ := ab_st_cons g2
        obtain ⟨w3, C3, rfl, g5, g6⟩ := ab_st_cons g4
        obtain ⟨y, rfl⟩ := ab_v_long g1
        obtain ⟨i, rfl, gi⟩ := ab_v_int g3
        obtain rfl := ab_v_ref g5
        obtain ⟨f, f1, f2⟩ := ab_hok_arl hh hD b2
        obtain ⟨r1, r2⟩ := ab_rng_ok hN hF gi b3
        obtain ⟨x1, x2, x3⟩ := ab_inx r1 r2
        refine ⟨C3, h.set a (.inl (2, n, .inr (.inl (vp_updL f i.toNatClampNeg y)))), ?_, g6, ab_dropA_ok hN gi (fun j w _ => ab_cell_arl f1 j w) ho, ab_hok_set hh hD (Or.inr ⟨rfl, _, rfl⟩), ab_fr_arr b4 f1⟩
        show am_lst h pc (.long y :: .int i :: .ref a :: C3) 2 = _
        unfold am_lst
        simp only [f2, x1, cond_true]
      · cases e
    · cases e
  all_goals cases e
end AB4
