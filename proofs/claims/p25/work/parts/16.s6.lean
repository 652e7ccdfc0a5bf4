theorem am_fin_inv {call : am_CALL} {lim : Nat × Nat} {mi : Nat} {as : List Value} {r2 : am_M} {pc : Nat} {lv : List (Option Value)} {rest : List Value} {h : am_H} {nc ns : Nat} {x : am_C} (e : am_fin call lim mi as r2 pc lv rest h nc ns = some x) : ∃ q, call mi as h = some q ∧ (rest.map fun v => v.category).sum ≤ 8 ∧ nc + (am_k r2).1 ≤ lim.1 ∧ ns + (am_k r2).2 ≤ lim.2 ∧ q.2.length = h.length + (am_k r2).1 ∧ x = (pc + 3, lv, q.1.toList ++ rest, q.2, nc + (am_k r2).1, ns + (am_k r2).2) := by
  unfold am_fin at e
  cases hb : (am_rsm rest && Nat.ble (nc + (am_k r2).1) lim.1 && Nat.ble (ns + (am_k r2).2) lim.2) with
  | false => rw [hb] at e; cases e
  | true =>
    rw [hb] at e
    simp only [cond_true] at e
    simp only [Bool.and_eq_true, Nat.ble_eq, am_rsm] at hb
    split at e
    · rename_i q hq
      obtain ⟨h1, h2⟩ := am_cond_inv e
      exact ⟨q, hq, hb.1.1, hb.1.2, hb.2, Nat.eq_of_beq_eq_true h1, h2.symm⟩
    · cases e
section AMI
variable {p : Program} {l : Launch} {e : Env} {R : Room} {s : State} {m : MethodId} {args : Array Value} {below : List Frame} {meth : Method} {c : Code} {H : Heap} {locs : List Loc} {Q : State → Prop} {cc : ByteArray} {G : am_G} {ls : Array Slot} {nL : Nat} {cy : Nat → ClassId} {dC : Nat → ClassId} {dI : Nat → Nat → Nat} {Ts : List Cond}
theorem am_stk {st : List Value} {q : List Value × List Value} (h : st = q.1.reverse ++ q.2) : st.map (am_tv G) = (q.1.map (am_tv G)).reverse ++ q.2.map (am_tv G) := by
  rw [h, List.map_append, List.map_reverse]
set_option maxHeartbeats 1000000 in
theorem am_s6_sound {o : Nat} {al : Bool} {call : am_CALL} {d n0 nc ns : Nat} {lim : Nat × Nat} (hx : p.tables.exec = Jvm.exec) (hb : c.code = cc) (hml : c.maxLocals = nL) (hts : ∀ w ∈ Ts, w.before args s = true) (hgd : ∀ w ∈ lw_good, w ∈ Ts) (hown : s.vm.findClass (am_R o) = some m.cls) (hK : va_K (dC, dI) am_cl (am_tys cy) s) (hX : am_X G s) (hG : G.1 ≤ s.heap.size) (hR : (d ≤ R.frames ∧ 64 * d ≤ R.locals) ∧ lim.1 ≤ R.cells ∧ lim.2 ≤ R.slots) (hcall : am_ok l G cy dC dI al call d) {h : am_H} {lv : List (Option Value)} (hl : am_lv G ls nL lv) (h0 : al = true → s.heap.size = G.1 + n0 ∧ h.length = n0 + nc) (hlim : nc ≤ lim.1 ∧ ns ≤ lim.2) (hP : va_P (dC, dI) am_cl (am_ws G cy h) H) (hS : va_S (am_A G) s.heap H locs) {i : am_I} {pc : Nat} {st : List Value} {x : am_C} (hd : am_dec cc pc i = true) (he : am_s6 call d lim o i pc lv st h nc ns = some x)
    (k : ∀ (H1 : Heap) (locs1 : List Loc), va_P (dC, dI) am_cl (am_ws G cy x.2.2.2.1) H1 → va_S (am_A G) s.heap H1 locs1 → am_lv G ls nL x.2.1 → (al = true → x.2.2.2.1.length = n0 + x.2.2.2.2.1) → x.2.2.2.2.1 ≤ lim.1 → x.2.2.2.2.2 ≤ lim.2 → W p l e R s m args below meth c H1 locs1 x.2.2.2.2.1 x.2.2.2.2.2 Q (F0 m x.1 ls (x.2.2.1.map (am_tv G)))) : W p l e R s m args below meth c H locs nc ns Q (F0 m pc ls (st.map (am_tv G))) := by
  refine am_W_size (fun hsz => ?_)
  have hroom : ∀ {d' : Nat} {r2 : am_M}, d = d' + 1 → am_L r2 ≤ 40 → (am_rm d' r2).frames + 1 ≤ R.frames ∧ 8 + (am_L r2 + 11) + (am_rm d' r2).locals ≤ R.locals := by
    intro d' r2 hd' hL
    obtain ⟨⟨hR1, hR2⟩, -⟩ := hR
    subst hd'
    exact ⟨hR1, by show 8 + (am_L r2 + 11) + 64 * d' ≤ R.locals; omega⟩
  cases i
  case invokevirtual idx =>
    unfold am_s6 at he
    simp only at he
    split at he
    · rename_i e0 hinf
      obtain ⟨pA, pB, pC, hiok⟩ := am_inf_inv hinf
      obtain ⟨e1, e2, e3, e4⟩ := e0
      simp only at he hiok
      split at he
      · rename_i q hq
        obtain ⟨hst, hlen⟩ := am_pop_inv hq
        obtain ⟨q1, q2⟩ := q
        simp only at he hst hlen
        split at he
        · rename_i b rest
          cases hk0 : Nat.beq e1 0 with
          | true =>
            rw [hk0] at he
            simp only [cond_true] at he
            have := Nat.eq_of_beq_eq_true hk0
            subst this
            split at he
            · rename_i r2 hr2
              split at he
              · rename_i fs hobj
                obtain ⟨u, hu, hcs, hc1, hc2, hln, rfl⟩ := am_fin_inv he
                obtain ⟨d', r3, hd', hr3, hM⟩ := hcall _ _ _ _ hu
                obtain rfl : r2 = r3 := Option.some.inj (hr2.symm.trans hr3)
                have hmk := am_mk r2 (List.mem_of_getElem? hr2)
                obtain ⟨-, -, -, hRy, -, hL40⟩ := am_mok_inv hmk
                unfold am_iok at hiok
                simp only [hr2, Bool.and_eq_true] at hiok
                obtain ⟨⟨⟨⟨w1, w2⟩, w3⟩, w4⟩, w5⟩ := hiok
                obtain ⟨hb1, hb2⟩ := am_obj_inv hobj
                have hci : am_cl[am_o r2]? = some (am_R (am_o r2), am_TT (am_o r2), am_NN (am_o r2)) := by
                  obtain ⟨rr, hrr, -⟩ := hP b _ (am_ws_get hb2)
                  have hlt : am_o r2 < 13 := (List.getElem?_eq_some_iff.mp hrr).1
                  exact (am_cf _ hlt).1
                have hrec := va_recv hK hP (ci := am_o r2) (q0 := b) hci (am_ws_get hb2)
                simp only [hRy] at hrec
                rw [← am_ad_lt (G := G) hb1] at hrec
                have hT : GoodIn Ts (wsV (am_R o) idx (am_y r2).cls (am_y r2) (am_w r2)) := by
                  intro w hw
                  unfold wsV at hw
                  rcases List.mem_append.mp hw with hw | hw
                  · have hw2 : w ∈ lw_good := by
                      simp only [List.mem_cons, List.not_mem_nil, or_false] at hw
                      rcases hw with rfl | rfl | rfl | rfl
                      · exact am_has_in w1
                      · exact am_has_in w2
                      · exact am_has_in w3
                      · exact am_has_in w4
                    exact ⟨hgd w hw2, (am_good_in w hw2).2⟩
                  · exact am_goodw hgd hmk w hw
                refine am_after (h := h) (al := al) (n0 := n0) (lim := lim) hS (va_runV (b := am_ad G b) (As := q1.map (am_tv G)) (rest := rest.map (am_tv G)) (C := (am_y r2).cls) ⟨hx, hb, hml, hown, hts⟩ hM (cwV e3 hts hT rfl rfl rfl ⟨rfl, am_yok_inv w5⟩ (hroom hd' hL40)) ⟨am_blind, hrec, fun U hU hW => ⟨rfl, am_pre hX hK hG h0 hP hS hsz U hU hW⟩⟩ rfl (by rw [List.length_map]; exact hlen) hl.2.1 (am_stk (q := (q1, .ref b :: rest)) hst) (lv_room (by rw [am_cat_sum]; exact hcs)) (am_dl hd rfl) ⟨by omega, by omega⟩) (fun H1 locs1 z1 z2 => ?_)
                exact k H1 locs1 z1 z2 hl (fun ha => by obtain ⟨-, hh⟩ := h0 ha; simp only; omega) hc1 hc2
              · cases he
            · cases he
          | false =>
            rw [hk0] at he
            simp only [cond_false] at he
            cases hk4 : (Nat.beq e1 4 && Nat.beq b 1000001 && am_rsm rest && Nat.ble 4 d) with
            | true =>
              rw [hk4] at he
              simp only [cond_true] at he
              simp only [Bool.and_eq_true, Nat.ble_eq, am_rsm] at hk4
              obtain ⟨⟨⟨g1, g2⟩, g3⟩, g4⟩ := hk4
              have := Nat.eq_of_beq_eq_true g1
              subst this
              have := Nat.eq_of_beq_eq_true g2
              subst this
              split at he
              · cases he
                have hw := (am_len_link hiok).1
                have hrun := am_runLen (G := G) (rest := rest.map (am_tv G)) (pc := pc) (H := H) (locs := locs) (cells := nc) (slots := ns) (p := p) (l := l) (e := e) (m := m) (below := below) (meth := meth) (ls := ls) hx hb hml hts hgd hown hX hG hS ⟨Nat.le_trans g4 hR.1.1, Nat.le_trans (Nat.mul_le_mul_left 64 g4) hR.1.2⟩ ⟨Nat.le_trans hlim.1 hR.2.1, Nat.le_trans hlim.2 hR.2.2⟩ hw hl.2.1 (by rw [am_cat_sum]; exact g3) (am_dl hd rfl)
                refine am_callG (st0 := st.map (am_tv G)) (by rw [hst]; exact hrun) hS (fun _ h => h) (fun st₀ v t z0 z1 => by rw [z1.2, z0]; exact ⟨Nat.le_refl _, fun _ _ _ => rfl⟩) (fun v st₀ t locs1 z0 z1 hS1 => ?_)
                obtain ⟨z2, z3⟩ := z1
                cases z2
                rw [z3, z0] at hS1 ⊢
                exact k H locs1 hP hS1 hl (fun ha => (h0 ha).2) hlim.1 hlim.2
              · cases he
            | false =>
              rw [hk4] at he
              simp only [cond_false] at he
              cases hk5 : (Nat.beq e1 5 && Nat.beq b 1000001 && am_rsm rest && Nat.ble 4 d) with
              | true =>
                rw [hk5] at he
                simp only [cond_true] at he
                simp only [Bool.and_eq_true, Nat.ble_eq, am_rsm] at hk5
                obtain ⟨⟨⟨g1, g2⟩, g3⟩, g4⟩ := hk5
                have := Nat.eq_of_beq_eq_true g1
                subst this
                have := Nat.eq_of_beq_eq_true g2
                subst this
                split at he
                · rename_i j
                  obtain ⟨y1, y2⟩ := am_cond_inv he
                  subst y2
                  have hw := (am_chr_link hiok).1
                  have hrun := am_runChr (G := G) (rest := rest.map (am_tv G)) (pc := pc) (H := H) (locs := locs) (cells := nc) (slots := ns) (p := p) (l := l) (e := e) (m := m) (below := below) (meth := meth) (ls := ls) (j := j) (am_in_ok y1) hx hb hml hts hgd hown hX hG hS ⟨Nat.le_trans g4 hR.1.1, Nat.le_trans (Nat.mul_le_mul_left 64 g4) hR.1.2⟩ ⟨Nat.le_trans hlim.1 hR.2.1, Nat.le_trans hlim.2 hR.2.2⟩ hw hl.2.1 (by rw [am_cat_sum]; exact g3) (am_dl hd rfl)
                  refine am_callG (st0 := st.map (am_tv G)) (by rw [hst]; exact hrun) hS (fun _ h => h) (fun st₀ v t z0 z1 => by rw [z1.2, z0]; exact ⟨Nat.le_refl _, fun _ _ _ => rfl⟩) (fun v st₀ t locs1 z0 z1 hS1 => ?_)
                  obtain ⟨z2, z3⟩ := z1
                  cases z2
                  rw [z3, z0] at hS1 ⊢
                  exact k H locs1 hP hS1 hl (fun ha => (h0 ha).2) hlim.1 hlim.2
                · cases he
              | false => rw [hk5] at he; cases he
        · cases he
      · cases he
    · cases he
  case invokestatic idx =>
    unfold am_s6 at he
    simp only at he
    split at he
    · rename_i e0 hinf
      obtain ⟨pA, pB, pC, hiok⟩ := am_inf_inv hinf
      obtain ⟨e1, e2, e3, e4⟩ := e0
      simp only at he hiok
      cases hkm : (Nat.beq e1 7 || Nat.beq e1 8) with
      | true =>
        rw [hkm] at he
        simp only [cond_true] at he
        split at he
        · rename_i y x rest
          obtain ⟨y1, y2⟩ := am_cond_inv he
          subst y2
          simp only [Bool.and_eq_true, Nat.ble_eq, am_rsm] at y1
          have hr1 : 1 ≤ R.frames := Nat.le_trans y1.2 hR.1.1
          have hr2 : 64 ≤ R.locals := Nat.le_trans (by omega) hR.1.2
          have hr3 : ((rest.map (am_tv G)).map fun v => v.category).sum + 13 ≤ R.locals := by rw [am_cat_sum]; omega
          have k2 := k H locs hP hS hl (fun ha => (h0 ha).2) hlim.1 hlim.2
          rw [Bool.or_eq_true] at hkm
          rcases hkm with hkm | hkm
          · have := Nat.eq_of_beq_eq_true hkm
            subst this
            obtain ⟨w1, w2, w3, w4⟩ := am_max_link hiok
            exact va_mmax hx hb (by rw [hml]; exact hl.2.1.symm) hown (hts _ (hgd _ w1)) (hts _ (hgd _ w2)) (hts _ (hgd _ w4)) (hts _ (hgd _ w3)) hr1 hr3 (Nat.le_trans hlim.1 hR.2.1) (Nat.le_trans hlim.2 hR.2.2) (am_dl hd rfl) k2
          · have := Nat.eq_of_beq_eq_true hkm
            subst this
            obtain ⟨w1, w2, w3, w4⟩ := am_min_link hiok
            exact va_mmin hx hb (by rw [hml]; exact hl.2.1.symm) hown (hts _ (hgd _ w1)) (hts _ (hgd _ w2)) (hts _ (hgd _ w4)) (hts _ (hgd _ w3)) hr1 hr3 (Nat.le_trans hlim.1 hR.2.1) (Nat.le_trans hlim.2 hR.2.2) (am_dl hd rfl) k2
        · cases he
      | false =>
       rw [hkm] at he
       simp only [cond_false] at he
       cases hk0 : Nat.beq e1 1 with
       | false => rw [hk0] at he; cases he
       | true =>
        rw [hk0] at he
        simp only [cond_true] at he
        have := Nat.eq_of_beq_eq_true hk0
        subst this
        split at he
        · rename_i q hq
          obtain ⟨hst, hlen⟩ := am_pop_inv hq
          obtain ⟨q1, rest⟩ := q
          simp only at he hst hlen
          split at he
          · rename_i r2 hr2
            obtain ⟨u, hu, hcs, hc1, hc2, hln, rfl⟩ := am_fin_inv he
            obtain ⟨d', r3, hd', hr3, hM⟩ := hcall _ _ _ _ hu
            obtain rfl : r2 = r3 := Option.some.inj (hr2.symm.trans hr3)
            have hmk := am_mk r2 (List.mem_of_getElem? hr2)
            obtain ⟨-, -, -, hRy, -, hL40⟩ := am_mok_inv hmk
            unfold am_iok at hiok
            simp only [hr2, Bool.and_eq_true] at hiok
            obtain ⟨⟨⟨w1, w2⟩, w4⟩, w5⟩ := hiok
            refine am_after (h := h) (al := al) (n0 := n0) (lim := lim) hS (va_runS (As := q1.map (am_tv G)) (rest := rest.map (am_tv G)) ⟨hx, hb, hml, hown, hts⟩ hM ⟨callB_of e3 hts (am_goodw hgd hmk) rfl rfl rfl (hts _ (hgd _ (am_has_in w4))) (hts _ (hgd _ (am_has_in w1))) (am_yok_inv w5) (hroom hd' hL40), hts _ (hgd _ (am_has_in w2))⟩ ⟨am_blind, fun U hU hW => ⟨rfl, am_pre hX hK hG h0 hP hS hsz U hU hW⟩⟩ rfl (by rw [List.length_map]; exact hlen) hl.2.1 (am_stk (q := (q1, rest)) hst) (lv_room (by rw [am_cat_sum]; exact hcs)) (am_dl hd rfl) ⟨by omega, by omega⟩) (fun H1 locs1 z1 z2 => ?_)
            exact k H1 locs1 z1 z2 hl (fun ha => by obtain ⟨-, hh⟩ := h0 ha; simp only; omega) hc1 hc2
          · cases he
        · cases he
    · cases he
  case invokespecial idx =>
    unfold am_s6 at he
    simp only at he
    split at he
    · rename_i e0 hinf
      obtain ⟨pA, pB, pC, hiok⟩ := am_inf_inv hinf
      obtain ⟨e1, e2, e3, e4⟩ := e0
      simp only at he hiok
      split at he
      · rename_i q hq
        obtain ⟨hst, hlen⟩ := am_pop_inv hq
        obtain ⟨q1, q2⟩ := q
        simp only at he hst hlen
        split at he
        · rename_i b rest
          cases hk3 : Nat.beq e1 3 with
          | true =>
            rw [hk3] at he
            simp only [cond_true] at he
            have := Nat.eq_of_beq_eq_true hk3
            subst this
            obtain ⟨y1, y2⟩ := am_cond_inv he
            subst y2
            simp only [Bool.and_eq_true, Nat.ble_eq, am_rsm] at y1
            obtain ⟨⟨g1, g3⟩, g4⟩ := y1
            have hz := Nat.eq_of_beq_eq_true g4
            subst hz
            have hq1 : q1 = [] := List.length_eq_zero_iff.mp hlen
            subst hq1
            simp only [List.reverse_nil, List.nil_append] at hst
            subst hst
            obtain ⟨w1, w2, w3⟩ := am_obj_link hiok
            have hr1 : 1 ≤ R.frames := Nat.le_trans g1 hR.1.1
            have hr2 : 64 ≤ R.locals := Nat.le_trans (by omega) hR.1.2
            refine W.objInit hx hb hown (hts _ (hgd _ w1)) (hts _ (hgd _ w2)) (hts _ (hgd _ w3)) rfl (by rw [hml]; exact hl.2.1) rfl (am_dl hd rfl) hr1 (by show 2 * 0 + ((rest.map (am_tv G)).map fun v => v.category).sum + 12 ≤ R.locals; rw [am_cat_sum]; omega) ?_
            exact k H locs hP hS hl (fun ha => (h0 ha).2) hlim.1 hlim.2
          | false =>
            rw [hk3] at he
            simp only [cond_false] at he
            cases hk2 : (Nat.beq e1 2 || Nat.beq e1 6) with
            | false => rw [hk2] at he; cases he
            | true =>
              rw [hk2] at he
              simp only [cond_true] at he
              split at he
              · rename_i r2 hr2
                obtain ⟨u, hu, hcs, hc1, hc2, hln, rfl⟩ := am_fin_inv he
                obtain ⟨d', r3, hd', hr3, hM⟩ := hcall _ _ _ _ hu
                obtain rfl : r2 = r3 := Option.some.inj (hr2.symm.trans hr3)
                have hmk := am_mk r2 (List.mem_of_getElem? hr2)
                obtain ⟨-, -, hini, hRy, -, hL40⟩ := am_mok_inv hmk
                rw [Bool.or_eq_true] at hk2
                rcases hk2 with hk2 | hk2
                · have := Nat.eq_of_beq_eq_true hk2
                  subst this
                  unfold am_iok at hiok
                  simp only [hr2, Bool.and_eq_true, decide_eq_true_eq] at hiok
                  obtain ⟨⟨⟨⟨⟨w1, w2⟩, w4⟩, w5⟩, w6⟩, w7⟩ := hiok
                  refine am_after (h := h) (al := al) (n0 := n0) (lim := lim) hS (va_runI (b := am_ad G b) (As := q1.map (am_tv G)) (rest := rest.map (am_tv G)) ⟨hx, hb, hml, hown, hts⟩ hM (cwI (bytes := am_b r2) (maxL := am_L r2) (ws' := lw_good) e3 hts (am_goodw hgd hmk) (by unfold am_w; rw [w7]) rfl rfl (hts _ (hgd _ (am_has_in w4))) (hts _ (hgd _ (am_has_in w1))) (hts _ (hgd _ (am_has_in w2))) (hini w6) (am_yok_inv w5) (hroom hd' hL40)) ⟨am_blind, fun U hU hW => ⟨rfl, am_pre hX hK hG h0 hP hS hsz U hU hW⟩⟩ rfl (by rw [List.length_map]; exact hlen) hl.2.1 (am_stk (q := (q1, .ref b :: rest)) hst) (lv_room (by rw [am_cat_sum]; exact hcs)) (am_dl hd rfl) ⟨by omega, by omega⟩) (fun H1 locs1 z1 z2 => ?_)
                  exact k H1 locs1 z1 z2 hl (fun ha => by obtain ⟨-, hh⟩ := h0 ha; simp only; omega) hc1 hc2
                · have := Nat.eq_of_beq_eq_true hk2
                  subst this
                  unfold am_iok at hiok
                  simp only [hr2, Bool.and_eq_true, decide_eq_true_eq] at hiok
                  obtain ⟨⟨⟨⟨⟨w1, w2⟩, w4⟩, w5⟩, w6⟩, w7⟩ := hiok
                  refine am_after (h := h) (al := al) (n0 := n0) (lim := lim) hS (va_runIN (host := "LinkedVerse") (b := am_ad G b) (As := q1.map (am_tv G)) (rest := rest.map (am_tv G)) ⟨hx, hb, hml, hown, hts⟩ hM ⟨va_cnB (bytes := am_b r2) (maxL := am_L r2) (ws' := lw_good) (ret := none) e3 hts (am_goodw hgd hmk) (by unfold am_w; rw [w7]) rfl rfl (hX.1 _ (List.mem_of_getElem? w1)) (hts _ (hgd _ (am_has_in w4))) (am_yok_inv w5) (hroom hd' hL40), hini w6, hts _ (hgd _ (am_has_in w2))⟩ ⟨am_blind, fun U hU hW => ⟨rfl, am_pre hX hK hG h0 hP hS hsz U hU hW⟩⟩ rfl (by rw [List.length_map]; exact hlen) hl.2.1 (am_stk (q := (q1, .ref b :: rest)) hst) (lv_room (by rw [am_cat_sum]; exact hcs)) (am_dl hd rfl) ⟨by omega, by omega⟩) (fun H1 locs1 z1 z2 => ?_)
                  exact k H1 locs1 z1 z2 hl (fun ha => by obtain ⟨-, hh⟩ := h0 ha; simp only; omega) hc1 hc2
              · cases he
        · cases he
      · cases he
    · cases he
  all_goals exact absurd he (by simp [am_s6])
end AMI
