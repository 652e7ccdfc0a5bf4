/-! ===== each instruction of the small machine is one of the machine: cells ===== -/
theorem am_or_inv {α : Type} {x y : Option α} {v : α} (h : am_or x y = some v) : x = some v ∨ y = some v := by
  unfold am_or at h
  split at h
  · exact Or.inl h
  · exact Or.inr h
theorem am_ald_inv {h : am_H} {pc : Nat} {st : List Value} {t : Nat} {x : Nat × List Value} (e : am_ald h pc st t = some x) : ∃ i a r n f, st = .int i :: .ref a :: r ∧ a < 1000000 ∧ h[a]? = some (.inl (t, n, .inl f)) ∧ vp_in i n ∧ x = (pc + 1, .int (f i.toNatClampNeg) :: r) := by
  unfold am_ald at e
  split at e
  · split at e
    · rename_i n f hy
      obtain ⟨h1, h2⟩ := am_ari_inv hy
      obtain ⟨h3, h4⟩ := am_cond_inv e
      exact ⟨_, _, _, _, _, rfl, h1, h2, am_in_ok h3, h4.symm⟩
    · cases e
  · cases e
theorem am_lld_inv {h : am_H} {pc : Nat} {st : List Value} {t : Nat} {x : Nat × List Value} (e : am_lld h pc st t = some x) : ∃ i a r n f, st = .int i :: .ref a :: r ∧ a < 1000000 ∧ h[a]? = some (.inl (t, n, .inr (.inl f))) ∧ vp_in i n ∧ x = (pc + 1, .long (f i.toNatClampNeg) :: r) := by
  unfold am_lld at e
  split at e
  · split at e
    · rename_i n f hy
      obtain ⟨h1, h2⟩ := am_arl_inv hy
      obtain ⟨h3, h4⟩ := am_cond_inv e
      exact ⟨_, _, _, _, _, rfl, h1, h2, am_in_ok h3, h4.symm⟩
    · cases e
  · cases e
theorem am_scl_inv {S : am_S} {pc : Nat} {st : List Value} {x : Nat × List Value} (e : am_scl S pc st = some x) : ∃ i r, st = .int i :: .ref 1000000 :: r ∧ vp_in i S.1 ∧ x = (pc + 1, .int (S.2 i.toNatClampNeg) :: r) := by
  unfold am_scl at e
  split at e
  · obtain ⟨h3, h4⟩ := am_cond_inv e
    rw [Bool.and_eq_true] at h3
    have := Nat.eq_of_beq_eq_true h3.1
    subst this
    exact ⟨_, _, rfl, am_in_ok h3.2, h4.symm⟩
  · cases e
theorem am_ast_inv {h : am_H} {pc : Nat} {st : List Value} {t : Nat} {g : Int32 → Int32} {x : Nat × List Value × am_H} (e : am_ast h pc st t g = some x) : ∃ v i a r n f, st = .int v :: .int i :: .ref a :: r ∧ a < 1000000 ∧ h[a]? = some (.inl (t, n, .inl f)) ∧ vp_in i n ∧ x = (pc + 1, r, h.set a (.inl (t, n, .inl (upd f i.toNatClampNeg (g v))))) := by
  unfold am_ast at e
  split at e
  · split at e
    · rename_i n f hy
      obtain ⟨h1, h2⟩ := am_ari_inv hy
      obtain ⟨h3, h4⟩ := am_cond_inv e
      exact ⟨_, _, _, _, _, _, rfl, h1, h2, am_in_ok h3, h4.symm⟩
    · cases e
  · cases e
theorem am_lst_inv {h : am_H} {pc : Nat} {st : List Value} {t : Nat} {x : Nat × List Value × am_H} (e : am_lst h pc st t = some x) : ∃ v i a r n f, st = .long v :: .int i :: .ref a :: r ∧ a < 1000000 ∧ h[a]? = some (.inl (t, n, .inr (.inl f))) ∧ vp_in i n ∧ x = (pc + 1, r, h.set a (.inl (t, n, .inr (.inl (vp_updL f i.toNatClampNeg v))))) := by
  unfold am_lst at e
  split at e
  · split at e
    · rename_i n f hy
      obtain ⟨h1, h2⟩ := am_arl_inv hy
      obtain ⟨h3, h4⟩ := am_cond_inv e
      exact ⟨_, _, _, _, _, _, rfl, h1, h2, am_in_ok h3, h4.symm⟩
    · cases e
  · cases e
theorem am_own_all : (List.range 13).all (fun c => (List.range (am_NN c)).all (fun k => decide ((am_TT c k).1 = am_R c))) = true := by decide +kernel
theorem am_own_eq {o idx : Nat} {f : Nat × Nat} (h : am_fld o idx = some f) : (am_TT f.1 f.2).1 = am_R f.1 := by
  have h1 := am_fld_inv h
  have h2 : f.1 < 13 := by
    have := (List.getElem?_eq_some_iff.mp h1.1.1).1
    exact this
  exact of_decide_eq_true (List.all_eq_true.mp (List.all_eq_true.mp am_own_all f.1 (List.mem_range.mpr h2)) f.2 (List.mem_range.mpr h1.2.1))
section AMH
variable {p : Program} {l : Launch} {e : Env} {R : Room} {s : State} {m : MethodId} {args : Array Value} {below : List Frame} {meth : Method} {c : Code} {H : Heap} {locs : List Loc} {cells slots : Nat} {Q : State → Prop} {cc : ByteArray} {G : am_G} {ls : Array Slot} {cy : Nat → ClassId} {dC : Nat → ClassId} {dI : Nat → Nat → Nat} {Ts : List Cond}
theorem am_tys_get {t : Nat} (h : t < 5) : ∃ ty, (am_tys cy)[t]? = some (cy t, ty) := by
  match t, h with
  | 0, _ => exact ⟨_, rfl⟩
  | 1, _ => exact ⟨_, rfl⟩
  | 2, _ => exact ⟨_, rfl⟩
  | 3, _ => exact ⟨_, rfl⟩
  | 4, _ => exact ⟨_, rfl⟩
  | n + 5, h => exact absurd h (by omega)
theorem am_s3_sound {S : am_S} {o : Nat} (hx : p.tables.exec = Jvm.exec) (hb : c.code = cc) (hts : ∀ w ∈ Ts, w.before args s = true) (hgd : ∀ w ∈ lw_good, w ∈ Ts) (hown : s.vm.findClass (am_R o) = some m.cls) (hK : va_K (dC, dI) am_cl (am_tys cy) s) (hX : o = 13 → va_X G.2.1 S.1 S.2 s s.heap ∧ G.2.1 < s.heap.size ∧ G.2.1 < G.1) (hR : ∃ tx, vk_R RX5 26 tx G.2.2 s) {h : am_H} (hP : va_P (dC, dI) am_cl (am_ws G cy h) H) (hS : va_S (am_A G) s.heap H locs) {i : am_I} {pc : Nat} {st : List Value} {x : Nat × List Value} (hd : am_dec cc pc i = true) (he : am_s3 S o i h pc st = some x)
    (k : W p l e R s m args below meth c H locs cells slots Q (F0 m x.1 ls (x.2.map (am_tv G)))) : W p l e R s m args below meth c H locs cells slots Q (F0 m pc ls (st.map (am_tv G))) := by
  cases i
  case getfield idx =>
    unfold am_s3 at he
    simp only at he
    split at he
    · rename_i a r
      split at he
      · rename_i f hf
        split at he
        · rename_i fs hfs
          split at he
          · rename_i v hv
            cases he
            obtain ⟨h1, h2, h3⟩ := am_fld_inv hf
            obtain ⟨h4, h5⟩ := am_obj_inv hfs
            show W p l e R s m args below meth c H locs cells slots Q (F0 m pc ls (.ref (am_ad G a) :: r.map (am_tv G)))
            rw [am_ad_lt h4]
            exact va_get (D := (dC, dI)) (C := am_R f.1) (T := am_TT f.1) (N := am_NN f.1) (ci := f.1) (v := am_tv G v) hx hb hts (fun w hw => hgd w (h1.2.1 w hw)) hown hK hP a (am_ws_get h5) h1.1 f.2 h2 (hts _ (hgd _ h3)) (fun _ h9 => h9) (by rw [List.getElem?_map, hv]; rfl) (am_dl hd rfl) k
          · cases he
        · cases he
      · cases he
    · cases he
  case iaload =>
    rcases am_or_inv he with he | he
    · obtain ⟨i, a, r, n, f, rfl, h1, h2, h3, rfl⟩ := am_ald_inv he
      show W p l e R s m args below meth c H locs cells slots Q (F0 m pc ls (.int i :: .ref (am_ad G a) :: r.map (am_tv G)))
      rw [am_ad_lt h1]
      exact va_iald hx hb hK hP a 1 (am_ws_get h2) rfl h3 (am_dl hd rfl) k
    · cases ho : Nat.beq o 13 with
      | false => rw [ho] at he; cases he
      | true =>
        rw [ho] at he
        obtain ⟨h1, h2, h4⟩ := hX (Nat.eq_of_beq_eq_true ho)
        obtain ⟨i, r, rfl, h3, rfl⟩ := am_scl_inv he
        exact va_sld hx hb h1 h2 (Nat.not_le.mpr h4) hS h3 (am_dl hd rfl) k
  case baload =>
    rcases am_or_inv he with he | he
    · obtain ⟨i, a, r, n, f, rfl, h1, h2, h3, rfl⟩ := am_ald_inv he
      show W p l e R s m args below meth c H locs cells slots Q (F0 m pc ls (.int i :: .ref (am_ad G a) :: r.map (am_tv G)))
      rw [am_ad_lt h1]
      exact va_bald hx hb hK hP a 0 (am_ws_get h2) rfl h3 (am_dl hd rfl) k
    · obtain ⟨i, a, r, n, f, rfl, h1, h2, h3, rfl⟩ := am_ald_inv he
      show W p l e R s m args below meth c H locs cells slots Q (F0 m pc ls (.int i :: .ref (am_ad G a) :: r.map (am_tv G)))
      rw [am_ad_lt h1]
      exact va_zald hx hb hK hP a 4 (am_ws_get h2) rfl h3 (am_dl hd rfl) k
  case saload =>
    obtain ⟨i, a, r, n, f, rfl, h1, h2, h3, rfl⟩ := am_ald_inv he
    show W p l e R s m args below meth c H locs cells slots Q (F0 m pc ls (.int i :: .ref (am_ad G a) :: r.map (am_tv G)))
    rw [am_ad_lt h1]
    exact va_sald hx hb hK hP a 3 (am_ws_get h2) rfl h3 (am_dl hd rfl) k
  case laload =>
    obtain ⟨i, a, r, n, f, rfl, h1, h2, h3, rfl⟩ := am_lld_inv he
    show W p l e R s m args below meth c H locs cells slots Q (F0 m pc ls (.int i :: .ref (am_ad G a) :: r.map (am_tv G)))
    rw [am_ad_lt h1]
    exact va_lald hx hb hK hP a 2 (am_ws_get h2) rfl h3 (am_dl hd rfl) k
  case arraylength =>
    unfold am_s3 at he
    simp only at he
    split at he
    · rename_i a r
      cases ho : (Nat.beq o 13 && Nat.beq a 1000000) with
      | true =>
        rw [ho] at he
        cases he
        rw [Bool.and_eq_true] at ho
        obtain ⟨h1, h2, h4⟩ := hX (Nat.eq_of_beq_eq_true ho.1)
        have := Nat.eq_of_beq_eq_true ho.2
        subst this
        exact va_slen hx hb h1 h2 (Nat.not_le.mpr h4) hS (am_dl hd rfl) k
      | false =>
        rw [ho] at he
        simp only [cond_false] at he
        cases ha : Nat.blt a 1000000 with
        | false => rw [ha] at he; cases he
        | true =>
          rw [ha] at he
          simp only [cond_true] at he
          have h4 : a < 1000000 := by simpa [Nat.blt_eq] using ha
          split at he
          · rename_i y hy
            obtain ⟨h5, h6⟩ := am_cond_inv he
            subst h6
            obtain ⟨ty, ht⟩ := am_tys_get (cy := cy) (show y.1 < 5 by simpa [Nat.blt_eq] using h5)
            show W p l e R s m args below meth c H locs cells slots Q (F0 m pc ls (.ref (am_ad G a) :: r.map (am_tv G)))
            rw [am_ad_lt h4]
            exact va_alen hx hb hK hP a y.1 (cA := cy y.1) (x := y.2) (am_ws_get hy) ht rfl (am_dl hd rfl) k
          · cases he
    · cases he
  case ldc idx =>
    unfold am_s3 at he
    simp only at he
    split at he
    · rename_i v hv
      cases he
      exact lv_ldc hx hb hown (hts _ (hgd _ ((am_kst_inv hv).1 _ rfl))) (am_dl hd rfl) k
    · cases he
    · obtain ⟨h5, h6⟩ := am_cond_inv he
      subst h6
      rw [Bool.and_eq_true] at h5
      have h7 := Nat.eq_of_beq_eq_true h5.1
      have h8 := Nat.eq_of_beq_eq_true h5.2
      subst h7
      subst h8
      obtain ⟨tx, hR⟩ := hR
      exact va_ldcS hx hb hown hR (am_dl hd rfl) k
  case ldc_w idx =>
    unfold am_s3 at he
    simp only at he
    split at he
    · rename_i v hv
      cases he
      exact lv_ldcw hx hb hown (hts _ (hgd _ ((am_kst_inv hv).1 _ rfl))) (am_dl hd rfl) k
    · cases he
  case ldc2_w idx =>
    unfold am_s3 at he
    simp only at he
    split at he
    · rename_i v hv
      cases he
      exact lv_ldc2 hx hb hown (hts _ (hgd _ ((am_kst_inv hv).2 _ rfl))) (am_dl hd rfl) k
    · cases he
  all_goals exact absurd he (by simp [am_s3])
theorem am_te_set {ci k : Nat} {fs : List Value} {v : Value} : am_te G cy (.inr (ci, fs.set k v)) = .inr (ci, (fs.map (am_tv G)).set k (am_tv G v)) := by
  simp [am_te, List.map_set]
theorem am_s4_sound {o : Nat} {ini : Bool} (hx : p.tables.exec = Jvm.exec) (hb : c.code = cc) (hts : ∀ w ∈ Ts, w.before args s = true) (hgd : ∀ w ∈ lw_good, w ∈ Ts) (hown : s.vm.findClass (am_R o) = some m.cls) (hK : va_K (dC, dI) am_cl (am_tys cy) s) (hin : ini = true → meth.name = "<init>") {h : am_H} (hP : va_P (dC, dI) am_cl (am_ws G cy h) H) (hS : va_S (am_A G) s.heap H locs) {i : am_I} {pc : Nat} {st : List Value} {x : Nat × List Value × am_H} (hd : am_dec cc pc i = true) (he : am_s4 o ini i h pc st = some x)
    (k : ∀ (H1 : Heap) (locs1 : List Loc), va_P (dC, dI) am_cl (am_ws G cy x.2.2) H1 → va_S (am_A G) s.heap H1 locs1 → W p l e R s m args below meth c H1 locs1 cells slots Q (F0 m x.1 ls (x.2.1.map (am_tv G)))) : W p l e R s m args below meth c H locs cells slots Q (F0 m pc ls (st.map (am_tv G))) := by
  cases i
  case putfield idx =>
    unfold am_s4 at he
    simp only at he
    split at he
    · rename_i v a r
      split at he
      · rename_i f hf
        split at he
        · rename_i fs hfs
          obtain ⟨h6, h7⟩ := am_cond_inv he
          subst h7
          obtain ⟨h1, h2, h3⟩ := am_fld_inv hf
          obtain ⟨h4, h5⟩ := am_obj_inv hfs
          simp only [Bool.and_eq_true, Nat.blt_eq] at h6
          obtain ⟨⟨⟨h8, h9⟩, h10⟩, h11⟩ := h6
          have h10 := am_fit_ok h10
          show W p l e R s m args below meth c H locs cells slots Q (F0 m pc ls (am_tv G v :: .ref (am_ad G a) :: r.map (am_tv G)))
          rw [am_ad_lt h4]
          cases hfin : (am_TT f.1 f.2).2.2.2 with
          | false =>
            exact va_put (D := (dC, dI)) (C := am_R f.1) (T := am_TT f.1) (N := am_NN f.1) (ci := f.1) (v := am_tv G v) (ty := am_ty f.1 f.2) hx hb hts (fun w hw => hgd w (h1.2.1 w hw)) (am_ty f.1) h1.2.2.1 h1.2.2.2.1 hown hK hP am_D hS a (am_ws_get h5) h1.1 f.2 h2 (hts _ (hgd _ h3)) (fun _ h9 => h9) hfin (h1.2.2.1 _ h2) (am_tv_nar G _ _ h10.2) (am_tv_fits G _ _ h10.1) (by rw [List.length_map]; exact h8) (am_dl hd rfl) (fun H1 locs1 q1 q2 q3 => k H1 locs1 (by rw [← am_ws_set, am_te_set]; exact q1) q3)
          | true =>
            rw [hfin] at h11
            simp only [Bool.not_true, Bool.false_or, Bool.and_eq_true] at h11
            have hof := Nat.eq_of_beq_eq_true h11.2
            subst hof
            exact va_putF (D := (dC, dI)) (C := am_R f.1) (T := am_TT f.1) (N := am_NN f.1) (ci := f.1) (v := am_tv G v) (ty := am_ty f.1 f.2) hx hb hts (fun w hw => hgd w (h1.2.1 w hw)) (am_ty f.1) h1.2.2.1 h1.2.2.2.1 hown hK hP am_D hS a (am_ws_get h5) h1.1 f.2 h2 (hts _ (hgd _ h3)) (fun _ h9 => h9) hfin (hin h11.1) (am_own_eq hf) (h1.2.2.1 _ h2) (am_tv_nar G _ _ h10.2) (am_tv_fits G _ _ h10.1) (by rw [List.length_map]; exact h8) (am_dl hd rfl) (fun H1 locs1 q1 q2 q3 => k H1 locs1 (by rw [← am_ws_set, am_te_set]; exact q1) q3)
        · cases he
      · cases he
    · cases he
  case iastore =>
    obtain ⟨v, i, a, r, n, f, rfl, h1, h2, h3, rfl⟩ := am_ast_inv he
    show W p l e R s m args below meth c H locs cells slots Q (F0 m pc ls (.int v :: .int i :: .ref (am_ad G a) :: r.map (am_tv G)))
    rw [am_ad_lt h1]
    exact va_iast hx hb hK hP am_D hS a 1 (am_ws_get h2) rfl h3 (am_dl hd rfl) (fun H1 locs1 q1 q2 q3 => k H1 locs1 (by rw [← am_ws_set]; exact q1) q3)
  case bastore =>
    rcases am_or_inv he with he | he
    · obtain ⟨v, i, a, r, n, f, rfl, h1, h2, h3, rfl⟩ := am_ast_inv he
      show W p l e R s m args below meth c H locs cells slots Q (F0 m pc ls (.int v :: .int i :: .ref (am_ad G a) :: r.map (am_tv G)))
      rw [am_ad_lt h1]
      exact va_bast hx hb hK hP am_D hS a 0 (am_ws_get h2) rfl h3 (am_dl hd rfl) (fun H1 locs1 q1 q2 q3 => k H1 locs1 (by rw [← am_ws_set]; exact q1) q3)
    · obtain ⟨v, i, a, r, n, f, rfl, h1, h2, h3, rfl⟩ := am_ast_inv he
      show W p l e R s m args below meth c H locs cells slots Q (F0 m pc ls (.int v :: .int i :: .ref (am_ad G a) :: r.map (am_tv G)))
      rw [am_ad_lt h1]
      exact va_zast hx hb hK hP am_D hS a 4 (am_ws_get h2) rfl h3 (am_dl hd rfl) (fun H1 locs1 q1 q2 q3 => k H1 locs1 (by rw [← am_ws_set]; exact q1) q3)
  case sastore =>
    obtain ⟨v, i, a, r, n, f, rfl, h1, h2, h3, rfl⟩ := am_ast_inv he
    show W p l e R s m args below meth c H locs cells slots Q (F0 m pc ls (.int v :: .int i :: .ref (am_ad G a) :: r.map (am_tv G)))
    rw [am_ad_lt h1]
    exact va_sast hx hb hK hP am_D hS a 3 (am_ws_get h2) rfl h3 (am_dl hd rfl) (fun H1 locs1 q1 q2 q3 => k H1 locs1 (by rw [← am_ws_set]; exact q1) q3)
  case lastore =>
    obtain ⟨v, i, a, r, n, f, rfl, h1, h2, h3, rfl⟩ := am_lst_inv he
    show W p l e R s m args below meth c H locs cells slots Q (F0 m pc ls (.long v :: .int i :: .ref (am_ad G a) :: r.map (am_tv G)))
    rw [am_ad_lt h1]
    exact va_last hx hb hK hP am_D hS a 2 (am_ws_get h2) rfl h3 (am_dl hd rfl) (fun H1 locs1 q1 q2 q3 => k H1 locs1 (by rw [← am_ws_set]; exact q1) q3)
  all_goals exact absurd he (by simp [am_s4])
theorem am_W_size {g : JFrame} (k : H.size ≤ s.heap.size + cells → W p l e R s m args below meth c H locs cells slots Q g) : W p l e R s m args below meth c H locs cells slots Q g := by
  intro T hT X
  refine k ?_ T hT X
  have h1 := X.same.2.2.1
  rw [← hT]
  exact h1
theorem am_low {h : am_H} (hP : va_P (dC, dI) am_cl (am_ws G cy h) H) (hz : G.1 ≤ H.size) : G.1 + h.length ≤ H.size := by
  cases hn : h.length with
  | zero => exact hz
  | succ n =>
    have h1 : h[n]? = some (h[n]'(by omega)) := List.getElem?_eq_getElem (by omega)
    have h2 := (hP n _ (am_ws_get h1)).lt
    simp only at h2
    omega
theorem am_fresh {h : am_H} {q : Nat} {ev : va_E} {n0 nc : Nat} (hP : va_P (dC, dI) am_cl (am_ws G cy h ++ [(q, ev)]) H) (hD : va_D (am_A G) (am_ws G cy h ++ [(q, ev)])) (hz : H.size ≤ s.heap.size + (nc + 1)) (h0 : s.heap.size = G.1 + n0) (hn : h.length = n0 + nc) : q = G.1 + h.length := by
  have hk : (am_ws G cy h ++ [(q, ev)])[h.length]? = some (q, ev) := by
    rw [List.getElem?_append_right (by rw [am_ws_len]; exact Nat.le_refl _), am_ws_len]
    simp
  have h1 := (hP _ _ hk).lt
  simp only at h1
  have h2 : G.1 ≤ q := hD.2 _ _ hk
  by_cases hq : q = G.1 + h.length
  · exact hq
  · have h3 : q - G.1 < h.length := by omega
    have h4 : h[q - G.1]? = some (h[q - G.1]'h3) := List.getElem?_eq_getElem h3
    have h5 : (am_ws G cy h ++ [(q, ev)])[q - G.1]? = some (G.1 + (q - G.1), am_te G cy (h[q - G.1]'h3)) := by
      rw [List.getElem?_append_left (by rw [am_ws_len]; exact h3)]
      exact am_ws_get h4
    have h6 := hD.1 _ _ _ _ h5 hk (by show G.1 + (q - G.1) = q; omega)
    omega
theorem am_s5_sound {o : Nat} {al : Bool} {lim : Nat × Nat} {n0 nc ns : Nat} (hx : p.tables.exec = Jvm.exec) (hb : c.code = cc) (hts : ∀ w ∈ Ts, w.before args s = true) (hgd : ∀ w ∈ lw_good, w ∈ Ts) (hown : s.vm.findClass (am_R o) = some m.cls) (hK : va_K (dC, dI) am_cl (am_tys cy) s) (hG : G.1 ≤ s.heap.size) (hR : lim.1 ≤ R.cells ∧ lim.2 ≤ R.slots) {h : am_H} (h0 : al = true → s.heap.size = G.1 + n0 ∧ h.length = n0 + nc) (hP : va_P (dC, dI) am_cl (am_ws G cy h) H) (hS : va_S (am_A G) s.heap H locs) {i : am_I} {pc : Nat} {st : List Value} {x : Nat × List Value × am_H × Nat × Nat} (hd : am_dec cc pc i = true) (he : am_s5 al lim o i pc st h nc ns = some x)
    (k : ∀ (H1 : Heap) (locs1 : List Loc), va_P (dC, dI) am_cl (am_ws G cy x.2.2.1) H1 → va_S (am_A G) s.heap H1 locs1 → (al = true → x.2.2.1.length = n0 + x.2.2.2.1) → x.2.2.2.1 ≤ lim.1 → x.2.2.2.2 ≤ lim.2 → W p l e R s m args below meth c H1 locs1 x.2.2.2.1 x.2.2.2.2 Q (F0 m x.1 ls (x.2.1.map (am_tv G)))) : W p l e R s m args below meth c H locs nc ns Q (F0 m pc ls (st.map (am_tv G))) := by
  have hA : ∀ q : Nat, s.heap.size ≤ q → am_A G q := fun q h => Nat.le_trans hG h
  cases i
  case new idx =>
    unfold am_s5 at he
    simp only at he
    split at he
    · rename_i ci hci
      obtain ⟨h6, h7⟩ := am_cond_inv he
      subst h7
      simp only [Bool.and_eq_true, Nat.blt_eq, Nat.ble_eq] at h6
      obtain ⟨⟨⟨⟨hal, h8⟩, h9⟩, h10⟩, h11⟩ := h6
      obtain ⟨h1, h2⟩ := am_new_inv hci
      obtain ⟨hz, hn⟩ := h0 hal
      refine va_new (ci := ci) (fs := am_def ci) (C := am_R ci) (T := am_TT ci) (N := am_NN ci) hx hb hts (fun w hw => hgd w (h1.2.1 w hw)) (am_ty ci) h1.2.2.1 hown (hts _ (hgd _ h2)) (hts _ (hgd _ h1.2.2.2.2.1)) (hts _ (hgd _ h1.2.2.2.2.2)) hK hP am_D hS hA h1.1 (fun j hj => ?_) (by omega) (by omega) (am_dl hd rfl) (fun q H1 q1 q2 q3 => ?_)
      · unfold vp_V am_def
        rw [List.getD_eq_getElem?_getD, List.getElem?_map, List.getElem?_range hj]
        rfl
      · refine am_W_size (fun hsz => ?_)
        have hq := am_fresh q1 q2 hsz hz hn
        subst hq
        have e1 : am_te G cy (.inr (ci, am_def ci)) = .inr (ci, am_def ci) := by
          show Sum.inr (ci, (am_def ci).map (am_tv G)) = _
          congr 2
          unfold am_def
          rw [List.map_map]
          apply List.map_congr_left
          intro j _
          show am_tv G (defaultValue (am_ty ci j)) = defaultValue (am_ty ci j)
          cases am_ty ci j <;> rfl
        rw [← e1, am_ws_push] at q1
        have e2 : am_ad G h.length = G.1 + h.length := am_ad_lt h9
        have k2 := k H1 locs q1 q3 (fun _ => by simp only [List.length_append, List.length_singleton]; omega) h10 h11
        simp only [List.map_cons, am_tv, e2] at k2
        exact k2
    · cases he
  case newarray t =>
    unfold am_s5 at he
    simp only at he
    split at he
    · rename_i n r
      split at he
      · rename_i y hy
        obtain ⟨h6, h7⟩ := am_cond_inv he
        subst h7
        simp only [Bool.and_eq_true, Nat.blt_eq, Nat.ble_eq, Bool.not_eq_true', decide_eq_false_iff_not] at h6
        obtain ⟨⟨⟨⟨⟨hal, h8⟩, h9⟩, h10⟩, h11⟩, h12⟩ := h6
        obtain ⟨hz, hn⟩ := h0 hal
        have key : ∃ ty, newarray.typeOf t = ty ∧ (∀ cA : ClassId, vp_cell cA (n.toNatClampNeg, y.2.2.2) = arrV cA n.toNatClampNeg (fun _ => defaultValue ty)) ∧ n.toNatClampNeg * componentBytes ty ≤ 536870912 ∧ Cond.arrayClass ty ∈ lw_good ∧ (am_tys cy)[y.1]? = some (cy y.1, ty) ∧ "[" ++ ty.toString = "[" ++ ty.toString ∧ ((∃ C, ty = .object C) → False) := by
          cases t <;> simp only [am_fty] at hy <;> cases hy
          · exact ⟨.boolean, rfl, fun _ => rfl, h10, am_arr_boolean, rfl, rfl, fun ⟨C, h⟩ => by cases h⟩
          · exact ⟨.byte, rfl, fun _ => rfl, h10, am_arr_byte, rfl, rfl, fun ⟨C, h⟩ => by cases h⟩
          · exact ⟨.short, rfl, fun _ => rfl, h10, am_arr_short, rfl, rfl, fun ⟨C, h⟩ => by cases h⟩
          · exact ⟨.int, rfl, fun _ => rfl, h10, am_arr_int, rfl, rfl, fun ⟨C, h⟩ => by cases h⟩
          · exact ⟨.long, rfl, fun _ => rfl, h10, am_arr_long, rfl, rfl, fun ⟨C, h⟩ => by cases h⟩
        obtain ⟨ty, hty, ha0, hby, harr, hget, -, hno⟩ := key
        refine va_newa (ty := ty) (a0 := (n.toNatClampNeg, y.2.2.2)) hx hb (by rw [hty]; exact hts _ (hgd _ harr)) hty hK hP am_D hS hA ha0 h8 rfl hby (by omega) (by omega) (am_dl hd rfl) (fun q cA H1 q0 q1 q2 q3 => ?_)
        refine am_W_size (fun hsz => ?_)
        have hq := am_fresh q1 q2 hsz hz hn
        subst hq
        have hcA : cA = cy y.1 := by
          have e1 := (q0.2 5 (cA, ty) rfl).2
          have e2 := (hK.2 y.1 _ hget).2
          unfold va_RA at e1 e2
          cases ty <;> first | exact absurd ⟨_, rfl⟩ hno | exact Option.some.inj (e1.symm.trans e2)
        subst hcA
        have q4 : va_P (dC, dI) am_cl (am_ws G cy (h ++ [.inl (y.1, n.toNatClampNeg, y.2.2.2)])) H1 := by rw [← am_ws_push]; exact q1
        have e2 : am_ad G h.length = G.1 + h.length := am_ad_lt h9
        have k2 := k H1 locs q4 q3 (fun _ => by simp only [List.length_append, List.length_singleton]; omega) h11 h12
        simp only [List.map_cons, am_tv, e2] at k2
        exact k2
      · cases he
    · cases he
  all_goals exact absurd he (by simp [am_s5])
end AMH
