/-! ===== the law's liking is met ===== -/
theorem am_KT : GoodIn am_wK (wsV "LinkedVerseLaw" 7 RX11 (am_y am_r148) (am_w am_r148)) := by
  intro w hw
  unfold wsV at hw
  rcases List.mem_append.mp hw with hw | hw
  · have h1 : w ∈ lw_tbl ∧ goodWord w = true := am_Kg 0 w hw
    have hw2 : w ∈ lw_good := List.mem_filter.mpr h1
    exact ⟨List.mem_cons_of_mem _ hw2, (am_good_in w hw2).2⟩
  · exact am_goodw (fun w h => List.mem_cons_of_mem _ h) am_mk148 w hw
theorem am_Ky : am_yok (am_y am_r148) 2 = true := by decide +kernel
section AMK
variable {h : am_H} {l : Launch} {G : am_G} {cy dC : Nat → ClassId} {dI : Nat → Nat → Nat} {S : am_S}
theorem am_KF {p : Program} {s : State} {m : MethodId} {args : Array Value} {meth : Method} {c : Code} {F : Nat} (hx : p.tables.exec = Jvm.exec) (hb : c.code = method_3_code) (hml : c.maxLocals = 5) (hts : ∀ w ∈ am_wK, w.before args s = true) (hown : s.vm.findClass "LinkedVerseLaw" = some m.cls) (hP : am_PK h G cy dC dI S s) : am_F p l am_rmK s m args meth c G cy dC dI am_wK S false (am_call false F 18) 19 h.length am_rK := by
  obtain ⟨⟨hP, hK, hX, hG, hz⟩, hY, hsc⟩ := hP
  exact ⟨hx, hb, hml, hts, fun w hw => List.mem_cons_of_mem _ hw, hown, hK, hX, hG, ⟨⟨Nat.le_refl _, Nat.le_refl _⟩, by decide, by decide⟩, am_sound 18, (fun q => by cases q), (fun _ => hsc), hz, am_Kdec⟩
theorem am_Krec {s : State} {H : Heap} (hok : ab_hok ab_D0 h) (hK : va_K (dC, dI) am_cl (am_tys cy) s) (hP : va_P (dC, dI) am_cl (am_ws G cy h) H) : ∃ cell : Cell, H[am_ad G 0]? = some cell ∧ cell.vm.isStatics = false ∧ s.vm.findClass RX11 = some cell.cls := by
  obtain ⟨fs, -, hobj, -, -⟩ := ab_hok_obj hok am_d0 rfl
  obtain ⟨hb1, hb2⟩ := am_obj_inv hobj
  have hrec := va_recv hK hP (ci := 11) (q0 := 0) (am_cf 11 (by decide)).1 (am_ws_get hb2)
  rw [← am_ad_lt (G := G) hb1] at hrec
  exact hrec
set_option maxHeartbeats 1000000 in
theorem am_Kthrow (hok : ab_hok ab_D0 h) (hnt : l.stackTraces = false) {a b : Int32} (hgo : am_Go false 17 (0, fun _ => 0) am_r148 (0, [some (.ref 0), some (.int a), some (.int b)], [], h, 0, 0) (22, [some (.ref 0), some (.int a), some (.int b)], [], h, 0, 0)) : Met l am_yK am_wK am_rmK (va_Pc ([Value.ref 0, .int a, .int b, .ref 100].map (am_tv G)) (am_PK h G cy dC dI S)) (am_Q G cy dC dI (some (.int 1)) h) 1 6 (am_A G) := by
  have hM := am_lkX (G := G) (cy := cy) (dC := dC) (dI := dI) hnt hgo
  refine am_ofWH (cc := method_3_code) (maxL := 5) (ret := some .int) (hh := am_hK) (ws' := lw_good) (by decide +kernel) rfl ?_
  intro p e s m args below meth c s₁ B hml hv
  obtain ⟨rfl, hPK⟩ := hv
  have hx := B.exec
  have hb := B.bytes
  have hrt := B.returns
  have hts := atoms_spec (ws := am_wK) B.pre
  have hown : s.vm.findClass "LinkedVerseLaw" = some m.cls := findClass_of_methodNamed B.named
  have htab := vx_table (x := am_yK) B (hts _ List.mem_cons_self)
  obtain ⟨ls, hent, hlv2⟩ := am_ent_ok (G := G) (as := [Value.ref 0, .int a, .int b, .ref 100]) (n := 5) (lv := [some (.ref 0), some (.int a), some (.int b), some (.ref 100), none]) rfl
  rw [hent]
  have F1 := am_KF (l := l) (F := 0) (meth := meth) hx hb hml hts hown hPK
  obtain ⟨⟨hP, hK, hX, hG, hz⟩, hY, hsc⟩ := hPK
  refine am_nst_sound F1 5 _ _ (am_K1 _ S h a b) s.heap [] ls ⟨hP, va_S.rf, hlv2, (fun q => by cases q), Nat.zero_le _, Nat.zero_le _⟩ (fun H1 locs1 ls1 J1 => ?_)
  obtain ⟨hP1, hS1, hl1, -, -, -⟩ := J1
  refine am_W_size (fun hsz => ?_)
  intro T hT X
  rcases vx_runV (cc := method_3_code) (nL := 5) (index := 7) (b := am_ad G 0) (As := [Value.int a, .int b]) (rest := [Value.int 0, .ref 100].map (am_tv G)) (C := RX11) (g := F0 m 5 ls1 ([Value.int b, .int a, .ref 0, .int 0, .ref 100].map (am_tv G))) (H := H1) (locs := locs1) (cells := 0) (slots := 0) (below := below) (meth := meth) (e := e) ⟨hx, hb, hml, hown, hts⟩ hM (cwV 2 hts am_KT rfl rfl rfl ⟨rfl, am_yok_inv am_Ky⟩ ⟨by decide, by decide⟩) ⟨am_XPblind, am_Krec hok hK hP1, fun U hU hW => ⟨rfl, am_pre (n0 := h.length) hX hK hG (fun ha => by cases ha) hP1 hS1 hsz U hU hW, hY.to hS1 hU hW⟩⟩ rfl rfl hl1.2.1 rfl (lv_room (by rw [am_cat_sum]; decide)) am_Kd.1 ⟨by decide, by decide⟩ T hT X with ⟨v, st₀, t, T', L, -, -, -, -, -, hq, -⟩ | ⟨q, st₀, t, T', L, E, ce, h0, X', hL, e1, e2, hxc, hce, hcv, hcl, st⟩
  · exact hq.elim
  · obtain ⟨rfl, hP2, hF⟩ := hxc
    obtain ⟨-, -, hS2⟩ := vx_keep h0 e1 hS1 (fun _ _ h => h) (fun _ h => h) hL hF
    have kk : W p l e am_rmK s m ([Value.ref 0, .int a, .int b, .ref 100].map (am_tv G)).toArray below meth c T'.heap (locs1 ++ L) 1 6 (MQ below (am_Q G cy dC dI (some (.int 1)) h) ([Value.ref 0, .int a, .int b, .ref 100].map (am_tv G)).toArray s 1 6 (am_A G)) (F0 m 13 ls1 [.ref q]) := by
      refine lv_astore hx hb am_Kd.2.1 hl1.has (by decide) rfl (fun ls' h' => ?_)
      refine lv_iconst hx hb am_Kd.2.2.1 rfl ?_
      exact W.zret (v := 1) hx hb hrt rfl (fun t9 ht hW => ⟨rfl, by rw [ht, e1]; exact hP2, hS2.F ht⟩) hS2.2.2 am_Kd.2.2.2.1
    obtain ⟨t2, a1, b1⟩ := am_catch (pc := 5) (ls := ls1) (rest := [Value.int 0, .ref 100].map (am_tv G)) hown (⟨0, 10, 13, 13⟩ : ExceptionTableEntry) htab (by decide) (by decide) (hts _ (List.mem_cons_of_mem _ (List.mem_filter.mpr am_xc))) (va_Nw.use (am_ng_in _ List.mem_cons_self).2 (hY.1 _ List.mem_cons_self)) (H := T'.heap) (ce := ce) (q := q) (by rw [e1]; exact hce) hcv hcl kk T' rfl X'
    exact ⟨t2, st.trans a1, b1⟩
set_option maxHeartbeats 1000000 in
theorem am_K0 (hok : ab_hok ab_D0 h) {f : Nat → Int64} (hf : h[100]? = some (.inl (2, 1, .inr (.inl f)))) {a b x : Int32} (hdo : am_Do false 18 148 [.ref 0, .int a, .int b] h (some (.int x), h)) : Met l am_yK am_wK am_rmK (va_Pc ([Value.ref 0, .int a, .int b, .ref 100].map (am_tv G)) (am_PK h G cy dC dI S)) (am_Q G cy dC dI (some (.int 0)) (h.set 100 (.inl (2, 1, .inr (.inl (vp_updL f 0 x.toInt64)))))) 1 6 (am_A G) := by
  obtain ⟨F9, hF9⟩ := hdo
  obtain ⟨d', r2, hd', hr2, hM⟩ := am_sound (l := l) (G := G) (cy := cy) (dC := dC) (dI := dI) 18 _ _ _ _ (hF9 F9 (Nat.le_refl _))
  obtain rfl : d' = 18 := by omega
  obtain rfl : am_r148 = r2 := Option.some.inj hr2
  refine am_ofWH (cc := method_3_code) (maxL := 5) (ret := some .int) (hh := am_hK) (ws' := lw_good) (by decide +kernel) rfl ?_
  intro p e s m args below meth c s₁ B hml hv
  obtain ⟨rfl, hPK⟩ := hv
  have hx := B.exec
  have hb := B.bytes
  have hrt := B.returns
  have hts := atoms_spec (ws := am_wK) B.pre
  have hown : s.vm.findClass "LinkedVerseLaw" = some m.cls := findClass_of_methodNamed B.named
  obtain ⟨ls, hent, hlv2⟩ := am_ent_ok (G := G) (as := [Value.ref 0, .int a, .int b, .ref 100]) (n := 5) (lv := [some (.ref 0), some (.int a), some (.int b), some (.ref 100), none]) rfl
  rw [hent]
  obtain ⟨n2, Fb, hn2⟩ := am_K2 hf S a b x
  have hn2 := hn2 Fb (Nat.le_refl _)
  have F1 := am_KF (l := l) (F := Fb) (meth := meth) hx hb hml hts hown hPK
  obtain ⟨⟨hP, hK, hX, hG, hz⟩, hY, hsc⟩ := hPK
  refine am_nst_sound F1 5 _ _ (am_K1 _ S h a b) s.heap [] ls ⟨hP, va_S.rf, hlv2, (fun q => by cases q), Nat.zero_le _, Nat.zero_le _⟩ (fun H1 locs1 ls1 J1 => ?_)
  obtain ⟨hP1, hS1, hl1, -, -, -⟩ := J1
  refine am_W_size (fun hsz => ?_)
  refine am_after (al := false) (h := h) (n0 := h.length) (lim := (1, 6)) (rest := [Value.int 0, .ref 100]) (q := (some (.int x), h)) hS1 (va_runV (cc := method_3_code) (nL := 5) (index := 7) (b := am_ad G 0) (As := [Value.int a, .int b]) (rest := [Value.int 0, .ref 100].map (am_tv G)) (C := RX11) (g := F0 m 5 ls1 ([Value.int b, .int a, .ref 0, .int 0, .ref 100].map (am_tv G))) (H := H1) (locs := locs1) (cells := 0) (slots := 0) ⟨hx, hb, hml, hown, hts⟩ hM (cwV 2 hts am_KT rfl rfl rfl ⟨rfl, am_yok_inv am_Ky⟩ ⟨by decide, by decide⟩) ⟨am_blind, am_Krec hok hK hP1, fun U hU hW => ⟨rfl, am_pre (n0 := h.length) hX hK hG (fun ha => by cases ha) hP1 hS1 hsz U hU hW⟩⟩ rfl rfl hl1.2.1 rfl (lv_room (by rw [am_cat_sum]; decide)) am_Kd.1 ⟨by decide, by decide⟩) (fun H2 locs2 z1 z2 => ?_)
  refine am_nst_sound F1 n2 (8, [some (.ref 0), some (.int a), some (.int b), some (.ref 100), none], [.int x, .int 0, .ref 100], h, 0, 0) _ hn2 H2 locs2 ls1 ⟨z1, z2, hl1, (fun q => by cases q), Nat.zero_le _, Nat.zero_le _⟩ (fun H3 locs3 ls3 J3 => ?_)
  obtain ⟨hP3, hS3, hl3, -, -, -⟩ := J3
  refine W.widen (Nat.zero_le 1) (Nat.zero_le 6) ?_
  exact W.zret (v := 0) hx hb hrt rfl (fun t9 ht hW => ⟨rfl, by rw [ht]; exact hP3, hS3.F ht⟩) hS3.2.2 am_Kd.2.2.2.2
end AMK
