/-! ===== what the throw of liking stands on, and how it goes from frame to frame ===== -/
theorem am_y149 : Cond.stringRef RX11 149 "no such kinds" ∈ lw_tbl := by decide +kernel
theorem am_yU : Cond.laysStatic Bundle.tN "UNASSIGNED_STACK" Bundle.steD ∈ lw_tbl ∧ Cond.initialized Bundle.tN ∈ lw_tbl ∧ Cond.laysStatic Bundle.tN "SUPPRESSED_SENTINEL" Bundle.listD ∈ lw_tbl := by decide +kernel
theorem am_yU2 : Cond.isRef (.static Bundle.tN "UNASSIGNED_STACK" Bundle.steD) ∈ flatC (Jvm.Cond.and given_1 narrow_1) ∧ Cond.isRef (.static Bundle.tN "SUPPRESSED_SENTINEL" Bundle.listD) ∈ flatC (Jvm.Cond.and given_1 narrow_1) := by decide +kernel
def am_Y (G : am_G) (U : State) : Prop := (∀ w ∈ am_ng, va_Nw w U) ∧ (∃ sa, vk_R RX11 149 "no such kinds" sa U) ∧ vx_Zq Bundle.tN "UNASSIGNED_STACK" Bundle.steD (am_A G) U U.heap ∧ vx_Zq Bundle.tN "SUPPRESSED_SENTINEL" Bundle.listD (am_A G) U U.heap
theorem am_ng_warm {w : Cond} (hw : w ∈ am_ng) {s U : State} (hW : s.WarmedH U.vm) (h : va_Nw w s) : va_Nw w U := by
  simp only [am_ng, List.mem_cons, List.not_mem_nil, or_false] at hw
  rcases hw with rfl | rfl | rfl | rfl
  · exact va_Nw.warmC hW h
  · exact va_Nw.warmD hW h
  · exact va_Nw.warmD hW h
  · exact va_Nw.warmD hW h
theorem am_Y.to {G : am_G} {s U : State} {H : Heap} {locs : List Loc} (h : am_Y G s) (hS : va_S (am_A G) s.heap H locs) (hU : U.heap = H) (hW : s.WarmedH U.vm) : am_Y G U := by
  subst hU
  obtain ⟨h1, ⟨sa, h2⟩, h3, h4⟩ := h
  exact ⟨fun w hw => am_ng_warm hw hW (h1 w hw), ⟨sa, h2.warm hW⟩, (h3.kept hS.2.1).moved hW.alike, (h4.kept hS.2.1).moved hW.alike⟩
theorem am_Y.calling {G : am_G} {U : State} (h : am_Y G U) (g : JFrame) (mk : MethodId) (a : Array Value) : am_Y G (U.calling g mk a) := by
  obtain ⟨h1, ⟨sa, h2⟩, h3, h4⟩ := h
  exact ⟨fun w hw => va_Nw.same (u := U) (am_ng_in w hw).2 rfl (h1 w hw), ⟨sa, vk_R.same (u := U) rfl h2⟩, vx_Zq.moved (u := U) (U := U.calling g mk a) (Vm.Alike.refl U.vm) h3, vx_Zq.moved (u := U) (U := U.calling g mk a) (Vm.Alike.refl U.vm) h4⟩
theorem am_Ybegin {p : Program} {s : State} {m : MethodId} {meth : Method} {c : Code} {b L : Nat} {xs : Nat → Int32} (C0 : lw_At p s m meth c b L xs) {G : am_G} {cy dC : Nat → ClassId} {dI : Nat → Nat → Nat} (h1 : G.1 = s.heap.size) (hK : va_K (dC, dI) am_cl (am_tys cy) s) : am_Y G s := by
  obtain ⟨hx, hb, hr, hml, hown, hts, hX, hbl, hlocks, hgv⟩ := C0
  have hs := flat_of_before _ hgv
  have hA : ∀ a : Nat, a < s.heap.size → ¬ am_A G a := fun a h h2 => by
    have h3 : G.1 ≤ a := h2
    omega
  have hf : s.vm.findClass RX11 = some (dC 11) := (hK.1 11 (RX11, TX11, am_NN 11) rfl).2.1
  obtain ⟨-, -, -, sa, -, -, -, -, -, hev⟩ := Cond.stringRef_spec (args := #[Value.ref b]) (first := s) (o := none) (s := s) (idx := []) hf (hts _ am_y149)
  exact ⟨fun w hw => va_Nw.of (am_ng_in w hw).2 (hts w (am_ng_in w hw).1), ⟨sa, vk_R.of (hts _ am_y149) hev⟩, vx_Zqof (hts _ am_yU.1) (hts _ am_yU.2.1) (hs _ am_yU2.1) hA, vx_Zqof (hts _ am_yU.2.2) (hts _ am_yU.2.1) (hs _ am_yU2.2) hA⟩
/-- what holds where liking has thrown -/
def am_XC (G : am_G) (cy dC : Nat → ClassId) (dI : Nat → Nat → Nat) (h : am_H) : String → State → State → Prop := fun E st t => E = am_NS ∧ va_P (dC, dI) am_cl (am_ws G cy h) t.heap ∧ va_F (am_A G) st t
def am_rx : Room := { frames := 18, cells := 1, slots := 6, locals := 64 * 18 }
/-- a run of the small machine up to the throw at 22 -/
theorem am_lkX {l : Launch} (hnt : l.stackTraces = false) {G : am_G} {cy dC : Nat → ClassId} {dI : Nat → Nat → Nat} {h : am_H} {o : Nat} {a b : Int32} {h2 : am_H} (hgo : am_Go false 17 (0, fun _ => 0) am_r148 (0, [some (.ref o), some (.int a), some (.int b)], [], h, 0, 0) (22, [some (.ref o), some (.int a), some (.int b)], [], h2, 0, 0)) :
    vx_Met l (am_y am_r148) (am_w am_r148) am_rx (va_Pc ([Value.ref o, .int a, .int b].map (am_tv G)) (fun U => am_Pc G cy dC dI false h U ∧ am_Y G U)) (fun _ _ _ _ => False) (am_XC G cy dC dI h2) 1 6 (am_A G) := by
  obtain ⟨n, F9, hn⟩ := hgo
  have hn := hn F9 (Nat.le_refl _)
  obtain ⟨hdec, hcode, hini, hRy, hplain, hL40⟩ := am_mok_inv am_mk148
  refine vx_ofW (cc := am_b am_r148) (maxL := am_L am_r148) (ret := am_rt am_r148) hplain rfl ?_
  intro p e s m args below meth c s₁ B hml htab hv
  obtain ⟨rfl, ⟨hP, hK, hX, hG, hz⟩, hY⟩ := hv
  have hx := B.exec
  have hb := B.bytes
  have hts := atoms_spec (ws := am_w am_r148) B.pre
  have hgt : ∀ w ∈ lw_good, w.before ([Value.ref o, .int a, .int b].map (am_tv G)).toArray s = true := fun w hw => hts w (List.mem_cons_of_mem _ hw)
  have hown : s.vm.findClass (am_R (am_o am_r148)) = some m.cls := by rw [hRy]; exact findClass_of_methodNamed B.named
  have hlocks := B.notSynchronized
  have hS : va_S (am_A G) s.heap s.heap [] := va_S.rf
  obtain ⟨ls, hent, hlv2⟩ := am_ent_ok (G := G) (as := [Value.ref o, .int a, .int b]) (n := am_L am_r148) (lv := [some (.ref o), some (.int a), some (.int b)]) rfl
  rw [hent]
  have F0' : am_F p l am_rx s m ([Value.ref o, .int a, .int b].map (am_tv G)).toArray meth c G cy dC dI (am_w am_r148) (0, fun _ => 0) false (am_call false F9 17) 18 h.length am_r148 := ⟨hx, hb, hml, hts, fun w hw => List.mem_cons_of_mem _ hw, hown, hK, hX, hG, ⟨⟨Nat.le_refl _, Nat.le_refl _⟩, by decide, by decide⟩, am_sound 17, (fun q => by cases q), (fun q => by cases q), hz, hdec⟩
  refine am_nst_sound F0' n _ _ hn s.heap [] ls ⟨hP, hS, hlv2, (fun q => by cases q), Nat.zero_le _, Nat.zero_le _⟩ (fun H1 locs1 ls1 J1 => ?_)
  obtain ⟨hP1, hS1, hl1, -, -, -⟩ := J1
  obtain ⟨y1, ⟨sa, y2⟩, y3, y4⟩ := hY
  have hat : ∀ w ∈ am_th, w.before ([Value.ref o, .int a, .int b].map (am_tv G)).toArray s = true := by
    intro w hw
    cases hg : goodWord w with
    | true => exact hgt w (List.mem_filter.mpr ⟨am_th_in w hw, hg⟩)
    | false =>
      have h9 := am_th_ng w (List.mem_filter.mpr ⟨hw, by rw [hg]; rfl⟩)
      exact va_Nw.use (am_ng_in w h9).2 (y1 w h9)
  exact am_throwX (cc := am_b am_r148) (rx := prog_23_method_4_code) (pc := 22) (rest := []) (own := RX11) (cls := am_NS) (Y := "java/lang/RuntimeException") (r := ["java/lang/Exception"]) (ik := 147) (is := 149) (ic := 151) (ix := 13) (mc := 1) (ms := 6) (sa := sa) (A := am_A G) (text := "no such kinds") hx hb hnt
    hown (by decide +kernel) (by decide +kernel) (by decide +kernel) (by decide +kernel) (by decide +kernel) (by decide +kernel) (by decide +kernel)
    (hgt _ (List.mem_filter.mpr ⟨am_th_2.1, am_th_2.2.2.1⟩)) (hgt _ (List.mem_filter.mpr ⟨am_th_2.2.1, am_th_2.2.2.2⟩)) y2 hat am_th_ot y3 y4 hS1 (by rw [hml]; exact hl1.2.1)
    (by decide +kernel) (by decide +kernel) (by decide +kernel) (by decide +kernel) (by decide +kernel)
    (fun x hx9 => (htab x hx9).elim) (by decide) (by decide) (Nat.le_refl 1) (Nat.le_refl 6) hlocks
    (fun t hal hz1 hk1 => ⟨rfl, hP1.kept (fun k q hk => hk1 q.1 (hP1 k q hk).lt), Nat.le_trans hS1.1 hz1, fun q q1 q2 => by rw [hk1 q (Nat.lt_of_lt_of_le q1 hS1.1)]; exact hS1.2.1 q q1 q2⟩) hS1.2.2 (Nat.le_refl 1) (Nat.le_refl 6)
