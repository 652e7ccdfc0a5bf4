/-! ===== the claim ===== -/
theorem am_p_best (a : Int32) : am_PairOK 142 207 [.int a] := by
  by_cases h1 : a.toInt = 1
  · obtain rfl : a = 1 := Int32.toInt_inj.mp (h1.trans rfl)
    exact am_p_best1
  by_cases h2 : a.toInt = 2
  · obtain rfl : a = 2 := Int32.toInt_inj.mp (h2.trans rfl)
    exact am_p_best2
  by_cases h3 : a.toInt = 3
  · obtain rfl : a = 3 := Int32.toInt_inj.mp (h3.trans rfl)
    exact am_p_best3
  exact am_p_bestx a h1 h2 h3
theorem am_p_count (a : Int32) : am_PairOK 147 213 [.int a] := by
  by_cases h0 : a.toInt = 0
  · obtain rfl : a = 0 := Int32.toInt_inj.mp (h0.trans rfl)
    exact am_p_count0
  by_cases h1 : a.toInt = 1
  · obtain rfl : a = 1 := Int32.toInt_inj.mp (h1.trans rfl)
    exact am_p_count1
  by_cases h2 : a.toInt = 2
  · obtain rfl : a = 2 := Int32.toInt_inj.mp (h2.trans rfl)
    exact am_p_count2
  by_cases h3 : a.toInt = 3
  · obtain rfl : a = 3 := Int32.toInt_inj.mp (h3.trans rfl)
    exact am_p_count3
  by_cases h4 : a.toInt = 4
  · obtain rfl : a = 4 := Int32.toInt_inj.mp (h4.trans rfl)
    exact am_p_count4
  by_cases h5 : a.toInt = 5
  · obtain rfl : a = 5 := Int32.toInt_inj.mp (h5.trans rfl)
    exact am_p_count5
  by_cases h6 : a.toInt = 6
  · obtain rfl : a = 6 := Int32.toInt_inj.mp (h6.trans rfl)
    exact am_p_count6
  by_cases h7 : a.toInt = 7
  · obtain rfl : a = 7 := Int32.toInt_inj.mp (h7.trans rfl)
    exact am_p_count7
  by_cases h8 : a.toInt = 8
  · obtain rfl : a = 8 := Int32.toInt_inj.mp (h8.trans rfl)
    exact am_p_count8
  by_cases h9 : a.toInt = 9
  · obtain rfl : a = 9 := Int32.toInt_inj.mp (h9.trans rfl)
    exact am_p_count9
  by_cases h10 : a.toInt = 10
  · obtain rfl : a = 10 := Int32.toInt_inj.mp (h10.trans rfl)
    exact am_p_count10
  by_cases h11 : a.toInt = 11
  · obtain rfl : a = 11 := Int32.toInt_inj.mp (h11.trans rfl)
    exact am_p_count11
  by_cases h12 : a.toInt = 12
  · obtain rfl : a = 12 := Int32.toInt_inj.mp (h12.trans rfl)
    exact am_p_count12
  by_cases hl : a.toInt < 0
  · exact am_p_countxl a hl
  · exact am_p_countxg a (by omega)
theorem am_e13 (xs : Nat → Int32) : am_End xs 13 := by
  cases hw : am_cmp .eq (xs 2) 0 with
  | true => exact am_e13a xs hw (am_p_worn0 _)
  | false => exact am_e13b xs hw (am_p_worn1 _)
theorem am_cases (xs : Nat → Int32) (k : Nat) (hk : k < 32) (h9 : k ≠ 9) : am_End xs (Int32.ofNat k) := match k, hk, h9 with
  | 0, _, _ => am_e0 xs (am_p_feed _ _ _)
  | 1, _, _ => am_e1 xs (am_p_read)
  | 2, _, _ => am_e2 xs (am_p_poet _)
  | 3, _, _ => am_e3 xs (am_p_turn)
  | 4, _, _ => am_e4 xs (am_p_pass)
  | 5, _, _ => am_e5 xs (am_p_year _)
  | 6, _, _ => am_e6 xs (am_p_entry _ _ _)
  | 7, _, _ => am_e7 xs (am_p_word _)
  | 8, _, _ => am_e8 xs (am_p_like _ _ _)
  | 9, _, h => absurd rfl h
  | 10, _, _ => am_e10 xs (am_p_verse _ _ _ _)
  | 11, _, _ => am_e11 xs (am_p_breaks _ _ _)
  | 12, _, _ => am_e12 xs (am_p_back)
  | 13, _, _ => am_e13 xs
  | 14, _, _ => am_e14 xs (am_p_type _)
  | 15, _, _ => am_e15 xs (am_p_ends)
  | 16, _, _ => am_e16 xs (am_p_full _)
  | 17, _, _ => am_e17 xs (am_p_can _)
  | 18, _, _ => am_e18 xs (am_p_store _ _ _)
  | 19, _, _ => am_e19 xs (am_p_best _)
  | 20, _, _ => am_e20 xs (am_p_bestOf _)
  | 21, _, _ => am_e21 xs (am_p_verseOf _ _)
  | 22, _, _ => am_e22 xs (am_p_poetOf _ _)
  | 23, _, _ => am_e23 xs (am_p_ruleOf _ _)
  | 24, _, _ => am_e24 xs (am_p_count _)
  | 25, _, _ => am_e25 xs
  | 26, _, _ => am_e26 xs
  | 27, _, _ => am_e27 xs
  | 28, _, _ => am_e28 xs
  | 29, _, _ => am_e29 xs
  | 30, _, _ => am_e30 xs
  | 31, _, _ => am_e31 xs
  | n + 32, h, _ => absurd h (by omega)
set_option maxRecDepth 100000 in
theorem am_sh0 (xs : Nat → Int32) : am_Go true 19 (0, xs) am_rL am_st0 (1089, am_lvA 0, [.int 1], am_h0, 101, 936303) := by
  refine am_Go.tr (am_phA (0, xs)) ?_
  refine am_Go.bl 5 (y := (30, am_lvA 0, [.int (Int32.ofNat 0 - 7), .int 0], am_h0, 101, 936303)) (fun _ => rfl) ?_
  refine am_Go.bl 1 (y := (bif am_cmp .gt 0 (Int32.ofNat 0 - 7) then 1088 else 33, am_lvA 0, [], am_h0, 101, 936303)) (fun _ => rfl) ?_
  refine am_Go.brT (by decide) ?_
  exact am_Go.bl 1 (fun _ => rfl) am_Go.rf
set_option maxRecDepth 100000 in
theorem am_sh1 (xs : Nat → Int32) : am_Go true 19 (1, xs) am_rL am_st0 (1089, am_lvA 0, [.int 1], am_h0, 101, 936303) := by
  refine am_Go.tr (am_phA (1, xs)) ?_
  refine am_Go.bl 5 (y := (30, am_lvA 0, [.int (Int32.ofNat 1 - 7), .int 0], am_h0, 101, 936303)) (fun _ => rfl) ?_
  refine am_Go.bl 1 (y := (bif am_cmp .gt 0 (Int32.ofNat 1 - 7) then 1088 else 33, am_lvA 0, [], am_h0, 101, 936303)) (fun _ => rfl) ?_
  refine am_Go.brT (by decide) ?_
  exact am_Go.bl 1 (fun _ => rfl) am_Go.rf
set_option maxRecDepth 100000 in
theorem am_sh2 (xs : Nat → Int32) : am_Go true 19 (2, xs) am_rL am_st0 (1089, am_lvA 0, [.int 1], am_h0, 101, 936303) := by
  refine am_Go.tr (am_phA (2, xs)) ?_
  refine am_Go.bl 5 (y := (30, am_lvA 0, [.int (Int32.ofNat 2 - 7), .int 0], am_h0, 101, 936303)) (fun _ => rfl) ?_
  refine am_Go.bl 1 (y := (bif am_cmp .gt 0 (Int32.ofNat 2 - 7) then 1088 else 33, am_lvA 0, [], am_h0, 101, 936303)) (fun _ => rfl) ?_
  refine am_Go.brT (by decide) ?_
  exact am_Go.bl 1 (fun _ => rfl) am_Go.rf
set_option maxRecDepth 100000 in
theorem am_sh3 (xs : Nat → Int32) : am_Go true 19 (3, xs) am_rL am_st0 (1089, am_lvA 0, [.int 1], am_h0, 101, 936303) := by
  refine am_Go.tr (am_phA (3, xs)) ?_
  refine am_Go.bl 5 (y := (30, am_lvA 0, [.int (Int32.ofNat 3 - 7), .int 0], am_h0, 101, 936303)) (fun _ => rfl) ?_
  refine am_Go.bl 1 (y := (bif am_cmp .gt 0 (Int32.ofNat 3 - 7) then 1088 else 33, am_lvA 0, [], am_h0, 101, 936303)) (fun _ => rfl) ?_
  refine am_Go.brT (by decide) ?_
  exact am_Go.bl 1 (fun _ => rfl) am_Go.rf
set_option maxRecDepth 100000 in
theorem am_sh4 (xs : Nat → Int32) : am_Go true 19 (4, xs) am_rL am_st0 (1089, am_lvA 0, [.int 1], am_h0, 101, 936303) := by
  refine am_Go.tr (am_phA (4, xs)) ?_
  refine am_Go.bl 5 (y := (30, am_lvA 0, [.int (Int32.ofNat 4 - 7), .int 0], am_h0, 101, 936303)) (fun _ => rfl) ?_
  refine am_Go.bl 1 (y := (bif am_cmp .gt 0 (Int32.ofNat 4 - 7) then 1088 else 33, am_lvA 0, [], am_h0, 101, 936303)) (fun _ => rfl) ?_
  refine am_Go.brT (by decide) ?_
  exact am_Go.bl 1 (fun _ => rfl) am_Go.rf
set_option maxRecDepth 100000 in
theorem am_sh5 (xs : Nat → Int32) : am_Go true 19 (5, xs) am_rL am_st0 (1089, am_lvA 0, [.int 1], am_h0, 101, 936303) := by
  refine am_Go.tr (am_phA (5, xs)) ?_
  refine am_Go.bl 5 (y := (30, am_lvA 0, [.int (Int32.ofNat 5 - 7), .int 0], am_h0, 101, 936303)) (fun _ => rfl) ?_
  refine am_Go.bl 1 (y := (bif am_cmp .gt 0 (Int32.ofNat 5 - 7) then 1088 else 33, am_lvA 0, [], am_h0, 101, 936303)) (fun _ => rfl) ?_
  refine am_Go.brT (by decide) ?_
  exact am_Go.bl 1 (fun _ => rfl) am_Go.rf
set_option maxRecDepth 100000 in
theorem am_sh6 (xs : Nat → Int32) : am_Go true 19 (6, xs) am_rL am_st0 (1089, am_lvA 0, [.int 1], am_h0, 101, 936303) := by
  refine am_Go.tr (am_phA (6, xs)) ?_
  refine am_Go.bl 5 (y := (30, am_lvA 0, [.int (Int32.ofNat 6 - 7), .int 0], am_h0, 101, 936303)) (fun _ => rfl) ?_
  refine am_Go.bl 1 (y := (bif am_cmp .gt 0 (Int32.ofNat 6 - 7) then 1088 else 33, am_lvA 0, [], am_h0, 101, 936303)) (fun _ => rfl) ?_
  refine am_Go.brT (by decide) ?_
  exact am_Go.bl 1 (fun _ => rfl) am_Go.rf
theorem am_short (L : Nat) (h : L < 7) (xs : Nat → Int32) : am_Go true 19 (L, xs) am_rL am_st0 (1089, am_lvA 0, [.int 1], am_h0, 101, 936303) := match L, h with
  | 0, _ => am_sh0 xs
  | 1, _ => am_sh1 xs
  | 2, _ => am_sh2 xs
  | 3, _ => am_sh3 xs
  | 4, _ => am_sh4 xs
  | 5, _ => am_sh5 xs
  | 6, _ => am_sh6 xs
  | n + 7, h => absurd h (by omega)
theorem whole_start {p : Program} {e : Env} {s : State} {m : MethodId} {below : List Frame} {meth : Method} {c : Code} (l : Launch) (hnt : l.stackTraces = false) {b L : Nat} {xs : Nat → Int32} (hL : L ≤ 7) (C0 : lw_At p s m meth c b L xs) : W p l e room_1 s m #[Value.ref b] below meth c s.heap [] 0 0 (lw_Z below #[Value.ref b] s) (entryFrame m ([Value.ref b] : List Value).toArray 7) := by
  by_cases hL7 : L = 7
  · subst hL7
    obtain ⟨k, hk, hx⟩ := am_sw (xs 0)
    have hh := am_head xs
    rw [hx] at hh
    by_cases h9 : k = 9
    · subst h9
      exact am_like_W l hnt C0 hh
    · obtain ⟨y, hgo, hat, hst⟩ := am_cases xs k hk h9
      obtain ⟨n, F0, hn⟩ := am_Go.tr hh hgo
      exact am_law_run l C0 (hn F0 (Nat.le_refl _)) hat hst
  · obtain ⟨n, F0, hn⟩ := am_short L (by omega) xs
    exact am_law_run l C0 (hn F0 (Nat.le_refl _)) rfl rfl
set_option maxHeartbeats 4000000 in
theorem lw_walk (l : Launch) (hnt : l.stackTraces = false) (b : Addr) (xs : List Int32) : MetFree l x (headSpec (Jvm.Cond.code x code maxLocals ret :: tables_1) room_1) (lw_P b xs) (fun _ _ _ _ _ => True) lw_Q := by
  refine MetFree.of_bodyS (code := code) (maxLocals := maxLocals) (ret := ret) (by decide) ?_ ?_
  · intro args s m h hn
    obtain ⟨meth, c, h1, h2, h3, h4, h5, h6, -, -⟩ := Cond.code_spec hn (atoms_spec (ws := Jvm.Cond.code x code maxLocals ret :: tables_1) h _ List.mem_cons_self)
    exact ⟨meth, c, h1, h2, h3, h4, h5, h6⟩
  · intro p e s m args below meth c s₁ B hml0 hP _
    obtain ⟨rfl, hx, hbd, hgv⟩ := hP
    obtain ⟨scr, harrAt, hlist, hof, hsmall⟩ := hx
    obtain ⟨hcb, hkn, -, -⟩ := State.arrayAt?_spec harrAt
    have hown : s.vm.findClass R_law = some m.cls := findClass_of_methodNamed B.named
    have hts0 : ∀ c ∈ (Jvm.Cond.code x code maxLocals ret :: tables_1), c.before #[Value.ref b] s = true := atoms_spec (ws := Jvm.Cond.code x code maxLocals ret :: tables_1) B.pre
    have hts : ∀ w ∈ lw_tbl, w.before #[Value.ref b] s = true := k2_hts_sels lw_privs (fun w hw => hts0 w (List.mem_cons_of_mem _ hw)) lw_privs_ok
    have hml : c.maxLocals = 7 := B.maxLocals_eq (hts0 _ List.mem_cons_self)
    have X₀ : Stand p l e room_1 s m #[Value.ref b] below meth c s₁ [] 0 0 := Stand.of_body B
    have hh0 : s₁.heap = s.heap := by rw [B.state]; rfl
    have hsz : scr.slots.size = xs.length := by rw [← Array.length_toList, hlist, List.length_map]
    have hval : ∀ j : Nat, j < xs.length → scr.slots[j]? = some (.int (xs.getD j 0)) := fun j hj => by
      rw [← Array.getElem?_toList, hlist]
      simp [hj]
    have hbl : b < s.heap.size := (Array.getElem?_eq_some_iff.mp hcb).1
    have hX : va_X b xs.length (fun j => xs.getD j 0) s s.heap := ⟨scr, hcb, hof, hkn, hsz, hval⟩
    have K : W p l e room_1 s m #[Value.ref b] below meth c s₁.heap [] 0 0 (lw_Z below #[Value.ref b] s) (entryFrame m ([Value.ref b] : List Value).toArray 7) := by
      rw [hh0]
      exact whole_start l hnt hbd ⟨B.exec, B.bytes, B.returns, hml, hown, hts, hX, hbl, B.notSynchronized, hgv⟩
    obtain ⟨t, a1, o, b1, b2, b3⟩ := K s₁ rfl X₀
    exact ⟨t, o, a1, b1, b2, b3⟩
theorem lw_pre_spec {args : Array Value} {s : State} (h : (Jvm.Cond.and given_1 narrow_1).before args s = true) (hr : rest_1_c.before args s = true) : ∃ (b : Addr) (xs : List Int32), lw_P b xs args s := by
  have hs := flat_of_before _ h
  have hq := flat_of_before _ hr
  have hc : (Cond.count 1).before args s = true := hs _ (by decide +kernel)
  have harr : (Cond.arrayOf (.arg 0) .int).before args s = true := hs _ (by decide +kernel)
  have hle : (Cond.le (.length (.arg 0)) (.int 7)).before args s = true := hs _ (by decide +kernel)
  have hlen : (Cond.isInt (.length (.arg 0))).before args s = true := hq _ (by decide +kernel)
  have hall : (Cond.all (.arg 0) (.isInt (.elem (.arg 0) (.index 0)))).before args s = true := hq _ (by decide +kernel)
  obtain ⟨b, xs, hb, hx⟩ := State.ints_of_pre rfl harr hlen hall
  have hsm : xs.length < 2 ^ 31 := hx.choose_spec.2.2.2
  have hev : (Term.length (.arg 0)).eval args s none [] s = some (.int xs.length.toInt32) := hx.length_eval hb
  have hv := Cond.le_ints hev (show (Term.int 7).eval args s none [] s = some (.int 7) from rfl)
  have hd : xs.length.toInt32 ≤ 7 := by
    simpa [Cond.before, Cond.holds, hv] using hle
  have hN : xs.length ≤ 7 := (Int32.ofNat_le_ofNat hsm (by decide)).mp (show Int32.ofNat xs.length ≤ Int32.ofNat 7 from hd)
  exact ⟨b, xs, Cond.one_arg hc (show args[0]? = some (.ref b) from hb), hx, hN, h⟩
theorem lw_comes (l : Launch) (hnt : l.stackTraces = false) : Comes l x (Jvm.Cond.code x code maxLocals ret :: tables_1) room_1 (fun tb e args s => Calls_1 tb e args s ∧ rest_1 tb e args s ∧ Pre_1 tb e args s)
    (fun _ _ args s o t => lw_Q args s o t) := by
  intro p e ha hc hk s m args below hf hfit hheap happ hpre
  obtain ⟨b, xs, hP⟩ := lw_pre_spec hpre.2.2 hpre.2.1
  obtain ⟨k, o, h1, h2, h3, hQ⟩ := lw_walk l hnt b xs p e ha hc hk s m args below hf ((Spec.applies_iff_loose hf).mp happ).1 hP trivial
  exact ⟨k, o, h1, h2, h3, hQ⟩
theorem lw_frame {s t : State} {o : Outcome} {args : Array Value} (h : Framed s o t [] 600002 7302231) :
    Framed s o t (fieldLocs frame_1_writes args s ++ arrayLocs frame_1_arrays args s ++ staticLocs frame_1_statics s) 600002 7302231 := h
theorem lw_limb (L : Cond) (hL : ∀ (args : Array Value) (s t : State), L.after args s (.returned (some (.int 1))) t = true) :
    ArmFor flags0 classFile x code maxLocals ret World_1 tables_1 room_1 Calls_1 rest_1 Pre_1
      (fun tb e a s o t => postC L tb e a s o t ∧ Framed s o t (fieldLocs frame_1_writes a s ++ arrayLocs frame_1_arrays a s ++ staticLocs frame_1_statics s) 600002 7302231) := by
  intro l hfl _ _ p e ha hc hk s m args below hf hfit hheap happ hpre
  have hnt : l.stackTraces = false := by unfold Launch.stackTraces; rw [hfl]; decide
  obtain ⟨k, o, h1, h2, h3, rfl, hF⟩ := lw_comes l hnt p e ha hc hk s m args below hf hfit hheap happ hpre
  exact ⟨k, _, h1, h2, h3, hL args s _, lw_frame hF⟩
theorem i_vc : Claimed_1_1 ∧ Claimed_1_2 := ⟨lw_limb limb_1_1 (fun args s t => by simp [limb_1_1, Cond.after, Cond.holds, Cond.value]), lw_limb limb_1_2 (fun args s t => Cond.after_iff.mpr (by
  first | (rw [show limb_1_2 = Cond.eq .result (.int 1) from rfl, Cond.eq_ints (x := 1) (y := 1) rfl rfl]; simp; done) | (simp [limb_1_2, Cond.value, Term.eval]; done)))⟩
