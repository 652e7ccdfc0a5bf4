/-! THE CLAIM OUT OF ONE WALK OF THE LAW'S BODY. Your part is whole_start (and what it stands on); all else here is the same for every law, but numbers. -/
def R_law : String := "LinkedVerseLaw"
def lw_P (b : Addr) (xs : List Int32) (args : Array Value) (s : State) : Prop := args = #[.ref b] ∧ s.IntsAt b xs ∧ xs.length ≤ 3584 ∧ (Jvm.Cond.and given_1 narrow_1).before args s = true
def lw_Q (_ : Array Value) (s : State) (o : Outcome) (t : State) : Prop := o = .returned (some (.int 1)) ∧ Framed s o t [] 601024 7293034
def lw_Z (below : List Frame) (a : Array Value) (s : State) : State → Prop := fun t => ∃ o, t.status = .running ∧ Ended t below o ∧ lw_Q a s o t
/-- the law's own end, with 1 on the stack, nothing written that was there before, its room as the claim has it -/
theorem lw_ret {p : Program} {l : Launch} {e : Env} {s : State} {m : MethodId} {below : List Frame} {meth : Method} {c : Code} {b : Nat} (hx : p.tables.exec = Jvm.exec) (hb : c.code = code) (hr : meth.sig.returnType = ret) (hlocks : meth.locks = false) {pc : Nat} {H : Heap} {ls : Array Slot} (hdg : decode code pc = .ok (.ireturn, 1)) : W p l e room_1 s m #[Value.ref b] below meth c H [] 601024 7293034 (lw_Z below #[Value.ref b] s) (F0 m pc ls [.int 1]) := by
  intro T hT X
  obtain ⟨fs, hret, hrun, hended, hW, hframe⟩ := X.leave (v := some (.int 1)) (hlocks := hlocks) (fun h => by rw [hr] at h; cases h)
  have hmeth' : T.vm.method? m = some meth := X.method'
  refine ⟨T.setFrames fs, ?_, .returned (some (.int 1)), hrun, hended, rfl, ⟨_, rfl⟩, hW, hframe⟩
  jvm_step X.here [X.here.top, hx, hb, hdg, hmeth', hr, ret, narrow_b1]
  (try refine ⟨rfl, ?_⟩); (try refine ⟨rfl, ?_⟩)
  first | (intro acts; rw [hret _ acts rfl rfl rfl]) | rw [hret _ _ rfl rfl rfl]
  exact Steps.refl _
/-- what holds at the law's entry: the machine, the code, the tables' words (any of lw_tbl by 'hts w (by decide +kernel)'), the script of L ints xs at the cell b, what the Statement gives of the start (any of its parts by flat_of_before) -/
def lw_At (p : Program) (s : State) (m : MethodId) (meth : Method) (c : Code) (b L : Nat) (xs : Nat → Int32) : Prop :=
  p.tables.exec = Jvm.exec ∧ c.code = code ∧ meth.sig.returnType = ret ∧ c.maxLocals = 7 ∧ s.vm.findClass R_law = some m.cls ∧ (∀ w ∈ lw_tbl, w.before #[Value.ref b] s = true) ∧ va_X b L xs s s.heap ∧ b < s.heap.size ∧ meth.locks = false ∧ (Jvm.Cond.and given_1 narrow_1).before #[Value.ref b] s = true
theorem am_lawok2 : ∀ pc i, am_at am_rL pc = some i → am_dec (am_b am_rL) pc i = true := by
  intro pc i hi
  unfold am_at at hi
  cases hb : Nat.blt pc (am_sz am_rL) with
  | false => rw [hb] at hi; cases hi
  | true =>
    rw [hb] at hi
    simp only [cond_true] at hi
    have h7 := am_lwa pc (show pc < am_sz am_rL by simpa [Nat.blt_eq] using hb)
    unfold am_lwc at h7
    rw [hi] at h7
    exact h7
theorem am_nest_in : ∀ w ∈ am_nest, w ∈ lw_tbl ∧ w.onTables = true := by decide +kernel
theorem am_sref : Cond.stringRef RX5 26 "at not run gap most least again link shift kind group length minutes " ∈ lw_tbl := by decide +kernel
theorem am_lst1 : Cond.laysStatic "java/lang/String" "COMPACT_STRINGS" "Z" ∈ lw_tbl := by decide +kernel
theorem am_lst2 : Cond.laysStatic "jdk/internal/util/Preconditions" "SIOOBE_FORMATTER" "Ljava/util/function/BiFunction;" ∈ lw_tbl := by decide +kernel
abbrev am_tm : Term := Term.string RX5 26
theorem am_fl1 : Cond.exactly am_tm "java/lang/String" ∈ flatC (Jvm.Cond.and given_1 narrow_1) := by decide +kernel
theorem am_fl2 : Cond.eq (.field am_tm "java/lang/String" "coder" "B") (.int 0) ∈ flatC (Jvm.Cond.and given_1 narrow_1) := by decide +kernel
theorem am_fl3 : Cond.arrayOf (.field am_tm "java/lang/String" "value" "[B") .byte ∈ flatC (Jvm.Cond.and given_1 narrow_1) := by decide +kernel
theorem am_fl4 : Cond.eq (.length (.field am_tm "java/lang/String" "value" "[B")) (.int (Int32.ofNat 69)) ∈ flatC (Jvm.Cond.and given_1 narrow_1) := by decide +kernel
theorem am_fl5 : ∀ j : Nat, j < 69 → Cond.eq (.elem (.field am_tm "java/lang/String" "value" "[B") (.int (Int32.ofNat j))) (.int (am_txt.getD j 0)) ∈ flatC (Jvm.Cond.and given_1 narrow_1) := by decide +kernel
theorem am_fl6 : Cond.eq (.static "java/lang/String" "COMPACT_STRINGS" "Z") (.int 1) ∈ flatC (Jvm.Cond.and given_1 narrow_1) := by decide +kernel
theorem am_fl7 : Cond.isRef (.static "jdk/internal/util/Preconditions" "SIOOBE_FORMATTER" "Ljava/util/function/BiFunction;") ∈ flatC (Jvm.Cond.and given_1 narrow_1) := by decide +kernel
/-- what the law's entry gives -/
theorem am_begin {p : Program} {s : State} {m : MethodId} {meth : Method} {c : Code} {b L : Nat} {xs : Nat → Int32} (C0 : lw_At p s m meth c b L xs) : ∃ (G : am_G) (cy dC : Nat → ClassId) (dI : Nat → Nat → Nat), G.1 = s.heap.size ∧ G.2.1 = b ∧ va_K (dC, dI) am_cl (am_tys cy) s ∧ am_X G s := by
  obtain ⟨hx, hb, hr, hml, hown, hts, hX, hbl, hlocks, hgv⟩ := C0
  have hgt : ∀ w ∈ lw_good, w.before #[Value.ref b] s = true := fun w h => hts w (am_good_in w h).1
  have hs := flat_of_before _ hgv
  have hA : ∀ a : Nat, a < s.heap.size → ¬ (fun q : Nat => s.heap.size ≤ q) a := fun a h => Nat.not_le.mpr h
  have hk : ∀ ci : Nat, ∃ q : ClassId × (Nat → Nat), ci < 13 → u_Kn s (am_R ci) (am_TT ci) (am_NN ci) q.1 q.2 := by
    intro ci
    by_cases hci : ci < 13
    · have hc := am_cf ci hci
      obtain ⟨cC, iS, hq⟩ := u_known (ws := lw_good) (n := am_NN ci) hgt hc.2.1 (hgt _ hc.2.2.2.2.1)
      exact ⟨(cC, iS), fun _ => hq⟩
    · exact ⟨(0, fun _ => 0), fun h => absurd h hci⟩
  obtain ⟨dd, hdd⟩ := Classical.axiomOfChoice hk
  have harr : ∀ ty : FieldType, Cond.arrayClass ty ∈ lw_good → ∃ cA : ClassId, s.vm.findClass ("[" ++ ty.toString) = some cA ∧ ArrOfT s cA ty := by
    intro ty h
    obtain ⟨cA, kA, comp, h1, h2, h3⟩ := Cond.arrayClass_spec (args := #[Value.ref b]) (first := s) (o := none) (s := s) (idx := []) (hgt _ h)
    exact ⟨cA, h1, fun n z => ⟨fun k h => (by cases h), kA, h2, comp, h3⟩⟩
  obtain ⟨c0, f0, a0⟩ := harr .byte am_arr_byte
  obtain ⟨c1, f1, a1⟩ := harr .int am_arr_int
  obtain ⟨c2, f2, a2⟩ := harr .long am_arr_long
  obtain ⟨c3, f3, a3⟩ := harr .short am_arr_short
  obtain ⟨c4, f4, a4⟩ := harr .boolean am_arr_boolean
  have q1 : ∀ i : Nat, i < 1 → ([69] : List Nat).getD i 0 < 2 ^ 31 := by
    intro i hi
    obtain rfl : i = 0 := by omega
    decide
  have q2 : ∀ i : Nat, i < 1 → (Cond.eq (.length (.field am_tm "java/lang/String" "value" "[B")) (.int (Int32.ofNat (([69] : List Nat).getD i 0)))).before #[Value.ref b] s = true := by
    intro i hi
    obtain rfl : i = 0 := by omega
    exact hs _ am_fl4
  have q3 : ∀ i : Nat, i < 1 → ∀ j : Nat, j < ([69] : List Nat).getD i 0 → (Cond.eq (.elem (.field am_tm "java/lang/String" "value" "[B") (.int (Int32.ofNat j))) (.int ((([am_txt] : List (List Int32)).getD i []).getD j 0))).before #[Value.ref b] s = true := by
    intro i hi j hj
    obtain rfl : i = 0 := by omega
    exact hs _ (am_fl5 j hj)
  obtain ⟨adK, adV, hStr, hev⟩ := vk_Sof (args := #[Value.ref b]) (s := s) (N := 1) (tm := fun _ => am_tm) (len := [69]) (byt := [am_txt]) (A := fun q : Nat => s.heap.size ≤ q) q1 (fun i _ => hs _ am_fl1) (fun i _ => hs _ am_fl2) (fun i _ => hs _ am_fl3) q2 q3 (fun i j hi hj hij => absurd (show i = j by omega) hij) hA
  refine ⟨(s.heap.size, b, adK 0), fun t => if t = 0 then c0 else if t = 1 then c1 else if t = 2 then c2 else if t = 3 then c3 else c4, fun k => (dd k).1, fun k => (dd k).2, rfl, rfl, ⟨fun k q hq => ?_, fun k q hq => ?_⟩, fun w hw => va_Nw.of (am_nest_in w hw).2 (hts w (am_nest_in w hw).1), ⟨_, vk_R.of (hts _ am_sref) (hev 0 (by decide))⟩, ⟨adV 0, ?_⟩, va_Zof (hts _ am_lst1) (hgt _ hs_nS) (va_eqt (hs _ am_fl6)) hA, ?_⟩
  · have hlt : k < 13 := (List.getElem?_eq_some_iff.mp hq).1
    have hc := (am_cf k hlt).1
    rw [hq] at hc
    cases hc
    exact hdd k hlt
  · match k, hq with
    | 0, hq => cases hq; exact ⟨a0, f0⟩
    | 1, hq => cases hq; exact ⟨a1, f1⟩
    | 2, hq => cases hq; exact ⟨a2, f2⟩
    | 3, hq => cases hq; exact ⟨a3, f3⟩
    | 4, hq => cases hq; exact ⟨a4, f4⟩
    | k + 5, hq => simp at hq
  · refine ⟨fun i hi => ?_, fun i j hi hj _ => by omega⟩
    obtain rfl : i = 0 := by omega
    exact hStr.1 0 hi
  · rcases va_Zqof (hts _ am_lst2) (hgt _ hs_nP) (hs _ am_fl7) hA with h | ⟨t, h⟩
    · exact ⟨.null, Or.inl rfl, h⟩
    · exact ⟨.ref t, Or.inr ⟨t, rfl⟩, h⟩
abbrev am_lv0 : List (Option Value) := [some (.ref 1000000), none, none, none, none, none, none]
/-- the law's start -/
abbrev am_st0 : am_C := (0, am_lv0, [], [], 0, 0)
theorem am_lawF {p : Program} {s : State} {m : MethodId} {meth : Method} {c : Code} {b L : Nat} {xs : Nat → Int32} {F : Nat} {al : Bool} (l : Launch) (C0 : lw_At p s m meth c b L xs) {G : am_G} {cy dC : Nat → ClassId} {dI : Nat → Nat → Nat} (h1 : G.1 = s.heap.size) (h2 : G.2.1 = b) (hK : va_K (dC, dI) am_cl (am_tys cy) s) (hX : am_X G s) : am_F p l room_1 s m #[Value.ref b] meth c G cy dC dI lw_tbl (L, xs) al (am_call al F 19) 20 0 am_rL := by
  obtain ⟨hx, hb, hr, hml, hown, hts, hscr, hbl, hlocks, hgv⟩ := C0
  refine ⟨hx, hb, hml, hts, fun w h => (am_good_in w h).1, hown, hK, hX, Nat.le_of_eq h1, ⟨⟨by decide, by decide⟩, by decide, by decide⟩, am_sound 19, (fun h => by cases h), (fun _ => ?_), (fun _ => by omega), am_lawok2⟩
  rw [h1, h2]
  exact ⟨hscr, hbl, hbl⟩
theorem am_law_end {p : Program} {e : Env} {s : State} {m : MethodId} {below : List Frame} {meth : Method} {c : Code} {b L : Nat} {xs : Nat → Int32} (l : Launch) (C0 : lw_At p s m meth c b L xs) {G : am_G} {cy dC : Nat → ClassId} {dI : Nat → Nat → Nat} (h1 : G.1 = s.heap.size) {al : Bool} {y : am_C} (hy : am_at am_rL y.1 = some .ireturn) (hst : y.2.2.1 = [.int 1]) {H1 : Heap} {locs1 : List Loc} {ls1 : Array Slot} (J : am_J s G cy dC dI al 0 am_rL y H1 locs1 ls1) : W p l e room_1 s m #[Value.ref b] below meth c H1 locs1 y.2.2.2.2.1 y.2.2.2.2.2 (lw_Z below #[Value.ref b] s) (F0 m y.1 ls1 (y.2.2.1.map (am_tv G))) := by
  obtain ⟨hx, hb, hr, hml, hown, hts, hscr, hbl, hlocks, hgv⟩ := C0
  obtain ⟨-, hS1, -, -, hc1, hc2⟩ := J
  rw [hst]
  refine va_forget (fun q hq => ?_) (W.widen (k := 601024) (n := 7293034) hc1 hc2 ?_)
  · have := hS1.2.2 q hq
    show s.heap.size ≤ q.base
    rw [← h1]
    exact this
  · exact lw_ret hx hb hr hlocks (am_dl (am_lawok2 _ _ hy) rfl)
/-- a run of the small machine that ends in 1 gives the law's -/
theorem am_law_run {p : Program} {e : Env} {s : State} {m : MethodId} {below : List Frame} {meth : Method} {c : Code} {b L : Nat} {xs : Nat → Int32} {F n : Nat} (l : Launch) (C0 : lw_At p s m meth c b L xs) {y : am_C} (hn : am_nst (am_call true F 19) 20 (L, xs) true am_rL n am_st0 = some y) (hy : am_at am_rL y.1 = some .ireturn) (hst : y.2.2.1 = [.int 1]) : W p l e room_1 s m #[Value.ref b] below meth c s.heap [] 0 0 (lw_Z below #[Value.ref b] s) (entryFrame m ([Value.ref b] : List Value).toArray 7) := by
  obtain ⟨G, cy, dC, dI, h1, h2, hK, hX⟩ := am_begin C0
  have F1 := am_lawF (F := F) (al := true) l C0 h1 h2 hK hX
  obtain ⟨ls, hent, hlv⟩ := am_ent_ok (G := G) (as := [.ref 1000000]) (n := 7) (lv := am_lv0) rfl
  have e1 : ([Value.ref b] : List Value) = [Value.ref 1000000].map (am_tv G) := by
    show [Value.ref b] = [Value.ref G.2.1]
    rw [h2]
  have e2 : entryFrame m ([Value.ref b] : List Value).toArray 7 = F0 m 0 ls [] := by
    rw [e1]
    exact hent m
  rw [e2]
  refine am_nst_sound F1 n am_st0 y hn s.heap [] ls ⟨fun k q h => by simp [am_ws] at h, va_S.rf, hlv, fun _ => rfl, Nat.zero_le _, Nat.zero_le _⟩ (fun H1 locs1 ls1 J => ?_)
  exact am_law_end l C0 h1 hy hst J
