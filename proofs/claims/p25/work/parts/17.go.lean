/-! ===== a run of the small machine is a run of the machine ===== -/
theorem am_s4_len {o : Nat} {ini : Bool} {i : am_I} {h : am_H} {pc : Nat} {st : List Value} {x : Nat × List Value × am_H} (he : am_s4 o ini i h pc st = some x) : x.2.2.length = h.length := by
  cases i
  case putfield idx =>
    unfold am_s4 at he
    simp only at he
    split at he
    · split at he
      · split at he
        · obtain ⟨-, h7⟩ := am_cond_inv he
          subst h7
          simp
        · cases he
      · cases he
    · cases he
  case iastore => obtain ⟨v, i, a, r, n, f, -, -, -, -, rfl⟩ := am_ast_inv he; simp
  case bastore =>
    rcases am_or_inv he with he | he
    · obtain ⟨v, i, a, r, n, f, -, -, -, -, rfl⟩ := am_ast_inv he; simp
    · obtain ⟨v, i, a, r, n, f, -, -, -, -, rfl⟩ := am_ast_inv he; simp
  case sastore => obtain ⟨v, i, a, r, n, f, -, -, -, -, rfl⟩ := am_ast_inv he; simp
  case lastore => obtain ⟨v, i, a, r, n, f, -, -, -, -, rfl⟩ := am_lst_inv he; simp
  all_goals exact absurd he (by simp [am_s4])
/-- what a frame stands on -/
def am_F (p : Program) (l : Launch) (R : Room) (s : State) (m : MethodId) (args : Array Value) (meth : Method) (c : Code) (G : am_G) (cy dC : Nat → ClassId) (dI : Nat → Nat → Nat) (Ts : List Cond) (S : am_S) (al : Bool) (call : am_CALL) (d n0 : Nat) (r : am_M) : Prop :=
  p.tables.exec = Jvm.exec ∧ c.code = am_b r ∧ c.maxLocals = am_L r ∧ (∀ w ∈ Ts, w.before args s = true) ∧ (∀ w ∈ lw_good, w ∈ Ts) ∧ s.vm.findClass (am_R (am_o r)) = some m.cls ∧ va_K (dC, dI) am_cl (am_tys cy) s ∧ am_X G s ∧ G.1 ≤ s.heap.size ∧ ((d ≤ R.frames ∧ 64 * d ≤ R.locals) ∧ (am_k r).1 ≤ R.cells ∧ (am_k r).2 ≤ R.slots) ∧ am_ok l G cy dC dI al call d ∧ (am_i r = true → meth.name = "<init>") ∧ (am_o r = 13 → va_X G.2.1 S.1 S.2 s s.heap ∧ G.2.1 < s.heap.size ∧ G.2.1 < G.1) ∧ (al = true → s.heap.size = G.1 + n0) ∧ ∀ pc i, am_at r pc = some i → am_dec (am_b r) pc i = true
/-- where the small machine stands and where the machine does -/
def am_J (s : State) (G : am_G) (cy dC : Nat → ClassId) (dI : Nat → Nat → Nat) (al : Bool) (n0 : Nat) (r : am_M) (x : am_C) (H : Heap) (locs : List Loc) (ls : Array Slot) : Prop :=
  va_P (dC, dI) am_cl (am_ws G cy x.2.2.2.1) H ∧ va_S (am_A G) s.heap H locs ∧ am_lv G ls (am_L r) x.2.1 ∧ (al = true → x.2.2.2.1.length = n0 + x.2.2.2.2.1) ∧ x.2.2.2.2.1 ≤ (am_k r).1 ∧ x.2.2.2.2.2 ≤ (am_k r).2
/-- n instructions, none of them a return -/
def am_nst (call : am_CALL) (d : Nat) (S : am_S) (al : Bool) (r : am_M) : Nat → am_C → Option am_C
  | 0, x => some x
  | n + 1, x => match am_at r x.1 with
    | none => none
    | some i => match am_step call d S al r i x with
      | some y => am_nst call d S al r n y
      | none => none
section AMG
variable {p : Program} {l : Launch} {e : Env} {R : Room} {s : State} {m : MethodId} {args : Array Value} {below : List Frame} {meth : Method} {c : Code} {Q : State → Prop} {G : am_G} {cy dC : Nat → ClassId} {dI : Nat → Nat → Nat} {Ts : List Cond} {S : am_S} {al : Bool} {call : am_CALL} {d n0 : Nat} {r : am_M}
theorem am_step_sound (F : am_F p l R s m args meth c G cy dC dI Ts S al call d n0 r) {i : am_I} {x y : am_C} (hi : am_at r x.1 = some i) (he : am_step call d S al r i x = some y) {H : Heap} {locs : List Loc} {ls : Array Slot} (J : am_J s G cy dC dI al n0 r x H locs ls)
    (k : ∀ (H1 : Heap) (locs1 : List Loc) (ls1 : Array Slot), am_J s G cy dC dI al n0 r y H1 locs1 ls1 → W p l e R s m args below meth c H1 locs1 y.2.2.2.2.1 y.2.2.2.2.2 Q (F0 m y.1 ls1 (y.2.2.1.map (am_tv G)))) : W p l e R s m args below meth c H locs x.2.2.2.2.1 x.2.2.2.2.2 Q (F0 m x.1 ls (x.2.2.1.map (am_tv G))) := by
  obtain ⟨hx, hb, hml, hts, hgd, hown, hK, hX, hG, hR, hcall, hin, hsc, h0, hdec⟩ := F
  obtain ⟨pc, lv, st, h, nc, ns⟩ := x
  obtain ⟨hP, hS, hl, hn, hc1, hc2⟩ := J
  simp only at hi hP hl hn hc1 hc2 ⊢
  have hd := hdec pc i hi
  unfold am_step at he
  simp only at he
  split at he
  · rename_i x1 hx1
    cases he
    exact am_s1_sound hx hb hd hx1 hl (fun ls' hl' => k H locs ls' ⟨hP, hS, hl', hn, hc1, hc2⟩)
  · split at he
    · rename_i x1 hx1
      cases he
      exact am_s2_sound hx hb hd hx1 (k H locs ls ⟨hP, hS, hl, hn, hc1, hc2⟩)
    · split at he
      · rename_i x1 hx1
        cases he
        exact am_s3_sound hx hb hts hgd hown hK hsc hX.2.1 hP hS hd hx1 (k H locs ls ⟨hP, hS, hl, hn, hc1, hc2⟩)
      · split at he
        · rename_i x1 hx1
          cases he
          exact am_s4_sound hx hb hts hgd hown hK hin hP hS hd hx1 (fun H1 locs1 z1 z2 => k H1 locs1 ls ⟨z1, z2, hl, fun ha => by rw [am_s4_len hx1]; exact hn ha, hc1, hc2⟩)
        · split at he
          · rename_i x1 hx1
            cases he
            exact am_s5_sound (n0 := n0) hx hb hts hgd hown hK hG hR.2 (fun ha => ⟨h0 ha, hn ha⟩) hP hS hd hx1 (fun H1 locs1 z1 z2 z3 z4 z5 => k H1 locs1 ls ⟨z1, z2, hl, z3, z4, z5⟩)
          · exact am_s6_sound (n0 := n0) hx hb hml hts hgd hown hK hX hG hR hcall hl (fun ha => ⟨h0 ha, hn ha⟩) ⟨hc1, hc2⟩ hP hS hd he (fun H1 locs1 z1 z2 z3 z4 z5 z6 => k H1 locs1 ls ⟨z1, z2, z3, z4, z5, z6⟩)
theorem am_nst_sound (F : am_F p l R s m args meth c G cy dC dI Ts S al call d n0 r) : ∀ (n : Nat) (x y : am_C), am_nst call d S al r n x = some y → ∀ (H : Heap) (locs : List Loc) (ls : Array Slot), am_J s G cy dC dI al n0 r x H locs ls →
    (∀ (H1 : Heap) (locs1 : List Loc) (ls1 : Array Slot), am_J s G cy dC dI al n0 r y H1 locs1 ls1 → W p l e R s m args below meth c H1 locs1 y.2.2.2.2.1 y.2.2.2.2.2 Q (F0 m y.1 ls1 (y.2.2.1.map (am_tv G)))) → W p l e R s m args below meth c H locs x.2.2.2.2.1 x.2.2.2.2.2 Q (F0 m x.1 ls (x.2.2.1.map (am_tv G))) := by
  intro n
  induction n with
  | zero =>
    intro x y he H locs ls J k
    cases he
    exact k H locs ls J
  | succ n ih =>
    intro x y he H locs ls J k
    unfold am_nst at he
    split at he
    · cases he
    · rename_i i hi
      split at he
      · rename_i z hz
        exact am_step_sound F hi hz J (fun H1 locs1 ls1 J1 => ih z y he H1 locs1 ls1 J1 k)
      · cases he
theorem am_go_nst : ∀ (f : Nat) (x y : am_C), am_go call d S al r f x = some y → (∃ n, am_nst call d S al r n x = some y) ∧ ∃ i, am_at r y.1 = some i ∧ am_isr i = true := by
  intro f
  induction f with
  | zero => intro x y h; cases h
  | succ f ih =>
    intro x y h
    unfold am_go at h
    split at h
    · cases h
    · rename_i i hi
      cases hr : am_isr i with
      | true =>
        rw [hr] at h
        cases h
        exact ⟨⟨0, rfl⟩, i, hi, hr⟩
      | false =>
        rw [hr] at h
        simp only [cond_false] at h
        split at h
        · rename_i z hz
          obtain ⟨⟨n, hn⟩, hq⟩ := ih z y h
          refine ⟨⟨n + 1, ?_⟩, hq⟩
          unfold am_nst
          simp only [hi, hz]
          exact hn
        · cases h
end AMG
theorem am_slt_args (G : am_G) : ∀ (as : List Value) (off i : Nat) (v : Value), (am_slt as)[i]? = some (some v) → (off + i, am_tv G v) ∈ lv_args off (as.map (am_tv G)) := by
  intro as
  induction as with
  | nil => intro off i v h; simp [am_slt] at h
  | cons a as ih =>
    intro off i v h
    show (off + i, am_tv G v) ∈ (off, am_tv G a) :: lv_args (if (am_tv G a).category = 2 then off + 2 else off + 1) (as.map (am_tv G))
    rw [am_tv_cat]
    unfold am_slt at h
    cases hc : Nat.beq a.category 2 with
    | true =>
      rw [hc] at h
      simp only [cond_true] at h
      have hc2 := Nat.eq_of_beq_eq_true hc
      match i, h with
      | 0, h => cases h; exact List.mem_cons_self ..
      | 1, h => cases h
      | i + 2, h =>
        rw [if_pos hc2]
        have h2 := ih (off + 2) i v h
        rw [show off + (i + 2) = off + 2 + i by omega]
        exact List.mem_cons_of_mem _ h2
    | false =>
      rw [hc] at h
      simp only [cond_false] at h
      have hc2 : ¬ a.category = 2 := fun q => by rw [q] at hc; cases hc
      match i, h with
      | 0, h => cases h; exact List.mem_cons_self ..
      | i + 1, h =>
        rw [if_neg hc2]
        have h2 := ih (off + 1) i v h
        rw [show off + (i + 1) = off + 1 + i by omega]
        exact List.mem_cons_of_mem _ h2
theorem am_slt_len (G : am_G) (as : List Value) : (lg_sl (as.map (am_tv G))).length = (am_slt as).length := by
  induction as with
  | nil => rfl
  | cons a as ih =>
    unfold am_slt
    unfold lg_sl at ih ⊢
    simp only [List.map_cons, List.flatMap_cons, List.length_append, am_tv_cat]
    rw [ih]
    cases hc : Nat.beq a.category 2 with
    | true =>
      rw [if_pos (Nat.eq_of_beq_eq_true hc)]
      simp only [cond_true, List.length_cons, List.length_nil]
      omega
    | false =>
      rw [if_neg (fun q => by rw [q] at hc; cases hc)]
      simp only [cond_false, List.length_cons, List.length_nil]
      omega
theorem am_ent_ok {G : am_G} {as : List Value} {n : Nat} {lv : List (Option Value)} (h : am_ent as n = some lv) : ∃ ls : Array Slot, (∀ m : MethodId, entryFrame m (as.map (am_tv G)).toArray n = F0 m 0 ls []) ∧ am_lv G ls n lv := by
  unfold am_ent at h
  obtain ⟨h1, h2⟩ := am_cond_inv h
  subst h2
  rw [Nat.ble_eq] at h1
  have hle : (lg_sl (as.map (am_tv G))).length ≤ n := by rw [am_slt_len]; exact h1
  have hl := lv_entry (as.map (am_tv G)) (n := n) hle
  refine ⟨_, fun m => lg_entry_eq m _ n, by simp; omega, hl.1, hl.2.1, fun i v hv => ?_⟩
  have hv2 : (am_slt as)[i]? = some (some v) := by
    by_cases hi : i < (am_slt as).length
    · rw [List.getElem?_append_left hi] at hv; exact hv
    · rw [List.getElem?_append_right (by omega), List.getElem?_replicate] at hv
      split at hv <;> cases hv
  have h3 := am_slt_args G as 0 i v hv2
  rw [Nat.zero_add] at h3
  exact hl.2.2 _ h3
theorem am_not13 : am_T.all (fun r => !Nat.beq (am_o r) 13) = true := by decide +kernel
theorem am_fit_nar {ty : FieldType} {v : Value} (h : am_fit ty v = true) : narrow ty v = v := (am_fit_ok h).2
theorem am_run_sound {l : Launch} {G : am_G} {cy dC : Nat → ClassId} {dI : Nat → Nat → Nat} {al : Bool} {call : am_CALL} {d F mi : Nat} {as : List Value} {h : am_H} {q : Option Value × am_H} (hcall : am_ok l G cy dC dI al call d) (he : am_run call d al F mi as h = some q) : ∃ r, am_T[mi]? = some r ∧ Met l (am_y r) (am_w r) (am_rm d r) (va_Pc (as.map (am_tv G)) (am_Pc G cy dC dI al h)) (am_Q G cy dC dI q.1 q.2) (am_k r).1 (am_k r).2 (am_A G) := by
  unfold am_run at he
  split at he
  · rename_i r hr
    split at he
    · rename_i lv hlv
      split at he
      · rename_i y hy
        refine ⟨r, hr, ?_⟩
        have hmem := List.mem_of_getElem? hr
        obtain ⟨hdec, hcode, hini, hRy, hplain, hL40⟩ := am_mok_inv (am_mk r hmem)
        have h13 : am_o r ≠ 13 := by
          have h1 := List.all_eq_true.mp am_not13 r hmem
          intro q
          rw [q] at h1
          cases h1
        refine Met.ofW (cc := am_b r) (maxL := am_L r) (ret := am_rt r) hplain rfl ?_
        intro p e s m args below meth c s₁ B hml hv
        obtain ⟨rfl, hP, hK, hX, hG, hz⟩ := hv
        have hx := B.exec
        have hb := B.bytes
        have hrt := B.returns
        have hts := atoms_spec (ws := am_w r) B.pre
        have hown : s.vm.findClass (am_R (am_o r)) = some m.cls := by rw [hRy]; exact findClass_of_methodNamed B.named
        have hlocks := B.notSynchronized
        have hin : am_i r = true → meth.name = "<init>" := fun hi => by rw [(name_of_methodNamed B.named B.method).1]; exact hini hi
        have hS : va_S (am_A G) s.heap s.heap [] := va_S.rf
        obtain ⟨ls, hent, hlv2⟩ := am_ent_ok (G := G) hlv
        rw [hent]
        have F0' : am_F p l (am_rm d r) s m (as.map (am_tv G)).toArray meth c G cy dC dI (am_w r) (0, fun _ => 0) al call d h.length r := ⟨hx, hb, hml, hts, fun w hw => List.mem_cons_of_mem _ hw, hown, hK, hX, hG, ⟨⟨Nat.le_refl _, Nat.le_refl _⟩, Nat.le_refl _, Nat.le_refl _⟩, hcall, hin, fun q => absurd q h13, hz, hdec⟩
        obtain ⟨⟨n, hn⟩, i, hi, hisr⟩ := am_go_nst _ _ _ hy
        refine am_nst_sound F0' n _ _ hn s.heap [] ls ⟨hP, hS, hlv2, fun _ => rfl, Nat.zero_le _, Nat.zero_le _⟩ (fun H1 locs1 ls1 J1 => ?_)
        obtain ⟨hP1, hS1, hl1, hn1, hc1, hc2⟩ := J1
        obtain ⟨pc, lv1, st1, h1, nc1, ns1⟩ := y
        simp only at hP1 hl1 hn1 hc1 hc2 hi ⊢
        have hd := hdec pc i hi
        unfold am_ret at he
        simp only [hi] at he
        refine W.widen hc1 hc2 ?_
        split at he
        · rename_i hh
          cases hh
          split at he
          · rename_i ty x hty
            obtain ⟨h5, h6⟩ := am_cond_inv he
            subst h6
            exact W.zret (v := x) hx hb (hrt.trans hty) (am_fit_nar h5) (fun t ht hW => ⟨rfl, by rw [ht]; exact hP1, hS1.F ht⟩) hS1.2.2 (am_dl hd rfl)
          · cases he
        · rename_i hh
          cases hh
          split at he
          · rename_i x hty
            cases he
            exact W.lret (v := x) hx hb (hrt.trans hty) (fun t ht hW => ⟨rfl, by rw [ht]; exact hP1, hS1.F ht⟩) hS1.2.2 (am_dl hd rfl)
          · cases he
        · rename_i hh
          cases hh
          split at he
          · rename_i hty
            cases he
            exact W.vret hx hb (hrt.trans hty) (fun t ht hW => ⟨rfl, by rw [ht]; exact hP1, hS1.F ht⟩) hS1.2.2 (am_dl hd rfl)
          · cases he
        · cases he
      · cases he
    · cases he
  · cases he
/-- every call of the small machine is met by the machine -/
theorem am_sound {l : Launch} {G : am_G} {cy dC : Nat → ClassId} {dI : Nat → Nat → Nat} {al : Bool} {F : Nat} : ∀ d : Nat, am_ok l G cy dC dI al (am_call al F d) (d + 1) := by
  intro d
  induction d with
  | zero =>
    intro mi as h q he
    obtain ⟨r, h1, h2⟩ := am_run_sound (call := fun _ _ _ => none) (d := 0) (fun mi as h q he => by cases he) he
    exact ⟨0, r, rfl, h1, h2⟩
  | succ d ih =>
    intro mi as h q he
    obtain ⟨r, h1, h2⟩ := am_run_sound (call := am_call al F d) (d := d + 1) ih he
    exact ⟨d + 1, r, rfl, h1, h2⟩
