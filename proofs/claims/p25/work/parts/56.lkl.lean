/-! ===== the law's own liking: a frame with a table of one row ===== -/
def am_cK : Nat → Option am_I := fun pc => match pc with
  | 0 => some (.aload_n 3)
  | 1 => some (.iconst 0)
  | 2 => some (.aload_n 0)
  | 3 => some (.iload_n 1)
  | 4 => some (.iload_n 2)
  | 8 => some .i2l
  | 9 => some .lastore
  | 10 => some (.goto 7)
  | 17 => some (.iconst 0)
  | 18 => some .ireturn
  | _ => none
abbrev am_yK : MethodName := ⟨"LinkedVerseLaw", "liking", "(LLinkedVerse;II[J)I"⟩
abbrev am_hK : List (Nat × Nat × Nat × Nat) := [(0, 10, 13, 13)]
def am_rK : am_M := (am_yK, method_3_code, 5, some .int, 13, false, (1, 6), 19, am_cK, 0)
def am_wK : List Cond := Cond.codeWith am_yK method_3_code 5 (some .int) am_hK :: lw_good
def am_rmK : Room := { frames := 19, cells := 1, slots := 6, locals := 64 * 19 }
theorem am_Kdec0 : (List.range 19).all (fun pc => match am_cK pc with
  | some i => am_dec method_3_code pc i
  | none => true) = true := by decide +kernel
theorem am_Kdec : ∀ pc i, am_at am_rK pc = some i → am_dec (am_b am_rK) pc i = true := by
  intro pc i hi
  unfold am_at at hi
  cases hb : Nat.blt pc (am_sz am_rK) with
  | false => rw [hb] at hi; cases hi
  | true =>
    rw [hb] at hi
    simp only [cond_true] at hi
    have h7 := List.all_eq_true.mp am_Kdec0 pc (List.mem_range.mpr (show pc < am_sz am_rK by simpa [Nat.blt_eq] using hb))
    have hi2 : am_cK pc = some i := hi
    simp only [hi2] at h7
    exact h7
theorem am_Kd : decode method_3_code 5 = .ok (.invokevirtual 7, 3) ∧ decode method_3_code 13 = .ok (.astore 4, 2) ∧ decode method_3_code 15 = .ok (.iconst 1, 1) ∧ decode method_3_code 16 = .ok (.ireturn, 1) ∧ decode method_3_code 18 = .ok (.ireturn, 1) := by
  refine ⟨?_, ?_, ?_, ?_, ?_⟩ <;> decide +kernel
theorem am_Kgood : goodWord (Cond.codeWith am_yK method_3_code 5 (some .int) am_hK) = true := by decide +kernel
theorem am_Kg (n : Nat) : ∀ w ∈ [Cond.methodLink "LinkedVerseLaw" 7 (am_y am_r148), .instanceMethod (am_y am_r148), .selects RX11 (am_y am_r148) (am_y am_r148), .initialized RX11], w ∈ lw_tbl ∧ goodWord w = true := by decide +kernel
theorem am_K1 (call : am_CALL) (S : am_S) (h : am_H) (a b : Int32) : am_nst call 19 S false am_rK 5 (0, [some (.ref 0), some (.int a), some (.int b), some (.ref 100), none], [], h, 0, 0) = some (5, [some (.ref 0), some (.int a), some (.int b), some (.ref 100), none], [.int b, .int a, .ref 0, .int 0, .ref 100], h, 0, 0) := rfl
/-- the answer is kept in the cell 100 -/
theorem am_K2 {h : am_H} {f : Nat → Int64} (hf : h[100]? = some (.inl (2, 1, .inr (.inl f)))) (S : am_S) (a b x : Int32) : am_Go false 18 S am_rK (8, [some (.ref 0), some (.int a), some (.int b), some (.ref 100), none], [.int x, .int 0, .ref 100], h, 0, 0) (18, [some (.ref 0), some (.int a), some (.int b), some (.ref 100), none], [.int 0], h.set 100 (.inl (2, 1, .inr (.inl (vp_updL f 0 x.toInt64)))), 0, 0) := by
  refine am_Go.bl 1 (y := (9, [some (.ref 0), some (.int a), some (.int b), some (.ref 100), none], [.long x.toInt64, .int 0, .ref 100], h, 0, 0)) (fun _ => rfl) ?_
  have e4 : am_s4 (am_o am_rK) (am_i am_rK) .lastore h 9 [.long x.toInt64, .int 0, .ref 100] = some (10, [], h.set 100 (.inl (2, 1, .inr (.inl (vp_updL f 0 x.toInt64))))) := by
    show am_lst h 9 [.long x.toInt64, .int 0, .ref 100] 2 = _
    have ha : am_arl h 100 2 = some (1, f) := by
      unfold am_arl
      rw [hf]
      rfl
    unfold am_lst
    simp only [ha]
    rfl
  refine am_Go.tr (y := (10, [some (.ref 0), some (.int a), some (.int b), some (.ref 100), none], [], h.set 100 (.inl (2, 1, .inr (.inl (vp_updL f 0 x.toInt64)))), 0, 0)) ⟨1, 0, fun F _ => ?_⟩ ?_
  · unfold am_nst
    have hi : am_at am_rK 9 = some .lastore := rfl
    have e5 : am_step (am_call false F 18) (18 + 1) S false am_rK .lastore (9, [some (.ref 0), some (.int a), some (.int b), some (.ref 100), none], [.long x.toInt64, .int 0, .ref 100], h, 0, 0) = some (10, [some (.ref 0), some (.int a), some (.int b), some (.ref 100), none], [], h.set 100 (.inl (2, 1, .inr (.inl (vp_updL f 0 x.toInt64)))), 0, 0) := by
      show (match am_s4 (am_o am_rK) (am_i am_rK) .lastore h 9 [.long x.toInt64, .int 0, .ref 100] with
        | some x => some (x.1, _, x.2.1, x.2.2, 0, 0)
        | none => _) = _
      rw [e4]
    simp only [hi, e5]
    rfl
  · exact am_Go.bl 2 (fun _ => rfl) am_Go.rf
/-- what the law's liking stands on -/
def am_PK (h : am_H) (G : am_G) (cy dC : Nat → ClassId) (dI : Nat → Nat → Nat) (S : am_S) (U : State) : Prop := am_Pc G cy dC dI false h U ∧ am_Y G U ∧ va_X G.2.1 S.1 S.2 U U.heap ∧ G.2.1 < U.heap.size ∧ G.2.1 < G.1
theorem am_PKblind {h : am_H} {G : am_G} {cy dC : Nat → ClassId} {dI : Nat → Nat → Nat} {S : am_S} {av : List Value} : FrameBlind (va_Pc av (am_PK h G cy dC dI S)) := fun a U g mk q =>
  ⟨q.1, (am_blind (av := av) a U g mk ⟨q.1, q.2.1⟩).2, q.2.2.1.calling g mk a, va_X.moved (u := U) (U := U.calling g mk a) (Vm.Alike.refl U.vm) q.2.2.2.1, q.2.2.2.2.1, q.2.2.2.2.2⟩
theorem am_XPblind {G : am_G} {cy dC : Nat → ClassId} {dI : Nat → Nat → Nat} {h : am_H} {av : List Value} : FrameBlind (va_Pc av (fun U => am_Pc G cy dC dI false h U ∧ am_Y G U)) := fun a U g mk q =>
  ⟨q.1, (am_blind (av := av) a U g mk ⟨q.1, q.2.1⟩).2, q.2.2.calling g mk a⟩
/-- a contract of a method with a table, out of a walk that ends in a return -/
theorem am_ofWH {l : Launch} {y : MethodName} {ws ws' : List Cond} {rm : Room} {Pc : Array Value → State → Prop} {Qc : Array Value → State → Outcome → State → Prop} {mc ms : Nat} {free : Addr → Prop} {cc : ByteArray} {maxL : Nat} {ret : Option FieldType} {hh : List (Nat × Nat × Nat × Nat)}
    (hy : plainName y.cls = true) (hw : ws = Cond.codeWith y cc maxL ret hh :: ws')
    (body : ∀ p e s m args below meth c s₁, BodyLoose p l y (headSpec ws rm) cc maxL ret e s m args below meth c s₁ → c.maxLocals = maxL → Pc args s →
      W p l e (headSpec ws rm).room s m args below meth c s.heap [] 0 0 (MQ below Qc args s mc ms free) (entryFrame m args maxL)) : Met l y ws rm Pc Qc mc ms free := by
  refine MetFree.of_bodyS (code := cc) (maxLocals := maxL) (ret := ret) hy ?_ ?_
  · intro args s m h hn
    obtain ⟨m9, meth, c, hn9, h1, h2, h3, h4, -, h5, h6, -⟩ := Cond.codeWith_spec (atoms_spec (ws := ws) h _ (by rw [hw]; exact List.mem_cons_self))
    cases hn.symm.trans hn9
    exact ⟨meth, c, h1, h2, h3, h4, h5, h6⟩
  · intro p e s m args below meth c s₁ B hml hP _
    have hh0 : s₁.heap = s.heap := by rw [B.state]; rfl
    obtain ⟨t, a1, o, b1, b2, b3⟩ := body p e s m args below meth c s₁ B hml hP s₁ hh0 (Stand.of_body B)
    exact ⟨t, o, a1, b1, b2, ⟨b3.1, b3.2⟩⟩
