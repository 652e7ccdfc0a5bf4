/-- what a call's row says -/
def am_yok (y : MethodName) (n : Nat) : Bool := decide (y.cls ≠ "java/lang/invoke/MethodHandle") && decide (y.cls ≠ "java/lang/invoke/VarHandle") && decide ((parseMethodDescriptor y.desc).map (fun d => d.parameters.length) = some n)
def am_iok (o : Nat) (e : Nat × Nat × Nat × Nat × Nat × Nat × Nat × Nat) : Bool := match e with
  | (idx, kind, mi, n, pl, pA, pB, pC) => match am_T[mi]? with
    | none => false
    | some r => match kind with
      | 0 => am_has (.methodLink (am_R o) idx (am_y r)) pl && am_has (.instanceMethod (am_y r)) pA && am_has (.selects (am_y r).cls (am_y r) (am_y r)) pB && am_has (.initialized (am_y r).cls) pC && am_yok (am_y r) n
      | 1 => am_has (.methodLink (am_R o) idx (am_y r)) pl && am_has (.static (am_y r)) pA && am_has (.initialized (am_y r).cls) pC && am_yok (am_y r) n
      | 2 => am_has (.methodLink (am_R o) idx (am_y r)) pl && am_has (.instanceMethod (am_y r)) pA && am_has (.initialized (am_y r).cls) pC && am_yok (am_y r) n && am_i r && decide (am_rt r = none)
      | 3 => am_has (.methodLink (am_R o) idx Lib.objectInit) pl && am_has (.instanceMethod Lib.objectInit) pA && am_has (.code Lib.objectInit ⟨#[0xb1]⟩ 1 none) pB
      | 4 => am_has (.methodLink (am_R o) idx ⟨"java/lang/String", "length", "()I"⟩) pl && Nat.beq n 0
      | 5 => am_has (.methodLink (am_R o) idx ⟨"java/lang/String", "charAt", "(I)C"⟩) pl && Nat.beq n 1
      | 6 => decide (am_nest[pl]? = some (.methodLinkNest (am_R o) idx (am_y r) "LinkedVerse")) && am_has (.instanceMethod (am_y r)) pA && am_has (.initialized (am_y r).cls) pC && am_yok (am_y r) n && am_i r && decide (am_rt r = none)
      | 7 => am_has (.methodLink (am_R o) idx Lib.Math.max.name) pl && am_has (.static Lib.Math.max.name) pA && am_has (.code Lib.Math.max.name Lib.Math.max.code 2 (some .int)) pB && am_has (.initialized "java/lang/Math") pC && Nat.beq n 2
      | 8 => am_has (.methodLink (am_R o) idx Lib.Math.min.name) pl && am_has (.static Lib.Math.min.name) pA && am_has (.code Lib.Math.min.name Lib.Math.min.code 2 (some .int)) pB && am_has (.initialized "java/lang/Math") pC && Nat.beq n 2
      | _ => false
theorem am_io0 : (am_invO 0).all (am_iok 0) = true := by decide +kernel
theorem am_io1 : (am_invO 1).all (am_iok 1) = true := by decide +kernel
theorem am_io2 : (am_invO 2).all (am_iok 2) = true := by decide +kernel
theorem am_io3 : (am_invO 3).all (am_iok 3) = true := by decide +kernel
theorem am_io4 : (am_invO 4).all (am_iok 4) = true := by decide +kernel
theorem am_io5 : (am_invO 5).all (am_iok 5) = true := by decide +kernel
theorem am_io6 : (am_invO 6).all (am_iok 6) = true := by decide +kernel
theorem am_io7 : (am_invO 7).all (am_iok 7) = true := by decide +kernel
theorem am_io8 : (am_invO 8).all (am_iok 8) = true := by decide +kernel
theorem am_io9 : (am_invO 9).all (am_iok 9) = true := by decide +kernel
theorem am_io10 : (am_invO 10).all (am_iok 10) = true := by decide +kernel
theorem am_io11 : (am_invO 11).all (am_iok 11) = true := by decide +kernel
theorem am_io12 : (am_invO 12).all (am_iok 12) = true := by decide +kernel
theorem am_io13 : (am_invO 13).all (am_iok 13) = true := by decide +kernel
theorem am_io14 : (am_invO 14).all (am_iok 14) = true := by decide +kernel
theorem am_io15 : (am_invO 15).all (am_iok 15) = true := by decide +kernel
theorem am_io (o : Nat) (h : o < 16) : (am_invO o).all (am_iok o) = true := match o, h with
  | 0, _ => am_io0
  | 1, _ => am_io1
  | 2, _ => am_io2
  | 3, _ => am_io3
  | 4, _ => am_io4
  | 5, _ => am_io5
  | 6, _ => am_io6
  | 7, _ => am_io7
  | 8, _ => am_io8
  | 9, _ => am_io9
  | 10, _ => am_io10
  | 11, _ => am_io11
  | 12, _ => am_io12
  | 13, _ => am_io13
  | 14, _ => am_io14
  | 15, _ => am_io15
  | n + 16, h => absurd h (by omega)
theorem am_inf_inv {o idx : Nat} {q : Nat × Nat × Nat × Nat} (h : am_inf o idx = some q) : ∃ pA pB pC, am_iok o (idx, q.1, q.2.1, q.2.2.1, q.2.2.2, pA, pB, pC) = true := by
  unfold am_inf at h
  cases ho : Nat.blt o 16 with
  | false => rw [ho] at h; cases h
  | true =>
    rw [ho] at h
    obtain ⟨e, he, rfl⟩ := am_map_inv h
    have h1 := List.all_eq_true.mp (am_io o (by simpa [Nat.blt_eq] using ho)) e (List.mem_of_find?_eq_some he)
    have h3 := List.find?_some he
    have h2 := Nat.eq_of_beq_eq_true h3
    obtain ⟨e1, e2, e3, e4, e5, e6, e7, e8⟩ := e
    simp only at h2
    subst h2
    exact ⟨e6, e7, e8, h1⟩
/-- what a method's row says -/
def am_mok (r : am_M) : Bool := (List.range (am_sz r)).all (fun pc => match am_tr r pc with
  | some i => am_dec (am_b r) pc i
  | none => true) && am_has (.code (am_y r) (am_b r) (am_L r) (am_rt r)) (am_ps r) && (!am_i r || decide ((am_y r).name = "<init>")) && decide (am_R (am_o r) = (am_y r).cls) && plainName (am_y r).cls && Nat.ble (am_L r) 40
