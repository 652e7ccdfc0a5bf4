/-! ===== all turns of the law but liking's ===== -/
theorem am_cell_keep {mo : ab_Mo} {h h2 : am_H} {a k c : Nat} {ws : List ab_W} (hok : ab_hok ab_D0 h) (hf : ab_fr mo h h2) (hd : ab_D0[a]? = some (.inr (c, ws))) (hm : ab_md mo a (k + 1) = false) (ha : Nat.blt a 1000000 = true) : ab_cell h2 a (k : Int) = ab_cell h a (k : Int) := by
  obtain ⟨fs, f1, -, -, -⟩ := ab_hok_obj hok hd ha
  obtain ⟨fs2, e1, e2⟩ := hf.2 a k c fs (ab_md_not hm) f1
  rw [ab_cell_obj f1, ab_cell_obj e1, e2]
/-- the words of the text stand where the constructor laid them -/
def am_kw (h : am_H) : Prop := ∃ f : Nat → Int64, h[17]? = some (.inl (2, 13, .inr (.inl f))) ∧ ∀ (i : Nat) (v : List Int), rd_KW[i]? = some v → f i = Int64.ofInt (rd_cd 32 v)
theorem am_kw.keep {mo : ab_Mo} {h h2 : am_H} (hk : am_kw h) (hf : ab_fr mo h h2) (hm : mo.all (fun q => !Nat.beq q.1 17) = true) : am_kw h2 := by
  obtain ⟨f, a, b⟩ := hk
  exact ⟨f, (am_fr_get hf hm).trans a, b⟩
def am_kwc (f : Nat → Int64) : Bool := (List.range 13).all (fun i => decide (f i = Int64.ofInt (rd_cd 32 (rd_KW.getD i []))))
theorem am_kwf {h : am_H} (hk : am_kwc (am_ctL h 17) = true) : am_kw (am_h0f h) := by
  refine ⟨am_ctL h 17, rfl, fun i v hv => ?_⟩
  have hi : i < 13 := (List.getElem?_eq_some_iff.mp hv).1
  have h1 := of_decide_eq_true (List.all_eq_true.mp hk i (List.mem_range.mpr hi))
  rw [h1, List.getD_eq_getElem?_getD, hv]
  rfl
theorem am_kwM : am_kwc (am_ctL am_hM 17) = true := by decide +kernel
/-- the tapes are alike -/
def am_Rt (h : am_H) : Prop := ∃ q p : Int × (Nat → Int32), am_tq q p ∧ (ab_cell h 8 ((2 : Nat) : Int) = some (.int (Int32.ofInt q.1)) ∧ h[16]? = some (.inl (1, 600, .inl q.2))) ∧ (ab_cell h 64 ((2 : Nat) : Int) = some (.int (Int32.ofInt p.1)) ∧ h[65]? = some (.inl (0, 600, .inl p.2))) ∧ 0 ≤ q.1 ∧ q.1 ≤ 600
def am_Rel (h : am_H) : Prop := am_Rt h ∧ am_kw h
def am_Ip (h : am_H) : Prop := am_Iv h ∧ am_Rel h
theorem am_Rt.keep {mo : ab_Mo} {h h2 : am_H} (hr : am_Rt h) (hok : ab_hok ab_D0 h) (hf : ab_fr mo h h2) (hm : (!ab_md mo 8 3 && !ab_md mo 64 3 && mo.all (fun q => !Nat.beq q.1 16) && mo.all (fun q => !Nat.beq q.1 65)) = true) : am_Rt h2 := by
  obtain ⟨q, p, a1, ⟨a2, a3⟩, ⟨a4, a5⟩, a6⟩ := hr
  simp only [Bool.and_eq_true, Bool.not_eq_true'] at hm
  obtain ⟨⟨⟨m1, m2⟩, m3⟩, m4⟩ := hm
  exact ⟨q, p, a1, ⟨(am_cell_keep hok hf am_d8 m1 rfl).trans a2, (am_fr_get hf m3).trans a3⟩, ⟨(am_cell_keep hok hf am_d64 m2 rfl).trans a4, (am_fr_get hf m4).trans a5⟩, a6⟩
theorem am_Rt0 (h : am_H) : am_Rt (am_h0f h) := ⟨(0, am_ctI h 16), (0, am_ctI h 65), ⟨rfl, fun j hj => by simp only at hj; omega⟩, ⟨rfl, rfl⟩, ⟨rfl, rfl⟩, (show (0 : Int) ≤ 0 by decide), (show (0 : Int) ≤ 600 by decide)⟩
theorem am_Rel.keep {mo : ab_Mo} {h h2 : am_H} (hr : am_Rel h) (hok : ab_hok ab_D0 h) (hf : ab_fr mo h h2) (hm : ((!ab_md mo 8 3 && !ab_md mo 64 3 && mo.all (fun q => !Nat.beq q.1 16) && mo.all (fun q => !Nat.beq q.1 65)) && mo.all (fun q => !Nat.beq q.1 17)) = true) : am_Rel h2 := by
  rw [Bool.and_eq_true] at hm
  exact ⟨hr.1.keep hok hf hm.1, hr.2.keep hf hm.2⟩
theorem am_R00 : am_Rel am_h0 := ⟨am_Rt0 am_hM, am_kwf am_kwM⟩
theorem am_pr_feed {h : am_H} {x1 x2 x3 : Int64} (hI : am_Ip h) : ∃ r1 r2 h1 h2, am_Do false 19 119 [.ref 0, .long x1, .long x2, .long x3] h (some (.int r1), h1) ∧ ab_hok ab_D0 h1 ∧ am_Do false 19 150 [.ref 64, .long x1, .long x2, .long x3] h1 (some (.int r2), h2) ∧ ab_hok ab_D0 h2 ∧ am_Ip h2 := by
  obtain ⟨⟨hok, hvl⟩, ⟨q, p, a1, ⟨a2, a3⟩, ⟨a4, a5⟩, a6⟩, hkw⟩ := hI
  obtain ⟨h1, d1, v1⟩ := am_fdX (A := x1) (B := x2) (C := x3) (⟨hok, ab_fr.rf, a2, a3, a6.1, a6.2⟩ : am_v8 am_mo8 h h q)
  have hp6 : 0 ≤ p.1 ∧ p.1 ≤ 600 := by rw [← a1.1]; exact a6
  obtain ⟨h2, d2, v2⟩ := am_fdM (A := x1) (B := x2) (C := x3) (⟨v1.1, ab_fr.rf, (am_cell_keep hok v1.2.1 am_d64 rfl rfl).trans a4, (am_fr_get v1.2.1 rfl).trans a5, hp6.1, hp6.2⟩ : am_v64 am_mo64 h1 h1 p)
  have hq := a1.fold (am_lx x1 ++ am_lx x2 ++ am_lx x3) (am_lm x1 ++ am_lm x2 ++ am_lm x3) q p a6 (am_lxm x1 x2 x3)
  obtain ⟨-, f1, c1, b1, g1⟩ := id v1
  obtain ⟨-, f2, c2, b2, g2⟩ := id v2
  exact ⟨_, _, h1, h2, d1, v1.1, d2, v2.1, ⟨⟨v2.1, (hvl.frX f1 rfl).frM v1.1 f2 rfl⟩, ⟨_, _, hq, ⟨(am_cell_keep v1.1 f2 am_d8 rfl rfl).trans c1, (am_fr_get f2 rfl).trans b1⟩, ⟨c2, b2⟩, g1⟩, (hkw.keep f1 rfl).keep f2 rfl⟩⟩
/-- the two states of a pair of tapes -/
theorem sg_cI {s : sg_S} {a c k : Nat} {ws : List ab_W} {e : Int × Int} (hd : ab_D0[a]? = some (.inr (c, ws))) (hw : ws[k]? = some (.inl e)) : ab_cell (sg_h s) a (k : Int) = some (.int (s.1 a k)) := by
  have h1 : (sg_h s)[a]? = some (.inr (c, sg_ws s a 0 ws)) := by rw [sg_get, hd]; rfl
  rw [ab_cell_obj h1, sg_ws_get, hw, Nat.zero_add]
  rfl
theorem am_Rel.sg {s : sg_S} (hok : ab_hok ab_D0 (sg_h s)) (hr : am_Rel (sg_h s)) : ∃ (B : Nat → Int) (N : Nat), rx_K B N s ∧ rm_K B N s := by
  obtain ⟨⟨⟨n, C⟩, ⟨m, D⟩, a1, ⟨a2, a3⟩, ⟨a4, a5⟩, a6⟩, f, k1, k2⟩ := hr
  obtain ⟨e1, e2⟩ := a1
  simp only at a2 a3 a4 a5 a6 e1 e2
  subst e1
  rw [sg_cI am_o8 rfl] at a2
  rw [sg_cI am_o64 rfl] at a4
  rw [sg_arr (t := 1) rfl rfl] at a3
  rw [sg_arr (t := 0) rfl rfl] at a5
  rw [sg_arl rfl] at k1
  cases k1
  have a2 := (Value.int.injEq _ _).mp (Option.some.inj a2)
  have a4 := (Value.int.injEq _ _).mp (Option.some.inj a4)
  have hC : s.2.2.1 16 = C := by cases a3; rfl
  have hD : s.2.2.1 65 = D := by cases a5; rfl
  have hn : (Int32.ofInt n).toInt = n := am_oi (by omega) (by omega)
  have hN : ((n.toNat : Nat) : Int) = n := Int.toNat_of_nonneg a6.1
  obtain ⟨e65, h65, hk65⟩ := ab_hok_get hok (show ab_D0[65]? = some (.inl (0, 600, -128, 127, 511)) from rfl)
  obtain ⟨e16, h16, hk16⟩ := ab_hok_get hok (show ab_D0[16]? = some (.inl (1, 600, 0, 255, 511)) from rfl)
  have g65 : ∀ j : Nat, j < 600 → -128 ≤ (s.2.2.1 65 j).toInt ∧ (s.2.2.1 65 j).toInt ≤ 127 := by
    rw [sg_arr (t := 0) rfl rfl] at h65
    cases h65
    rcases hk65 with ⟨-, f, e, hb⟩ | ⟨h, -⟩
    · cases e
      intro j hj
      have := hb j hj
      exact ⟨this.1, this.2.1⟩
    · exact absurd h (by decide)
  have g16 : ∀ j : Nat, j < 600 → 0 ≤ (s.2.2.1 16 j).toInt ∧ (s.2.2.1 16 j).toInt ≤ 255 := by
    rw [sg_arr (t := 1) rfl rfl] at h16
    cases h16
    rcases hk16 with ⟨-, f, e, hb⟩ | ⟨h, -⟩
    · cases e
      intro j hj
      have := hb j hj
      exact ⟨this.1, this.2.1⟩
    · exact absurd h (by decide)
  refine ⟨fun i => (s.2.2.1 65 i).toInt, n.toNat, ⟨by rw [a2, hn, hN], by omega, fun i hi => ?_, k2⟩, by rw [a4, hn, hN], by omega, fun i hi => ⟨rfl, g65 i (by omega)⟩⟩
  have h1 := g65 i (by omega)
  have h2 := g16 i (by omega)
  have h3 := e2 i (by omega)
  rw [← hC, ← hD] at h3
  refine ⟨h1.1, h1.2, ?_⟩
  show ((s.2.2.1 16 i).toInt = (s.2.2.1 65 i).toInt ∧ 0 ≤ (s.2.2.1 65 i).toInt) ∨ ((s.2.2.1 16 i).toInt = (s.2.2.1 65 i).toInt + 256 ∧ (s.2.2.1 65 i).toInt < 0)
  omega
theorem am_pr_read {h : am_H} (hI : am_Ip h) : ∃ r1 r2 h1 h2, am_Do false 19 120 [.ref 0] h (some (.int r1), h1) ∧ ab_hok ab_D0 h1 ∧ am_Do false 19 151 [.ref 64] h1 (some (.int r2), h2) ∧ ab_hok ab_D0 h2 ∧ am_Ip h2 ∧ r1 = r2 := by
  obtain ⟨r1, h1, d1, i1, f1, X1, hX1, ro1, k1⟩ := am_uX_read hI.1
  obtain ⟨r2, h2, d2, i2, f2, X2, hX2, ro2, k2⟩ := am_uM_read i1
  obtain ⟨x, x1, x2⟩ := am_outc_ok (a := 8) (fk := 2) (c := 0) (List.all_eq_true.mp (show (ab_c_LV_read_0.2.2.2.2.all (am_outc 8 2 0)) = true by decide +kernel) X1 hX1) k1
  obtain ⟨y, y1, y2⟩ := am_outc_ok (a := 64) (fk := 2) (c := 0) (List.all_eq_true.mp (show (ab_c_LVModel_read_64.2.2.2.2.all (am_outc 64 2 0)) = true by decide +kernel) X2 hX2) k2
  obtain ⟨B, hB⟩ := am_arr_of (a := 16) i2.1 rfl rfl rfl
  obtain ⟨C, hC⟩ := am_arr_of (a := 65) i2.1 rfl rfl rfl
  have ex : x = Int32.ofInt 0 := by rw [← x2, am_oio]
  have ey : y = Int32.ofInt 0 := by rw [← y2, am_oio]
  subst ex
  subst ey
  refine ⟨r1, r2, h1, h2, d1, i1.1, d2, i2.1, ⟨i2, ⟨(0, B), (0, C), ⟨rfl, fun j hj => by simp only at hj; omega⟩, ⟨(am_cell_keep (k := 2) i1.1 f2 am_d8 (by decide +kernel) rfl).trans x1, hB⟩, ⟨y1, hC⟩, (show (0 : Int) ≤ 0 by decide), (show (0 : Int) ≤ 600 by decide)⟩, (hI.2.2.keep f1 (by decide +kernel)).keep f2 (by decide +kernel)⟩, ?_⟩
  -- the answers
  have e0 := sg_of_ok hI.1.1
  generalize hs : sg_of h = s at e0
  subst e0
  obtain ⟨B, N, kX, kM⟩ := hI.2.sg hI.1.1
  obtain ⟨n, n1, n2, n3⟩ := am_fld_int (k := 0) (lo := 0) (hi := 12) hI.1.1 am_o24 rfl rfl
  rw [sg_cI am_o24 rfl] at n1
  have n1 := (Value.int.injEq _ _).mp (Option.some.inj n1)
  subst n1
  obtain ⟨F1, c1⟩ := d1
  obtain ⟨s1, q1, x1', q2, q3, q4⟩ := rx_read kX ⟨n2, n3⟩ false F1 19 _ (c1 F1 (Nat.le_refl _))
  have q2 := (Value.int.injEq _ _).mp (Option.some.inj q2)
  simp only at q1
  subst q2
  subst q1
  have fr : (s1.1 64 2 = s.1 64 2) ∧ s1.2.2.1 65 = s.2.2.1 65 := by
    generalize rp_text B N (N + 1) rp_T0 (rd_q B N 0) = R at q4
    match R, q4 with
    | .inl e, q4 => exact ⟨q4.2.2.i (by decide), q4.2.2.a (by decide)⟩
    | .inr T, q4 => exact ⟨q4.2.2.2.2.i (by decide), q4.2.2.2.2.a (by decide)⟩
  have kM1 : rm_K B N s1 := by
    unfold rm_K
    rw [fr.1, fr.2]
    exact kM
  obtain ⟨F2, c2⟩ := d2
  obtain ⟨s2, w1, x2', w2, w3, w4⟩ := rm_read kM1 false F2 19 _ (c2 F2 (Nat.le_refl _))
  have w2 := (Value.int.injEq _ _).mp (Option.some.inj w2)
  subst w2
  apply Int32.toInt_inj.mp
  generalize rp_text B N (N + 1) rp_T0 (rd_q B N 0) = R at q4 w4
  match R, q4, w4 with
  | .inl e, q4, w4 => rw [q4.1, w4.1]
  | .inr T, q4, w4 => rw [q4.1, w4.1]
theorem am_pr_poet {h : am_H} {x1 : Int32} (hI : am_Ip h) : ∃ r1 r2 h1 h2, am_Do false 19 122 [.ref 0, .int x1] h (some (.int r1), h1) ∧ ab_hok ab_D0 h1 ∧ am_Do false 19 167 [.ref 64, .int x1] h1 (some (.int r2), h2) ∧ ab_hok ab_D0 h2 ∧ am_Ip h2 := by
  obtain ⟨r1, h1, d1, i1, f1, -⟩ := am_uX_poet (x1 := x1) hI.1
  obtain ⟨r2, h2, d2, i2, f2, -⟩ := am_uM_poet (x1 := x1) i1
  exact ⟨r1, r2, h1, h2, d1, i1.1, d2, i2.1, i2, (hI.2.keep hI.1.1 f1 (by decide +kernel)).keep i1.1 f2 (by decide +kernel)⟩
theorem am_pr_turn {h : am_H} (hI : am_Ip h) : ∃ r1 r2 h1 h2, am_Do false 19 123 [.ref 0] h (some (.int r1), h1) ∧ ab_hok ab_D0 h1 ∧ am_Do false 19 169 [.ref 64] h1 (some (.int r2), h2) ∧ ab_hok ab_D0 h2 ∧ am_Ip h2 := by
  obtain ⟨r1, h1, d1, i1, f1, -⟩ := am_uX_turn hI.1
  obtain ⟨r2, h2, d2, i2, f2, -⟩ := am_uM_turn i1
  exact ⟨r1, r2, h1, h2, d1, i1.1, d2, i2.1, i2, (hI.2.keep hI.1.1 f1 (by decide +kernel)).keep i1.1 f2 (by decide +kernel)⟩
theorem am_pr_pass {h : am_H} (hI : am_Ip h) : ∃ r1 r2 h1 h2, am_Do false 19 124 [.ref 0] h (some (.int r1), h1) ∧ ab_hok ab_D0 h1 ∧ am_Do false 19 171 [.ref 64] h1 (some (.int r2), h2) ∧ ab_hok ab_D0 h2 ∧ am_Ip h2 := by
  obtain ⟨r1, h1, d1, i1, f1, -⟩ := am_uX_pass hI.1
  obtain ⟨r2, h2, d2, i2, f2, -⟩ := am_uM_pass i1
  exact ⟨r1, r2, h1, h2, d1, i1.1, d2, i2.1, i2, (hI.2.keep hI.1.1 f1 (by decide +kernel)).keep i1.1 f2 (by decide +kernel)⟩
theorem am_pr_year {h : am_H} {x1 : Int32} (hI : am_Ip h) : ∃ r1 r2 h1 h2, am_Do false 19 125 [.ref 0, .int x1] h (some (.int r1), h1) ∧ ab_hok ab_D0 h1 ∧ am_Do false 19 173 [.ref 64, .int x1] h1 (some (.int r2), h2) ∧ ab_hok ab_D0 h2 ∧ am_Ip h2 := by
  obtain ⟨r1, h1, d1, i1, f1, -⟩ := am_uX_year (x1 := x1) hI.1
  obtain ⟨r2, h2, d2, i2, f2, -⟩ := am_uM_year (x1 := x1) i1
  exact ⟨r1, r2, h1, h2, d1, i1.1, d2, i2.1, i2, (hI.2.keep hI.1.1 f1 (by decide +kernel)).keep i1.1 f2 (by decide +kernel)⟩
theorem am_pr_entry {h : am_H} {x1 : Int32} {x2 : Int32} {x3 : Int32} (hI : am_Ip h) : ∃ r1 r2 h1 h2, am_Do false 19 127 [.ref 0, .int x1, .int x2, .int x3] h (some (.int r1), h1) ∧ ab_hok ab_D0 h1 ∧ am_Do false 19 174 [.ref 64, .int x1, .int x2, .int x3] h1 (some (.int r2), h2) ∧ ab_hok ab_D0 h2 ∧ am_Ip h2 := by
  obtain ⟨r1, h1, d1, i1, f1, -⟩ := am_uX_entry (x1 := x1) (x2 := x2) (x3 := x3) hI.1
  obtain ⟨r2, h2, d2, i2, f2, -⟩ := am_uM_entry (x1 := x1) (x2 := x2) (x3 := x3) i1
  exact ⟨r1, r2, h1, h2, d1, i1.1, d2, i2.1, i2, (hI.2.keep hI.1.1 f1 (by decide +kernel)).keep i1.1 f2 (by decide +kernel)⟩
theorem am_pr_word {h : am_H} {x1 : Int32} (hI : am_Ip h) : ∃ r1 r2 h1 h2, am_Do false 19 129 [.ref 0, .int x1] h (some (.int r1), h1) ∧ ab_hok ab_D0 h1 ∧ am_Do false 19 176 [.ref 64, .int x1] h1 (some (.int r2), h2) ∧ ab_hok ab_D0 h2 ∧ am_Ip h2 := by
  obtain ⟨r1, h1, d1, i1, f1, -⟩ := am_uX_word (x1 := x1) hI.1
  obtain ⟨r2, h2, d2, i2, f2, -⟩ := am_uM_word (x1 := x1) i1
  exact ⟨r1, r2, h1, h2, d1, i1.1, d2, i2.1, i2, (hI.2.keep hI.1.1 f1 (by decide +kernel)).keep i1.1 f2 (by decide +kernel)⟩
theorem am_pr_like {h : am_H} {x1 : Int32} {x2 : Int32} {x3 : Int32} (hI : am_Ip h) : ∃ r1 r2 h1 h2, am_Do false 19 130 [.ref 0, .int x1, .int x2, .int x3] h (some (.int r1), h1) ∧ ab_hok ab_D0 h1 ∧ am_Do false 19 178 [.ref 64, .int x1, .int x2, .int x3] h1 (some (.int r2), h2) ∧ ab_hok ab_D0 h2 ∧ am_Ip h2 := by
  obtain ⟨r1, h1, d1, i1, f1, -⟩ := am_uX_like (x1 := x1) (x2 := x2) (x3 := x3) hI.1
  obtain ⟨r2, h2, d2, i2, f2, -⟩ := am_uM_like (x1 := x1) (x2 := x2) (x3 := x3) i1
  exact ⟨r1, r2, h1, h2, d1, i1.1, d2, i2.1, i2, (hI.2.keep hI.1.1 f1 (by decide +kernel)).keep i1.1 f2 (by decide +kernel)⟩
theorem am_pr_verse {h : am_H} {x1 : Int32} {x2 : Int32} {x3 : Int32} {x4 : Int32} (hI : am_Ip h) : ∃ r1 r2 h1 h2, am_Do false 19 131 [.ref 0, .int x1, .int x2, .int x3, .int x4] h (some (.int r1), h1) ∧ ab_hok ab_D0 h1 ∧ am_Do false 19 181 [.ref 64, .int x1, .int x2, .int x3, .int x4] h1 (some (.int r2), h2) ∧ ab_hok ab_D0 h2 ∧ am_Ip h2 := by
  obtain ⟨r1, h1, d1, i1, f1, -⟩ := am_uX_verse (x1 := x1) (x2 := x2) (x3 := x3) (x4 := x4) hI.1
  obtain ⟨r2, h2, d2, i2, f2, -⟩ := am_uM_verse (x1 := x1) (x2 := x2) (x3 := x3) (x4 := x4) i1
  exact ⟨r1, r2, h1, h2, d1, i1.1, d2, i2.1, i2, (hI.2.keep hI.1.1 f1 (by decide +kernel)).keep i1.1 f2 (by decide +kernel)⟩
theorem am_pr_breaks {h : am_H} {x1 : Int32} {x2 : Int32} {x3 : Int32} (hI : am_Ip h) : ∃ r1 r2 h1 h2, am_Do false 19 134 [.ref 0, .int x1, .int x2, .int x3] h (some (.int r1), h1) ∧ ab_hok ab_D0 h1 ∧ am_Do false 19 193 [.ref 64, .int x1, .int x2, .int x3] h1 (some (.int r2), h2) ∧ ab_hok ab_D0 h2 ∧ am_Ip h2 := by
  obtain ⟨r1, h1, d1, i1, f1, -⟩ := am_uX_breaks (x1 := x1) (x2 := x2) (x3 := x3) hI.1
  obtain ⟨r2, h2, d2, i2, f2, -⟩ := am_uM_breaks (x1 := x1) (x2 := x2) (x3 := x3) i1
  exact ⟨r1, r2, h1, h2, d1, i1.1, d2, i2.1, i2, (hI.2.keep hI.1.1 f1 (by decide +kernel)).keep i1.1 f2 (by decide +kernel)⟩
theorem am_pr_back {h : am_H} (hI : am_Ip h) : ∃ r1 r2 h1 h2, am_Do false 19 135 [.ref 0] h (some (.int r1), h1) ∧ ab_hok ab_D0 h1 ∧ am_Do false 19 194 [.ref 64] h1 (some (.int r2), h2) ∧ ab_hok ab_D0 h2 ∧ am_Ip h2 := by
  obtain ⟨r1, h1, d1, i1, f1, -⟩ := am_uX_back hI.1
  obtain ⟨r2, h2, d2, i2, f2, -⟩ := am_uM_back i1
  exact ⟨r1, r2, h1, h2, d1, i1.1, d2, i2.1, i2, (hI.2.keep hI.1.1 f1 (by decide +kernel)).keep i1.1 f2 (by decide +kernel)⟩
theorem am_pr_worn {h : am_H} {x1 : Int32} {x2 : Int32} (hI : am_Ip h) (hx2 : 0 ≤ x2.toInt ∧ x2.toInt ≤ 1) : ∃ r1 r2 h1 h2, am_Do false 19 136 [.ref 0, .int x1, .int x2] h (some (.int r1), h1) ∧ ab_hok ab_D0 h1 ∧ am_Do false 19 195 [.ref 64, .int x1, .int x2] h1 (some (.int r2), h2) ∧ ab_hok ab_D0 h2 ∧ am_Ip h2 := by
  obtain ⟨r1, h1, d1, i1, f1, -⟩ := am_uX_worn (x1 := x1) (x2 := x2) hI.1 hx2
  obtain ⟨r2, h2, d2, i2, f2, -⟩ := am_uM_worn (x1 := x1) (x2 := x2) i1 hx2
  exact ⟨r1, r2, h1, h2, d1, i1.1, d2, i2.1, i2, (hI.2.keep hI.1.1 f1 (by decide +kernel)).keep i1.1 f2 (by decide +kernel)⟩
theorem am_pr_type {h : am_H} {x1 : Int32} (hI : am_Ip h) : ∃ r1 r2 h1 h2, am_Do false 19 137 [.ref 0, .int x1] h (some (.int r1), h1) ∧ ab_hok ab_D0 h1 ∧ am_Do false 19 196 [.ref 64, .int x1] h1 (some (.int r2), h2) ∧ ab_hok ab_D0 h2 ∧ am_Ip h2 := by
  obtain ⟨r1, h1, d1, i1, f1, -⟩ := am_uX_type (x1 := x1) hI.1
  obtain ⟨r2, h2, d2, i2, f2, -⟩ := am_uM_type (x1 := x1) i1
  exact ⟨r1, r2, h1, h2, d1, i1.1, d2, i2.1, i2, (hI.2.keep hI.1.1 f1 (by decide +kernel)).keep i1.1 f2 (by decide +kernel)⟩
theorem am_pr_ends {h : am_H} (hI : am_Ip h) : ∃ r1 r2 h1 h2, am_Do false 19 138 [.ref 0] h (some (.int r1), h1) ∧ ab_hok ab_D0 h1 ∧ am_Do false 19 197 [.ref 64] h1 (some (.int r2), h2) ∧ ab_hok ab_D0 h2 ∧ am_Ip h2 := by
  obtain ⟨r1, h1, d1, i1, f1, -⟩ := am_uX_ends hI.1
  obtain ⟨r2, h2, d2, i2, f2⟩ := am_uM_ends i1
  exact ⟨r1, r2, h1, h2, d1, i1.1, d2, i2.1, i2, (hI.2.keep hI.1.1 f1 (by decide +kernel)).keep i1.1 f2 (by decide +kernel)⟩
theorem am_pr_full {h : am_H} {x1 : Int32} (hI : am_Ip h) : ∃ r1 r2 h1 h2, am_Do false 19 139 [.ref 0, .int x1] h (some (.int r1), h1) ∧ ab_hok ab_D0 h1 ∧ am_Do false 19 202 [.ref 64, .int x1] h1 (some (.int r2), h2) ∧ ab_hok ab_D0 h2 ∧ am_Ip h2 := by
  obtain ⟨r1, h1, d1, i1, f1, -⟩ := am_uX_full (x1 := x1) hI.1
  obtain ⟨r2, h2, d2, i2, f2, -⟩ := am_uM_full (x1 := x1) i1
  exact ⟨r1, r2, h1, h2, d1, i1.1, d2, i2.1, i2, (hI.2.keep hI.1.1 f1 (by decide +kernel)).keep i1.1 f2 (by decide +kernel)⟩
theorem am_pr_can {h : am_H} {x1 : Int32} (hI : am_Ip h) : ∃ r1 r2 h1 h2, am_Do false 19 140 [.ref 0, .int x1] h (some (.int r1), h1) ∧ ab_hok ab_D0 h1 ∧ am_Do false 19 204 [.ref 64, .int x1] h1 (some (.int r2), h2) ∧ ab_hok ab_D0 h2 ∧ am_Ip h2 := by
  obtain ⟨r1, h1, d1, i1, f1, -⟩ := am_uX_can (x1 := x1) hI.1
  obtain ⟨r2, h2, d2, i2, f2, -⟩ := am_uM_can (x1 := x1) i1
  exact ⟨r1, r2, h1, h2, d1, i1.1, d2, i2.1, i2, (hI.2.keep hI.1.1 f1 (by decide +kernel)).keep i1.1 f2 (by decide +kernel)⟩
theorem am_pr_store {h : am_H} {x1 : Int32} {x2 : Int32} {x3 : Int32} (hI : am_Ip h) : ∃ r1 r2 h1 h2, am_Do false 19 141 [.ref 0, .int x1, .int x2, .int x3] h (some (.int r1), h1) ∧ ab_hok ab_D0 h1 ∧ am_Do false 19 205 [.ref 64, .int x1, .int x2, .int x3] h1 (some (.int r2), h2) ∧ ab_hok ab_D0 h2 ∧ am_Ip h2 := by
  obtain ⟨r1, h1, d1, i1, f1, -⟩ := am_uX_store (x1 := x1) (x2 := x2) (x3 := x3) hI.1
  obtain ⟨r2, h2, d2, i2, f2, -⟩ := am_uM_store (x1 := x1) (x2 := x2) (x3 := x3) i1
  exact ⟨r1, r2, h1, h2, d1, i1.1, d2, i2.1, i2, (hI.2.keep hI.1.1 f1 (by decide +kernel)).keep i1.1 f2 (by decide +kernel)⟩
theorem am_pr_best {h : am_H} {x1 : Int32} (hI : am_Ip h) : ∃ r1 r2 h1 h2, am_Do false 19 142 [.ref 0, .int x1] h (some (.int r1), h1) ∧ ab_hok ab_D0 h1 ∧ am_Do false 19 206 [.ref 64, .int x1] h1 (some (.int r2), h2) ∧ ab_hok ab_D0 h2 ∧ am_Ip h2 := by
  obtain ⟨r1, h1, d1, i1, f1, -⟩ := am_uX_best (x1 := x1) hI.1
  obtain ⟨r2, h2, d2, i2, f2, -⟩ := am_uM_best (x1 := x1) i1
  exact ⟨r1, r2, h1, h2, d1, i1.1, d2, i2.1, i2, (hI.2.keep hI.1.1 f1 (by decide +kernel)).keep i1.1 f2 (by decide +kernel)⟩
theorem am_pr_bestOf {h : am_H} {x1 : Int32} (hI : am_Ip h) : ∃ r1 r2 h1 h2, am_Do false 19 143 [.ref 0, .int x1] h (some (.int r1), h1) ∧ ab_hok ab_D0 h1 ∧ am_Do false 19 208 [.ref 64, .int x1] h1 (some (.int r2), h2) ∧ ab_hok ab_D0 h2 ∧ am_Ip h2 := by
  obtain ⟨r1, h1, d1, i1, f1, -⟩ := am_uX_bestOf (x1 := x1) hI.1
  obtain ⟨r2, h2, d2, i2, f2, -⟩ := am_uM_bestOf (x1 := x1) i1
  exact ⟨r1, r2, h1, h2, d1, i1.1, d2, i2.1, i2, (hI.2.keep hI.1.1 f1 (by decide +kernel)).keep i1.1 f2 (by decide +kernel)⟩
theorem am_pr_verseOf {h : am_H} {x1 : Int32} {x2 : Int32} (hI : am_Ip h) : ∃ r1 r2 h1 h2, am_Do false 19 144 [.ref 0, .int x1, .int x2] h (some (.int r1), h1) ∧ ab_hok ab_D0 h1 ∧ am_Do false 19 209 [.ref 64, .int x1, .int x2] h1 (some (.int r2), h2) ∧ ab_hok ab_D0 h2 ∧ am_Ip h2 := by
  obtain ⟨r1, h1, d1, i1, f1, -⟩ := am_uX_verseOf (x1 := x1) (x2 := x2) hI.1
  obtain ⟨r2, h2, d2, i2, f2, -⟩ := am_uM_verseOf (x1 := x1) (x2 := x2) i1
  exact ⟨r1, r2, h1, h2, d1, i1.1, d2, i2.1, i2, (hI.2.keep hI.1.1 f1 (by decide +kernel)).keep i1.1 f2 (by decide +kernel)⟩
theorem am_pr_poetOf {h : am_H} {x1 : Int32} {x2 : Int32} (hI : am_Ip h) : ∃ r1 r2 h1 h2, am_Do false 19 145 [.ref 0, .int x1, .int x2] h (some (.int r1), h1) ∧ ab_hok ab_D0 h1 ∧ am_Do false 19 210 [.ref 64, .int x1, .int x2] h1 (some (.int r2), h2) ∧ ab_hok ab_D0 h2 ∧ am_Ip h2 := by
  obtain ⟨r1, h1, d1, i1, f1, -⟩ := am_uX_poetOf (x1 := x1) (x2 := x2) hI.1
  obtain ⟨r2, h2, d2, i2, f2, -⟩ := am_uM_poetOf (x1 := x1) (x2 := x2) i1
  exact ⟨r1, r2, h1, h2, d1, i1.1, d2, i2.1, i2, (hI.2.keep hI.1.1 f1 (by decide +kernel)).keep i1.1 f2 (by decide +kernel)⟩
theorem am_pr_ruleOf {h : am_H} {x1 : Int32} {x2 : Int32} (hI : am_Ip h) : ∃ r1 r2 h1 h2, am_Do false 19 146 [.ref 0, .int x1, .int x2] h (some (.int r1), h1) ∧ ab_hok ab_D0 h1 ∧ am_Do false 19 211 [.ref 64, .int x1, .int x2] h1 (some (.int r2), h2) ∧ ab_hok ab_D0 h2 ∧ am_Ip h2 := by
  obtain ⟨r1, h1, d1, i1, f1, -⟩ := am_uX_ruleOf (x1 := x1) (x2 := x2) hI.1
  obtain ⟨r2, h2, d2, i2, f2, -⟩ := am_uM_ruleOf (x1 := x1) (x2 := x2) i1
  exact ⟨r1, r2, h1, h2, d1, i1.1, d2, i2.1, i2, (hI.2.keep hI.1.1 f1 (by decide +kernel)).keep i1.1 f2 (by decide +kernel)⟩
theorem am_pr_count {h : am_H} {x1 : Int32} (hI : am_Ip h) : ∃ r1 r2 h1 h2, am_Do false 19 147 [.ref 0, .int x1] h (some (.int r1), h1) ∧ ab_hok ab_D0 h1 ∧ am_Do false 19 212 [.ref 64, .int x1] h1 (some (.int r2), h2) ∧ ab_hok ab_D0 h2 ∧ am_Ip h2 := by
  obtain ⟨r1, h1, d1, i1, f1, -⟩ := am_uX_count (x1 := x1) hI.1
  obtain ⟨r2, h2, d2, i2, f2, -⟩ := am_uM_count (x1 := x1) i1
  exact ⟨r1, r2, h1, h2, d1, i1.1, d2, i2.1, i2, (hI.2.keep hI.1.1 f1 (by decide +kernel)).keep i1.1 f2 (by decide +kernel)⟩
def am_Wc (L : Nat) (xs : Nat → Int32) (Inv : am_H → Prop) (k : Nat) : Prop := ∀ (Φ : am_C → Prop) (h : am_H) (nc ns : Nat) (i : Int) (o5 o6 : Option Value), 0 ≤ i ∧ i + 7 ≤ (L : Int) → L ≤ 3584 → Inv h → nc ≤ (am_k am_rL).1 → ns ≤ (am_k am_rL).2 → (∀ h2, Inv h2 → am_Wp false 19 (L, xs) am_rL Φ (23, am_lvL (i + 7) o5 o6, [], h2, nc, ns)) → am_Wp false 19 (L, xs) am_rL Φ (40, am_lvL i o5 o6, [.int (Int32.ofNat k)], h, nc, ns)
theorem am_w13 {L : Nat} {xs : Nat → Int32} : am_Wc L xs am_Ip 13 := by
  intro Φ h nc ns i o5 o6 hi hL hI hnc hns K
  cases hw : am_cmp .eq (xs ((i) + (2)).toNat) 0 with
  | true => exact am_t13a hi hL hI.1.1 hnc hns hw (am_pr_worn hI ⟨by decide, by decide⟩) K
  | false => exact am_t13b hi hL hI.1.1 hnc hns hw (am_pr_worn hI ⟨by decide, by decide⟩) K
theorem am_cases {L : Nat} {xs : Nat → Int32} (k : Nat) (hk : k < 32) (h9 : k ≠ 9) : am_Wc L xs am_Ip k := match k, hk, h9 with
  | 0, _, _ => fun _ _ _ _ _ _ _ hi hL hI hnc hns K => am_t0 hi hL hI.1.1 hnc hns (am_pr_feed hI) K
  | 1, _, _ => fun _ _ _ _ _ _ _ hi hL hI hnc hns K => am_t1 hi hL hI.1.1 hnc hns (am_pr_read hI) K
  | 2, _, _ => fun _ _ _ _ _ _ _ hi hL hI hnc hns K => am_t2 hi hL hI.1.1 hnc hns (am_pr_poet hI) K
  | 3, _, _ => fun _ _ _ _ _ _ _ hi hL hI hnc hns K => am_t3 hi hL hI.1.1 hnc hns (am_pr_turn hI) K
  | 4, _, _ => fun _ _ _ _ _ _ _ hi hL hI hnc hns K => am_t4 hi hL hI.1.1 hnc hns (am_pr_pass hI) K
  | 5, _, _ => fun _ _ _ _ _ _ _ hi hL hI hnc hns K => am_t5 hi hL hI.1.1 hnc hns (am_pr_year hI) K
  | 6, _, _ => fun _ _ _ _ _ _ _ hi hL hI hnc hns K => am_t6 hi hL hI.1.1 hnc hns (am_pr_entry hI) K
  | 7, _, _ => fun _ _ _ _ _ _ _ hi hL hI hnc hns K => am_t7 hi hL hI.1.1 hnc hns (am_pr_word hI) K
  | 8, _, _ => fun _ _ _ _ _ _ _ hi hL hI hnc hns K => am_t8 hi hL hI.1.1 hnc hns (am_pr_like hI) K
  | 9, _, h => absurd rfl h
  | 10, _, _ => fun _ _ _ _ _ _ _ hi hL hI hnc hns K => am_t10 hi hL hI.1.1 hnc hns (am_pr_verse hI) K
  | 11, _, _ => fun _ _ _ _ _ _ _ hi hL hI hnc hns K => am_t11 hi hL hI.1.1 hnc hns (am_pr_breaks hI) K
  | 12, _, _ => fun _ _ _ _ _ _ _ hi hL hI hnc hns K => am_t12 hi hL hI.1.1 hnc hns (am_pr_back hI) K
  | 13, _, _ => am_w13
  | 14, _, _ => fun _ _ _ _ _ _ _ hi hL hI hnc hns K => am_t14 hi hL hI.1.1 hnc hns (am_pr_type hI) K
  | 15, _, _ => fun _ _ _ _ _ _ _ hi hL hI hnc hns K => am_t15 hi hL hI.1.1 hnc hns (am_pr_ends hI) K
  | 16, _, _ => fun _ _ _ _ _ _ _ hi hL hI hnc hns K => am_t16 hi hL hI.1.1 hnc hns (am_pr_full hI) K
  | 17, _, _ => fun _ _ _ _ _ _ _ hi hL hI hnc hns K => am_t17 hi hL hI.1.1 hnc hns (am_pr_can hI) K
  | 18, _, _ => fun _ _ _ _ _ _ _ hi hL hI hnc hns K => am_t18 hi hL hI.1.1 hnc hns (am_pr_store hI) K
  | 19, _, _ => fun _ _ _ _ _ _ _ hi hL hI hnc hns K => am_t19 hi hL hI.1.1 hnc hns (am_pr_best hI) K
  | 20, _, _ => fun _ _ _ _ _ _ _ hi hL hI hnc hns K => am_t20 hi hL hI.1.1 hnc hns (am_pr_bestOf hI) K
  | 21, _, _ => fun _ _ _ _ _ _ _ hi hL hI hnc hns K => am_t21 hi hL hI.1.1 hnc hns (am_pr_verseOf hI) K
  | 22, _, _ => fun _ _ _ _ _ _ _ hi hL hI hnc hns K => am_t22 hi hL hI.1.1 hnc hns (am_pr_poetOf hI) K
  | 23, _, _ => fun _ _ _ _ _ _ _ hi hL hI hnc hns K => am_t23 hi hL hI.1.1 hnc hns (am_pr_ruleOf hI) K
  | 24, _, _ => fun _ _ _ _ _ _ _ hi hL hI hnc hns K => am_t24 hi hL hI.1.1 hnc hns (am_pr_count hI) K
  | 25, _, _ => fun _ _ _ _ _ _ _ hi hL hI hnc hns K => am_t25 hi hL hI.1.1 hnc hns hI K
  | 26, _, _ => fun _ _ _ _ _ _ _ hi hL hI hnc hns K => am_t26 hi hL hI.1.1 hnc hns hI K
  | 27, _, _ => fun _ _ _ _ _ _ _ hi hL hI hnc hns K => am_t27 hi hL hI.1.1 hnc hns hI K
  | 28, _, _ => fun _ _ _ _ _ _ _ hi hL hI hnc hns K => am_t28 hi hL hI.1.1 hnc hns hI K
  | 29, _, _ => fun _ _ _ _ _ _ _ hi hL hI hnc hns K => am_t29 hi hL hI.1.1 hnc hns hI K
  | 30, _, _ => fun _ _ _ _ _ _ _ hi hL hI hnc hns K => am_t30 hi hL hI.1.1 hnc hns hI K
  | 31, _, _ => fun _ _ _ _ _ _ _ hi hL hI hnc hns K => am_t31 hi hL hI.1.1 hnc hns hI K
  | n + 32, h, _ => absurd h (by omega)
theorem am_lk7 : ∀ h h' (x1 x2 : Int32), am_Ip h → ab_hok ab_D0 h' → ab_fr [(100, 0)] h h' → ∃ (r : Int32) (h2 : am_H), am_Do false 19 179 [.ref 64, .int x1, .int x2] h' (some (.int r), h2) ∧ am_Ip h2 := fun h h' x1 x2 hI ok' f' => by
  obtain ⟨r, h2, d2, i2, f2, -⟩ := am_uM_liking (x1 := x1) (x2 := x2) (⟨ok', hI.1.2.frX f' rfl⟩ : am_Iv h')
  exact ⟨r, h2, d2, i2, (hI.2.keep hI.1.1 f' (by decide +kernel)).keep ok' f2 (by decide +kernel)⟩
theorem am_VL0f (h : am_H) : am_VL (am_h0f h) := ⟨36, 0, rfl, rfl, by decide⟩
theorem am_I0 : am_Ip am_h0 := ⟨⟨am_hok0, am_VL0f am_hM⟩, am_R00⟩
