/-! ===== ends: what both sides keep alike of an end ===== -/
/-- what M would tell of a place -/
def fM_ (s : sg_S) (a P : Nat) : Int := if ¬ (s.1 64 55).toInt = 0 ∧ (P : Int) ≤ (s.1 64 57).toInt ∧ (s.2.2.1 93 (P - 1)).toInt = 0 then (s.2.2.1 a (P - 1)).toInt else -1
def ct_ (s : sg_S) : Prop := ∀ i : Nat, (i : Int) < (s.1 35 3).toInt → 0 ≤ (s.2.2.1 36 i).toInt ∧ (s.2.2.1 36 i).toInt < (rp_kset (s.1 1 0).toInt.toNat).toInt
def ce_ (s : sg_S) : Prop := (s.1 35 4).toInt = (s.1 64 56).toInt ∧ (∀ P, 1 ≤ P → P ≤ 48 → (s.2.2.1 37 P).toInt = fM_ s 94 P ∧ (s.2.2.1 38 P).toInt = fM_ s 95 P) ∧ ct_ s
def ce_F : List (Nat × Nat) := [(35, 4), (64, 55), (64, 56), (64, 57), (39, 4), (43, 4)]
def ce_A : List Nat := [37, 38, 93, 94, 95, 42, 46]
def ct_F : List (Nat × Nat) := [(35, 3), (1, 0)]
def ct_A : List Nat := [36]
section CE
variable {s s2 : sg_S}
theorem ct_.ag (h : ct_ s) (g : sg_ag ct_F ct_A [] s s2) : ct_ s2 := by
  unfold ct_
  rw [g.i (a := 35) (k := 3) rfl, g.i (a := 1) (k := 0) rfl, g.a (a := 36) rfl]
  exact h
theorem ce_.ag (h : ce_ s) (g : sg_ag (ce_F ++ ct_F) (ce_A ++ ct_A) [] s s2) : ce_ s2 := by
  refine ⟨?_, ?_, h.2.2.ag (g.le (by decide) (by decide) (by decide))⟩
  · rw [g.i (a := 35) (k := 4) rfl, g.i (a := 64) (k := 56) rfl]
    exact h.1
  · unfold fM_
    rw [g.i (a := 64) (k := 55) rfl, g.i (a := 64) (k := 57) rfl, g.a (a := 37) rfl, g.a (a := 38) rfl, g.a (a := 93) rfl, g.a (a := 94) rfl, g.a (a := 95) rfl]
    exact h.2.1
theorem xst_.ag {β : Int} (h : xst_ β s) (g : sg_ag [(39, 4), (43, 4)] [42, 46] [] s s2) (h10 : s2.2.2.2.2 35 10 = s.2.2.2.2 35 10) (h11 : s2.2.2.2.2 35 11 = s.2.2.2.2 35 11) : xst_ β s2 := by
  obtain ⟨h2, a, b, h39, h43, ba, bb⟩ := h
  refine ⟨by rw [h10, h11]; exact h2, a, b, ?_, ?_, ba, bb⟩
  · unfold hs_
    rw [g.i (a := 39) (k := 4) rfl, g.a (a := 42) rfl]
    exact h39
  · unfold hs_
    rw [g.i (a := 43) (k := 4) rfl, g.a (a := 46) rfl]
    exact h43
theorem xst_.le {β γ : Int} (h : xst_ β s) (hb : β ≤ γ) : xst_ γ s := by
  obtain ⟨h2, a, b, h39, h43, ba, bb⟩ := h
  exact ⟨h2, a, b, h39, h43, by omega, by omega⟩
theorem sg_cR2 {a c k b1 b2 : Nat} {l : List Nat} {ws : List ab_W} (hd : ab_D0[a]? = some (.inr (c, ws))) (hw : ws[k]? = some (.inr (.inr (b1 :: b2 :: l)))) : ab_cell (sg_h s) a (k : Int) = some (.ref (s.2.2.2.2 a k)) := by
  have h1 : (sg_h s)[a]? = some (.inr (c, sg_ws s a 0 ws)) := by rw [sg_get, hd]; rfl
  rw [ab_cell_obj h1, sg_ws_get, hw, Nat.zero_add]
  rfl
theorem re_cell {mo : ab_Mo} {h h2 : am_H} {a k c : Nat} {ws : List ab_W} (hok : ab_hok ab_D0 h) (hf : ab_fr mo h h2) (hd : ab_D0[a]? = some (.inr (c, ws))) (hm : ab_md mo a (k + 1) = false) (ha : Nat.blt a 1000000 = true) : ab_cell h2 a (k : Int) = ab_cell h a (k : Int) := by
  obtain ⟨fs, f1, -, -, -⟩ := ab_hok_obj hok hd ha
  obtain ⟨fs2, e1, e2⟩ := hf.2 a k c fs (ab_md_not hm) f1
  rw [ab_cell_obj f1, ab_cell_obj e1, e2]
theorem re_ref {mo : ab_Mo} {k b1 b2 : Nat} {l : List Nat} (hok : ab_hok ab_D0 (sg_h s)) (hf : ab_fr mo (sg_h s) (sg_h s2)) (hw : ([.inr (.inr [1]), .inr (.inr [28]), .inr (.inr [36]), .inl (Int.ofNat 0, Int.ofNat 16), .inl (Int.negSucc 2147483647, Int.ofNat 2147483647), .inr (.inr [37]), .inr (.inr [38]), .inr (.inr [50]), .inl (Int.ofNat 0, Int.ofNat 1), .inr (.inr [54]), .inr (.inr [39, 43]), .inr (.inr [39, 43]), .inr (.inr [47]), .inr (.inr [48]), .inr (.inr [49])] : List ab_W)[k]? = some (.inr (.inr (b1 :: b2 :: l)))) (hm : ab_md mo 35 (k + 1) = false) : s2.2.2.2.2 35 k = s.2.2.2.2 35 k := by
  have e := re_cell (k := k) hok hf am_o35 hm rfl
  rw [sg_cR2 am_o35 hw, sg_cR2 am_o35 hw] at e
  exact (Value.ref.injEq _ _).mp (Option.some.inj e)
end CE
/-- what stands besides: the ends alike, and the stamps behind i ints of the script -/
def am_Re (i : Int) (h : am_H) : Prop := ∃ s, h = sg_h s ∧ ce_ s ∧ xst_ (7 * i) s
def am_Ie (i : Int) (h : am_H) : Prop := am_Iw h ∧ am_Re i h
def re_ck (mo : ab_Mo) : Bool := sg_agc mo (ce_F ++ ct_F) (ce_A ++ ct_A) [] && !ab_md mo 35 11 && !ab_md mo 35 12
theorem am_Re.keep {i : Int} {mo : ab_Mo} {h h2 : am_H} (hr : am_Re i h) (hok : ab_hok ab_D0 h) (hok2 : ab_hok ab_D0 h2) (hf : ab_fr mo h h2) (hm : re_ck mo = true) : am_Re i h2 := by
  unfold re_ck at hm
  rw [Bool.and_eq_true, Bool.and_eq_true, Bool.not_eq_true', Bool.not_eq_true'] at hm
  obtain ⟨⟨m1, m2⟩, m3⟩ := hm
  obtain ⟨s, rfl, hc, hx⟩ := hr
  have e := sg_of_ok hok2
  rw [e] at hf
  have g := sg_agc_ok m1 hf
  exact ⟨sg_of h2, e, hc.ag g, hx.ag (g.le (by decide) (by decide) (by decide)) (re_ref (k := 10) hok hf rfl m2) (re_ref (k := 11) hok hf rfl m3)⟩
theorem am_Re.next {i : Int} {h : am_H} (hr : am_Re i h) : am_Re (i + 7) h := by
  obtain ⟨s, e, hc, hx⟩ := hr
  exact ⟨s, e, hc, hx.le (by omega)⟩
/-- the parameters of an end, on both sides -/
theorem ce_par {s : sg_S} (hok : ab_hok ab_D0 (sg_h s)) (hc : cm_ s) (hv : cv_ s) (ht : ct_ s) : ∃ (ϖ : ep_) (len : Nat), eP_ ϖ ∧ tsy_ ϖ.2.1 ∧ ϖ.1.2.2.2.1 = (len : Int) ∧ xe_ ϖ s ∧ mC_ ϖ s := by
  obtain ⟨T, np, m, hT, hU, hV, hP, hS, hE, hD⟩ := hv
  obtain ⟨hA, hB, hC, hDD, hEE, ⟨nt, n16, n1, n2, nn⟩, hG⟩ := hc
  obtain ⟨s1, s2, s3, s4, s5, s6, s7, s8, s9⟩ := hS
  have l13 := sg_rgI (a := 1) (k := 3) (lo := 1) (hi := 48) hok am_d1 rfl rfl
  rw [hU.2.2.2.1] at l13
  have t81 := sg_rng (a := 81) (t := 1) (n := 64) (lo := -9) (hi := 9) (m := 511) hok rfl rfl
  have eT : (s.1 1 0).toInt.toNat = T.1 := by rw [hU.1, Int.toNat_natCast]
  refine ⟨(T, s.2.2.1 81, m, s.2.2.1 86, s.2.2.1 84, s.2.2.1 88, nt), T.2.2.2.1.toNat, ⟨hT, rk_of hok hT hV, l13, t81, s3, s9, fun i hi => ?_, n16⟩, fun i j hi hj => ?_, ?_, ⟨hU, fun i hi => hDD i hi, s1, fun i hi => ⟨(s4 i hi).2.2.2, (s4 i hi).2.1⟩, n1, nn⟩, ⟨hV, rfl, s2, rfl, rfl, rfl, n2⟩⟩
  · have h := ht i (by have hi : i < nt := hi; omega)
    rw [eT, nn i hi] at h
    exact h
  · show s.2.2.1 81 (8 * i + j) = s.2.2.1 81 (8 * j + i)
    rw [← hDD _ (by omega), ← hDD _ (by omega)]
    exact hD i j hi hj
  · show T.2.2.2.1 = ((T.2.2.2.1.toNat : Nat) : Int)
    omega
def mC_F : List (Nat × Nat) := [(64, 21), (64, 22), (64, 23), (64, 24), (64, 25), (64, 40), (64, 46)]
def mC_A : List Nat := [72, 73, 74, 75, 81, 84, 86, 88]
theorem mC_.ag {ϖ : ep_} {s s2 : sg_S} (h : mC_ ϖ s) (g : sg_ag mC_F mC_A [] s s2) : mC_ ϖ s2 := by
  unfold mC_ rm_RU
  rw [g.i (a := 64) (k := 21) rfl, g.i (a := 64) (k := 22) rfl, g.i (a := 64) (k := 23) rfl, g.i (a := 64) (k := 24) rfl, g.i (a := 64) (k := 25) rfl, g.i (a := 64) (k := 40) rfl, g.i (a := 64) (k := 46) rfl, g.a (a := 72) rfl, g.a (a := 73) rfl, g.a (a := 74) rfl, g.a (a := 75) rfl, g.a (a := 81) rfl, g.a (a := 84) rfl, g.a (a := 86) rfl, g.a (a := 88) rfl]
  exact h
/-- both ends have found the same -/
theorem ce_ends {ϖ : ep_} {len : Nat} {β : Int} {r1 r2 : Int32} {s1 s2 : sg_S} (hl : len ≤ 48) (hX : xO_ ϖ len β r1 s1) (f : sg_fr moE_ aoE_ s1 s2) (hM : eo_ (fun q => (eLp ϖ q).1) (eSp ϖ) len r2.toInt (s2.1 64 56).toInt ∧ (¬ r2.toInt = 1 → (s2.1 64 55).toInt = 0) ∧ (r2.toInt = 1 → (s2.1 64 55).toInt = 1 ∧ mR_ ϖ len s2)) (ht : ct_ s2) : ce_ s2 ∧ xst_ (β + 49) s2 ∧ r1 = r2 := by
  obtain ⟨x1, x2, x3, x4⟩ := hX
  obtain ⟨m1, m2, m3⟩ := hM
  obtain ⟨er, el⟩ := eo_det x1 m1
  have m1' : (Int32.ofInt (-1)).toInt = -1 := rfl
  refine ⟨⟨?_, fun P h1 h48 => ?_, ht⟩, x2.ag (f.ag (by decide) (by decide) (by decide)) (by rw [f.2.2]) (by rw [f.2.2]), Int32.toInt_inj.mp er⟩
  · rw [f.i (by decide)]
    exact el
  · rw [f.a (b := 37) (by decide), f.a (b := 38) (by decide)]
    by_cases c : r2.toInt = 1
    · obtain ⟨o1, l57, o93, oC, kk2, tt2, w2, h94⟩ := m3 c
      obtain ⟨⟨kk, tt, a0, w1, z0, hw, hwo⟩, b0, y0, hc, hco⟩ := x4 (by omega)
      have dt := ew_det (cn := ecn_ ϖ) (ld := edp ϖ) (len := len) w1 w2
      unfold fM_
      by_cases hP : P ≤ len
      · have e93 := o93 (P - 1) (by omega)
        by_cases cf : fd_ ϖ (P - 1)
        · rw [(hw P h1 hP).1 cf, (hc P (by omega) hP).1 cf, if_neg (fun z => e93.mp z.2.2 cf), if_neg (fun z => e93.mp z.2.2 cf)]
          exact ⟨rfl, rfl⟩
        · have cond : ¬ (s2.1 64 55).toInt = 0 ∧ (P : Int) ≤ (s2.1 64 57).toInt ∧ (s2.2.2.1 93 (P - 1)).toInt = 0 := ⟨by omega, by omega, e93.mpr cf⟩
          rw [if_pos cond, if_pos cond]
          refine ⟨?_, ?_⟩
          · rw [(hw P h1 hP).2 cf, h94 (P - 1) (by omega), (dt (P - 1) (by omega)).2 (by omega)]
          · have e : s1.2.2.1 38 P = s2.2.2.1 95 (P - 1) := bt_ext (fun t ht => by
              have a := (hc P (by omega) hP).2 cf t ht
              have b := oC (P - 1) (Nat.zero_le _) (by omega) t ht
              rw [show P - 1 + 1 = P by omega] at b
              rw [Bool.eq_iff_iff]
              exact a.trans b.symm)
            rw [e]
      · rw [hwo P (fun z => hP z.2), hco P (fun z => hP z.2), z0 P (by omega), y0 P (by omega), if_neg (fun z => by have := z.2.1; omega), if_neg (fun z => by have := z.2.1; omega)]
        exact ⟨rfl, rfl⟩
    · have o := m2 c
      have y := x3 (by omega)
      unfold fM_
      rw [(y P (by omega)).1, (y P (by omega)).2, if_neg (fun z => z.1 o), if_neg (fun z => z.1 o)]
      exact ⟨rfl, rfl⟩
section PE
variable {h : am_H} {x1 : Int32} {i : Int}
theorem sx_Ends {ϖ : ep_} {s : sg_S} {len : Nat} {β : Int} (hϖ : eP_ ϖ) (hsy : tsy_ ϖ.2.1) (he : xe_ ϖ s) (hlen : ϖ.1.2.2.2.1 = (len : Int)) (hst : xst_ β s) (hβ : β + 49 ≤ 30000) : am_SpI 138 [.ref 0] s (fun r s2 => xO_ ϖ len β r s2) := by
  refine wp_X_ends_ok ?_
  unfold wp_X_ends
  exact xe_solve hϖ hsy he hlen hst hβ
theorem am_pe_ends (hI : am_Ie i h) (hi : 0 ≤ i ∧ i + 7 ≤ 3584) : ∃ r1 r2 h1 h2, am_Do false 19 138 [.ref 0] h (some (.int r1), h1) ∧ ab_hok ab_D0 h1 ∧ am_Do false 19 197 [.ref 64] h1 (some (.int r2), h2) ∧ ab_hok ab_D0 h2 ∧ am_Ie (i + 7) h2 ∧ r1 = r2 := by
  obtain ⟨hIw, hRe⟩ := hI
  obtain ⟨r1, h1, d1, i1, f1, -⟩ := am_uX_ends hIw.1
  obtain ⟨r2, h2, d2, i2, f2⟩ := am_uM_ends i1
  have hIw2 : am_Iw h2 := ⟨i2, (hIw.2.keep i1.1 f1 (by decide +kernel)).keep i2.1 f2 (by decide +kernel)⟩
  obtain ⟨⟨hok, -⟩, s, rfl, hc, hv⟩ := hIw
  obtain ⟨s', e', hce, hxst⟩ := hRe
  -- the same cells, said of one state
  have eS : ce_ s ∧ xst_ (7 * i) s := by
    have fr0 : ab_fr [] (sg_h s') (sg_h s) := by rw [e']; exact ab_fr.rf
    have g := sg_agc_ok (LF := ce_F ++ ct_F) (LA := ce_A ++ ct_A) (LL := []) (mo := []) (by decide +kernel) fr0
    have hok' : ab_hok ab_D0 (sg_h s') := by rw [← e']; exact hok
    exact ⟨hce.ag g, hxst.ag (g.le (by decide) (by decide) (by decide)) (re_ref (k := 10) hok' fr0 rfl (by decide)) (re_ref (k := 11) hok' fr0 rfl (by decide))⟩
  obtain ⟨hce, hxst⟩ := eS
  obtain ⟨ϖ, len, hϖ, hsy, hlen, he, hC⟩ := ce_par hok hc hv hce.2.2
  have hl := hϖ.2.2.1
  obtain ⟨s1, rfl, hX⟩ := d1.sI (sx_Ends hϖ hsy he hlen hxst (by omega))
  have g1 : sg_ag (mC_F ++ ct_F) (mC_A ++ ct_A) [] s s1 := sg_agc_ok (by decide +kernel) f1
  obtain ⟨s2, rfl, fM, hM⟩ := d2.sI (em_ends hϖ (hC.ag (g1.le (by decide) (by decide) (by decide))) hlen)
  have ht2 : ct_ s2 := (hce.2.2.ag (g1.le (by decide) (by decide) (by decide))).ag (fM.ag (by decide) (by decide) (by decide))
  obtain ⟨k1, k2, k3⟩ := ce_ends (by omega) hX fM hM ht2
  exact ⟨r1, r2, sg_h s1, sg_h s2, d1, i1.1, d2, i2.1, ⟨hIw2, s2, rfl, k1, k2.le (by omega)⟩, k3⟩
end PE
