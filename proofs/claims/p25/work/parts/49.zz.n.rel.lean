/-! ===== what both sides keep alike of poets and sheet ===== -/
def cv_P (np m : Nat) (s : sg_S) : Prop := np ≤ 12 ∧ (s.1 24 0).toInt = (np : Int) ∧ (s.1 64 30).toInt = (np : Int) ∧ (∀ i, i < np → s.2.2.1 25 i = s.2.2.1 76 i) ∧ (∀ i, i < 12 → s.2.2.1 27 i = s.2.2.1 77 i) ∧ (∀ i, np ≤ i → i < 12 → s.2.2.1 27 i = Int32.ofInt 0) ∧ (∀ i : Nat, i < 12 → (s.2.2.1 26 i).toInt = tc_ (s.2.2.1 83) m (i : Int)) ∧ ∀ v, v < m → 0 ≤ (s.2.2.1 83 v).toInt ∧ (s.2.2.1 83 v).toInt < (np : Int)
def cv_S (T : rp_T) (m : Nat) (s : sg_S) : Prop := (s.1 28 2).toInt = (m : Int) ∧ (s.1 64 40).toInt = (m : Int) ∧ (m : Int) ≤ T.2.2.2.1 ∧ (∀ v, v < m → s.2.2.1 29 (v + 1) = s.2.2.1 83 v ∧ s.2.2.1 30 (v + 1) = s.2.2.1 84 v ∧ s.2.2.1 31 (v + 1) = s.2.2.1 87 v ∧ s.2.2.1 33 (v + 1) = s.2.2.1 86 v) ∧ (∀ k, k < 3 * m → s.2.2.1 32 (k + 3) = s.2.2.1 85 k) ∧ (∀ i, m < i → i ≤ 48 → s.2.2.1 33 i = Int32.ofInt 0) ∧ (s.1 28 3).toInt = wc_ (s.2.2.1 86) m ∧ (∀ p k, p ≤ m → k < T.2.2.1 → (s.2.2.1 34 (12 * p + k)).toInt = nb_ (rp_rl T k) (fun v => s.2.2.1 30 (v + 1)) p) ∧ ∀ v, v < m → 0 ≤ (s.2.2.1 84 v).toInt ∧ (s.2.2.1 84 v).toInt < (rp_kset T.1).toInt
def cv_E (T : rp_T) (s : sg_S) : Prop := ∀ i : Nat, (i : Int) < (s.1 18 1).toInt → 0 ≤ (s.2.2.1 21 i).toInt ∧ (s.2.2.1 21 i).toInt < (rp_kset T.1).toInt
def cv_D (s : sg_S) : Prop := ∀ i j, i < 8 → j < 8 → s.2.2.1 23 (8 * i + j) = s.2.2.1 23 (8 * j + i)
def cv_ (s : sg_S) : Prop := ∃ (T : rp_T) (np m : Nat), rp_ok T ∧ rx_RU T s ∧ rm_RU T s ∧ cv_P np m s ∧ cv_S T m s ∧ cv_E T s ∧ cv_D s
def cf_P : List (Nat × Nat) := [(24, 0), (64, 30)]
def ca_P : List Nat := [25, 26, 27, 76, 77, 83]
def cf_S : List (Nat × Nat) := [(28, 2), (28, 3), (64, 40)]
def ca_S : List Nat := [29, 30, 31, 32, 33, 34, 83, 84, 85, 86, 87]
def cf_V : List (Nat × Nat) := cf_B ++ cf_P ++ cf_S ++ [(18, 1)]
def ca_V : List Nat := ca_B ++ ca_P ++ ca_S ++ [21, 23]
section CV
variable {s s2 : sg_S} {T : rp_T} {np m : Nat}
theorem cv_P.ag (h : cv_P np m s) (g : sg_ag cf_P ca_P [] s s2) : cv_P np m s2 := by
  unfold cv_P
  rw [g.i (a := 24) (k := 0) rfl, g.i (a := 64) (k := 30) rfl, g.a (a := 25) rfl, g.a (a := 26) rfl, g.a (a := 27) rfl, g.a (a := 76) rfl, g.a (a := 77) rfl, g.a (a := 83) rfl]
  exact h
theorem cv_S.ag (h : cv_S T m s) (g : sg_ag cf_S ca_S [] s s2) : cv_S T m s2 := by
  unfold cv_S
  rw [g.i (a := 28) (k := 2) rfl, g.i (a := 28) (k := 3) rfl, g.i (a := 64) (k := 40) rfl, g.a (a := 29) rfl, g.a (a := 30) rfl, g.a (a := 31) rfl, g.a (a := 32) rfl, g.a (a := 33) rfl, g.a (a := 34) rfl, g.a (a := 83) rfl, g.a (a := 84) rfl, g.a (a := 85) rfl, g.a (a := 86) rfl, g.a (a := 87) rfl]
  exact h
theorem cv_E.ag (h : cv_E T s) (g : sg_ag [(18, 1)] [21] [] s s2) : cv_E T s2 := by
  unfold cv_E
  rw [g.i (a := 18) (k := 1) rfl, g.a (a := 21) rfl]
  exact h
theorem cv_D.ag (h : cv_D s) (g : sg_ag [] [23] [] s s2) : cv_D s2 := by
  unfold cv_D
  rw [g.a (a := 23) rfl]
  exact h
theorem rx_RU.ag (h : rx_RU T s) (g : sg_ag cf_B ca_B [] s s2) : rx_RU T s2 := by
  unfold rx_RU
  rw [g.i (a := 1) (k := 0) rfl, g.i (a := 1) (k := 1) rfl, g.i (a := 1) (k := 2) rfl, g.i (a := 1) (k := 3) rfl, g.i (a := 1) (k := 4) rfl, g.a (a := 4) rfl, g.a (a := 5) rfl, g.a (a := 6) rfl, g.a (a := 7) rfl]
  exact h
theorem rm_RU.ag (h : rm_RU T s) (g : sg_ag cf_B ca_B [] s s2) : rm_RU T s2 := by
  unfold rm_RU
  rw [g.i (a := 64) (k := 21) rfl, g.i (a := 64) (k := 22) rfl, g.i (a := 64) (k := 23) rfl, g.i (a := 64) (k := 24) rfl, g.i (a := 64) (k := 25) rfl, g.a (a := 72) rfl, g.a (a := 73) rfl, g.a (a := 74) rfl, g.a (a := 75) rfl]
  exact h
theorem cv_.ag (h : cv_ s) (g : sg_ag cf_V ca_V [] s s2) : cv_ s2 := by
  obtain ⟨T, np, m, hT, hU, hV, hP, hS, hE, hD⟩ := h
  exact ⟨T, np, m, hT, hU.ag (g.le (by decide) (by decide) (by decide)), hV.ag (g.le (by decide) (by decide) (by decide)), hP.ag (g.le (by decide) (by decide) (by decide)), hS.ag (g.le (by decide) (by decide) (by decide)), hE.ag (g.le (by decide) (by decide) (by decide)), hD.ag (g.le (by decide) (by decide) (by decide))⟩
end CV
def am_Rw (h : am_H) : Prop := ∃ s, h = sg_h s ∧ cm_ s ∧ cv_ s
def am_Iw (h : am_H) : Prop := am_Iv h ∧ am_Rw h
theorem am_Iw.ip {h : am_H} (hI : am_Iw h) : am_Ip h := by
  obtain ⟨h1, s, e, h2, -⟩ := hI
  exact ⟨h1, s, e, h2⟩
theorem am_Rw.keep {mo : ab_Mo} {h h2 : am_H} (hr : am_Rw h) (hok2 : ab_hok ab_D0 h2) (hf : ab_fr mo h h2) (hm : sg_agc mo (cf_ ++ cf_V) (ca_ ++ ca_V) [17] = true) : am_Rw h2 := by
  obtain ⟨s, rfl, hc, hv⟩ := hr
  have e := sg_of_ok hok2
  rw [e] at hf
  have g := sg_agc_ok hm hf
  exact ⟨sg_of h2, e, hc.ag (g.le (by decide) (by decide) (by decide)), hv.ag (g.le (by decide) (by decide) (by decide))⟩
/-- a pair of calls that keeps what was alike before, and nothing of the verses changes -/
theorem am_Rw.of {mo1 mo2 : ab_Mo} {h h1 h2 : am_H} (hr : am_Rw h) (hp : am_Rel h2) (ok1 : ab_hok ab_D0 h1) (f1 : ab_fr mo1 h h1) (f2 : ab_fr mo2 h1 h2) (m1 : sg_agc mo1 cf_V ca_V [] = true) (m2 : sg_agc mo2 cf_V ca_V [] = true) : am_Rw h2 := by
  obtain ⟨s, rfl, -, hv⟩ := hr
  obtain ⟨s2, rfl, hc⟩ := hp
  have e := sg_of_ok ok1
  rw [e] at f1 f2
  exact ⟨s2, rfl, hc, (hv.ag (sg_agc_ok m1 f1)).ag (sg_agc_ok m2 f2)⟩
theorem am_Do.detI {al : Bool} {d mi : Nat} {as : List Value} {h h1 h2 : am_H} {a b : Int32} (p : am_Do al d mi as h (some (.int a), h1)) (q : am_Do al d mi as h (some (.int b), h2)) : a = b ∧ h1 = h2 := by
  obtain ⟨F1, p⟩ := p
  obtain ⟨F2, q⟩ := q
  have e := (p (max F1 F2) (Nat.le_max_left _ _)).symm.trans (q (max F1 F2) (Nat.le_max_right _ _))
  have e := Option.some.inj e
  have e1 := (Prod.mk.inj e).1
  exact ⟨(Value.int.injEq _ _).mp (Option.some.inj e1), (Prod.mk.inj e).2⟩
section KV
variable {h : am_H} {x1 x2 x3 : Int32} {y1 y2 y3 : Int64}
theorem am_pv_feed (hI : am_Iw h) : ∃ r1 r2 h1 h2, am_Do false 19 119 [.ref 0, .long y1, .long y2, .long y3] h (some (.int r1), h1) ∧ ab_hok ab_D0 h1 ∧ am_Do false 19 150 [.ref 64, .long y1, .long y2, .long y3] h1 (some (.int r2), h2) ∧ ab_hok ab_D0 h2 ∧ am_Iw h2 ∧ r1 = r2 := by
  obtain ⟨r1, r2, h1, h2, a, b, c, d, e, q⟩ := am_pq_feed (x1 := y1) (x2 := y2) (x3 := y3) hI.ip
  obtain ⟨r3, h3, d1, i1, f1, -⟩ := am_uX_feed (x1 := y1) (x2 := y2) (x3 := y3) hI.1
  obtain ⟨rfl, rfl⟩ := am_Do.detI a d1
  obtain ⟨r4, h4, d2, i2, f2, -⟩ := am_uM_feed (x1 := y1) (x2 := y2) (x3 := y3) i1
  obtain ⟨rfl, rfl⟩ := am_Do.detI c d2
  exact ⟨_, _, _, _, a, b, c, d, ⟨i2, hI.2.of e.2 b f1 f2 (by decide +kernel) (by decide +kernel)⟩, q⟩
theorem am_pv_year (hI : am_Iw h) : ∃ r1 r2 h1 h2, am_Do false 19 125 [.ref 0, .int x1] h (some (.int r1), h1) ∧ ab_hok ab_D0 h1 ∧ am_Do false 19 173 [.ref 64, .int x1] h1 (some (.int r2), h2) ∧ ab_hok ab_D0 h2 ∧ am_Iw h2 ∧ r1 = r2 := by
  obtain ⟨r1, r2, h1, h2, a, b, c, d, e, q⟩ := am_pq_year (x1 := x1) hI.ip
  obtain ⟨r3, h3, d1, i1, f1, -⟩ := am_uX_year (x1 := x1) hI.1
  obtain ⟨rfl, rfl⟩ := am_Do.detI a d1
  obtain ⟨r4, h4, d2, i2, f2, -⟩ := am_uM_year (x1 := x1) i1
  obtain ⟨rfl, rfl⟩ := am_Do.detI c d2
  exact ⟨_, _, _, _, a, b, c, d, ⟨i2, hI.2.of e.2 b f1 f2 (by decide +kernel) (by decide +kernel)⟩, q⟩
theorem am_pv_word (hI : am_Iw h) : ∃ r1 r2 h1 h2, am_Do false 19 129 [.ref 0, .int x1] h (some (.int r1), h1) ∧ ab_hok ab_D0 h1 ∧ am_Do false 19 176 [.ref 64, .int x1] h1 (some (.int r2), h2) ∧ ab_hok ab_D0 h2 ∧ am_Iw h2 ∧ r1 = r2 := by
  obtain ⟨r1, r2, h1, h2, a, b, c, d, e, q⟩ := am_pq_word (x1 := x1) hI.ip
  obtain ⟨r3, h3, d1, i1, f1, -⟩ := am_uX_word (x1 := x1) hI.1
  obtain ⟨rfl, rfl⟩ := am_Do.detI a d1
  obtain ⟨r4, h4, d2, i2, f2, -⟩ := am_uM_word (x1 := x1) i1
  obtain ⟨rfl, rfl⟩ := am_Do.detI c d2
  exact ⟨_, _, _, _, a, b, c, d, ⟨i2, hI.2.of e.2 b f1 f2 (by decide +kernel) (by decide +kernel)⟩, q⟩
theorem am_pv_type (hI : am_Iw h) : ∃ r1 r2 h1 h2, am_Do false 19 137 [.ref 0, .int x1] h (some (.int r1), h1) ∧ ab_hok ab_D0 h1 ∧ am_Do false 19 196 [.ref 64, .int x1] h1 (some (.int r2), h2) ∧ ab_hok ab_D0 h2 ∧ am_Iw h2 ∧ r1 = r2 := by
  obtain ⟨r1, r2, h1, h2, a, b, c, d, e, q⟩ := am_pq_type (x1 := x1) hI.ip
  obtain ⟨r3, h3, d1, i1, f1, -⟩ := am_uX_type (x1 := x1) hI.1
  obtain ⟨rfl, rfl⟩ := am_Do.detI a d1
  obtain ⟨r4, h4, d2, i2, f2, -⟩ := am_uM_type (x1 := x1) i1
  obtain ⟨rfl, rfl⟩ := am_Do.detI c d2
  exact ⟨_, _, _, _, a, b, c, d, ⟨i2, hI.2.of e.2 b f1 f2 (by decide +kernel) (by decide +kernel)⟩, q⟩
theorem am_pv_store (hI : am_Iw h) : ∃ r1 r2 h1 h2, am_Do false 19 141 [.ref 0, .int x1, .int x2, .int x3] h (some (.int r1), h1) ∧ ab_hok ab_D0 h1 ∧ am_Do false 19 205 [.ref 64, .int x1, .int x2, .int x3] h1 (some (.int r2), h2) ∧ ab_hok ab_D0 h2 ∧ am_Iw h2 ∧ r1 = r2 := by
  obtain ⟨r1, r2, h1, h2, a, b, c, d, e, q⟩ := am_pq_store (x1 := x1) (x2 := x2) (x3 := x3) hI.ip
  obtain ⟨r3, h3, d1, i1, f1, -⟩ := am_uX_store (x1 := x1) (x2 := x2) (x3 := x3) hI.1
  obtain ⟨rfl, rfl⟩ := am_Do.detI a d1
  obtain ⟨r4, h4, d2, i2, f2, -⟩ := am_uM_store (x1 := x1) (x2 := x2) (x3 := x3) i1
  obtain ⟨rfl, rfl⟩ := am_Do.detI c d2
  exact ⟨_, _, _, _, a, b, c, d, ⟨i2, hI.2.of e.2 b f1 f2 (by decide +kernel) (by decide +kernel)⟩, q⟩
end KV
/-- entry: the new entry's set is one of the kinds' -/
theorem cv_E_entry {s s2 : sg_S} {T : rp_T} {n : Nat} {x1 x2 x3 : Int32} (hn : (s.1 18 1).toInt = (n : Int)) (h100 : n ≤ 100) (hx : 0 ≤ x3.toInt ∧ x3.toInt < (rp_kset T.1).toInt) (hE : cv_E T s) {g : Nat} (h : s2 = sg_uA s 21 g x3 ∨ (s2 = sg_uI (sg_uA (sg_uA (sg_uA s 19 n x1) 20 n x2) 21 n x3) 18 1 (Int32.ofInt ((n : Int) + 1))) ∨ s2 = s) : cv_E T s2 := by
  rcases h with rfl | rfl | rfl
  · intro i hi
    show 0 ≤ (if 21 = 21 ∧ i = g then x3 else s.2.2.1 21 i).toInt ∧ (if 21 = 21 ∧ i = g then x3 else s.2.2.1 21 i).toInt < _
    by_cases c : i = g
    · rw [if_pos (by exact ⟨rfl, c⟩)]
      exact hx
    · rw [if_neg (by exact fun z => c z.2)]
      exact hE i hi
  · intro i hi
    have e1 : (Int32.ofInt ((n : Int) + 1)).toInt = (n : Int) + 1 := am_oi (by omega) (by omega)
    have hi : (i : Int) < (Int32.ofInt ((n : Int) + 1)).toInt := hi
    show 0 ≤ (if 21 = 21 ∧ i = n then x3 else if 21 = 20 ∧ i = n then x2 else if 21 = 19 ∧ i = n then x1 else s.2.2.1 21 i).toInt ∧ (if 21 = 21 ∧ i = n then x3 else if 21 = 20 ∧ i = n then x2 else if 21 = 19 ∧ i = n then x1 else s.2.2.1 21 i).toInt < _
    by_cases c : i = n
    · rw [if_pos (by exact ⟨rfl, c⟩)]
      exact hx
    · rw [if_neg (by exact fun z => c z.2), if_neg (by exact fun z => c z.2), if_neg (by exact fun z => c z.2)]
      exact hE i (by omega)
  · exact hE
