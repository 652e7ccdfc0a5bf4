/-! ===== all turns of the law but liking's ===== -/
theorem am_cell_keep {mo : ab_Mo} {h h2 : am_H} {a k c : Nat} {ws : List ab_W} (hok : ab_hok ab_D0 h) (hf : ab_fr mo h h2) (hd : ab_D0[a]? = some (.inr (c, ws))) (hm : ab_md mo a (k + 1) = false) (ha : Nat.blt a 1000000 = true) : ab_cell h2 a (k : Int) = ab_cell h a (k : Int) := by
  obtain ⟨fs, f1, -, -, -⟩ := ab_hok_obj hok hd ha
  obtain ⟨fs2, e1, e2⟩ := hf.2 a k c fs (ab_md_not hm) f1
  rw [ab_cell_obj f1, ab_cell_obj e1, e2]
/-- as many poets on both sides -/
def am_Rel (h : am_H) : Prop := ∃ n : Int32, ab_cell h 24 ((0 : Nat) : Int) = some (.int n) ∧ ab_cell h 64 ((30 : Nat) : Int) = some (.int n)
def am_Ip (h : am_H) : Prop := am_Iv h ∧ am_Rel h
theorem am_d24 : ab_D0[24]? = some (.inr (4, [.inl (0, 12), .inr (.inr [25]), .inr (.inr [26]), .inr (.inr [27])])) := rfl
theorem am_Rel.keep {mo : ab_Mo} {h h2 : am_H} (hr : am_Rel h) (hok : ab_hok ab_D0 h) (hf : ab_fr mo h h2) (hm : (!ab_md mo 24 1 && !ab_md mo 64 31) = true) : am_Rel h2 := by
  obtain ⟨n, a1, a2⟩ := hr
  simp only [Bool.and_eq_true, Bool.not_eq_true'] at hm
  exact ⟨n, (am_cell_keep hok hf am_d24 hm.1 rfl).trans a1, (am_cell_keep hok hf am_d64 hm.2 rfl).trans a2⟩
theorem am_Rel0 (h : am_H) : am_Rel (am_h0f h) := ⟨0, rfl, rfl⟩
/-- an end of poet -/
def am_poc (q : Nat) (fk : Int) (X : ab_P) : Bool := match X.1, X.2.1, X.2.2.2.1 with
  | [some (.inl t)], [(a, (k, []), .inl u)], F => Nat.beq a q && decide (k = fk) && ((decide (t = (-1, [])) && decide (u = (0, [(1, 1)])) && (decide (F = [(-100, [(0, 1)])]) || decide (F = [(-1, [(0, -1)])])))
    || (decide (t = (-1, [])) && decide (u = (12, [])) && decide (F = [(0, [(0, 1)]), (99, [(0, -1)]), (-12, [(1, 1)])]))
    || (decide (t = (0, [(1, 1)])) && decide (u = (1, [(1, 1)])) && decide (F = [(0, [(0, 1)]), (99, [(0, -1)]), (11, [(1, -1)])])))
  | _, _, _ => false
def am_pof (x n : Int) : Int × Int := if 0 ≤ x ∧ x ≤ 99 ∧ n ≤ 11 then (n, n + 1) else (-1, n)
theorem am_po1 {k : ab_K} {h : am_H} {p q fk : Nat} {x1 n : Int32} (hk : ab_kok false ab_D0 k) (e1 : k.2.2.1.1 = [some (.inr (.inr p)), some (.inl (ab_var 0))]) (e2 : k.2.2.1.2.1 = [(q, ((fk : Int), []), .inl (ab_var 1))]) (e3 : k.2.2.1.2.2.1 = [(-2147483648, 2147483647, 511), (0, 12, 511)]) (e4 : k.2.2.1.2.2.2.1 = []) (hd : k.2.1 ≤ 19) (hc : k.2.2.2.2.all (am_poc q fk) = true) (hok : ab_hok ab_D0 h) (hn : ab_cell h q (fk : Int) = some (.int n)) (hn2 : 0 ≤ n.toInt ∧ n.toInt ≤ 12) : ∃ (r n2 : Int32) (h2 : am_H), am_Do false 19 k.1 [.ref p, .int x1] h (some (.int r), h2) ∧ ab_hok ab_D0 h2 ∧ ab_fr k.2.2.2.1 h h2 ∧ ab_cell h2 q (fk : Int) = some (.int n2) ∧ (r.toInt, n2.toInt) = am_pof x1.toInt n.toInt := by
  have hat : ab_at [x1.toInt, n.toInt] k.2.2.1 ([Value.ref p, .int x1].map some) h := by
    refine ⟨?_, ?_, ?_, ?_⟩
    · rw [e1]
      exact ab_st_lv [.inr (.inr p), .inl (ab_var 0)] [.ref p, .int x1] ⟨rfl, ab_evx rfl rfl, trivial⟩
    · rw [e2]
      intro c hc
      rcases List.mem_singleton.mp hc with rfl
      exact ⟨fk, .int n, ab_ev_k _ _, hn, ab_evx rfl rfl⟩
    · rw [e3]
      exact ab_env2 (ab_i32 x1).1 (ab_i32 x1).2 hn2.1 hn2.2
    · rw [e4]
      exact ab_F0
  obtain ⟨X, hX, ro2, r, h2, k1, k2, k3, k4⟩ := hk [x1.toInt, n.toInt] [.ref p, .int x1] h 19 hd hok hat
  have h5 := List.all_eq_true.mp hc X hX
  obtain ⟨Xl, Xo, XN, XF, Xr⟩ := X
  obtain ⟨a1, a2, -, a4⟩ := k4
  unfold am_poc at h5
  simp only at h5 a1 a2 a4
  have ev : ∀ (c d : Int), ab_ev ([x1.toInt, n.toInt] ++ ro2) (c, [(0, d)]) = some (c + (d * x1.toInt + 0)) := fun c d => ab_ev_of (ab_evl_of rfl rfl)
  have en : ∀ (c d : Int), ab_ev ([x1.toInt, n.toInt] ++ ro2) (c, [(1, d)]) = some (c + (d * n.toInt + 0)) := fun c d => ab_ev_of (ab_evl_of rfl rfl)
  split at h5
  · rename_i t a k u
    simp only [Bool.and_eq_true, Bool.or_eq_true, decide_eq_true_eq] at h5
    obtain ⟨⟨h6, rfl⟩, h7⟩ := h5
    have h6 := Nat.eq_of_beq_eq_true h6
    subst h6
    obtain ⟨y, rfl, hy⟩ := ab_lv_1 a1
    obtain ⟨j, w, b1, b2, b3⟩ := a2 _ List.mem_cons_self
    simp only at b1 b2 b3
    rw [ab_ev_k] at b1
    cases b1
    obtain ⟨m, rfl, hm⟩ := ab_v_int b3
    refine ⟨y, m, h2, k1, k2, k3, b2, ?_⟩
    unfold am_pof
    rcases h7 with (⟨⟨rfl, rfl⟩, h8⟩ | ⟨⟨rfl, rfl⟩, rfl⟩) | ⟨⟨rfl, rfl⟩, rfl⟩
    · rw [ab_ev_k] at hy
      rw [en] at hm
      have hy := Option.some.inj hy
      have hm := Option.some.inj hm
      have hneg : ¬ (0 ≤ x1.toInt ∧ x1.toInt ≤ 99 ∧ n.toInt ≤ 11) := by
        rcases h8 with rfl | rfl
        · obtain ⟨z, z1, z2⟩ := a4 _ List.mem_cons_self
          rw [ev] at z1
          have := Option.some.inj z1
          omega
        · obtain ⟨z, z1, z2⟩ := a4 _ List.mem_cons_self
          rw [ev] at z1
          have := Option.some.inj z1
          omega
      rw [if_neg hneg, ← hy, ← hm]
      congr 1
      omega
    · rw [ab_ev_k] at hy hm
      have hy := Option.some.inj hy
      have hm := Option.some.inj hm
      obtain ⟨z, z1, z2⟩ := a4 (-12, [(1, 1)]) (List.mem_cons_of_mem _ (List.mem_cons_of_mem _ List.mem_cons_self))
      rw [en] at z1
      have := Option.some.inj z1
      rw [if_neg (by omega), ← hy, ← hm]
      congr 1
      omega
    · rw [en] at hy hm
      have hy := Option.some.inj hy
      have hm := Option.some.inj hm
      obtain ⟨z, z1, z2⟩ := a4 (11, [(1, -1)]) (List.mem_cons_of_mem _ (List.mem_cons_of_mem _ List.mem_cons_self))
      obtain ⟨w, w1, w2⟩ := a4 (99, [(0, -1)]) (List.mem_cons_of_mem _ List.mem_cons_self)
      obtain ⟨v, v1, v2⟩ := a4 (0, [(0, 1)]) List.mem_cons_self
      rw [en] at z1
      rw [ev] at w1 v1
      have := Option.some.inj z1
      have := Option.some.inj w1
      have := Option.some.inj v1
      rw [if_pos (by omega), ← hy, ← hm]
      congr 1 <;> omega
  · cases h5
theorem am_pr_poet {h : am_H} {x1 : Int32} (hI : am_Ip h) : ∃ r1 r2 h1 h2, am_Do false 19 122 [.ref 0, .int x1] h (some (.int r1), h1) ∧ ab_hok ab_D0 h1 ∧ am_Do false 19 167 [.ref 64, .int x1] h1 (some (.int r2), h2) ∧ ab_hok ab_D0 h2 ∧ am_Ip h2 ∧ r1 = r2 := by
  obtain ⟨⟨hok, hvl⟩, n, n1, n2⟩ := hI
  obtain ⟨n0, m1, m2, m3⟩ := am_fld_int (k := 0) (lo := 0) (hi := 12) hok am_d24 rfl rfl
  rw [n1] at m1
  cases m1
  obtain ⟨r1, c1, h1, d1, ok1, f1, g1, e1⟩ := am_po1 (x1 := x1) (q := 24) (fk := 0) (p := 0) ab_k_LV_poet_0 rfl rfl rfl rfl (by decide) (by decide +kernel) hok n1 ⟨m2, m3⟩
  have n3 : ab_cell h1 64 ((30 : Nat) : Int) = some (.int n) := (am_cell_keep hok f1 am_d64 (by decide +kernel) rfl).trans n2
  obtain ⟨r2, c2, h2, d2, ok2, f2, g2, e2⟩ := am_po1 (x1 := x1) (q := 64) (fk := 30) (p := 64) ab_k_LVModel_poet_64 rfl rfl rfl rfl (by decide) (by decide +kernel) ok1 n3 ⟨m2, m3⟩
  have e3 := e1.trans e2.symm
  simp only [Prod.mk.injEq] at e3
  have hr : r1 = r2 := Int32.toInt_inj.mp e3.1
  have hcc : c1 = c2 := Int32.toInt_inj.mp e3.2
  subst hcc
  exact ⟨r1, r2, h1, h2, d1, ok1, d2, ok2, ⟨⟨ok2, (hvl.frX f1 (by decide +kernel)).frM ok1 f2 (by decide +kernel)⟩, c1, (am_cell_keep ok1 f2 am_d24 (by decide +kernel) rfl).trans g1, g2⟩, hr⟩
theorem am_pr_feed {h : am_H} {x1 : Int64} {x2 : Int64} {x3 : Int64} (hI : am_Ip h) : ∃ r1 r2 h1 h2, am_Do false 19 119 [.ref 0, .long x1, .long x2, .long x3] h (some (.int r1), h1) ∧ ab_hok ab_D0 h1 ∧ am_Do false 19 150 [.ref 64, .long x1, .long x2, .long x3] h1 (some (.int r2), h2) ∧ ab_hok ab_D0 h2 ∧ am_Ip h2 := by
  obtain ⟨r1, h1, d1, i1, f1⟩ := am_uX_feed (x1 := x1) (x2 := x2) (x3 := x3) hI.1
  obtain ⟨r2, h2, d2, i2, f2⟩ := am_uM_feed (x1 := x1) (x2 := x2) (x3 := x3) i1
  exact ⟨r1, r2, h1, h2, d1, i1.1, d2, i2.1, i2, (hI.2.keep hI.1.1 f1 (by decide +kernel)).keep i1.1 f2 (by decide +kernel)⟩
theorem am_pr_read {h : am_H} (hI : am_Ip h) : ∃ r1 r2 h1 h2, am_Do false 19 120 [.ref 0] h (some (.int r1), h1) ∧ ab_hok ab_D0 h1 ∧ am_Do false 19 151 [.ref 64] h1 (some (.int r2), h2) ∧ ab_hok ab_D0 h2 ∧ am_Ip h2 := by
  obtain ⟨r1, h1, d1, i1, f1⟩ := am_uX_read hI.1
  obtain ⟨r2, h2, d2, i2, f2⟩ := am_uM_read i1
  exact ⟨r1, r2, h1, h2, d1, i1.1, d2, i2.1, i2, (hI.2.keep hI.1.1 f1 (by decide +kernel)).keep i1.1 f2 (by decide +kernel)⟩
theorem am_pr_turn {h : am_H} (hI : am_Ip h) : ∃ r1 r2 h1 h2, am_Do false 19 123 [.ref 0] h (some (.int r1), h1) ∧ ab_hok ab_D0 h1 ∧ am_Do false 19 169 [.ref 64] h1 (some (.int r2), h2) ∧ ab_hok ab_D0 h2 ∧ am_Ip h2 := by
  obtain ⟨r1, h1, d1, i1, f1⟩ := am_uX_turn hI.1
  obtain ⟨r2, h2, d2, i2, f2⟩ := am_uM_turn i1
  exact ⟨r1, r2, h1, h2, d1, i1.1, d2, i2.1, i2, (hI.2.keep hI.1.1 f1 (by decide +kernel)).keep i1.1 f2 (by decide +kernel)⟩
theorem am_pr_pass {h : am_H} (hI : am_Ip h) : ∃ r1 r2 h1 h2, am_Do false 19 124 [.ref 0] h (some (.int r1), h1) ∧ ab_hok ab_D0 h1 ∧ am_Do false 19 171 [.ref 64] h1 (some (.int r2), h2) ∧ ab_hok ab_D0 h2 ∧ am_Ip h2 := by
  obtain ⟨r1, h1, d1, i1, f1⟩ := am_uX_pass hI.1
  obtain ⟨r2, h2, d2, i2, f2⟩ := am_uM_pass i1
  exact ⟨r1, r2, h1, h2, d1, i1.1, d2, i2.1, i2, (hI.2.keep hI.1.1 f1 (by decide +kernel)).keep i1.1 f2 (by decide +kernel)⟩
theorem am_pr_year {h : am_H} {x1 : Int32} (hI : am_Ip h) : ∃ r1 r2 h1 h2, am_Do false 19 125 [.ref 0, .int x1] h (some (.int r1), h1) ∧ ab_hok ab_D0 h1 ∧ am_Do false 19 173 [.ref 64, .int x1] h1 (some (.int r2), h2) ∧ ab_hok ab_D0 h2 ∧ am_Ip h2 := by
  obtain ⟨r1, h1, d1, i1, f1⟩ := am_uX_year (x1 := x1) hI.1
  obtain ⟨r2, h2, d2, i2, f2⟩ := am_uM_year (x1 := x1) i1
  exact ⟨r1, r2, h1, h2, d1, i1.1, d2, i2.1, i2, (hI.2.keep hI.1.1 f1 (by decide +kernel)).keep i1.1 f2 (by decide +kernel)⟩
theorem am_pr_entry {h : am_H} {x1 : Int32} {x2 : Int32} {x3 : Int32} (hI : am_Ip h) : ∃ r1 r2 h1 h2, am_Do false 19 127 [.ref 0, .int x1, .int x2, .int x3] h (some (.int r1), h1) ∧ ab_hok ab_D0 h1 ∧ am_Do false 19 174 [.ref 64, .int x1, .int x2, .int x3] h1 (some (.int r2), h2) ∧ ab_hok ab_D0 h2 ∧ am_Ip h2 := by
  obtain ⟨r1, h1, d1, i1, f1⟩ := am_uX_entry (x1 := x1) (x2 := x2) (x3 := x3) hI.1
  obtain ⟨r2, h2, d2, i2, f2⟩ := am_uM_entry (x1 := x1) (x2 := x2) (x3 := x3) i1
  exact ⟨r1, r2, h1, h2, d1, i1.1, d2, i2.1, i2, (hI.2.keep hI.1.1 f1 (by decide +kernel)).keep i1.1 f2 (by decide +kernel)⟩
theorem am_pr_word {h : am_H} {x1 : Int32} (hI : am_Ip h) : ∃ r1 r2 h1 h2, am_Do false 19 129 [.ref 0, .int x1] h (some (.int r1), h1) ∧ ab_hok ab_D0 h1 ∧ am_Do false 19 176 [.ref 64, .int x1] h1 (some (.int r2), h2) ∧ ab_hok ab_D0 h2 ∧ am_Ip h2 := by
  obtain ⟨r1, h1, d1, i1, f1⟩ := am_uX_word (x1 := x1) hI.1
  obtain ⟨r2, h2, d2, i2, f2⟩ := am_uM_word (x1 := x1) i1
  exact ⟨r1, r2, h1, h2, d1, i1.1, d2, i2.1, i2, (hI.2.keep hI.1.1 f1 (by decide +kernel)).keep i1.1 f2 (by decide +kernel)⟩
theorem am_pr_like {h : am_H} {x1 : Int32} {x2 : Int32} {x3 : Int32} (hI : am_Ip h) : ∃ r1 r2 h1 h2, am_Do false 19 130 [.ref 0, .int x1, .int x2, .int x3] h (some (.int r1), h1) ∧ ab_hok ab_D0 h1 ∧ am_Do false 19 178 [.ref 64, .int x1, .int x2, .int x3] h1 (some (.int r2), h2) ∧ ab_hok ab_D0 h2 ∧ am_Ip h2 := by
  obtain ⟨r1, h1, d1, i1, f1⟩ := am_uX_like (x1 := x1) (x2 := x2) (x3 := x3) hI.1
  obtain ⟨r2, h2, d2, i2, f2⟩ := am_uM_like (x1 := x1) (x2 := x2) (x3 := x3) i1
  exact ⟨r1, r2, h1, h2, d1, i1.1, d2, i2.1, i2, (hI.2.keep hI.1.1 f1 (by decide +kernel)).keep i1.1 f2 (by decide +kernel)⟩
theorem am_pr_verse {h : am_H} {x1 : Int32} {x2 : Int32} {x3 : Int32} {x4 : Int32} (hI : am_Ip h) : ∃ r1 r2 h1 h2, am_Do false 19 131 [.ref 0, .int x1, .int x2, .int x3, .int x4] h (some (.int r1), h1) ∧ ab_hok ab_D0 h1 ∧ am_Do false 19 181 [.ref 64, .int x1, .int x2, .int x3, .int x4] h1 (some (.int r2), h2) ∧ ab_hok ab_D0 h2 ∧ am_Ip h2 := by
  obtain ⟨r1, h1, d1, i1, f1⟩ := am_uX_verse (x1 := x1) (x2 := x2) (x3 := x3) (x4 := x4) hI.1
  obtain ⟨r2, h2, d2, i2, f2⟩ := am_uM_verse (x1 := x1) (x2 := x2) (x3 := x3) (x4 := x4) i1
  exact ⟨r1, r2, h1, h2, d1, i1.1, d2, i2.1, i2, (hI.2.keep hI.1.1 f1 (by decide +kernel)).keep i1.1 f2 (by decide +kernel)⟩
theorem am_pr_breaks {h : am_H} {x1 : Int32} {x2 : Int32} {x3 : Int32} (hI : am_Ip h) : ∃ r1 r2 h1 h2, am_Do false 19 134 [.ref 0, .int x1, .int x2, .int x3] h (some (.int r1), h1) ∧ ab_hok ab_D0 h1 ∧ am_Do false 19 193 [.ref 64, .int x1, .int x2, .int x3] h1 (some (.int r2), h2) ∧ ab_hok ab_D0 h2 ∧ am_Ip h2 := by
  obtain ⟨r1, h1, d1, i1, f1⟩ := am_uX_breaks (x1 := x1) (x2 := x2) (x3 := x3) hI.1
  obtain ⟨r2, h2, d2, i2, f2⟩ := am_uM_breaks (x1 := x1) (x2 := x2) (x3 := x3) i1
  exact ⟨r1, r2, h1, h2, d1, i1.1, d2, i2.1, i2, (hI.2.keep hI.1.1 f1 (by decide +kernel)).keep i1.1 f2 (by decide +kernel)⟩
theorem am_pr_back {h : am_H} (hI : am_Ip h) : ∃ r1 r2 h1 h2, am_Do false 19 135 [.ref 0] h (some (.int r1), h1) ∧ ab_hok ab_D0 h1 ∧ am_Do false 19 194 [.ref 64] h1 (some (.int r2), h2) ∧ ab_hok ab_D0 h2 ∧ am_Ip h2 := by
  obtain ⟨r1, h1, d1, i1, f1⟩ := am_uX_back hI.1
  obtain ⟨r2, h2, d2, i2, f2⟩ := am_uM_back i1
  exact ⟨r1, r2, h1, h2, d1, i1.1, d2, i2.1, i2, (hI.2.keep hI.1.1 f1 (by decide +kernel)).keep i1.1 f2 (by decide +kernel)⟩
theorem am_pr_worn {h : am_H} {x1 : Int32} {x2 : Int32} (hI : am_Ip h) (hx2 : 0 ≤ x2.toInt ∧ x2.toInt ≤ 1) : ∃ r1 r2 h1 h2, am_Do false 19 136 [.ref 0, .int x1, .int x2] h (some (.int r1), h1) ∧ ab_hok ab_D0 h1 ∧ am_Do false 19 195 [.ref 64, .int x1, .int x2] h1 (some (.int r2), h2) ∧ ab_hok ab_D0 h2 ∧ am_Ip h2 := by
  obtain ⟨r1, h1, d1, i1, f1⟩ := am_uX_worn (x1 := x1) (x2 := x2) hI.1 hx2
  obtain ⟨r2, h2, d2, i2, f2⟩ := am_uM_worn (x1 := x1) (x2 := x2) i1 hx2
  exact ⟨r1, r2, h1, h2, d1, i1.1, d2, i2.1, i2, (hI.2.keep hI.1.1 f1 (by decide +kernel)).keep i1.1 f2 (by decide +kernel)⟩
theorem am_pr_type {h : am_H} {x1 : Int32} (hI : am_Ip h) : ∃ r1 r2 h1 h2, am_Do false 19 137 [.ref 0, .int x1] h (some (.int r1), h1) ∧ ab_hok ab_D0 h1 ∧ am_Do false 19 196 [.ref 64, .int x1] h1 (some (.int r2), h2) ∧ ab_hok ab_D0 h2 ∧ am_Ip h2 := by
  obtain ⟨r1, h1, d1, i1, f1⟩ := am_uX_type (x1 := x1) hI.1
  obtain ⟨r2, h2, d2, i2, f2⟩ := am_uM_type (x1 := x1) i1
  exact ⟨r1, r2, h1, h2, d1, i1.1, d2, i2.1, i2, (hI.2.keep hI.1.1 f1 (by decide +kernel)).keep i1.1 f2 (by decide +kernel)⟩
theorem am_pr_ends {h : am_H} (hI : am_Ip h) : ∃ r1 r2 h1 h2, am_Do false 19 138 [.ref 0] h (some (.int r1), h1) ∧ ab_hok ab_D0 h1 ∧ am_Do false 19 197 [.ref 64] h1 (some (.int r2), h2) ∧ ab_hok ab_D0 h2 ∧ am_Ip h2 := by
  obtain ⟨r1, h1, d1, i1, f1⟩ := am_uX_ends hI.1
  obtain ⟨r2, h2, d2, i2, f2⟩ := am_uM_ends i1
  exact ⟨r1, r2, h1, h2, d1, i1.1, d2, i2.1, i2, (hI.2.keep hI.1.1 f1 (by decide +kernel)).keep i1.1 f2 (by decide +kernel)⟩
theorem am_pr_full {h : am_H} {x1 : Int32} (hI : am_Ip h) : ∃ r1 r2 h1 h2, am_Do false 19 139 [.ref 0, .int x1] h (some (.int r1), h1) ∧ ab_hok ab_D0 h1 ∧ am_Do false 19 202 [.ref 64, .int x1] h1 (some (.int r2), h2) ∧ ab_hok ab_D0 h2 ∧ am_Ip h2 := by
  obtain ⟨r1, h1, d1, i1, f1⟩ := am_uX_full (x1 := x1) hI.1
  obtain ⟨r2, h2, d2, i2, f2⟩ := am_uM_full (x1 := x1) i1
  exact ⟨r1, r2, h1, h2, d1, i1.1, d2, i2.1, i2, (hI.2.keep hI.1.1 f1 (by decide +kernel)).keep i1.1 f2 (by decide +kernel)⟩
theorem am_pr_can {h : am_H} {x1 : Int32} (hI : am_Ip h) : ∃ r1 r2 h1 h2, am_Do false 19 140 [.ref 0, .int x1] h (some (.int r1), h1) ∧ ab_hok ab_D0 h1 ∧ am_Do false 19 204 [.ref 64, .int x1] h1 (some (.int r2), h2) ∧ ab_hok ab_D0 h2 ∧ am_Ip h2 := by
  obtain ⟨r1, h1, d1, i1, f1⟩ := am_uX_can (x1 := x1) hI.1
  obtain ⟨r2, h2, d2, i2, f2⟩ := am_uM_can (x1 := x1) i1
  exact ⟨r1, r2, h1, h2, d1, i1.1, d2, i2.1, i2, (hI.2.keep hI.1.1 f1 (by decide +kernel)).keep i1.1 f2 (by decide +kernel)⟩
theorem am_pr_store {h : am_H} {x1 : Int32} {x2 : Int32} {x3 : Int32} (hI : am_Ip h) : ∃ r1 r2 h1 h2, am_Do false 19 141 [.ref 0, .int x1, .int x2, .int x3] h (some (.int r1), h1) ∧ ab_hok ab_D0 h1 ∧ am_Do false 19 205 [.ref 64, .int x1, .int x2, .int x3] h1 (some (.int r2), h2) ∧ ab_hok ab_D0 h2 ∧ am_Ip h2 := by
  obtain ⟨r1, h1, d1, i1, f1⟩ := am_uX_store (x1 := x1) (x2 := x2) (x3 := x3) hI.1
  obtain ⟨r2, h2, d2, i2, f2⟩ := am_uM_store (x1 := x1) (x2 := x2) (x3 := x3) i1
  exact ⟨r1, r2, h1, h2, d1, i1.1, d2, i2.1, i2, (hI.2.keep hI.1.1 f1 (by decide +kernel)).keep i1.1 f2 (by decide +kernel)⟩
theorem am_pr_best {h : am_H} {x1 : Int32} (hI : am_Ip h) : ∃ r1 r2 h1 h2, am_Do false 19 142 [.ref 0, .int x1] h (some (.int r1), h1) ∧ ab_hok ab_D0 h1 ∧ am_Do false 19 206 [.ref 64, .int x1] h1 (some (.int r2), h2) ∧ ab_hok ab_D0 h2 ∧ am_Ip h2 := by
  obtain ⟨r1, h1, d1, i1, f1⟩ := am_uX_best (x1 := x1) hI.1
  obtain ⟨r2, h2, d2, i2, f2⟩ := am_uM_best (x1 := x1) i1
  exact ⟨r1, r2, h1, h2, d1, i1.1, d2, i2.1, i2, (hI.2.keep hI.1.1 f1 (by decide +kernel)).keep i1.1 f2 (by decide +kernel)⟩
theorem am_pr_bestOf {h : am_H} {x1 : Int32} (hI : am_Ip h) : ∃ r1 r2 h1 h2, am_Do false 19 143 [.ref 0, .int x1] h (some (.int r1), h1) ∧ ab_hok ab_D0 h1 ∧ am_Do false 19 208 [.ref 64, .int x1] h1 (some (.int r2), h2) ∧ ab_hok ab_D0 h2 ∧ am_Ip h2 := by
  obtain ⟨r1, h1, d1, i1, f1⟩ := am_uX_bestOf (x1 := x1) hI.1
  obtain ⟨r2, h2, d2, i2, f2⟩ := am_uM_bestOf (x1 := x1) i1
  exact ⟨r1, r2, h1, h2, d1, i1.1, d2, i2.1, i2, (hI.2.keep hI.1.1 f1 (by decide +kernel)).keep i1.1 f2 (by decide +kernel)⟩
theorem am_pr_verseOf {h : am_H} {x1 : Int32} {x2 : Int32} (hI : am_Ip h) : ∃ r1 r2 h1 h2, am_Do false 19 144 [.ref 0, .int x1, .int x2] h (some (.int r1), h1) ∧ ab_hok ab_D0 h1 ∧ am_Do false 19 209 [.ref 64, .int x1, .int x2] h1 (some (.int r2), h2) ∧ ab_hok ab_D0 h2 ∧ am_Ip h2 := by
  obtain ⟨r1, h1, d1, i1, f1⟩ := am_uX_verseOf (x1 := x1) (x2 := x2) hI.1
  obtain ⟨r2, h2, d2, i2, f2⟩ := am_uM_verseOf (x1 := x1) (x2 := x2) i1
  exact ⟨r1, r2, h1, h2, d1, i1.1, d2, i2.1, i2, (hI.2.keep hI.1.1 f1 (by decide +kernel)).keep i1.1 f2 (by decide +kernel)⟩
theorem am_pr_poetOf {h : am_H} {x1 : Int32} {x2 : Int32} (hI : am_Ip h) : ∃ r1 r2 h1 h2, am_Do false 19 145 [.ref 0, .int x1, .int x2] h (some (.int r1), h1) ∧ ab_hok ab_D0 h1 ∧ am_Do false 19 210 [.ref 64, .int x1, .int x2] h1 (some (.int r2), h2) ∧ ab_hok ab_D0 h2 ∧ am_Ip h2 := by
  obtain ⟨r1, h1, d1, i1, f1⟩ := am_uX_poetOf (x1 := x1) (x2 := x2) hI.1
  obtain ⟨r2, h2, d2, i2, f2⟩ := am_uM_poetOf (x1 := x1) (x2 := x2) i1
  exact ⟨r1, r2, h1, h2, d1, i1.1, d2, i2.1, i2, (hI.2.keep hI.1.1 f1 (by decide +kernel)).keep i1.1 f2 (by decide +kernel)⟩
theorem am_pr_ruleOf {h : am_H} {x1 : Int32} {x2 : Int32} (hI : am_Ip h) : ∃ r1 r2 h1 h2, am_Do false 19 146 [.ref 0, .int x1, .int x2] h (some (.int r1), h1) ∧ ab_hok ab_D0 h1 ∧ am_Do false 19 211 [.ref 64, .int x1, .int x2] h1 (some (.int r2), h2) ∧ ab_hok ab_D0 h2 ∧ am_Ip h2 := by
  obtain ⟨r1, h1, d1, i1, f1⟩ := am_uX_ruleOf (x1 := x1) (x2 := x2) hI.1
  obtain ⟨r2, h2, d2, i2, f2⟩ := am_uM_ruleOf (x1 := x1) (x2 := x2) i1
  exact ⟨r1, r2, h1, h2, d1, i1.1, d2, i2.1, i2, (hI.2.keep hI.1.1 f1 (by decide +kernel)).keep i1.1 f2 (by decide +kernel)⟩
theorem am_pr_count {h : am_H} {x1 : Int32} (hI : am_Ip h) : ∃ r1 r2 h1 h2, am_Do false 19 147 [.ref 0, .int x1] h (some (.int r1), h1) ∧ ab_hok ab_D0 h1 ∧ am_Do false 19 212 [.ref 64, .int x1] h1 (some (.int r2), h2) ∧ ab_hok ab_D0 h2 ∧ am_Ip h2 := by
  obtain ⟨r1, h1, d1, i1, f1⟩ := am_uX_count (x1 := x1) hI.1
  obtain ⟨r2, h2, d2, i2, f2⟩ := am_uM_count (x1 := x1) i1
  exact ⟨r1, r2, h1, h2, d1, i1.1, d2, i2.1, i2, (hI.2.keep hI.1.1 f1 (by decide +kernel)).keep i1.1 f2 (by decide +kernel)⟩
def am_Wc (L : Nat) (xs : Nat → Int32) (Inv : am_H → Prop) (k : Nat) : Prop := ∀ (Φ : am_C → Prop) (h : am_H) (nc ns : Nat) (i : Int) (o5 o6 : Option Value), 0 ≤ i ∧ i + 7 ≤ (L : Int) → L ≤ 3584 → Inv h → nc ≤ (am_k am_rL).1 → ns ≤ (am_k am_rL).2 → (∀ h2, Inv h2 → am_Wp false 19 (L, xs) am_rL Φ (23, am_lvL (i + 7) o5 o6, [], h2, nc, ns)) → am_Wp false 19 (L, xs) am_rL Φ (40, am_lvL i o5 o6, [.int (Int32.ofNat k)], h, nc, ns)
theorem am_w13 {L : Nat} {xs : Nat → Int32} : am_Wc L xs am_Ip 13 := by
  intro Φ h nc ns i o5 o6 hi hL hI hnc hns K
  cases hw : am_cmp .eq (xs ((i) + (2)).toNat) 0 with
  | true => exact am_t13a hi hL hI.1.1 hnc hns hw (am_pr_worn hI ⟨by decide, by decide⟩) K
  | false => exact am_t13b hi hL hI.1.1 hnc hns hw (am_pr_worn hI ⟨by decide, by decide⟩) K
theorem am_cases {L : Nat} {xs : Nat → Int32} (k : Nat) (hk : k < 32) (h9 : k ≠ 9) : am_Wc L xs am_Ip k := match k, hk, h9 with
  | 0, _, _ => fun _ _ _ _ _ _ _ hi hL hI hnc hns K => am_t0 hi hL hI.1.1 hnc hns (am_pr_feed hI) K
  | 1, _, _ => fun _ _ _ _ _ _ _ hi hL hI hnc hns K => am_t1 hi hL hI.1.1 hnc hns (am_pr_read hI) K
  | 2, _, _ => fun _ _ _ _ _ _ _ hi hL hI hnc hns K => am_t2 hi hL hI.1.1 hnc hns (am_pr_poet hI) K
  | 3, _, _ => fun _ _ _ _ _ _ _ hi hL hI hnc hns K => am_t3 hi hL hI.1.1 hnc hns (am_pr_turn hI) K
  | 4, _, _ => fun _ _ _ _ _ _ _ hi hL hI hnc hns K => am_t4 hi hL hI.1.1 hnc hns (am_pr_pass hI) K
  | 5, _, _ => fun _ _ _ _ _ _ _ hi hL hI hnc hns K => am_t5 hi hL hI.1.1 hnc hns (am_pr_year hI) K
  | 6, _, _ => fun _ _ _ _ _ _ _ hi hL hI hnc hns K => am_t6 hi hL hI.1.1 hnc hns (am_pr_entry hI) K
  | 7, _, _ => fun _ _ _ _ _ _ _ hi hL hI hnc hns K => am_t7 hi hL hI.1.1 hnc hns (am_pr_word hI) K
  | 8, _, _ => fun _ _ _ _ _ _ _ hi hL hI hnc hns K => am_t8 hi hL hI.1.1 hnc hns (am_pr_like hI) K
  | 9, _, h => absurd rfl h
  | 10, _, _ => fun _ _ _ _ _ _ _ hi hL hI hnc hns K => am_t10 hi hL hI.1.1 hnc hns (am_pr_verse hI) K
  | 11, _, _ => fun _ _ _ _ _ _ _ hi hL hI hnc hns K => am_t11 hi hL hI.1.1 hnc hns (am_pr_breaks hI) K
  | 12, _, _ => fun _ _ _ _ _ _ _ hi hL hI hnc hns K => am_t12 hi hL hI.1.1 hnc hns (am_pr_back hI) K
  | 13, _, _ => am_w13
  | 14, _, _ => fun _ _ _ _ _ _ _ hi hL hI hnc hns K => am_t14 hi hL hI.1.1 hnc hns (am_pr_type hI) K
  | 15, _, _ => fun _ _ _ _ _ _ _ hi hL hI hnc hns K => am_t15 hi hL hI.1.1 hnc hns (am_pr_ends hI) K
  | 16, _, _ => fun _ _ _ _ _ _ _ hi hL hI hnc hns K => am_t16 hi hL hI.1.1 hnc hns (am_pr_full hI) K
  | 17, _, _ => fun _ _ _ _ _ _ _ hi hL hI hnc hns K => am_t17 hi hL hI.1.1 hnc hns (am_pr_can hI) K
  | 18, _, _ => fun _ _ _ _ _ _ _ hi hL hI hnc hns K => am_t18 hi hL hI.1.1 hnc hns (am_pr_store hI) K
  | 19, _, _ => fun _ _ _ _ _ _ _ hi hL hI hnc hns K => am_t19 hi hL hI.1.1 hnc hns (am_pr_best hI) K
  | 20, _, _ => fun _ _ _ _ _ _ _ hi hL hI hnc hns K => am_t20 hi hL hI.1.1 hnc hns (am_pr_bestOf hI) K
  | 21, _, _ => fun _ _ _ _ _ _ _ hi hL hI hnc hns K => am_t21 hi hL hI.1.1 hnc hns (am_pr_verseOf hI) K
  | 22, _, _ => fun _ _ _ _ _ _ _ hi hL hI hnc hns K => am_t22 hi hL hI.1.1 hnc hns (am_pr_poetOf hI) K
  | 23, _, _ => fun _ _ _ _ _ _ _ hi hL hI hnc hns K => am_t23 hi hL hI.1.1 hnc hns (am_pr_ruleOf hI) K
  | 24, _, _ => fun _ _ _ _ _ _ _ hi hL hI hnc hns K => am_t24 hi hL hI.1.1 hnc hns (am_pr_count hI) K
  | 25, _, _ => fun _ _ _ _ _ _ _ hi hL hI hnc hns K => am_t25 hi hL hI.1.1 hnc hns hI K
  | 26, _, _ => fun _ _ _ _ _ _ _ hi hL hI hnc hns K => am_t26 hi hL hI.1.1 hnc hns hI K
  | 27, _, _ => fun _ _ _ _ _ _ _ hi hL hI hnc hns K => am_t27 hi hL hI.1.1 hnc hns hI K
  | 28, _, _ => fun _ _ _ _ _ _ _ hi hL hI hnc hns K => am_t28 hi hL hI.1.1 hnc hns hI K
  | 29, _, _ => fun _ _ _ _ _ _ _ hi hL hI hnc hns K => am_t29 hi hL hI.1.1 hnc hns hI K
  | 30, _, _ => fun _ _ _ _ _ _ _ hi hL hI hnc hns K => am_t30 hi hL hI.1.1 hnc hns hI K
  | 31, _, _ => fun _ _ _ _ _ _ _ hi hL hI hnc hns K => am_t31 hi hL hI.1.1 hnc hns hI K
  | n + 32, h, _ => absurd h (by omega)
theorem am_lk7 : ∀ h h' (x1 x2 : Int32), am_Ip h → ab_hok ab_D0 h' → ab_fr [(100, 0)] h h' → ∃ (r : Int32) (h2 : am_H), am_Do false 19 179 [.ref 64, .int x1, .int x2] h' (some (.int r), h2) ∧ am_Ip h2 := fun h h' x1 x2 hI ok' f' => by
  obtain ⟨r, h2, d2, i2, f2⟩ := am_uM_liking (x1 := x1) (x2 := x2) (⟨ok', hI.1.2.frX f' rfl⟩ : am_Iv h')
  exact ⟨r, h2, d2, i2, (hI.2.keep hI.1.1 f' (by decide +kernel)).keep ok' f2 (by decide +kernel)⟩
theorem am_VL0f (h : am_H) : am_VL (am_h0f h) := ⟨36, 0, rfl, rfl, by decide⟩
theorem am_I0 : am_Ip am_h0 := ⟨⟨am_hok0, am_VL0f am_hM⟩, am_Rel0 am_hM⟩
