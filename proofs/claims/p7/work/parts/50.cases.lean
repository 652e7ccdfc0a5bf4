/-! ===== all turns of the law but liking's ===== -/
theorem am_pr_feed {h : am_H} {x1 : Int64} {x2 : Int64} {x3 : Int64} (hI : am_Iv h) : ∃ r1 r2 h1 h2, am_Do false 19 119 [.ref 0, .long x1, .long x2, .long x3] h (some (.int r1), h1) ∧ ab_hok ab_D0 h1 ∧ am_Do false 19 150 [.ref 64, .long x1, .long x2, .long x3] h1 (some (.int r2), h2) ∧ ab_hok ab_D0 h2 ∧ am_Iv h2 := by
  obtain ⟨r1, h1, d1, i1⟩ := am_uX_feed (x1 := x1) (x2 := x2) (x3 := x3) hI
  obtain ⟨r2, h2, d2, i2⟩ := am_uM_feed (x1 := x1) (x2 := x2) (x3 := x3) i1
  exact ⟨r1, r2, h1, h2, d1, i1.1, d2, i2.1, i2⟩
theorem am_pr_read {h : am_H} (hI : am_Iv h) : ∃ r1 r2 h1 h2, am_Do false 19 120 [.ref 0] h (some (.int r1), h1) ∧ ab_hok ab_D0 h1 ∧ am_Do false 19 151 [.ref 64] h1 (some (.int r2), h2) ∧ ab_hok ab_D0 h2 ∧ am_Iv h2 := by
  obtain ⟨r1, h1, d1, i1⟩ := am_uX_read hI
  obtain ⟨r2, h2, d2, i2⟩ := am_uM_read i1
  exact ⟨r1, r2, h1, h2, d1, i1.1, d2, i2.1, i2⟩
theorem am_pr_poet {h : am_H} {x1 : Int32} (hI : am_Iv h) : ∃ r1 r2 h1 h2, am_Do false 19 122 [.ref 0, .int x1] h (some (.int r1), h1) ∧ ab_hok ab_D0 h1 ∧ am_Do false 19 167 [.ref 64, .int x1] h1 (some (.int r2), h2) ∧ ab_hok ab_D0 h2 ∧ am_Iv h2 := by
  obtain ⟨r1, h1, d1, i1⟩ := am_uX_poet (x1 := x1) hI
  obtain ⟨r2, h2, d2, i2⟩ := am_uM_poet (x1 := x1) i1
  exact ⟨r1, r2, h1, h2, d1, i1.1, d2, i2.1, i2⟩
theorem am_pr_turn {h : am_H} (hI : am_Iv h) : ∃ r1 r2 h1 h2, am_Do false 19 123 [.ref 0] h (some (.int r1), h1) ∧ ab_hok ab_D0 h1 ∧ am_Do false 19 169 [.ref 64] h1 (some (.int r2), h2) ∧ ab_hok ab_D0 h2 ∧ am_Iv h2 := by
  obtain ⟨r1, h1, d1, i1⟩ := am_uX_turn hI
  obtain ⟨r2, h2, d2, i2⟩ := am_uM_turn i1
  exact ⟨r1, r2, h1, h2, d1, i1.1, d2, i2.1, i2⟩
theorem am_pr_pass {h : am_H} (hI : am_Iv h) : ∃ r1 r2 h1 h2, am_Do false 19 124 [.ref 0] h (some (.int r1), h1) ∧ ab_hok ab_D0 h1 ∧ am_Do false 19 171 [.ref 64] h1 (some (.int r2), h2) ∧ ab_hok ab_D0 h2 ∧ am_Iv h2 := by
  obtain ⟨r1, h1, d1, i1⟩ := am_uX_pass hI
  obtain ⟨r2, h2, d2, i2⟩ := am_uM_pass i1
  exact ⟨r1, r2, h1, h2, d1, i1.1, d2, i2.1, i2⟩
theorem am_pr_entry {h : am_H} {x1 : Int32} {x2 : Int32} {x3 : Int32} (hI : am_Iv h) : ∃ r1 r2 h1 h2, am_Do false 19 127 [.ref 0, .int x1, .int x2, .int x3] h (some (.int r1), h1) ∧ ab_hok ab_D0 h1 ∧ am_Do false 19 174 [.ref 64, .int x1, .int x2, .int x3] h1 (some (.int r2), h2) ∧ ab_hok ab_D0 h2 ∧ am_Iv h2 := by
  obtain ⟨r1, h1, d1, i1⟩ := am_uX_entry (x1 := x1) (x2 := x2) (x3 := x3) hI
  obtain ⟨r2, h2, d2, i2⟩ := am_uM_entry (x1 := x1) (x2 := x2) (x3 := x3) i1
  exact ⟨r1, r2, h1, h2, d1, i1.1, d2, i2.1, i2⟩
theorem am_pr_word {h : am_H} {x1 : Int32} (hI : am_Iv h) : ∃ r1 r2 h1 h2, am_Do false 19 129 [.ref 0, .int x1] h (some (.int r1), h1) ∧ ab_hok ab_D0 h1 ∧ am_Do false 19 176 [.ref 64, .int x1] h1 (some (.int r2), h2) ∧ ab_hok ab_D0 h2 ∧ am_Iv h2 := by
  obtain ⟨r1, h1, d1, i1⟩ := am_uX_word (x1 := x1) hI
  obtain ⟨r2, h2, d2, i2⟩ := am_uM_word (x1 := x1) i1
  exact ⟨r1, r2, h1, h2, d1, i1.1, d2, i2.1, i2⟩
theorem am_pr_like {h : am_H} {x1 : Int32} {x2 : Int32} {x3 : Int32} (hI : am_Iv h) : ∃ r1 r2 h1 h2, am_Do false 19 130 [.ref 0, .int x1, .int x2, .int x3] h (some (.int r1), h1) ∧ ab_hok ab_D0 h1 ∧ am_Do false 19 178 [.ref 64, .int x1, .int x2, .int x3] h1 (some (.int r2), h2) ∧ ab_hok ab_D0 h2 ∧ am_Iv h2 := by
  obtain ⟨r1, h1, d1, i1⟩ := am_uX_like (x1 := x1) (x2 := x2) (x3 := x3) hI
  obtain ⟨r2, h2, d2, i2⟩ := am_uM_like (x1 := x1) (x2 := x2) (x3 := x3) i1
  exact ⟨r1, r2, h1, h2, d1, i1.1, d2, i2.1, i2⟩
theorem am_pr_verse {h : am_H} {x1 : Int32} {x2 : Int32} {x3 : Int32} {x4 : Int32} (hI : am_Iv h) : ∃ r1 r2 h1 h2, am_Do false 19 131 [.ref 0, .int x1, .int x2, .int x3, .int x4] h (some (.int r1), h1) ∧ ab_hok ab_D0 h1 ∧ am_Do false 19 181 [.ref 64, .int x1, .int x2, .int x3, .int x4] h1 (some (.int r2), h2) ∧ ab_hok ab_D0 h2 ∧ am_Iv h2 := by
  obtain ⟨r1, h1, d1, i1⟩ := am_uX_verse (x1 := x1) (x2 := x2) (x3 := x3) (x4 := x4) hI
  obtain ⟨r2, h2, d2, i2⟩ := am_uM_verse (x1 := x1) (x2 := x2) (x3 := x3) (x4 := x4) i1
  exact ⟨r1, r2, h1, h2, d1, i1.1, d2, i2.1, i2⟩
theorem am_pr_breaks {h : am_H} {x1 : Int32} {x2 : Int32} {x3 : Int32} (hI : am_Iv h) : ∃ r1 r2 h1 h2, am_Do false 19 134 [.ref 0, .int x1, .int x2, .int x3] h (some (.int r1), h1) ∧ ab_hok ab_D0 h1 ∧ am_Do false 19 193 [.ref 64, .int x1, .int x2, .int x3] h1 (some (.int r2), h2) ∧ ab_hok ab_D0 h2 ∧ am_Iv h2 := by
  obtain ⟨r1, h1, d1, i1⟩ := am_uX_breaks (x1 := x1) (x2 := x2) (x3 := x3) hI
  obtain ⟨r2, h2, d2, i2⟩ := am_uM_breaks (x1 := x1) (x2 := x2) (x3 := x3) i1
  exact ⟨r1, r2, h1, h2, d1, i1.1, d2, i2.1, i2⟩
theorem am_pr_back {h : am_H} (hI : am_Iv h) : ∃ r1 r2 h1 h2, am_Do false 19 135 [.ref 0] h (some (.int r1), h1) ∧ ab_hok ab_D0 h1 ∧ am_Do false 19 194 [.ref 64] h1 (some (.int r2), h2) ∧ ab_hok ab_D0 h2 ∧ am_Iv h2 := by
  obtain ⟨r1, h1, d1, i1⟩ := am_uX_back hI
  obtain ⟨r2, h2, d2, i2⟩ := am_uM_back i1
  exact ⟨r1, r2, h1, h2, d1, i1.1, d2, i2.1, i2⟩
theorem am_pr_worn {h : am_H} {x1 : Int32} {x2 : Int32} (hI : am_Iv h) (hx2 : 0 ≤ x2.toInt ∧ x2.toInt ≤ 1) : ∃ r1 r2 h1 h2, am_Do false 19 136 [.ref 0, .int x1, .int x2] h (some (.int r1), h1) ∧ ab_hok ab_D0 h1 ∧ am_Do false 19 195 [.ref 64, .int x1, .int x2] h1 (some (.int r2), h2) ∧ ab_hok ab_D0 h2 ∧ am_Iv h2 := by
  obtain ⟨r1, h1, d1, i1⟩ := am_uX_worn (x1 := x1) (x2 := x2) hI hx2
  obtain ⟨r2, h2, d2, i2⟩ := am_uM_worn (x1 := x1) (x2 := x2) i1 hx2
  exact ⟨r1, r2, h1, h2, d1, i1.1, d2, i2.1, i2⟩
theorem am_pr_type {h : am_H} {x1 : Int32} (hI : am_Iv h) : ∃ r1 r2 h1 h2, am_Do false 19 137 [.ref 0, .int x1] h (some (.int r1), h1) ∧ ab_hok ab_D0 h1 ∧ am_Do false 19 196 [.ref 64, .int x1] h1 (some (.int r2), h2) ∧ ab_hok ab_D0 h2 ∧ am_Iv h2 := by
  obtain ⟨r1, h1, d1, i1⟩ := am_uX_type (x1 := x1) hI
  obtain ⟨r2, h2, d2, i2⟩ := am_uM_type (x1 := x1) i1
  exact ⟨r1, r2, h1, h2, d1, i1.1, d2, i2.1, i2⟩
theorem am_pr_ends {h : am_H} (hI : am_Iv h) : ∃ r1 r2 h1 h2, am_Do false 19 138 [.ref 0] h (some (.int r1), h1) ∧ ab_hok ab_D0 h1 ∧ am_Do false 19 197 [.ref 64] h1 (some (.int r2), h2) ∧ ab_hok ab_D0 h2 ∧ am_Iv h2 := by
  obtain ⟨r1, h1, d1, i1⟩ := am_uX_ends hI
  obtain ⟨r2, h2, d2, i2⟩ := am_uM_ends i1
  exact ⟨r1, r2, h1, h2, d1, i1.1, d2, i2.1, i2⟩
theorem am_pr_full {h : am_H} {x1 : Int32} (hI : am_Iv h) : ∃ r1 r2 h1 h2, am_Do false 19 139 [.ref 0, .int x1] h (some (.int r1), h1) ∧ ab_hok ab_D0 h1 ∧ am_Do false 19 202 [.ref 64, .int x1] h1 (some (.int r2), h2) ∧ ab_hok ab_D0 h2 ∧ am_Iv h2 := by
  obtain ⟨r1, h1, d1, i1⟩ := am_uX_full (x1 := x1) hI
  obtain ⟨r2, h2, d2, i2⟩ := am_uM_full (x1 := x1) i1
  exact ⟨r1, r2, h1, h2, d1, i1.1, d2, i2.1, i2⟩
theorem am_pr_can {h : am_H} {x1 : Int32} (hI : am_Iv h) : ∃ r1 r2 h1 h2, am_Do false 19 140 [.ref 0, .int x1] h (some (.int r1), h1) ∧ ab_hok ab_D0 h1 ∧ am_Do false 19 204 [.ref 64, .int x1] h1 (some (.int r2), h2) ∧ ab_hok ab_D0 h2 ∧ am_Iv h2 := by
  obtain ⟨r1, h1, d1, i1⟩ := am_uX_can (x1 := x1) hI
  obtain ⟨r2, h2, d2, i2⟩ := am_uM_can (x1 := x1) i1
  exact ⟨r1, r2, h1, h2, d1, i1.1, d2, i2.1, i2⟩
theorem am_pr_store {h : am_H} {x1 : Int32} {x2 : Int32} {x3 : Int32} (hI : am_Iv h) : ∃ r1 r2 h1 h2, am_Do false 19 141 [.ref 0, .int x1, .int x2, .int x3] h (some (.int r1), h1) ∧ ab_hok ab_D0 h1 ∧ am_Do false 19 205 [.ref 64, .int x1, .int x2, .int x3] h1 (some (.int r2), h2) ∧ ab_hok ab_D0 h2 ∧ am_Iv h2 := by
  obtain ⟨r1, h1, d1, i1⟩ := am_uX_store (x1 := x1) (x2 := x2) (x3 := x3) hI
  obtain ⟨r2, h2, d2, i2⟩ := am_uM_store (x1 := x1) (x2 := x2) (x3 := x3) i1
  exact ⟨r1, r2, h1, h2, d1, i1.1, d2, i2.1, i2⟩
theorem am_pr_best {h : am_H} {x1 : Int32} (hI : am_Iv h) : ∃ r1 r2 h1 h2, am_Do false 19 142 [.ref 0, .int x1] h (some (.int r1), h1) ∧ ab_hok ab_D0 h1 ∧ am_Do false 19 206 [.ref 64, .int x1] h1 (some (.int r2), h2) ∧ ab_hok ab_D0 h2 ∧ am_Iv h2 := by
  obtain ⟨r1, h1, d1, i1⟩ := am_uX_best (x1 := x1) hI
  obtain ⟨r2, h2, d2, i2⟩ := am_uM_best (x1 := x1) i1
  exact ⟨r1, r2, h1, h2, d1, i1.1, d2, i2.1, i2⟩
theorem am_pr_bestOf {h : am_H} {x1 : Int32} (hI : am_Iv h) : ∃ r1 r2 h1 h2, am_Do false 19 143 [.ref 0, .int x1] h (some (.int r1), h1) ∧ ab_hok ab_D0 h1 ∧ am_Do false 19 208 [.ref 64, .int x1] h1 (some (.int r2), h2) ∧ ab_hok ab_D0 h2 ∧ am_Iv h2 := by
  obtain ⟨r1, h1, d1, i1⟩ := am_uX_bestOf (x1 := x1) hI
  obtain ⟨r2, h2, d2, i2⟩ := am_uM_bestOf (x1 := x1) i1
  exact ⟨r1, r2, h1, h2, d1, i1.1, d2, i2.1, i2⟩
theorem am_pr_verseOf {h : am_H} {x1 : Int32} {x2 : Int32} (hI : am_Iv h) : ∃ r1 r2 h1 h2, am_Do false 19 144 [.ref 0, .int x1, .int x2] h (some (.int r1), h1) ∧ ab_hok ab_D0 h1 ∧ am_Do false 19 209 [.ref 64, .int x1, .int x2] h1 (some (.int r2), h2) ∧ ab_hok ab_D0 h2 ∧ am_Iv h2 := by
  obtain ⟨r1, h1, d1, i1⟩ := am_uX_verseOf (x1 := x1) (x2 := x2) hI
  obtain ⟨r2, h2, d2, i2⟩ := am_uM_verseOf (x1 := x1) (x2 := x2) i1
  exact ⟨r1, r2, h1, h2, d1, i1.1, d2, i2.1, i2⟩
theorem am_pr_poetOf {h : am_H} {x1 : Int32} {x2 : Int32} (hI : am_Iv h) : ∃ r1 r2 h1 h2, am_Do false 19 145 [.ref 0, .int x1, .int x2] h (some (.int r1), h1) ∧ ab_hok ab_D0 h1 ∧ am_Do false 19 210 [.ref 64, .int x1, .int x2] h1 (some (.int r2), h2) ∧ ab_hok ab_D0 h2 ∧ am_Iv h2 := by
  obtain ⟨r1, h1, d1, i1⟩ := am_uX_poetOf (x1 := x1) (x2 := x2) hI
  obtain ⟨r2, h2, d2, i2⟩ := am_uM_poetOf (x1 := x1) (x2 := x2) i1
  exact ⟨r1, r2, h1, h2, d1, i1.1, d2, i2.1, i2⟩
theorem am_pr_ruleOf {h : am_H} {x1 : Int32} {x2 : Int32} (hI : am_Iv h) : ∃ r1 r2 h1 h2, am_Do false 19 146 [.ref 0, .int x1, .int x2] h (some (.int r1), h1) ∧ ab_hok ab_D0 h1 ∧ am_Do false 19 211 [.ref 64, .int x1, .int x2] h1 (some (.int r2), h2) ∧ ab_hok ab_D0 h2 ∧ am_Iv h2 := by
  obtain ⟨r1, h1, d1, i1⟩ := am_uX_ruleOf (x1 := x1) (x2 := x2) hI
  obtain ⟨r2, h2, d2, i2⟩ := am_uM_ruleOf (x1 := x1) (x2 := x2) i1
  exact ⟨r1, r2, h1, h2, d1, i1.1, d2, i2.1, i2⟩
theorem am_pr_count {h : am_H} {x1 : Int32} (hI : am_Iv h) : ∃ r1 r2 h1 h2, am_Do false 19 147 [.ref 0, .int x1] h (some (.int r1), h1) ∧ ab_hok ab_D0 h1 ∧ am_Do false 19 212 [.ref 64, .int x1] h1 (some (.int r2), h2) ∧ ab_hok ab_D0 h2 ∧ am_Iv h2 := by
  obtain ⟨r1, h1, d1, i1⟩ := am_uX_count (x1 := x1) hI
  obtain ⟨r2, h2, d2, i2⟩ := am_uM_count (x1 := x1) i1
  exact ⟨r1, r2, h1, h2, d1, i1.1, d2, i2.1, i2⟩
theorem am_pr_year {h : am_H} {x1 : Int32} (hI : am_Iv h) : ∃ r1 r2 h1 h2, am_Do false 19 125 [.ref 0, .int x1] h (some (.int r1), h1) ∧ ab_hok ab_D0 h1 ∧ am_Do false 19 173 [.ref 64, .int x1] h1 (some (.int r2), h2) ∧ ab_hok ab_D0 h2 ∧ am_Iv h2 ∧ r1 = r2 := by
  have one : ∀ (k : ab_K) (h : am_H) (p : Nat), ab_kok false ab_D0 k → k.2.2.1.1 = [some (.inr (.inr p)), some (.inl (ab_var 0))] → k.2.2.1.2.1 = [] → k.2.2.1.2.2.1 = [(-2147483648, 2147483647, 511)] → k.2.2.1.2.2.2.1 = [] → k.2.1 ≤ 19 → k.2.2.2.2.all (fun X => match X.1, X.2.2.2.1 with
      | [some (.inl (0, []))], [f] => decide (f = (-1, [(0, -1)])) || decide (f = (-10000, [(0, 1)]))
      | [some (.inl (1, []))], [f, g] => decide (f = (0, [(0, 1)])) && decide (g = (9999, [(0, -1)]))
      | _, _ => false) = true → ab_hok ab_D0 h → ∃ (r : Int32) (h2 : am_H), am_Do false 19 k.1 [.ref p, .int x1] h (some (.int r), h2) ∧ ab_hok ab_D0 h2 ∧ ab_fr k.2.2.2.1 h h2 ∧ r = (if 0 ≤ x1.toInt ∧ x1.toInt ≤ 9999 then 1 else 0) := by
    intro k h p hk e1 e2 e3 e4 hd hc hok
    have hat : ab_at [x1.toInt] k.2.2.1 ([Value.ref p, .int x1].map some) h := by
      refine ⟨?_, ?_, ?_, ?_⟩
      · rw [e1]
        exact ab_st_lv [.inr (.inr p), .inl (ab_var 0)] [.ref p, .int x1] ⟨rfl, ab_evx rfl rfl, trivial⟩
      · rw [e2]
        exact ab_ov0
      · rw [e3]
        exact ab_env1 (ab_i32 x1).1 (ab_i32 x1).2
      · rw [e4]
        exact ab_F0
    obtain ⟨X, hX, ro2, r, h2, k1, k2, k3, k4⟩ := hk [x1.toInt] [.ref p, .int x1] h 19 hd hok hat
    have h5 := List.all_eq_true.mp hc X hX
    obtain ⟨Xl, Xo, XN, XF, Xr⟩ := X
    obtain ⟨a1, -, -, a4⟩ := k4
    simp only at h5 a1 a4
    have ev : ab_ev ([x1.toInt] ++ ro2) (ab_var 0) = some x1.toInt := ab_ev_var rfl
    have evm : ∀ c : Int, ab_ev ([x1.toInt] ++ ro2) (c, [(0, -1)]) = some (c + (-1 * x1.toInt + 0)) := fun c => ab_ev_of (ab_evl_of rfl rfl)
    have evp : ∀ c : Int, ab_ev ([x1.toInt] ++ ro2) (c, [(0, 1)]) = some (c + (1 * x1.toInt + 0)) := fun c => ab_ev_of (ab_evl_of rfl rfl)
    split at h5
    · rename_i f
      obtain ⟨y, rfl, hy⟩ := ab_lv_1 a1
      rw [ab_ev_k] at hy
      have hy0 : y = 0 := Int32.toInt_inj.mp (Option.some.inj hy).symm
      obtain ⟨z, z1, z2⟩ := a4 f List.mem_cons_self
      refine ⟨y, h2, k1, k2, k3, ?_⟩
      rw [if_neg, hy0]
      simp only [Bool.or_eq_true, decide_eq_true_eq] at h5
      rcases h5 with rfl | rfl
      · rw [evm] at z1
        have := Option.some.inj z1
        omega
      · rw [evp] at z1
        have := Option.some.inj z1
        omega
    · rename_i f g
      obtain ⟨y, rfl, hy⟩ := ab_lv_1 a1
      rw [ab_ev_k] at hy
      have hy0 : y = 1 := Int32.toInt_inj.mp (Option.some.inj hy).symm
      simp only [Bool.and_eq_true, decide_eq_true_eq] at h5
      obtain ⟨rfl, rfl⟩ := h5
      obtain ⟨z, z1, z2⟩ := a4 _ List.mem_cons_self
      obtain ⟨w, w1, w2⟩ := a4 _ (List.mem_cons_of_mem _ List.mem_cons_self)
      rw [evp] at z1
      rw [evm] at w1
      have := Option.some.inj z1
      have := Option.some.inj w1
      refine ⟨y, h2, k1, k2, k3, ?_⟩
      rw [if_pos (by omega), hy0]
    · cases h5
  obtain ⟨r1, h1, d1, k1, f1, e1⟩ := one ab_c_LV_year_0 h 0 ab_k_LV_year_0 rfl rfl rfl rfl (by decide) (by decide +kernel) hI.1
  obtain ⟨r2, h2, d2, k2, f2, e2⟩ := one ab_c_LVModel_year_64 h1 64 ab_k_LVModel_year_64 rfl rfl rfl rfl (by decide) (by decide +kernel) k1
  exact ⟨r1, r2, h1, h2, d1, k1, d2, k2, ⟨k2, (hI.2.frX f1 (by decide +kernel)).frM k1 f2 (by decide +kernel)⟩, by rw [e1, e2]⟩
def am_Wc (L : Nat) (xs : Nat → Int32) (Inv : am_H → Prop) (k : Nat) : Prop := ∀ (Φ : am_C → Prop) (h : am_H) (nc ns : Nat) (i : Int) (o5 o6 : Option Value), 0 ≤ i ∧ i + 7 ≤ (L : Int) → L ≤ 3584 → Inv h → nc ≤ (am_k am_rL).1 → ns ≤ (am_k am_rL).2 → (∀ h2, Inv h2 → am_Wp false 19 (L, xs) am_rL Φ (23, am_lvL (i + 7) o5 o6, [], h2, nc, ns)) → am_Wp false 19 (L, xs) am_rL Φ (40, am_lvL i o5 o6, [.int (Int32.ofNat k)], h, nc, ns)
theorem am_w13 {L : Nat} {xs : Nat → Int32} : am_Wc L xs am_Iv 13 := by
  intro Φ h nc ns i o5 o6 hi hL hI hnc hns K
  cases hw : am_cmp .eq (xs ((i) + (2)).toNat) 0 with
  | true => exact am_t13a hi hL hI.1 hnc hns hw (am_pr_worn hI ⟨by decide, by decide⟩) K
  | false => exact am_t13b hi hL hI.1 hnc hns hw (am_pr_worn hI ⟨by decide, by decide⟩) K
theorem am_cases {L : Nat} {xs : Nat → Int32} (k : Nat) (hk : k < 32) (h9 : k ≠ 9) : am_Wc L xs am_Iv k := match k, hk, h9 with
  | 0, _, _ => fun _ _ _ _ _ _ _ hi hL hI hnc hns K => am_t0 hi hL hI.1 hnc hns (am_pr_feed hI) K
  | 1, _, _ => fun _ _ _ _ _ _ _ hi hL hI hnc hns K => am_t1 hi hL hI.1 hnc hns (am_pr_read hI) K
  | 2, _, _ => fun _ _ _ _ _ _ _ hi hL hI hnc hns K => am_t2 hi hL hI.1 hnc hns (am_pr_poet hI) K
  | 3, _, _ => fun _ _ _ _ _ _ _ hi hL hI hnc hns K => am_t3 hi hL hI.1 hnc hns (am_pr_turn hI) K
  | 4, _, _ => fun _ _ _ _ _ _ _ hi hL hI hnc hns K => am_t4 hi hL hI.1 hnc hns (am_pr_pass hI) K
  | 5, _, _ => fun _ _ _ _ _ _ _ hi hL hI hnc hns K => am_t5 hi hL hI.1 hnc hns (am_pr_year hI) K
  | 6, _, _ => fun _ _ _ _ _ _ _ hi hL hI hnc hns K => am_t6 hi hL hI.1 hnc hns (am_pr_entry hI) K
  | 7, _, _ => fun _ _ _ _ _ _ _ hi hL hI hnc hns K => am_t7 hi hL hI.1 hnc hns (am_pr_word hI) K
  | 8, _, _ => fun _ _ _ _ _ _ _ hi hL hI hnc hns K => am_t8 hi hL hI.1 hnc hns (am_pr_like hI) K
  | 9, _, h => absurd rfl h
  | 10, _, _ => fun _ _ _ _ _ _ _ hi hL hI hnc hns K => am_t10 hi hL hI.1 hnc hns (am_pr_verse hI) K
  | 11, _, _ => fun _ _ _ _ _ _ _ hi hL hI hnc hns K => am_t11 hi hL hI.1 hnc hns (am_pr_breaks hI) K
  | 12, _, _ => fun _ _ _ _ _ _ _ hi hL hI hnc hns K => am_t12 hi hL hI.1 hnc hns (am_pr_back hI) K
  | 13, _, _ => am_w13
  | 14, _, _ => fun _ _ _ _ _ _ _ hi hL hI hnc hns K => am_t14 hi hL hI.1 hnc hns (am_pr_type hI) K
  | 15, _, _ => fun _ _ _ _ _ _ _ hi hL hI hnc hns K => am_t15 hi hL hI.1 hnc hns (am_pr_ends hI) K
  | 16, _, _ => fun _ _ _ _ _ _ _ hi hL hI hnc hns K => am_t16 hi hL hI.1 hnc hns (am_pr_full hI) K
  | 17, _, _ => fun _ _ _ _ _ _ _ hi hL hI hnc hns K => am_t17 hi hL hI.1 hnc hns (am_pr_can hI) K
  | 18, _, _ => fun _ _ _ _ _ _ _ hi hL hI hnc hns K => am_t18 hi hL hI.1 hnc hns (am_pr_store hI) K
  | 19, _, _ => fun _ _ _ _ _ _ _ hi hL hI hnc hns K => am_t19 hi hL hI.1 hnc hns (am_pr_best hI) K
  | 20, _, _ => fun _ _ _ _ _ _ _ hi hL hI hnc hns K => am_t20 hi hL hI.1 hnc hns (am_pr_bestOf hI) K
  | 21, _, _ => fun _ _ _ _ _ _ _ hi hL hI hnc hns K => am_t21 hi hL hI.1 hnc hns (am_pr_verseOf hI) K
  | 22, _, _ => fun _ _ _ _ _ _ _ hi hL hI hnc hns K => am_t22 hi hL hI.1 hnc hns (am_pr_poetOf hI) K
  | 23, _, _ => fun _ _ _ _ _ _ _ hi hL hI hnc hns K => am_t23 hi hL hI.1 hnc hns (am_pr_ruleOf hI) K
  | 24, _, _ => fun _ _ _ _ _ _ _ hi hL hI hnc hns K => am_t24 hi hL hI.1 hnc hns (am_pr_count hI) K
  | 25, _, _ => fun _ _ _ _ _ _ _ hi hL hI hnc hns K => am_t25 hi hL hI.1 hnc hns hI K
  | 26, _, _ => fun _ _ _ _ _ _ _ hi hL hI hnc hns K => am_t26 hi hL hI.1 hnc hns hI K
  | 27, _, _ => fun _ _ _ _ _ _ _ hi hL hI hnc hns K => am_t27 hi hL hI.1 hnc hns hI K
  | 28, _, _ => fun _ _ _ _ _ _ _ hi hL hI hnc hns K => am_t28 hi hL hI.1 hnc hns hI K
  | 29, _, _ => fun _ _ _ _ _ _ _ hi hL hI hnc hns K => am_t29 hi hL hI.1 hnc hns hI K
  | 30, _, _ => fun _ _ _ _ _ _ _ hi hL hI hnc hns K => am_t30 hi hL hI.1 hnc hns hI K
  | 31, _, _ => fun _ _ _ _ _ _ _ hi hL hI hnc hns K => am_t31 hi hL hI.1 hnc hns hI K
  | n + 32, h, _ => absurd h (by omega)
