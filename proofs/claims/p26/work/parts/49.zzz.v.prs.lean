/-! ===== ends: the pairs that leave it (printed by wip/ab/gen_ie.py) ===== -/
theorem am_pe_feed {h : am_H} {i : Int} {x1 : Int64} {x2 : Int64} {x3 : Int64} (hI : am_Ie i h) : ∃ r1 r2 h1 h2, am_Do false 19 119 [.ref 0, .long x1, .long x2, .long x3] h (some (.int r1), h1) ∧ ab_hok ab_D0 h1 ∧ am_Do false 19 150 [.ref 64, .long x1, .long x2, .long x3] h1 (some (.int r2), h2) ∧ ab_hok ab_D0 h2 ∧ am_Ie (i + 7) h2 := by
  obtain ⟨r1, r2, h1, h2, a, b, c, d, e, -⟩ := am_pv_feed (y1 := x1) (y2 := x2) (y3 := x3) hI.1
  obtain ⟨r3, h3, d1, i1, f1, -⟩ := am_uX_feed (x1 := x1) (x2 := x2) (x3 := x3) hI.1.1
  obtain ⟨rfl, rfl⟩ := am_Do.detI a d1
  obtain ⟨r4, h4, d2, i2, f2, -⟩ := am_uM_feed (x1 := x1) (x2 := x2) (x3 := x3) i1
  obtain ⟨rfl, rfl⟩ := am_Do.detI c d2
  exact ⟨_, _, _, _, a, b, c, d, e, ((hI.2.keep hI.1.1.1 i1.1 f1 (by decide +kernel)).keep i1.1 i2.1 f2 (by decide +kernel)).next⟩
theorem am_pe_poet {h : am_H} {i : Int} {x1 : Int32} (hI : am_Ie i h) : ∃ r1 r2 h1 h2, am_Do false 19 122 [.ref 0, .int x1] h (some (.int r1), h1) ∧ ab_hok ab_D0 h1 ∧ am_Do false 19 167 [.ref 64, .int x1] h1 (some (.int r2), h2) ∧ ab_hok ab_D0 h2 ∧ am_Ie (i + 7) h2 := by
  obtain ⟨r1, r2, h1, h2, a, b, c, d, e, -⟩ := am_pv_poet (x1 := x1) hI.1
  obtain ⟨r3, h3, d1, i1, f1, -⟩ := am_uX_poet (x1 := x1) hI.1.1
  obtain ⟨rfl, rfl⟩ := am_Do.detI a d1
  obtain ⟨r4, h4, d2, i2, f2, -⟩ := am_uM_poet (x1 := x1) i1
  obtain ⟨rfl, rfl⟩ := am_Do.detI c d2
  exact ⟨_, _, _, _, a, b, c, d, e, ((hI.2.keep hI.1.1.1 i1.1 f1 (by decide +kernel)).keep i1.1 i2.1 f2 (by decide +kernel)).next⟩
theorem am_pe_turn {h : am_H} {i : Int} (hI : am_Ie i h) : ∃ r1 r2 h1 h2, am_Do false 19 123 [.ref 0] h (some (.int r1), h1) ∧ ab_hok ab_D0 h1 ∧ am_Do false 19 169 [.ref 64] h1 (some (.int r2), h2) ∧ ab_hok ab_D0 h2 ∧ am_Ie (i + 7) h2 := by
  obtain ⟨r1, r2, h1, h2, a, b, c, d, e, -⟩ := am_pv_turn hI.1
  obtain ⟨r3, h3, d1, i1, f1, -⟩ := am_uX_turn hI.1.1
  obtain ⟨rfl, rfl⟩ := am_Do.detI a d1
  obtain ⟨r4, h4, d2, i2, f2, -⟩ := am_uM_turn i1
  obtain ⟨rfl, rfl⟩ := am_Do.detI c d2
  exact ⟨_, _, _, _, a, b, c, d, e, ((hI.2.keep hI.1.1.1 i1.1 f1 (by decide +kernel)).keep i1.1 i2.1 f2 (by decide +kernel)).next⟩
theorem am_pe_pass {h : am_H} {i : Int} (hI : am_Ie i h) : ∃ r1 r2 h1 h2, am_Do false 19 124 [.ref 0] h (some (.int r1), h1) ∧ ab_hok ab_D0 h1 ∧ am_Do false 19 171 [.ref 64] h1 (some (.int r2), h2) ∧ ab_hok ab_D0 h2 ∧ am_Ie (i + 7) h2 := by
  obtain ⟨r1, r2, h1, h2, a, b, c, d, e, -⟩ := am_pv_pass hI.1
  obtain ⟨r3, h3, d1, i1, f1, -⟩ := am_uX_pass hI.1.1
  obtain ⟨rfl, rfl⟩ := am_Do.detI a d1
  obtain ⟨r4, h4, d2, i2, f2, -⟩ := am_uM_pass i1
  obtain ⟨rfl, rfl⟩ := am_Do.detI c d2
  exact ⟨_, _, _, _, a, b, c, d, e, ((hI.2.keep hI.1.1.1 i1.1 f1 (by decide +kernel)).keep i1.1 i2.1 f2 (by decide +kernel)).next⟩
theorem am_pe_year {h : am_H} {i : Int} {x1 : Int32} (hI : am_Ie i h) : ∃ r1 r2 h1 h2, am_Do false 19 125 [.ref 0, .int x1] h (some (.int r1), h1) ∧ ab_hok ab_D0 h1 ∧ am_Do false 19 173 [.ref 64, .int x1] h1 (some (.int r2), h2) ∧ ab_hok ab_D0 h2 ∧ am_Ie (i + 7) h2 := by
  obtain ⟨r1, r2, h1, h2, a, b, c, d, e, -⟩ := am_pv_year (x1 := x1) hI.1
  obtain ⟨r3, h3, d1, i1, f1, -⟩ := am_uX_year (x1 := x1) hI.1.1
  obtain ⟨rfl, rfl⟩ := am_Do.detI a d1
  obtain ⟨r4, h4, d2, i2, f2, -⟩ := am_uM_year (x1 := x1) i1
  obtain ⟨rfl, rfl⟩ := am_Do.detI c d2
  exact ⟨_, _, _, _, a, b, c, d, e, ((hI.2.keep hI.1.1.1 i1.1 f1 (by decide +kernel)).keep i1.1 i2.1 f2 (by decide +kernel)).next⟩
theorem am_pe_entry {h : am_H} {i : Int} {x1 : Int32} {x2 : Int32} {x3 : Int32} (hI : am_Ie i h) : ∃ r1 r2 h1 h2, am_Do false 19 127 [.ref 0, .int x1, .int x2, .int x3] h (some (.int r1), h1) ∧ ab_hok ab_D0 h1 ∧ am_Do false 19 174 [.ref 64, .int x1, .int x2, .int x3] h1 (some (.int r2), h2) ∧ ab_hok ab_D0 h2 ∧ am_Ie (i + 7) h2 := by
  obtain ⟨r1, r2, h1, h2, a, b, c, d, e, -⟩ := am_pv_entry (x1 := x1) (x2 := x2) (x3 := x3) hI.1
  obtain ⟨r3, h3, d1, i1, f1, -⟩ := am_uX_entry (x1 := x1) (x2 := x2) (x3 := x3) hI.1.1
  obtain ⟨rfl, rfl⟩ := am_Do.detI a d1
  obtain ⟨r4, h4, d2, i2, f2, -⟩ := am_uM_entry (x1 := x1) (x2 := x2) (x3 := x3) i1
  obtain ⟨rfl, rfl⟩ := am_Do.detI c d2
  exact ⟨_, _, _, _, a, b, c, d, e, ((hI.2.keep hI.1.1.1 i1.1 f1 (by decide +kernel)).keep i1.1 i2.1 f2 (by decide +kernel)).next⟩
theorem am_pe_word {h : am_H} {i : Int} {x1 : Int32} (hI : am_Ie i h) : ∃ r1 r2 h1 h2, am_Do false 19 129 [.ref 0, .int x1] h (some (.int r1), h1) ∧ ab_hok ab_D0 h1 ∧ am_Do false 19 176 [.ref 64, .int x1] h1 (some (.int r2), h2) ∧ ab_hok ab_D0 h2 ∧ am_Ie (i + 7) h2 := by
  obtain ⟨r1, r2, h1, h2, a, b, c, d, e, -⟩ := am_pv_word (x1 := x1) hI.1
  obtain ⟨r3, h3, d1, i1, f1, -⟩ := am_uX_word (x1 := x1) hI.1.1
  obtain ⟨rfl, rfl⟩ := am_Do.detI a d1
  obtain ⟨r4, h4, d2, i2, f2, -⟩ := am_uM_word (x1 := x1) i1
  obtain ⟨rfl, rfl⟩ := am_Do.detI c d2
  exact ⟨_, _, _, _, a, b, c, d, e, ((hI.2.keep hI.1.1.1 i1.1 f1 (by decide +kernel)).keep i1.1 i2.1 f2 (by decide +kernel)).next⟩
theorem am_pe_like {h : am_H} {i : Int} {x1 : Int32} {x2 : Int32} {x3 : Int32} (hI : am_Ie i h) : ∃ r1 r2 h1 h2, am_Do false 19 130 [.ref 0, .int x1, .int x2, .int x3] h (some (.int r1), h1) ∧ ab_hok ab_D0 h1 ∧ am_Do false 19 178 [.ref 64, .int x1, .int x2, .int x3] h1 (some (.int r2), h2) ∧ ab_hok ab_D0 h2 ∧ am_Ie (i + 7) h2 := by
  obtain ⟨r1, r2, h1, h2, a, b, c, d, e, -⟩ := am_pv_like (x1 := x1) (x2 := x2) (x3 := x3) hI.1
  obtain ⟨r3, h3, d1, i1, f1, -⟩ := am_uX_like (x1 := x1) (x2 := x2) (x3 := x3) hI.1.1
  obtain ⟨rfl, rfl⟩ := am_Do.detI a d1
  obtain ⟨r4, h4, d2, i2, f2, -⟩ := am_uM_like (x1 := x1) (x2 := x2) (x3 := x3) i1
  obtain ⟨rfl, rfl⟩ := am_Do.detI c d2
  exact ⟨_, _, _, _, a, b, c, d, e, ((hI.2.keep hI.1.1.1 i1.1 f1 (by decide +kernel)).keep i1.1 i2.1 f2 (by decide +kernel)).next⟩
theorem am_pe_verse {h : am_H} {i : Int} {x1 : Int32} {x2 : Int32} {x3 : Int32} {x4 : Int32} (hI : am_Ie i h) : ∃ r1 r2 h1 h2, am_Do false 19 131 [.ref 0, .int x1, .int x2, .int x3, .int x4] h (some (.int r1), h1) ∧ ab_hok ab_D0 h1 ∧ am_Do false 19 181 [.ref 64, .int x1, .int x2, .int x3, .int x4] h1 (some (.int r2), h2) ∧ ab_hok ab_D0 h2 ∧ am_Ie (i + 7) h2 := by
  obtain ⟨r1, r2, h1, h2, a, b, c, d, e, -⟩ := am_pv_verse (x1 := x1) (x2 := x2) (x3 := x3) (x4 := x4) hI.1
  obtain ⟨r3, h3, d1, i1, f1, -⟩ := am_uX_verse (x1 := x1) (x2 := x2) (x3 := x3) (x4 := x4) hI.1.1
  obtain ⟨rfl, rfl⟩ := am_Do.detI a d1
  obtain ⟨r4, h4, d2, i2, f2, -⟩ := am_uM_verse (x1 := x1) (x2 := x2) (x3 := x3) (x4 := x4) i1
  obtain ⟨rfl, rfl⟩ := am_Do.detI c d2
  exact ⟨_, _, _, _, a, b, c, d, e, ((hI.2.keep hI.1.1.1 i1.1 f1 (by decide +kernel)).keep i1.1 i2.1 f2 (by decide +kernel)).next⟩
theorem am_pe_breaks {h : am_H} {i : Int} {x1 : Int32} {x2 : Int32} {x3 : Int32} (hI : am_Ie i h) : ∃ r1 r2 h1 h2, am_Do false 19 134 [.ref 0, .int x1, .int x2, .int x3] h (some (.int r1), h1) ∧ ab_hok ab_D0 h1 ∧ am_Do false 19 193 [.ref 64, .int x1, .int x2, .int x3] h1 (some (.int r2), h2) ∧ ab_hok ab_D0 h2 ∧ am_Ie (i + 7) h2 := by
  obtain ⟨r1, r2, h1, h2, a, b, c, d, e, -⟩ := am_pv_breaks (x1 := x1) (x2 := x2) (x3 := x3) hI.1
  obtain ⟨r3, h3, d1, i1, f1, -⟩ := am_uX_breaks (x1 := x1) (x2 := x2) (x3 := x3) hI.1.1
  obtain ⟨rfl, rfl⟩ := am_Do.detI a d1
  obtain ⟨r4, h4, d2, i2, f2, -⟩ := am_uM_breaks (x1 := x1) (x2 := x2) (x3 := x3) i1
  obtain ⟨rfl, rfl⟩ := am_Do.detI c d2
  exact ⟨_, _, _, _, a, b, c, d, e, ((hI.2.keep hI.1.1.1 i1.1 f1 (by decide +kernel)).keep i1.1 i2.1 f2 (by decide +kernel)).next⟩
theorem am_pe_back {h : am_H} {i : Int} (hI : am_Ie i h) : ∃ r1 r2 h1 h2, am_Do false 19 135 [.ref 0] h (some (.int r1), h1) ∧ ab_hok ab_D0 h1 ∧ am_Do false 19 194 [.ref 64] h1 (some (.int r2), h2) ∧ ab_hok ab_D0 h2 ∧ am_Ie (i + 7) h2 := by
  obtain ⟨r1, r2, h1, h2, a, b, c, d, e, -⟩ := am_pv_back hI.1
  obtain ⟨r3, h3, d1, i1, f1, -⟩ := am_uX_back hI.1.1
  obtain ⟨rfl, rfl⟩ := am_Do.detI a d1
  obtain ⟨r4, h4, d2, i2, f2, -⟩ := am_uM_back i1
  obtain ⟨rfl, rfl⟩ := am_Do.detI c d2
  exact ⟨_, _, _, _, a, b, c, d, e, ((hI.2.keep hI.1.1.1 i1.1 f1 (by decide +kernel)).keep i1.1 i2.1 f2 (by decide +kernel)).next⟩
theorem am_pe_worn {h : am_H} {i : Int} {x1 : Int32} {x2 : Int32} (hI : am_Ie i h) (hx2 : 0 ≤ x2.toInt ∧ x2.toInt ≤ 1) : ∃ r1 r2 h1 h2, am_Do false 19 136 [.ref 0, .int x1, .int x2] h (some (.int r1), h1) ∧ ab_hok ab_D0 h1 ∧ am_Do false 19 195 [.ref 64, .int x1, .int x2] h1 (some (.int r2), h2) ∧ ab_hok ab_D0 h2 ∧ am_Ie (i + 7) h2 := by
  obtain ⟨r1, r2, h1, h2, a, b, c, d, e, -⟩ := am_pv_worn (x1 := x1) (x2 := x2) hI.1 hx2
  obtain ⟨r3, h3, d1, i1, f1, -⟩ := am_uX_worn (x1 := x1) (x2 := x2) hI.1.1 hx2
  obtain ⟨rfl, rfl⟩ := am_Do.detI a d1
  obtain ⟨r4, h4, d2, i2, f2, -⟩ := am_uM_worn (x1 := x1) (x2 := x2) i1 hx2
  obtain ⟨rfl, rfl⟩ := am_Do.detI c d2
  exact ⟨_, _, _, _, a, b, c, d, e, ((hI.2.keep hI.1.1.1 i1.1 f1 (by decide +kernel)).keep i1.1 i2.1 f2 (by decide +kernel)).next⟩
theorem am_pe_store {h : am_H} {i : Int} {x1 : Int32} {x2 : Int32} {x3 : Int32} (hI : am_Ie i h) : ∃ r1 r2 h1 h2, am_Do false 19 141 [.ref 0, .int x1, .int x2, .int x3] h (some (.int r1), h1) ∧ ab_hok ab_D0 h1 ∧ am_Do false 19 205 [.ref 64, .int x1, .int x2, .int x3] h1 (some (.int r2), h2) ∧ ab_hok ab_D0 h2 ∧ am_Ie (i + 7) h2 := by
  obtain ⟨r1, r2, h1, h2, a, b, c, d, e, -⟩ := am_pv_store (x1 := x1) (x2 := x2) (x3 := x3) hI.1
  obtain ⟨r3, h3, d1, i1, f1, -⟩ := am_uX_store (x1 := x1) (x2 := x2) (x3 := x3) hI.1.1
  obtain ⟨rfl, rfl⟩ := am_Do.detI a d1
  obtain ⟨r4, h4, d2, i2, f2, -⟩ := am_uM_store (x1 := x1) (x2 := x2) (x3 := x3) i1
  obtain ⟨rfl, rfl⟩ := am_Do.detI c d2
  exact ⟨_, _, _, _, a, b, c, d, e, ((hI.2.keep hI.1.1.1 i1.1 f1 (by decide +kernel)).keep i1.1 i2.1 f2 (by decide +kernel)).next⟩
theorem am_pe_best {h : am_H} {i : Int} {x1 : Int32} (hI : am_Ie i h) : ∃ r1 r2 h1 h2, am_Do false 19 142 [.ref 0, .int x1] h (some (.int r1), h1) ∧ ab_hok ab_D0 h1 ∧ am_Do false 19 206 [.ref 64, .int x1] h1 (some (.int r2), h2) ∧ ab_hok ab_D0 h2 ∧ am_Ie (i + 7) h2 := by
  obtain ⟨r1, r2, h1, h2, a, b, c, d, e, -⟩ := am_pv_best (x1 := x1) hI.1
  obtain ⟨r3, h3, d1, i1, f1, -⟩ := am_uX_best (x1 := x1) hI.1.1
  obtain ⟨rfl, rfl⟩ := am_Do.detI a d1
  obtain ⟨r4, h4, d2, i2, f2, -⟩ := am_uM_best (x1 := x1) i1
  obtain ⟨rfl, rfl⟩ := am_Do.detI c d2
  exact ⟨_, _, _, _, a, b, c, d, e, ((hI.2.keep hI.1.1.1 i1.1 f1 (by decide +kernel)).keep i1.1 i2.1 f2 (by decide +kernel)).next⟩
theorem am_pe_bestOf {h : am_H} {i : Int} {x1 : Int32} (hI : am_Ie i h) : ∃ r1 r2 h1 h2, am_Do false 19 143 [.ref 0, .int x1] h (some (.int r1), h1) ∧ ab_hok ab_D0 h1 ∧ am_Do false 19 208 [.ref 64, .int x1] h1 (some (.int r2), h2) ∧ ab_hok ab_D0 h2 ∧ am_Ie (i + 7) h2 := by
  obtain ⟨r1, h1, d1, i1, f1, -⟩ := am_uX_bestOf (x1 := x1) hI.1.1
  obtain ⟨r2, h2, d2, i2, f2, -⟩ := am_uM_bestOf (x1 := x1) i1
  exact ⟨_, _, _, _, d1, i1.1, d2, i2.1, ⟨i2, (hI.1.2.keep i1.1 f1 (by decide +kernel)).keep i2.1 f2 (by decide +kernel)⟩, ((hI.2.keep hI.1.1.1 i1.1 f1 (by decide +kernel)).keep i1.1 i2.1 f2 (by decide +kernel)).next⟩
theorem am_pe_verseOf {h : am_H} {i : Int} {x1 : Int32} {x2 : Int32} (hI : am_Ie i h) : ∃ r1 r2 h1 h2, am_Do false 19 144 [.ref 0, .int x1, .int x2] h (some (.int r1), h1) ∧ ab_hok ab_D0 h1 ∧ am_Do false 19 209 [.ref 64, .int x1, .int x2] h1 (some (.int r2), h2) ∧ ab_hok ab_D0 h2 ∧ am_Ie (i + 7) h2 := by
  obtain ⟨r1, r2, h1, h2, a, b, c, d, e, -⟩ := am_pv_verseOf (x1 := x1) (x2 := x2) hI.1
  obtain ⟨r3, h3, d1, i1, f1, -⟩ := am_uX_verseOf (x1 := x1) (x2 := x2) hI.1.1
  obtain ⟨rfl, rfl⟩ := am_Do.detI a d1
  obtain ⟨r4, h4, d2, i2, f2, -⟩ := am_uM_verseOf (x1 := x1) (x2 := x2) i1
  obtain ⟨rfl, rfl⟩ := am_Do.detI c d2
  exact ⟨_, _, _, _, a, b, c, d, e, ((hI.2.keep hI.1.1.1 i1.1 f1 (by decide +kernel)).keep i1.1 i2.1 f2 (by decide +kernel)).next⟩
theorem am_pe_poetOf {h : am_H} {i : Int} {x1 : Int32} {x2 : Int32} (hI : am_Ie i h) : ∃ r1 r2 h1 h2, am_Do false 19 145 [.ref 0, .int x1, .int x2] h (some (.int r1), h1) ∧ ab_hok ab_D0 h1 ∧ am_Do false 19 210 [.ref 64, .int x1, .int x2] h1 (some (.int r2), h2) ∧ ab_hok ab_D0 h2 ∧ am_Ie (i + 7) h2 := by
  obtain ⟨r1, r2, h1, h2, a, b, c, d, e, -⟩ := am_pv_poetOf (x1 := x1) (x2 := x2) hI.1
  obtain ⟨r3, h3, d1, i1, f1, -⟩ := am_uX_poetOf (x1 := x1) (x2 := x2) hI.1.1
  obtain ⟨rfl, rfl⟩ := am_Do.detI a d1
  obtain ⟨r4, h4, d2, i2, f2, -⟩ := am_uM_poetOf (x1 := x1) (x2 := x2) i1
  obtain ⟨rfl, rfl⟩ := am_Do.detI c d2
  exact ⟨_, _, _, _, a, b, c, d, e, ((hI.2.keep hI.1.1.1 i1.1 f1 (by decide +kernel)).keep i1.1 i2.1 f2 (by decide +kernel)).next⟩
theorem am_pe_ruleOf {h : am_H} {i : Int} {x1 : Int32} {x2 : Int32} (hI : am_Ie i h) : ∃ r1 r2 h1 h2, am_Do false 19 146 [.ref 0, .int x1, .int x2] h (some (.int r1), h1) ∧ ab_hok ab_D0 h1 ∧ am_Do false 19 211 [.ref 64, .int x1, .int x2] h1 (some (.int r2), h2) ∧ ab_hok ab_D0 h2 ∧ am_Ie (i + 7) h2 := by
  obtain ⟨r1, r2, h1, h2, a, b, c, d, e, -⟩ := am_pv_ruleOf (x1 := x1) (x2 := x2) hI.1
  obtain ⟨r3, h3, d1, i1, f1, -⟩ := am_uX_ruleOf (x1 := x1) (x2 := x2) hI.1.1
  obtain ⟨rfl, rfl⟩ := am_Do.detI a d1
  obtain ⟨r4, h4, d2, i2, f2, -⟩ := am_uM_ruleOf (x1 := x1) (x2 := x2) i1
  obtain ⟨rfl, rfl⟩ := am_Do.detI c d2
  exact ⟨_, _, _, _, a, b, c, d, e, ((hI.2.keep hI.1.1.1 i1.1 f1 (by decide +kernel)).keep i1.1 i2.1 f2 (by decide +kernel)).next⟩
