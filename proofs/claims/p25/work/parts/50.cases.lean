/-! ===== all turns of the law but liking's ===== -/
theorem am_pr_feed {h : am_H} {x1 : Int64} {x2 : Int64} {x3 : Int64} (hI : am_Iw h) : ∃ r1 r2 h1 h2, am_Do false 19 119 [.ref 0, .long x1, .long x2, .long x3] h (some (.int r1), h1) ∧ ab_hok ab_D0 h1 ∧ am_Do false 19 150 [.ref 64, .long x1, .long x2, .long x3] h1 (some (.int r2), h2) ∧ ab_hok ab_D0 h2 ∧ am_Iw h2 := by
  obtain ⟨r1, r2, h1, h2, a, b, c, d, e, -⟩ := am_pv_feed (y1 := x1) (y2 := x2) (y3 := x3) hI
  exact ⟨r1, r2, h1, h2, a, b, c, d, e⟩
theorem am_pr_read {h : am_H} (hI : am_Iw h) : ∃ r1 r2 h1 h2, am_Do false 19 120 [.ref 0] h (some (.int r1), h1) ∧ ab_hok ab_D0 h1 ∧ am_Do false 19 151 [.ref 64] h1 (some (.int r2), h2) ∧ ab_hok ab_D0 h2 ∧ am_Iw h2 := by
  obtain ⟨r1, r2, h1, h2, a, b, c, d, e, -⟩ := am_pv_read hI
  exact ⟨r1, r2, h1, h2, a, b, c, d, e⟩
theorem am_pr_poet {h : am_H} {x1 : Int32} (hI : am_Iw h) : ∃ r1 r2 h1 h2, am_Do false 19 122 [.ref 0, .int x1] h (some (.int r1), h1) ∧ ab_hok ab_D0 h1 ∧ am_Do false 19 167 [.ref 64, .int x1] h1 (some (.int r2), h2) ∧ ab_hok ab_D0 h2 ∧ am_Iw h2 := by
  obtain ⟨r1, r2, h1, h2, a, b, c, d, e, -⟩ := am_pv_poet (x1 := x1) hI
  exact ⟨r1, r2, h1, h2, a, b, c, d, e⟩
theorem am_pr_turn {h : am_H} (hI : am_Iw h) : ∃ r1 r2 h1 h2, am_Do false 19 123 [.ref 0] h (some (.int r1), h1) ∧ ab_hok ab_D0 h1 ∧ am_Do false 19 169 [.ref 64] h1 (some (.int r2), h2) ∧ ab_hok ab_D0 h2 ∧ am_Iw h2 := by
  obtain ⟨r1, r2, h1, h2, a, b, c, d, e, -⟩ := am_pv_turn hI
  exact ⟨r1, r2, h1, h2, a, b, c, d, e⟩
theorem am_pr_pass {h : am_H} (hI : am_Iw h) : ∃ r1 r2 h1 h2, am_Do false 19 124 [.ref 0] h (some (.int r1), h1) ∧ ab_hok ab_D0 h1 ∧ am_Do false 19 171 [.ref 64] h1 (some (.int r2), h2) ∧ ab_hok ab_D0 h2 ∧ am_Iw h2 := by
  obtain ⟨r1, r2, h1, h2, a, b, c, d, e, -⟩ := am_pv_pass hI
  exact ⟨r1, r2, h1, h2, a, b, c, d, e⟩
theorem am_pr_year {h : am_H} {x1 : Int32} (hI : am_Iw h) : ∃ r1 r2 h1 h2, am_Do false 19 125 [.ref 0, .int x1] h (some (.int r1), h1) ∧ ab_hok ab_D0 h1 ∧ am_Do false 19 173 [.ref 64, .int x1] h1 (some (.int r2), h2) ∧ ab_hok ab_D0 h2 ∧ am_Iw h2 := by
  obtain ⟨r1, r2, h1, h2, a, b, c, d, e, -⟩ := am_pv_year (x1 := x1) hI
  exact ⟨r1, r2, h1, h2, a, b, c, d, e⟩
theorem am_pr_entry {h : am_H} {x1 : Int32} {x2 : Int32} {x3 : Int32} (hI : am_Iw h) : ∃ r1 r2 h1 h2, am_Do false 19 127 [.ref 0, .int x1, .int x2, .int x3] h (some (.int r1), h1) ∧ ab_hok ab_D0 h1 ∧ am_Do false 19 174 [.ref 64, .int x1, .int x2, .int x3] h1 (some (.int r2), h2) ∧ ab_hok ab_D0 h2 ∧ am_Iw h2 := by
  obtain ⟨r1, r2, h1, h2, a, b, c, d, e, -⟩ := am_pv_entry (x1 := x1) (x2 := x2) (x3 := x3) hI
  exact ⟨r1, r2, h1, h2, a, b, c, d, e⟩
theorem am_pr_word {h : am_H} {x1 : Int32} (hI : am_Iw h) : ∃ r1 r2 h1 h2, am_Do false 19 129 [.ref 0, .int x1] h (some (.int r1), h1) ∧ ab_hok ab_D0 h1 ∧ am_Do false 19 176 [.ref 64, .int x1] h1 (some (.int r2), h2) ∧ ab_hok ab_D0 h2 ∧ am_Iw h2 := by
  obtain ⟨r1, r2, h1, h2, a, b, c, d, e, -⟩ := am_pv_word (x1 := x1) hI
  exact ⟨r1, r2, h1, h2, a, b, c, d, e⟩
theorem am_pr_like {h : am_H} {x1 : Int32} {x2 : Int32} {x3 : Int32} (hI : am_Iw h) : ∃ r1 r2 h1 h2, am_Do false 19 130 [.ref 0, .int x1, .int x2, .int x3] h (some (.int r1), h1) ∧ ab_hok ab_D0 h1 ∧ am_Do false 19 178 [.ref 64, .int x1, .int x2, .int x3] h1 (some (.int r2), h2) ∧ ab_hok ab_D0 h2 ∧ am_Iw h2 := by
  obtain ⟨r1, r2, h1, h2, a, b, c, d, e, -⟩ := am_pv_like (x1 := x1) (x2 := x2) (x3 := x3) hI
  exact ⟨r1, r2, h1, h2, a, b, c, d, e⟩
theorem am_pr_verse {h : am_H} {x1 : Int32} {x2 : Int32} {x3 : Int32} {x4 : Int32} (hI : am_Iw h) : ∃ r1 r2 h1 h2, am_Do false 19 131 [.ref 0, .int x1, .int x2, .int x3, .int x4] h (some (.int r1), h1) ∧ ab_hok ab_D0 h1 ∧ am_Do false 19 181 [.ref 64, .int x1, .int x2, .int x3, .int x4] h1 (some (.int r2), h2) ∧ ab_hok ab_D0 h2 ∧ am_Iw h2 := by
  obtain ⟨r1, r2, h1, h2, a, b, c, d, e, -⟩ := am_pv_verse (x1 := x1) (x2 := x2) (x3 := x3) (x4 := x4) hI
  exact ⟨r1, r2, h1, h2, a, b, c, d, e⟩
theorem am_pr_breaks {h : am_H} {x1 : Int32} {x2 : Int32} {x3 : Int32} (hI : am_Iw h) : ∃ r1 r2 h1 h2, am_Do false 19 134 [.ref 0, .int x1, .int x2, .int x3] h (some (.int r1), h1) ∧ ab_hok ab_D0 h1 ∧ am_Do false 19 193 [.ref 64, .int x1, .int x2, .int x3] h1 (some (.int r2), h2) ∧ ab_hok ab_D0 h2 ∧ am_Iw h2 := by
  obtain ⟨r1, r2, h1, h2, a, b, c, d, e, -⟩ := am_pv_breaks (x1 := x1) (x2 := x2) (x3 := x3) hI
  exact ⟨r1, r2, h1, h2, a, b, c, d, e⟩
theorem am_pr_back {h : am_H} (hI : am_Iw h) : ∃ r1 r2 h1 h2, am_Do false 19 135 [.ref 0] h (some (.int r1), h1) ∧ ab_hok ab_D0 h1 ∧ am_Do false 19 194 [.ref 64] h1 (some (.int r2), h2) ∧ ab_hok ab_D0 h2 ∧ am_Iw h2 := by
  obtain ⟨r1, r2, h1, h2, a, b, c, d, e, -⟩ := am_pv_back hI
  exact ⟨r1, r2, h1, h2, a, b, c, d, e⟩
theorem am_pr_worn {h : am_H} {x1 : Int32} {x2 : Int32} (hI : am_Iw h) (hx2 : 0 ≤ x2.toInt ∧ x2.toInt ≤ 1) : ∃ r1 r2 h1 h2, am_Do false 19 136 [.ref 0, .int x1, .int x2] h (some (.int r1), h1) ∧ ab_hok ab_D0 h1 ∧ am_Do false 19 195 [.ref 64, .int x1, .int x2] h1 (some (.int r2), h2) ∧ ab_hok ab_D0 h2 ∧ am_Iw h2 := by
  obtain ⟨r1, r2, h1, h2, a, b, c, d, e, -⟩ := am_pv_worn (x1 := x1) (x2 := x2) hI hx2
  exact ⟨r1, r2, h1, h2, a, b, c, d, e⟩
theorem am_pr_type {h : am_H} {x1 : Int32} (hI : am_Iw h) : ∃ r1 r2 h1 h2, am_Do false 19 137 [.ref 0, .int x1] h (some (.int r1), h1) ∧ ab_hok ab_D0 h1 ∧ am_Do false 19 196 [.ref 64, .int x1] h1 (some (.int r2), h2) ∧ ab_hok ab_D0 h2 ∧ am_Iw h2 := by
  obtain ⟨r1, r2, h1, h2, a, b, c, d, e, -⟩ := am_pv_type (x1 := x1) hI
  exact ⟨r1, r2, h1, h2, a, b, c, d, e⟩
theorem am_pr_ends {h : am_H} (hI : am_Iw h) : ∃ r1 r2 h1 h2, am_Do false 19 138 [.ref 0] h (some (.int r1), h1) ∧ ab_hok ab_D0 h1 ∧ am_Do false 19 197 [.ref 64] h1 (some (.int r2), h2) ∧ ab_hok ab_D0 h2 ∧ am_Iw h2 := by
  obtain ⟨r1, h1, d1, i1, f1, -⟩ := am_uX_ends hI.1
  obtain ⟨r2, h2, d2, i2, f2⟩ := am_uM_ends i1
  exact ⟨r1, r2, h1, h2, d1, i1.1, d2, i2.1, i2, (hI.2.keep i1.1 f1 (by decide +kernel)).keep i2.1 f2 (by decide +kernel)⟩
theorem am_pr_full {h : am_H} {x1 : Int32} (hI : am_Iw h) : ∃ r1 r2 h1 h2, am_Do false 19 139 [.ref 0, .int x1] h (some (.int r1), h1) ∧ ab_hok ab_D0 h1 ∧ am_Do false 19 202 [.ref 64, .int x1] h1 (some (.int r2), h2) ∧ ab_hok ab_D0 h2 ∧ am_Iw h2 := by
  obtain ⟨r1, h1, d1, i1, f1, -⟩ := am_uX_full (x1 := x1) hI.1
  obtain ⟨r2, h2, d2, i2, f2, -⟩ := am_uM_full (x1 := x1) i1
  exact ⟨r1, r2, h1, h2, d1, i1.1, d2, i2.1, i2, (hI.2.keep i1.1 f1 (by decide +kernel)).keep i2.1 f2 (by decide +kernel)⟩
theorem am_pr_can {h : am_H} {x1 : Int32} (hI : am_Iw h) : ∃ r1 r2 h1 h2, am_Do false 19 140 [.ref 0, .int x1] h (some (.int r1), h1) ∧ ab_hok ab_D0 h1 ∧ am_Do false 19 204 [.ref 64, .int x1] h1 (some (.int r2), h2) ∧ ab_hok ab_D0 h2 ∧ am_Iw h2 := by
  obtain ⟨r1, h1, d1, i1, f1, -⟩ := am_uX_can (x1 := x1) hI.1
  obtain ⟨r2, h2, d2, i2, f2, -⟩ := am_uM_can (x1 := x1) i1
  exact ⟨r1, r2, h1, h2, d1, i1.1, d2, i2.1, i2, (hI.2.keep i1.1 f1 (by decide +kernel)).keep i2.1 f2 (by decide +kernel)⟩
theorem am_pr_store {h : am_H} {x1 : Int32} {x2 : Int32} {x3 : Int32} (hI : am_Iw h) : ∃ r1 r2 h1 h2, am_Do false 19 141 [.ref 0, .int x1, .int x2, .int x3] h (some (.int r1), h1) ∧ ab_hok ab_D0 h1 ∧ am_Do false 19 205 [.ref 64, .int x1, .int x2, .int x3] h1 (some (.int r2), h2) ∧ ab_hok ab_D0 h2 ∧ am_Iw h2 := by
  obtain ⟨r1, r2, h1, h2, a, b, c, d, e, -⟩ := am_pv_store (x1 := x1) (x2 := x2) (x3 := x3) hI
  exact ⟨r1, r2, h1, h2, a, b, c, d, e⟩
theorem am_pr_best {h : am_H} {x1 : Int32} (hI : am_Iw h) : ∃ r1 r2 h1 h2, am_Do false 19 142 [.ref 0, .int x1] h (some (.int r1), h1) ∧ ab_hok ab_D0 h1 ∧ am_Do false 19 206 [.ref 64, .int x1] h1 (some (.int r2), h2) ∧ ab_hok ab_D0 h2 ∧ am_Iw h2 := by
  obtain ⟨r1, r2, h1, h2, a, b, c, d, e, -⟩ := am_pv_best (x1 := x1) hI
  exact ⟨r1, r2, h1, h2, a, b, c, d, e⟩
theorem am_pr_bestOf {h : am_H} {x1 : Int32} (hI : am_Iw h) : ∃ r1 r2 h1 h2, am_Do false 19 143 [.ref 0, .int x1] h (some (.int r1), h1) ∧ ab_hok ab_D0 h1 ∧ am_Do false 19 208 [.ref 64, .int x1] h1 (some (.int r2), h2) ∧ ab_hok ab_D0 h2 ∧ am_Iw h2 := by
  obtain ⟨r1, h1, d1, i1, f1, -⟩ := am_uX_bestOf (x1 := x1) hI.1
  obtain ⟨r2, h2, d2, i2, f2, -⟩ := am_uM_bestOf (x1 := x1) i1
  exact ⟨r1, r2, h1, h2, d1, i1.1, d2, i2.1, i2, (hI.2.keep i1.1 f1 (by decide +kernel)).keep i2.1 f2 (by decide +kernel)⟩
theorem am_pr_verseOf {h : am_H} {x1 : Int32} {x2 : Int32} (hI : am_Iw h) : ∃ r1 r2 h1 h2, am_Do false 19 144 [.ref 0, .int x1, .int x2] h (some (.int r1), h1) ∧ ab_hok ab_D0 h1 ∧ am_Do false 19 209 [.ref 64, .int x1, .int x2] h1 (some (.int r2), h2) ∧ ab_hok ab_D0 h2 ∧ am_Iw h2 := by
  obtain ⟨r1, r2, h1, h2, a, b, c, d, e, -⟩ := am_pv_verseOf (x1 := x1) (x2 := x2) hI
  exact ⟨r1, r2, h1, h2, a, b, c, d, e⟩
theorem am_pr_poetOf {h : am_H} {x1 : Int32} {x2 : Int32} (hI : am_Iw h) : ∃ r1 r2 h1 h2, am_Do false 19 145 [.ref 0, .int x1, .int x2] h (some (.int r1), h1) ∧ ab_hok ab_D0 h1 ∧ am_Do false 19 210 [.ref 64, .int x1, .int x2] h1 (some (.int r2), h2) ∧ ab_hok ab_D0 h2 ∧ am_Iw h2 := by
  obtain ⟨r1, r2, h1, h2, a, b, c, d, e, -⟩ := am_pv_poetOf (x1 := x1) (x2 := x2) hI
  exact ⟨r1, r2, h1, h2, a, b, c, d, e⟩
theorem am_pr_ruleOf {h : am_H} {x1 : Int32} {x2 : Int32} (hI : am_Iw h) : ∃ r1 r2 h1 h2, am_Do false 19 146 [.ref 0, .int x1, .int x2] h (some (.int r1), h1) ∧ ab_hok ab_D0 h1 ∧ am_Do false 19 211 [.ref 64, .int x1, .int x2] h1 (some (.int r2), h2) ∧ ab_hok ab_D0 h2 ∧ am_Iw h2 ∧ r1 = r2 := am_pv_ruleOf hI
theorem am_pr_count {h : am_H} {x1 : Int32} (hI : am_Iw h) : ∃ r1 r2 h1 h2, am_Do false 19 147 [.ref 0, .int x1] h (some (.int r1), h1) ∧ ab_hok ab_D0 h1 ∧ am_Do false 19 212 [.ref 64, .int x1] h1 (some (.int r2), h2) ∧ ab_hok ab_D0 h2 ∧ am_Iw h2 := by
  obtain ⟨r1, h1, d1, i1, f1, -⟩ := am_uX_count (x1 := x1) hI.1
  obtain ⟨r2, h2, d2, i2, f2, -⟩ := am_uM_count (x1 := x1) i1
  exact ⟨r1, r2, h1, h2, d1, i1.1, d2, i2.1, i2, (hI.2.keep i1.1 f1 (by decide +kernel)).keep i2.1 f2 (by decide +kernel)⟩
def am_Wc (L : Nat) (xs : Nat → Int32) (Inv : am_H → Prop) (k : Nat) : Prop := ∀ (Φ : am_C → Prop) (h : am_H) (nc ns : Nat) (i : Int) (o5 o6 : Option Value), 0 ≤ i ∧ i + 7 ≤ (L : Int) → L ≤ 3584 → Inv h → nc ≤ (am_k am_rL).1 → ns ≤ (am_k am_rL).2 → (∀ h2, Inv h2 → am_Wp false 19 (L, xs) am_rL Φ (23, am_lvL (i + 7) o5 o6, [], h2, nc, ns)) → am_Wp false 19 (L, xs) am_rL Φ (40, am_lvL i o5 o6, [.int (Int32.ofNat k)], h, nc, ns)
theorem am_w13 {L : Nat} {xs : Nat → Int32} : am_Wc L xs am_Iw 13 := by
  intro Φ h nc ns i o5 o6 hi hL hI hnc hns K
  cases hw : am_cmp .eq (xs ((i) + (2)).toNat) 0 with
  | true => exact am_t13a hi hL hI.1.1 hnc hns hw (am_pr_worn hI ⟨by decide, by decide⟩) K
  | false => exact am_t13b hi hL hI.1.1 hnc hns hw (am_pr_worn hI ⟨by decide, by decide⟩) K
theorem am_cases {L : Nat} {xs : Nat → Int32} (k : Nat) (hk : k < 32) (h9 : k ≠ 9) : am_Wc L xs am_Iw k := match k, hk, h9 with
  | 0, _, _ => fun _ _ _ _ _ _ _ hi hL hI hnc hns K => am_t0 hi hL hI.1.1 hnc hns (am_pr_feed hI) K
  | 1, _, _ => fun _ _ _ _ _ _ _ hi hL hI hnc hns K => am_t1 hi hL hI.1.1 hnc hns (am_pr_read hI) K
  | 2, _, _ => fun _ _ _ _ _ _ _ hi hL hI hnc hns K => am_t2 hi hL hI.1.1 hnc hns (am_pr_poet hI) K
  | 3, _, _ => fun _ _ _ _ _ _ _ hi hL hI hnc hns K => am_t3 hi hL hI.1.1 hnc hns (am_pr_turn hI) K
  | 4, _, _ => fun _ _ _ _ _ _ _ hi hL hI hnc hns K => am_t4 hi hL hI.1.1 hnc hns (am_pr_pass hI) K
  | 5, _, _ => fun _ _ _ _ _ _ _ hi hL hI hnc hns K => am_t5 hi hL hI.1.1 hnc hns (am_pr_year hI) K
  | 6, _, _ => fun _ _ _ _ _ _ _ hi hL hI hnc hns K => am_t6 hi hL hI.1.1 hnc hns (am_pr_entry hI) K
  | 7, _, _ => fun _ _ _ _ _ _ _ hi hL hI hnc hns K => am_t7 hi hL hI.1.1 hnc hns (am_pr_word hI) K
  | 8, _, _ => fun _ _ _ _ _ _ _ hi hL hI hnc hns K => am_t8 hi hL hI.1.1 hnc hns (am_pr_like hI) K
  | 9, _, h => absurd rfl h
  | 10, _, _ => fun _ _ _ _ _ _ _ hi hL hI hnc hns K => am_t10 hi hL hI.1.1 hnc hns (am_pr_verse hI) K
  | 11, _, _ => fun _ _ _ _ _ _ _ hi hL hI hnc hns K => am_t11 hi hL hI.1.1 hnc hns (am_pr_breaks hI) K
  | 12, _, _ => fun _ _ _ _ _ _ _ hi hL hI hnc hns K => am_t12 hi hL hI.1.1 hnc hns (am_pr_back hI) K
  | 13, _, _ => am_w13
  | 14, _, _ => fun _ _ _ _ _ _ _ hi hL hI hnc hns K => am_t14 hi hL hI.1.1 hnc hns (am_pr_type hI) K
  | 15, _, _ => fun _ _ _ _ _ _ _ hi hL hI hnc hns K => am_t15 hi hL hI.1.1 hnc hns (am_pr_ends hI) K
  | 16, _, _ => fun _ _ _ _ _ _ _ hi hL hI hnc hns K => am_t16 hi hL hI.1.1 hnc hns (am_pr_full hI) K
  | 17, _, _ => fun _ _ _ _ _ _ _ hi hL hI hnc hns K => am_t17 hi hL hI.1.1 hnc hns (am_pr_can hI) K
  | 18, _, _ => fun _ _ _ _ _ _ _ hi hL hI hnc hns K => am_t18 hi hL hI.1.1 hnc hns (am_pr_store hI) K
  | 19, _, _ => fun _ _ _ _ _ _ _ hi hL hI hnc hns K => am_t19 hi hL hI.1.1 hnc hns (am_pr_best hI) K
  | 20, _, _ => fun _ _ _ _ _ _ _ hi hL hI hnc hns K => am_t20 hi hL hI.1.1 hnc hns (am_pr_bestOf hI) K
  | 21, _, _ => fun _ _ _ _ _ _ _ hi hL hI hnc hns K => am_t21 hi hL hI.1.1 hnc hns (am_pr_verseOf hI) K
  | 22, _, _ => fun _ _ _ _ _ _ _ hi hL hI hnc hns K => am_t22 hi hL hI.1.1 hnc hns (am_pr_poetOf hI) K
  | 23, _, _ => fun _ _ _ _ _ _ _ hi hL hI hnc hns K => am_t23 hi hL hI.1.1 hnc hns (am_pr_ruleOf hI) K
  | 24, _, _ => fun _ _ _ _ _ _ _ hi hL hI hnc hns K => am_t24 hi hL hI.1.1 hnc hns (am_pr_count hI) K
  | 25, _, _ => fun _ _ _ _ _ _ _ hi hL hI hnc hns K => am_t25 hi hL hI.1.1 hnc hns hI K
  | 26, _, _ => fun _ _ _ _ _ _ _ hi hL hI hnc hns K => am_t26 hi hL hI.1.1 hnc hns hI K
  | 27, _, _ => fun _ _ _ _ _ _ _ hi hL hI hnc hns K => am_t27 hi hL hI.1.1 hnc hns hI K
  | 28, _, _ => fun _ _ _ _ _ _ _ hi hL hI hnc hns K => am_t28 hi hL hI.1.1 hnc hns hI K
  | 29, _, _ => fun _ _ _ _ _ _ _ hi hL hI hnc hns K => am_t29 hi hL hI.1.1 hnc hns hI K
  | 30, _, _ => fun _ _ _ _ _ _ _ hi hL hI hnc hns K => am_t30 hi hL hI.1.1 hnc hns hI K
  | 31, _, _ => fun _ _ _ _ _ _ _ hi hL hI hnc hns K => am_t31 hi hL hI.1.1 hnc hns hI K
  | n + 32, h, _ => absurd h (by omega)
theorem am_lk7 : ∀ h h' (x1 x2 : Int32), am_Iw h → ab_hok ab_D0 h' → ab_fr [(100, 0)] h h' → ∃ (r : Int32) (h2 : am_H), am_Do false 19 179 [.ref 64, .int x1, .int x2] h' (some (.int r), h2) ∧ am_Iw h2 := fun h h' x1 x2 hI ok' f' => by
  obtain ⟨r, h2, d2, i2, f2, -⟩ := am_uM_liking (x1 := x1) (x2 := x2) (⟨ok', hI.1.2.frX f' rfl⟩ : am_Iv h')
  exact ⟨r, h2, d2, i2, (hI.2.keep ok' f' (by decide +kernel)).keep i2.1 f2 (by decide +kernel)⟩
theorem am_VL0f (h : am_H) : am_VL (am_h0f h) := ⟨36, 0, rfl, rfl, by decide⟩
theorem am_I0 : am_Iw am_h0 := ⟨⟨am_hok0, am_VL0f am_hM⟩, am_R0w⟩
