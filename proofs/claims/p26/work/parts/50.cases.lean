/-! ===== all turns of the law but liking's (printed by wip/ab/gen_ie.py) ===== -/
theorem am_pr_feed {h : am_H} {i : Int} {x1 : Int64} {x2 : Int64} {x3 : Int64} (hI : am_Ie i h) (hi : 0 ≤ i ∧ i + 7 ≤ 3584) : ∃ r1 r2 h1 h2, am_Do false 19 119 [.ref 0, .long x1, .long x2, .long x3] h (some (.int r1), h1) ∧ ab_hok ab_D0 h1 ∧ am_Do false 19 150 [.ref 64, .long x1, .long x2, .long x3] h1 (some (.int r2), h2) ∧ ab_hok ab_D0 h2 ∧ am_Ie (i + 7) h2 := am_pe_feed hI
theorem am_pr_read {h : am_H} {i : Int} (hI : am_Ie i h) (hi : 0 ≤ i ∧ i + 7 ≤ 3584) : ∃ r1 r2 h1 h2, am_Do false 19 120 [.ref 0] h (some (.int r1), h1) ∧ ab_hok ab_D0 h1 ∧ am_Do false 19 151 [.ref 64] h1 (some (.int r2), h2) ∧ ab_hok ab_D0 h2 ∧ am_Ie (i + 7) h2 := by
  obtain ⟨r1, r2, h1, h2, a, b, c, d, e, -⟩ := am_pe_read hI
  exact ⟨r1, r2, h1, h2, a, b, c, d, e⟩
theorem am_pr_poet {h : am_H} {i : Int} {x1 : Int32} (hI : am_Ie i h) (hi : 0 ≤ i ∧ i + 7 ≤ 3584) : ∃ r1 r2 h1 h2, am_Do false 19 122 [.ref 0, .int x1] h (some (.int r1), h1) ∧ ab_hok ab_D0 h1 ∧ am_Do false 19 167 [.ref 64, .int x1] h1 (some (.int r2), h2) ∧ ab_hok ab_D0 h2 ∧ am_Ie (i + 7) h2 := am_pe_poet hI
theorem am_pr_turn {h : am_H} {i : Int} (hI : am_Ie i h) (hi : 0 ≤ i ∧ i + 7 ≤ 3584) : ∃ r1 r2 h1 h2, am_Do false 19 123 [.ref 0] h (some (.int r1), h1) ∧ ab_hok ab_D0 h1 ∧ am_Do false 19 169 [.ref 64] h1 (some (.int r2), h2) ∧ ab_hok ab_D0 h2 ∧ am_Ie (i + 7) h2 := am_pe_turn hI
theorem am_pr_pass {h : am_H} {i : Int} (hI : am_Ie i h) (hi : 0 ≤ i ∧ i + 7 ≤ 3584) : ∃ r1 r2 h1 h2, am_Do false 19 124 [.ref 0] h (some (.int r1), h1) ∧ ab_hok ab_D0 h1 ∧ am_Do false 19 171 [.ref 64] h1 (some (.int r2), h2) ∧ ab_hok ab_D0 h2 ∧ am_Ie (i + 7) h2 := am_pe_pass hI
theorem am_pr_year {h : am_H} {i : Int} {x1 : Int32} (hI : am_Ie i h) (hi : 0 ≤ i ∧ i + 7 ≤ 3584) : ∃ r1 r2 h1 h2, am_Do false 19 125 [.ref 0, .int x1] h (some (.int r1), h1) ∧ ab_hok ab_D0 h1 ∧ am_Do false 19 173 [.ref 64, .int x1] h1 (some (.int r2), h2) ∧ ab_hok ab_D0 h2 ∧ am_Ie (i + 7) h2 := am_pe_year hI
theorem am_pr_entry {h : am_H} {i : Int} {x1 : Int32} {x2 : Int32} {x3 : Int32} (hI : am_Ie i h) (hi : 0 ≤ i ∧ i + 7 ≤ 3584) : ∃ r1 r2 h1 h2, am_Do false 19 127 [.ref 0, .int x1, .int x2, .int x3] h (some (.int r1), h1) ∧ ab_hok ab_D0 h1 ∧ am_Do false 19 174 [.ref 64, .int x1, .int x2, .int x3] h1 (some (.int r2), h2) ∧ ab_hok ab_D0 h2 ∧ am_Ie (i + 7) h2 := am_pe_entry hI
theorem am_pr_word {h : am_H} {i : Int} {x1 : Int32} (hI : am_Ie i h) (hi : 0 ≤ i ∧ i + 7 ≤ 3584) : ∃ r1 r2 h1 h2, am_Do false 19 129 [.ref 0, .int x1] h (some (.int r1), h1) ∧ ab_hok ab_D0 h1 ∧ am_Do false 19 176 [.ref 64, .int x1] h1 (some (.int r2), h2) ∧ ab_hok ab_D0 h2 ∧ am_Ie (i + 7) h2 := am_pe_word hI
theorem am_pr_like {h : am_H} {i : Int} {x1 : Int32} {x2 : Int32} {x3 : Int32} (hI : am_Ie i h) (hi : 0 ≤ i ∧ i + 7 ≤ 3584) : ∃ r1 r2 h1 h2, am_Do false 19 130 [.ref 0, .int x1, .int x2, .int x3] h (some (.int r1), h1) ∧ ab_hok ab_D0 h1 ∧ am_Do false 19 178 [.ref 64, .int x1, .int x2, .int x3] h1 (some (.int r2), h2) ∧ ab_hok ab_D0 h2 ∧ am_Ie (i + 7) h2 := am_pe_like hI
theorem am_pr_verse {h : am_H} {i : Int} {x1 : Int32} {x2 : Int32} {x3 : Int32} {x4 : Int32} (hI : am_Ie i h) (hi : 0 ≤ i ∧ i + 7 ≤ 3584) : ∃ r1 r2 h1 h2, am_Do false 19 131 [.ref 0, .int x1, .int x2, .int x3, .int x4] h (some (.int r1), h1) ∧ ab_hok ab_D0 h1 ∧ am_Do false 19 181 [.ref 64, .int x1, .int x2, .int x3, .int x4] h1 (some (.int r2), h2) ∧ ab_hok ab_D0 h2 ∧ am_Ie (i + 7) h2 := am_pe_verse hI
theorem am_pr_breaks {h : am_H} {i : Int} {x1 : Int32} {x2 : Int32} {x3 : Int32} (hI : am_Ie i h) (hi : 0 ≤ i ∧ i + 7 ≤ 3584) : ∃ r1 r2 h1 h2, am_Do false 19 134 [.ref 0, .int x1, .int x2, .int x3] h (some (.int r1), h1) ∧ ab_hok ab_D0 h1 ∧ am_Do false 19 193 [.ref 64, .int x1, .int x2, .int x3] h1 (some (.int r2), h2) ∧ ab_hok ab_D0 h2 ∧ am_Ie (i + 7) h2 := am_pe_breaks hI
theorem am_pr_back {h : am_H} {i : Int} (hI : am_Ie i h) (hi : 0 ≤ i ∧ i + 7 ≤ 3584) : ∃ r1 r2 h1 h2, am_Do false 19 135 [.ref 0] h (some (.int r1), h1) ∧ ab_hok ab_D0 h1 ∧ am_Do false 19 194 [.ref 64] h1 (some (.int r2), h2) ∧ ab_hok ab_D0 h2 ∧ am_Ie (i + 7) h2 := am_pe_back hI
theorem am_pr_worn {h : am_H} {i : Int} {x1 : Int32} {x2 : Int32} (hI : am_Ie i h) (hi : 0 ≤ i ∧ i + 7 ≤ 3584) (hx2 : 0 ≤ x2.toInt ∧ x2.toInt ≤ 1) : ∃ r1 r2 h1 h2, am_Do false 19 136 [.ref 0, .int x1, .int x2] h (some (.int r1), h1) ∧ ab_hok ab_D0 h1 ∧ am_Do false 19 195 [.ref 64, .int x1, .int x2] h1 (some (.int r2), h2) ∧ ab_hok ab_D0 h2 ∧ am_Ie (i + 7) h2 := am_pe_worn hI hx2
theorem am_pr_type {h : am_H} {i : Int} {x1 : Int32} (hI : am_Ie i h) (hi : 0 ≤ i ∧ i + 7 ≤ 3584) : ∃ r1 r2 h1 h2, am_Do false 19 137 [.ref 0, .int x1] h (some (.int r1), h1) ∧ ab_hok ab_D0 h1 ∧ am_Do false 19 196 [.ref 64, .int x1] h1 (some (.int r2), h2) ∧ ab_hok ab_D0 h2 ∧ am_Ie (i + 7) h2 := by
  obtain ⟨r1, r2, h1, h2, a, b, c, d, e, -⟩ := am_pe_type (x1 := x1) hI
  exact ⟨r1, r2, h1, h2, a, b, c, d, e⟩
theorem am_pr_ends {h : am_H} {i : Int} (hI : am_Ie i h) (hi : 0 ≤ i ∧ i + 7 ≤ 3584) : ∃ r1 r2 h1 h2, am_Do false 19 138 [.ref 0] h (some (.int r1), h1) ∧ ab_hok ab_D0 h1 ∧ am_Do false 19 197 [.ref 64] h1 (some (.int r2), h2) ∧ ab_hok ab_D0 h2 ∧ am_Ie (i + 7) h2 := by
  obtain ⟨r1, r2, h1, h2, a, b, c, d, e, -⟩ := am_pe_ends hI hi
  exact ⟨r1, r2, h1, h2, a, b, c, d, e⟩
theorem am_pr_full {h : am_H} {i : Int} {x1 : Int32} (hI : am_Ie i h) (hi : 0 ≤ i ∧ i + 7 ≤ 3584) : ∃ r1 r2 h1 h2, am_Do false 19 139 [.ref 0, .int x1] h (some (.int r1), h1) ∧ ab_hok ab_D0 h1 ∧ am_Do false 19 202 [.ref 64, .int x1] h1 (some (.int r2), h2) ∧ ab_hok ab_D0 h2 ∧ am_Ie (i + 7) h2 := by
  obtain ⟨r1, r2, h1, h2, a, b, c, d, e, -⟩ := am_pe_full (x1 := x1) hI
  exact ⟨r1, r2, h1, h2, a, b, c, d, e⟩
theorem am_pr_can {h : am_H} {i : Int} {x1 : Int32} (hI : am_Ie i h) (hi : 0 ≤ i ∧ i + 7 ≤ 3584) : ∃ r1 r2 h1 h2, am_Do false 19 140 [.ref 0, .int x1] h (some (.int r1), h1) ∧ ab_hok ab_D0 h1 ∧ am_Do false 19 204 [.ref 64, .int x1] h1 (some (.int r2), h2) ∧ ab_hok ab_D0 h2 ∧ am_Ie (i + 7) h2 := by
  obtain ⟨r1, r2, h1, h2, a, b, c, d, e, -⟩ := am_pe_can (x1 := x1) hI
  exact ⟨r1, r2, h1, h2, a, b, c, d, e⟩
theorem am_pr_store {h : am_H} {i : Int} {x1 : Int32} {x2 : Int32} {x3 : Int32} (hI : am_Ie i h) (hi : 0 ≤ i ∧ i + 7 ≤ 3584) : ∃ r1 r2 h1 h2, am_Do false 19 141 [.ref 0, .int x1, .int x2, .int x3] h (some (.int r1), h1) ∧ ab_hok ab_D0 h1 ∧ am_Do false 19 205 [.ref 64, .int x1, .int x2, .int x3] h1 (some (.int r2), h2) ∧ ab_hok ab_D0 h2 ∧ am_Ie (i + 7) h2 := am_pe_store hI
theorem am_pr_best {h : am_H} {i : Int} {x1 : Int32} (hI : am_Ie i h) (hi : 0 ≤ i ∧ i + 7 ≤ 3584) : ∃ r1 r2 h1 h2, am_Do false 19 142 [.ref 0, .int x1] h (some (.int r1), h1) ∧ ab_hok ab_D0 h1 ∧ am_Do false 19 206 [.ref 64, .int x1] h1 (some (.int r2), h2) ∧ ab_hok ab_D0 h2 ∧ am_Ie (i + 7) h2 := am_pe_best hI
theorem am_pr_bestOf {h : am_H} {i : Int} {x1 : Int32} (hI : am_Ie i h) (hi : 0 ≤ i ∧ i + 7 ≤ 3584) : ∃ r1 r2 h1 h2, am_Do false 19 143 [.ref 0, .int x1] h (some (.int r1), h1) ∧ ab_hok ab_D0 h1 ∧ am_Do false 19 208 [.ref 64, .int x1] h1 (some (.int r2), h2) ∧ ab_hok ab_D0 h2 ∧ am_Ie (i + 7) h2 := am_pe_bestOf hI
theorem am_pr_verseOf {h : am_H} {i : Int} {x1 : Int32} {x2 : Int32} (hI : am_Ie i h) (hi : 0 ≤ i ∧ i + 7 ≤ 3584) : ∃ r1 r2 h1 h2, am_Do false 19 144 [.ref 0, .int x1, .int x2] h (some (.int r1), h1) ∧ ab_hok ab_D0 h1 ∧ am_Do false 19 209 [.ref 64, .int x1, .int x2] h1 (some (.int r2), h2) ∧ ab_hok ab_D0 h2 ∧ am_Ie (i + 7) h2 := am_pe_verseOf hI
theorem am_pr_poetOf {h : am_H} {i : Int} {x1 : Int32} {x2 : Int32} (hI : am_Ie i h) (hi : 0 ≤ i ∧ i + 7 ≤ 3584) : ∃ r1 r2 h1 h2, am_Do false 19 145 [.ref 0, .int x1, .int x2] h (some (.int r1), h1) ∧ ab_hok ab_D0 h1 ∧ am_Do false 19 210 [.ref 64, .int x1, .int x2] h1 (some (.int r2), h2) ∧ ab_hok ab_D0 h2 ∧ am_Ie (i + 7) h2 := am_pe_poetOf hI
theorem am_pr_ruleOf {h : am_H} {i : Int} {x1 : Int32} {x2 : Int32} (hI : am_Ie i h) (hi : 0 ≤ i ∧ i + 7 ≤ 3584) : ∃ r1 r2 h1 h2, am_Do false 19 146 [.ref 0, .int x1, .int x2] h (some (.int r1), h1) ∧ ab_hok ab_D0 h1 ∧ am_Do false 19 211 [.ref 64, .int x1, .int x2] h1 (some (.int r2), h2) ∧ ab_hok ab_D0 h2 ∧ am_Ie (i + 7) h2 := am_pe_ruleOf hI
theorem am_pr_count {h : am_H} {i : Int} {x1 : Int32} (hI : am_Ie i h) (hi : 0 ≤ i ∧ i + 7 ≤ 3584) : ∃ r1 r2 h1 h2, am_Do false 19 147 [.ref 0, .int x1] h (some (.int r1), h1) ∧ ab_hok ab_D0 h1 ∧ am_Do false 19 212 [.ref 64, .int x1] h1 (some (.int r2), h2) ∧ ab_hok ab_D0 h2 ∧ am_Ie (i + 7) h2 ∧ r1 = r2 := am_pe_count hI
def am_Wc (L : Nat) (xs : Nat → Int32) (Inv : Int → am_H → Prop) (k : Nat) : Prop := ∀ (Φ : am_C → Prop) (h : am_H) (nc ns : Nat) (i : Int) (o5 o6 : Option Value), 0 ≤ i ∧ i + 7 ≤ (L : Int) → L ≤ 3584 → Inv i h → nc ≤ (am_k am_rL).1 → ns ≤ (am_k am_rL).2 → (∀ h2, Inv (i + 7) h2 → am_Wp false 19 (L, xs) am_rL Φ (23, am_lvL (i + 7) o5 o6, [], h2, nc, ns)) → am_Wp false 19 (L, xs) am_rL Φ (40, am_lvL i o5 o6, [.int (Int32.ofNat k)], h, nc, ns)
theorem am_w13 {L : Nat} {xs : Nat → Int32} : am_Wc L xs am_Ie 13 := by
  intro Φ h nc ns i o5 o6 hi hL hI hnc hns K
  cases hw : am_cmp .eq (xs ((i) + (2)).toNat) 0 with
  | true => exact am_t13a (Inv := am_Ie (i + 7)) hi hL hI.1.1.1 hnc hns hw (am_pr_worn (x1 := xs ((i) + (1)).toNat) (x2 := Int32.ofInt (0)) hI ⟨by omega, by omega⟩ ⟨by decide, by decide⟩) K
  | false => exact am_t13b (Inv := am_Ie (i + 7)) hi hL hI.1.1.1 hnc hns hw (am_pr_worn (x1 := xs ((i) + (1)).toNat) (x2 := Int32.ofInt (1)) hI ⟨by omega, by omega⟩ ⟨by decide, by decide⟩) K
theorem am_cases {L : Nat} {xs : Nat → Int32} (k : Nat) (hk : k < 32) (h9 : k ≠ 9) : am_Wc L xs am_Ie k := match k, hk, h9 with
  | 0, _, _ => fun _ _ _ _ i _ _ hi hL hI hnc hns K => am_t0 (Inv := am_Ie (i + 7)) hi hL hI.1.1.1 hnc hns (am_pr_feed hI ⟨by omega, by omega⟩) K
  | 1, _, _ => fun _ _ _ _ i _ _ hi hL hI hnc hns K => am_t1 (Inv := am_Ie (i + 7)) hi hL hI.1.1.1 hnc hns (am_pr_read hI ⟨by omega, by omega⟩) K
  | 2, _, _ => fun _ _ _ _ i _ _ hi hL hI hnc hns K => am_t2 (Inv := am_Ie (i + 7)) hi hL hI.1.1.1 hnc hns (am_pr_poet hI ⟨by omega, by omega⟩) K
  | 3, _, _ => fun _ _ _ _ i _ _ hi hL hI hnc hns K => am_t3 (Inv := am_Ie (i + 7)) hi hL hI.1.1.1 hnc hns (am_pr_turn hI ⟨by omega, by omega⟩) K
  | 4, _, _ => fun _ _ _ _ i _ _ hi hL hI hnc hns K => am_t4 (Inv := am_Ie (i + 7)) hi hL hI.1.1.1 hnc hns (am_pr_pass hI ⟨by omega, by omega⟩) K
  | 5, _, _ => fun _ _ _ _ i _ _ hi hL hI hnc hns K => am_t5 (Inv := am_Ie (i + 7)) hi hL hI.1.1.1 hnc hns (am_pr_year hI ⟨by omega, by omega⟩) K
  | 6, _, _ => fun _ _ _ _ i _ _ hi hL hI hnc hns K => am_t6 (Inv := am_Ie (i + 7)) hi hL hI.1.1.1 hnc hns (am_pr_entry hI ⟨by omega, by omega⟩) K
  | 7, _, _ => fun _ _ _ _ i _ _ hi hL hI hnc hns K => am_t7 (Inv := am_Ie (i + 7)) hi hL hI.1.1.1 hnc hns (am_pr_word hI ⟨by omega, by omega⟩) K
  | 8, _, _ => fun _ _ _ _ i _ _ hi hL hI hnc hns K => am_t8 (Inv := am_Ie (i + 7)) hi hL hI.1.1.1 hnc hns (am_pr_like hI ⟨by omega, by omega⟩) K
  | 9, _, h => absurd rfl h
  | 10, _, _ => fun _ _ _ _ i _ _ hi hL hI hnc hns K => am_t10 (Inv := am_Ie (i + 7)) hi hL hI.1.1.1 hnc hns (am_pr_verse hI ⟨by omega, by omega⟩) K
  | 11, _, _ => fun _ _ _ _ i _ _ hi hL hI hnc hns K => am_t11 (Inv := am_Ie (i + 7)) hi hL hI.1.1.1 hnc hns (am_pr_breaks hI ⟨by omega, by omega⟩) K
  | 12, _, _ => fun _ _ _ _ i _ _ hi hL hI hnc hns K => am_t12 (Inv := am_Ie (i + 7)) hi hL hI.1.1.1 hnc hns (am_pr_back hI ⟨by omega, by omega⟩) K
  | 13, _, _ => am_w13
  | 14, _, _ => fun _ _ _ _ i _ _ hi hL hI hnc hns K => am_t14 (Inv := am_Ie (i + 7)) hi hL hI.1.1.1 hnc hns (am_pr_type hI ⟨by omega, by omega⟩) K
  | 15, _, _ => fun _ _ _ _ i _ _ hi hL hI hnc hns K => am_t15 (Inv := am_Ie (i + 7)) hi hL hI.1.1.1 hnc hns (am_pr_ends hI ⟨by omega, by omega⟩) K
  | 16, _, _ => fun _ _ _ _ i _ _ hi hL hI hnc hns K => am_t16 (Inv := am_Ie (i + 7)) hi hL hI.1.1.1 hnc hns (am_pr_full hI ⟨by omega, by omega⟩) K
  | 17, _, _ => fun _ _ _ _ i _ _ hi hL hI hnc hns K => am_t17 (Inv := am_Ie (i + 7)) hi hL hI.1.1.1 hnc hns (am_pr_can hI ⟨by omega, by omega⟩) K
  | 18, _, _ => fun _ _ _ _ i _ _ hi hL hI hnc hns K => am_t18 (Inv := am_Ie (i + 7)) hi hL hI.1.1.1 hnc hns (am_pr_store hI ⟨by omega, by omega⟩) K
  | 19, _, _ => fun _ _ _ _ i _ _ hi hL hI hnc hns K => am_t19 (Inv := am_Ie (i + 7)) hi hL hI.1.1.1 hnc hns (am_pr_best hI ⟨by omega, by omega⟩) K
  | 20, _, _ => fun _ _ _ _ i _ _ hi hL hI hnc hns K => am_t20 (Inv := am_Ie (i + 7)) hi hL hI.1.1.1 hnc hns (am_pr_bestOf hI ⟨by omega, by omega⟩) K
  | 21, _, _ => fun _ _ _ _ i _ _ hi hL hI hnc hns K => am_t21 (Inv := am_Ie (i + 7)) hi hL hI.1.1.1 hnc hns (am_pr_verseOf hI ⟨by omega, by omega⟩) K
  | 22, _, _ => fun _ _ _ _ i _ _ hi hL hI hnc hns K => am_t22 (Inv := am_Ie (i + 7)) hi hL hI.1.1.1 hnc hns (am_pr_poetOf hI ⟨by omega, by omega⟩) K
  | 23, _, _ => fun _ _ _ _ i _ _ hi hL hI hnc hns K => am_t23 (Inv := am_Ie (i + 7)) hi hL hI.1.1.1 hnc hns (am_pr_ruleOf hI ⟨by omega, by omega⟩) K
  | 24, _, _ => fun _ _ _ _ i _ _ hi hL hI hnc hns K => am_t24 (Inv := am_Ie (i + 7)) hi hL hI.1.1.1 hnc hns (am_pr_count hI ⟨by omega, by omega⟩) K
  | 25, _, _ => fun _ _ _ _ i _ _ hi hL hI hnc hns K => am_t25 (Inv := am_Ie (i + 7)) hi hL hI.1.1.1 hnc hns hI.next K
  | 26, _, _ => fun _ _ _ _ i _ _ hi hL hI hnc hns K => am_t26 (Inv := am_Ie (i + 7)) hi hL hI.1.1.1 hnc hns hI.next K
  | 27, _, _ => fun _ _ _ _ i _ _ hi hL hI hnc hns K => am_t27 (Inv := am_Ie (i + 7)) hi hL hI.1.1.1 hnc hns hI.next K
  | 28, _, _ => fun _ _ _ _ i _ _ hi hL hI hnc hns K => am_t28 (Inv := am_Ie (i + 7)) hi hL hI.1.1.1 hnc hns hI.next K
  | 29, _, _ => fun _ _ _ _ i _ _ hi hL hI hnc hns K => am_t29 (Inv := am_Ie (i + 7)) hi hL hI.1.1.1 hnc hns hI.next K
  | 30, _, _ => fun _ _ _ _ i _ _ hi hL hI hnc hns K => am_t30 (Inv := am_Ie (i + 7)) hi hL hI.1.1.1 hnc hns hI.next K
  | 31, _, _ => fun _ _ _ _ i _ _ hi hL hI hnc hns K => am_t31 (Inv := am_Ie (i + 7)) hi hL hI.1.1.1 hnc hns hI.next K
  | n + 32, h, _ => absurd h (by omega)
theorem am_lk7 : ∀ (i : Int) h h' (x1 x2 : Int32), am_Ie i h → ab_hok ab_D0 h' → ab_fr [(100, 0)] h h' → ∃ (r : Int32) (h2 : am_H), am_Do false 19 179 [.ref 64, .int x1, .int x2] h' (some (.int r), h2) ∧ am_Ie (i + 7) h2 := fun i h h' x1 x2 hI ok' f' => by
  obtain ⟨r, h2, d2, i2, f2, -⟩ := am_uM_liking (x1 := x1) (x2 := x2) (⟨ok', hI.1.1.2.frX f' rfl⟩ : am_Iv h')
  exact ⟨r, h2, d2, ⟨i2, (hI.1.2.keep ok' f' (by decide +kernel)).keep i2.1 f2 (by decide +kernel)⟩, ((hI.2.keep hI.1.1.1 ok' f' (by decide +kernel)).keep ok' i2.1 f2 (by decide +kernel)).next⟩
theorem am_VL0f (h : am_H) : am_VL (am_h0f h) := ⟨36, 0, rfl, rfl, by decide⟩
def am_zcv (f : Nat → Int32) (n : Nat) (v : Int32) : Bool := (List.range n).all (fun i => decide (f i = v))
theorem am_zcv_at {f : Nat → Int32} {n : Nat} {v : Int32} (h : am_zcv f n v = true) : ∀ i, i < n → f i = v := fun i hi => of_decide_eq_true (List.all_eq_true.mp h i (List.mem_range.mpr hi))
theorem am_zM37 : am_zcv (am_ctI am_hM 37) 49 (Int32.ofInt (-1)) = true := by decide +kernel
theorem am_zM38 : am_zcv (am_ctI am_hM 38) 49 (Int32.ofInt (-1)) = true := by decide +kernel
theorem am_zM42 : am_zcv (am_ctI am_hM 42) 1024 (Int32.ofInt 0) = true := by decide +kernel
theorem am_zM46 : am_zcv (am_ctI am_hM 46) 1024 (Int32.ofInt 0) = true := by decide +kernel
theorem am_R0g {h : am_H} (h37 : am_zcv (am_ctI h 37) 49 (Int32.ofInt (-1)) = true) (h38 : am_zcv (am_ctI h 38) 49 (Int32.ofInt (-1)) = true) (h42 : am_zcv (am_ctI h 42) 1024 (Int32.ofInt 0) = true) (h46 : am_zcv (am_ctI h 46) 1024 (Int32.ofInt 0) = true) : ce_ (sg_of (am_h0f h)) ∧ xst_ (7 * 0) (sg_of (am_h0f h)) := by
  have e0 : (Int32.ofInt 0).toInt = 0 := rfl
  have em : (Int32.ofInt (-1)).toInt = -1 := rfl
  refine ⟨⟨rfl, fun P h1 h2 => ?_, fun j hj => ?_⟩, Or.inl ⟨rfl, rfl⟩, 0, 0, ⟨rfl, ⟨by omega, by omega⟩, fun i hi => ?_⟩, ⟨rfl, ⟨by omega, by omega⟩, fun i hi => ?_⟩, by omega, by omega⟩
  · unfold fM_
    rw [if_neg (fun z => z.1 rfl), if_neg (fun z => z.1 rfl)]
    have a : (sg_of (am_h0f h)).2.2.1 37 P = Int32.ofInt (-1) := am_zcv_at h37 P (by omega)
    have b : (sg_of (am_h0f h)).2.2.1 38 P = Int32.ofInt (-1) := am_zcv_at h38 P (by omega)
    rw [a, b]
    exact ⟨rfl, rfl⟩
  · have hj : (j : Int) < (Int32.ofInt 0).toInt := hj
    omega
  · have a : (sg_of (am_h0f h)).2.2.1 42 i = Int32.ofInt 0 := am_zcv_at h42 i hi
    rw [a, e0]
    omega
  · have a : (sg_of (am_h0f h)).2.2.1 46 i = Int32.ofInt 0 := am_zcv_at h46 i hi
    rw [a, e0]
    omega
theorem am_I0 : am_Ie 0 am_h0 := ⟨⟨⟨am_hok0, am_VL0f am_hM⟩, am_R0w⟩, sg_of am_h0, sg_of_ok am_hok0, am_R0g am_zM37 am_zM38 am_zM42 am_zM46⟩
