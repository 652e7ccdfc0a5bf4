/-! ===== the law's loop ===== -/
theorem am_Lg : ∀ w ∈ [Cond.methodLink "LinkedVerseLaw" 62 am_yK, .static am_yK, .initialized "LinkedVerseLaw"], w ∈ lw_tbl ∧ goodWord w = true := by decide +kernel
theorem am_LT : GoodIn lw_tbl (va_wsS "LinkedVerseLaw" 62 am_yK am_wK) := by
  intro w hw
  unfold va_wsS at hw
  rcases List.mem_append.mp hw with hw | hw
  · exact am_good_in w (List.mem_filter.mpr (am_Lg w hw))
  · rcases List.mem_cons.mp hw with rfl | hw
    · exact am_good_in _ (List.mem_filter.mpr ⟨am_xl, am_Kgood⟩)
    · exact am_good_in w hw
theorem am_Ld : decode code 529 = .ok (.invokestatic 62, 3) := am_dl (am_lawok2 529 (.invokestatic 62) rfl) rfl
theorem am_Ly : am_yok am_yK 4 = true := by decide +kernel
theorem am_onL (L : Nat) : Int32.ofNat L = Int32.ofInt (L : Int) := by
  apply Int32.toBitVec_inj.mp
  show BitVec.ofNat 32 L = BitVec.ofInt 32 (L : Int)
  rw [BitVec.ofInt_natCast]
set_option maxRecDepth 100000 in
theorem am_lkA {L : Nat} {xs : Nat → Int32} {Φ : am_C → Prop} {h : am_H} {nc ns : Nat} {i : Int} {o5 o6 : Option Value} (hi : 0 ≤ i ∧ i + 7 ≤ (L : Int)) (hL : L ≤ 3584) (kk : am_Wp false 19 (L, xs) am_rL Φ (529, am_lvL i o5 o6, [.ref 100, .int (xs ((i) + (2)).toNat), .int (xs ((i) + (1)).toNat), .ref 0], h, nc, ns)) : am_Wp false 19 (L, xs) am_rL Φ (40, am_lvL i o5 o6, [.int (Int32.ofNat 9)], h, nc, ns) := by
  refine am_Wp.bl 6 (y := (521, am_lvL i o5 o6, [.int (Int32.ofInt (i) + Int32.ofInt (1)), .ref 1000000, .ref 0], h, nc, ns)) (fun _ => rfl) ?_
  simp only [am_oa]
  refine am_Wp.sc (by omega) (by omega) hL rfl rfl ?_
  refine am_Wp.bl 4 (y := (527, am_lvL i o5 o6, [.int (Int32.ofInt (i) + Int32.ofInt (2)), .ref 1000000, .int (xs ((i) + (1)).toNat), .ref 0], h, nc, ns)) (fun _ => rfl) ?_
  simp only [am_oa]
  refine am_Wp.sc (by omega) (by omega) hL rfl rfl ?_
  exact am_Wp.bl 1 (fun _ => rfl) kk
set_option maxRecDepth 100000 in
theorem am_lkB {L : Nat} {xs : Nat → Int32} {Φ : am_C → Prop} {h h2 : am_H} {nc ns : Nat} {i : Int} {k r2 : Int32} {o5 o6 : Option Value} (hi : 0 ≤ i ∧ i + 7 ≤ (L : Int)) (hL : L ≤ 3584) (hok : ab_hok ab_D0 h) (ok2 : ab_hok ab_D0 h2) (hnc : nc ≤ (am_k am_rL).1) (hns : ns ≤ (am_k am_rL).2) (d2 : am_Do false 19 179 [.ref 64, .int (xs ((i) + (1)).toNat), .int (xs ((i) + (2)).toNat)] h (some (.int r2), h2)) (kk : am_Wp false 19 (L, xs) am_rL Φ (23, am_lvL (i + 7) (some (.int k)) (some (.int r2)), [], h2, nc, ns)) : am_Wp false 19 (L, xs) am_rL Φ (532, am_lvL i o5 o6, [.int k], h, nc, ns) := by
  refine am_Wp.bl 6 (y := (540, am_lvL i (some (.int k)) o6, [.int (Int32.ofInt (i) + Int32.ofInt (1)), .ref 1000000, .ref 64], h, nc, ns)) (fun _ => rfl) ?_
  simp only [am_oa]
  refine am_Wp.sc (by omega) (by omega) hL rfl rfl ?_
  refine am_Wp.bl 4 (y := (546, am_lvL i (some (.int k)) o6, [.int (Int32.ofInt (i) + Int32.ofInt (2)), .ref 1000000, .int (xs ((i) + (1)).toNat), .ref 64], h, nc, ns)) (fun _ => rfl) ?_
  simp only [am_oa]
  refine am_Wp.sc (by omega) (by omega) hL rfl rfl ?_
  refine am_Wp.callN d2 hok ok2 hnc hns rfl rfl rfl rfl am_d64 rfl rfl rfl rfl ?_
  refine am_Wp.bl 4 (y := (23, [some (.ref 1000000), some (.ref 0), some (.ref 64), some (.ref 100), some (.int (Int32.ofInt i + Int32.ofInt 7)), some (.int k), some (.int r2)], [], h2, nc, ns)) (fun _ => rfl) ?_
  simp only [am_oa]
  exact kk
/-- what a turn comes to -/
def am_T3 (L : Nat) (xs : Nat → Int32) (Inv : am_H → Prop) (h : am_H) (nc ns : Nat) (i : Int) (o5 o6 : Option Value) (y : am_C) : Prop := (y.1 = 1061 ∧ y.2.2.1 = [.int 1]) ∨ ((i + 7 ≤ (L : Int)) ∧ ∃ h2, Inv h2 ∧ y = (23, am_lvL (i + 7) o5 o6, [], h2, nc, ns)) ∨ ((i + 7 ≤ (L : Int)) ∧ y = (529, am_lvL i o5 o6, [.ref 100, .int (xs ((i) + (2)).toNat), .int (xs ((i) + (1)).toNat), .ref 0], h, nc, ns))
set_option maxRecDepth 100000 in
theorem am_turn {L : Nat} {xs : Nat → Int32} {Inv : am_H → Prop} {h : am_H} {nc ns : Nat} {i : Int} {o5 o6 : Option Value} (hC : ∀ k, k < 32 → k ≠ 9 → am_Wc L xs Inv k) (hI : Inv h) (hi : 0 ≤ i ∧ i ≤ 3584) (hL : L ≤ 3584) (hnc : nc ≤ (am_k am_rL).1) (hns : ns ≤ (am_k am_rL).2) : am_Wp false 19 (L, xs) am_rL (am_T3 L xs Inv h nc ns i o5 o6) (23, am_lvL i o5 o6, [], h, nc, ns) := by
  refine am_Wp.bl 5 (y := (30, am_lvL i o5 o6, [.int (Int32.ofNat L - Int32.ofInt (7)), .int (Int32.ofInt (i))], h, nc, ns)) (fun _ => rfl) ?_
  rw [am_onL]
  simp only [am_os]
  refine am_Wp.ic ⟨by omega, by omega⟩ ⟨by omega, by omega⟩ rfl rfl (fun hc => ?_) (fun hc => ?_)
  · exact am_Wp.bl 1 (y := (1061, am_lvL i o5 o6, [.int 1], h, nc, ns)) (fun _ => rfl) (am_Wp.en (Or.inl ⟨rfl, rfl⟩))
  · have hc : ¬ ((L : Int) - 7 < i) := hc
    refine am_Wp.bl 2 (y := (36, am_lvL i o5 o6, [.int (Int32.ofInt (i)), .ref 1000000], h, nc, ns)) (fun _ => rfl) ?_
    refine am_Wp.sc (by omega) (by omega) hL rfl rfl ?_
    refine am_Wp.bl 2 (y := (40, am_lvL i o5 o6, [.int (xs (i).toNat &&& 31)], h, nc, ns)) (fun _ => rfl) ?_
    obtain ⟨k, hk, hx⟩ := am_sw (xs (i).toNat)
    rw [hx]
    by_cases h9 : k = 9
    · subst h9
      exact am_lkA (by omega) hL (am_Wp.en (Or.inr (Or.inr ⟨by omega, rfl⟩)))
    · exact hC k hk h9 _ h nc ns i o5 o6 (by omega) hL hI hnc hns (fun h2 hI2 => am_Wp.en (Or.inr (Or.inl ⟨by omega, h2, hI2, rfl⟩)))
section AMLW
variable {p : Program} {e : Env} {s : State} {m : MethodId} {below : List Frame} {meth : Method} {c : Code} {b L : Nat} {xs : Nat → Int32}
theorem am_Wp_W (l : Launch) (C0 : lw_At p s m meth c b L xs) {G : am_G} {cy dC : Nat → ClassId} {dI : Nat → Nat → Nat} (h1 : G.1 = s.heap.size) (h2 : G.2.1 = b) (hK : va_K (dC, dI) am_cl (am_tys cy) s) (hX : am_X G s) {Φ : am_C → Prop} {x : am_C} (hw : am_Wp false 19 (L, xs) am_rL Φ x) {H : Heap} {locs : List Loc} {ls : Array Slot} (J : am_J s G cy dC dI false 0 am_rL x H locs ls) {Q : State → Prop}
    (kk : ∀ (y : am_C) (H1 : Heap) (locs1 : List Loc) (ls1 : Array Slot), Φ y → am_J s G cy dC dI false 0 am_rL y H1 locs1 ls1 → W p l e room_1 s m #[Value.ref b] below meth c H1 locs1 y.2.2.2.2.1 y.2.2.2.2.2 Q (F0 m y.1 ls1 (y.2.2.1.map (am_tv G)))) : W p l e room_1 s m #[Value.ref b] below meth c H locs x.2.2.2.2.1 x.2.2.2.2.2 Q (F0 m x.1 ls (x.2.2.1.map (am_tv G))) := by
  obtain ⟨y, ⟨n, F9, hn⟩, hy⟩ := hw
  have F1 := am_lawF (F := F9) (al := false) l C0 h1 h2 hK hX
  exact am_nst_sound F1 n x y (hn F9 (Nat.le_refl _)) H locs ls J (fun H1 locs1 ls1 J1 => kk y H1 locs1 ls1 hy J1)
/-- over the call of the law's liking -/
theorem am_like_C (l : Launch) (C0 : lw_At p s m meth c b L xs) {G : am_G} {cy dC : Nat → ClassId} {dI : Nat → Nat → Nat} (h1 : G.1 = s.heap.size) (h2 : G.2.1 = b) (hK : va_K (dC, dI) am_cl (am_tys cy) s) (hX : am_X G s) {k x1 x2 : Int32} {h h' : am_H} {lv : List (Option Value)} {nc ns : Nat} (hnc : nc + 1 ≤ 601024) (hns : ns + 6 ≤ 7293034) {Q : State → Prop}
    (hM : Met l am_yK am_wK am_rmK (va_Pc ([Value.ref 0, .int x1, .int x2, .ref 100].map (am_tv G)) (am_PK h G cy dC dI (L, xs))) (am_Q G cy dC dI (some (.int k)) h') 1 6 (am_A G)) {H1 : Heap} {locs1 : List Loc} {ls1 : Array Slot}
    (J : am_J s G cy dC dI false 0 am_rL (529, lv, [.ref 100, .int x2, .int x1, .ref 0], h, nc, ns) H1 locs1 ls1)
    (kk : ∀ (H2 : Heap) (locs2 : List Loc), am_J s G cy dC dI false 0 am_rL (532, lv, [.int k], h', nc + 1, ns + 6) H2 locs2 ls1 → W p l e room_1 s m #[Value.ref b] below meth c H2 locs2 (nc + 1) (ns + 6) Q (F0 m 532 ls1 ([Value.int k].map (am_tv G)))) :
    W p l e room_1 s m #[Value.ref b] below meth c H1 locs1 nc ns Q (F0 m 529 ls1 ([Value.ref 100, .int x2, .int x1, .ref 0].map (am_tv G))) := by
  have hY := am_Ybegin C0 h1 hK
  have hC := C0
  obtain ⟨hx, hb, hr, hml, hown, hts, hscr, hbl, hlocks, hgv⟩ := hC
  obtain ⟨hP1, hS1, hl1, hn1, hc1, hc2⟩ := J
  refine am_W_size (fun hsz => ?_)
  have pre : ∀ U : State, U.heap = H1 → s.WarmedH U.vm → am_PK h G cy dC dI (L, xs) U := by
    intro U hU hW
    refine ⟨am_pre (al := false) (n0 := 0) hX hK (Nat.le_of_eq h1) (fun ha => by cases ha) hP1 hS1 hsz U hU hW, hY.to hS1 hU hW, ?_, ?_, ?_⟩
    · rw [hU, h2]
      refine (hscr.kept (hS1.2.1 b hbl (fun h => ?_))).moved hW.alike
      have h9 : G.1 ≤ b := h
      omega
    · rw [hU, h2]
      exact Nat.lt_of_lt_of_le hbl hS1.1
    · rw [h1, h2]
      exact hbl
  refine am_after (al := false) (h := h) (n0 := 0) (lim := (601024, 7293034)) (rest := []) (q := (some (.int k), h')) hS1 (vx_runSW (cc := code) (nL := 7) (index := 62) (As := [Value.ref 0, .int x1, .int x2, .ref 100].map (am_tv G)) (rest := ([] : List Value).map (am_tv G)) (hh := am_hK) (g := F0 m 529 ls1 ([Value.ref 100, .int x2, .int x1, .ref 0].map (am_tv G))) ⟨hx, hb, hml, hown, hts⟩ hM (vx_cwSW 4 hts am_LT rfl rfl rfl (am_yok_inv am_Ly) ⟨by decide, by decide⟩) ⟨am_PKblind, fun U hU hW => ⟨rfl, pre U hU hW⟩⟩ rfl rfl hl1.2.1 rfl (lv_room (by rw [am_cat_sum]; decide)) am_Ld ⟨hnc, hns⟩) (fun H2 locs2 z1 z2 => ?_)
  exact kk H2 locs2 ⟨z1, z2, hl1, (fun h => by cases h), hnc, hns⟩
/-- liking, on a state of the cells' kinds -/
theorem am_lk_met (l : Launch) (hnt : l.stackTraces = false) {h : am_H} (hok : ab_hok ab_D0 h) (a b2 : Int32) : ∃ (k : Int32) (h' : am_H), ab_hok ab_D0 h' ∧ ab_fr [(100, 0)] h h' ∧ ∀ (G : am_G) (cy dC : Nat → ClassId) (dI : Nat → Nat → Nat) (S : am_S), Met l am_yK am_wK am_rmK (va_Pc ([Value.ref 0, .int a, .int b2, .ref 100].map (am_tv G)) (am_PK h G cy dC dI S)) (am_Q G cy dC dI (some (.int k)) h') 1 6 (am_A G) := by
  rcases am_lkg hok a b2 with ⟨x, hx⟩ | hgo
  · obtain ⟨f, f1, -⟩ := ab_hok_arl hok am_D100.1 (by decide)
    refine ⟨0, h.set 100 (.inl (2, 1, .inr (.inl (vp_updL f 0 x.toInt64)))), ?_, ab_fr_arr rfl f1, fun G cy dC dI S => am_K0 hok f1 hx⟩
    exact ab_hok_set hok am_D100.1 (Or.inr ⟨rfl, _, rfl⟩)
  · exact ⟨1, h, hok, ab_fr.rf, fun G cy dC dI S => am_Kthrow hok hnt hgo⟩
theorem am_loop (l : Launch) (hnt : l.stackTraces = false) (C0 : lw_At p s m meth c b L xs) {G : am_G} {cy dC : Nat → ClassId} {dI : Nat → Nat → Nat} (h1 : G.1 = s.heap.size) (h2 : G.2.1 = b) (hK : va_K (dC, dI) am_cl (am_tys cy) s) (hX : am_X G s) (hL : L ≤ 3584) {Inv : am_H → Prop} (hok : ∀ h, Inv h → ab_hok ab_D0 h) (hC : ∀ k, k < 32 → k ≠ 9 → am_Wc L xs Inv k)
    (hlk : ∀ h h' (x1 x2 : Int32), Inv h → ab_hok ab_D0 h' → ab_fr [(100, 0)] h h' → ∃ (r : Int32) (h2 : am_H), am_Do false 19 179 [.ref 64, .int x1, .int x2] h' (some (.int r), h2) ∧ Inv h2) :
    ∀ (n j : Nat) (i : Int) (h : am_H) (o5 o6 : Option Value) (H : Heap) (locs : List Loc) (ls : Array Slot), (L : Int) - i < (n : Int) → 0 ≤ i → i ≤ 3584 → 7 * (j : Int) ≤ i → Inv h → am_J s G cy dC dI false 0 am_rL (23, am_lvL i o5 o6, [], h, 101 + j, 936303 + 6 * j) H locs ls → W p l e room_1 s m #[Value.ref b] below meth c H locs (101 + j) (936303 + 6 * j) (lw_Z below #[Value.ref b] s) (F0 m 23 ls []) := by
  intro n
  induction n with
  | zero =>
    intro j i h o5 o6 H locs ls hn hi0 hi1 hj hI J
    have hb1 : 101 + j ≤ (am_k am_rL).1 := by show 101 + j ≤ 601024; omega
    have hb2 : 936303 + 6 * j ≤ (am_k am_rL).2 := by show 936303 + 6 * j ≤ 7293034; omega
    refine am_Wp_W l C0 h1 h2 hK hX (am_turn (o5 := o5) (o6 := o6) (i := i) hC hI ⟨hi0, hi1⟩ hL hb1 hb2) J (fun y H1 locs1 ls1 hy J1 => ?_)
    rcases hy with ⟨q1, q2⟩ | ⟨q1, -⟩ | ⟨q1, -⟩
    · exact am_law_end l C0 h1 (by rw [q1]; rfl) q2 J1
    · omega
    · omega
  | succ n ih =>
    intro j i h o5 o6 H locs ls hn hi0 hi1 hj hI J
    have hb1 : 101 + j ≤ (am_k am_rL).1 := by show 101 + j ≤ 601024; omega
    have hb2 : 936303 + 6 * j ≤ (am_k am_rL).2 := by show 936303 + 6 * j ≤ 7293034; omega
    refine am_Wp_W l C0 h1 h2 hK hX (am_turn (o5 := o5) (o6 := o6) (i := i) hC hI ⟨hi0, hi1⟩ hL hb1 hb2) J (fun y H1 locs1 ls1 hy J1 => ?_)
    rcases hy with ⟨q1, q2⟩ | ⟨q1, h3, hI3, rfl⟩ | ⟨q1, rfl⟩
    · exact am_law_end l C0 h1 (by rw [q1]; rfl) q2 J1
    · exact ih j (i + 7) h3 o5 o6 H1 locs1 ls1 (by omega) (by omega) (by omega) (by omega) hI3 J1
    · obtain ⟨k, h', ok', f', hM⟩ := am_lk_met l hnt (hok h hI) (xs ((i) + (1)).toNat) (xs ((i) + (2)).toNat)
      obtain ⟨r, h4, d4, hI4⟩ := hlk h h' (xs ((i) + (1)).toNat) (xs ((i) + (2)).toNat) hI ok' f'
      refine am_like_C l C0 h1 h2 hK hX (show 101 + j + 1 ≤ 601024 by omega) (show 936303 + 6 * j + 6 ≤ 7293034 by omega) (hM G cy dC dI (L, xs)) J1 (fun H2 locs2 J2 => ?_)
      have hb3 : 101 + j + 1 ≤ (am_k am_rL).1 := by show 101 + j + 1 ≤ 601024; omega
      have hb4 : 936303 + 6 * j + 6 ≤ (am_k am_rL).2 := by show 936303 + 6 * j + 6 ≤ 7293034; omega
      refine am_Wp_W l C0 h1 h2 hK hX (am_lkB (Φ := fun y => y = (23, am_lvL (i + 7) (some (.int k)) (some (.int r)), [], h4, 101 + j + 1, 936303 + 6 * j + 6)) (by omega) hL ok' (hok h4 hI4) hb3 hb4 d4 (am_Wp.en rfl)) J2 (fun y H3 locs3 ls3 hy3 J3 => ?_)
      subst hy3
      exact ih (j + 1) (i + 7) h4 _ _ H3 locs3 ls3 (by omega) (by omega) (by omega) (by omega) hI4 J3
end AMLW
