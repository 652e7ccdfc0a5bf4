section AMLW
variable {p : Program} {e : Env} {s : State} {m : MethodId} {below : List Frame} {meth : Method} {c : Code} {b : Nat} {xs : Nat → Int32}
/-- over the call of the law's liking -/
theorem am_like_C (l : Launch) (C0 : lw_At p s m meth c b 7 xs) {G : am_G} {cy dC : Nat → ClassId} {dI : Nat → Nat → Nat} (h1 : G.1 = s.heap.size) (h2 : G.2.1 = b) (hK : va_K (dC, dI) am_cl (am_tys cy) s) (hX : am_X G s) {k : Int32} {h' : am_H} {y : am_C}
    (hM : Met l am_yK am_wK am_rmK (va_Pc ([Value.ref 0, .int (xs 1), .int (xs 2), .ref 100].map (am_tv G)) (am_PK G cy dC dI (7, xs))) (am_Q G cy dC dI (some (.int k)) h') 1 6 (am_A G))
    (hgo : am_Go false 19 (7, xs) am_rL (532, am_lvA 0, [.int k], h', 102, 936309) y) (hy : am_at am_rL y.1 = some .ireturn) (hst : y.2.2.1 = [.int 1]) {H1 : Heap} {locs1 : List Loc} {ls1 : Array Slot}
    (J : am_J s G cy dC dI true 0 am_rL (529, am_lvA 0, [.ref 100, .int (xs 2), .int (xs 1), .ref 0], am_h0, 101, 936303) H1 locs1 ls1) :
    W p l e room_1 s m #[Value.ref b] below meth c H1 locs1 101 936303 (lw_Z below #[Value.ref b] s) (F0 m 529 ls1 ([Value.ref 100, .int (xs 2), .int (xs 1), .ref 0].map (am_tv G))) := by
  have hY := am_Ybegin C0 h1 hK
  have hC := C0
  obtain ⟨hx, hb, hr, hml, hown, hts, hscr, hbl, hlocks, hgv⟩ := hC
  obtain ⟨n2, Fb, hn2⟩ := hgo
  have hn2 := hn2 Fb (Nat.le_refl _)
  have F2 := am_lawF (F := Fb) (al := false) l C0 h1 h2 hK hX
  obtain ⟨hP1, hS1, hl1, hn1, hc1, hc2⟩ := J
  refine am_W_size (fun hsz => ?_)
  have pre : ∀ U : State, U.heap = H1 → s.WarmedH U.vm → am_PK G cy dC dI (7, xs) U := by
    intro U hU hW
    refine ⟨am_pre (n0 := 0) hX hK (Nat.le_of_eq h1) (fun ha => ⟨by omega, hn1 ha⟩) hP1 hS1 hsz U hU hW, hY.to hS1 hU hW, ?_, ?_, ?_⟩
    · rw [hU, h2]
      refine (hscr.kept (hS1.2.1 b hbl (fun h => ?_))).moved hW.alike
      have h9 : G.1 ≤ b := h
      omega
    · rw [hU, h2]
      exact Nat.lt_of_lt_of_le hbl hS1.1
    · rw [h1, h2]
      exact hbl
  refine am_after (al := true) (h := am_h0) (n0 := 0) (lim := (600002, 7302231)) (rest := []) (q := (some (.int k), h')) hS1 (vx_runSW (cc := code) (nL := 7) (index := 62) (As := [Value.ref 0, .int (xs 1), .int (xs 2), .ref 100].map (am_tv G)) (rest := ([] : List Value).map (am_tv G)) (hh := am_hK) (g := F0 m 529 ls1 ([Value.ref 100, .int (xs 2), .int (xs 1), .ref 0].map (am_tv G))) ⟨hx, hb, hml, hown, hts⟩ hM (vx_cwSW 4 hts am_LT rfl rfl rfl (am_yok_inv am_Ly) ⟨by decide, by decide⟩) ⟨am_PKblind, fun U hU hW => ⟨rfl, pre U hU hW⟩⟩ rfl rfl hl1.2.1 rfl (lv_room (by rw [am_cat_sum]; decide)) am_Ld ⟨by decide, by decide⟩) (fun H2 locs2 z1 z2 => ?_)
  exact am_nst_sound F2 n2 (532, am_lvA 0, [.int k], h', 102, 936309) y hn2 H2 locs2 ls1 ⟨z1, z2, hl1, (fun h => by cases h), (show (102 : Nat) ≤ 600002 by decide), (show (936309 : Nat) ≤ 7302231 by decide)⟩ (fun H3 locs3 ls3 J3 => am_law_end l C0 h1 hy hst J3)
theorem am_like_W {p : Program} {e : Env} {s : State} {m : MethodId} {below : List Frame} {meth : Method} {c : Code} (l : Launch) (hnt : l.stackTraces = false) {b : Nat} {xs : Nat → Int32} (C0 : lw_At p s m meth c b 7 xs) (hh : am_Go true 19 (7, xs) am_rL am_st0 (40, am_lvA 0, [.int (Int32.ofNat 9)], am_h0, 101, 936303)) : W p l e room_1 s m #[Value.ref b] below meth c s.heap [] 0 0 (lw_Z below #[Value.ref b] s) (entryFrame m ([Value.ref b] : List Value).toArray 7) := by
  obtain ⟨G, cy, dC, dI, h1, h2, hK, hX⟩ := am_begin C0
  obtain ⟨n1, Fa, hn1⟩ := am_Go.tr hh (am_L1 xs)
  have hn1 := hn1 Fa (Nat.le_refl _)
  have F1 := am_lawF (F := Fa) (al := true) l C0 h1 h2 hK hX
  obtain ⟨ls, hent, hlv⟩ := am_ent_ok (G := G) (as := [.ref 1000000]) (n := 7) (lv := am_lv0) rfl
  have e1 : ([Value.ref b] : List Value) = [Value.ref 1000000].map (am_tv G) := by
    show [Value.ref b] = [Value.ref G.2.1]
    rw [h2]
  have e2 : entryFrame m ([Value.ref b] : List Value).toArray 7 = F0 m 0 ls [] := by
    rw [e1]
    exact hent m
  rw [e2]
  refine am_nst_sound F1 n1 am_st0 _ hn1 s.heap [] ls ⟨fun k q h => by simp [am_ws] at h, va_S.rf, hlv, fun _ => rfl, Nat.zero_le _, Nat.zero_le _⟩ (fun H1 locs1 ls1 J => ?_)
  by_cases ha : (xs 1).toInt = 0
  · by_cases hb : (xs 2).toInt = 0
    · have x1 : xs 1 = 0 := Int32.toInt_inj.mp ha
      have x2 : xs 2 = 0 := Int32.toInt_inj.mp hb
      obtain ⟨h3, g3⟩ := am_L0 xs x1 x2
      have hM := am_K0 (l := l) (G := G) (cy := cy) (dC := dC) (dI := dI) (S := (7, xs))
      exact am_like_C l C0 h1 h2 hK hX (k := 0) (h' := am_h0o) (by rw [x1, x2]; exact hM) g3 rfl rfl J
    · obtain ⟨h3, d1, l2, o2, d2⟩ := am_mltb (xs 1) (xs 2) ha hb
      exact am_like_C l C0 h1 h2 hK hX (k := 1) (h' := am_h0) (am_Kthrow hnt (am_lktb _ _ ha hb)) (am_L3 xs d1 l2 o2 d2) rfl rfl J
  · obtain ⟨h3, d1, l2, o2, d2⟩ := am_mlta (xs 1) (xs 2) ha
    exact am_like_C l C0 h1 h2 hK hX (k := 1) (h' := am_h0) (am_Kthrow hnt (am_lkta _ _ ha)) (am_L3 xs d1 l2 o2 d2) rfl rfl J
end AMLW
