/-! ===== contracts used by hand ===== -/
theorem am_Do.det {al : Bool} {d mi : Nat} {as : List Value} {h : am_H} {q1 q2 : Option Value × am_H} (h1 : am_Do al d mi as h q1) (h2 : am_Do al d mi as h q2) : q1 = q2 := by
  obtain ⟨F1, h1⟩ := h1
  obtain ⟨F2, h2⟩ := h2
  have e1 := h1 (F1 + F2) (by omega)
  have e2 := h2 (F1 + F2) (by omega)
  rw [e1] at e2
  exact Option.some.inj e2
/-- does the contract's entry fit -/
def ab_usec (D : List ab_D) (k : ab_K) (as : List ab_V) (o : ab_O) (N : ab_N) (F : List ab_T) : Bool := match ab_mat D k.2.2.1.2.2.2.2.2 o N with
  | (o2, N2) => (ab_mt N2 F (as.map some) o2 [] k.2.2.1).isSome
theorem ab_use {al : Bool} {D : List ab_D} {k : ab_K} (hk : ab_kok al D k) (as : List ab_V) (o : ab_O) (N : ab_N) (F : List ab_T) (hm : ab_usec D k as o N F = true) {ro : List Int} {asc : List Value} {h : am_H} {d : Nat} (hN : ab_env ro N) (hF : ab_F ro F) (ho : ab_ov ro h o) (ha : ab_st ro as asc) (hh : ab_hok D h) (hd : k.2.1 ≤ d) : ∃ X ∈ k.2.2.2.2, ∃ (ro2 : List Int) (r : Option Value) (h2 : am_H), am_Do al d k.1 asc h (r, h2) ∧ ab_hok D h2 ∧ ab_fr k.2.2.2.1 h h2 ∧ ab_at ro2 X (r.toList.map some) h2 := by
  unfold ab_usec at hm
  obtain ⟨roM, m1, m2⟩ := ab_mat_ok hh k.2.2.1.2.2.2.2.2 o N ro hN ho
  generalize hmat : ab_mat D k.2.2.1.2.2.2.2.2 o N = on at hm m1 m2
  obtain ⟨o2, N2⟩ := on
  simp only at hm m1 m2
  obtain ⟨s, hs⟩ := Option.isSome_iff_exists.mp hm
  obtain ⟨g1, g2, -⟩ := ab_mt_ok m1 (ab_F_mono hF) (ab_st_lv _ _ (ab_st_mono _ _ ha)) m2 hs
  obtain ⟨X, hX, ro2, r, h2, k1, k2, k3, k4⟩ := hk _ asc h d hd hh g2
  exact ⟨X, hX, _, r, h2, k1, k2, k3, k4⟩
def ab_reti (k : ab_K) : Bool := k.2.2.2.2.all (fun X => match X.1 with
  | [some (.inl _)] => true
  | _ => false)
def ab_retv (k : ab_K) : Bool := k.2.2.2.2.all (fun X => match X.1 with
  | [] => true
  | _ => false)
theorem ab_lv_1 {ro : List Int} {t : ab_T} {r : Option Value} (h : ab_lv ro [some (.inl t)] (r.toList.map some)) : ∃ x : Int32, r = some (.int x) ∧ ab_ev ro t = some x.toInt := by
  cases r with
  | none => have := h.1; simp at this
  | some w =>
    obtain ⟨w2, e1, e2⟩ := h.2 0 (.inl t) rfl
    cases e1
    obtain ⟨x, rfl, hx⟩ := ab_v_int e2
    exact ⟨x, rfl, hx⟩
theorem ab_lv_0 {ro : List Int} {r : Option Value} (h : ab_lv ro [] (r.toList.map some)) : r = none := by
  cases r with
  | none => rfl
  | some w => have := h.1; simp at this
theorem ab_usei {al : Bool} {D : List ab_D} {k : ab_K} (hk : ab_kok al D k) (as : List ab_V) (o : ab_O) (N : ab_N) (F : List ab_T) (hm : (ab_usec D k as o N F && ab_reti k) = true) {ro : List Int} {asc : List Value} {h : am_H} {d : Nat} (hN : ab_env ro N) (hF : ab_F ro F) (ho : ab_ov ro h o) (ha : ab_st ro as asc) (hh : ab_hok D h) (hd : k.2.1 ≤ d) : ∃ (x : Int32) (h2 : am_H), am_Do al d k.1 asc h (some (.int x), h2) ∧ ab_hok D h2 ∧ ab_fr k.2.2.2.1 h h2 := by
  rw [Bool.and_eq_true] at hm
  obtain ⟨X, hX, ro2, r, h2, k1, k2, k3, k4⟩ := ab_use hk as o N F hm.1 hN hF ho ha hh hd
  have h5 := List.all_eq_true.mp hm.2 X hX
  obtain ⟨lv, rest⟩ := X
  simp only at h5
  split at h5
  · obtain ⟨x, rfl, -⟩ := ab_lv_1 k4.1
    exact ⟨x, h2, k1, k2, k3⟩
  · cases h5
theorem ab_usev {al : Bool} {D : List ab_D} {k : ab_K} (hk : ab_kok al D k) (as : List ab_V) (o : ab_O) (N : ab_N) (F : List ab_T) (hm : (ab_usec D k as o N F && ab_retv k) = true) {ro : List Int} {asc : List Value} {h : am_H} {d : Nat} (hN : ab_env ro N) (hF : ab_F ro F) (ho : ab_ov ro h o) (ha : ab_st ro as asc) (hh : ab_hok D h) (hd : k.2.1 ≤ d) : ∃ (h2 : am_H), am_Do al d k.1 asc h (none, h2) ∧ ab_hok D h2 ∧ ab_fr k.2.2.2.1 h h2 := by
  rw [Bool.and_eq_true] at hm
  obtain ⟨X, hX, ro2, r, h2, k1, k2, k3, k4⟩ := ab_use hk as o N F hm.1 hN hF ho ha hh hd
  have h5 := List.all_eq_true.mp hm.2 X hX
  obtain ⟨lv, rest⟩ := X
  simp only at h5
  split at h5
  · obtain rfl := ab_lv_0 k4.1
    exact ⟨h2, k1, k2, k3⟩
  · cases h5
theorem ab_env0 : ab_env [] [] := ⟨rfl, fun x z e h => by simp at h⟩
theorem ab_F0 {ro : List Int} : ab_F ro [] := fun f hf => by cases hf
theorem ab_ov0 {ro : List Int} {h : am_H} : ab_ov ro h [] := fun q hq => by cases hq
theorem ab_in3 {z lo hi : Int} (h1 : lo ≤ z) (h2 : z ≤ hi) : ab_in z (lo, hi, 511) := ⟨h1, h2, by show z % 512 ≤ 511; omega⟩
theorem ab_env1 {z lo hi : Int} (h1 : lo ≤ z) (h2 : z ≤ hi) : ab_env [z] [(lo, hi, 511)] := ab_env_push ab_env0 (ab_in3 h1 h2)
theorem ab_env2 {z lo hi z' lo' hi' : Int} (h1 : lo ≤ z) (h2 : z ≤ hi) (h3 : lo' ≤ z') (h4 : z' ≤ hi') : ab_env [z, z'] [(lo, hi, 511), (lo', hi', 511)] := ab_env_push (ab_env1 h1 h2) (ab_in3 h3 h4)
theorem ab_evx {ro : List Int} {i : Nat} {x : Int32} {z : Int} (h : ro[i]? = some z) (hx : x.toInt = z) : ab_v ro (.inl (ab_var i)) (.int x) := by
  show ab_ev ro (ab_var i) = some x.toInt
  rw [hx]
  exact ab_ev_var h
/-- takes, broken, goesAlong, alongNothing -/
theorem am_u_takes {h : am_H} {d : Nat} {a b : Int} (hok : ab_hok ab_D0 h) (ha : 0 ≤ a ∧ a ≤ 47) (hb : 0 ≤ b ∧ b ≤ 399) : ∃ h2, am_Do false (d + 1) 199 [.ref 64, .int (Int32.ofInt a), .int (Int32.ofInt b)] h (none, h2) ∧ ab_hok ab_D0 h2 ∧ ab_fr [(82, 0)] h h2 :=
  ab_usev ab_k_LVModel_takes_64 [.inr (.inr 64), .inl (ab_var 0), .inl (ab_var 1)] [] [(0, 47, 511), (0, 399, 511)] [] (by decide +kernel) (ro := [a, b]) (ab_env2 ha.1 ha.2 hb.1 hb.2) ab_F0 ab_ov0 ⟨rfl, ab_evx rfl (am_oi (by omega) (by omega)), ab_evx rfl (am_oi (by omega) (by omega)), trivial⟩ hok (show 1 ≤ d + 1 by omega)
theorem am_u_broken {h : am_H} {d : Nat} {x : Int32} {b : Int} (hok : ab_hok ab_D0 h) (hb : 1 ≤ b ∧ b ≤ 48) : ∃ (y : Int32) (h2 : am_H), am_Do false (d + 3) 189 [.ref 64, .int x, .int (Int32.ofInt b)] h (some (.int y), h2) ∧ ab_hok ab_D0 h2 ∧ ab_fr [] h h2 :=
  ab_usei ab_k_LVModel_broken_64 [.inr (.inr 64), .inl (ab_var 0), .inl (ab_var 1)] [] [(-2147483648, 2147483647, 511), (1, 48, 511)] [] (by decide +kernel) (ro := [x.toInt, b]) (ab_env2 (ab_i32 x).1 (ab_i32 x).2 hb.1 hb.2) ab_F0 ab_ov0 ⟨rfl, ab_evx rfl rfl, ab_evx rfl (am_oi (by omega) (by omega)), trivial⟩ hok (show 3 ≤ d + 3 by omega)
theorem am_u_goesAlong {h : am_H} {d : Nat} {x : Int32} (hok : ab_hok ab_D0 h) : ∃ (h2 : am_H), am_Do false (d + 1) 186 [.ref 64, .int x] h (none, h2) ∧ ab_hok ab_D0 h2 ∧ ab_fr [(82, 0)] h h2 :=
  ab_usev ab_k_LVModel_goesAlong_64 [.inr (.inr 64), .inl (ab_var 0)] [] [(-2147483648, 2147483647, 511)] [] (by decide +kernel) (ro := [x.toInt]) (ab_env1 (ab_i32 x).1 (ab_i32 x).2) ab_F0 ab_ov0 ⟨rfl, ab_evx rfl rfl, trivial⟩ hok (show 1 ≤ d + 1 by omega)
theorem am_u_alongNothing {h : am_H} {d : Nat} (hok : ab_hok ab_D0 h) : ∃ (h2 : am_H), am_Do false (d + 1) 185 [.ref 64] h (none, h2) ∧ ab_hok ab_D0 h2 ∧ ab_fr [(82, 0)] h h2 :=
  ab_usev ab_k_LVModel_alongNothing_64 [.inr (.inr 64)] [] [] [] (by decide +kernel) (ro := []) ab_env0 ab_F0 ab_ov0 ⟨rfl, trivial⟩ hok (show 1 ≤ d + 1 by omega)
/-- a field's int -/
theorem am_fld_int {h : am_H} {a c k : Nat} {ws : List ab_W} {lo hi : Int} (hok : ab_hok ab_D0 h) (hd : ab_D0[a]? = some (.inr (c, ws))) (hw : ws[k]? = some (.inl (lo, hi))) (ha : Nat.blt a 1000000 = true) : ∃ x : Int32, ab_cell h a (k : Int) = some (.int x) ∧ lo ≤ x.toInt ∧ x.toInt ≤ hi := by
  obtain ⟨fs, f1, f2, f3, f4⟩ := ab_hok_obj hok hd ha
  have hk : k < fs.length := by rw [f3]; exact (List.getElem?_eq_some_iff.mp hw).1
  have hv := List.getElem?_eq_getElem hk
  have hq := f4 k _ _ hw hv
  rw [ab_cell_obj f1, hv]
  generalize fs[k] = v at hq
  cases v with
  | int x => exact ⟨x, rfl, hq.1, hq.2⟩
  | _ => exact hq.elim
theorem am_arr_of {h : am_H} {a t n : Nat} {lo hi m : Int} (hok : ab_hok ab_D0 h) (hd : ab_D0[a]? = some (.inl (t, n, lo, hi, m))) (ht : Nat.beq t 2 = false) (ha : Nat.blt a 1000000 = true) : ∃ f, h[a]? = some (.inl (t, n, .inl f)) := by
  obtain ⟨f, f1, -, -⟩ := ab_hok_ari hok hd ht ha
  exact ⟨f, f1⟩
theorem am_cell_arr {h : am_H} {a t n : Nat} {f : Nat → Int32} {z : Int} (ha : h[a]? = some (.inl (t, n, .inl f))) (h0 : 0 ≤ z) (h1 : z < (n : Int)) : ab_cell h a z = some (.int (f z.toNat)) := by
  unfold ab_cell
  rw [ha]
  have e1 : decide (0 ≤ z) = true := decide_eq_true h0
  have e2 : Nat.blt z.toNat n = true := by
    rw [Nat.blt_eq]
    omega
  simp only [e1, e2, Bool.and_self, cond_true]
/-- finds on one layer: what becomes of the states' numbers -/
theorem am_u_finds1 {h : am_H} {d : Nat} {M : Nat → Int32} {p q : Int} (hok : ab_hok ab_D0 h) (hM : h[90]? = some (.inl (1, 49, .inl M))) (hp : 1 ≤ p ∧ p ≤ 48) (hq : 0 ≤ q ∧ q < p) : ∃ (r : Int) (h2 : am_H) (M2 : Nat → Int32), am_Do false (d + 1) 200 [.ref 64, .int (Int32.ofInt p)] h (some (.int (Int32.ofInt r)), h2) ∧ ab_hok ab_D0 h2 ∧ ab_fr [(64, 57), (89, 0), (90, 0)] h h2 ∧ h2[90]? = some (.inl (1, 49, .inl M2)) ∧ am_m M2 q = am_m M q ∧ ((r = -1 ∧ am_m M2 p = am_m M p) ∨ ((0 ≤ r ∧ r < am_m M p) ∧ am_m M2 p = am_m M p) ∨ (r = am_m M p ∧ am_m M2 p = am_m M p + 1)) := by
  obtain ⟨x, hx, -, -⟩ := am_fld_int (k := 56) (lo := -2147483648) (hi := 2147483647) hok am_d64 rfl rfl
  have hmp := am_m_r hok hM (q := p) (by omega)
  have hmq := am_m_r hok hM (q := q) (by omega)
  have hat : ab_at [p, x.toInt, am_m M p, p - 1 - q, am_m M q] ab_c_LVModel_finds_64_g.2.2.1 ([Value.ref 64, .int (Int32.ofInt p)].map some) h := by
    refine ⟨?_, ?_, ?_, ?_⟩
    · refine ab_st_lv [.inr (.inr 64), .inl (ab_var 0)] [.ref 64, .int (Int32.ofInt p)] ⟨rfl, ab_evx rfl (am_oi (by omega) (by omega)), trivial⟩
    · intro c hc
      have hc2 : c = (64, ((56 : Int), []), .inl (ab_var 1)) ∨ c = (90, ((0 : Int), [(0, 1)]), .inl (ab_var 2)) ∨ c = (90, ((-1 : Int), [(0, 1), (3, -1)]), .inl (ab_var 4)) := by
        have hc3 : c ∈ [(64, ((56 : Int), ([] : ab_L)), (Sum.inl (ab_var 1) : ab_V)), (90, ((0 : Int), [(0, (1 : Int))]), .inl (ab_var 2)), (90, ((-1 : Int), [(0, (1 : Int)), (3, (-1 : Int))]), .inl (ab_var 4))] := hc
        simpa using hc3
      rcases hc2 with rfl | rfl | rfl
      · exact ⟨56, .int x, ab_ev_k _ _, hx, ab_evx rfl rfl⟩
      · exact ⟨p, .int (M p.toNat), ab_ev_var rfl, am_cell_arr hM (by omega) (by omega), ab_evx rfl rfl⟩
      · refine ⟨q, .int (M q.toNat), ?_, am_cell_arr hM (by omega) (by omega), ab_evx rfl rfl⟩
        show some (-1 + (1 * p + (-1 * (p - 1 - q) + 0))) = some q
        congr 1
        omega
    · exact ab_env_push (ab_env_push (ab_env_push (ab_env_push (ab_env1 hp.1 hp.2) (ab_in3 (ab_i32 x).1 (ab_i32 x).2)) (ab_in3 hmp.1 hmp.2)) (ab_in3 (lo := 0) (hi := 48) (by omega) (by omega))) (ab_in3 hmq.1 hmq.2)
    · exact ab_F0
  obtain ⟨X, hX, ro2, r, h2, k1, k2, k3, k4⟩ := ab_k_LVModel_finds_64_g [p, x.toInt, am_m M p, p - 1 - q, am_m M q] [.ref 64, .int (Int32.ofInt p)] h (d + 1) (show 1 ≤ d + 1 by omega) hok hat
  obtain ⟨M2, hM2⟩ := am_arr_of (a := 90) k2 rfl rfl rfl
  have hcell : ∀ (z w : Int) (v : Value), 0 ≤ z ∧ z < 49 → ab_cell h2 90 z = some v → ab_v ([p, x.toInt, am_m M p, p - 1 - q, am_m M q] ++ ro2) (.inl (w, [])) v → am_m M2 z = w := by
    intro z w v hz hc hv
    rw [am_cell_arr hM2 hz.1 (by omega)] at hc
    cases hc
    have h9 : ab_ev _ (w, []) = some (M2 z.toNat).toInt := hv
    rw [ab_ev_k] at h9
    exact (Option.some.inj h9).symm
  have cellE : ∀ (z : Int) (t u : ab_T) (w j : Int), (90, t, Sum.inl u) ∈ X.2.1 → ab_ev ([p, x.toInt, am_m M p, p - 1 - q, am_m M q] ++ ro2) t = some z → ab_ev ([p, x.toInt, am_m M p, p - 1 - q, am_m M q] ++ ro2) u = some w → 0 ≤ z ∧ z < 49 → am_m M2 z = w := by
    intro z t u w j hm ht hu hz
    obtain ⟨j2, v, a1, a2, a3⟩ := k4.2.1 _ hm
    simp only at a1 a2 a3
    rw [ht] at a1
    cases a1
    rw [am_cell_arr hM2 hz.1 (by omega)] at a2
    cases a2
    have h9 : ab_ev _ u = some (M2 z.toNat).toInt := a3
    rw [hu] at h9
    exact (Option.some.inj h9).symm
  have et : ab_ev ([p, x.toInt, am_m M p, p - 1 - q, am_m M q] ++ ro2) ((0 : Int), [(0, (1 : Int))]) = some p := ab_ev_var rfl
  have eq2 : ab_ev ([p, x.toInt, am_m M p, p - 1 - q, am_m M q] ++ ro2) ((-1 : Int), [(0, (1 : Int)), (3, (-1 : Int))]) = some q := by
    show some (-1 + (1 * p + (-1 * (p - 1 - q) + 0))) = some q
    congr 1
    omega
  have em : ab_ev ([p, x.toInt, am_m M p, p - 1 - q, am_m M q] ++ ro2) ((0 : Int), [(2, (1 : Int))]) = some (am_m M p) := ab_ev_var rfl
  have em1 : ab_ev ([p, x.toInt, am_m M p, p - 1 - q, am_m M q] ++ ro2) ((1 : Int), [(2, (1 : Int))]) = some (am_m M p + 1) := by
    show some (1 + (1 * am_m M p + 0)) = _
    congr 1
    omega
  have ev4 : ab_ev ([p, x.toInt, am_m M p, p - 1 - q, am_m M q] ++ ro2) ((0 : Int), [(4, (1 : Int))]) = some (am_m M q) := ab_ev_var rfl
  have hX2 : X = ab_c_LVModel_finds_64_g.2.2.2.2[0] ∨ X = ab_c_LVModel_finds_64_g.2.2.2.2[1] ∨ X = ab_c_LVModel_finds_64_g.2.2.2.2[2] := by
    have hX3 : X ∈ [ab_c_LVModel_finds_64_g.2.2.2.2[0], ab_c_LVModel_finds_64_g.2.2.2.2[1], ab_c_LVModel_finds_64_g.2.2.2.2[2]] := hX
    simpa using hX3
  rcases hX2 with rfl | rfl | rfl
  · obtain ⟨y, rfl, hy⟩ := ab_lv_1 (t := (-1, [])) k4.1
    rw [ab_ev_k] at hy
    have hy2 : y = Int32.ofInt (-1) := by
      rw [← am_oio y, ← Option.some.inj hy]
    subst hy2
    exact ⟨-1, h2, M2, k1, k2, k3, hM2, cellE q _ _ _ 0 (List.mem_cons_of_mem _ List.mem_cons_self) eq2 ev4 (by omega), Or.inl ⟨rfl, cellE p _ _ _ 0 List.mem_cons_self et em (by omega)⟩⟩
  · obtain ⟨y, rfl, hy⟩ := ab_lv_1 (t := ((0 : Int), [(5, (1 : Int))])) k4.1
    have hin : 0 ≤ y.toInt := by
      obtain ⟨g1, g2⟩ := k4.2.2.1
      obtain ⟨a, s, e1, e2, e3⟩ := ab_evl_inv (show ab_evl _ [(5, (1 : Int))] = some y.toInt by
        obtain ⟨s, e1, e2⟩ := ab_ev_inv hy
        rw [e1, e2]
        congr 1
        simp only
        omega)
      have h6 := g2 5 a _ e1 rfl
      have h7 : s = 0 := by cases e2; rfl
      have h8 := h6.1
      simp only at h8
      have h9 : (0 : Int) ≤ a := h8
      omega
    have hlt : y.toInt < am_m M p := by
      obtain ⟨z, z1, z2⟩ := k4.2.2.2 ((-1 : Int), [(2, (1 : Int)), (5, (-1 : Int))]) List.mem_cons_self
      obtain ⟨s, e1, e2⟩ := ab_ev_inv hy
      obtain ⟨a, s1, b1, b2, b3⟩ := ab_evl_inv e1
      cases b2
      have h5 : ab_ev ([p, x.toInt, am_m M p, p - 1 - q, am_m M q] ++ ro2) ((-1 : Int), [(2, (1 : Int)), (5, (-1 : Int))]) = some (-1 + (1 * am_m M p + (-1 * a + 0))) := by
        exact ab_ev_of (ab_evl_of rfl (ab_evl_of b1 rfl))
      rw [h5] at z1
      have := Option.some.inj z1
      simp only at e2
      omega
    refine ⟨y.toInt, h2, M2, ?_, k2, k3, hM2, cellE q _ _ _ 0 (List.mem_cons_of_mem _ (List.mem_cons_of_mem _ List.mem_cons_self)) eq2 ev4 (by omega), Or.inr (Or.inl ⟨⟨hin, hlt⟩, cellE p _ _ _ 0 (List.mem_cons_of_mem _ List.mem_cons_self) et em (by omega)⟩)⟩
    rw [am_oio]
    exact k1
  · obtain ⟨y, rfl, hy⟩ := ab_lv_1 (t := ((0 : Int), [(2, (1 : Int))])) k4.1
    rw [em] at hy
    have hy2 := Option.some.inj hy
    refine ⟨y.toInt, h2, M2, ?_, k2, k3, hM2, cellE q _ _ _ 0 (List.mem_cons_of_mem _ List.mem_cons_self) eq2 ev4 (by omega), Or.inr (Or.inr ⟨hy2.symm, cellE p _ _ _ 0 List.mem_cons_self et em1 (by omega)⟩)⟩
    rw [am_oio]
    exact k1
theorem am_u_finds {h : am_H} {d : Nat} {M : Nat → Int32} {p : Int} (hok : ab_hok ab_D0 h) (hM : h[90]? = some (.inl (1, 49, .inl M))) (hp : 1 ≤ p ∧ p ≤ 48) : ∃ (r : Int) (h2 : am_H) (M2 : Nat → Int32), am_Do false (d + 1) 200 [.ref 64, .int (Int32.ofInt p)] h (some (.int (Int32.ofInt r)), h2) ∧ ab_hok ab_D0 h2 ∧ ab_fr [(64, 57), (89, 0), (90, 0)] h h2 ∧ h2[90]? = some (.inl (1, 49, .inl M2)) ∧ (∀ q, 0 ≤ q → q < p → am_m M2 q = am_m M q) ∧ ((r = -1 ∧ am_m M2 p = am_m M p) ∨ ((0 ≤ r ∧ r < am_m M p) ∧ am_m M2 p = am_m M p) ∨ (r = am_m M p ∧ am_m M2 p = am_m M p + 1)) := by
  obtain ⟨r, h2, M2, k1, k2, k3, k4, k5, k6⟩ := am_u_finds1 (d := d) (q := 0) hok hM hp (by omega)
  refine ⟨r, h2, M2, k1, k2, k3, k4, fun q q1 q2 => ?_, k6⟩
  obtain ⟨r', h2', M2', l1, l2, l3, l4, l5, l6⟩ := am_u_finds1 (d := d) (q := q) hok hM hp ⟨q1, q2⟩
  have e := am_Do.det k1 l1
  injection e with e1 e2
  subst e2
  rw [k4] at l4
  cases l4
  exact l5
