/-! ===== every call of the law, from any state that has come about ===== -/
def am_VL (h : am_H) : Prop := ∃ l v : Int32, ab_cell h 64 ((24 : Nat) : Int) = some (.int l) ∧ ab_cell h 64 ((40 : Nat) : Int) = some (.int v) ∧ v.toInt ≤ l.toInt
def am_Iv (h : am_H) : Prop := ab_hok ab_D0 h ∧ am_VL h
theorem am_VL.frX {mo : ab_Mo} {h h2 : am_H} (hv : am_VL h) (hf : ab_fr mo h h2) (hm : mo.all (fun q => !Nat.beq q.1 64) = true) : am_VL h2 := by
  obtain ⟨l, v, h1, h3, h4⟩ := hv
  have e := am_fr_get hf hm
  refine ⟨l, v, ?_, ?_, h4⟩
  · unfold ab_cell at h1 ⊢
    rw [e]
    exact h1
  · unfold ab_cell at h3 ⊢
    rw [e]
    exact h3
theorem am_VL.frM {mo : ab_Mo} {h h2 : am_H} (hv : am_VL h) (hok : ab_hok ab_D0 h) (hf : ab_fr mo h h2) (hm : (!ab_md mo 64 25 && !ab_md mo 64 41) = true) : am_VL h2 := by
  obtain ⟨l, v, h1, h3, h4⟩ := hv
  simp only [Bool.and_eq_true, Bool.not_eq_true'] at hm
  exact ⟨l, v, (am_fr_cell hok hf hm.1).trans h1, (am_fr_cell hok hf hm.2).trans h3, h4⟩
/-- an end of a contract that tells both -/
def am_VLc (X : ab_P) : Bool := X.2.1.any (fun q => match q with
  | (a, (k, []), .inl t) => Nat.beq a 64 && decide (k = 24) && X.2.1.any (fun p => match p with
    | (b, (j, []), .inl u) => Nat.beq b 64 && decide (j = 40) && ab_gen X.2.2.1 X.2.2.2.1 5 (ab_sub t u)
    | _ => false)
  | _ => false)
theorem am_VLc_ok {X : ab_P} {ro : List Int} {C : List (Option Value)} {h : am_H} (hx : am_VLc X = true) (ha : ab_at ro X C h) : am_VL h := by
  obtain ⟨q, hq, h1⟩ := List.any_eq_true.mp hx
  split at h1
  · rename_i a k t
    simp only [Bool.and_eq_true, decide_eq_true_eq] at h1
    obtain ⟨⟨h2, rfl⟩, h3⟩ := h1
    have h2 := Nat.eq_of_beq_eq_true h2
    subst h2
    obtain ⟨p, hp, h4⟩ := List.any_eq_true.mp h3
    split at h4
    · rename_i b j u
      simp only [Bool.and_eq_true, decide_eq_true_eq] at h4
      obtain ⟨⟨h5, rfl⟩, h6⟩ := h4
      have h5 := Nat.eq_of_beq_eq_true h5
      subst h5
      obtain ⟨j1, w1, a1, a2, a3⟩ := ha.2.1 _ hq
      obtain ⟨j2, w2, b1, b2, b3⟩ := ha.2.1 _ hp
      simp only at a1 a2 a3 b1 b2 b3
      rw [ab_ev_k] at a1 b1
      cases a1
      cases b1
      obtain ⟨x, rfl, hx⟩ := ab_v_int a3
      obtain ⟨y, rfl, hy⟩ := ab_v_int b3
      have := ab_gen_ok ha.2.2.1 ha.2.2.2 5 _ _ (ab_sub_ok hx hy) h6
      exact ⟨x, y, a2, b2, by omega⟩
    · cases h4
  · cases h1
theorem am_ret1 {X : ab_P} {ro : List Int} {r : Option Value} {h : am_H} (h5 : (match X.1 with
    | [some (.inl _)] => true
    | _ => false) = true) (k4 : ab_at ro X (r.toList.map some) h) : ∃ x : Int32, r = some (.int x) := by
  obtain ⟨lv, rest⟩ := X
  simp only at h5
  split at h5
  · obtain ⟨x, rfl, -⟩ := ab_lv_1 k4.1
    exact ⟨x, rfl⟩
  · cases h5
/-- an end that tells a field's int -/
def am_outc (a : Nat) (fk c : Int) (X : ab_P) : Bool := X.2.1.any (fun q => match q with
  | (b, (k, []), .inl t) => Nat.beq b a && decide (k = fk) && decide (t = (c, []))
  | _ => false)
theorem am_outc_ok {X : ab_P} {ro : List Int} {C : List (Option Value)} {h : am_H} {a : Nat} {fk c : Int} (hx : am_outc a fk c X = true) (ha : ab_at ro X C h) : ∃ x : Int32, ab_cell h a fk = some (.int x) ∧ x.toInt = c := by
  obtain ⟨q, hq, h1⟩ := List.any_eq_true.mp hx
  split at h1
  · rename_i b k t
    simp only [Bool.and_eq_true, decide_eq_true_eq] at h1
    obtain ⟨⟨h2, rfl⟩, rfl⟩ := h1
    have h2 := Nat.eq_of_beq_eq_true h2
    subst h2
    obtain ⟨j1, w1, a1, a2, a3⟩ := ha.2.1 _ hq
    simp only at a1 a2 a3
    rw [ab_ev_k] at a1
    cases a1
    obtain ⟨x, rfl, hx⟩ := ab_v_int a3
    rw [ab_ev_k] at hx
    exact ⟨x, a2, (Option.some.inj hx).symm⟩
  · cases h1
theorem ab_env3 {z lo hi z' lo' hi' z'' lo'' hi'' : Int} (h1 : lo ≤ z) (h2 : z ≤ hi) (h3 : lo' ≤ z') (h4 : z' ≤ hi') (h5 : lo'' ≤ z'') (h6 : z'' ≤ hi'') : ab_env [z, z', z''] [(lo, hi, 511), (lo', hi', 511), (lo'', hi'', 511)] := ab_env_push (ab_env2 h1 h2 h3 h4) (ab_in3 h5 h6)
theorem ab_envT (x : Int32) : -2147483648 ≤ x.toInt ∧ x.toInt ≤ 2147483647 := ab_i32 x
theorem am_uX_feed {h : am_H} {x1 : Int64} {x2 : Int64} {x3 : Int64} (hI : am_Iv h) : ∃ (x : Int32) (h2 : am_H), am_Do false 19 119 [.ref 0, .long x1, .long x2, .long x3] h (some (.int x), h2) ∧ am_Iv h2 ∧ ab_fr ab_c_LV_feed_0.2.2.2.1 h h2 ∧ ∃ X ∈ ab_c_LV_feed_0.2.2.2.2, ∃ ro2, ab_at ro2 X [some (.int x)] h2 := by
  obtain ⟨hok, hvl⟩ := hI
  obtain ⟨X, hX, ro2, r, h2, k1, k2, k3, k4⟩ := ab_use ab_k_LV_feed_0 [.inr (.inr 0), .inr (.inl none), .inr (.inl none), .inr (.inl none)] [] [] [] (by decide +kernel) (ro := []) (asc := [.ref 0, .long x1, .long x2, .long x3]) (d := 19) ab_env0 ab_F0 ab_ov0 ⟨rfl, ab_v_l0, ab_v_l0, ab_v_l0, trivial⟩ hok (by decide)
  obtain ⟨x, rfl⟩ := am_ret1 (List.all_eq_true.mp (show (ab_c_LV_feed_0.2.2.2.2.all (fun X => match X.1 with
    | [some (.inl _)] => true
    | _ => false)) = true by decide +kernel) X hX) k4
  exact ⟨x, h2, k1, ⟨k2, hvl.frX k3 (by decide +kernel)⟩, k3, X, hX, ro2, k4⟩
theorem am_uX_read {h : am_H} (hI : am_Iv h) : ∃ (x : Int32) (h2 : am_H), am_Do false 19 120 [.ref 0] h (some (.int x), h2) ∧ am_Iv h2 ∧ ab_fr ab_c_LV_read_0.2.2.2.1 h h2 ∧ ∃ X ∈ ab_c_LV_read_0.2.2.2.2, ∃ ro2, ab_at ro2 X [some (.int x)] h2 := by
  obtain ⟨hok, hvl⟩ := hI
  obtain ⟨X, hX, ro2, r, h2, k1, k2, k3, k4⟩ := ab_use ab_k_LV_read_0 [.inr (.inr 0)] [] [] [] (by decide +kernel) (ro := []) (asc := [.ref 0]) (d := 19) ab_env0 ab_F0 ab_ov0 ⟨rfl, trivial⟩ hok (by decide)
  obtain ⟨x, rfl⟩ := am_ret1 (List.all_eq_true.mp (show (ab_c_LV_read_0.2.2.2.2.all (fun X => match X.1 with
    | [some (.inl _)] => true
    | _ => false)) = true by decide +kernel) X hX) k4
  exact ⟨x, h2, k1, ⟨k2, hvl.frX k3 (by decide +kernel)⟩, k3, X, hX, ro2, k4⟩
theorem am_uX_poet {h : am_H} {x1 : Int32} (hI : am_Iv h) : ∃ (x : Int32) (h2 : am_H), am_Do false 19 122 [.ref 0, .int x1] h (some (.int x), h2) ∧ am_Iv h2 ∧ ab_fr ab_c_LV_poet_0.2.2.2.1 h h2 ∧ ∃ X ∈ ab_c_LV_poet_0.2.2.2.2, ∃ ro2, ab_at ro2 X [some (.int x)] h2 := by
  obtain ⟨hok, hvl⟩ := hI
  obtain ⟨X, hX, ro2, r, h2, k1, k2, k3, k4⟩ := ab_use ab_k_LV_poet_0 [.inr (.inr 0), .inl (ab_var 0)] [] [(-2147483648, 2147483647, 511)] [] (by decide +kernel) (ro := [x1.toInt]) (asc := [.ref 0, .int x1]) (d := 19) (ab_env_push ab_env0 (ab_in3 (ab_i32 x1).1 (ab_i32 x1).2)) ab_F0 ab_ov0 ⟨rfl, ab_evx rfl rfl, trivial⟩ hok (by decide)
  obtain ⟨x, rfl⟩ := am_ret1 (List.all_eq_true.mp (show (ab_c_LV_poet_0.2.2.2.2.all (fun X => match X.1 with
    | [some (.inl _)] => true
    | _ => false)) = true by decide +kernel) X hX) k4
  exact ⟨x, h2, k1, ⟨k2, hvl.frX k3 (by decide +kernel)⟩, k3, X, hX, ro2, k4⟩
theorem am_uX_turn {h : am_H} (hI : am_Iv h) : ∃ (x : Int32) (h2 : am_H), am_Do false 19 123 [.ref 0] h (some (.int x), h2) ∧ am_Iv h2 ∧ ab_fr ab_c_LV_turn_0.2.2.2.1 h h2 ∧ ∃ X ∈ ab_c_LV_turn_0.2.2.2.2, ∃ ro2, ab_at ro2 X [some (.int x)] h2 := by
  obtain ⟨hok, hvl⟩ := hI
  obtain ⟨X, hX, ro2, r, h2, k1, k2, k3, k4⟩ := ab_use ab_k_LV_turn_0 [.inr (.inr 0)] [] [] [] (by decide +kernel) (ro := []) (asc := [.ref 0]) (d := 19) ab_env0 ab_F0 ab_ov0 ⟨rfl, trivial⟩ hok (by decide)
  obtain ⟨x, rfl⟩ := am_ret1 (List.all_eq_true.mp (show (ab_c_LV_turn_0.2.2.2.2.all (fun X => match X.1 with
    | [some (.inl _)] => true
    | _ => false)) = true by decide +kernel) X hX) k4
  exact ⟨x, h2, k1, ⟨k2, hvl.frX k3 (by decide +kernel)⟩, k3, X, hX, ro2, k4⟩
theorem am_uX_pass {h : am_H} (hI : am_Iv h) : ∃ (x : Int32) (h2 : am_H), am_Do false 19 124 [.ref 0] h (some (.int x), h2) ∧ am_Iv h2 ∧ ab_fr ab_c_LV_pass_0.2.2.2.1 h h2 ∧ ∃ X ∈ ab_c_LV_pass_0.2.2.2.2, ∃ ro2, ab_at ro2 X [some (.int x)] h2 := by
  obtain ⟨hok, hvl⟩ := hI
  obtain ⟨X, hX, ro2, r, h2, k1, k2, k3, k4⟩ := ab_use ab_k_LV_pass_0 [.inr (.inr 0)] [] [] [] (by decide +kernel) (ro := []) (asc := [.ref 0]) (d := 19) ab_env0 ab_F0 ab_ov0 ⟨rfl, trivial⟩ hok (by decide)
  obtain ⟨x, rfl⟩ := am_ret1 (List.all_eq_true.mp (show (ab_c_LV_pass_0.2.2.2.2.all (fun X => match X.1 with
    | [some (.inl _)] => true
    | _ => false)) = true by decide +kernel) X hX) k4
  exact ⟨x, h2, k1, ⟨k2, hvl.frX k3 (by decide +kernel)⟩, k3, X, hX, ro2, k4⟩
theorem am_uX_year {h : am_H} {x1 : Int32} (hI : am_Iv h) : ∃ (x : Int32) (h2 : am_H), am_Do false 19 125 [.ref 0, .int x1] h (some (.int x), h2) ∧ am_Iv h2 ∧ ab_fr ab_c_LV_year_0.2.2.2.1 h h2 ∧ ∃ X ∈ ab_c_LV_year_0.2.2.2.2, ∃ ro2, ab_at ro2 X [some (.int x)] h2 := by
  obtain ⟨hok, hvl⟩ := hI
  obtain ⟨X, hX, ro2, r, h2, k1, k2, k3, k4⟩ := ab_use ab_k_LV_year_0 [.inr (.inr 0), .inl (ab_var 0)] [] [(-2147483648, 2147483647, 511)] [] (by decide +kernel) (ro := [x1.toInt]) (asc := [.ref 0, .int x1]) (d := 19) (ab_env_push ab_env0 (ab_in3 (ab_i32 x1).1 (ab_i32 x1).2)) ab_F0 ab_ov0 ⟨rfl, ab_evx rfl rfl, trivial⟩ hok (by decide)
  obtain ⟨x, rfl⟩ := am_ret1 (List.all_eq_true.mp (show (ab_c_LV_year_0.2.2.2.2.all (fun X => match X.1 with
    | [some (.inl _)] => true
    | _ => false)) = true by decide +kernel) X hX) k4
  exact ⟨x, h2, k1, ⟨k2, hvl.frX k3 (by decide +kernel)⟩, k3, X, hX, ro2, k4⟩
theorem am_uX_entry {h : am_H} {x1 : Int32} {x2 : Int32} {x3 : Int32} (hI : am_Iv h) : ∃ (x : Int32) (h2 : am_H), am_Do false 19 127 [.ref 0, .int x1, .int x2, .int x3] h (some (.int x), h2) ∧ am_Iv h2 ∧ ab_fr ab_c_LV_entry_0.2.2.2.1 h h2 ∧ ∃ X ∈ ab_c_LV_entry_0.2.2.2.2, ∃ ro2, ab_at ro2 X [some (.int x)] h2 := by
  obtain ⟨hok, hvl⟩ := hI
  obtain ⟨X, hX, ro2, r, h2, k1, k2, k3, k4⟩ := ab_use ab_k_LV_entry_0 [.inr (.inr 0), .inl (ab_var 0), .inl (ab_var 1), .inl (ab_var 2)] [] [(-2147483648, 2147483647, 511), (-2147483648, 2147483647, 511), (-2147483648, 2147483647, 511)] [] (by decide +kernel) (ro := [x1.toInt, x2.toInt, x3.toInt]) (asc := [.ref 0, .int x1, .int x2, .int x3]) (d := 19) (ab_env_push (ab_env_push (ab_env_push ab_env0 (ab_in3 (ab_i32 x1).1 (ab_i32 x1).2)) (ab_in3 (ab_i32 x2).1 (ab_i32 x2).2)) (ab_in3 (ab_i32 x3).1 (ab_i32 x3).2)) ab_F0 ab_ov0 ⟨rfl, ab_evx rfl rfl, ab_evx rfl rfl, ab_evx rfl rfl, trivial⟩ hok (by decide)
  obtain ⟨x, rfl⟩ := am_ret1 (List.all_eq_true.mp (show (ab_c_LV_entry_0.2.2.2.2.all (fun X => match X.1 with
    | [some (.inl _)] => true
    | _ => false)) = true by decide +kernel) X hX) k4
  exact ⟨x, h2, k1, ⟨k2, hvl.frX k3 (by decide +kernel)⟩, k3, X, hX, ro2, k4⟩
theorem am_uX_word {h : am_H} {x1 : Int32} (hI : am_Iv h) : ∃ (x : Int32) (h2 : am_H), am_Do false 19 129 [.ref 0, .int x1] h (some (.int x), h2) ∧ am_Iv h2 ∧ ab_fr ab_c_LV_word_0.2.2.2.1 h h2 ∧ ∃ X ∈ ab_c_LV_word_0.2.2.2.2, ∃ ro2, ab_at ro2 X [some (.int x)] h2 := by
  obtain ⟨hok, hvl⟩ := hI
  obtain ⟨X, hX, ro2, r, h2, k1, k2, k3, k4⟩ := ab_use ab_k_LV_word_0 [.inr (.inr 0), .inl (ab_var 0)] [] [(-2147483648, 2147483647, 511)] [] (by decide +kernel) (ro := [x1.toInt]) (asc := [.ref 0, .int x1]) (d := 19) (ab_env_push ab_env0 (ab_in3 (ab_i32 x1).1 (ab_i32 x1).2)) ab_F0 ab_ov0 ⟨rfl, ab_evx rfl rfl, trivial⟩ hok (by decide)
  obtain ⟨x, rfl⟩ := am_ret1 (List.all_eq_true.mp (show (ab_c_LV_word_0.2.2.2.2.all (fun X => match X.1 with
    | [some (.inl _)] => true
    | _ => false)) = true by decide +kernel) X hX) k4
  exact ⟨x, h2, k1, ⟨k2, hvl.frX k3 (by decide +kernel)⟩, k3, X, hX, ro2, k4⟩
theorem am_uX_like {h : am_H} {x1 : Int32} {x2 : Int32} {x3 : Int32} (hI : am_Iv h) : ∃ (x : Int32) (h2 : am_H), am_Do false 19 130 [.ref 0, .int x1, .int x2, .int x3] h (some (.int x), h2) ∧ am_Iv h2 ∧ ab_fr ab_c_LV_like_0.2.2.2.1 h h2 ∧ ∃ X ∈ ab_c_LV_like_0.2.2.2.2, ∃ ro2, ab_at ro2 X [some (.int x)] h2 := by
  obtain ⟨hok, hvl⟩ := hI
  obtain ⟨X, hX, ro2, r, h2, k1, k2, k3, k4⟩ := ab_use ab_k_LV_like_0 [.inr (.inr 0), .inl (ab_var 0), .inl (ab_var 1), .inl (ab_var 2)] [] [(-2147483648, 2147483647, 511), (-2147483648, 2147483647, 511), (-2147483648, 2147483647, 511)] [] (by decide +kernel) (ro := [x1.toInt, x2.toInt, x3.toInt]) (asc := [.ref 0, .int x1, .int x2, .int x3]) (d := 19) (ab_env_push (ab_env_push (ab_env_push ab_env0 (ab_in3 (ab_i32 x1).1 (ab_i32 x1).2)) (ab_in3 (ab_i32 x2).1 (ab_i32 x2).2)) (ab_in3 (ab_i32 x3).1 (ab_i32 x3).2)) ab_F0 ab_ov0 ⟨rfl, ab_evx rfl rfl, ab_evx rfl rfl, ab_evx rfl rfl, trivial⟩ hok (by decide)
  obtain ⟨x, rfl⟩ := am_ret1 (List.all_eq_true.mp (show (ab_c_LV_like_0.2.2.2.2.all (fun X => match X.1 with
    | [some (.inl _)] => true
    | _ => false)) = true by decide +kernel) X hX) k4
  exact ⟨x, h2, k1, ⟨k2, hvl.frX k3 (by decide +kernel)⟩, k3, X, hX, ro2, k4⟩
theorem am_uX_verse {h : am_H} {x1 : Int32} {x2 : Int32} {x3 : Int32} {x4 : Int32} (hI : am_Iv h) : ∃ (x : Int32) (h2 : am_H), am_Do false 19 131 [.ref 0, .int x1, .int x2, .int x3, .int x4] h (some (.int x), h2) ∧ am_Iv h2 ∧ ab_fr ab_c_LV_verse_0.2.2.2.1 h h2 ∧ ∃ X ∈ ab_c_LV_verse_0.2.2.2.2, ∃ ro2, ab_at ro2 X [some (.int x)] h2 := by
  obtain ⟨hok, hvl⟩ := hI
  obtain ⟨X, hX, ro2, r, h2, k1, k2, k3, k4⟩ := ab_use ab_k_LV_verse_0 [.inr (.inr 0), .inl (ab_var 0), .inl (ab_var 1), .inl (ab_var 2), .inl (ab_var 3)] [] [(-2147483648, 2147483647, 511), (-2147483648, 2147483647, 511), (-2147483648, 2147483647, 511), (-2147483648, 2147483647, 511)] [] (by decide +kernel) (ro := [x1.toInt, x2.toInt, x3.toInt, x4.toInt]) (asc := [.ref 0, .int x1, .int x2, .int x3, .int x4]) (d := 19) (ab_env_push (ab_env_push (ab_env_push (ab_env_push ab_env0 (ab_in3 (ab_i32 x1).1 (ab_i32 x1).2)) (ab_in3 (ab_i32 x2).1 (ab_i32 x2).2)) (ab_in3 (ab_i32 x3).1 (ab_i32 x3).2)) (ab_in3 (ab_i32 x4).1 (ab_i32 x4).2)) ab_F0 ab_ov0 ⟨rfl, ab_evx rfl rfl, ab_evx rfl rfl, ab_evx rfl rfl, ab_evx rfl rfl, trivial⟩ hok (by decide)
  obtain ⟨x, rfl⟩ := am_ret1 (List.all_eq_true.mp (show (ab_c_LV_verse_0.2.2.2.2.all (fun X => match X.1 with
    | [some (.inl _)] => true
    | _ => false)) = true by decide +kernel) X hX) k4
  exact ⟨x, h2, k1, ⟨k2, hvl.frX k3 (by decide +kernel)⟩, k3, X, hX, ro2, k4⟩
theorem am_uX_breaks {h : am_H} {x1 : Int32} {x2 : Int32} {x3 : Int32} (hI : am_Iv h) : ∃ (x : Int32) (h2 : am_H), am_Do false 19 134 [.ref 0, .int x1, .int x2, .int x3] h (some (.int x), h2) ∧ am_Iv h2 ∧ ab_fr ab_c_LV_breaks_0.2.2.2.1 h h2 ∧ ∃ X ∈ ab_c_LV_breaks_0.2.2.2.2, ∃ ro2, ab_at ro2 X [some (.int x)] h2 := by
  obtain ⟨hok, hvl⟩ := hI
  obtain ⟨X, hX, ro2, r, h2, k1, k2, k3, k4⟩ := ab_use ab_k_LV_breaks_0 [.inr (.inr 0), .inl (ab_var 0), .inl (ab_var 1), .inl (ab_var 2)] [] [(-2147483648, 2147483647, 511), (-2147483648, 2147483647, 511), (-2147483648, 2147483647, 511)] [] (by decide +kernel) (ro := [x1.toInt, x2.toInt, x3.toInt]) (asc := [.ref 0, .int x1, .int x2, .int x3]) (d := 19) (ab_env_push (ab_env_push (ab_env_push ab_env0 (ab_in3 (ab_i32 x1).1 (ab_i32 x1).2)) (ab_in3 (ab_i32 x2).1 (ab_i32 x2).2)) (ab_in3 (ab_i32 x3).1 (ab_i32 x3).2)) ab_F0 ab_ov0 ⟨rfl, ab_evx rfl rfl, ab_evx rfl rfl, ab_evx rfl rfl, trivial⟩ hok (by decide)
  obtain ⟨x, rfl⟩ := am_ret1 (List.all_eq_true.mp (show (ab_c_LV_breaks_0.2.2.2.2.all (fun X => match X.1 with
    | [some (.inl _)] => true
    | _ => false)) = true by decide +kernel) X hX) k4
  exact ⟨x, h2, k1, ⟨k2, hvl.frX k3 (by decide +kernel)⟩, k3, X, hX, ro2, k4⟩
theorem am_uX_back {h : am_H} (hI : am_Iv h) : ∃ (x : Int32) (h2 : am_H), am_Do false 19 135 [.ref 0] h (some (.int x), h2) ∧ am_Iv h2 ∧ ab_fr ab_c_LV_back_0.2.2.2.1 h h2 ∧ ∃ X ∈ ab_c_LV_back_0.2.2.2.2, ∃ ro2, ab_at ro2 X [some (.int x)] h2 := by
  obtain ⟨hok, hvl⟩ := hI
  obtain ⟨X, hX, ro2, r, h2, k1, k2, k3, k4⟩ := ab_use ab_k_LV_back_0 [.inr (.inr 0)] [] [] [] (by decide +kernel) (ro := []) (asc := [.ref 0]) (d := 19) ab_env0 ab_F0 ab_ov0 ⟨rfl, trivial⟩ hok (by decide)
  obtain ⟨x, rfl⟩ := am_ret1 (List.all_eq_true.mp (show (ab_c_LV_back_0.2.2.2.2.all (fun X => match X.1 with
    | [some (.inl _)] => true
    | _ => false)) = true by decide +kernel) X hX) k4
  exact ⟨x, h2, k1, ⟨k2, hvl.frX k3 (by decide +kernel)⟩, k3, X, hX, ro2, k4⟩
theorem am_uX_worn {h : am_H} {x1 : Int32} {x2 : Int32} (hI : am_Iv h) (hx2 : 0 ≤ x2.toInt ∧ x2.toInt ≤ 1) : ∃ (x : Int32) (h2 : am_H), am_Do false 19 136 [.ref 0, .int x1, .int x2] h (some (.int x), h2) ∧ am_Iv h2 ∧ ab_fr ab_c_LV_worn_0.2.2.2.1 h h2 ∧ ∃ X ∈ ab_c_LV_worn_0.2.2.2.2, ∃ ro2, ab_at ro2 X [some (.int x)] h2 := by
  obtain ⟨hok, hvl⟩ := hI
  obtain ⟨X, hX, ro2, r, h2, k1, k2, k3, k4⟩ := ab_use ab_k_LV_worn_0 [.inr (.inr 0), .inl (ab_var 0), .inl (ab_var 1)] [] [(-2147483648, 2147483647, 511), (0, 1, 511)] [] (by decide +kernel) (ro := [x1.toInt, x2.toInt]) (asc := [.ref 0, .int x1, .int x2]) (d := 19) (ab_env_push (ab_env_push ab_env0 (ab_in3 (ab_i32 x1).1 (ab_i32 x1).2)) (ab_in3 hx2.1 hx2.2)) ab_F0 ab_ov0 ⟨rfl, ab_evx rfl rfl, ab_evx rfl rfl, trivial⟩ hok (by decide)
  obtain ⟨x, rfl⟩ := am_ret1 (List.all_eq_true.mp (show (ab_c_LV_worn_0.2.2.2.2.all (fun X => match X.1 with
    | [some (.inl _)] => true
    | _ => false)) = true by decide +kernel) X hX) k4
  exact ⟨x, h2, k1, ⟨k2, hvl.frX k3 (by decide +kernel)⟩, k3, X, hX, ro2, k4⟩
theorem am_uX_type {h : am_H} {x1 : Int32} (hI : am_Iv h) : ∃ (x : Int32) (h2 : am_H), am_Do false 19 137 [.ref 0, .int x1] h (some (.int x), h2) ∧ am_Iv h2 ∧ ab_fr ab_c_LV_type_0.2.2.2.1 h h2 ∧ ∃ X ∈ ab_c_LV_type_0.2.2.2.2, ∃ ro2, ab_at ro2 X [some (.int x)] h2 := by
  obtain ⟨hok, hvl⟩ := hI
  obtain ⟨X, hX, ro2, r, h2, k1, k2, k3, k4⟩ := ab_use ab_k_LV_type_0 [.inr (.inr 0), .inl (ab_var 0)] [] [(-2147483648, 2147483647, 511)] [] (by decide +kernel) (ro := [x1.toInt]) (asc := [.ref 0, .int x1]) (d := 19) (ab_env_push ab_env0 (ab_in3 (ab_i32 x1).1 (ab_i32 x1).2)) ab_F0 ab_ov0 ⟨rfl, ab_evx rfl rfl, trivial⟩ hok (by decide)
  obtain ⟨x, rfl⟩ := am_ret1 (List.all_eq_true.mp (show (ab_c_LV_type_0.2.2.2.2.all (fun X => match X.1 with
    | [some (.inl _)] => true
    | _ => false)) = true by decide +kernel) X hX) k4
  exact ⟨x, h2, k1, ⟨k2, hvl.frX k3 (by decide +kernel)⟩, k3, X, hX, ro2, k4⟩
theorem am_uX_ends {h : am_H} (hI : am_Iv h) : ∃ (x : Int32) (h2 : am_H), am_Do false 19 138 [.ref 0] h (some (.int x), h2) ∧ am_Iv h2 ∧ ab_fr ab_c_LV_ends_0.2.2.2.1 h h2 ∧ ∃ X ∈ ab_c_LV_ends_0.2.2.2.2, ∃ ro2, ab_at ro2 X [some (.int x)] h2 := by
  obtain ⟨hok, hvl⟩ := hI
  obtain ⟨X, hX, ro2, r, h2, k1, k2, k3, k4⟩ := ab_use ab_k_LV_ends_0 [.inr (.inr 0)] [] [] [] (by decide +kernel) (ro := []) (asc := [.ref 0]) (d := 19) ab_env0 ab_F0 ab_ov0 ⟨rfl, trivial⟩ hok (by decide)
  obtain ⟨x, rfl⟩ := am_ret1 (List.all_eq_true.mp (show (ab_c_LV_ends_0.2.2.2.2.all (fun X => match X.1 with
    | [some (.inl _)] => true
    | _ => false)) = true by decide +kernel) X hX) k4
  exact ⟨x, h2, k1, ⟨k2, hvl.frX k3 (by decide +kernel)⟩, k3, X, hX, ro2, k4⟩
theorem am_uX_full {h : am_H} {x1 : Int32} (hI : am_Iv h) : ∃ (x : Int32) (h2 : am_H), am_Do false 19 139 [.ref 0, .int x1] h (some (.int x), h2) ∧ am_Iv h2 ∧ ab_fr ab_c_LV_full_0.2.2.2.1 h h2 ∧ ∃ X ∈ ab_c_LV_full_0.2.2.2.2, ∃ ro2, ab_at ro2 X [some (.int x)] h2 := by
  obtain ⟨hok, hvl⟩ := hI
  obtain ⟨X, hX, ro2, r, h2, k1, k2, k3, k4⟩ := ab_use ab_k_LV_full_0 [.inr (.inr 0), .inl (ab_var 0)] [] [(-2147483648, 2147483647, 511)] [] (by decide +kernel) (ro := [x1.toInt]) (asc := [.ref 0, .int x1]) (d := 19) (ab_env_push ab_env0 (ab_in3 (ab_i32 x1).1 (ab_i32 x1).2)) ab_F0 ab_ov0 ⟨rfl, ab_evx rfl rfl, trivial⟩ hok (by decide)
  obtain ⟨x, rfl⟩ := am_ret1 (List.all_eq_true.mp (show (ab_c_LV_full_0.2.2.2.2.all (fun X => match X.1 with
    | [some (.inl _)] => true
    | _ => false)) = true by decide +kernel) X hX) k4
  exact ⟨x, h2, k1, ⟨k2, hvl.frX k3 (by decide +kernel)⟩, k3, X, hX, ro2, k4⟩
theorem am_uX_can {h : am_H} {x1 : Int32} (hI : am_Iv h) : ∃ (x : Int32) (h2 : am_H), am_Do false 19 140 [.ref 0, .int x1] h (some (.int x), h2) ∧ am_Iv h2 ∧ ab_fr ab_c_LV_can_0.2.2.2.1 h h2 ∧ ∃ X ∈ ab_c_LV_can_0.2.2.2.2, ∃ ro2, ab_at ro2 X [some (.int x)] h2 := by
  obtain ⟨hok, hvl⟩ := hI
  obtain ⟨X, hX, ro2, r, h2, k1, k2, k3, k4⟩ := ab_use ab_k_LV_can_0 [.inr (.inr 0), .inl (ab_var 0)] [] [(-2147483648, 2147483647, 511)] [] (by decide +kernel) (ro := [x1.toInt]) (asc := [.ref 0, .int x1]) (d := 19) (ab_env_push ab_env0 (ab_in3 (ab_i32 x1).1 (ab_i32 x1).2)) ab_F0 ab_ov0 ⟨rfl, ab_evx rfl rfl, trivial⟩ hok (by decide)
  obtain ⟨x, rfl⟩ := am_ret1 (List.all_eq_true.mp (show (ab_c_LV_can_0.2.2.2.2.all (fun X => match X.1 with
    | [some (.inl _)] => true
    | _ => false)) = true by decide +kernel) X hX) k4
  exact ⟨x, h2, k1, ⟨k2, hvl.frX k3 (by decide +kernel)⟩, k3, X, hX, ro2, k4⟩
theorem am_uX_store {h : am_H} {x1 : Int32} {x2 : Int32} {x3 : Int32} (hI : am_Iv h) : ∃ (x : Int32) (h2 : am_H), am_Do false 19 141 [.ref 0, .int x1, .int x2, .int x3] h (some (.int x), h2) ∧ am_Iv h2 ∧ ab_fr ab_c_LV_store_0.2.2.2.1 h h2 ∧ ∃ X ∈ ab_c_LV_store_0.2.2.2.2, ∃ ro2, ab_at ro2 X [some (.int x)] h2 := by
  obtain ⟨hok, hvl⟩ := hI
  obtain ⟨X, hX, ro2, r, h2, k1, k2, k3, k4⟩ := ab_use ab_k_LV_store_0 [.inr (.inr 0), .inl (ab_var 0), .inl (ab_var 1), .inl (ab_var 2)] [] [(-2147483648, 2147483647, 511), (-2147483648, 2147483647, 511), (-2147483648, 2147483647, 511)] [] (by decide +kernel) (ro := [x1.toInt, x2.toInt, x3.toInt]) (asc := [.ref 0, .int x1, .int x2, .int x3]) (d := 19) (ab_env_push (ab_env_push (ab_env_push ab_env0 (ab_in3 (ab_i32 x1).1 (ab_i32 x1).2)) (ab_in3 (ab_i32 x2).1 (ab_i32 x2).2)) (ab_in3 (ab_i32 x3).1 (ab_i32 x3).2)) ab_F0 ab_ov0 ⟨rfl, ab_evx rfl rfl, ab_evx rfl rfl, ab_evx rfl rfl, trivial⟩ hok (by decide)
  obtain ⟨x, rfl⟩ := am_ret1 (List.all_eq_true.mp (show (ab_c_LV_store_0.2.2.2.2.all (fun X => match X.1 with
    | [some (.inl _)] => true
    | _ => false)) = true by decide +kernel) X hX) k4
  exact ⟨x, h2, k1, ⟨k2, hvl.frX k3 (by decide +kernel)⟩, k3, X, hX, ro2, k4⟩
theorem am_uX_best {h : am_H} {x1 : Int32} (hI : am_Iv h) : ∃ (x : Int32) (h2 : am_H), am_Do false 19 142 [.ref 0, .int x1] h (some (.int x), h2) ∧ am_Iv h2 ∧ ab_fr ab_c_LV_best_0.2.2.2.1 h h2 ∧ ∃ X ∈ ab_c_LV_best_0.2.2.2.2, ∃ ro2, ab_at ro2 X [some (.int x)] h2 := by
  obtain ⟨hok, hvl⟩ := hI
  obtain ⟨X, hX, ro2, r, h2, k1, k2, k3, k4⟩ := ab_use ab_k_LV_best_0 [.inr (.inr 0), .inl (ab_var 0)] [] [(-2147483648, 2147483647, 511)] [] (by decide +kernel) (ro := [x1.toInt]) (asc := [.ref 0, .int x1]) (d := 19) (ab_env_push ab_env0 (ab_in3 (ab_i32 x1).1 (ab_i32 x1).2)) ab_F0 ab_ov0 ⟨rfl, ab_evx rfl rfl, trivial⟩ hok (by decide)
  obtain ⟨x, rfl⟩ := am_ret1 (List.all_eq_true.mp (show (ab_c_LV_best_0.2.2.2.2.all (fun X => match X.1 with
    | [some (.inl _)] => true
    | _ => false)) = true by decide +kernel) X hX) k4
  exact ⟨x, h2, k1, ⟨k2, hvl.frX k3 (by decide +kernel)⟩, k3, X, hX, ro2, k4⟩
theorem am_uX_bestOf {h : am_H} {x1 : Int32} (hI : am_Iv h) : ∃ (x : Int32) (h2 : am_H), am_Do false 19 143 [.ref 0, .int x1] h (some (.int x), h2) ∧ am_Iv h2 ∧ ab_fr ab_c_LV_bestOf_0.2.2.2.1 h h2 ∧ ∃ X ∈ ab_c_LV_bestOf_0.2.2.2.2, ∃ ro2, ab_at ro2 X [some (.int x)] h2 := by
  obtain ⟨hok, hvl⟩ := hI
  obtain ⟨X, hX, ro2, r, h2, k1, k2, k3, k4⟩ := ab_use ab_k_LV_bestOf_0 [.inr (.inr 0), .inl (ab_var 0)] [] [(-2147483648, 2147483647, 511)] [] (by decide +kernel) (ro := [x1.toInt]) (asc := [.ref 0, .int x1]) (d := 19) (ab_env_push ab_env0 (ab_in3 (ab_i32 x1).1 (ab_i32 x1).2)) ab_F0 ab_ov0 ⟨rfl, ab_evx rfl rfl, trivial⟩ hok (by decide)
  obtain ⟨x, rfl⟩ := am_ret1 (List.all_eq_true.mp (show (ab_c_LV_bestOf_0.2.2.2.2.all (fun X => match X.1 with
    | [some (.inl _)] => true
    | _ => false)) = true by decide +kernel) X hX) k4
  exact ⟨x, h2, k1, ⟨k2, hvl.frX k3 (by decide +kernel)⟩, k3, X, hX, ro2, k4⟩
theorem am_uX_verseOf {h : am_H} {x1 : Int32} {x2 : Int32} (hI : am_Iv h) : ∃ (x : Int32) (h2 : am_H), am_Do false 19 144 [.ref 0, .int x1, .int x2] h (some (.int x), h2) ∧ am_Iv h2 ∧ ab_fr ab_c_LV_verseOf_0.2.2.2.1 h h2 ∧ ∃ X ∈ ab_c_LV_verseOf_0.2.2.2.2, ∃ ro2, ab_at ro2 X [some (.int x)] h2 := by
  obtain ⟨hok, hvl⟩ := hI
  obtain ⟨X, hX, ro2, r, h2, k1, k2, k3, k4⟩ := ab_use ab_k_LV_verseOf_0 [.inr (.inr 0), .inl (ab_var 0), .inl (ab_var 1)] [] [(-2147483648, 2147483647, 511), (-2147483648, 2147483647, 511)] [] (by decide +kernel) (ro := [x1.toInt, x2.toInt]) (asc := [.ref 0, .int x1, .int x2]) (d := 19) (ab_env_push (ab_env_push ab_env0 (ab_in3 (ab_i32 x1).1 (ab_i32 x1).2)) (ab_in3 (ab_i32 x2).1 (ab_i32 x2).2)) ab_F0 ab_ov0 ⟨rfl, ab_evx rfl rfl, ab_evx rfl rfl, trivial⟩ hok (by decide)
  obtain ⟨x, rfl⟩ := am_ret1 (List.all_eq_true.mp (show (ab_c_LV_verseOf_0.2.2.2.2.all (fun X => match X.1 with
    | [some (.inl _)] => true
    | _ => false)) = true by decide +kernel) X hX) k4
  exact ⟨x, h2, k1, ⟨k2, hvl.frX k3 (by decide +kernel)⟩, k3, X, hX, ro2, k4⟩
theorem am_uX_poetOf {h : am_H} {x1 : Int32} {x2 : Int32} (hI : am_Iv h) : ∃ (x : Int32) (h2 : am_H), am_Do false 19 145 [.ref 0, .int x1, .int x2] h (some (.int x), h2) ∧ am_Iv h2 ∧ ab_fr ab_c_LV_poetOf_0.2.2.2.1 h h2 ∧ ∃ X ∈ ab_c_LV_poetOf_0.2.2.2.2, ∃ ro2, ab_at ro2 X [some (.int x)] h2 := by
  obtain ⟨hok, hvl⟩ := hI
  obtain ⟨X, hX, ro2, r, h2, k1, k2, k3, k4⟩ := ab_use ab_k_LV_poetOf_0 [.inr (.inr 0), .inl (ab_var 0), .inl (ab_var 1)] [] [(-2147483648, 2147483647, 511), (-2147483648, 2147483647, 511)] [] (by decide +kernel) (ro := [x1.toInt, x2.toInt]) (asc := [.ref 0, .int x1, .int x2]) (d := 19) (ab_env_push (ab_env_push ab_env0 (ab_in3 (ab_i32 x1).1 (ab_i32 x1).2)) (ab_in3 (ab_i32 x2).1 (ab_i32 x2).2)) ab_F0 ab_ov0 ⟨rfl, ab_evx rfl rfl, ab_evx rfl rfl, trivial⟩ hok (by decide)
  obtain ⟨x, rfl⟩ := am_ret1 (List.all_eq_true.mp (show (ab_c_LV_poetOf_0.2.2.2.2.all (fun X => match X.1 with
    | [some (.inl _)] => true
    | _ => false)) = true by decide +kernel) X hX) k4
  exact ⟨x, h2, k1, ⟨k2, hvl.frX k3 (by decide +kernel)⟩, k3, X, hX, ro2, k4⟩
theorem am_uX_ruleOf {h : am_H} {x1 : Int32} {x2 : Int32} (hI : am_Iv h) : ∃ (x : Int32) (h2 : am_H), am_Do false 19 146 [.ref 0, .int x1, .int x2] h (some (.int x), h2) ∧ am_Iv h2 ∧ ab_fr ab_c_LV_ruleOf_0.2.2.2.1 h h2 ∧ ∃ X ∈ ab_c_LV_ruleOf_0.2.2.2.2, ∃ ro2, ab_at ro2 X [some (.int x)] h2 := by
  obtain ⟨hok, hvl⟩ := hI
  obtain ⟨X, hX, ro2, r, h2, k1, k2, k3, k4⟩ := ab_use ab_k_LV_ruleOf_0 [.inr (.inr 0), .inl (ab_var 0), .inl (ab_var 1)] [] [(-2147483648, 2147483647, 511), (-2147483648, 2147483647, 511)] [] (by decide +kernel) (ro := [x1.toInt, x2.toInt]) (asc := [.ref 0, .int x1, .int x2]) (d := 19) (ab_env_push (ab_env_push ab_env0 (ab_in3 (ab_i32 x1).1 (ab_i32 x1).2)) (ab_in3 (ab_i32 x2).1 (ab_i32 x2).2)) ab_F0 ab_ov0 ⟨rfl, ab_evx rfl rfl, ab_evx rfl rfl, trivial⟩ hok (by decide)
  obtain ⟨x, rfl⟩ := am_ret1 (List.all_eq_true.mp (show (ab_c_LV_ruleOf_0.2.2.2.2.all (fun X => match X.1 with
    | [some (.inl _)] => true
    | _ => false)) = true by decide +kernel) X hX) k4
  exact ⟨x, h2, k1, ⟨k2, hvl.frX k3 (by decide +kernel)⟩, k3, X, hX, ro2, k4⟩
theorem am_uX_count {h : am_H} {x1 : Int32} (hI : am_Iv h) : ∃ (x : Int32) (h2 : am_H), am_Do false 19 147 [.ref 0, .int x1] h (some (.int x), h2) ∧ am_Iv h2 ∧ ab_fr ab_c_LV_count_0.2.2.2.1 h h2 ∧ ∃ X ∈ ab_c_LV_count_0.2.2.2.2, ∃ ro2, ab_at ro2 X [some (.int x)] h2 := by
  obtain ⟨hok, hvl⟩ := hI
  obtain ⟨X, hX, ro2, r, h2, k1, k2, k3, k4⟩ := ab_use ab_k_LV_count_0 [.inr (.inr 0), .inl (ab_var 0)] [] [(-2147483648, 2147483647, 511)] [] (by decide +kernel) (ro := [x1.toInt]) (asc := [.ref 0, .int x1]) (d := 19) (ab_env_push ab_env0 (ab_in3 (ab_i32 x1).1 (ab_i32 x1).2)) ab_F0 ab_ov0 ⟨rfl, ab_evx rfl rfl, trivial⟩ hok (by decide)
  obtain ⟨x, rfl⟩ := am_ret1 (List.all_eq_true.mp (show (ab_c_LV_count_0.2.2.2.2.all (fun X => match X.1 with
    | [some (.inl _)] => true
    | _ => false)) = true by decide +kernel) X hX) k4
  exact ⟨x, h2, k1, ⟨k2, hvl.frX k3 (by decide +kernel)⟩, k3, X, hX, ro2, k4⟩
theorem am_uM_feed {h : am_H} {x1 : Int64} {x2 : Int64} {x3 : Int64} (hI : am_Iv h) : ∃ (x : Int32) (h2 : am_H), am_Do false 19 150 [.ref 64, .long x1, .long x2, .long x3] h (some (.int x), h2) ∧ am_Iv h2 ∧ ab_fr ab_c_LVModel_feed_64.2.2.2.1 h h2 ∧ ∃ X ∈ ab_c_LVModel_feed_64.2.2.2.2, ∃ ro2, ab_at ro2 X [some (.int x)] h2 := by
  obtain ⟨hok, hvl⟩ := hI
  obtain ⟨X, hX, ro2, r, h2, k1, k2, k3, k4⟩ := ab_use ab_k_LVModel_feed_64 [.inr (.inr 64), .inr (.inl none), .inr (.inl none), .inr (.inl none)] [] [] [] (by decide +kernel) (ro := []) (asc := [.ref 64, .long x1, .long x2, .long x3]) (d := 19) ab_env0 ab_F0 ab_ov0 ⟨rfl, ab_v_l0, ab_v_l0, ab_v_l0, trivial⟩ hok (by decide)
  obtain ⟨x, rfl⟩ := am_ret1 (List.all_eq_true.mp (show (ab_c_LVModel_feed_64.2.2.2.2.all (fun X => match X.1 with
    | [some (.inl _)] => true
    | _ => false)) = true by decide +kernel) X hX) k4
  exact ⟨x, h2, k1, ⟨k2, hvl.frM hok k3 (by decide +kernel)⟩, k3, X, hX, ro2, k4⟩
theorem am_uM_read {h : am_H} (hI : am_Iv h) : ∃ (x : Int32) (h2 : am_H), am_Do false 19 151 [.ref 64] h (some (.int x), h2) ∧ am_Iv h2 ∧ ab_fr ab_c_LVModel_read_64.2.2.2.1 h h2 ∧ ∃ X ∈ ab_c_LVModel_read_64.2.2.2.2, ∃ ro2, ab_at ro2 X [some (.int x)] h2 := by
  obtain ⟨hok, l, v, hl, hv, hlv⟩ := hI
  obtain ⟨l2, hl2, l3, l4⟩ := am_fld_int (k := 24) (lo := 0) (hi := 48) hok am_d64 rfl rfl
  obtain ⟨v2, hv2, v3, v4⟩ := am_fld_int (k := 40) (lo := 0) (hi := 48) hok am_d64 rfl rfl
  rw [hl] at hl2
  cases hl2
  rw [hv] at hv2
  cases hv2
  obtain ⟨X, hX, ro2, r, h2, k1, k2, k3, k4⟩ := ab_use ab_k_LVModel_read_64 [.inr (.inr 64)] [(64, ((24 : Int), []), .inl (ab_var 0)), (64, ((40 : Int), []), .inl (ab_var 1))] [(0, 48, 511), (0, 48, 511)] [ab_sub (ab_var 0) (ab_var 1)] (by decide +kernel) (ro := [l.toInt, v.toInt]) (asc := [.ref 64]) (d := 19) (ab_env_push (ab_env_push ab_env0 (ab_in3 (lo := 0) (hi := 48) l3 l4)) (ab_in3 (lo := 0) (hi := 48) v3 v4)) (fun f hf => by
    rcases List.mem_singleton.mp hf with rfl
    exact ⟨_, ab_sub_ok (ab_ev_var rfl) (ab_ev_var rfl), by omega⟩) (fun q hq => by
    simp only [List.mem_cons, List.not_mem_nil, or_false] at hq
    rcases hq with rfl | rfl
    · exact ⟨24, .int l, ab_ev_k _ _, hl, ab_evx rfl rfl⟩
    · exact ⟨40, .int v, ab_ev_k _ _, hv, ab_evx rfl rfl⟩) ⟨rfl, trivial⟩ hok (by decide)
  have h5 := List.all_eq_true.mp (show (ab_c_LVModel_read_64.2.2.2.2.all (fun X => am_VLc X && (match X.1 with
    | [some (.inl _)] => true
    | _ => false))) = true by decide +kernel) X hX
  rw [Bool.and_eq_true] at h5
  have h6 := am_VLc_ok h5.1 k4
  obtain ⟨x, rfl⟩ := am_ret1 h5.2 k4
  exact ⟨x, h2, k1, ⟨k2, h6⟩, k3, X, hX, ro2, k4⟩
theorem am_uM_poet {h : am_H} {x1 : Int32} (hI : am_Iv h) : ∃ (x : Int32) (h2 : am_H), am_Do false 19 167 [.ref 64, .int x1] h (some (.int x), h2) ∧ am_Iv h2 ∧ ab_fr ab_c_LVModel_poet_64.2.2.2.1 h h2 ∧ ∃ X ∈ ab_c_LVModel_poet_64.2.2.2.2, ∃ ro2, ab_at ro2 X [some (.int x)] h2 := by
  obtain ⟨hok, hvl⟩ := hI
  obtain ⟨X, hX, ro2, r, h2, k1, k2, k3, k4⟩ := ab_use ab_k_LVModel_poet_64 [.inr (.inr 64), .inl (ab_var 0)] [] [(-2147483648, 2147483647, 511)] [] (by decide +kernel) (ro := [x1.toInt]) (asc := [.ref 64, .int x1]) (d := 19) (ab_env_push ab_env0 (ab_in3 (ab_i32 x1).1 (ab_i32 x1).2)) ab_F0 ab_ov0 ⟨rfl, ab_evx rfl rfl, trivial⟩ hok (by decide)
  obtain ⟨x, rfl⟩ := am_ret1 (List.all_eq_true.mp (show (ab_c_LVModel_poet_64.2.2.2.2.all (fun X => match X.1 with
    | [some (.inl _)] => true
    | _ => false)) = true by decide +kernel) X hX) k4
  exact ⟨x, h2, k1, ⟨k2, hvl.frM hok k3 (by decide +kernel)⟩, k3, X, hX, ro2, k4⟩
theorem am_uM_turn {h : am_H} (hI : am_Iv h) : ∃ (x : Int32) (h2 : am_H), am_Do false 19 169 [.ref 64] h (some (.int x), h2) ∧ am_Iv h2 ∧ ab_fr ab_c_LVModel_turn_64.2.2.2.1 h h2 ∧ ∃ X ∈ ab_c_LVModel_turn_64.2.2.2.2, ∃ ro2, ab_at ro2 X [some (.int x)] h2 := by
  obtain ⟨hok, l, v, hl, hv, hlv⟩ := hI
  obtain ⟨l2, hl2, l3, l4⟩ := am_fld_int (k := 24) (lo := 0) (hi := 48) hok am_d64 rfl rfl
  obtain ⟨v2, hv2, v3, v4⟩ := am_fld_int (k := 40) (lo := 0) (hi := 48) hok am_d64 rfl rfl
  rw [hl] at hl2
  cases hl2
  rw [hv] at hv2
  cases hv2
  obtain ⟨X, hX, ro2, r, h2, k1, k2, k3, k4⟩ := ab_use ab_k_LVModel_turn_64 [.inr (.inr 64)] [(64, ((24 : Int), []), .inl (ab_var 0)), (64, ((40 : Int), []), .inl (ab_var 1))] [(0, 48, 511), (0, 48, 511)] [ab_sub (ab_var 0) (ab_var 1)] (by decide +kernel) (ro := [l.toInt, v.toInt]) (asc := [.ref 64]) (d := 19) (ab_env_push (ab_env_push ab_env0 (ab_in3 (lo := 0) (hi := 48) l3 l4)) (ab_in3 (lo := 0) (hi := 48) v3 v4)) (fun f hf => by
    rcases List.mem_singleton.mp hf with rfl
    exact ⟨_, ab_sub_ok (ab_ev_var rfl) (ab_ev_var rfl), by omega⟩) (fun q hq => by
    simp only [List.mem_cons, List.not_mem_nil, or_false] at hq
    rcases hq with rfl | rfl
    · exact ⟨24, .int l, ab_ev_k _ _, hl, ab_evx rfl rfl⟩
    · exact ⟨40, .int v, ab_ev_k _ _, hv, ab_evx rfl rfl⟩) ⟨rfl, trivial⟩ hok (by decide)
  obtain ⟨x, rfl⟩ := am_ret1 (List.all_eq_true.mp (show (ab_c_LVModel_turn_64.2.2.2.2.all (fun X => match X.1 with
    | [some (.inl _)] => true
    | _ => false)) = true by decide +kernel) X hX) k4
  exact ⟨x, h2, k1, ⟨k2, am_VL.frM ⟨l, v, hl, hv, hlv⟩ hok k3 (by decide +kernel)⟩, k3, X, hX, ro2, k4⟩
theorem am_uM_pass {h : am_H} (hI : am_Iv h) : ∃ (x : Int32) (h2 : am_H), am_Do false 19 171 [.ref 64] h (some (.int x), h2) ∧ am_Iv h2 ∧ ab_fr ab_c_LVModel_pass_64.2.2.2.1 h h2 ∧ ∃ X ∈ ab_c_LVModel_pass_64.2.2.2.2, ∃ ro2, ab_at ro2 X [some (.int x)] h2 := by
  obtain ⟨hok, l, v, hl, hv, hlv⟩ := hI
  obtain ⟨l2, hl2, l3, l4⟩ := am_fld_int (k := 24) (lo := 0) (hi := 48) hok am_d64 rfl rfl
  obtain ⟨v2, hv2, v3, v4⟩ := am_fld_int (k := 40) (lo := 0) (hi := 48) hok am_d64 rfl rfl
  rw [hl] at hl2
  cases hl2
  rw [hv] at hv2
  cases hv2
  obtain ⟨X, hX, ro2, r, h2, k1, k2, k3, k4⟩ := ab_use ab_k_LVModel_pass_64 [.inr (.inr 64)] [(64, ((24 : Int), []), .inl (ab_var 0)), (64, ((40 : Int), []), .inl (ab_var 1))] [(0, 48, 511), (0, 48, 511)] [ab_sub (ab_var 0) (ab_var 1)] (by decide +kernel) (ro := [l.toInt, v.toInt]) (asc := [.ref 64]) (d := 19) (ab_env_push (ab_env_push ab_env0 (ab_in3 (lo := 0) (hi := 48) l3 l4)) (ab_in3 (lo := 0) (hi := 48) v3 v4)) (fun f hf => by
    rcases List.mem_singleton.mp hf with rfl
    exact ⟨_, ab_sub_ok (ab_ev_var rfl) (ab_ev_var rfl), by omega⟩) (fun q hq => by
    simp only [List.mem_cons, List.not_mem_nil, or_false] at hq
    rcases hq with rfl | rfl
    · exact ⟨24, .int l, ab_ev_k _ _, hl, ab_evx rfl rfl⟩
    · exact ⟨40, .int v, ab_ev_k _ _, hv, ab_evx rfl rfl⟩) ⟨rfl, trivial⟩ hok (by decide)
  obtain ⟨x, rfl⟩ := am_ret1 (List.all_eq_true.mp (show (ab_c_LVModel_pass_64.2.2.2.2.all (fun X => match X.1 with
    | [some (.inl _)] => true
    | _ => false)) = true by decide +kernel) X hX) k4
  exact ⟨x, h2, k1, ⟨k2, am_VL.frM ⟨l, v, hl, hv, hlv⟩ hok k3 (by decide +kernel)⟩, k3, X, hX, ro2, k4⟩
theorem am_uM_year {h : am_H} {x1 : Int32} (hI : am_Iv h) : ∃ (x : Int32) (h2 : am_H), am_Do false 19 173 [.ref 64, .int x1] h (some (.int x), h2) ∧ am_Iv h2 ∧ ab_fr ab_c_LVModel_year_64.2.2.2.1 h h2 ∧ ∃ X ∈ ab_c_LVModel_year_64.2.2.2.2, ∃ ro2, ab_at ro2 X [some (.int x)] h2 := by
  obtain ⟨hok, hvl⟩ := hI
  obtain ⟨X, hX, ro2, r, h2, k1, k2, k3, k4⟩ := ab_use ab_k_LVModel_year_64 [.inr (.inr 64), .inl (ab_var 0)] [] [(-2147483648, 2147483647, 511)] [] (by decide +kernel) (ro := [x1.toInt]) (asc := [.ref 64, .int x1]) (d := 19) (ab_env_push ab_env0 (ab_in3 (ab_i32 x1).1 (ab_i32 x1).2)) ab_F0 ab_ov0 ⟨rfl, ab_evx rfl rfl, trivial⟩ hok (by decide)
  obtain ⟨x, rfl⟩ := am_ret1 (List.all_eq_true.mp (show (ab_c_LVModel_year_64.2.2.2.2.all (fun X => match X.1 with
    | [some (.inl _)] => true
    | _ => false)) = true by decide +kernel) X hX) k4
  exact ⟨x, h2, k1, ⟨k2, hvl.frM hok k3 (by decide +kernel)⟩, k3, X, hX, ro2, k4⟩
theorem am_uM_entry {h : am_H} {x1 : Int32} {x2 : Int32} {x3 : Int32} (hI : am_Iv h) : ∃ (x : Int32) (h2 : am_H), am_Do false 19 174 [.ref 64, .int x1, .int x2, .int x3] h (some (.int x), h2) ∧ am_Iv h2 ∧ ab_fr ab_c_LVModel_entry_64.2.2.2.1 h h2 ∧ ∃ X ∈ ab_c_LVModel_entry_64.2.2.2.2, ∃ ro2, ab_at ro2 X [some (.int x)] h2 := by
  obtain ⟨hok, hvl⟩ := hI
  obtain ⟨X, hX, ro2, r, h2, k1, k2, k3, k4⟩ := ab_use ab_k_LVModel_entry_64 [.inr (.inr 64), .inl (ab_var 0), .inl (ab_var 1), .inl (ab_var 2)] [] [(-2147483648, 2147483647, 511), (-2147483648, 2147483647, 511), (-2147483648, 2147483647, 511)] [] (by decide +kernel) (ro := [x1.toInt, x2.toInt, x3.toInt]) (asc := [.ref 64, .int x1, .int x2, .int x3]) (d := 19) (ab_env_push (ab_env_push (ab_env_push ab_env0 (ab_in3 (ab_i32 x1).1 (ab_i32 x1).2)) (ab_in3 (ab_i32 x2).1 (ab_i32 x2).2)) (ab_in3 (ab_i32 x3).1 (ab_i32 x3).2)) ab_F0 ab_ov0 ⟨rfl, ab_evx rfl rfl, ab_evx rfl rfl, ab_evx rfl rfl, trivial⟩ hok (by decide)
  obtain ⟨x, rfl⟩ := am_ret1 (List.all_eq_true.mp (show (ab_c_LVModel_entry_64.2.2.2.2.all (fun X => match X.1 with
    | [some (.inl _)] => true
    | _ => false)) = true by decide +kernel) X hX) k4
  exact ⟨x, h2, k1, ⟨k2, hvl.frM hok k3 (by decide +kernel)⟩, k3, X, hX, ro2, k4⟩
theorem am_uM_word {h : am_H} {x1 : Int32} (hI : am_Iv h) : ∃ (x : Int32) (h2 : am_H), am_Do false 19 176 [.ref 64, .int x1] h (some (.int x), h2) ∧ am_Iv h2 ∧ ab_fr ab_c_LVModel_word_64.2.2.2.1 h h2 ∧ ∃ X ∈ ab_c_LVModel_word_64.2.2.2.2, ∃ ro2, ab_at ro2 X [some (.int x)] h2 := by
  obtain ⟨hok, hvl⟩ := hI
  obtain ⟨X, hX, ro2, r, h2, k1, k2, k3, k4⟩ := ab_use ab_k_LVModel_word_64 [.inr (.inr 64), .inl (ab_var 0)] [] [(-2147483648, 2147483647, 511)] [] (by decide +kernel) (ro := [x1.toInt]) (asc := [.ref 64, .int x1]) (d := 19) (ab_env_push ab_env0 (ab_in3 (ab_i32 x1).1 (ab_i32 x1).2)) ab_F0 ab_ov0 ⟨rfl, ab_evx rfl rfl, trivial⟩ hok (by decide)
  obtain ⟨x, rfl⟩ := am_ret1 (List.all_eq_true.mp (show (ab_c_LVModel_word_64.2.2.2.2.all (fun X => match X.1 with
    | [some (.inl _)] => true
    | _ => false)) = true by decide +kernel) X hX) k4
  exact ⟨x, h2, k1, ⟨k2, hvl.frM hok k3 (by decide +kernel)⟩, k3, X, hX, ro2, k4⟩
theorem am_uM_like {h : am_H} {x1 : Int32} {x2 : Int32} {x3 : Int32} (hI : am_Iv h) : ∃ (x : Int32) (h2 : am_H), am_Do false 19 178 [.ref 64, .int x1, .int x2, .int x3] h (some (.int x), h2) ∧ am_Iv h2 ∧ ab_fr ab_c_LVModel_like_64.2.2.2.1 h h2 ∧ ∃ X ∈ ab_c_LVModel_like_64.2.2.2.2, ∃ ro2, ab_at ro2 X [some (.int x)] h2 := by
  obtain ⟨hok, hvl⟩ := hI
  obtain ⟨X, hX, ro2, r, h2, k1, k2, k3, k4⟩ := ab_use ab_k_LVModel_like_64 [.inr (.inr 64), .inl (ab_var 0), .inl (ab_var 1), .inl (ab_var 2)] [] [(-2147483648, 2147483647, 511), (-2147483648, 2147483647, 511), (-2147483648, 2147483647, 511)] [] (by decide +kernel) (ro := [x1.toInt, x2.toInt, x3.toInt]) (asc := [.ref 64, .int x1, .int x2, .int x3]) (d := 19) (ab_env_push (ab_env_push (ab_env_push ab_env0 (ab_in3 (ab_i32 x1).1 (ab_i32 x1).2)) (ab_in3 (ab_i32 x2).1 (ab_i32 x2).2)) (ab_in3 (ab_i32 x3).1 (ab_i32 x3).2)) ab_F0 ab_ov0 ⟨rfl, ab_evx rfl rfl, ab_evx rfl rfl, ab_evx rfl rfl, trivial⟩ hok (by decide)
  obtain ⟨x, rfl⟩ := am_ret1 (List.all_eq_true.mp (show (ab_c_LVModel_like_64.2.2.2.2.all (fun X => match X.1 with
    | [some (.inl _)] => true
    | _ => false)) = true by decide +kernel) X hX) k4
  exact ⟨x, h2, k1, ⟨k2, hvl.frM hok k3 (by decide +kernel)⟩, k3, X, hX, ro2, k4⟩
theorem am_uM_liking {h : am_H} {x1 : Int32} {x2 : Int32} (hI : am_Iv h) : ∃ (x : Int32) (h2 : am_H), am_Do false 19 179 [.ref 64, .int x1, .int x2] h (some (.int x), h2) ∧ am_Iv h2 ∧ ab_fr ab_c_LVModel_liking_64.2.2.2.1 h h2 ∧ ∃ X ∈ ab_c_LVModel_liking_64.2.2.2.2, ∃ ro2, ab_at ro2 X [some (.int x)] h2 := by
  obtain ⟨hok, hvl⟩ := hI
  obtain ⟨X, hX, ro2, r, h2, k1, k2, k3, k4⟩ := ab_use ab_k_LVModel_liking_64 [.inr (.inr 64), .inl (ab_var 0), .inl (ab_var 1)] [] [(-2147483648, 2147483647, 511), (-2147483648, 2147483647, 511)] [] (by decide +kernel) (ro := [x1.toInt, x2.toInt]) (asc := [.ref 64, .int x1, .int x2]) (d := 19) (ab_env_push (ab_env_push ab_env0 (ab_in3 (ab_i32 x1).1 (ab_i32 x1).2)) (ab_in3 (ab_i32 x2).1 (ab_i32 x2).2)) ab_F0 ab_ov0 ⟨rfl, ab_evx rfl rfl, ab_evx rfl rfl, trivial⟩ hok (by decide)
  obtain ⟨x, rfl⟩ := am_ret1 (List.all_eq_true.mp (show (ab_c_LVModel_liking_64.2.2.2.2.all (fun X => match X.1 with
    | [some (.inl _)] => true
    | _ => false)) = true by decide +kernel) X hX) k4
  exact ⟨x, h2, k1, ⟨k2, hvl.frM hok k3 (by decide +kernel)⟩, k3, X, hX, ro2, k4⟩
theorem am_uM_verse {h : am_H} {x1 : Int32} {x2 : Int32} {x3 : Int32} {x4 : Int32} (hI : am_Iv h) : ∃ (x : Int32) (h2 : am_H), am_Do false 19 181 [.ref 64, .int x1, .int x2, .int x3, .int x4] h (some (.int x), h2) ∧ am_Iv h2 ∧ ab_fr ab_c_LVModel_verse_64.2.2.2.1 h h2 ∧ ∃ X ∈ ab_c_LVModel_verse_64.2.2.2.2, ∃ ro2, ab_at ro2 X [some (.int x)] h2 := by
  obtain ⟨hok, l, v, hl, hv, hlv⟩ := hI
  obtain ⟨l2, hl2, l3, l4⟩ := am_fld_int (k := 24) (lo := 0) (hi := 48) hok am_d64 rfl rfl
  obtain ⟨v2, hv2, v3, v4⟩ := am_fld_int (k := 40) (lo := 0) (hi := 48) hok am_d64 rfl rfl
  rw [hl] at hl2
  cases hl2
  rw [hv] at hv2
  cases hv2
  obtain ⟨X, hX, ro2, r, h2, k1, k2, k3, k4⟩ := ab_use ab_k_LVModel_verse_64 [.inr (.inr 64), .inl (ab_var 0), .inl (ab_var 1), .inl (ab_var 2), .inl (ab_var 3)] [(64, ((24 : Int), []), .inl (ab_var 4)), (64, ((40 : Int), []), .inl (ab_var 5))] [(-2147483648, 2147483647, 511), (-2147483648, 2147483647, 511), (-2147483648, 2147483647, 511), (-2147483648, 2147483647, 511), (0, 48, 511), (0, 48, 511)] [ab_sub (ab_var 4) (ab_var 5)] (by decide +kernel) (ro := [x1.toInt, x2.toInt, x3.toInt, x4.toInt, l.toInt, v.toInt]) (asc := [.ref 64, .int x1, .int x2, .int x3, .int x4]) (d := 19) (ab_env_push (ab_env_push (ab_env_push (ab_env_push (ab_env_push (ab_env_push ab_env0 (ab_in3 (ab_i32 x1).1 (ab_i32 x1).2)) (ab_in3 (ab_i32 x2).1 (ab_i32 x2).2)) (ab_in3 (ab_i32 x3).1 (ab_i32 x3).2)) (ab_in3 (ab_i32 x4).1 (ab_i32 x4).2)) (ab_in3 (lo := 0) (hi := 48) l3 l4)) (ab_in3 (lo := 0) (hi := 48) v3 v4)) (fun f hf => by
    rcases List.mem_singleton.mp hf with rfl
    exact ⟨_, ab_sub_ok (ab_ev_var rfl) (ab_ev_var rfl), by omega⟩) (fun q hq => by
    simp only [List.mem_cons, List.not_mem_nil, or_false] at hq
    rcases hq with rfl | rfl
    · exact ⟨24, .int l, ab_ev_k _ _, hl, ab_evx rfl rfl⟩
    · exact ⟨40, .int v, ab_ev_k _ _, hv, ab_evx rfl rfl⟩) ⟨rfl, ab_evx rfl rfl, ab_evx rfl rfl, ab_evx rfl rfl, ab_evx rfl rfl, trivial⟩ hok (by decide)
  have h5 := List.all_eq_true.mp (show (ab_c_LVModel_verse_64.2.2.2.2.all (fun X => am_VLc X && (match X.1 with
    | [some (.inl _)] => true
    | _ => false))) = true by decide +kernel) X hX
  rw [Bool.and_eq_true] at h5
  have h6 := am_VLc_ok h5.1 k4
  obtain ⟨x, rfl⟩ := am_ret1 h5.2 k4
  exact ⟨x, h2, k1, ⟨k2, h6⟩, k3, X, hX, ro2, k4⟩
theorem am_uM_breaks {h : am_H} {x1 : Int32} {x2 : Int32} {x3 : Int32} (hI : am_Iv h) : ∃ (x : Int32) (h2 : am_H), am_Do false 19 193 [.ref 64, .int x1, .int x2, .int x3] h (some (.int x), h2) ∧ am_Iv h2 ∧ ab_fr ab_c_LVModel_breaks_64.2.2.2.1 h h2 ∧ ∃ X ∈ ab_c_LVModel_breaks_64.2.2.2.2, ∃ ro2, ab_at ro2 X [some (.int x)] h2 := by
  obtain ⟨hok, hvl⟩ := hI
  obtain ⟨X, hX, ro2, r, h2, k1, k2, k3, k4⟩ := ab_use ab_k_LVModel_breaks_64 [.inr (.inr 64), .inl (ab_var 0), .inl (ab_var 1), .inl (ab_var 2)] [] [(-2147483648, 2147483647, 511), (-2147483648, 2147483647, 511), (-2147483648, 2147483647, 511)] [] (by decide +kernel) (ro := [x1.toInt, x2.toInt, x3.toInt]) (asc := [.ref 64, .int x1, .int x2, .int x3]) (d := 19) (ab_env_push (ab_env_push (ab_env_push ab_env0 (ab_in3 (ab_i32 x1).1 (ab_i32 x1).2)) (ab_in3 (ab_i32 x2).1 (ab_i32 x2).2)) (ab_in3 (ab_i32 x3).1 (ab_i32 x3).2)) ab_F0 ab_ov0 ⟨rfl, ab_evx rfl rfl, ab_evx rfl rfl, ab_evx rfl rfl, trivial⟩ hok (by decide)
  obtain ⟨x, rfl⟩ := am_ret1 (List.all_eq_true.mp (show (ab_c_LVModel_breaks_64.2.2.2.2.all (fun X => match X.1 with
    | [some (.inl _)] => true
    | _ => false)) = true by decide +kernel) X hX) k4
  exact ⟨x, h2, k1, ⟨k2, hvl.frM hok k3 (by decide +kernel)⟩, k3, X, hX, ro2, k4⟩
theorem am_uM_back {h : am_H} (hI : am_Iv h) : ∃ (x : Int32) (h2 : am_H), am_Do false 19 194 [.ref 64] h (some (.int x), h2) ∧ am_Iv h2 ∧ ab_fr ab_c_LVModel_back_64.2.2.2.1 h h2 ∧ ∃ X ∈ ab_c_LVModel_back_64.2.2.2.2, ∃ ro2, ab_at ro2 X [some (.int x)] h2 := by
  obtain ⟨hok, l, v, hl, hv, hlv⟩ := hI
  obtain ⟨l2, hl2, l3, l4⟩ := am_fld_int (k := 24) (lo := 0) (hi := 48) hok am_d64 rfl rfl
  obtain ⟨v2, hv2, v3, v4⟩ := am_fld_int (k := 40) (lo := 0) (hi := 48) hok am_d64 rfl rfl
  rw [hl] at hl2
  cases hl2
  rw [hv] at hv2
  cases hv2
  obtain ⟨X, hX, ro2, r, h2, k1, k2, k3, k4⟩ := ab_use ab_k_LVModel_back_64 [.inr (.inr 64)] [(64, ((24 : Int), []), .inl (ab_var 0)), (64, ((40 : Int), []), .inl (ab_var 1))] [(0, 48, 511), (0, 48, 511)] [ab_sub (ab_var 0) (ab_var 1)] (by decide +kernel) (ro := [l.toInt, v.toInt]) (asc := [.ref 64]) (d := 19) (ab_env_push (ab_env_push ab_env0 (ab_in3 (lo := 0) (hi := 48) l3 l4)) (ab_in3 (lo := 0) (hi := 48) v3 v4)) (fun f hf => by
    rcases List.mem_singleton.mp hf with rfl
    exact ⟨_, ab_sub_ok (ab_ev_var rfl) (ab_ev_var rfl), by omega⟩) (fun q hq => by
    simp only [List.mem_cons, List.not_mem_nil, or_false] at hq
    rcases hq with rfl | rfl
    · exact ⟨24, .int l, ab_ev_k _ _, hl, ab_evx rfl rfl⟩
    · exact ⟨40, .int v, ab_ev_k _ _, hv, ab_evx rfl rfl⟩) ⟨rfl, trivial⟩ hok (by decide)
  have h5 := List.all_eq_true.mp (show (ab_c_LVModel_back_64.2.2.2.2.all (fun X => am_VLc X && (match X.1 with
    | [some (.inl _)] => true
    | _ => false))) = true by decide +kernel) X hX
  rw [Bool.and_eq_true] at h5
  have h6 := am_VLc_ok h5.1 k4
  obtain ⟨x, rfl⟩ := am_ret1 h5.2 k4
  exact ⟨x, h2, k1, ⟨k2, h6⟩, k3, X, hX, ro2, k4⟩
theorem am_uM_worn {h : am_H} {x1 : Int32} {x2 : Int32} (hI : am_Iv h) (hx2 : 0 ≤ x2.toInt ∧ x2.toInt ≤ 1) : ∃ (x : Int32) (h2 : am_H), am_Do false 19 195 [.ref 64, .int x1, .int x2] h (some (.int x), h2) ∧ am_Iv h2 ∧ ab_fr ab_c_LVModel_worn_64.2.2.2.1 h h2 ∧ ∃ X ∈ ab_c_LVModel_worn_64.2.2.2.2, ∃ ro2, ab_at ro2 X [some (.int x)] h2 := by
  obtain ⟨hok, hvl⟩ := hI
  obtain ⟨X, hX, ro2, r, h2, k1, k2, k3, k4⟩ := ab_use ab_k_LVModel_worn_64 [.inr (.inr 64), .inl (ab_var 0), .inl (ab_var 1)] [] [(-2147483648, 2147483647, 511), (0, 1, 511)] [] (by decide +kernel) (ro := [x1.toInt, x2.toInt]) (asc := [.ref 64, .int x1, .int x2]) (d := 19) (ab_env_push (ab_env_push ab_env0 (ab_in3 (ab_i32 x1).1 (ab_i32 x1).2)) (ab_in3 hx2.1 hx2.2)) ab_F0 ab_ov0 ⟨rfl, ab_evx rfl rfl, ab_evx rfl rfl, trivial⟩ hok (by decide)
  obtain ⟨x, rfl⟩ := am_ret1 (List.all_eq_true.mp (show (ab_c_LVModel_worn_64.2.2.2.2.all (fun X => match X.1 with
    | [some (.inl _)] => true
    | _ => false)) = true by decide +kernel) X hX) k4
  exact ⟨x, h2, k1, ⟨k2, hvl.frM hok k3 (by decide +kernel)⟩, k3, X, hX, ro2, k4⟩
theorem am_uM_type {h : am_H} {x1 : Int32} (hI : am_Iv h) : ∃ (x : Int32) (h2 : am_H), am_Do false 19 196 [.ref 64, .int x1] h (some (.int x), h2) ∧ am_Iv h2 ∧ ab_fr ab_c_LVModel_type_64.2.2.2.1 h h2 ∧ ∃ X ∈ ab_c_LVModel_type_64.2.2.2.2, ∃ ro2, ab_at ro2 X [some (.int x)] h2 := by
  obtain ⟨hok, hvl⟩ := hI
  obtain ⟨X, hX, ro2, r, h2, k1, k2, k3, k4⟩ := ab_use ab_k_LVModel_type_64 [.inr (.inr 64), .inl (ab_var 0)] [] [(-2147483648, 2147483647, 511)] [] (by decide +kernel) (ro := [x1.toInt]) (asc := [.ref 64, .int x1]) (d := 19) (ab_env_push ab_env0 (ab_in3 (ab_i32 x1).1 (ab_i32 x1).2)) ab_F0 ab_ov0 ⟨rfl, ab_evx rfl rfl, trivial⟩ hok (by decide)
  obtain ⟨x, rfl⟩ := am_ret1 (List.all_eq_true.mp (show (ab_c_LVModel_type_64.2.2.2.2.all (fun X => match X.1 with
    | [some (.inl _)] => true
    | _ => false)) = true by decide +kernel) X hX) k4
  exact ⟨x, h2, k1, ⟨k2, hvl.frM hok k3 (by decide +kernel)⟩, k3, X, hX, ro2, k4⟩
theorem am_uM_full {h : am_H} {x1 : Int32} (hI : am_Iv h) : ∃ (x : Int32) (h2 : am_H), am_Do false 19 202 [.ref 64, .int x1] h (some (.int x), h2) ∧ am_Iv h2 ∧ ab_fr ab_c_LVModel_full_64.2.2.2.1 h h2 ∧ ∃ X ∈ ab_c_LVModel_full_64.2.2.2.2, ∃ ro2, ab_at ro2 X [some (.int x)] h2 := by
  obtain ⟨hok, hvl⟩ := hI
  obtain ⟨X, hX, ro2, r, h2, k1, k2, k3, k4⟩ := ab_use ab_k_LVModel_full_64 [.inr (.inr 64), .inl (ab_var 0)] [] [(-2147483648, 2147483647, 511)] [] (by decide +kernel) (ro := [x1.toInt]) (asc := [.ref 64, .int x1]) (d := 19) (ab_env_push ab_env0 (ab_in3 (ab_i32 x1).1 (ab_i32 x1).2)) ab_F0 ab_ov0 ⟨rfl, ab_evx rfl rfl, trivial⟩ hok (by decide)
  obtain ⟨x, rfl⟩ := am_ret1 (List.all_eq_true.mp (show (ab_c_LVModel_full_64.2.2.2.2.all (fun X => match X.1 with
    | [some (.inl _)] => true
    | _ => false)) = true by decide +kernel) X hX) k4
  exact ⟨x, h2, k1, ⟨k2, hvl.frM hok k3 (by decide +kernel)⟩, k3, X, hX, ro2, k4⟩
theorem am_uM_can {h : am_H} {x1 : Int32} (hI : am_Iv h) : ∃ (x : Int32) (h2 : am_H), am_Do false 19 204 [.ref 64, .int x1] h (some (.int x), h2) ∧ am_Iv h2 ∧ ab_fr ab_c_LVModel_can_64.2.2.2.1 h h2 ∧ ∃ X ∈ ab_c_LVModel_can_64.2.2.2.2, ∃ ro2, ab_at ro2 X [some (.int x)] h2 := by
  obtain ⟨hok, hvl⟩ := hI
  obtain ⟨X, hX, ro2, r, h2, k1, k2, k3, k4⟩ := ab_use ab_k_LVModel_can_64 [.inr (.inr 64), .inl (ab_var 0)] [] [(-2147483648, 2147483647, 511)] [] (by decide +kernel) (ro := [x1.toInt]) (asc := [.ref 64, .int x1]) (d := 19) (ab_env_push ab_env0 (ab_in3 (ab_i32 x1).1 (ab_i32 x1).2)) ab_F0 ab_ov0 ⟨rfl, ab_evx rfl rfl, trivial⟩ hok (by decide)
  obtain ⟨x, rfl⟩ := am_ret1 (List.all_eq_true.mp (show (ab_c_LVModel_can_64.2.2.2.2.all (fun X => match X.1 with
    | [some (.inl _)] => true
    | _ => false)) = true by decide +kernel) X hX) k4
  exact ⟨x, h2, k1, ⟨k2, hvl.frM hok k3 (by decide +kernel)⟩, k3, X, hX, ro2, k4⟩
theorem am_uM_store {h : am_H} {x1 : Int32} {x2 : Int32} {x3 : Int32} (hI : am_Iv h) : ∃ (x : Int32) (h2 : am_H), am_Do false 19 205 [.ref 64, .int x1, .int x2, .int x3] h (some (.int x), h2) ∧ am_Iv h2 ∧ ab_fr ab_c_LVModel_store_64.2.2.2.1 h h2 ∧ ∃ X ∈ ab_c_LVModel_store_64.2.2.2.2, ∃ ro2, ab_at ro2 X [some (.int x)] h2 := by
  obtain ⟨hok, hvl⟩ := hI
  obtain ⟨X, hX, ro2, r, h2, k1, k2, k3, k4⟩ := ab_use ab_k_LVModel_store_64 [.inr (.inr 64), .inl (ab_var 0), .inl (ab_var 1), .inl (ab_var 2)] [] [(-2147483648, 2147483647, 511), (-2147483648, 2147483647, 511), (-2147483648, 2147483647, 511)] [] (by decide +kernel) (ro := [x1.toInt, x2.toInt, x3.toInt]) (asc := [.ref 64, .int x1, .int x2, .int x3]) (d := 19) (ab_env_push (ab_env_push (ab_env_push ab_env0 (ab_in3 (ab_i32 x1).1 (ab_i32 x1).2)) (ab_in3 (ab_i32 x2).1 (ab_i32 x2).2)) (ab_in3 (ab_i32 x3).1 (ab_i32 x3).2)) ab_F0 ab_ov0 ⟨rfl, ab_evx rfl rfl, ab_evx rfl rfl, ab_evx rfl rfl, trivial⟩ hok (by decide)
  obtain ⟨x, rfl⟩ := am_ret1 (List.all_eq_true.mp (show (ab_c_LVModel_store_64.2.2.2.2.all (fun X => match X.1 with
    | [some (.inl _)] => true
    | _ => false)) = true by decide +kernel) X hX) k4
  exact ⟨x, h2, k1, ⟨k2, hvl.frM hok k3 (by decide +kernel)⟩, k3, X, hX, ro2, k4⟩
theorem am_uM_best {h : am_H} {x1 : Int32} (hI : am_Iv h) : ∃ (x : Int32) (h2 : am_H), am_Do false 19 206 [.ref 64, .int x1] h (some (.int x), h2) ∧ am_Iv h2 ∧ ab_fr ab_c_LVModel_best_64.2.2.2.1 h h2 ∧ ∃ X ∈ ab_c_LVModel_best_64.2.2.2.2, ∃ ro2, ab_at ro2 X [some (.int x)] h2 := by
  obtain ⟨hok, hvl⟩ := hI
  obtain ⟨X, hX, ro2, r, h2, k1, k2, k3, k4⟩ := ab_use ab_k_LVModel_best_64 [.inr (.inr 64), .inl (ab_var 0)] [] [(-2147483648, 2147483647, 511)] [] (by decide +kernel) (ro := [x1.toInt]) (asc := [.ref 64, .int x1]) (d := 19) (ab_env_push ab_env0 (ab_in3 (ab_i32 x1).1 (ab_i32 x1).2)) ab_F0 ab_ov0 ⟨rfl, ab_evx rfl rfl, trivial⟩ hok (by decide)
  obtain ⟨x, rfl⟩ := am_ret1 (List.all_eq_true.mp (show (ab_c_LVModel_best_64.2.2.2.2.all (fun X => match X.1 with
    | [some (.inl _)] => true
    | _ => false)) = true by decide +kernel) X hX) k4
  exact ⟨x, h2, k1, ⟨k2, hvl.frM hok k3 (by decide +kernel)⟩, k3, X, hX, ro2, k4⟩
theorem am_uM_bestOf {h : am_H} {x1 : Int32} (hI : am_Iv h) : ∃ (x : Int32) (h2 : am_H), am_Do false 19 208 [.ref 64, .int x1] h (some (.int x), h2) ∧ am_Iv h2 ∧ ab_fr ab_c_LVModel_bestOf_64.2.2.2.1 h h2 ∧ ∃ X ∈ ab_c_LVModel_bestOf_64.2.2.2.2, ∃ ro2, ab_at ro2 X [some (.int x)] h2 := by
  obtain ⟨hok, hvl⟩ := hI
  obtain ⟨X, hX, ro2, r, h2, k1, k2, k3, k4⟩ := ab_use ab_k_LVModel_bestOf_64 [.inr (.inr 64), .inl (ab_var 0)] [] [(-2147483648, 2147483647, 511)] [] (by decide +kernel) (ro := [x1.toInt]) (asc := [.ref 64, .int x1]) (d := 19) (ab_env_push ab_env0 (ab_in3 (ab_i32 x1).1 (ab_i32 x1).2)) ab_F0 ab_ov0 ⟨rfl, ab_evx rfl rfl, trivial⟩ hok (by decide)
  obtain ⟨x, rfl⟩ := am_ret1 (List.all_eq_true.mp (show (ab_c_LVModel_bestOf_64.2.2.2.2.all (fun X => match X.1 with
    | [some (.inl _)] => true
    | _ => false)) = true by decide +kernel) X hX) k4
  exact ⟨x, h2, k1, ⟨k2, hvl.frM hok k3 (by decide +kernel)⟩, k3, X, hX, ro2, k4⟩
theorem am_uM_verseOf {h : am_H} {x1 : Int32} {x2 : Int32} (hI : am_Iv h) : ∃ (x : Int32) (h2 : am_H), am_Do false 19 209 [.ref 64, .int x1, .int x2] h (some (.int x), h2) ∧ am_Iv h2 ∧ ab_fr ab_c_LVModel_verseOf_64.2.2.2.1 h h2 ∧ ∃ X ∈ ab_c_LVModel_verseOf_64.2.2.2.2, ∃ ro2, ab_at ro2 X [some (.int x)] h2 := by
  obtain ⟨hok, hvl⟩ := hI
  obtain ⟨X, hX, ro2, r, h2, k1, k2, k3, k4⟩ := ab_use ab_k_LVModel_verseOf_64 [.inr (.inr 64), .inl (ab_var 0), .inl (ab_var 1)] [] [(-2147483648, 2147483647, 511), (-2147483648, 2147483647, 511)] [] (by decide +kernel) (ro := [x1.toInt, x2.toInt]) (asc := [.ref 64, .int x1, .int x2]) (d := 19) (ab_env_push (ab_env_push ab_env0 (ab_in3 (ab_i32 x1).1 (ab_i32 x1).2)) (ab_in3 (ab_i32 x2).1 (ab_i32 x2).2)) ab_F0 ab_ov0 ⟨rfl, ab_evx rfl rfl, ab_evx rfl rfl, trivial⟩ hok (by decide)
  obtain ⟨x, rfl⟩ := am_ret1 (List.all_eq_true.mp (show (ab_c_LVModel_verseOf_64.2.2.2.2.all (fun X => match X.1 with
    | [some (.inl _)] => true
    | _ => false)) = true by decide +kernel) X hX) k4
  exact ⟨x, h2, k1, ⟨k2, hvl.frM hok k3 (by decide +kernel)⟩, k3, X, hX, ro2, k4⟩
theorem am_uM_poetOf {h : am_H} {x1 : Int32} {x2 : Int32} (hI : am_Iv h) : ∃ (x : Int32) (h2 : am_H), am_Do false 19 210 [.ref 64, .int x1, .int x2] h (some (.int x), h2) ∧ am_Iv h2 ∧ ab_fr ab_c_LVModel_poetOf_64.2.2.2.1 h h2 ∧ ∃ X ∈ ab_c_LVModel_poetOf_64.2.2.2.2, ∃ ro2, ab_at ro2 X [some (.int x)] h2 := by
  obtain ⟨hok, hvl⟩ := hI
  obtain ⟨X, hX, ro2, r, h2, k1, k2, k3, k4⟩ := ab_use ab_k_LVModel_poetOf_64 [.inr (.inr 64), .inl (ab_var 0), .inl (ab_var 1)] [] [(-2147483648, 2147483647, 511), (-2147483648, 2147483647, 511)] [] (by decide +kernel) (ro := [x1.toInt, x2.toInt]) (asc := [.ref 64, .int x1, .int x2]) (d := 19) (ab_env_push (ab_env_push ab_env0 (ab_in3 (ab_i32 x1).1 (ab_i32 x1).2)) (ab_in3 (ab_i32 x2).1 (ab_i32 x2).2)) ab_F0 ab_ov0 ⟨rfl, ab_evx rfl rfl, ab_evx rfl rfl, trivial⟩ hok (by decide)
  obtain ⟨x, rfl⟩ := am_ret1 (List.all_eq_true.mp (show (ab_c_LVModel_poetOf_64.2.2.2.2.all (fun X => match X.1 with
    | [some (.inl _)] => true
    | _ => false)) = true by decide +kernel) X hX) k4
  exact ⟨x, h2, k1, ⟨k2, hvl.frM hok k3 (by decide +kernel)⟩, k3, X, hX, ro2, k4⟩
theorem am_uM_ruleOf {h : am_H} {x1 : Int32} {x2 : Int32} (hI : am_Iv h) : ∃ (x : Int32) (h2 : am_H), am_Do false 19 211 [.ref 64, .int x1, .int x2] h (some (.int x), h2) ∧ am_Iv h2 ∧ ab_fr ab_c_LVModel_ruleOf_64.2.2.2.1 h h2 ∧ ∃ X ∈ ab_c_LVModel_ruleOf_64.2.2.2.2, ∃ ro2, ab_at ro2 X [some (.int x)] h2 := by
  obtain ⟨hok, hvl⟩ := hI
  obtain ⟨X, hX, ro2, r, h2, k1, k2, k3, k4⟩ := ab_use ab_k_LVModel_ruleOf_64 [.inr (.inr 64), .inl (ab_var 0), .inl (ab_var 1)] [] [(-2147483648, 2147483647, 511), (-2147483648, 2147483647, 511)] [] (by decide +kernel) (ro := [x1.toInt, x2.toInt]) (asc := [.ref 64, .int x1, .int x2]) (d := 19) (ab_env_push (ab_env_push ab_env0 (ab_in3 (ab_i32 x1).1 (ab_i32 x1).2)) (ab_in3 (ab_i32 x2).1 (ab_i32 x2).2)) ab_F0 ab_ov0 ⟨rfl, ab_evx rfl rfl, ab_evx rfl rfl, trivial⟩ hok (by decide)
  obtain ⟨x, rfl⟩ := am_ret1 (List.all_eq_true.mp (show (ab_c_LVModel_ruleOf_64.2.2.2.2.all (fun X => match X.1 with
    | [some (.inl _)] => true
    | _ => false)) = true by decide +kernel) X hX) k4
  exact ⟨x, h2, k1, ⟨k2, hvl.frM hok k3 (by decide +kernel)⟩, k3, X, hX, ro2, k4⟩
theorem am_uM_count {h : am_H} {x1 : Int32} (hI : am_Iv h) : ∃ (x : Int32) (h2 : am_H), am_Do false 19 212 [.ref 64, .int x1] h (some (.int x), h2) ∧ am_Iv h2 ∧ ab_fr ab_c_LVModel_count_64.2.2.2.1 h h2 ∧ ∃ X ∈ ab_c_LVModel_count_64.2.2.2.2, ∃ ro2, ab_at ro2 X [some (.int x)] h2 := by
  obtain ⟨hok, hvl⟩ := hI
  obtain ⟨X, hX, ro2, r, h2, k1, k2, k3, k4⟩ := ab_use ab_k_LVModel_count_64 [.inr (.inr 64), .inl (ab_var 0)] [] [(-2147483648, 2147483647, 511)] [] (by decide +kernel) (ro := [x1.toInt]) (asc := [.ref 64, .int x1]) (d := 19) (ab_env_push ab_env0 (ab_in3 (ab_i32 x1).1 (ab_i32 x1).2)) ab_F0 ab_ov0 ⟨rfl, ab_evx rfl rfl, trivial⟩ hok (by decide)
  obtain ⟨x, rfl⟩ := am_ret1 (List.all_eq_true.mp (show (ab_c_LVModel_count_64.2.2.2.2.all (fun X => match X.1 with
    | [some (.inl _)] => true
    | _ => false)) = true by decide +kernel) X hX) k4
  exact ⟨x, h2, k1, ⟨k2, hvl.frM hok k3 (by decide +kernel)⟩, k3, X, hX, ro2, k4⟩
theorem am_uM_ends {h : am_H} (hI : am_Iv h) : ∃ (x : Int32) (h2 : am_H), am_Do false 19 197 [.ref 64] h (some (.int x), h2) ∧ am_Iv h2 ∧ ab_fr am_moE h h2 := by
  obtain ⟨x, h2, k1, k2, k3⟩ := am_enE (d := 14) hI.1
  exact ⟨_, h2, k1, ⟨k2, hI.2.frM hI.1 k3 (by decide +kernel)⟩, k3⟩
