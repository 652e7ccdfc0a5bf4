theorem am_callc_inv {al : Bool} {F d mi : Nat} {as : List Value} {h : am_H} {v : Option Value} {hh : am_H} (hi : am_inv h) (hs : (am_callc al F d mi as h).isSome = true) (hq : am_call al F d mi as h = some (v, hh)) : am_inv hh := by
  obtain ⟨q, h1⟩ := Option.isSome_iff_exists.mp hs
  have h2 := am_callc_call _ _ _ _ _ h1
  rw [hq] at h2
  cases h2
  exact am_inv_call _ _ _ _ _ hi h1
theorem am_inv_one {c : Nat} {fs : List Value} : am_inv [.inr (c, fs)] := by
  intro a t n f hb
  match a, hb with
  | 0, hb => cases hb
  | a + 1, hb => simp at hb
theorem am_invX0 : am_inv am_hX := am_callc_inv (al := true) (F := 100000) (d := 19) (mi := 118) (as := [.ref 0]) (h := [.inr (11, am_def 11)]) (v := none) (hh := am_hX) am_inv_one am_cX am_hX_ok.1
theorem am_inv_eq {h g : am_H} (e : h = g) (hi : am_inv h) : am_inv g := by
  subst e
  exact hi
theorem am_invX : am_inv am_hXx := am_inv_eq am_hX_eq am_invX0
theorem am_inv_obj {h : am_H} {c : Nat} {fs : List Value} (hi : am_inv h) : am_inv (h ++ [.inr (c, fs)]) := hi.app (fun t n f e => by cases e)
theorem am_inv_gen {g : am_H} {c : Nat} {fs : List Value} (hi : am_inv g) (hs : (am_callc true 100000 19 149 [.ref 64] (g ++ [.inr (c, fs)])).isSome = true) {hh : am_H} (hq : am_call true 100000 19 149 [.ref 64] (g ++ [.inr (c, fs)]) = some (none, hh)) : am_inv hh := am_callc_inv (am_inv_obj hi) hs hq
theorem am_qM_un : am_call true 100000 19 149 [.ref 64] (am_hXx ++ [.inr (12, am_def 12)]) = am_qM := by unfold am_qM; rfl
theorem am_invM0 : am_inv am_hM := am_inv_gen (g := am_hXx) (c := 12) (fs := am_def 12) am_invX am_cM (am_qM_un.trans am_hM_ok.1)
theorem am_invM : am_inv am_hMx := am_inv_eq am_hM_eq am_invM0
