theorem am_shM : am_shs (ab_D0.take 100) am_dM = true := by decide +kernel
theorem am_D100 : ab_D0[100]? = some (.inl (2, 1, 0, 0, 511)) ∧ ab_D0.length = 101 := ⟨rfl, rfl⟩
theorem am_hok_gen {hM hx : am_H} {dM : List am_DS} (hxe : hx = am_undL hM 0 dM) (hlen : hx.length = 100) (hinv : am_inv hx) (hsh : am_shs (ab_D0.take 100) dM = true) : ab_hok ab_D0 (hx ++ [.inl (2, 1, .inr (.inl (fun _ => 0)))]) := by
  refine ⟨by rw [List.length_append, hlen, am_D100.2]; rfl, fun a d e hd he => ?_⟩
  by_cases ha : a < 100
  · rw [List.getElem?_append_left (by rw [hlen]; exact ha)] at he
    have he2 : (am_undL hM 0 dM)[a]? = some e := by rw [← hxe]; exact he
    rw [am_undL_get, Nat.zero_add] at he2
    cases hs : dM[a]? with
    | none => rw [hs] at he2; cases he2
    | some s =>
      rw [hs] at he2
      have he3 : am_und hM a s = e := Option.some.inj he2
      have hd2 : (ab_D0.take 100)[a]? = some d := by rw [List.getElem?_take, if_pos ha]; exact hd
      have h1 := (am_shs_get _ _ hsh).2 a d s hd2 hs
      obtain ⟨k, t2, n2, fs⟩ := s
      match d, hd, h1 with
      | .inl (t, n, lo, hi, m), hd, h1 =>
        simp only [am_sh, Bool.and_eq_true, Bool.or_eq_true] at h1
        obtain ⟨⟨h2, h3⟩, h4⟩ := h1
        have h2 := Nat.eq_of_beq_eq_true h2
        have h3 := Nat.eq_of_beq_eq_true h3
        subst h2
        subst h3
        rcases h4 with ⟨h5, h6⟩ | ⟨h5, h6⟩
        · have h5 := Nat.eq_of_beq_eq_true h5
          subst h5
          have he4 : e = .inl (t, n, .inl (am_ctI hM a)) := he3.symm
          subst he4
          refine Or.inl ⟨(fun q => by rw [q] at h6; cases h6), _, rfl, fun j _ => ?_⟩
          exact hinv a t n _ he t n lo hi m hd j
        · have h5 := Nat.eq_of_beq_eq_true h5
          have h6 := Nat.eq_of_beq_eq_true h6
          subst h5
          subst h6
          exact Or.inr ⟨rfl, _, he3.symm⟩
      | .inr (c, ws), hd, h1 =>
        simp only [am_sh, Bool.and_eq_true] at h1
        obtain ⟨⟨h2, h3⟩, h4⟩ := h1
        have h2 := Nat.eq_of_beq_eq_true h2
        have h3 := Nat.eq_of_beq_eq_true h3
        subst h2
        subst h3
        obtain ⟨g1, g2⟩ := am_shws_ok _ _ h4
        exact ⟨fs, he3.symm, g1, g2⟩
  · rw [List.getElem?_append_right (by rw [hlen]; omega), hlen] at he
    have hz : a = 100 := by
      have := (List.getElem?_eq_some_iff.mp hd).1
      rw [am_D100.2] at this
      omega
    subst hz
    rw [am_D100.1] at hd
    cases hd
    cases he
    exact Or.inr ⟨rfl, _, rfl⟩
theorem am_hok_eq {h g : am_H} (e : h = g) (hi : ab_hok ab_D0 g) : ab_hok ab_D0 h := by
  subst e
  exact hi
set_option maxRecDepth 100000 in
theorem am_h0f_app (h : am_H) : am_h0f h = am_hMf h ++ [.inl (2, 1, .inr (.inl (fun _ => 0)))] := rfl
set_option maxRecDepth 100000 in
theorem am_hMf_len (h : am_H) : (am_hMf h).length = 100 := rfl
theorem am_hok_f {hM : am_H} (e : hM = am_undL hM 0 am_dM) (hinv : am_inv (am_hMf hM)) : ab_hok ab_D0 (am_h0f hM) := by
  refine am_hok_eq (am_h0f_app hM) (am_hok_gen (hM := hM) (dM := am_dM) (am_hMf_eq hM).symm (am_hMf_len hM) hinv am_shM)
theorem am_hok0 : ab_hok ab_D0 am_h0 := am_hok_f am_hM_ok.2 am_invM
