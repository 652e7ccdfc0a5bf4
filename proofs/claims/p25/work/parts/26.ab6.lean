section AB4
variable {ro : List Int} {D : List ab_D} {N : ab_N} {F : List ab_T} {mo : ab_Mo} {st : List ab_V} {stc : List Value} {pc : Nat} {o : ab_O} {h : am_H} {q : Nat × List ab_V × ab_O}
/-- a cell is set: the others stay -/
theorem ab_ov_set {a : Nat} {e : am_E} (ho : ab_ov ro h o) (hk : ∀ p ∈ o, p.1 = a → ∀ j w, ab_ev ro p.2.1 = some j → ab_cell h a j = some w → ab_cell (h.set a e) a j = some w) : ab_ov ro (h.set a e) o := fun p hp => by
  obtain ⟨j, w, h1, h2, h3⟩ := ho p hp
  refine ⟨j, w, h1, ?_, h3⟩
  by_cases hpa : p.1 = a
  · rw [hpa] at h2 ⊢
    exact hk p hp hpa j w h1 h2
  · unfold ab_cell at h2 ⊢
    rw [List.getElem?_set_ne (fun e => hpa e.symm)]
    exact h2
theorem ab_hok_set {a : Nat} {e : am_E} {d : ab_D} (hh : ab_hok D h) (hd : D[a]? = some d) (he : ab_e d e) : ab_hok D (h.set a e) := by
  refine ⟨by rw [List.length_set]; exact hh.1, fun b d2 e2 h1 h2 => ?_⟩
  by_cases hb : a = b
  · subst hb
    have hl : a < h.length := by
      have := (List.getElem?_eq_some_iff.mp h2).1
      rw [List.length_set] at this
      exact this
    rw [List.getElem?_set_self hl] at h2
    cases h2
    rw [hd] at h1
    cases h1
    exact he
  · rw [List.getElem?_set_ne hb] at h2
    exact hh.2 b d2 e2 h1 h2
theorem ab_fr_arr {a : Nat} {e : am_E} {x : Nat × vp_A} (hm : ab_md mo a 0 = true) (hx : h[a]? = some (.inl x)) : ab_fr mo h (h.set a e) := by
  have hin := ab_md_in hm
  refine ⟨fun b hb => ?_, fun b k c fs hb hc => ?_⟩
  · have hne : a ≠ b := fun e => by subst e; exact hb 0 hin
    rw [List.getElem?_set_ne hne]
  · have hne : a ≠ b := fun e => by
      subst e
      rw [hx] at hc
      cases hc
    exact ⟨fs, by rw [List.getElem?_set_ne hne]; exact hc, rfl⟩
theorem ab_fr_obj {a k c : Nat} {fs : List Value} {v : Value} (hm : ab_md mo a (k + 1) = true) (hx : h[a]? = some (.inr (c, fs))) : ab_fr mo h (h.set a (.inr (c, fs.set k v))) := by
  have hin := ab_md_in hm
  have hl : a < h.length := (List.getElem?_eq_some_iff.mp hx).1
  refine ⟨fun b hb => ?_, fun b j c2 fs2 hb hc => ?_⟩
  · have hne : a ≠ b := fun e => by subst e; exact hb _ hin
    rw [List.getElem?_set_ne hne]
  · by_cases hab : a = b
    · subst hab
      rw [hx] at hc
      cases hc
      refine ⟨fs.set k v, List.getElem?_set_self hl, ?_⟩
      have hkj : k ≠ j := fun e => by subst e; exact hb hin
      rw [List.getElem?_set_ne hkj]
    · exact ⟨fs2, by rw [List.getElem?_set_ne hab]; exact hc, rfl⟩
theorem ab_dropA_ok {a : Nat} {t : ab_T} {i : Int} {e : am_E} (hN : ab_env ro N) (ht : ab_ev ro t = some i) (hk : ∀ j w, j ≠ i → ab_cell h a j = some w → ab_cell (h.set a e) a j = some w) (ho : ab_ov ro h o) : ab_ov ro (h.set a e) (ab_dropA N a t o) := by
  refine ab_ov_set (fun p hp => ho p (List.mem_filter.mp hp).1) (fun p hp hpa j w hj hc => ?_)
  have h9 := (List.mem_filter.mp hp).2
  obtain ⟨b, u, v⟩ := p
  simp only at hpa h9 hj
  subst hpa
  rw [show Nat.beq b b = true from Nat.beq_refl b] at h9
  simp only [Bool.not_true, Bool.false_or] at h9
  refine hk j w ?_ hc
  rcases Bool.or_eq_true_iff.mp h9 with h8 | h8
  · have := ab_nn_ok hN (ab_add_ok (ab_sub_ok ht hj) (ab_ev_k ro (-1))) h8
    omega
  · have := ab_nn_ok hN (ab_add_ok (ab_sub_ok hj ht) (ab_ev_k ro (-1))) h8
    omega
/-- an array's other ints stay -/
theorem ab_cell_arr {a t n i : Nat} {f : Nat → Int32} {y : Int32} (h1 : h[a]? = some (.inl (t, n, .inl f))) : ∀ (j : Int) (w : Value), j ≠ (i : Int) → ab_cell h a j = some w → ab_cell (h.set a (.inl (t, n, .inl (upd f i y)))) a j = some w := by
  intro j w hj hc
  have hl : a < h.length := (List.getElem?_eq_some_iff.mp h1).1
  unfold ab_cell at hc ⊢
  rw [h1] at hc
  rw [List.getElem?_set_self hl]
  simp only at hc ⊢
  obtain ⟨hb, hc⟩ := ab_cb hc
  rw [hb]
  simp only [cond_true]
  rw [Bool.and_eq_true] at hb
  have h0 : 0 ≤ j := of_decide_eq_true hb.1
  rw [← hc]
  have hne : ¬ j.toNat = i := by omega
  simp only [upd, hne, if_false]
theorem ab_cell_arl {a n : Nat} {f g : Nat → Int64} (h1 : h[a]? = some (.inl (2, n, .inr (.inl f)))) : ∀ (j : Int) (w : Value), ab_cell h a j = some w → ab_cell (h.set a (.inl (2, n, .inr (.inl g)))) a j = some w := by
  intro j w hc
  unfold ab_cell at hc
  rw [h1] at hc
  cases hc
theorem ab_st4_ok {ty : Nat} {nlo nhi : Int} {g : Int32 → Int32} (h2 : Nat.beq ty 2 = false) (hg : ∀ x : Int32, nlo ≤ x.toInt → x.toInt ≤ nhi → g x = x) (hh : ab_hok D h) (hN : ab_env ro N) (hF : ab_F ro F) (ho : ab_ov ro h o) (hs : ab_st ro st stc) (e : ab_st4 D mo ty nlo nhi pc st o N F = some q) : ab_S4 ro D mo h (am_ast h pc stc ty g) q ∧ ∃ v i a r, stc = .int v :: .int i :: .ref a :: r ∧ ∃ n f, h[a]? = some (.inl (ty, n, .inl f)) := by
  unfold ab_st4 at e
  split at e
  · rename_i v t a r
    split at e
    · rename_i t2 n lo hi m hD
      obtain ⟨hb, e1q⟩ := ab_cb e
      clear e
      have e := e1q
      clear e1q
      cases e
      simp only [Bool.and_eq_true] at hb
      obtain ⟨⟨⟨⟨⟨⟨b1, b2⟩, b3⟩, b4⟩, b5⟩, b6⟩, b7⟩ := hb
      have := Nat.eq_of_beq_eq_true b1
      subst this
      obtain ⟨w, C, rfl, g1, g2⟩ := ab_st_cons hs
      obtain ⟨w2, C2, rfl, g3, g4⟩ := ab_st_cons g2
      obtain ⟨w3, C3, rfl, g5, g6⟩ := ab_st_cons g4
      obtain ⟨y, rfl, gy⟩ := ab_v_int g1
      obtain ⟨i, rfl, gi⟩ := ab_v_int g3
      obtain rfl := ab_v_ref g5
      obtain ⟨f, f1, f2, f3⟩ := ab_hok_ari hh hD h2 b2
      refine ⟨?_, y, i, a, C3, rfl, n, f, f1⟩
      obtain ⟨r1, r2⟩ := ab_rng_ok hN hF gi b3
      obtain ⟨r3, r4⟩ := ab_rng_ok hN hF gy b4
      obtain ⟨r5, r6⟩ := ab_rng_ok hN hF gy b5
      have r7 := Int.le_trans (ab_m_ok hN gy) (of_decide_eq_true b6)
      obtain ⟨x1, x2, x3⟩ := ab_inx r1 r2
      have hl : a < h.length := (List.getElem?_eq_some_iff.mp f1).1
      refine ⟨C3, h.set a (.inl (t2, n, .inl (upd f i.toInt.toNat y))), ?_, g6, ?_, ?_, ab_fr_arr b7 f1⟩
      · unfold am_ast
        simp only [f2, x1, cond_true, x2, hg y r5 r6]
      · refine ab_ov_cons (ab_dropA_ok hN gi (fun j w hj => ab_cell_arr f1 j w (by omega)) ho) ⟨i.toInt, .int y, gi, ?_, gy⟩
        unfold ab_cell
        rw [List.getElem?_set_self hl]
        simp only [decide_eq_true r1, Bool.true_and, show Nat.blt i.toInt.toNat n = true by simpa [Nat.blt_eq] using x3, cond_true]
        simp [upd]
      · refine ab_hok_set hh hD (Or.inl ⟨(fun e => by subst e; exact Bool.noConfusion h2), upd f i.toInt.toNat y, rfl, fun j hj => ?_⟩)
        unfold upd
        split
        · exact ⟨r3, r4, r7⟩
        · exact f3 j hj
    · cases e
  · cases e
end AB4
