/-! ===== the small calls of both: what they answer and leave ===== -/
def bo_ (P : Prop) (s : sg_S) (r : Int32) (s2 : sg_S) : Prop := s2 = s ∧ ((¬ r.toInt = 0 ∧ P) ∨ (r.toInt = 0 ∧ ¬ P))
theorem bo_1 {P : Prop} {s : sg_S} (h : P) : bo_ P s (Int32.ofInt 1) s := ⟨rfl, Or.inl ⟨by decide, h⟩⟩
theorem bo_0 {P : Prop} {s : sg_S} (h : ¬ P) : bo_ P s (Int32.ofInt 0) s := ⟨rfl, Or.inr ⟨rfl, h⟩⟩
theorem bo_.eq {P : Prop} {s s2 : sg_S} {r : Int32} (h : bo_ P s r s2) : s2 = s := h.1
theorem bo_.no {P : Prop} {s s2 : sg_S} {r : Int32} (h : bo_ P s r s2) (c : r.toInt = 0) : ¬ P := by
  rcases h.2 with h | h
  · exact absurd c h.1
  · exact h.2
theorem bo_.yes {P : Prop} {s s2 : sg_S} {r : Int32} (h : bo_ P s r s2) (c : ¬ r.toInt = 0) : P := by
  rcases h.2 with h | h
  · exact h.2
  · exact absurd h.1 c
/-- the same up to N -/
theorem rd_sw_congr {P P2 : Int → Bool} {B B2 : Nat → Int} : ∀ (n p : Nat), (∀ i, p ≤ i → i < p + n → P (B i) = P2 (B2 i)) → rd_sw P B n p = rd_sw P2 B2 n p := by
  intro n
  induction n with
  | zero => intro p _; rfl
  | succ n ih =>
    intro p h
    show (bif P (B p) then rd_sw P B n (p + 1) else p) = (bif P2 (B2 p) then rd_sw P2 B2 n (p + 1) else p)
    rw [h p (Nat.le_refl _) (by omega), ih (p + 1) (fun i h1 h2 => h i (by omega) (by omega))]
theorem rd_to_congr {P P2 : Int → Bool} {B B2 : Nat → Int} {N p : Nat} (h : ∀ i, p ≤ i → i < N → P (B i) = P2 (B2 i)) : rd_to P B N p = rd_to P2 B2 N p := rd_sw_congr _ _ (fun i h1 h2 => h i h1 (by omega))
section SM
variable {s : sg_S} {x1 x2 x3 : Int32} {T : rp_T}
theorem sx_year : am_SpI 126 [.int x1] s (bo_ (0 ≤ x1.toInt ∧ x1.toInt ≤ 9999) s) := by
  refine wp_X_isYear_ok ?_
  unfold wp_X_isYear
  exact ⟨fun c => bo_0 (by omega), fun c => ⟨fun c2 => bo_0 (by omega), fun c2 => bo_1 (by omega)⟩⟩
theorem sx_word : am_SpI 128 [.int x1] s (bo_ (0 ≤ x1.toInt ∧ x1.toInt ≤ 29) s) := by
  refine wp_X_isWord_ok ?_
  unfold wp_X_isWord
  exact ⟨fun c => bo_0 (by omega), fun c => ⟨fun c2 => bo_1 (by omega), fun c2 => bo_0 (by omega)⟩⟩
theorem sm_in : am_SpI 168 [.int x1, .int x2, .int x3] s (bo_ (x2.toInt ≤ x1.toInt ∧ x1.toInt ≤ x3.toInt) s) := by
  refine wp_M_in_ok ?_
  unfold wp_M_in
  exact ⟨fun c => bo_0 (by omega), fun c => ⟨fun c2 => bo_0 (by omega), fun c2 => bo_1 (by omega)⟩⟩
theorem rp_kset_9 {n : Nat} (h : n ≤ 8) : 1 ≤ (rp_kset n).toInt ∧ (rp_kset n).toInt ≤ 256 := by
  have key : ∀ n : Nat, n < 9 → 1 ≤ (rp_kset n).toInt ∧ (rp_kset n).toInt ≤ 256 := by decide
  exact key n (by omega)
theorem sx_kind (hU : rx_RU T s) : am_SpI 73 [.ref 1, .int x1] s (bo_ (0 ≤ x1.toInt ∧ x1.toInt < (T.1 : Int)) s) := by
  refine wp_XRules_isKind_1_ok ?_
  unfold wp_XRules_isKind_1
  rw [hU.1]
  exact ⟨fun c => bo_0 (by omega), fun c => ⟨fun c2 => bo_1 (by omega), fun c2 => bo_0 (by omega)⟩⟩
theorem sx_set (hU : rx_RU T s) : am_SpI 72 [.ref 1, .int x1] s (bo_ (0 ≤ x1.toInt ∧ x1.toInt < (rp_kset T.1).toInt) s) := by
  refine wp_XRules_isSet_1_ok ?_
  unfold wp_XRules_isSet_1
  have e0 : s.1 1 0 = Int32.ofInt (T.1 : Int) := by rw [← am_oio (s.1 1 0), hU.1]
  have e1 : Int32.ofInt 1 <<< (s.1 1 0 &&& 31) = rp_kset T.1 := by rw [e0]; rfl
  rw [e1]
  exact ⟨fun c => bo_0 (by omega), fun c => ⟨fun c2 => bo_1 (by omega), fun c2 => bo_0 (by omega)⟩⟩
theorem sm_set (hU : rm_RU T s) (hT : rp_ok T) : am_SpI 175 [.ref 64, .int x1] s (bo_ (0 ≤ x1.toInt ∧ x1.toInt < (rp_kset T.1).toInt) s) := by
  refine wp_M_isSet_ok ?_
  unfold wp_M_isSet
  have e0 : s.1 64 21 = Int32.ofInt (T.1 : Int) := by rw [← am_oio (s.1 64 21), hU.1]
  have e1 : Int32.ofInt 1 <<< (s.1 64 21 &&& 31) = rp_kset T.1 := by rw [e0]; rfl
  have h9 := rp_kset_9 hT.1
  have z1 : (Int32.ofInt 1).toInt = 1 := rfl
  have z0 : (Int32.ofInt 0).toInt = 0 := rfl
  have e2 : (rp_kset T.1 - Int32.ofInt 1).toInt = (rp_kset T.1).toInt - 1 := by rw [i32_sub (by omega) (by omega), z1]
  rw [e1]
  refine sm_in.mono (fun r s2 h => ?_)
  rw [e2, z0] at h
  refine ⟨h.1, ?_⟩
  rcases h.2 with h | h
  · exact Or.inl ⟨h.1, by omega⟩
  · exact Or.inr ⟨h.1, by omega⟩
def aw_ (x1 x2 x3 : Int32) : Prop := (-1 ≤ x1.toInt ∧ x1.toInt ≤ 29) ∧ (-1 ≤ x2.toInt ∧ x2.toInt ≤ 29) ∧ (-1 ≤ x3.toInt ∧ x3.toInt ≤ 29)
theorem sx_words : am_SpI 132 [.int x1, .int x2, .int x3] s (bo_ (aw_ x1 x2 x3) s) := by
  refine wp_X_areWords_ok ?_
  unfold wp_X_areWords
  have w3 : ∀ s4 : sg_S, s4 = s → (-1 ≤ x1.toInt ∧ x1.toInt ≤ 29) → (-1 ≤ x2.toInt ∧ x2.toInt ≤ 29) → (x3.toInt = -1 → bo_ (aw_ x1 x2 x3) s (Int32.ofInt 1) s4) ∧ (¬ x3.toInt = -1 → am_SpI 128 [.int x3] s4 (fun x4 s4 => (x4.toInt = 0 → bo_ (aw_ x1 x2 x3) s (Int32.ofInt 0) s4) ∧ (¬ x4.toInt = 0 → bo_ (aw_ x1 x2 x3) s (Int32.ofInt 1) s4))) := by
    intro s4 e h1 h2
    subst e
    refine ⟨fun c => bo_1 ⟨h1, h2, by omega⟩, fun c => sx_word.mono (fun y s5 h => ?_)⟩
    obtain rfl := h.eq
    exact ⟨fun c2 => bo_0 (fun z => h.no c2 (by have := z.2.2; omega)), fun c2 => bo_1 ⟨h1, h2, by have := h.yes c2; omega⟩⟩
  have w2 : ∀ s4 : sg_S, s4 = s → (-1 ≤ x1.toInt ∧ x1.toInt ≤ 29) → (x2.toInt = -1 → ((x3.toInt = -1 → bo_ (aw_ x1 x2 x3) s (Int32.ofInt 1) s4) ∧ (¬ x3.toInt = -1 → am_SpI 128 [.int x3] s4 (fun x4 s4 => (x4.toInt = 0 → bo_ (aw_ x1 x2 x3) s (Int32.ofInt 0) s4) ∧ (¬ x4.toInt = 0 → bo_ (aw_ x1 x2 x3) s (Int32.ofInt 1) s4))))) ∧ (¬ x2.toInt = -1 → am_SpI 128 [.int x2] s4 (fun x5 s5 => (x5.toInt = 0 → bo_ (aw_ x1 x2 x3) s (Int32.ofInt 0) s5) ∧ (¬ x5.toInt = 0 → ((x3.toInt = -1 → bo_ (aw_ x1 x2 x3) s (Int32.ofInt 1) s5) ∧ (¬ x3.toInt = -1 → am_SpI 128 [.int x3] s5 (fun x4 s4 => (x4.toInt = 0 → bo_ (aw_ x1 x2 x3) s (Int32.ofInt 0) s4) ∧ (¬ x4.toInt = 0 → bo_ (aw_ x1 x2 x3) s (Int32.ofInt 1) s4))))))) := by
    intro s4 e h1
    subst e
    refine ⟨fun c => w3 s4 rfl h1 (by omega), fun c => sx_word.mono (fun y s5 h => ?_)⟩
    obtain rfl := h.eq
    exact ⟨fun c2 => bo_0 (fun z => h.no c2 (by have := z.2.1; omega)), fun c2 => w3 s5 rfl h1 (by have := h.yes c2; omega)⟩
  refine ⟨fun c => w2 s rfl (by omega), fun c => sx_word.mono (fun y s5 h => ?_)⟩
  obtain rfl := h.eq
  exact ⟨fun c2 => bo_0 (fun z => h.no c2 (by have := z.1; omega)), fun c2 => w2 s5 rfl (by have := h.yes c2; omega)⟩
theorem sm_words : am_SpI 182 [.int x1, .int x2, .int x3] s (bo_ (aw_ x1 x2 x3) s) := by
  refine wp_M_areWords_ok ?_
  unfold wp_M_areWords
  have m1 : (Int32.ofInt (-1)).toInt = -1 := rfl
  have m29 : (Int32.ofInt 29).toInt = 29 := rfl
  refine sm_in.mono (fun y s4 h => ?_)
  rw [m1, m29] at h
  obtain rfl := h.eq
  refine ⟨fun c => bo_0 (fun z => h.no c z.1), fun c => sm_in.mono (fun y2 s5 h2 => ?_)⟩
  rw [m1, m29] at h2
  obtain rfl := h2.eq
  refine ⟨fun c2 => bo_0 (fun z => h2.no c2 z.2.1), fun c2 => sm_in.mono (fun y3 s6 h3 => ?_)⟩
  rw [m1, m29] at h3
  obtain rfl := h3.eq
  exact ⟨fun c3 => bo_0 (fun z => h3.no c3 z.2.2), fun c3 => bo_1 ⟨h.yes c, h2.yes c2, h3.yes c3⟩⟩
/-- year -/
theorem sx_Year : am_SpI 125 [.ref 0, .int x1] s (fun r s2 => (0 ≤ x1.toInt ∧ x1.toInt ≤ 9999 → r = Int32.ofInt 1 ∧ s2 = sg_uI s 18 0 x1) ∧ (¬ (0 ≤ x1.toInt ∧ x1.toInt ≤ 9999) → r = Int32.ofInt 0 ∧ s2 = s)) := by
  refine wp_X_year_ok ?_
  unfold wp_X_year
  refine sx_year.mono (fun y s4 h => ?_)
  obtain rfl := h.eq
  exact ⟨fun c => ⟨fun z => absurd z (h.no c), fun _ => ⟨rfl, rfl⟩⟩, fun c => ⟨fun _ => ⟨rfl, rfl⟩, fun z => absurd (h.yes c) z⟩⟩
theorem sm_Year : am_SpI 173 [.ref 64, .int x1] s (fun r s2 => (0 ≤ x1.toInt ∧ x1.toInt ≤ 9999 → r = Int32.ofInt 1 ∧ s2 = sg_uI s 64 33 x1) ∧ (¬ (0 ≤ x1.toInt ∧ x1.toInt ≤ 9999) → r = Int32.ofInt 0 ∧ s2 = s)) := by
  refine wp_M_year_ok ?_
  unfold wp_M_year
  have m0 : (Int32.ofInt 0).toInt = 0 := rfl
  have m9 : (Int32.ofInt 9999).toInt = 9999 := rfl
  refine sm_in.mono (fun y s4 h => ?_)
  rw [m0, m9] at h
  obtain rfl := h.eq
  exact ⟨fun c => ⟨fun z => absurd z (h.no c), fun _ => ⟨rfl, rfl⟩⟩, fun c => ⟨fun _ => ⟨rfl, rfl⟩, fun z => absurd (h.yes c) z⟩⟩
/-- the number of an entry of a word and a year, or how many there are -/
def pt_ix (w y : Nat → Int32) (n : Nat) (a b : Int32) : Nat := rd_to (fun i => !decide ((w i.toNat).toInt = a.toInt ∧ (y i.toNat).toInt = b.toInt)) (fun i => (i : Int)) n 0
theorem pt_ix_congr {w y w2 y2 : Nat → Int32} {n : Nat} {a b : Int32} (h : ∀ i, i < n → w i = w2 i ∧ y i = y2 i) : pt_ix w y n a b = pt_ix w2 y2 n a b := by
  refine rd_to_congr (fun i _ hi => ?_)
  simp only [Int.toNat_natCast, (h i hi).1, (h i hi).2]
theorem sx_put {n : Nat} (hn : (s.1 18 1).toInt = (n : Int)) (h100 : n ≤ 100) : am_SpI 2 [.ref 18, .int x1, .int x2, .int x3] s (fun r s2 => (pt_ix (s.2.2.1 19) (s.2.2.1 20) n x1 x2 < n → r.toInt = (n : Int) ∧ s2 = sg_uA s 21 (pt_ix (s.2.2.1 19) (s.2.2.1 20) n x1 x2) x3) ∧ (¬ pt_ix (s.2.2.1 19) (s.2.2.1 20) n x1 x2 < n → (n < 100 → r.toInt = (n : Int) + 1 ∧ s2 = sg_uI (sg_uA (sg_uA (sg_uA s 19 n x1) 20 n x2) 21 n x3) 18 1 (Int32.ofInt ((n : Int) + 1))) ∧ (¬ n < 100 → r.toInt = -1 ∧ s2 = s))) := by
  refine wp_XBook_put_ok (I3 := fun l s1 => s1 = s ∧ ∃ i : Nat, l.toInt = (i : Int) ∧ i ≤ n ∧ rd_to (fun i => !decide ((s.2.2.1 19 i.toNat).toInt = x1.toInt ∧ (s.2.2.1 20 i.toNat).toInt = x2.toInt)) (fun i => (i : Int)) n i = pt_ix (s.2.2.1 19) (s.2.2.1 20) n x1 x2) ?_ ⟨rfl, 0, rfl, Nat.zero_le _, rfl⟩
  intro l s1 hI
  obtain ⟨rfl, i, hi, hin, hl⟩ := hI
  unfold wp_XBook_put_3
  generalize hG : pt_ix (s1.2.2.1 19) (s1.2.2.1 20) n x1 x2 = G at hl
  simp only [hi, hn, Int.toNat_natCast]
  have step : i < n → ¬ ((s1.2.2.1 19 i).toInt = x1.toInt ∧ (s1.2.2.1 20 i).toInt = x2.toInt) → ∃ j : Nat, (l + Int32.ofInt 1).toInt = (j : Int) ∧ j ≤ n ∧ rd_to (fun i => !decide ((s1.2.2.1 19 i.toNat).toInt = x1.toInt ∧ (s1.2.2.1 20 i.toNat).toInt = x2.toInt)) (fun i => (i : Int)) n j = G := by
    intro h1 h2
    refine ⟨i + 1, ?_, by omega, ?_⟩
    · rw [i32_inc (c := 0) (by omega) (by omega), hi]
      rfl
    · rw [← hl]
      exact (rd_to_go h1 (by simp only [Int.toNat_natCast, Bool.not_eq_true', decide_eq_false_iff_not]; exact h2)).symm
  refine ⟨fun c1 _ _ => ⟨fun c2 => ⟨fun c3 => ?_, fun c3 => ⟨trivial, step (by omega) (fun z => c3 z.2)⟩⟩, fun c2 => ⟨trivial, step (by omega) (fun z => c2 z.1)⟩⟩, fun c1 => ?_⟩
  · have e : G = i := by
      rw [← hl]
      exact rd_to_no (by simp only [Int.toNat_natCast, Bool.not_eq_false', decide_eq_true_eq]; exact ⟨c2, c3⟩)
    rw [e]
    exact ⟨fun _ => ⟨by trivial, by trivial⟩, fun c => absurd (show i < n by omega) c⟩
  · have e : ¬ G < n := by
      rw [← hl, rd_to_end (by omega)]
      omega
    refine ⟨fun c2 _ _ => ⟨fun z => absurd z e, fun _ => ⟨fun _ => ⟨?_, ?_⟩, fun z => absurd (show n < 100 by omega) z⟩⟩, fun c2 => ⟨fun z => absurd z e, fun _ => ⟨fun z => absurd (show (n : Int) < 100 by omega) c2, fun _ => ⟨by trivial, by trivial⟩⟩⟩⟩
    · rw [i32_inc (c := 0) (by omega) (by omega), hn]
    · rw [show s1.1 18 1 + Int32.ofInt 1 = Int32.ofInt ((n : Int) + 1) from rx_ofI (by rw [i32_inc (c := 0) (by omega) (by omega), hn])]
theorem sm_put {n : Nat} {Ψ : Int32 → sg_S → Prop} (hn : (s.1 64 34).toInt = (n : Int)) (h100 : n ≤ 100) (hy : ∀ (i : Nat) (r : Int32), i < n → i = pt_ix (s.2.2.1 78) (s.2.2.1 79) n x1 x2 → r.toInt = (n : Int) → Ψ r (sg_uA s 80 i x3)) (ha : ∀ r : Int32, ¬ pt_ix (s.2.2.1 78) (s.2.2.1 79) n x1 x2 < n → n < 100 → r.toInt = (n : Int) + 1 → Ψ r (sg_uI (sg_uA (sg_uA (sg_uA s 78 n x1) 79 n x2) 80 n x3) 64 34 (Int32.ofInt ((n : Int) + 1)))) (hb : ∀ r : Int32, ¬ pt_ix (s.2.2.1 78) (s.2.2.1 79) n x1 x2 < n → ¬ n < 100 → r.toInt = -1 → Ψ r s) (l : Int32) (s1 : sg_S) (hI : s1 = s ∧ ∃ i : Nat, l.toInt = (i : Int) ∧ i ≤ n ∧ rd_to (fun i => !decide ((s.2.2.1 78 i.toNat).toInt = x1.toInt ∧ (s.2.2.1 79 i.toNat).toInt = x2.toInt)) (fun i => (i : Int)) n i = pt_ix (s.2.2.1 78) (s.2.2.1 79) n x1 x2) : wp_M_entry_34 (fun l s1 => s1 = s ∧ ∃ i : Nat, l.toInt = (i : Int) ∧ i ≤ n ∧ rd_to (fun i => !decide ((s.2.2.1 78 i.toNat).toInt = x1.toInt ∧ (s.2.2.1 79 i.toNat).toInt = x2.toInt)) (fun i => (i : Int)) n i = pt_ix (s.2.2.1 78) (s.2.2.1 79) n x1 x2) Ψ x1 x2 x3 l s1 := by
  obtain ⟨rfl, i, hi, hin, hl⟩ := hI
  unfold wp_M_entry_34
  generalize hG : pt_ix (s1.2.2.1 78) (s1.2.2.1 79) n x1 x2 = G at hl hy ha hb
  simp only [hi, hn, Int.toNat_natCast]
  have step : i < n → ¬ ((s1.2.2.1 78 i).toInt = x1.toInt ∧ (s1.2.2.1 79 i).toInt = x2.toInt) → ∃ j : Nat, (l + Int32.ofInt 1).toInt = (j : Int) ∧ j ≤ n ∧ rd_to (fun i => !decide ((s1.2.2.1 78 i.toNat).toInt = x1.toInt ∧ (s1.2.2.1 79 i.toNat).toInt = x2.toInt)) (fun i => (i : Int)) n j = G := by
    intro h1 h2
    refine ⟨i + 1, ?_, by omega, ?_⟩
    · rw [i32_inc (c := 0) (by omega) (by omega), hi]
      rfl
    · rw [← hl]
      exact (rd_to_go h1 (by simp only [Int.toNat_natCast, Bool.not_eq_true', decide_eq_false_iff_not]; exact h2)).symm
  refine ⟨fun c1 _ _ => ⟨fun c2 => ⟨fun c3 => ?_, fun c3 => ⟨trivial, step (by omega) (fun z => c3 z.2)⟩⟩, fun c2 => ⟨trivial, step (by omega) (fun z => c2 z.1)⟩⟩, fun c1 => ?_⟩
  · have e : i = G := by
      rw [← hl]
      exact (rd_to_no (by simp only [Int.toNat_natCast, Bool.not_eq_false', decide_eq_true_eq]; exact ⟨c2, c3⟩)).symm
    exact hy i _ (by omega) e hn
  · have e : ¬ G < n := by
      rw [← hl, rd_to_end (by omega)]
      omega
    refine ⟨fun c2 => hb _ e (by omega) rfl, fun c2 _ _ => ?_⟩
    have h1 : (s1.1 64 34 + Int32.ofInt 1).toInt = (n : Int) + 1 := by rw [i32_inc (c := 0) (by omega) (by omega), hn]
    rw [rx_ofI h1]
    exact ha _ e (by omega) (by rw [am_oi (by omega) (by omega)])
/-- entry -/
def en_ok (T : rp_T) (x1 x2 x3 : Int32) : Prop := (0 ≤ x1.toInt ∧ x1.toInt ≤ 29) ∧ (0 ≤ x2.toInt ∧ x2.toInt ≤ 9999) ∧ (0 ≤ x3.toInt ∧ x3.toInt < (rp_kset T.1).toInt)
theorem sx_Entry {n : Nat} (hU : rx_RU T s) (hn : (s.1 18 1).toInt = (n : Int)) (h100 : n ≤ 100) : am_SpI 127 [.ref 0, .int x1, .int x2, .int x3] s (fun r s2 => (en_ok T x1 x2 x3 → (pt_ix (s.2.2.1 19) (s.2.2.1 20) n x1 x2 < n → r.toInt = (n : Int) ∧ s2 = sg_uA s 21 (pt_ix (s.2.2.1 19) (s.2.2.1 20) n x1 x2) x3) ∧ (¬ pt_ix (s.2.2.1 19) (s.2.2.1 20) n x1 x2 < n → (n < 100 → r.toInt = (n : Int) + 1 ∧ s2 = sg_uI (sg_uA (sg_uA (sg_uA s 19 n x1) 20 n x2) 21 n x3) 18 1 (Int32.ofInt ((n : Int) + 1))) ∧ (¬ n < 100 → r.toInt = -1 ∧ s2 = s))) ∧ (¬ en_ok T x1 x2 x3 → r.toInt = -1 ∧ s2 = s)) := by
  refine wp_X_entry_ok ?_
  unfold wp_X_entry
  refine sx_word.mono (fun y1 s4 h1 => ?_)
  obtain rfl := h1.eq
  refine ⟨fun c => ⟨fun z => absurd z.1 (h1.no c), fun _ => ⟨rfl, rfl⟩⟩, fun c1 => sx_year.mono (fun y2 s5 h2 => ?_)⟩
  obtain rfl := h2.eq
  refine ⟨fun c => ⟨fun z => absurd z.2.1 (h2.no c), fun _ => ⟨rfl, rfl⟩⟩, fun c2 => (sx_set hU).mono (fun y3 s6 h3 => ?_)⟩
  obtain rfl := h3.eq
  refine ⟨fun c => ⟨fun z => absurd z.2.2 (h3.no c), fun _ => ⟨rfl, rfl⟩⟩, fun c3 => (sx_put hn h100).mono (fun y4 s7 h4 => ?_)⟩
  exact ⟨fun _ => h4, fun z => absurd ⟨h1.yes c1, h2.yes c2, h3.yes c3⟩ z⟩
theorem sm_Entry {n : Nat} (hU : rm_RU T s) (hT : rp_ok T) (hn : (s.1 64 34).toInt = (n : Int)) (h100 : n ≤ 100) : am_SpI 174 [.ref 64, .int x1, .int x2, .int x3] s (fun r s2 => (en_ok T x1 x2 x3 → (pt_ix (s.2.2.1 78) (s.2.2.1 79) n x1 x2 < n → r.toInt = (n : Int) ∧ s2 = sg_uA s 80 (pt_ix (s.2.2.1 78) (s.2.2.1 79) n x1 x2) x3) ∧ (¬ pt_ix (s.2.2.1 78) (s.2.2.1 79) n x1 x2 < n → (n < 100 → r.toInt = (n : Int) + 1 ∧ s2 = sg_uI (sg_uA (sg_uA (sg_uA s 78 n x1) 79 n x2) 80 n x3) 64 34 (Int32.ofInt ((n : Int) + 1))) ∧ (¬ n < 100 → r.toInt = -1 ∧ s2 = s))) ∧ (¬ en_ok T x1 x2 x3 → r.toInt = -1 ∧ s2 = s)) := by
  have m0 : (Int32.ofInt 0).toInt = 0 := rfl
  have m29 : (Int32.ofInt 29).toInt = 29 := rfl
  have m9 : (Int32.ofInt 9999).toInt = 9999 := rfl
  by_cases hok : en_ok T x1 x2 x3
  · refine wp_M_entry_ok (I34 := fun l s1 => s1 = s ∧ ∃ i : Nat, l.toInt = (i : Int) ∧ i ≤ n ∧ rd_to (fun i => !decide ((s.2.2.1 78 i.toNat).toInt = x1.toInt ∧ (s.2.2.1 79 i.toNat).toInt = x2.toInt)) (fun i => (i : Int)) n i = pt_ix (s.2.2.1 78) (s.2.2.1 79) n x1 x2) (fun l s1 hI => sm_put hn h100 (fun i r hi e hr => ⟨fun _ => ⟨fun _ => ⟨hr, by rw [← e]⟩, fun z => absurd (e ▸ hi) z⟩, fun z => absurd hok z⟩) (fun r e h1 hr => ⟨fun _ => ⟨fun z => absurd z e, fun _ => ⟨fun _ => ⟨hr, rfl⟩, fun z => absurd h1 z⟩⟩, fun z => absurd hok z⟩) (fun r e h1 hr => ⟨fun _ => ⟨fun z => absurd z e, fun _ => ⟨fun z => absurd z h1, fun _ => ⟨hr, rfl⟩⟩⟩, fun z => absurd hok z⟩) l s1 hI) ?_
    unfold wp_M_entry
    refine sm_in.mono (fun y1 s4 h1 => ?_)
    rw [m0, m29] at h1
    obtain rfl := h1.eq
    refine ⟨fun c => absurd hok.1 (h1.no c), fun c1 => sm_in.mono (fun y2 s5 h2 => ?_)⟩
    rw [m0, m9] at h2
    obtain rfl := h2.eq
    refine ⟨fun c => absurd hok.2.1 (h2.no c), fun c2 => (sm_set hU hT).mono (fun y3 s6 h3 => ?_)⟩
    obtain rfl := h3.eq
    exact ⟨fun c => absurd hok.2.2 (h3.no c), fun c3 => ⟨rfl, 0, rfl, Nat.zero_le _, rfl⟩⟩
  · refine wp_M_entry_ok (I34 := fun _ _ => False) (fun l s1 hI => hI.elim) ?_
    unfold wp_M_entry
    have fin : (en_ok T x1 x2 x3 → (pt_ix (s.2.2.1 78) (s.2.2.1 79) n x1 x2 < n → (Int32.ofInt (-1)).toInt = (n : Int) ∧ s = sg_uA s 80 (pt_ix (s.2.2.1 78) (s.2.2.1 79) n x1 x2) x3) ∧ (¬ pt_ix (s.2.2.1 78) (s.2.2.1 79) n x1 x2 < n → (n < 100 → (Int32.ofInt (-1)).toInt = (n : Int) + 1 ∧ s = sg_uI (sg_uA (sg_uA (sg_uA s 78 n x1) 79 n x2) 80 n x3) 64 34 (Int32.ofInt ((n : Int) + 1))) ∧ (¬ n < 100 → (Int32.ofInt (-1)).toInt = -1 ∧ s = s))) ∧ (¬ en_ok T x1 x2 x3 → (Int32.ofInt (-1)).toInt = -1 ∧ s = s) := ⟨fun z => absurd z hok, fun _ => ⟨rfl, rfl⟩⟩
    refine sm_in.mono (fun y1 s4 h1 => ?_)
    rw [m0, m29] at h1
    obtain rfl := h1.eq
    refine ⟨fun c => fin, fun c1 => sm_in.mono (fun y2 s5 h2 => ?_)⟩
    rw [m0, m9] at h2
    obtain rfl := h2.eq
    refine ⟨fun c => fin, fun c2 => (sm_set hU hT).mono (fun y3 s6 h3 => ?_)⟩
    obtain rfl := h3.eq
    exact ⟨fun c => fin, fun c3 => absurd ⟨h1.yes c1, h2.yes c2, h3.yes c3⟩ hok⟩
end SM
