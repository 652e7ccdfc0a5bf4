/-! ===== the small calls of both: word, like, type, store, poet ===== -/
section SN
variable {s : sg_S} {x1 x2 x3 : Int32} {T : rp_T}
/-- the entry that a word has by a year, among the first k; -1: none -/
def wd_bx (w y : Nat → Int32) (a Y : Int) : Nat → Int
  | 0 => -1
  | k + 1 => if (w k).toInt = a ∧ (y k).toInt ≤ Y ∧ (wd_bx w y a Y k = -1 ∨ (y (wd_bx w y a Y k).toNat).toInt < (y k).toInt) then (k : Int) else wd_bx w y a Y k
theorem wd_bx_lt (w y : Nat → Int32) (a Y : Int) : ∀ k : Nat, -1 ≤ wd_bx w y a Y k ∧ wd_bx w y a Y k < (k : Int) := by
  intro k
  induction k with
  | zero => exact ⟨Int.le_refl _, show (-1 : Int) < 0 by decide⟩
  | succ k ih =>
    show -1 ≤ (if _ then (k : Int) else wd_bx w y a Y k) ∧ (if _ then (k : Int) else wd_bx w y a Y k) < ((k + 1 : Nat) : Int)
    split <;> omega
theorem wd_bx_congr {w y w2 y2 : Nat → Int32} {a Y : Int} : ∀ n : Nat, (∀ i, i < n → w i = w2 i ∧ y i = y2 i) → wd_bx w y a Y n = wd_bx w2 y2 a Y n := by
  intro n
  induction n with
  | zero => intro _; rfl
  | succ n ih =>
    intro h
    have e := ih (fun i hi => h i (by omega))
    have hl := wd_bx_lt w2 y2 a Y n
    show (if _ then (n : Int) else wd_bx w y a Y n) = (if _ then (n : Int) else wd_bx w2 y2 a Y n)
    rw [e, (h n (by omega)).1, (h n (by omega)).2]
    by_cases c : wd_bx w2 y2 a Y n = -1
    · simp only [c, true_or]
    · rw [(h (wd_bx w2 y2 a Y n).toNat (by omega)).2]
def wd_st (w y v : Nat → Int32) (n : Nat) (a Y : Int) : Int32 := if wd_bx w y a Y n = -1 then Int32.ofInt 0 else v (wd_bx w y a Y n).toNat
theorem wd_st_congr {w y v w2 y2 v2 : Nat → Int32} {n : Nat} {a Y : Int} (h : ∀ i, i < n → w i = w2 i ∧ y i = y2 i ∧ v i = v2 i) : wd_st w y v n a Y = wd_st w2 y2 v2 n a Y := by
  have e := wd_bx_congr (a := a) (Y := Y) n (fun i hi => ⟨(h i hi).1, (h i hi).2.1⟩)
  have hl := wd_bx_lt w2 y2 a Y n
  unfold wd_st
  rw [e]
  by_cases c : wd_bx w2 y2 a Y n = -1
  · rw [if_pos c, if_pos c]
  · rw [if_neg c, if_neg c, (h (wd_bx w2 y2 a Y n).toNat (by omega)).2.2]
theorem sx_setOf {n : Nat} (hn : (s.1 18 1).toInt = (n : Int)) (h100 : n ≤ 100) (hy : ∀ i, i < n → 0 ≤ (s.2.2.1 20 i).toInt) : am_SpI 3 [.ref 18, .int x1] s (fun r s2 => s2 = s ∧ r = wd_st (s.2.2.1 19) (s.2.2.1 20) (s.2.2.1 21) n x1.toInt (s.1 18 0).toInt) := by
  refine wp_XBook_setOf_ok (I7 := fun l2 l3 l4 s1 => s1 = s ∧ ∃ k : Nat, l4.toInt = (k : Int) ∧ k ≤ n ∧ l2 = wd_st (s.2.2.1 19) (s.2.2.1 20) (s.2.2.1 21) k x1.toInt (s.1 18 0).toInt ∧ l3.toInt = (if wd_bx (s.2.2.1 19) (s.2.2.1 20) x1.toInt (s.1 18 0).toInt k = -1 then -1 else (s.2.2.1 20 (wd_bx (s.2.2.1 19) (s.2.2.1 20) x1.toInt (s.1 18 0).toInt k).toNat).toInt)) ?_ ⟨rfl, 0, rfl, Nat.zero_le _, rfl, rfl⟩
  intro l2 l3 l4 s1 hI
  obtain ⟨rfl, k, hk, hkn, e2, e3⟩ := hI
  have hst : wd_bx (s1.2.2.1 19) (s1.2.2.1 20) x1.toInt (s1.1 18 0).toInt (k + 1) = if (s1.2.2.1 19 k).toInt = x1.toInt ∧ (s1.2.2.1 20 k).toInt ≤ (s1.1 18 0).toInt ∧ (wd_bx (s1.2.2.1 19) (s1.2.2.1 20) x1.toInt (s1.1 18 0).toInt k = -1 ∨ (s1.2.2.1 20 (wd_bx (s1.2.2.1 19) (s1.2.2.1 20) x1.toInt (s1.1 18 0).toInt k).toNat).toInt < (s1.2.2.1 20 k).toInt) then (k : Int) else wd_bx (s1.2.2.1 19) (s1.2.2.1 20) x1.toInt (s1.1 18 0).toInt k := rfl
  unfold wp_XBook_setOf_7
  have hinc : k < n → (l4 + Int32.ofInt 1).toInt = ((k + 1 : Nat) : Int) := fun _ => by
    rw [i32_inc (c := 0) (by omega) (by omega), hk]
    rfl
  have keep : k < n → wd_bx (s1.2.2.1 19) (s1.2.2.1 20) x1.toInt (s1.1 18 0).toInt (k + 1) = wd_bx (s1.2.2.1 19) (s1.2.2.1 20) x1.toInt (s1.1 18 0).toInt k → s1 = s1 ∧ ∃ k : Nat, (l4 + Int32.ofInt 1).toInt = (k : Int) ∧ k ≤ n ∧ l2 = wd_st (s1.2.2.1 19) (s1.2.2.1 20) (s1.2.2.1 21) k x1.toInt (s1.1 18 0).toInt ∧ l3.toInt = (if wd_bx (s1.2.2.1 19) (s1.2.2.1 20) x1.toInt (s1.1 18 0).toInt k = -1 then -1 else (s1.2.2.1 20 (wd_bx (s1.2.2.1 19) (s1.2.2.1 20) x1.toInt (s1.1 18 0).toInt k).toNat).toInt) := by
    intro h1 h2
    refine ⟨rfl, k + 1, hinc h1, by omega, ?_, by rw [h2]; exact e3⟩
    unfold wd_st
    rw [h2]
    exact e2
  refine ⟨fun c1 i1 i2 => ?_, fun c1 => ⟨rfl, ?_⟩⟩
  · have hkn2 : k < n := by omega
    have ek : l4.toInt.toNat = k := by omega
    have hyk := hy k hkn2
    rw [ek]
    generalize hb : wd_bx (s1.2.2.1 19) (s1.2.2.1 20) x1.toInt (s1.1 18 0).toInt k = b at e3 hst keep
    refine ⟨fun c2 => ⟨fun c3 => keep hkn2 (by rw [hst, if_neg (by omega)]), fun c3 => ⟨fun c4 => ?_, fun c4 => keep hkn2 ?_⟩⟩, fun c2 => keep hkn2 (by rw [hst, if_neg (fun z => c2 z.1)])⟩
    · have hyes : (s1.2.2.1 19 k).toInt = x1.toInt ∧ (s1.2.2.1 20 k).toInt ≤ (s1.1 18 0).toInt ∧ (b = -1 ∨ (s1.2.2.1 20 b.toNat).toInt < (s1.2.2.1 20 k).toInt) := by
        refine ⟨c2, by omega, ?_⟩
        by_cases cb : b = -1
        · exact Or.inl cb
        · rw [if_neg cb] at e3
          exact Or.inr (by omega)
      rw [if_pos hyes] at hst
      refine ⟨rfl, k + 1, hinc hkn2, by omega, ?_, ?_⟩
      · unfold wd_st
        rw [hst, if_neg (by omega), Int.toNat_natCast]
      · rw [hst, if_neg (by omega), Int.toNat_natCast]
    · rw [hst, if_neg ?_]
      intro z
      rcases z.2.2 with z | z
      · rw [if_pos z] at e3
        omega
      · by_cases cb : b = -1
        · rw [if_pos cb] at e3
          omega
        · rw [if_neg cb] at e3
          omega
  · have : k = n := by omega
    rw [← this]
    exact e2
theorem sm_setOf {n : Nat} (hn : (s.1 64 34).toInt = (n : Int)) (h100 : n ≤ 100) : am_SpI 177 [.ref 64, .int x1] s (fun r s2 => s2 = s ∧ r = wd_st (s.2.2.1 78) (s.2.2.1 79) (s.2.2.1 80) n x1.toInt (s.1 64 33).toInt) := by
  refine wp_M_setOf1_ok (I4 := fun l2 l3 s1 => s1 = s ∧ ∃ k : Nat, l3.toInt = (k : Int) ∧ k ≤ n ∧ l2.toInt = wd_bx (s.2.2.1 78) (s.2.2.1 79) x1.toInt (s.1 64 33).toInt k) ?_ ⟨rfl, 0, rfl, Nat.zero_le _, rfl⟩
  intro l2 l3 s1 hI
  obtain ⟨rfl, k, hk, hkn, e2⟩ := hI
  have hst : wd_bx (s1.2.2.1 78) (s1.2.2.1 79) x1.toInt (s1.1 64 33).toInt (k + 1) = if (s1.2.2.1 78 k).toInt = x1.toInt ∧ (s1.2.2.1 79 k).toInt ≤ (s1.1 64 33).toInt ∧ (wd_bx (s1.2.2.1 78) (s1.2.2.1 79) x1.toInt (s1.1 64 33).toInt k = -1 ∨ (s1.2.2.1 79 (wd_bx (s1.2.2.1 78) (s1.2.2.1 79) x1.toInt (s1.1 64 33).toInt k).toNat).toInt < (s1.2.2.1 79 k).toInt) then (k : Int) else wd_bx (s1.2.2.1 78) (s1.2.2.1 79) x1.toInt (s1.1 64 33).toInt k := rfl
  unfold wp_M_setOf1_4
  have hinc : k < n → (l3 + Int32.ofInt 1).toInt = ((k + 1 : Nat) : Int) := fun _ => by
    rw [i32_inc (c := 0) (by omega) (by omega), hk]
    rfl
  refine ⟨fun c1 i1 i2 => ?_, fun c1 => ?_⟩
  · have hkn2 : k < n := by omega
    have ek : l3.toInt.toNat = k := by omega
    rw [ek]
    generalize hb : wd_bx (s1.2.2.1 78) (s1.2.2.1 79) x1.toInt (s1.1 64 33).toInt k = b at e2 hst
    rw [e2]
    have keep : wd_bx (s1.2.2.1 78) (s1.2.2.1 79) x1.toInt (s1.1 64 33).toInt (k + 1) = b → s1 = s1 ∧ ∃ k : Nat, (l3 + Int32.ofInt 1).toInt = (k : Int) ∧ k ≤ n ∧ l2.toInt = wd_bx (s1.2.2.1 78) (s1.2.2.1 79) x1.toInt (s1.1 64 33).toInt k := fun h => ⟨rfl, k + 1, hinc hkn2, by omega, by rw [h]; exact e2⟩
    have take : wd_bx (s1.2.2.1 78) (s1.2.2.1 79) x1.toInt (s1.1 64 33).toInt (k + 1) = (k : Int) → s1 = s1 ∧ ∃ k : Nat, (l3 + Int32.ofInt 1).toInt = (k : Int) ∧ k ≤ n ∧ l3.toInt = wd_bx (s1.2.2.1 78) (s1.2.2.1 79) x1.toInt (s1.1 64 33).toInt k := fun h => ⟨rfl, k + 1, hinc hkn2, by omega, by rw [h]; exact hk⟩
    refine ⟨fun c2 => ⟨fun c3 => keep (by rw [hst, if_neg (by omega)]), fun c3 => ⟨fun c4 => take (by rw [hst, if_pos ⟨c2, by omega, Or.inl c4⟩]), fun c4 i3 i4 => ⟨fun c5 => take (by rw [hst, if_pos ⟨c2, by omega, Or.inr c5⟩]), fun c5 => keep (by rw [hst, if_neg (fun z => by rcases z.2.2 with z | z; exact c4 z; exact c5 z)])⟩⟩⟩, fun c2 => keep (by rw [hst, if_neg (fun z => c2 z.1)])⟩
  · have hkn2 : k = n := by omega
    subst hkn2
    unfold wd_st
    rw [e2]
    exact ⟨fun c2 => ⟨rfl, by rw [if_pos c2]⟩, fun c2 _ _ => ⟨rfl, by rw [if_neg c2]⟩⟩
theorem sx_Word {n : Nat} (hn : (s.1 18 1).toInt = (n : Int)) (h100 : n ≤ 100) (hy : ∀ i, i < n → 0 ≤ (s.2.2.1 20 i).toInt) : am_SpI 129 [.ref 0, .int x1] s (fun r s2 => s2 = s ∧ (0 ≤ x1.toInt ∧ x1.toInt ≤ 29 → r = wd_st (s.2.2.1 19) (s.2.2.1 20) (s.2.2.1 21) n x1.toInt (s.1 18 0).toInt) ∧ (¬ (0 ≤ x1.toInt ∧ x1.toInt ≤ 29) → r = Int32.ofInt (-1))) := by
  refine wp_X_word_ok ?_
  unfold wp_X_word
  refine sx_word.mono (fun y s4 h => ?_)
  obtain rfl := h.eq
  refine ⟨fun c => ⟨rfl, fun z => absurd z (h.no c), fun _ => rfl⟩, fun c => (sx_setOf hn h100 hy).mono (fun r s5 h2 => ?_)⟩
  exact ⟨h2.1, fun _ => h2.2, fun z => absurd (h.yes c) z⟩
theorem sm_Word {n : Nat} (hn : (s.1 64 34).toInt = (n : Int)) (h100 : n ≤ 100) : am_SpI 176 [.ref 64, .int x1] s (fun r s2 => s2 = s ∧ (0 ≤ x1.toInt ∧ x1.toInt ≤ 29 → r = wd_st (s.2.2.1 78) (s.2.2.1 79) (s.2.2.1 80) n x1.toInt (s.1 64 33).toInt) ∧ (¬ (0 ≤ x1.toInt ∧ x1.toInt ≤ 29) → r = Int32.ofInt (-1))) := by
  have m0 : (Int32.ofInt 0).toInt = 0 := rfl
  have m29 : (Int32.ofInt 29).toInt = 29 := rfl
  refine wp_M_word_ok ?_
  unfold wp_M_word
  refine sm_in.mono (fun y s4 h => ?_)
  rw [m0, m29] at h
  obtain rfl := h.eq
  refine ⟨fun c => ⟨rfl, fun z => absurd z (h.no c), fun _ => rfl⟩, fun c => (sm_setOf hn h100).mono (fun r s5 h2 => ?_)⟩
  exact ⟨h2.1, fun _ => h2.2, fun z => absurd (h.yes c) z⟩
/-- like -/
def lk_ok (T : rp_T) (x1 x2 x3 : Int32) : Prop := (0 ≤ x1.toInt ∧ x1.toInt < (T.1 : Int)) ∧ (0 ≤ x2.toInt ∧ x2.toInt < (T.1 : Int)) ∧ (-9 ≤ x3.toInt ∧ x3.toInt ≤ 9)
theorem lk_ix (hT : rp_ok T) {a b : Int32} (ha : 0 ≤ a.toInt ∧ a.toInt < (T.1 : Int)) (hb : 0 ≤ b.toInt ∧ b.toInt < (T.1 : Int)) : (a * Int32.ofInt 8 + b).toInt = 8 * a.toInt + b.toInt ∧ (Int32.ofInt 8 * a + b).toInt = 8 * a.toInt + b.toInt := by
  have h8 := hT.1
  have e8 : (Int32.ofInt 8).toInt = 8 := rfl
  have m1 : (a * Int32.ofInt 8).toInt = a.toInt * 8 := by rw [i32_mul (by rw [e8]; omega) (by rw [e8]; omega), e8]
  have m2 : (Int32.ofInt 8 * a).toInt = 8 * a.toInt := by rw [i32_mul (by rw [e8]; omega) (by rw [e8]; omega), e8]
  exact ⟨by rw [i32_add (by omega) (by omega), m1]; omega, by rw [i32_add (by omega) (by omega), m2]⟩
theorem sx_Like (hU : rx_RU T s) (hT : rp_ok T) : am_SpI 130 [.ref 0, .int x1, .int x2, .int x3] s (fun r s2 => (lk_ok T x1 x2 x3 → r = s.2.2.1 23 (8 * x1.toInt + x2.toInt).toNat ∧ s2 = sg_uA (sg_uA s 23 (8 * x1.toInt + x2.toInt).toNat x3) 23 (8 * x2.toInt + x1.toInt).toNat x3) ∧ (¬ lk_ok T x1 x2 x3 → r = Int32.ofInt (-100) ∧ s2 = s)) := by
  refine wp_X_like_ok ?_
  unfold wp_X_like
  refine (sx_kind hU).mono (fun y s4 h => ?_)
  obtain rfl := h.eq
  refine ⟨fun c => ⟨fun z => absurd z.1 (h.no c), fun _ => ⟨rfl, rfl⟩⟩, fun c => (sx_kind hU).mono (fun y2 s5 h2 => ?_)⟩
  obtain rfl := h2.eq
  refine ⟨fun c2 => ⟨fun z => absurd z.2.1 (h2.no c2), fun _ => ⟨rfl, rfl⟩⟩, fun c2 => ⟨fun c3 => ⟨fun z => by have := z.2.2; omega, fun _ => ⟨rfl, rfl⟩⟩, fun c3 => ⟨fun c4 => ⟨fun z => by have := z.2.2; omega, fun _ => ⟨rfl, rfl⟩⟩, fun c4 => ?_⟩⟩⟩
  have p1 := h.yes c
  have p2 := h2.yes c2
  refine wp_XValues_change_ok ?_
  unfold wp_XValues_change
  rw [(lk_ix hT p1 p2).1, (lk_ix hT p2 p1).1]
  exact fun _ _ _ _ => ⟨fun _ => ⟨rfl, rfl⟩, fun z => absurd ⟨p1, p2, by omega⟩ z⟩
theorem sm_Like (hU : rm_RU T s) (hT : rp_ok T) : am_SpI 178 [.ref 64, .int x1, .int x2, .int x3] s (fun r s2 => (lk_ok T x1 x2 x3 → r = s.2.2.1 81 (8 * x1.toInt + x2.toInt).toNat ∧ s2 = sg_uA (sg_uA s 81 (8 * x1.toInt + x2.toInt).toNat x3) 81 (8 * x2.toInt + x1.toInt).toNat x3) ∧ (¬ lk_ok T x1 x2 x3 → r = Int32.ofInt (-100) ∧ s2 = s)) := by
  have m0 : (Int32.ofInt 0).toInt = 0 := rfl
  have m9 : (Int32.ofInt 9).toInt = 9 := rfl
  have n9 : (Int32.ofInt (-9)).toInt = -9 := rfl
  have m1 : (Int32.ofInt 1).toInt = 1 := rfl
  have h8 := hT.1
  have e1 : (s.1 64 21 - Int32.ofInt 1).toInt = (T.1 : Int) - 1 := by
    have h0 := hU.1
    rw [i32_sub (by omega) (by omega), m1, h0]
  refine wp_M_like_ok ?_
  unfold wp_M_like
  refine sm_in.mono (fun y s4 h => ?_)
  rw [m0, e1] at h
  obtain rfl := h.eq
  refine ⟨fun c => ⟨fun z => absurd z.1 (fun q => h.no c (by omega)), fun _ => ⟨rfl, rfl⟩⟩, fun c => sm_in.mono (fun y2 s5 h2 => ?_)⟩
  rw [m0, e1] at h2
  obtain rfl := h2.eq
  refine ⟨fun c2 => ⟨fun z => absurd z.2.1 (fun q => h2.no c2 (by omega)), fun _ => ⟨rfl, rfl⟩⟩, fun c2 => sm_in.mono (fun y3 s6 h3 => ?_)⟩
  rw [n9, m9] at h3
  obtain rfl := h3.eq
  refine ⟨fun c3 => ⟨fun z => absurd z.2.2 (h3.no c3), fun _ => ⟨rfl, rfl⟩⟩, fun c3 => ?_⟩
  have p1 := h.yes c
  have p2 := h2.yes c2
  rw [(lk_ix hT (a := x1) (b := x2) (by omega) (by omega)).2, (lk_ix hT (a := x2) (b := x1) (by omega) (by omega)).2]
  exact fun _ _ _ _ => ⟨fun _ => ⟨rfl, rfl⟩, fun z => absurd ⟨by omega, by omega, h3.yes c3⟩ z⟩
/-- type -/
def ty_ix (v : Nat → Int32) (n : Nat) (a : Int32) : Nat := rd_to (fun i => !decide ((v i.toNat).toInt = a.toInt)) (fun i => (i : Int)) n 0
theorem ty_ix_congr {v v2 : Nat → Int32} {n : Nat} {a : Int32} (h : ∀ i, i < n → v i = v2 i) : ty_ix v n a = ty_ix v2 n a := by
  refine rd_to_congr (fun i _ hi => ?_)
  simp only [Int.toNat_natCast, h i hi]
theorem sx_addT {n : Nat} (hn : (s.1 35 3).toInt = (n : Int)) (h16 : n ≤ 16) : am_SpI 12 [.ref 35, .int x1] s (fun r s2 => (¬ ty_ix (s.2.2.1 36) n x1 < n ∧ n < 16 → r.toInt = (n : Int) ∧ s2 = sg_uI (sg_uA s 36 n x1) 35 3 (Int32.ofInt ((n : Int) + 1))) ∧ (¬ (¬ ty_ix (s.2.2.1 36) n x1 < n ∧ n < 16) → r.toInt = -1 ∧ s2 = s)) := by
  refine wp_XEnding_addType_ok (I2 := fun l s1 => s1 = s ∧ ∃ i : Nat, l.toInt = (i : Int) ∧ i ≤ n ∧ rd_to (fun i => !decide ((s.2.2.1 36 i.toNat).toInt = x1.toInt)) (fun i => (i : Int)) n i = ty_ix (s.2.2.1 36) n x1) ?_ ⟨rfl, 0, rfl, Nat.zero_le _, rfl⟩
  intro l s1 hI
  obtain ⟨rfl, i, hi, hin, hl⟩ := hI
  unfold wp_XEnding_addType_2
  generalize hG : ty_ix (s1.2.2.1 36) n x1 = G at hl
  simp only [hi, hn, Int.toNat_natCast]
  refine ⟨fun c1 _ _ => ⟨fun c2 => ?_, fun c2 => ⟨trivial, i + 1, ?_, by omega, ?_⟩⟩, fun c1 => ?_⟩
  · have e : G = i := by
      rw [← hl]
      exact rd_to_no (by simp only [Int.toNat_natCast, Bool.not_eq_false', decide_eq_true_eq]; exact c2)
    exact ⟨fun z => absurd (show G < n by omega) z.1, fun _ => ⟨by trivial, by trivial⟩⟩
  · rw [i32_inc (c := 0) (by omega) (by omega), hi]
    rfl
  · rw [← hl]
    exact (rd_to_go (by omega) (by simp only [Int.toNat_natCast, Bool.not_eq_true', decide_eq_false_iff_not]; exact c2)).symm
  · have e : ¬ G < n := by
      rw [← hl, rd_to_end (by omega)]
      omega
    have h1 : (s1.1 35 3 + Int32.ofInt 1).toInt = (n : Int) + 1 := by rw [i32_inc (c := 0) (by omega) (by omega), hn]
    have m1 : (Int32.ofInt 1).toInt = 1 := rfl
    refine ⟨fun c2 _ _ => ⟨fun _ => ⟨?_, by rw [rx_ofI h1]⟩, fun z => absurd ⟨e, by omega⟩ z⟩, fun c2 => ⟨fun z => absurd (show (n : Int) < 16 by omega) c2, fun _ => ⟨by trivial, by trivial⟩⟩⟩
    rw [i32_sub (by omega) (by omega), h1, m1]
    omega
def ty_ok (T : rp_T) (x1 : Int32) : Prop := 0 ≤ x1.toInt ∧ x1.toInt < (rp_kset T.1).toInt
theorem sx_Type {n : Nat} (hU : rx_RU T s) (hn : (s.1 35 3).toInt = (n : Int)) (h16 : n ≤ 16) : am_SpI 137 [.ref 0, .int x1] s (fun r s2 => (ty_ok T x1 ∧ ¬ ty_ix (s.2.2.1 36) n x1 < n ∧ n < 16 → r.toInt = (n : Int) ∧ s2 = sg_uI (sg_uA s 36 n x1) 35 3 (Int32.ofInt ((n : Int) + 1))) ∧ (¬ (ty_ok T x1 ∧ ¬ ty_ix (s.2.2.1 36) n x1 < n ∧ n < 16) → r.toInt = -1 ∧ s2 = s)) := by
  refine wp_X_type_ok ?_
  unfold wp_X_type
  refine (sx_set hU).mono (fun y s4 h => ?_)
  obtain rfl := h.eq
  refine ⟨fun c => ⟨fun z => absurd z.1 (h.no c), fun _ => ⟨rfl, rfl⟩⟩, fun c => (sx_addT hn h16).mono (fun r s5 h2 => ?_)⟩
  exact ⟨fun z => h2.1 z.2, fun z => h2.2 (fun q => z ⟨h.yes c, q⟩)⟩
theorem sm_Type {n : Nat} (hU : rm_RU T s) (hT : rp_ok T) (hn : (s.1 64 46).toInt = (n : Int)) (h16 : n ≤ 16) : am_SpI 196 [.ref 64, .int x1] s (fun r s2 => (ty_ok T x1 ∧ ¬ ty_ix (s.2.2.1 88) n x1 < n ∧ n < 16 → r.toInt = (n : Int) ∧ s2 = sg_uI (sg_uA s 88 n x1) 64 46 (Int32.ofInt ((n : Int) + 1))) ∧ (¬ (ty_ok T x1 ∧ ¬ ty_ix (s.2.2.1 88) n x1 < n ∧ n < 16) → r.toInt = -1 ∧ s2 = s)) := by
  refine wp_M_type_ok (I21 := fun l s1 => s1 = s ∧ ty_ok T x1 ∧ n < 16 ∧ ∃ i : Nat, l.toInt = (i : Int) ∧ i ≤ n ∧ rd_to (fun i => !decide ((s.2.2.1 88 i.toNat).toInt = x1.toInt)) (fun i => (i : Int)) n i = ty_ix (s.2.2.1 88) n x1) ?_ ?_
  · intro l s1 hI
    obtain ⟨rfl, hok, h15, i, hi, hin, hl⟩ := hI
    unfold wp_M_type_21
    generalize hG : ty_ix (s1.2.2.1 88) n x1 = G at hl
    simp only [hi, hn, Int.toNat_natCast]
    refine ⟨fun c1 _ _ => ⟨fun c2 => ?_, fun c2 => ⟨trivial, hok, h15, i + 1, ?_, by omega, ?_⟩⟩, fun c1 _ _ => ?_⟩
    · have e : G = i := by
        rw [← hl]
        exact rd_to_no (by simp only [Int.toNat_natCast, Bool.not_eq_false', decide_eq_true_eq]; exact c2)
      exact ⟨fun z => absurd (show G < n by omega) z.2.1, fun _ => ⟨by trivial, by trivial⟩⟩
    · rw [i32_inc (c := 0) (by omega) (by omega), hi]
      rfl
    · rw [← hl]
      exact (rd_to_go (by omega) (by simp only [Int.toNat_natCast, Bool.not_eq_true', decide_eq_false_iff_not]; exact c2)).symm
    · have e : ¬ G < n := by
        rw [← hl, rd_to_end (by omega)]
        omega
      have h1 : (s1.1 64 46 + Int32.ofInt 1).toInt = (n : Int) + 1 := by rw [i32_inc (c := 0) (by omega) (by omega), hn]
      have m1 : (Int32.ofInt 1).toInt = 1 := rfl
      refine ⟨fun _ => ⟨?_, by rw [rx_ofI h1]⟩, fun z => absurd ⟨hok, e, h15⟩ z⟩
      rw [i32_sub (by omega) (by omega), h1, m1]
      omega
  · unfold wp_M_type
    refine (sm_set hU hT).mono (fun y s4 h => ?_)
    obtain rfl := h.eq
    refine ⟨fun c => ⟨fun z => absurd z.1 (h.no c), fun _ => ⟨rfl, rfl⟩⟩, fun c => ⟨fun c2 => ⟨fun z => by have := z.2.2; omega, fun _ => ⟨rfl, rfl⟩⟩, fun c2 => ⟨rfl, h.yes c, by omega, 0, rfl, Nat.zero_le _, rfl⟩⟩⟩
/-- store -/
theorem st_ix {x : Int32} {n : Nat} (hn : x.toInt = (n : Int)) (h20 : n < 20) : (x * Int32.ofInt 3).toInt = (3 * n : Nat) ∧ (x * Int32.ofInt 3 + Int32.ofInt 1).toInt = ((3 * n + 1 : Nat) : Int) ∧ (x * Int32.ofInt 3 + Int32.ofInt 2).toInt = ((3 * n + 2 : Nat) : Int) ∧ (Int32.ofInt 3 * x).toInt = (3 * n : Nat) ∧ (Int32.ofInt 3 * x + Int32.ofInt 1).toInt = ((3 * n + 1 : Nat) : Int) ∧ (Int32.ofInt 3 * x + Int32.ofInt 2).toInt = ((3 * n + 2 : Nat) : Int) := by
  have e3 : (Int32.ofInt 3).toInt = 3 := rfl
  have e1 : (Int32.ofInt 1).toInt = 1 := rfl
  have e2 : (Int32.ofInt 2).toInt = 2 := rfl
  have a : (x * Int32.ofInt 3).toInt = x.toInt * 3 := by rw [i32_mul (by rw [e3]; omega) (by rw [e3]; omega), e3]
  have b : (Int32.ofInt 3 * x).toInt = 3 * x.toInt := by rw [i32_mul (by rw [e3]; omega) (by rw [e3]; omega), e3]
  refine ⟨by rw [a]; omega, ?_, ?_, by rw [b]; omega, ?_, ?_⟩
  · rw [i32_add (by omega) (by omega), a, e1]; omega
  · rw [i32_add (by omega) (by omega), a, e2]; omega
  · rw [i32_add (by omega) (by omega), b, e1]; omega
  · rw [i32_add (by omega) (by omega), b, e2]; omega
theorem sx_Store {n : Nat} (hn : (s.1 58 4).toInt = (n : Int)) (h20 : n ≤ 20) : am_SpI 141 [.ref 0, .int x1, .int x2, .int x3] s (fun r s2 => (aw_ x1 x2 x3 ∧ n < 20 → r.toInt = (n : Int) ∧ s2 = sg_uI (sg_uA (sg_uA (sg_uA s 59 (3 * n) x1) 59 (3 * n + 1) x2) 59 (3 * n + 2) x3) 58 4 (Int32.ofInt ((n : Int) + 1))) ∧ (¬ (aw_ x1 x2 x3 ∧ n < 20) → r.toInt = -1 ∧ s2 = s)) := by
  refine wp_X_store_ok ?_
  unfold wp_X_store
  refine sx_words.mono (fun y s4 h => ?_)
  obtain rfl := h.eq
  refine ⟨fun c => ⟨fun z => absurd z.1 (h.no c), fun _ => ⟨rfl, rfl⟩⟩, fun c => ?_⟩
  refine wp_XStore_add_ok ?_
  unfold wp_XStore_add
  by_cases h19 : n < 20
  · obtain ⟨a0, a1, a2, -⟩ := st_ix hn h19
    have h1 : (s4.1 58 4 + Int32.ofInt 1).toInt = (n : Int) + 1 := by rw [i32_inc (c := 0) (by omega) (by omega), hn]
    have m1 : (Int32.ofInt 1).toInt = 1 := rfl
    rw [a0, a1, a2]
    simp only [Int.toNat_natCast]
    refine ⟨fun _ _ _ _ _ _ _ => ⟨fun _ => ⟨?_, by rw [rx_ofI h1]⟩, fun z => absurd ⟨h.yes c, h19⟩ z⟩, fun c2 => absurd (show (s4.1 58 4).toInt < 20 by omega) c2⟩
    rw [i32_sub (by omega) (by omega), h1, m1]
    omega
  · exact ⟨fun c2 => absurd (show n < 20 by omega) h19, fun _ => ⟨fun z => absurd z.2 h19, fun _ => ⟨rfl, rfl⟩⟩⟩
theorem sm_Store {n : Nat} (hn : (s.1 64 58).toInt = (n : Int)) (h20 : n ≤ 20) : am_SpI 205 [.ref 64, .int x1, .int x2, .int x3] s (fun r s2 => (aw_ x1 x2 x3 ∧ n < 20 → r.toInt = (n : Int) ∧ s2 = sg_uI (sg_uA (sg_uA (sg_uA s 96 (3 * n) x1) 96 (3 * n + 1) x2) 96 (3 * n + 2) x3) 64 58 (Int32.ofInt ((n : Int) + 1))) ∧ (¬ (aw_ x1 x2 x3 ∧ n < 20) → r.toInt = -1 ∧ s2 = s)) := by
  refine wp_M_store_ok ?_
  unfold wp_M_store
  refine sm_words.mono (fun y s4 h => ?_)
  obtain rfl := h.eq
  refine ⟨fun c => ⟨fun z => absurd z.1 (h.no c), fun _ => ⟨rfl, rfl⟩⟩, fun c => ⟨fun c2 => ⟨fun z => by have := z.2; omega, fun _ => ⟨rfl, rfl⟩⟩, fun c2 => ?_⟩⟩
  have h19 : n < 20 := by omega
  obtain ⟨-, -, -, a0, a1, a2⟩ := st_ix hn h19
  have h1 : (s4.1 64 58 + Int32.ofInt 1).toInt = (n : Int) + 1 := by rw [i32_inc (c := 0) (by omega) (by omega), hn]
  have m1 : (Int32.ofInt 1).toInt = 1 := rfl
  rw [a0, a1, a2]
  simp only [Int.toNat_natCast]
  refine fun _ _ _ _ _ _ => ⟨fun _ => ⟨?_, by rw [rx_ofI h1]⟩, fun z => absurd ⟨h.yes c, h19⟩ z⟩
  rw [i32_sub (by omega) (by omega), h1, m1]
  omega
end SN
