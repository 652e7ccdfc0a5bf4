/-! ===== a verse is laid and looked at, by both ===== -/
/-- the set of three words -/
def g1_ (w y v : Nat → Int32) (n : Nat) (Y : Int) (a : Int32) : Int32 := if a.toInt = -1 then Int32.ofInt 0 else wd_st w y v n a.toInt Y
def g3_ (w y v : Nat → Int32) (n : Nat) (Y : Int) (a b c : Int32) : Int32 := (g1_ w y v n Y a ||| g1_ w y v n Y b) ||| g1_ w y v n Y c
theorem g3_congr {w y v w2 y2 v2 : Nat → Int32} {n : Nat} {Y : Int} {a b c : Int32} (h : ∀ i, i < n → w i = w2 i ∧ y i = y2 i ∧ v i = v2 i) : g3_ w y v n Y a b c = g3_ w2 y2 v2 n Y a b c := by
  unfold g3_ g1_
  rw [wd_st_congr h, wd_st_congr h, wd_st_congr h]
theorem wd_bx_neg {w y : Nat → Int32} {Y : Int} : ∀ n : Nat, (∀ i, i < n → 0 ≤ (w i).toInt) → wd_bx w y (-1) Y n = -1 := by
  intro n
  induction n with
  | zero => intro _; rfl
  | succ n ih =>
    intro h
    have := h n (by omega)
    show (if _ then (n : Int) else wd_bx w y (-1) Y n) = -1
    rw [if_neg (fun z => by have := z.1; omega)]
    exact ih (fun i hi => h i (by omega))
theorem g1_x {w y v : Nat → Int32} {n : Nat} {Y : Int} {a : Int32} (h : ∀ i, i < n → 0 ≤ (w i).toInt) : wd_st w y v n a.toInt Y = g1_ w y v n Y a := by
  unfold g1_
  by_cases c : a.toInt = -1
  · rw [if_pos c, c]
    unfold wd_st
    rw [if_pos (wd_bx_neg n h)]
  · rw [if_neg c]
section LY
variable {s : sg_S} {x1 x2 x3 x4 x5 : Int32} {T : rp_T}
theorem sx_set3 {n : Nat} (hn : (s.1 18 1).toInt = (n : Int)) (h100 : n ≤ 100) (hy : ∀ i, i < n → 0 ≤ (s.2.2.1 20 i).toInt) (hw : ∀ i, i < n → 0 ≤ (s.2.2.1 19 i).toInt) : am_SpI 4 [.ref 18, .int x1, .int x2, .int x3] s (fun r s2 => s2 = s ∧ r = g3_ (s.2.2.1 19) (s.2.2.1 20) (s.2.2.1 21) n (s.1 18 0).toInt x1 x2 x3) := by
  refine wp_XBook_setOfAll_ok ?_
  unfold wp_XBook_setOfAll
  refine (sx_setOf hn h100 hy).mono (fun r1 s1 h1 => ?_)
  obtain ⟨rfl, h1⟩ := h1
  refine (sx_setOf hn h100 hy).mono (fun r2 s2 h2 => ?_)
  obtain ⟨rfl, h2⟩ := h2
  refine (sx_setOf hn h100 hy).mono (fun r3 s3 h3 => ?_)
  obtain ⟨rfl, h3⟩ := h3
  refine ⟨rfl, ?_⟩
  unfold g3_
  rw [h1, h2, h3, g1_x hw, g1_x hw, g1_x hw]
theorem sm_set3 {n : Nat} (hn : (s.1 64 34).toInt = (n : Int)) (h100 : n ≤ 100) : am_SpI 188 [.ref 64, .int x1, .int x2, .int x3] s (fun r s2 => s2 = s ∧ r = g3_ (s.2.2.1 78) (s.2.2.1 79) (s.2.2.1 80) n (s.1 64 33).toInt x1 x2 x3) := by
  have y : ∀ {a : Int32}, ¬ a.toInt = -1 → wd_st (s.2.2.1 78) (s.2.2.1 79) (s.2.2.1 80) n a.toInt (s.1 64 33).toInt = g1_ (s.2.2.1 78) (s.2.2.1 79) (s.2.2.1 80) n (s.1 64 33).toInt a := fun c => by unfold g1_; rw [if_neg c]
  have z : ∀ {a : Int32}, a.toInt = -1 → Int32.ofInt 0 = g1_ (s.2.2.1 78) (s.2.2.1 79) (s.2.2.1 80) n (s.1 64 33).toInt a := fun c => by unfold g1_; rw [if_pos c]
  refine wp_M_setOf3_ok ?_
  unfold wp_M_setOf3 g3_
  refine ⟨fun c1 => ⟨fun c2 => ⟨fun c3 => ⟨rfl, by rw [← z c1, ← z c2, ← z c3]⟩, fun c3 => (sm_setOf hn h100).mono (fun r s1 h => ?_)⟩, fun c2 => (sm_setOf hn h100).mono (fun r s1 h => ?_)⟩, fun c1 => (sm_setOf hn h100).mono (fun r s1 h => ?_)⟩
  · exact ⟨h.1, by rw [← z c1, ← z c2, ← y c3, h.2]⟩
  · obtain ⟨rfl, h⟩ := h
    refine ⟨fun c3 => ⟨rfl, by rw [← z c1, ← y c2, ← z c3, h]⟩, fun c3 => (sm_setOf hn h100).mono (fun r2 s2 h2 => ⟨h2.1, by rw [← z c1, ← y c2, ← y c3, h, h2.2]⟩)⟩
  · obtain ⟨rfl, h⟩ := h
    refine ⟨fun c2 => ⟨fun c3 => ⟨rfl, by rw [← y c1, ← z c2, ← z c3, h]⟩, fun c3 => (sm_setOf hn h100).mono (fun r2 s2 h2 => ⟨h2.1, by rw [← y c1, ← z c2, ← y c3, h, h2.2]⟩)⟩, fun c2 => (sm_setOf hn h100).mono (fun r2 s2 h2 => ?_)⟩
    obtain ⟨rfl, h2⟩ := h2
    exact ⟨fun c3 => ⟨rfl, by rw [← y c1, ← y c2, ← z c3, h, h2]⟩, fun c3 => (sm_setOf hn h100).mono (fun r3 s3 h3 => ⟨h3.1, by rw [← y c1, ← y c2, ← y c3, h, h2, h3.2]⟩)⟩
/-- all that a verse can break: M -/
def bm_ (t w : Nat → Int32) (K : Nat) (A0 A1 v a b c : Int32) (ρ : Int32 × Int32 × Int32 × Int32) (n p len : Int) : Prop := br_ t K A0 A1 v ρ n p len ∨ (ρ.1.toInt = 6 ∧ ag_ w a b c p ρ.2.2.1.toInt)
theorem sm_brokenBy {R K n : Nat} {len p : Int} (hU : rm_RU T s) (hk : rk_ T) (hR : T.2.2.1 = R) (h12 : R ≤ 12) (hK : K ≤ 8) (hKk : (s.1 64 21).toInt = (K : Int)) (ht : ∀ i, i < 64 → -9 ≤ (s.2.2.1 81 i).toInt ∧ (s.2.2.1 81 i).toInt ≤ 9) (hlen : (s.1 64 24).toInt = len) (hl : 0 ≤ len ∧ len ≤ 48) (hp : x4.toInt = p) (hp2 : 1 ≤ p ∧ p ≤ 48) (hnn : ∀ k, k < R → 0 ≤ (s.2.2.1 82 (2 + k)).toInt ∧ (s.2.2.1 82 (2 + k)).toInt ≤ 48) (hn : (s.1 64 34).toInt = (n : Int)) (h100 : n ≤ 100) : am_SpI 187 [.ref 64, .int x1, .int x2, .int x3, .int x4] s (fun r s2 => s2 = s ∧ fb_ (fun k => bm_ (s.2.2.1 81) (s.2.2.1 85) K (s.2.2.1 82 0) (s.2.2.1 82 1) (g3_ (s.2.2.1 78) (s.2.2.1 79) (s.2.2.1 80) n (s.1 64 33).toInt x1 x2 x3) x1 x2 x3 (rp_rl T k) (s.2.2.1 82 (2 + k)).toInt p len) R r.toInt) := by
  have e23 : (s.1 64 23).toInt = (R : Int) := by rw [hU.2.2.1, hR]
  refine wp_M_brokenBy_ok (I18 := fun l5 l6 s1 => s1 = s ∧ fb_ (fun k => br_ (s.2.2.1 81) K (s.2.2.1 82 0) (s.2.2.1 82 1) (g3_ (s.2.2.1 78) (s.2.2.1 79) (s.2.2.1 80) n (s.1 64 33).toInt x1 x2 x3) (rp_rl T k) (s.2.2.1 82 (2 + k)).toInt p len) R l5.toInt ∧ ∃ i : Nat, l6.toInt = (i : Int) ∧ i ≤ R ∧ ∀ k, k < i → ¬ bm_ (s.2.2.1 81) (s.2.2.1 85) K (s.2.2.1 82 0) (s.2.2.1 82 1) (g3_ (s.2.2.1 78) (s.2.2.1 79) (s.2.2.1 80) n (s.1 64 33).toInt x1 x2 x3) x1 x2 x3 (rp_rl T k) (s.2.2.1 82 (2 + k)).toInt p len) ?_ ?_
  · intro l5 l6 s1 hI
    obtain ⟨rfl, hfb, i, hi, hiR, h⟩ := hI
    unfold wp_M_brokenBy_18
    simp only [hi, e23, Int.toNat_natCast]
    refine ⟨fun c1 => ⟨fun c2 => ⟨trivial, Or.inr ⟨i, rfl, by omega, ?_, h⟩⟩, fun c2 _ _ => ?_⟩, fun c1 => ⟨trivial, Or.inl ⟨rfl, fun k hkR => h k (by omega)⟩⟩⟩
    · rcases hfb with ⟨a1, a2⟩ | ⟨j, a1, a2, a3, a4⟩
      · omega
      · have : j = i := by omega
        rw [← this]
        exact Or.inl a3
    · obtain ⟨u72, -, u74, -⟩ := hU.2.2.2.2.2 i (by omega)
      obtain ⟨r1, r2, r3⟩ := hk i (by omega)
      have nbr : ¬ br_ (s1.2.2.1 81) K (s1.2.2.1 82 0) (s1.2.2.1 82 1) (g3_ (s1.2.2.1 78) (s1.2.2.1 79) (s1.2.2.1 80) n (s1.1 64 33).toInt x1 x2 x3) (rp_rl T i) (s1.2.2.1 82 (2 + i)).toInt p len := by
        intro hb
        rcases hfb with ⟨a1, a2⟩ | ⟨j, a1, a2, a3, a4⟩
        · exact a2 i (by omega) hb
        · rcases Nat.lt_trichotomy i j with q | q | q
          · exact a4 i q hb
          · exact c2 (by rw [a1, q])
          · exact h j q (Or.inl a3)
      have hinc : (l6 + Int32.ofInt 1).toInt = ((i + 1 : Nat) : Int) := by
        rw [i32_inc (c := 0) (by omega) (by omega), hi]
        rfl
      have go : ¬ ((rp_rl T i).1.toInt = 6 ∧ ag_ (s1.2.2.1 85) x1 x2 x3 p (rp_rl T i).2.2.1.toInt) → ∃ j : Nat, (l6 + Int32.ofInt 1).toInt = (j : Int) ∧ j ≤ R ∧ ∀ k, k < j → ¬ bm_ (s1.2.2.1 81) (s1.2.2.1 85) K (s1.2.2.1 82 0) (s1.2.2.1 82 1) (g3_ (s1.2.2.1 78) (s1.2.2.1 79) (s1.2.2.1 80) n (s1.1 64 33).toInt x1 x2 x3) x1 x2 x3 (rp_rl T k) (s1.2.2.1 82 (2 + k)).toInt p len := by
        intro q
        refine ⟨i + 1, hinc, by omega, fun k hkk => ?_⟩
        by_cases ek : k = i
        · rw [ek]
          intro z
          rcases z with z | z
          · exact nbr z
          · exact q z
        · exact h k (by omega)
      rw [u72, u74]
      refine ⟨fun c3 => (sm_again hp hp2 rfl r2).mono (fun y s2 hy => ?_), fun c3 => ⟨trivial, hfb, go (fun z => c3 z.1)⟩⟩
      obtain rfl := hy.eq
      exact ⟨fun c4 => ⟨rfl, hfb, go (fun z => hy.no c4 z.2)⟩, fun c4 => ⟨rfl, Or.inr ⟨i, rfl, by omega, Or.inr ⟨c3, hy.yes c4⟩, h⟩⟩⟩
  · unfold wp_M_brokenBy
    refine (sm_set3 hn h100).mono (fun v s1 h1 => ?_)
    obtain ⟨rfl, h1⟩ := h1
    refine (sm_broken hU hk hR h12 hK hKk ht hlen hl hp (by omega) hnn).mono (fun r s2 h2 => ?_)
    obtain ⟨rfl, h2⟩ := h2
    rw [h1] at h2
    exact ⟨rfl, h2, 0, rfl, Nat.zero_le _, fun k hkk => absurd hkk (Nat.not_lt_zero k)⟩
/-- X: a verse is laid on a place -/
theorem sx_place {p : Int} (hp : x1.toInt = p) : am_SpI 83 [.ref 28, .int x1] s (bo_ (1 ≤ p ∧ p ≤ (s.1 1 3).toInt) s) := by
  refine wp_XSheet_isPlace_ok ?_
  unfold wp_XSheet_isPlace
  rw [hp]
  exact ⟨fun c => bo_0 (by omega), fun c => ⟨fun d => bo_0 (by omega), fun d => bo_1 (by omega)⟩⟩
theorem ly_ix {x : Int32} {p k : Nat} {l : Int32} (hx : x.toInt = (p : Int)) (hp : 1 ≤ p ∧ p ≤ 48) (hl : l.toInt = (k : Int)) (hk : k < 12) : ((x - Int32.ofInt 1) * Int32.ofInt 12 + l).toInt = ((12 * (p - 1) + k : Nat) : Int) ∧ (x * Int32.ofInt 12 + l).toInt = ((12 * p + k : Nat) : Int) := by
  have z1 : (Int32.ofInt 1).toInt = 1 := rfl
  have z12 : (Int32.ofInt 12).toInt = 12 := rfl
  have e1 : (x - Int32.ofInt 1).toInt = (p : Int) - 1 := by rw [i32_sub (by omega) (by omega), hx, z1]
  have e2 : ((x - Int32.ofInt 1) * Int32.ofInt 12).toInt = ((p : Int) - 1) * 12 := by rw [i32_mul (by rw [z12, e1]; omega) (by rw [z12, e1]; omega), z12, e1]
  have e3 : (x * Int32.ofInt 12).toInt = (p : Int) * 12 := by rw [i32_mul (by rw [z12, hx]; omega) (by rw [z12, hx]; omega), z12, hx]
  exact ⟨by rw [i32_add (by omega) (by omega), e2, hl]; omega, by rw [i32_add (by omega) (by omega), e3, hl]; omega⟩
theorem sx_lay {R p : Nat} (hU : rx_RU T s) (hk : rk_ T) (hR : T.2.2.1 = R) (h12 : R ≤ 12) (hp : x1.toInt = (p : Int)) (hp2 : 1 ≤ p ∧ p ≤ 48) (hlen : (p : Int) ≤ T.2.2.2.1) (hn : ∀ k, k < R → no_ (rp_rl T k).1.toInt (rp_rl T k).2.2.1.toInt 48 (s.2.2.1 34 (12 * (p - 1) + k)).toInt) : am_SpV 82 [.ref 28, .int x1, .int x2, .int x3, .int x4, .int x5] s (fun s2 => sg_fr [] [30, 32, 34] s s2 ∧ (s2.2.2.1 30 = fun i => if i = p then x2 else s.2.2.1 30 i) ∧ (s2.2.2.1 32 (3 * p) = x3 ∧ s2.2.2.1 32 (3 * p + 1) = x4 ∧ s2.2.2.1 32 (3 * p + 2) = x5 ∧ ∀ i, i < 3 * p → s2.2.2.1 32 i = s.2.2.1 32 i) ∧ (∀ k, k < R → (s2.2.2.1 34 (12 * p + k)).toInt = nx_ (rp_rl T k).1.toInt (rp_rl T k).2.2.1.toInt (s.2.2.1 34 (12 * (p - 1) + k)).toInt (hb_ (rp_rl T k).2.1 x2)) ∧ ∀ i, i < 12 * p → s2.2.2.1 34 i = s.2.2.1 34 i) := by
  have z1 : (Int32.ofInt 1).toInt = 1 := rfl
  have z2 : (Int32.ofInt 2).toInt = 2 := rfl
  have z3 : (Int32.ofInt 3).toInt = 3 := rfl
  have w0 : (x1 * Int32.ofInt 3).toInt = ((3 * p : Nat) : Int) := by rw [i32_mul (by rw [z3, hp]; omega) (by rw [z3, hp]; omega), z3, hp]; omega
  have w1 : (x1 * Int32.ofInt 3 + Int32.ofInt 1).toInt = ((3 * p + 1 : Nat) : Int) := by rw [i32_add (by omega) (by omega), w0, z1]; omega
  have w2 : (x1 * Int32.ofInt 3 + Int32.ofInt 2).toInt = ((3 * p + 2 : Nat) : Int) := by rw [i32_add (by omega) (by omega), w0, z2]; omega
  refine wp_XSheet_lay_ok (I52 := fun l s1 => sg_fr [] [30, 32, 34] s s1 ∧ (s1.2.2.1 30 = fun i => if i = p then x2 else s.2.2.1 30 i) ∧ (s1.2.2.1 32 (3 * p) = x3 ∧ s1.2.2.1 32 (3 * p + 1) = x4 ∧ s1.2.2.1 32 (3 * p + 2) = x5 ∧ ∀ i, i < 3 * p → s1.2.2.1 32 i = s.2.2.1 32 i) ∧ ∃ k : Nat, l.toInt = (k : Int) ∧ k ≤ R ∧ (∀ j, j < k → (s1.2.2.1 34 (12 * p + j)).toInt = nx_ (rp_rl T j).1.toInt (rp_rl T j).2.2.1.toInt (s.2.2.1 34 (12 * (p - 1) + j)).toInt (hb_ (rp_rl T j).2.1 x2)) ∧ ∀ i, i < 12 * p → s1.2.2.1 34 i = s.2.2.1 34 i) ?_ ?_
  · intro l s1 hI
    obtain ⟨f, g30, g32, k, hl, hkR, h1, h2⟩ := hI
    have hU1 : rx_RU T s1 := hU.fr f (by decide) (by decide)
    have e12 : (s1.1 1 2).toInt = (R : Int) := by rw [hU1.2.2.1, hR]
    unfold wp_XSheet_lay_52
    refine ⟨fun c1 => ?_, fun c1 => ⟨f, g30, g32, fun j hj => h1 j (by omega), h2⟩⟩
    have hkR2 : k < R := by omega
    obtain ⟨i1, i2⟩ := ly_ix hp hp2 hl (by omega)
    obtain ⟨r1, r2, r3⟩ := hk k (by omega)
    rw [i1, i2]
    simp only [Int.toNat_natCast]
    intro _ _
    refine (sx_had hU1 hl (by omega)).mono (fun y s2 hy => ?_)
    obtain ⟨rfl, hy⟩ := hy
    have e34 : s2.2.2.1 34 (12 * (p - 1) + k) = s.2.2.1 34 (12 * (p - 1) + k) := h2 _ (by omega)
    rw [e34]
    refine (sx_next (h := hb_ (rp_rl T k).2.1 x2) hU1 hl (by omega) rfl (by rcases hy with q | q; exact Or.inl q; exact Or.inr ⟨q.1, by simpa using q.2⟩) (hn k hkR2) r2 r1.1).mono (fun r s3 h3 => ?_)
    obtain ⟨rfl, h3⟩ := h3
    intro _ _
    refine ⟨f.uA rfl, g30, g32, k + 1, ?_, by omega, fun j hj => ?_, fun i hi => ?_⟩
    · rw [i32_inc (c := 0) (by omega) (by omega), hl]
      rfl
    · by_cases ej : j = k
      · rw [ej, sg_A1]
        exact h3
      · rw [sg_A2 (fun c => by omega)]
        exact h1 j (by omega)
    · rw [sg_A2 (fun c => by omega)]
      exact h2 i hi
  · unfold wp_XSheet_lay
    refine (sx_place hp).mono (fun y s1 hy => ?_)
    obtain ⟨rfl, hy⟩ := hy
    have e13 : (s1.1 1 3).toInt = T.2.2.2.1 := hU.2.2.2.1
    refine ⟨fun c => ?_, fun c => ?_⟩
    · rcases hy with q | q
      · exact absurd c q.1
      · exact absurd (show 1 ≤ (p : Int) ∧ (p : Int) ≤ (s1.1 1 3).toInt by omega) q.2
    · rw [w0, w1, w2, hp]
      simp only [Int.toNat_natCast]
      intro _ _ _ _ _ _ _ _
      refine ⟨(((sg_fr.rf.uA rfl).uA rfl).uA rfl).uA rfl, ?_, ⟨?_, ?_, sg_A1, fun i hi => ?_⟩, 0, rfl, Nat.zero_le _, fun j hj => absurd hj (Nat.not_lt_zero j), fun i _ => rfl⟩
      · funext i
        show (if 30 = 32 ∧ i = 3 * p + 2 then x5 else if 30 = 32 ∧ i = 3 * p + 1 then x4 else if 30 = 32 ∧ i = 3 * p then x3 else if 30 = 30 ∧ i = p then x2 else s1.2.2.1 30 i) = _
        simp
      · exact (sg_A2 (fun c => by omega)).trans ((sg_A2 (fun c => by omega)).trans sg_A1)
      · exact (sg_A2 (fun c => by omega)).trans sg_A1
      · exact (sg_A2 (fun c => by omega)).trans ((sg_A2 (fun c => by omega)).trans ((sg_A2 (fun c => by omega)).trans (sg_A2 (fun c => absurd c.1 (by decide)))))
end LY
