/-! ===== the first rule that a verse breaks ===== -/
/-- r is the first below R for which P holds, -1 if there is none -/
def fb_ (P : Nat → Prop) (R : Nat) (r : Int) : Prop := (r = -1 ∧ ∀ k, k < R → ¬ P k) ∨ ∃ i : Nat, r = (i : Int) ∧ i < R ∧ P i ∧ ∀ k, k < i → ¬ P k
theorem fb_uniq {P Q : Nat → Prop} {R : Nat} {r q : Int} (h : ∀ k, k < R → (P k ↔ Q k)) (h1 : fb_ P R r) (h2 : fb_ Q R q) : r = q := by
  rcases h1 with ⟨a1, a2⟩ | ⟨i, a1, a2, a3, a4⟩
  · rcases h2 with ⟨b1, b2⟩ | ⟨j, b1, b2, b3, b4⟩
    · rw [a1, b1]
    · exact absurd ((h j b2).mpr b3) (a2 j b2)
  · rcases h2 with ⟨b1, b2⟩ | ⟨j, b1, b2, b3, b4⟩
    · exact absurd ((h i a2).mp a3) (b2 i a2)
    · have : i = j := by
        rcases Nat.lt_trichotomy i j with c | c | c
        · exact absurd ((h i a2).mp a3) (b4 i c)
        · exact c
        · exact absurd ((h j b2).mpr b3) (a4 j c)
      rw [a1, b1, this]
theorem fb_rng {P : Nat → Prop} {R : Nat} {r : Int} (h : fb_ P R r) : -1 ≤ r ∧ r < (R : Int) := by
  rcases h with ⟨a1, a2⟩ | ⟨i, a1, a2, a3, a4⟩ <;> omega
/-- a rule's sort and numbers are in their ranges -/
def rk_ (T : rp_T) : Prop := ∀ k, k < T.2.2.1 → (0 ≤ (rp_rl T k).1.toInt ∧ (rp_rl T k).1.toInt ≤ 8) ∧ (0 ≤ (rp_rl T k).2.2.1.toInt ∧ (rp_rl T k).2.2.1.toInt ≤ 48) ∧ (0 ≤ (rp_rl T k).2.2.2.toInt ∧ (rp_rl T k).2.2.2.toInt ≤ 48)
theorem rk_of {T : rp_T} {s : sg_S} (hok : ab_hok ab_D0 (sg_h s)) (hT : rp_ok T) (hU : rm_RU T s) : rk_ T := by
  intro k hk
  have h12 := hT.2.2.1
  obtain ⟨u1, u2, u3, u4⟩ := hU.2.2.2.2.2 k hk
  have a := sg_rng (a := 72) (t := 1) (n := 12) (lo := 0) (hi := 8) (m := 511) hok rfl rfl k (by omega)
  have b := sg_rng (a := 74) (t := 1) (n := 12) (lo := 0) (hi := 48) (m := 511) hok rfl rfl k (by omega)
  have c := sg_rng (a := 75) (t := 1) (n := 12) (lo := 0) (hi := 48) (m := 511) hok rfl rfl k (by omega)
  rw [u1] at a
  rw [u3] at b
  rw [u4] at c
  exact ⟨a, b, c⟩
/-- a verse breaks a rule, again aside: A0 and A1 are the sets of the one ahead and of the one ahead of that, -1 for none -/
def br_ (t : Nat → Int32) (K : Nat) (A0 A1 v : Int32) (ρ : Int32 × Int32 × Int32 × Int32) (n p len : Int) : Prop := bk_ ρ.1.toInt ρ.2.2.1.toInt ρ.2.2.2.toInt n p len (hb_ ρ.2.1 v) ∨ (ρ.1.toInt = 7 ∧ ¬ A0.toInt = -1 ∧ ¬ ln_ t v A0 K) ∨ (ρ.1.toInt = 8 ∧ ¬ A1.toInt = -1 ∧ ln_ t v A1 K)
section BR
variable {s : sg_S} {x1 x2 x3 x4 x5 : Int32} {T : rp_T}
theorem sm_nothing {R : Nat} {sf : Nat → Int32} (hU : rm_RU T s) (hR : T.2.2.1 = R) (h12 : R ≤ 12) : am_SpV 185 [.ref 64] s (fun s2 => sg_fr [] [82] s s2 ∧ s2.2.2.1 82 0 = Int32.ofInt (-1) ∧ s2.2.2.1 82 1 = Int32.ofInt (-1) ∧ ∀ k, k < R → (s2.2.2.1 82 (2 + k)).toInt = nb_ (rp_rl T k) sf 0) := by
  have z2 : (Int32.ofInt 2).toInt = 2 := rfl
  refine wp_M_alongNothing_ok (I16 := fun l s1 => sg_fr [] [82] s s1 ∧ (s1.2.2.1 82 0 = Int32.ofInt (-1) ∧ s1.2.2.1 82 1 = Int32.ofInt (-1)) ∧ ∃ i : Nat, l.toInt = (i : Int) ∧ i ≤ 12 ∧ ∀ k, k < i → k < R → (s1.2.2.1 82 (2 + k)).toInt = nb_ (rp_rl T k) sf 0) ?_ ⟨(sg_fr.rf.uA rfl).uA rfl, ⟨(sg_A2 (fun c => absurd c.2 (by decide))).trans sg_A1, sg_A1⟩, 0, rfl, by omega, fun k hk => absurd hk (Nat.not_lt_zero k)⟩
  intro l s1 hI
  obtain ⟨f, g, i, hi, hi12, h⟩ := hI
  have e23 : (s1.1 64 23).toInt = (R : Int) := by rw [f.i rfl, hU.2.2.1, hR]
  have el : l.toInt.toNat = i := by omega
  unfold wp_M_alongNothing_16
  by_cases hlt : i < 12
  · have e2 : (Int32.ofInt 2 + l).toInt = ((2 + i : Nat) : Int) := by rw [i32_add (by omega) (by omega), z2, hi]; omega
    have hinc : (l + Int32.ofInt 1).toInt = ((i + 1 : Nat) : Int) := by
      rw [i32_inc (c := 0) (by omega) (by omega), hi]
      rfl
    have put : ∀ v : Int32, (i < R → v.toInt = nb_ (rp_rl T i) sf 0) → sg_fr [] [82] s (sg_uA s1 82 (2 + i) v) ∧ ((sg_uA s1 82 (2 + i) v).2.2.1 82 0 = Int32.ofInt (-1) ∧ (sg_uA s1 82 (2 + i) v).2.2.1 82 1 = Int32.ofInt (-1)) ∧ ∃ j : Nat, (l + Int32.ofInt 1).toInt = (j : Int) ∧ j ≤ 12 ∧ ∀ k, k < j → k < R → ((sg_uA s1 82 (2 + i) v).2.2.1 82 (2 + k)).toInt = nb_ (rp_rl T k) sf 0 := by
      intro v hv
      refine ⟨f.uA rfl, ⟨(sg_A2 (fun c => by omega)).trans g.1, (sg_A2 (fun c => by omega)).trans g.2⟩, i + 1, hinc, by omega, fun k hk hkR => ?_⟩
      by_cases ek : k = i
      · rw [ek, sg_A1]
        exact hv (by omega)
      · rw [sg_A2 (fun c => by omega)]
        exact h k (by omega) hkR
    rw [e2, e23, el]
    simp only [Int.toNat_natCast]
    refine ⟨fun _ => ⟨fun c2 _ _ => ?_, fun c2 _ _ => put _ (fun c => by omega)⟩, fun c => absurd (show l.toInt < 12 by omega) c⟩
    obtain ⟨u72, -, u74, -⟩ := hU.2.2.2.2.2 i (by omega)
    have e72 : s1.2.2.1 72 i = (rp_rl T i).1 := by rw [f.a rfl]; exact u72
    have e74 : s1.2.2.1 74 i = (rp_rl T i).2.2.1 := by rw [f.a rfl]; exact u74
    rw [e72, e74]
    exact ⟨fun c3 _ _ => put _ (fun _ => by show _ = (if (rp_rl T i).1.toInt = 3 then (rp_rl T i).2.2.1.toInt else 0); rw [if_pos c3]), fun c3 _ _ => put _ (fun _ => by show _ = (if (rp_rl T i).1.toInt = 3 then (rp_rl T i).2.2.1.toInt else 0); rw [if_neg c3]; rfl)⟩
  · exact ⟨fun c => by omega, fun _ => ⟨f, g.1, g.2, fun k hk => h k (by omega) hk⟩⟩
theorem sm_sheet {R m : Nat} (hU : rm_RU T s) (hk : rk_ T) (hR : T.2.2.1 = R) (h12 : R ≤ 12) (hm : (s.1 64 40).toInt = (m : Int)) (h48 : m ≤ 48) : am_SpV 184 [.ref 64] s (fun s2 => sg_fr [] [82] s s2 ∧ s2.2.2.1 82 0 = (if m = 0 then Int32.ofInt (-1) else s.2.2.1 84 (m - 1)) ∧ s2.2.2.1 82 1 = (if m ≤ 1 then Int32.ofInt (-1) else s.2.2.1 84 (m - 2)) ∧ ∀ k, k < R → (s2.2.2.1 82 (2 + k)).toInt = nb_ (rp_rl T k) (s.2.2.1 84) m) := by
  refine wp_M_alongSheet_ok (I6 := fun l s1 => sg_fr [] [82] s s1 ∧ ∃ i : Nat, l.toInt = (i : Int) ∧ i ≤ m ∧ s1.2.2.1 82 0 = (if i = 0 then Int32.ofInt (-1) else s.2.2.1 84 (i - 1)) ∧ s1.2.2.1 82 1 = (if i ≤ 1 then Int32.ofInt (-1) else s.2.2.1 84 (i - 2)) ∧ ∀ k, k < R → (s1.2.2.1 82 (2 + k)).toInt = nb_ (rp_rl T k) (s.2.2.1 84) i) ?_ ?_
  · intro l s1 hI
    obtain ⟨f, i, hi, him, h0, h1, hn⟩ := hI
    have e40 : (s1.1 64 40).toInt = (m : Int) := by rw [f.i rfl]; exact hm
    have hU1 : rm_RU T s1 := by
      unfold rm_RU
      rw [f.i rfl, f.i rfl, f.i rfl, f.i rfl, f.i rfl, f.a rfl, f.a rfl, f.a rfl, f.a rfl]
      exact hU
    unfold wp_M_alongSheet_6
    simp only [hi, e40, Int.toNat_natCast]
    refine ⟨fun c1 _ _ => ?_, fun c1 => ?_⟩
    · have hb : ∀ k, k < R → 0 ≤ (s1.2.2.1 82 (2 + k)).toInt ∧ (s1.2.2.1 82 (2 + k)).toInt ≤ 48 := by
        intro k hkR
        obtain ⟨r1, r2, r3⟩ := hk k (by omega)
        rw [hn k hkR]
        exact no_le r1.1 r2.2 (p := (i : Int)) (by omega) (by omega) (nb_no r2.1 i)
      refine (sm_along hU1 hR h12 hb).mono (fun s2 h2 => ?_)
      obtain ⟨f2, g0, g1, gn⟩ := h2
      refine ⟨f.tr f2, i + 1, ?_, by omega, ?_, ?_, fun k hkR => ?_⟩
      · rw [i32_inc (c := 0) (by omega) (by omega), hi]
        rfl
      · rw [g0, if_neg (by omega), f.a rfl]
        rfl
      · rw [g1, h0]
        by_cases ci : i = 0
        · rw [if_pos ci, if_pos (by omega)]
        · rw [if_neg ci, if_neg (by omega), show i + 1 - 2 = i - 1 by omega]
      · rw [gn k hkR, hn k hkR, f.a rfl]
        rfl
    · have : i = m := by omega
      subst this
      exact ⟨f, h0, h1, hn⟩
  · unfold wp_M_alongSheet
    refine (sm_nothing (sf := s.2.2.1 84) hU hR h12).mono (fun s1 h1 => ?_)
    obtain ⟨f, g0, g1, gn⟩ := h1
    exact ⟨f, 0, rfl, Nat.zero_le _, g0, g1, gn⟩
theorem sm_broken {R K : Nat} {len p : Int} (hU : rm_RU T s) (hk : rk_ T) (hR : T.2.2.1 = R) (h12 : R ≤ 12) (hK : K ≤ 8) (hKk : (s.1 64 21).toInt = (K : Int)) (ht : ∀ i, i < 64 → -9 ≤ (s.2.2.1 81 i).toInt ∧ (s.2.2.1 81 i).toInt ≤ 9) (hlen : (s.1 64 24).toInt = len) (hl : 0 ≤ len ∧ len ≤ 48) (hp : x2.toInt = p) (hp2 : 0 ≤ p ∧ p ≤ 48) (hn : ∀ k, k < R → 0 ≤ (s.2.2.1 82 (2 + k)).toInt ∧ (s.2.2.1 82 (2 + k)).toInt ≤ 48) : am_SpI 189 [.ref 64, .int x1, .int x2] s (fun r s2 => s2 = s ∧ fb_ (fun k => br_ (s.2.2.1 81) K (s.2.2.1 82 0) (s.2.2.1 82 1) x1 (rp_rl T k) (s.2.2.1 82 (2 + k)).toInt p len) R r.toInt) := by
  have z2 : (Int32.ofInt 2).toInt = 2 := rfl
  have z0 : (Int32.ofInt 0).toInt = 0 := rfl
  have z1 : (Int32.ofInt 1).toInt = 1 := rfl
  refine wp_M_broken_ok
    (I2 := fun l s1 => s1 = s ∧ ∃ i : Nat, l.toInt = (i : Int) ∧ i ≤ R ∧ ∀ k, k < i → ¬ br_ (s.2.2.1 81) K (s.2.2.1 82 0) (s.2.2.1 82 1) x1 (rp_rl T k) (s.2.2.1 82 (2 + k)).toInt p len)
    (I28 := fun l h s1 => s1 = s ∧ ∃ i : Nat, l.toInt = (i : Int) ∧ i < R ∧ (∀ k, k < i → ¬ br_ (s.2.2.1 81) K (s.2.2.1 82 0) (s.2.2.1 82 1) x1 (rp_rl T k) (s.2.2.1 82 (2 + k)).toInt p len) ∧ ((¬ h.toInt = 0 ∧ hb_ (rp_rl T i).2.1 x1 = true) ∨ (h.toInt = 0 ∧ hb_ (rp_rl T i).2.1 x1 = false)))
    (I403 := fun l b s1 => s1 = s ∧ ∃ i : Nat, l.toInt = (i : Int) ∧ i < R ∧ (∀ k, k < i → ¬ br_ (s.2.2.1 81) K (s.2.2.1 82 0) (s.2.2.1 82 1) x1 (rp_rl T k) (s.2.2.1 82 (2 + k)).toInt p len) ∧ ((¬ b.toInt = 0 ∧ br_ (s.2.2.1 81) K (s.2.2.1 82 0) (s.2.2.1 82 1) x1 (rp_rl T i) (s.2.2.1 82 (2 + i)).toInt p len) ∨ (b.toInt = 0 ∧ ¬ br_ (s.2.2.1 81) K (s.2.2.1 82 0) (s.2.2.1 82 1) x1 (rp_rl T i) (s.2.2.1 82 (2 + i)).toInt p len))) ?_ ?_ ?_ ⟨rfl, 0, rfl, Nat.zero_le _, fun k hk => absurd hk (Nat.not_lt_zero k)⟩
  · intro l s1 hI
    obtain ⟨rfl, i, hi, hiR, h⟩ := hI
    have e23 : (s1.1 64 23).toInt = (R : Int) := by rw [hU.2.2.1, hR]
    unfold wp_M_broken_2
    simp only [hi, e23, Int.toNat_natCast]
    refine ⟨fun c1 _ _ => ?_, fun c1 => ⟨trivial, Or.inl ⟨rfl, fun k hkR => h k (by omega)⟩⟩⟩
    rw [(hU.2.2.2.2.2 i (by omega)).2.1, Int32.and_comm]
    exact ⟨fun c2 => ⟨trivial, i, rfl, by omega, h, Or.inr ⟨rfl, hb_f.mpr c2⟩⟩, fun c2 => ⟨trivial, i, rfl, by omega, h, Or.inl ⟨by decide, hb_t.mpr c2⟩⟩⟩
  · intro l hv s1 hI
    obtain ⟨rfl, i, hi, hiR, h, hh⟩ := hI
    obtain ⟨u72, -, u74, u75⟩ := hU.2.2.2.2.2 i (by omega)
    obtain ⟨r1, r2, r3⟩ := hk i (by omega)
    have e2 : (Int32.ofInt 2 + l).toInt = ((2 + i : Nat) : Int) := by rw [i32_add (by omega) (by omega), z2, hi]; omega
    have hni := hn i hiR
    have el : l.toInt.toNat = i := by omega
    have hinc : (s1.2.2.1 82 (2 + i) + Int32.ofInt 1).toInt = (s1.2.2.1 82 (2 + i)).toInt + 1 := i32_inc (c := 0) (by omega) (by omega)
    have l0 : (((s1.2.2.1 82 (2 + i) + Int32.ofInt 0) + s1.1 64 24) - x2).toInt = (s1.2.2.1 82 (2 + i)).toInt + 0 + len - p := by
      have a1 : (s1.2.2.1 82 (2 + i) + Int32.ofInt 0).toInt = (s1.2.2.1 82 (2 + i)).toInt := by rw [i32_add (by omega) (by omega), z0]; omega
      have a2 : ((s1.2.2.1 82 (2 + i) + Int32.ofInt 0) + s1.1 64 24).toInt = (s1.2.2.1 82 (2 + i)).toInt + len := by rw [i32_add (by omega) (by omega), a1, hlen]
      rw [i32_sub (by omega) (by omega), a2, hp]
      omega
    have l1 : (((s1.2.2.1 82 (2 + i) + Int32.ofInt 1) + s1.1 64 24) - x2).toInt = (s1.2.2.1 82 (2 + i)).toInt + 1 + len - p := by
      have a2 : ((s1.2.2.1 82 (2 + i) + Int32.ofInt 1) + s1.1 64 24).toInt = (s1.2.2.1 82 (2 + i)).toInt + 1 + len := by rw [i32_add (by omega) (by omega), hinc, hlen]
      rw [i32_sub (by omega) (by omega), a2, hp]
    unfold wp_M_broken_28
    rw [e2, Int.toNat_natCast, el, u72, u74, u75]
    rw [l0, l1, hinc, hp, hlen]
    have yes : br_ (s1.2.2.1 81) K (s1.2.2.1 82 0) (s1.2.2.1 82 1) x1 (rp_rl T i) (s1.2.2.1 82 (2 + i)).toInt p len → s1 = s1 ∧ ∃ i : Nat, l.toInt = (i : Int) ∧ i < R ∧ (∀ k, k < i → ¬ br_ (s1.2.2.1 81) K (s1.2.2.1 82 0) (s1.2.2.1 82 1) x1 (rp_rl T k) (s1.2.2.1 82 (2 + k)).toInt p len) ∧ ((¬ (Int32.ofInt 1).toInt = 0 ∧ br_ (s1.2.2.1 81) K (s1.2.2.1 82 0) (s1.2.2.1 82 1) x1 (rp_rl T i) (s1.2.2.1 82 (2 + i)).toInt p len) ∨ ((Int32.ofInt 1).toInt = 0 ∧ ¬ br_ (s1.2.2.1 81) K (s1.2.2.1 82 0) (s1.2.2.1 82 1) x1 (rp_rl T i) (s1.2.2.1 82 (2 + i)).toInt p len)) := fun q => ⟨rfl, i, hi, hiR, h, Or.inl ⟨by decide, q⟩⟩
    have no : ¬ br_ (s1.2.2.1 81) K (s1.2.2.1 82 0) (s1.2.2.1 82 1) x1 (rp_rl T i) (s1.2.2.1 82 (2 + i)).toInt p len → s1 = s1 ∧ ∃ i : Nat, l.toInt = (i : Int) ∧ i < R ∧ (∀ k, k < i → ¬ br_ (s1.2.2.1 81) K (s1.2.2.1 82 0) (s1.2.2.1 82 1) x1 (rp_rl T k) (s1.2.2.1 82 (2 + k)).toInt p len) ∧ ((¬ (Int32.ofInt 0).toInt = 0 ∧ br_ (s1.2.2.1 81) K (s1.2.2.1 82 0) (s1.2.2.1 82 1) x1 (rp_rl T i) (s1.2.2.1 82 (2 + i)).toInt p len) ∨ ((Int32.ofInt 0).toInt = 0 ∧ ¬ br_ (s1.2.2.1 81) K (s1.2.2.1 82 0) (s1.2.2.1 82 1) x1 (rp_rl T i) (s1.2.2.1 82 (2 + i)).toInt p len)) := fun q => ⟨rfl, i, hi, hiR, h, Or.inr ⟨rfl, q⟩⟩
    have ht2 : ∀ d : ¬ hv.toInt = 0, hb_ (rp_rl T i).2.1 x1 = true := fun d => by rcases hh with ⟨_, q⟩ | ⟨q, _⟩; exact q; exact absurd q d
    have hf2 : ∀ d : hv.toInt = 0, hb_ (rp_rl T i).2.1 x1 = false := fun d => by rcases hh with ⟨q, _⟩ | ⟨_, q⟩; exact absurd d q; exact q
    intro _ _ _ _
    refine ⟨fun c => sm_in.mono (fun y s4 hy => ?_), fun c => sm_in.mono (fun y s4 hy => ?_), fun c => ⟨fun d => ?_, fun d => ?_⟩, fun c => ⟨fun d => ?_, fun d => ?_⟩, fun c => ⟨fun d => ?_, fun d => ?_⟩, fun c => ⟨fun d => ?_, fun d => ?_⟩, fun c => no ?_, fun c => ⟨fun d => no ?_, fun d => (sm_linked hK hKk ht).mono (fun y s4 hy => ?_)⟩, fun c => ⟨fun d => no ?_, fun d => (sm_linked hK hKk ht).mono (fun y s4 hy => ?_)⟩, fun c => no ?_⟩
    · obtain rfl := hy.eq
      rw [hp] at hy
      refine ⟨fun e => no ?_, fun e => ⟨fun d => yes (Or.inl (Or.inl ⟨c, (hy.yes e).1, (hy.yes e).2, hf2 d⟩)), fun d => no ?_⟩⟩
      · have q := hy.no e
        intro z; rcases z with (z | z | z | z | z | z) | z | z <;> first | omega | exact q ⟨z.2.1, z.2.2.1⟩
      · have hq := ht2 d
        intro z; rcases z with (z | z | z | z | z | z) | z | z <;> first | omega | exact absurd (hq.symm.trans z.2.2.2) (by decide)
    · obtain rfl := hy.eq
      rw [hp] at hy
      refine ⟨fun e => no ?_, fun e => ⟨fun d => no ?_, fun d => yes (Or.inl (Or.inr (Or.inl ⟨c, (hy.yes e).1, (hy.yes e).2, ht2 d⟩)))⟩⟩
      · have q := hy.no e
        intro z; rcases z with (z | z | z | z | z | z) | z | z <;> first | omega | exact q ⟨z.2.1, z.2.2.1⟩
      · have hq := hf2 d
        intro z; rcases z with (z | z | z | z | z | z) | z | z <;> first | omega | exact absurd (hq.symm.trans z.2.2.2) (by decide)
    · have hq := hf2 d
      refine ⟨fun e => ⟨fun g => yes (Or.inl (Or.inr (Or.inr (Or.inl ⟨c, Or.inr ⟨hq, e, g⟩⟩)))), fun g => no ?_⟩, fun e => no ?_⟩
      · intro z; rcases z with (z | z | z | z | z | z) | z | z <;> first | omega | (rcases z.2 with z | z <;> first | omega | exact absurd (hq.symm.trans z.1) (by decide))
      · intro z; rcases z with (z | z | z | z | z | z) | z | z <;> first | omega | (rcases z.2 with z | z <;> first | omega | exact absurd (hq.symm.trans z.1) (by decide))
    · have hq := ht2 d
      refine ⟨fun e => yes (Or.inl (Or.inr (Or.inr (Or.inl ⟨c, Or.inl ⟨hq, Or.inl e⟩⟩)))), fun e => ⟨fun g => ⟨fun j => yes (Or.inl (Or.inr (Or.inr (Or.inl ⟨c, Or.inl ⟨hq, Or.inr ⟨g, j⟩⟩⟩)))), fun j => no ?_⟩, fun g => no ?_⟩⟩
      · intro z; rcases z with (z | z | z | z | z | z) | z | z <;> first | omega | (rcases z.2 with z | z <;> first | omega | exact absurd (hq.symm.trans z.1) (by decide))
      · intro z; rcases z with (z | z | z | z | z | z) | z | z <;> first | omega | (rcases z.2 with z | z <;> first | omega | exact absurd (hq.symm.trans z.1) (by decide))
    · have hq := hf2 d
      refine no ?_
      intro z; rcases z with (z | z | z | z | z | z) | z | z <;> first | omega | exact absurd (hq.symm.trans z.2.1) (by decide)
    · have hq := ht2 d
      refine ⟨fun e => ⟨fun g => yes (Or.inl (Or.inr (Or.inr (Or.inr (Or.inl ⟨c, hq, e, g⟩))))), fun g => no ?_⟩, fun e => no ?_⟩
      · intro z; rcases z with (z | z | z | z | z | z) | z | z <;> omega
      · intro z; rcases z with (z | z | z | z | z | z) | z | z <;> omega
    · have hq := hf2 d
      refine no ?_
      intro z; rcases z with (z | z | z | z | z | z) | z | z <;> first | omega | exact absurd (hq.symm.trans z.2.1) (by decide)
    · have hq := ht2 d
      refine ⟨fun e => yes (Or.inl (Or.inr (Or.inr (Or.inr (Or.inr (Or.inl ⟨c, hq, e⟩)))))), fun e => no ?_⟩
      intro z; rcases z with (z | z | z | z | z | z) | z | z <;> omega
    · have hq := hf2 d
      refine ⟨fun e => yes (Or.inl (Or.inr (Or.inr (Or.inr (Or.inr (Or.inr ⟨c, by rw [hq, if_neg (by decide)]; omega⟩)))))), fun e => no ?_⟩
      intro z; rcases z with (z | z | z | z | z | z) | z | z <;> first | omega | (have z := z.2; rw [hq, if_neg (by decide)] at z; omega)
    · have hq := ht2 d
      refine ⟨fun e => yes (Or.inl (Or.inr (Or.inr (Or.inr (Or.inr (Or.inr ⟨c, by rw [hq, if_pos rfl]; omega⟩)))))), fun e => no ?_⟩
      intro z; rcases z with (z | z | z | z | z | z) | z | z <;> first | omega | (have z := z.2; rw [hq, if_pos rfl] at z; omega)
    · intro z; rcases z with (z | z | z | z | z | z) | z | z <;> omega
    · intro z; rcases z with (z | z | z | z | z | z) | z | z <;> first | omega | exact z.2.1 d
    · obtain rfl := hy.eq
      exact ⟨fun e => yes (Or.inr (Or.inl ⟨c, d, hy.no e⟩)), fun e => no (by intro z; rcases z with (z | z | z | z | z | z) | z | z <;> first | omega | exact z.2.2 (hy.yes e))⟩
    · intro z; rcases z with (z | z | z | z | z | z) | z | z <;> first | omega | exact z.2.1 d
    · obtain rfl := hy.eq
      exact ⟨fun e => no (by intro z; rcases z with (z | z | z | z | z | z) | z | z <;> first | omega | exact hy.no e z.2.2), fun e => yes (Or.inr (Or.inr ⟨c, d, hy.yes e⟩))⟩
    · intro z; rcases z with (z | z | z | z | z | z) | z | z <;> omega
  · intro l b s1 hI
    obtain ⟨rfl, i, hi, hiR, h, hb⟩ := hI
    unfold wp_M_broken_403
    refine ⟨fun c => ⟨rfl, i + 1, ?_, by omega, fun k hkk => ?_⟩, fun c => ⟨rfl, Or.inr ⟨i, hi, hiR, ?_, h⟩⟩⟩
    · rw [i32_inc (c := 0) (by omega) (by omega), hi]
      rfl
    · by_cases ek : k = i
      · rcases hb with q | q
        · exact absurd c q.1
        · rw [ek]; exact q.2
      · exact h k (by omega)
    · rcases hb with q | q
      · exact q.2
      · exact absurd q.1 c
/-- one of its words is one of a verse on one of the n places ahead of p -/
def ag_ (w : Nat → Int32) (a b c : Int32) (p n : Int) : Prop := ∃ k : Nat, 3 * (p - 1 - n) ≤ (k : Int) ∧ (k : Int) < 3 * (p - 1) ∧ ¬ (w k).toInt = -1 ∧ ((w k).toInt = a.toInt ∨ (w k).toInt = b.toInt ∨ (w k).toInt = c.toInt)
theorem ag_congr {w u : Nat → Int32} {a b c : Int32} {p n : Int} (h : ∀ k : Nat, (k : Int) < 3 * (p - 1) → w k = u k) : ag_ w a b c p n ↔ ag_ u a b c p n := by
  constructor
  · rintro ⟨k, h1, h2, h3⟩
    exact ⟨k, h1, h2, by rw [← h k h2]; exact h3⟩
  · rintro ⟨k, h1, h2, h3⟩
    exact ⟨k, h1, h2, by rw [h k h2]; exact h3⟩
theorem sm_again {p n : Int} (hp : x4.toInt = p) (hp2 : 1 ≤ p ∧ p ≤ 48) (hn : x5.toInt = n) (hn2 : 0 ≤ n ∧ n ≤ 48) : am_SpI 191 [.ref 64, .int x1, .int x2, .int x3, .int x4, .int x5] s (bo_ (ag_ (s.2.2.1 85) x1 x2 x3 p n) s) := by
  have z1 : (Int32.ofInt 1).toInt = 1 := rfl
  have z3 : (Int32.ofInt 3).toInt = 3 := rfl
  have e1 : (x4 - Int32.ofInt 1).toInt = p - 1 := by rw [i32_sub (by omega) (by omega), hp, z1]
  have e2 : (Int32.ofInt 3 * (x4 - Int32.ofInt 1)).toInt = 3 * (p - 1) := by rw [i32_mul (by rw [z3]; omega) (by rw [z3]; omega), z3, e1]
  have e3 : (x4 - Int32.ofInt 1 - x5).toInt = p - 1 - n := by rw [i32_sub (by omega) (by omega), e1, hn]
  refine wp_M_isAgain_ok (I25 := fun l s1 => s1 = s ∧ ∃ i : Nat, l.toInt = (i : Int) ∧ i ≤ 144 ∧ 3 * (p - 1 - n) ≤ (i : Int) ∧ ∀ k : Nat, 3 * (p - 1 - n) ≤ (k : Int) → k < i → ¬ (¬ (s.2.2.1 85 k).toInt = -1 ∧ ((s.2.2.1 85 k).toInt = x1.toInt ∨ (s.2.2.1 85 k).toInt = x2.toInt ∨ (s.2.2.1 85 k).toInt = x3.toInt))) ?_ ?_
  · intro l s1 hI
    obtain ⟨rfl, i, hi, hi2, hlo, h⟩ := hI
    unfold wp_M_isAgain_25
    rw [e2]
    simp only [hi, Int.toNat_natCast]
    have step : (i : Int) < 3 * (p - 1) → ¬ (¬ (s1.2.2.1 85 i).toInt = -1 ∧ ((s1.2.2.1 85 i).toInt = x1.toInt ∨ (s1.2.2.1 85 i).toInt = x2.toInt ∨ (s1.2.2.1 85 i).toInt = x3.toInt)) → ∃ j : Nat, (l + Int32.ofInt 1).toInt = (j : Int) ∧ j ≤ 144 ∧ 3 * (p - 1 - n) ≤ (j : Int) ∧ ∀ k : Nat, 3 * (p - 1 - n) ≤ (k : Int) → k < j → ¬ (¬ (s1.2.2.1 85 k).toInt = -1 ∧ ((s1.2.2.1 85 k).toInt = x1.toInt ∨ (s1.2.2.1 85 k).toInt = x2.toInt ∨ (s1.2.2.1 85 k).toInt = x3.toInt)) := by
      intro c q
      refine ⟨i + 1, ?_, by omega, by omega, fun k hk1 hk2 => ?_⟩
      · rw [i32_inc (c := 0) (by omega) (by omega), hi]
        rfl
      · by_cases ek : k = i
        · rw [ek]; exact q
        · exact h k hk1 (by omega)
    refine ⟨fun c _ _ => ⟨fun d => ⟨trivial, step c (fun z => z.1 d)⟩, fun d => ⟨fun e => bo_1 ⟨i, hlo, c, d, Or.inl e⟩, fun e => ⟨fun g => bo_1 ⟨i, hlo, c, d, Or.inr (Or.inl g)⟩, fun g => ⟨fun j => bo_1 ⟨i, hlo, c, d, Or.inr (Or.inr j)⟩, fun j => ⟨trivial, step c (fun z => by rcases z.2 with z | z | z; exact e z; exact g z; exact j z)⟩⟩⟩⟩⟩, fun c => bo_0 ?_⟩
    rintro ⟨k, k1, k2, k3⟩
    exact h k k1 (by omega) k3
  · unfold wp_M_isAgain
    rw [e3]
    have m0 : (Int32.ofInt 3 * Int32.ofInt 0).toInt = 0 := rfl
    refine ⟨fun c => ⟨rfl, 0, by rw [m0]; rfl, by omega, by omega, fun k k1 k2 => absurd k2 (Nat.not_lt_zero k)⟩, fun c => ⟨rfl, (3 * (p - 1 - n)).toNat, ?_, by omega, by omega, fun k k1 k2 => by omega⟩⟩
    rw [i32_mul (by rw [z3, e3]; omega) (by rw [z3, e3]; omega), z3, e3]
    omega
end BR
