/-! ===== ends: M looks back ===== -/
def mD_ (ϖ : ep_) (p : Nat) (s : sg_S) : Prop := (∀ q, q ≤ p → (s.2.2.1 90 q).toInt = ((eLp ϖ q).1 : Int) ∧ (eLp ϖ q).1 ≤ 400) ∧ (∀ q, q ≤ p → ∀ j, j < (eLp ϖ q).1 → ∀ i, i < 14 → s.2.2.1 89 ((400 * q + j) * 14 + i) = (eLp ϖ q).2 j i) ∧ (∀ q, q < p → ∀ j, j < (eLp ϖ q).1 → ∀ u, u < ecn_ ϖ (q + 1) → (s.2.2.1 91 ((400 * q + j) * 16 + u)).toInt = edp ϖ q j u) ∧ (s.1 64 56).toInt = eSp ϖ (p + 1) ∧ ∀ q, q < p → ((s.2.2.1 93 q).toInt = 0 ↔ ¬ fd_ ϖ q)
/-- the last state of all leads back to the first -/
theorem al_start {ϖ : ep_} {len : Nat} (h : 0 < (eLp ϖ len).1) : al_ (ecn_ ϖ) (edp ϖ) len len 0 := by
  have key : ∀ d, d ≤ len → ∃ k, k < (eLp ϖ (len - d)).1 ∧ al_ (ecn_ ϖ) (edp ϖ) len d k := by
    intro d
    induction d with
    | zero => intro _; exact ⟨0, h, trivial⟩
    | succ d ih =>
      intro hd
      obtain ⟨j, hj, ha⟩ := ih (by omega)
      have e : len - d = (len - (d + 1)) + 1 := by omega
      rw [e] at hj
      obtain ⟨i, t, hi, ht, hed⟩ := eL_from hj
      refine ⟨i, hi, ?_⟩
      have e2 : d + 1 = len - (len - (d + 1)) := by omega
      rw [e2]
      refine (al_iff (by omega)).mpr ⟨t, ht, ?_, ?_⟩
      · show 0 ≤ edp ϖ (len - (d + 1)) i t
        have hed : edp ϖ (len - (d + 1)) i t = (j : Int) := hed
        omega
      · have hed : edp ϖ (len - (d + 1)) i t = (j : Int) := hed
        rw [hed, Int.toNat_natCast, show len - (len - (d + 1) + 1) = d by omega]
        exact ha
  obtain ⟨k, hk, ha⟩ := key len (Nat.le_refl _)
  rw [Nat.sub_self] at hk
  have hk : k < 1 := hk
  obtain rfl : k = 0 := by omega
  exact ha
def ewq_ (cn : Nat → Nat) (ld : Nat → Nat → Nat → Int) (len q : Nat) (kk tt : Nat → Nat) : Prop := kk 0 = 0 ∧ ∀ p, p < q → (tt p < cn (p + 1) ∧ av_ cn ld len p (kk p) (tt p) ∧ ∀ u, u < tt p → ¬ av_ cn ld len p (kk p) u) ∧ (kk (p + 1) : Int) = ld p (kk p) (tt p)
def bA_ (ϖ : ep_) (len q0 : Nat) (a : Nat → Int32) : Prop := ∀ q, q0 ≤ q → q ≤ len → ∀ k, k < (eLp ϖ q).1 → (¬ (a (400 * q + k)).toInt = 0 ↔ al_ (ecn_ ϖ) (edp ϖ) len (len - q) k)
def bC_ (ϖ : ep_) (len q0 : Nat) (c : Nat → Int32) : Prop := ∀ q, q0 ≤ q → q < len → ∀ t, t < 32 → (bt_ (c q) t = true ↔ t < ecn_ ϖ (q + 1) ∧ ∃ k, k < (eLp ϖ q).1 ∧ av_ (ecn_ ϖ) (edp ϖ) len q k t)
theorem em_looks {ϖ : ep_} {s : sg_S} {len : Nat} (hϖ : eP_ ϖ) (hC : mC_ ϖ s) (hlen : ϖ.1.2.2.2.1 = (len : Int)) (hD : mD_ ϖ len s) (hN : 0 < (eLp ϖ len).1) : am_SpV 201 [.ref 64] s (fun s2 => sg_fr [] [92, 94, 95] s s2 ∧ bC_ ϖ len 0 (s2.2.2.1 95) ∧ ∃ kk tt : Nat → Nat, ewq_ (ecn_ ϖ) (edp ϖ) len len kk tt ∧ ∀ i, i < len → (s2.2.2.1 94 i).toInt = (tt i : Int)) := by
  have hl := hϖ.2.2.1
  have z1 : (Int32.ofInt 1).toInt = 1 := rfl
  have zm : (Int32.ofInt (-1)).toInt = -1 := rfl
  obtain ⟨d1, d2, d3, d4, d5⟩ := hD
  have h24 : (s.1 64 24).toInt = (len : Int) := by rw [hC.1.2.2.2.1, hlen]
  have h46 := hC.2.2.2.2.2.2
  have c16 : ∀ P, ecn_ ϖ P ≤ 16 := fun P => ecn_16 hϖ
  have drng : ∀ q k t, q < len → k < (eLp ϖ q).1 → t < ecn_ ϖ (q + 1) → edp ϖ q k t = -1 ∨ (0 ≤ edp ϖ q k t ∧ edp ϖ q k t < ((eLp ϖ (q + 1)).1 : Int)) := fun q k t _ hk ht => ed_rng hk ht
  refine wp_M_looksBack_ok
    (I2 := fun l s1 => sg_fr [] [92, 94, 95] s s1 ∧ ∃ k : Nat, l.toInt = (k : Int) ∧ k ≤ (eLp ϖ len).1 ∧ ∀ j, j < k → ¬ (s1.2.2.1 92 (400 * len + j)).toInt = 0)
    (I42 := fun l s1 => sg_fr [] [92, 94, 95] s s1 ∧ ∃ q : Nat, l.toInt = (q : Int) ∧ q ≤ len ∧ bA_ ϖ len q (s1.2.2.1 92) ∧ bC_ ϖ len q (s1.2.2.1 95))
    (I199 := fun l1 l2 s1 => sg_fr [] [92, 94, 95] s s1 ∧ bA_ ϖ len 0 (s1.2.2.1 92) ∧ bC_ ϖ len 0 (s1.2.2.1 95) ∧ ∃ (q : Nat) (kk tt : Nat → Nat), l2.toInt = ((q + 1 : Nat) : Int) ∧ q ≤ len ∧ ewq_ (ecn_ ϖ) (edp ϖ) len q kk tt ∧ l1.toInt = (kk q : Int) ∧ kk q < (eLp ϖ q).1 ∧ al_ (ecn_ ϖ) (edp ϖ) len (len - q) (kk q) ∧ ∀ i, i < q → (s1.2.2.1 94 i).toInt = (tt i : Int))
    (I57 := fun l1 l2 s1 => sg_fr [] [92, 94, 95] s s1 ∧ ∃ q k : Nat, l1.toInt = ((q + 1 : Nat) : Int) ∧ q < len ∧ l2.toInt = (k : Int) ∧ k ≤ (eLp ϖ q).1 ∧ bA_ ϖ len (q + 1) (s1.2.2.1 92) ∧ bC_ ϖ len (q + 1) (s1.2.2.1 95) ∧ (∀ j, j < k → (¬ (s1.2.2.1 92 (400 * q + j)).toInt = 0 ↔ al_ (ecn_ ϖ) (edp ϖ) len (len - q) j)) ∧ ∀ t, t < 32 → (bt_ (s1.2.2.1 95 q) t = true ↔ t < ecn_ ϖ (q + 1) ∧ ∃ j, j < k ∧ av_ (ecn_ ϖ) (edp ϖ) len q j t))
    (I228 := fun l1 l2 l3 l4 s1 => sg_fr [] [92, 94, 95] s s1 ∧ bA_ ϖ len 0 (s1.2.2.1 92) ∧ bC_ ϖ len 0 (s1.2.2.1 95) ∧ ∃ (q u : Nat) (kk tt : Nat → Nat), (l2.toInt = ((q + 1 : Nat) : Int) ∧ q < len ∧ ewq_ (ecn_ ϖ) (edp ϖ) len q kk tt ∧ l1.toInt = (kk q : Int) ∧ kk q < (eLp ϖ q).1 ∧ al_ (ecn_ ϖ) (edp ϖ) len (len - q) (kk q) ∧ ∀ i, i < q → (s1.2.2.1 94 i).toInt = (tt i : Int)) ∧ l3.toInt = (u : Int) ∧ (∀ t, t < u → ¬ av_ (ecn_ ϖ) (edp ϖ) len q (kk q) t) ∧ u < ecn_ ϖ (q + 1) ∧ l4.toInt = edp ϖ q (kk q) u)
    (I74 := fun l1 l2 l3 l4 s1 => sg_fr [] [92, 94, 95] s s1 ∧ ∃ q k u : Nat, (l1.toInt = ((q + 1 : Nat) : Int) ∧ q < len ∧ l2.toInt = (k : Int) ∧ k < (eLp ϖ q).1 ∧ bA_ ϖ len (q + 1) (s1.2.2.1 92) ∧ bC_ ϖ len (q + 1) (s1.2.2.1 95) ∧ ∀ j, j < k → (¬ (s1.2.2.1 92 (400 * q + j)).toInt = 0 ↔ al_ (ecn_ ϖ) (edp ϖ) len (len - q) j)) ∧ l4.toInt = (u : Int) ∧ u ≤ ecn_ ϖ (q + 1) ∧ ((l3.toInt = 1 ∧ ∃ t, t < u ∧ av_ (ecn_ ϖ) (edp ϖ) len q k t) ∨ (l3.toInt = 0 ∧ ¬ ∃ t, t < u ∧ av_ (ecn_ ϖ) (edp ϖ) len q k t)) ∧ ∀ t, t < 32 → (bt_ (s1.2.2.1 95 q) t = true ↔ t < ecn_ ϖ (q + 1) ∧ ((∃ j, j < k ∧ av_ (ecn_ ϖ) (edp ϖ) len q j t) ∨ (t < u ∧ av_ (ecn_ ϖ) (edp ϖ) len q k t)))) ?_ ?_ ?_ ?_ ?_ ?_ ⟨sg_fr.rf, 0, rfl, Nat.zero_le _, fun j hj => absurd hj (Nat.not_lt_zero j)⟩
  · intro l s1 hI
    obtain ⟨f, k, hk, hkN, h⟩ := hI
    have e24 : (s1.1 64 24).toInt = (len : Int) := by rw [f.i rfl]; exact h24
    have e90 : (s1.2.2.1 90 len).toInt = ((eLp ϖ len).1 : Int) := by rw [f.a rfl]; exact (d1 len (Nat.le_refl _)).1
    have hN4 := (d1 len (Nat.le_refl _)).2
    unfold wp_M_looksBack_2
    rw [e24, Int.toNat_natCast, e90, hk]
    refine fun _ _ => ⟨fun c _ _ => ⟨f.uA rfl, k + 1, ?_, by omega, fun j hj => ?_⟩, fun c => ⟨f, len, e24, Nat.le_refl _, fun q h1 h2 j hj => ?_, fun q h1 h2 => by omega⟩⟩
    · rw [i32_inc (c := 0) (by omega) (by omega), hk]
      rfl
    · have ix := (e_i1 e24 hk (by omega) (by omega)).1
      have ix : (Int32.ofInt 400 * s1.1 64 24 + l).toInt.toNat = 400 * len + k := by rw [ix]; omega
      rw [ix, vp_b1]
      by_cases ej : j = k
      · rw [ej, sg_A1]; decide
      · rw [sg_A2 (fun c => by omega)]
        exact h j (by omega)
    · obtain rfl : q = len := by omega
      rw [Nat.sub_self]
      exact ⟨fun _ => trivial, fun _ => h j (by omega)⟩
  · intro l s1 hI
    obtain ⟨f, q, hq, hql, hA, hCc⟩ := hI
    unfold wp_M_looksBack_42
    rw [hq]
    refine ⟨fun c _ _ => ?_, fun c => ?_⟩
    · obtain ⟨r, rfl⟩ : ∃ r, q = r + 1 := ⟨q - 1, by omega⟩
      have er : (l - Int32.ofInt 1).toInt.toNat = r := by rw [i32_sub (by omega) (by omega), hq, z1]; omega
      rw [er]
      refine ⟨f.uA rfl, r, 0, hq, by omega, rfl, Nat.zero_le _, ?_, fun q h1 h2 t ht => ?_, fun j hj => absurd hj (Nat.not_lt_zero j), fun t ht => ?_⟩
      · have e : (sg_uA s1 95 r (Int32.ofInt 0)).2.2.1 92 = s1.2.2.1 92 := by funext i; exact sg_A2 (fun c => absurd c.1 (by decide))
        rw [e]; exact hA
      · rw [sg_A2 (fun c => by omega)]
        exact hCc q (by omega) h2 t ht
      · rw [sg_A1, bt_z ht]
        exact ⟨fun z => (by cases z), fun z => by obtain ⟨-, j, hj, -⟩ := z; omega⟩
    · obtain rfl : q = 0 := by omega
      refine ⟨f, hA, hCc, 0, fun _ => 0, fun _ => 0, rfl, Nat.zero_le _, ⟨rfl, fun p hp => absurd hp (Nat.not_lt_zero p)⟩, rfl, show 0 < 1 by decide, ?_, fun i hi => absurd hi (Nat.not_lt_zero i)⟩
      rw [Nat.sub_zero]
      exact al_start hN
  · intro l1 l2 s1 hI
    obtain ⟨f, hA, hCc, q, kk, tt, h2, hql, hw, h1, hkN, hal, h94⟩ := hI
    have e24 : (s1.1 64 24).toInt = (len : Int) := by rw [f.i rfl]; exact h24
    unfold wp_M_looksBack_199
    rw [e24, h2]
    refine ⟨fun c => ?_, fun c i1 i2 => ?_⟩
    · obtain rfl : q = len := by omega
      exact ⟨f, hCc, kk, tt, hw, h94⟩
    · have hq : q < len := by omega
      obtain ⟨t, ht, hav⟩ := (al_iff hq).mp hal
      have e1 : (l2 - Int32.ofInt 1).toInt = (q : Int) := by rw [i32_sub (by omega) (by omega), h2, z1]; omega
      have hN4 := (d1 q (by omega)).2
      have ix := (e_i1 e1 h1 (by omega) (by omega)).2.2
      refine ⟨f, hA, hCc, q, 0, kk, tt, ⟨h2, hq, hw, h1, hkN, hal, h94⟩, rfl, fun t ht => absurd ht (Nat.not_lt_zero t), by omega, ?_⟩
      rw [ix, Int.toNat_natCast, f.a rfl]
      exact d3 q hq (kk q) hkN 0 (by omega)
  · intro l1 l2 s1 hI
    obtain ⟨f, q, k, h1, hq, h2, hkN, hA, hCc, hB, hb⟩ := hI
    have e1 : (l1 - Int32.ofInt 1).toInt = (q : Int) := by rw [i32_sub (by omega) (by omega), h1, z1]; omega
    have e90 : (s1.2.2.1 90 q).toInt = ((eLp ϖ q).1 : Int) := by rw [f.a rfl]; exact (d1 q (by omega)).1
    unfold wp_M_looksBack_57
    rw [e1, Int.toNat_natCast, e90, h2]
    refine fun _ _ => ⟨fun c => ⟨f, q, k, 0, ⟨h1, hq, h2, by omega, hA, hCc, hB⟩, rfl, Nat.zero_le _, Or.inr ⟨rfl, fun z => by obtain ⟨t, ht, -⟩ := z; omega⟩, fun t ht => ?_⟩, fun c => ⟨f, q, ?_, by omega, fun p h3 h4 j hj => ?_, fun p h3 h4 t ht => ?_⟩⟩
    · rw [hb t ht]
      constructor
      · exact fun z => ⟨z.1, Or.inl z.2⟩
      · intro z
        refine ⟨z.1, ?_⟩
        rcases z.2 with z | z
        · exact z
        · omega
    · rw [i32_add (by omega) (by omega), h1, zm]
      omega
    · by_cases ep : p = q
      · subst ep
        exact hB j (by omega)
      · exact hA p (by omega) h4 j hj
    · by_cases ep : p = q
      · subst ep
        rw [hb t ht, show k = (eLp ϖ p).1 by omega]
      · exact hCc p (by omega) h4 t ht
  · intro l1 l2 l3 l4 s1 hI
    obtain ⟨f, hA, hCc, q, u, kk, tt, ⟨h2, hq, hw, h1, hkN, hal, h94⟩, h3, hno, hu, h4⟩ := hI
    have hu16 := c16 (q + 1)
    have e1 : (l2 - Int32.ofInt 1).toInt = (q : Int) := by rw [i32_sub (by omega) (by omega), h2, z1]; omega
    have hN4 := (d1 q (by omega)).2
    have hN5 := (d1 (q + 1) (by omega)).2
    have ix := (e_i1 e1 h1 (by omega) (by omega)).2.2
    have hinc : (l3 + Int32.ofInt 1).toInt = ((u + 1 : Nat) : Int) := by
      rw [i32_inc (c := 0) (by omega) (by omega), h3]
      rfl
    have ix2 : ((Int32.ofInt 400 * (l2 - Int32.ofInt 1) + l1) * Int32.ofInt 16 + (l3 + Int32.ofInt 1)).toInt.toNat = (400 * q + kk q) * 16 + (u + 1) := by
      rw [i32_add (by omega) (by omega), ix, hinc]
      omega
    -- the set u leads nowhere: the next one
    have next : ¬ av_ (ecn_ ϖ) (edp ϖ) len q (kk q) u → sg_fr [] [92, 94, 95] s s1 ∧ bA_ ϖ len 0 (s1.2.2.1 92) ∧ bC_ ϖ len 0 (s1.2.2.1 95) ∧ ∃ (q u : Nat) (kk tt : Nat → Nat), (l2.toInt = ((q + 1 : Nat) : Int) ∧ q < len ∧ ewq_ (ecn_ ϖ) (edp ϖ) len q kk tt ∧ l1.toInt = (kk q : Int) ∧ kk q < (eLp ϖ q).1 ∧ al_ (ecn_ ϖ) (edp ϖ) len (len - q) (kk q) ∧ ∀ i, i < q → (s1.2.2.1 94 i).toInt = (tt i : Int)) ∧ (l3 + Int32.ofInt 1).toInt = (u : Int) ∧ (∀ t, t < u → ¬ av_ (ecn_ ϖ) (edp ϖ) len q (kk q) t) ∧ u < ecn_ ϖ (q + 1) ∧ (s1.2.2.1 91 (((Int32.ofInt 400 * (l2 - Int32.ofInt 1) + l1) * Int32.ofInt 16 + (l3 + Int32.ofInt 1)).toInt.toNat)).toInt = edp ϖ q (kk q) u := by
      intro hn
      have hno2 : ∀ t, t < u + 1 → ¬ av_ (ecn_ ϖ) (edp ϖ) len q (kk q) t := by
        intro t ht
        by_cases et : t = u
        · rw [et]; exact hn
        · exact hno t (by omega)
      obtain ⟨t, ht, hav⟩ := (al_iff hq).mp hal
      have htu : u + 1 ≤ t := by
        by_cases c : t < u + 1
        · exact absurd hav (hno2 t c)
        · omega
      refine ⟨f, hA, hCc, q, u + 1, kk, tt, ⟨h2, hq, hw, h1, hkN, hal, h94⟩, hinc, hno2, by omega, ?_⟩
      rw [ix2, f.a rfl]
      exact d3 q hq (kk q) hkN (u + 1) (by omega)
    have dr := drng q (kk q) u hq hkN hu
    unfold wp_M_looksBack_228
    refine ⟨fun c i1 i2 => next (fun z => by have := z.1; omega), fun c i1 i2 => ?_⟩
    have ix3 : (Int32.ofInt 400 * l2 + l4).toInt = ((400 * (q + 1) + (edp ϖ q (kk q) u).toNat : Nat) : Int) := (e_i1 (x := l2) (y := l4) (p := q + 1) (j := (edp ϖ q (kk q) u).toNat) h2 (by omega) (by omega) (by omega)).1
    have hAq := hA (q + 1) (Nat.zero_le _) (by omega) (edp ϖ q (kk q) u).toNat (by omega)
    rw [ix3, Int.toNat_natCast]
    refine ⟨fun c2 i3 i4 => next (fun z => (hAq.mpr z.2) c2), fun c2 i3 i4 => ?_⟩
    have hav : av_ (ecn_ ϖ) (edp ϖ) len q (kk q) u := ⟨by omega, hAq.mp c2⟩
    rw [e1, Int.toNat_natCast]
    have o92 : (sg_uA s1 94 q l3).2.2.1 92 = s1.2.2.1 92 := by funext i; exact sg_A2 (fun c => absurd c.1 (by decide))
    have o95 : (sg_uA s1 94 q l3).2.2.1 95 = s1.2.2.1 95 := by funext i; exact sg_A2 (fun c => absurd c.1 (by decide))
    have hkk : up_ kk (q + 1) (edp ϖ q (kk q) u).toNat (q + 1) = (edp ϖ q (kk q) u).toNat := up_1
    refine ⟨f.uA rfl, by rw [o92]; exact hA, by rw [o95]; exact hCc, q + 1, up_ kk (q + 1) (edp ϖ q (kk q) u).toNat, up_ tt q u, ?_, by omega, ⟨?_, fun p hp => ?_⟩, ?_, ?_, ?_, fun i hi => ?_⟩
    · rw [i32_inc (c := 0) (by omega) (by omega), h2]
      rfl
    · rw [up_2 (by omega)]; exact hw.1
    · by_cases ep : p = q
      · subst ep
        rw [up_1, hkk, up_2 (show ¬ p = p + 1 by omega)]
        exact ⟨⟨hu, hav, hno⟩, by omega⟩
      · rw [up_2 (show ¬ p = q + 1 by omega), up_2 (show ¬ p + 1 = q + 1 by omega), up_2 ep]
        exact hw.2 p (by omega)
    · rw [hkk]; omega
    · rw [hkk]; omega
    · rw [hkk]; exact hav.2
    · by_cases ei : i = q
      · rw [ei, sg_A1, up_1]; exact h3
      · rw [sg_A2 (fun c => ei c.2), up_2 ei]
        exact h94 i (by omega)
  · intro l1 l2 l3 l4 s1 hI
    obtain ⟨f, q, k, u, ⟨h1, hq, h2, hkN, hA, hCc, hB⟩, h4, hu, h3, hb⟩ := hI
    have hu16 := c16 (q + 1)
    have e1 : (l1 - Int32.ofInt 1).toInt = (q : Int) := by rw [i32_sub (by omega) (by omega), h1, z1]; omega
    have hN4 := (d1 q (by omega)).2
    have hN5 := (d1 (q + 1) (by omega)).2
    have ix := (e_i1 e1 h2 (by omega) (by omega))
    have e46 : (s1.1 64 46).toInt = (ϖ.2.2.2.2.2.2 : Int) := by rw [f.i rfl]; exact h46
    have e93 : (s1.2.2.1 93 q).toInt = 0 ↔ ¬ fd_ ϖ q := by rw [f.a rfl]; exact d5 q hq
    have fdp : fd_ ϖ (q + 1 - 1) ↔ fd_ ϖ q := by rw [Nat.add_sub_cancel]
    have hinc : (l4 + Int32.ofInt 1).toInt = ((u + 1 : Nat) : Int) := by
      rw [i32_inc (c := 0) (by omega) (by omega), h4]
      rfl
    have ix2 : ((Int32.ofInt 400 * (l1 - Int32.ofInt 1) + l2) * Int32.ofInt 16 + l4).toInt.toNat = (400 * q + k) * 16 + u := by
      rw [i32_add (by omega) (by omega), ix.2.2, h4]
      omega
    -- a set that leads nowhere
    have skip : u < ecn_ ϖ (q + 1) → ¬ av_ (ecn_ ϖ) (edp ϖ) len q k u → sg_fr [] [92, 94, 95] s s1 ∧ ∃ q k u : Nat, (l1.toInt = ((q + 1 : Nat) : Int) ∧ q < len ∧ l2.toInt = (k : Int) ∧ k < (eLp ϖ q).1 ∧ bA_ ϖ len (q + 1) (s1.2.2.1 92) ∧ bC_ ϖ len (q + 1) (s1.2.2.1 95) ∧ ∀ j, j < k → (¬ (s1.2.2.1 92 (400 * q + j)).toInt = 0 ↔ al_ (ecn_ ϖ) (edp ϖ) len (len - q) j)) ∧ (l4 + Int32.ofInt 1).toInt = (u : Int) ∧ u ≤ ecn_ ϖ (q + 1) ∧ ((l3.toInt = 1 ∧ ∃ t, t < u ∧ av_ (ecn_ ϖ) (edp ϖ) len q k t) ∨ (l3.toInt = 0 ∧ ¬ ∃ t, t < u ∧ av_ (ecn_ ϖ) (edp ϖ) len q k t)) ∧ ∀ t, t < 32 → (bt_ (s1.2.2.1 95 q) t = true ↔ t < ecn_ ϖ (q + 1) ∧ ((∃ j, j < k ∧ av_ (ecn_ ϖ) (edp ϖ) len q j t) ∨ (t < u ∧ av_ (ecn_ ϖ) (edp ϖ) len q k t))) := by
      intro hu2 hn
      refine ⟨f, q, k, u + 1, ⟨h1, hq, h2, hkN, hA, hCc, hB⟩, hinc, by omega, ?_, fun t ht => ?_⟩
      · rcases h3 with ⟨a, t, ht, hav⟩ | ⟨a, b⟩
        · exact Or.inl ⟨a, t, by omega, hav⟩
        · refine Or.inr ⟨a, fun z => ?_⟩
          obtain ⟨t, ht, hav⟩ := z
          by_cases et : t = u
          · rw [et] at hav; exact hn hav
          · exact b ⟨t, by omega, hav⟩
      · rw [hb t ht]
        constructor
        · intro z
          refine ⟨z.1, ?_⟩
          rcases z.2 with z | z
          · exact Or.inl z
          · exact Or.inr ⟨by omega, z.2⟩
        · intro z
          refine ⟨z.1, ?_⟩
          rcases z.2 with z | z
          · exact Or.inl z
          · by_cases et : t = u
            · rw [et] at z; exact absurd z.2 hn
            · exact Or.inr ⟨by omega, z.2⟩
    have inner : u < ecn_ ϖ (q + 1) → ∀ X : Int32, X = s1.2.2.1 91 ((400 * q + k) * 16 + u) → (X.toInt = -1 → ¬ av_ (ecn_ ϖ) (edp ϖ) len q k u) ∧ (¬ X.toInt = -1 → (Int32.ofInt 400 * l1 + X).toInt.toNat = 400 * (q + 1) + (edp ϖ q k u).toNat ∧ (¬ (s1.2.2.1 92 (400 * (q + 1) + (edp ϖ q k u).toNat)).toInt = 0 ↔ av_ (ecn_ ϖ) (edp ϖ) len q k u)) := by
      intro hu2 X hX
      have hXd : X.toInt = edp ϖ q k u := by rw [hX, f.a rfl]; exact d3 q hq k hkN u hu2
      have dr := drng q k u hq hkN hu2
      refine ⟨fun c z => by have := z.1; omega, fun c => ?_⟩
      have ix3 := (e_i1 (x := l1) (y := X) (p := q + 1) (j := (edp ϖ q k u).toNat) h1 (by omega) (by omega) (by omega)).1
      have hAq := hA (q + 1) (Nat.le_refl _) (by omega) (edp ϖ q k u).toNat (by omega)
      exact ⟨by rw [ix3]; omega, ⟨fun z => ⟨by omega, hAq.mp z⟩, fun z => hAq.mpr z.2⟩⟩
    -- a set that leads to the end
    have take : u < ecn_ ϖ (q + 1) → av_ (ecn_ ϖ) (edp ϖ) len q k u → sg_fr [] [92, 94, 95] s (sg_uA s1 95 q (s1.2.2.1 95 q ||| (Int32.ofInt 1 <<< (l4 &&& 31)))) ∧ ∃ q' k u : Nat, (l1.toInt = ((q' + 1 : Nat) : Int) ∧ q' < len ∧ l2.toInt = (k : Int) ∧ k < (eLp ϖ q').1 ∧ bA_ ϖ len (q' + 1) ((sg_uA s1 95 q (s1.2.2.1 95 q ||| (Int32.ofInt 1 <<< (l4 &&& 31)))).2.2.1 92) ∧ bC_ ϖ len (q' + 1) ((sg_uA s1 95 q (s1.2.2.1 95 q ||| (Int32.ofInt 1 <<< (l4 &&& 31)))).2.2.1 95) ∧ ∀ j, j < k → (¬ ((sg_uA s1 95 q (s1.2.2.1 95 q ||| (Int32.ofInt 1 <<< (l4 &&& 31)))).2.2.1 92 (400 * q' + j)).toInt = 0 ↔ al_ (ecn_ ϖ) (edp ϖ) len (len - q') j)) ∧ (l4 + Int32.ofInt 1).toInt = (u : Int) ∧ u ≤ ecn_ ϖ (q' + 1) ∧ (((Int32.ofInt 1).toInt = 1 ∧ ∃ t, t < u ∧ av_ (ecn_ ϖ) (edp ϖ) len q' k t) ∨ ((Int32.ofInt 1).toInt = 0 ∧ ¬ ∃ t, t < u ∧ av_ (ecn_ ϖ) (edp ϖ) len q' k t)) ∧ ∀ t, t < 32 → (bt_ ((sg_uA s1 95 q (s1.2.2.1 95 q ||| (Int32.ofInt 1 <<< (l4 &&& 31)))).2.2.1 95 q') t = true ↔ t < ecn_ ϖ (q' + 1) ∧ ((∃ j, j < k ∧ av_ (ecn_ ϖ) (edp ϖ) len q' j t) ∨ (t < u ∧ av_ (ecn_ ϖ) (edp ϖ) len q' k t))) := by
      intro hu2 hav
      have o92 : (sg_uA s1 95 q (s1.2.2.1 95 q ||| (Int32.ofInt 1 <<< (l4 &&& 31)))).2.2.1 92 = s1.2.2.1 92 := by funext i; exact sg_A2 (fun c => absurd c.1 (by decide))
      refine ⟨f.uA rfl, q, k, u + 1, ⟨h1, hq, h2, hkN, by rw [o92]; exact hA, fun p h3 h4 t ht => ?_, by rw [o92]; exact hB⟩, hinc, by omega, Or.inl ⟨rfl, u, by omega, hav⟩, fun t ht => ?_⟩
      · rw [sg_A2 (fun c => by omega)]
        exact hCc p h3 h4 t ht
      · rw [sg_A1, bt_or ht, bt_sh h4 (by omega) ht, Bool.or_eq_true, decide_eq_true_eq, hb t ht]
        constructor
        · intro z
          rcases z with z | z
          · refine ⟨z.1, ?_⟩
            rcases z.2 with z | z
            · exact Or.inl z
            · exact Or.inr ⟨by omega, z.2⟩
          · exact ⟨by omega, Or.inr ⟨by omega, by rw [z]; exact hav⟩⟩
        · intro z
          by_cases et : t = u
          · exact Or.inr et
          · refine Or.inl ⟨z.1, ?_⟩
            rcases z.2 with z | z
            · exact Or.inl z
            · exact Or.inr ⟨by omega, z.2⟩
    -- the state is done
    have fin : u = ecn_ ϖ (q + 1) → sg_fr [] [92, 94, 95] s (sg_uA s1 92 (400 * q + k) (vp_nar .boolean l3)) ∧ ∃ r k' : Nat, l1.toInt = ((r + 1 : Nat) : Int) ∧ r < len ∧ (l2 + Int32.ofInt 1).toInt = (k' : Int) ∧ k' ≤ (eLp ϖ r).1 ∧ bA_ ϖ len (r + 1) ((sg_uA s1 92 (400 * q + k) (vp_nar .boolean l3)).2.2.1 92) ∧ bC_ ϖ len (r + 1) ((sg_uA s1 92 (400 * q + k) (vp_nar .boolean l3)).2.2.1 95) ∧ (∀ j, j < k' → (¬ ((sg_uA s1 92 (400 * q + k) (vp_nar .boolean l3)).2.2.1 92 (400 * r + j)).toInt = 0 ↔ al_ (ecn_ ϖ) (edp ϖ) len (len - r) j)) ∧ ∀ t, t < 32 → (bt_ ((sg_uA s1 92 (400 * q + k) (vp_nar .boolean l3)).2.2.1 95 r) t = true ↔ t < ecn_ ϖ (r + 1) ∧ ∃ j, j < k' ∧ av_ (ecn_ ϖ) (edp ϖ) len r j t) := by
      intro hu2
      have hnar : vp_nar .boolean l3 = l3 := by
        rcases h3 with a | a
        · exact ab_nbo (by omega) (by omega)
        · exact ab_nbo (by omega) (by omega)
      have o95 : (sg_uA s1 92 (400 * q + k) (vp_nar .boolean l3)).2.2.1 95 = s1.2.2.1 95 := by funext i; exact sg_A2 (fun c => absurd c.1 (by decide))
      refine ⟨f.uA rfl, q, k + 1, h1, hq, ?_, by omega, fun p h5 h6 j hj => ?_, by rw [o95]; exact hCc, fun j hj => ?_, fun t ht => ?_⟩
      · rw [i32_inc (c := 0) (by omega) (by omega), h2]
        rfl
      · rw [sg_A2 (fun c => by omega)]
        exact hA p h5 h6 j hj
      · by_cases ej : j = k
        · rw [ej, sg_A1, hnar, al_iff hq, ← hu2]
          rcases h3 with ⟨a, b⟩ | ⟨a, b⟩
          · exact ⟨fun _ => b, fun _ => by omega⟩
          · exact ⟨fun z => absurd a z, fun z => absurd z b⟩
        · rw [sg_A2 (fun c => by omega)]
          exact hB j (by omega)
      · rw [o95, hb t ht]
        constructor
        · intro z
          refine ⟨z.1, ?_⟩
          rcases z.2 with ⟨j, hj, hav⟩ | z2
          · exact ⟨j, by omega, hav⟩
          · exact ⟨k, by omega, z2.2⟩
        · intro z
          obtain ⟨z1, j, hj, hav⟩ := z
          refine ⟨z1, ?_⟩
          by_cases ej : j = k
          · rw [ej] at hav; exact Or.inr ⟨by omega, hav⟩
          · exact Or.inl ⟨j, by omega, hav⟩
    unfold wp_M_looksBack_74
    rw [e1, Int.toNat_natCast, ix2, e46, h4, ix.1, Int.toNat_natCast]
    refine fun _ _ => ⟨fun c93 => ?_, fun c93 => ?_⟩
    · have ecn : ecn_ ϖ (q + 1) = ϖ.2.2.2.2.2.2 := ecn_n (fun z => (e93.mp c93) (fdp.mp z))
      refine ⟨fun c _ _ => ?_, fun c _ _ => fin (by omega)⟩
      have hu2 : u < ecn_ ϖ (q + 1) := by omega
      obtain ⟨i1, i2⟩ := inner hu2 _ rfl
      refine ⟨fun cx => skip hu2 (i1 cx), fun cx _ _ => ?_⟩
      obtain ⟨j1, j2⟩ := i2 cx
      rw [j1]
      exact ⟨fun cy => skip hu2 (fun z => (j2.mpr z) cy), fun cy => take hu2 (j2.mp cy)⟩
    · have hf : fd_ ϖ q := Classical.byContradiction (fun z => c93 (e93.mpr z))
      have ecn : ecn_ ϖ (q + 1) = 1 := ecn_y (fdp.mpr hf)
      refine ⟨fun c _ _ => ?_, fun c _ _ => fin (by omega)⟩
      have hu2 : u < ecn_ ϖ (q + 1) := by omega
      obtain ⟨i1, i2⟩ := inner hu2 _ rfl
      refine ⟨fun cx => skip hu2 (i1 cx), fun cx _ _ => ?_⟩
      obtain ⟨j1, j2⟩ := i2 cx
      rw [j1]
      exact ⟨fun cy => skip hu2 (fun z => (j2.mpr z) cy), fun cy => take hu2 (j2.mp cy)⟩
