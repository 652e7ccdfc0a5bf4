/-! ===== breaks, verse: both answer alike, and stay alike ===== -/
theorem kset_or {K : Nat} (hK : K ≤ 8) {A B : Int32} (ha : 0 ≤ A.toInt ∧ A.toInt < (rp_kset K).toInt) (hb : 0 ≤ B.toInt ∧ B.toInt < (rp_kset K).toInt) : 0 ≤ (A ||| B).toInt ∧ (A ||| B).toInt < (rp_kset K).toInt := by
  have e : (rp_kset K).toInt = ((2 ^ K : Nat) : Int) := by
    have key : ∀ K : Nat, K < 9 → (rp_kset K).toInt = ((2 ^ K : Nat) : Int) := by decide
    exact key K (by omega)
  have h9 := (rp_kset_9 hK).2
  have h1 := ab_ti A
  have h2 := ab_ti B
  have h3 := ab_ti (A ||| B)
  have t1 := ab_tn A
  have t2 := ab_tn B
  have a4 : A.toBitVec.toNat < 2 ^ K := by
    split at h1 <;> omega
  have b4 : B.toBitVec.toNat < 2 ^ K := by
    split at h2 <;> omega
  have h4 : (A ||| B).toBitVec.toNat < 2 ^ K := by
    rw [Int32.toBitVec_or, BitVec.toNat_or]
    exact Nat.or_lt_two_pow a4 b4
  rw [e] at h9 ⊢
  split at h3 <;> omega
theorem cv_g3 {w y v : Nat → Int32} {n K : Nat} {Y : Int} {a b c : Int32} (hK : K ≤ 8) (h : ∀ i, i < n → 0 ≤ (v i).toInt ∧ (v i).toInt < (rp_kset K).toInt) : 0 ≤ (g3_ w y v n Y a b c).toInt ∧ (g3_ w y v n Y a b c).toInt < (rp_kset K).toInt := by
  have h9 := (rp_kset_9 hK).1
  have z0 : (Int32.ofInt 0).toInt = 0 := rfl
  have h1 : ∀ a : Int32, 0 ≤ (g1_ w y v n Y a).toInt ∧ (g1_ w y v n Y a).toInt < (rp_kset K).toInt := by
    intro a
    unfold g1_
    split
    · rw [z0]; omega
    · have hl := wd_bx_lt w y a.toInt Y n
      unfold wd_st
      split
      · rw [z0]; omega
      · exact h _ (by omega)
  exact kset_or hK (kset_or hK (h1 a) (h1 b)) (h1 c)
section BV
variable {s s1 : sg_S} {T : rp_T} {n np m : Nat} {a b c : Int32} {r r' : Int}
theorem cv_vx (hok : ab_hok ab_D0 (sg_h s)) (hc : cm_ s) (hT : rp_ok T) (hU : rx_RU T s) (hV : rm_RU T s) (hS : cv_S T m s) : ∃ n, vx_ok T s n m ∧ vm_ok T s n m ∧ ∀ i, i < n → s.2.2.1 19 i = s.2.2.1 78 i ∧ s.2.2.1 20 i = s.2.2.1 79 i ∧ s.2.2.1 21 i = s.2.2.1 80 i := by
  obtain ⟨n, n100, n1, n2, nn⟩ := hc.2.2.2.2.1
  have hl := cv_len hok hU
  have hk := rk_of hok hT hV
  have t23 := sg_rng (a := 23) (t := 1) (n := 64) (lo := -9) (hi := 9) (m := 511) hok rfl rfl
  have t19 := sg_rng (a := 19) (t := 1) (n := 100) (lo := 0) (hi := 29) (m := 511) hok rfl rfl
  exact ⟨n, ⟨hT, hk, hU, ⟨n1, n100, cm_yrs hok n100, fun i hi => (t19 i (by omega)).1⟩, ⟨by omega, hl.2⟩, hS.1, t23, fun k hkR => hS.2.2.2.2.2.2.2.1 m k (Nat.le_refl _) hkR⟩, ⟨hT, hk, hV, ⟨n2, n100⟩, ⟨by omega, hl.2⟩, hS.2.1, hS.2.2.1, fun i hi => by rw [← hc.2.2.2.1 i hi]; exact t23 i hi⟩, nn⟩
/-- what X and M find broken is the same -/
theorem cv_xm (hc : cm_ s) (hT : rp_ok T) (hS : cv_S T m s) (hE : cv_E T s) (hD : cv_D s) (hn : (s.1 18 1).toInt = (n : Int)) (nn : ∀ i, i < n → s.2.2.1 19 i = s.2.2.1 78 i ∧ s.2.2.1 20 i = s.2.2.1 79 i ∧ s.2.2.1 21 i = s.2.2.1 80 i) (hx : xb_ T s n m a b c r) (hm : mb_ T s n m a b c r') : r = r' := by
  obtain ⟨z1, z2, z3, z4, z5, z6, z7, z8, z9⟩ := hS
  obtain ⟨W, F, hF, ⟨w1, w2, w3, w4⟩, h1⟩ := hx
  have eg : g3_ (s.2.2.1 19) (s.2.2.1 20) (s.2.2.1 21) n (s.1 18 0).toInt a b c = g3_ (s.2.2.1 78) (s.2.2.1 79) (s.2.2.1 80) n (s.1 64 33).toInt a b c := by
    rw [g3_congr nn, hc.2.2.1]
  have hg := cv_g3 (w := s.2.2.1 19) (y := s.2.2.1 20) (v := s.2.2.1 21) (n := n) (K := T.1) (Y := (s.1 18 0).toInt) (a := a) (b := b) (c := c) hT.1 (fun i hi => hE i (by omega))
  rw [eg] at hg hF
  refine fb_uniq (fun k hk => ?_) h1 hm
  rw [nb_congr m (fun v hv => (z4 v hv).2.1)]
  refine bx_bm hT.1 (fun i j hi hj => ?_) hc.2.2.2.1 ?_ (fun i hi => ?_) hg z9 ⟨w1, w2, w3⟩ (fun k hk => ?_)
  · rw [← hc.2.2.2.1 (8 * i + j) (by omega), ← hc.2.2.2.1 (8 * j + i) (by omega)]
    exact hD i j hi hj
  · rw [hF]
    exact if_pos rfl
  · rw [hF]
    show (if i + 1 = m + 1 then _ else s.2.2.1 30 (i + 1)) = _
    rw [if_neg (by omega)]
    exact (z4 i hi).2.1
  · rw [w4 (k + 3) (by omega)]
    exact z5 k hk
/-- X has looked at a verse: what is told stands -/
theorem cv_S_look (hS : cv_S T m s) (f : sg_fr [] [30, 32, 34] s s1) (h30 : ∀ i, i ≤ m → s1.2.2.1 30 i = s.2.2.1 30 i) (h32 : ∀ i, i < 3 * (m + 1) → s1.2.2.1 32 i = s.2.2.1 32 i) (h34 : ∀ i, i < 12 * (m + 1) → s1.2.2.1 34 i = s.2.2.1 34 i) (h12 : T.2.2.1 ≤ 12) : cv_S T m s1 := by
  obtain ⟨z1, z2, z3, z4, z5, z6, z7, z8, z9⟩ := hS
  refine ⟨by rw [f.i rfl]; exact z1, by rw [f.i rfl]; exact z2, z3, fun v hv => ?_, fun k hk => ?_, by rw [f.a (b := 33) rfl]; exact z6, by rw [f.i rfl, f.a (b := 86) rfl]; exact z7, fun p k hp hk => ?_, by rw [f.a (b := 84) rfl]; exact z9⟩
  · rw [f.a (b := 29) rfl, f.a (b := 83) rfl, h30 (v + 1) (by omega), f.a (b := 84) rfl, f.a (b := 31) rfl, f.a (b := 87) rfl, f.a (b := 33) rfl, f.a (b := 86) rfl]
    exact z4 v hv
  · rw [h32 (k + 3) (by omega), f.a (b := 85) rfl]
    exact z5 k hk
  · rw [h34 (12 * p + k) (by omega), z8 p k hp hk]
    exact nb_congr p (fun v hv => (h30 (v + 1) (by omega)).symm)
end BV
