/-! ===== ends: a state is laid down (X's Onward) ===== -/
/-- X's table of states F holds the layer L -/
def hl_ (F : Nat) (C : Nat) (cnt : Nat → Nat) (s : sg_S) (σ : Int) (L : el_) : Prop := ∃ lo hi : Nat → Int64, ht_ F (F + 1) (F + 2) (F + 3) s σ L.1 lo hi ∧ ∀ k, k < L.1 → (lo k).toInt = plo_ (dv_ cnt (L.2 k)) C ∧ (hi k).toInt = phi_ (dv_ cnt (L.2 k)) C (L.2 k 0) (L.2 k 1)
theorem plo_congr {g f : Nat → Int} {C : Nat} (h : ∀ i, i < C → g i = f i) : plo_ g C = plo_ f C := by
  unfold plo_
  exact sd_congr _ (fun i hi => h i (by split at hi <;> omega))
theorem phn_congr {g f : Nat → Int} {C : Nat} (h : ∀ i, i < C → g i = f i) : phn_ g C = phn_ f C := by
  unfold phn_
  exact sd_congr _ (fun i hi => h (i + 10) (by omega))
section OL
variable {s : sg_S} {x1 x2 x3 x4 : Int32} {y1 y2 : Int64} {ϖ : ep_} {C : Nat} {cnt : Nat → Nat} {σ : Int}
theorem pke_ {v w : Nat → Int32} (hϖ : eP_ ϖ) (hx : cx_ ϖ.1 C cnt) (h : eqs_ v w) : plo_ (dv_ cnt v) C = plo_ (dv_ cnt w) C ∧ phi_ (dv_ cnt v) C (v 0) (v 1) = phi_ (dv_ cnt w) C (w 0) (w 1) := by
  have h12 := hϖ.1.2.2.1
  have e : ∀ i, i < C → dv_ cnt v i = dv_ cnt w i := fun i hi => by
    have := (hx.2.1 i hi).1
    unfold dv_
    rw [h (2 + cnt i) (by omega)]
  refine ⟨plo_congr e, ?_⟩
  unfold phi_
  rw [phn_congr e, h 0 (by omega), h 1 (by omega)]
theorem xo_lay {F P : Nat} {L : el_} {w : Nat → Int32} (hF : F = 39 ∨ F = 43) (hϖ : eP_ ϖ) (hx : cx_ ϖ.1 C cnt) (hP : (P : Int) ≤ ϖ.1.2.2.2.1) (hL : hl_ F C cnt s σ L) (hwf : ∀ k, k < L.1 → ewf_ ϖ P (L.2 k)) (heu : eu_ L) (hw : ewf_ ϖ P w) (h1 : y1.toInt = plo_ (dv_ cnt w) C) (h2 : y2.toInt = phi_ (dv_ cnt w) C (w 0) (w 1)) : am_SpI 99 [.ref F, .long y1, .long y2] s (fun r s2 => (ef_ L w < L.1 → r.toInt = (ef_ L w : Int) ∧ s2 = s) ∧ (¬ ef_ L w < L.1 → (L.1 = 400 → r.toInt = -4 ∧ s2 = s) ∧ (L.1 < 400 → r.toInt = (L.1 : Int) ∧ sg_fr [(F, 2)] [F + 1, F + 2, F + 3] s s2 ∧ hl_ F C cnt s2 σ (ea_ L w)))) := by
  obtain ⟨lo, hi, ht, hv⟩ := hL
  have same : ∀ (k : Nat) (hk : k < L.1) (z : lo k = y1 ∧ hi k = y2), eqs_ (L.2 k) w := fun k hk z => by
    obtain ⟨a, b⟩ := hv k hk
    rw [z.1, h1] at a
    rw [z.2, h2] at b
    exact pk_inj hϖ hP hx (hwf k hk) hw a.symm b.symm
  refine (xs_lay hF ht (fun j k hjk hk z => ?_)).mono (fun r s2 h => ?_)
  · obtain ⟨a, b⟩ := hv j (by omega)
    obtain ⟨a2, b2⟩ := hv k hk
    rw [z.1] at a
    rw [z.2] at b
    exact heu j k hjk hk (pk_inj hϖ hP hx (hwf j (by omega)) (hwf k hk) (a.symm.trans a2) (b.symm.trans b2))
  · refine ⟨fun c => ?_, fun c => ?_⟩
    · have e := pke_ hϖ hx (ef_hit c)
      obtain ⟨a, b⟩ := hv _ c
      exact h.1 _ c ⟨Int64.toInt_inj.mp (by rw [a, h1, e.1]), Int64.toInt_inj.mp (by rw [b, h2, e.2])⟩
    · have e0 := ef_le (L := L) (w := w)
      obtain ⟨g1, g2⟩ := h.2 (fun k hk z => ef_no (L := L) (w := w) (j := k) (by omega) (same k hk z))
      refine ⟨g1, fun c4 => ?_⟩
      obtain ⟨q1, q2, q3⟩ := g2 c4
      refine ⟨q1, q2, _, _, q3, fun k hk => ?_⟩
      have hk : k < L.1 + 1 := hk
      show (if k = L.1 then y1 else lo k).toInt = plo_ (dv_ cnt (if k = L.1 then w else L.2 k)) C ∧ (if k = L.1 then y2 else hi k).toInt = phi_ (dv_ cnt (if k = L.1 then w else L.2 k)) C ((if k = L.1 then w else L.2 k) 0) ((if k = L.1 then w else L.2 k) 1)
      by_cases e : k = L.1
      · rw [if_pos e, if_pos e, if_pos e]
        exact ⟨h1, h2⟩
      · rw [if_neg e, if_neg e, if_neg e]
        exact hv k (by omega)
theorem ev0_at {k : Nat} (hk : k < ϖ.1.2.2.1) : ev0_ ϖ (2 + k) = if (rp_rl ϖ.1 k).1.toInt = 3 then (rp_rl ϖ.1 k).2.2.1 else Int32.ofInt 0 := by
  unfold ev0_
  rw [if_neg (by omega), show 2 + k - 2 = k by omega]
  by_cases c : (rp_rl ϖ.1 k).1.toInt = 3
  · rw [if_pos c, if_pos ⟨by omega, c⟩]
  · rw [if_neg c, if_neg (fun z => c z.2)]
theorem xo_firstN {k : Nat} (hU : rx_RU ϖ.1 s) (h1 : x1.toInt = (k : Int)) (hk : k < ϖ.1.2.2.1) : am_SpI 71 [.ref 1, .int x1] s (fun r s2 => s2 = s ∧ r = ev0_ ϖ (2 + k)) := by
  refine wp_XRules_firstNumber_1_ok ?_
  unfold wp_XRules_firstNumber_1
  have e1 : x1.toInt.toNat = k := by omega
  obtain ⟨u1, u2, u3, u4⟩ := hU.2.2.2.2.2 k hk
  rw [e1, u1, u3, ev0_at hk]
  exact fun _ _ => ⟨fun c => ⟨rfl, (if_pos c).symm⟩, fun c => ⟨rfl, (if_neg c).symm⟩⟩
theorem xo_layFirst {F : Nat} (hF : F = 39 ∨ F = 43) (hϖ : eP_ ϖ) (hU : rx_RU ϖ.1 s) (hx : cx_ ϖ.1 C cnt) (hz : cz_ C cnt s) (hL : hl_ F C cnt s σ (0, fun _ _ => 0)) : am_SpI 27 [.ref 54, .ref F] s (fun r s2 => r.toInt = 0 ∧ sg_fr [(F, 2)] [F + 1, F + 2, F + 3] s s2 ∧ hl_ F C cnt s2 σ (1, fun _ => ev0_ ϖ)) := by
  have h12 := hϖ.1.2.2.1
  have hl := hϖ.2.2.1
  have hC : C ≤ 12 := by have := hx.1; omega
  have w0 := ewf_0 hϖ
  have dv := dv_rng (p := 0) hϖ (by omega) hx w0
  refine wp_XOnward_layFirst_F_ok (I8 := fun l2 l4 l6 s1 => s1 = s ∧ ∃ i : Nat, l6.toInt = (i : Int) ∧ i ≤ C ∧ l2.toInt = plo_ (dv_ cnt (ev0_ ϖ)) i ∧ l4.toInt = phn_ (dv_ cnt (ev0_ ϖ)) i) ?_ ⟨rfl, 0, rfl, Nat.zero_le _, rfl, rfl⟩
  intro l2 l4 l6 s1 hI
  obtain ⟨q1, i, hi, hiC, e2, e4⟩ := hI
  subst q1
  unfold wp_XOnward_layFirst_F_8
  rw [hz.1, hi, Int.toNat_natCast]
  have lo := plo_rng (g := dv_ cnt (ev0_ ϖ)) (C := i) (fun j hj => dv j (by omega))
  have hh := phn_rng (g := dv_ cnt (ev0_ ϖ)) (C := i) (by omega) (fun j hj => dv j (by omega))
  refine ⟨fun c _ _ => ?_, fun c => ?_⟩
  · have hiC2 : i < C := by omega
    have d := dv i hiC2
    refine (xo_firstN hU (hz.2 i hiC2) (hx.2.1 i hiC2).1).mono (fun x3 s3 h3 => ?_)
    obtain ⟨q3, h3⟩ := h3
    subst q3
    have e3 : x3.toInt64.toInt = dv_ cnt (ev0_ ϖ) i := x_ext (by rw [h3]; rfl)
    have b1 := pl_rng (i := i) d
    have b2 := ph_rng d (show i < 12 by omega)
    refine (xo_low2 hi (by omega) e3 d).mono (fun x4 s4 h4 => ?_)
    obtain ⟨q4, h4⟩ := h4
    subst q4
    refine (xo_high2 hi (by omega) e3 d).mono (fun x5 s5 h5 => ?_)
    obtain ⟨q5, h5⟩ := h5
    subst q5
    refine ⟨rfl, i + 1, ?_, by omega, ?_, ?_⟩
    · rw [i32_inc (c := 0) (by omega) (by omega), hi]
      rfl
    · rw [x_add (by omega) (by omega), e2, h4, pl_s]
    · rw [x_add (by omega) (by omega), e4, h5, ph_s]
  · have : i = C := by omega
    subst this
    have m1 : (Int32.ofInt (-1)).toInt = -1 := rfl
    have ea : as_ (ev0_ ϖ 0) = 0 := if_pos m1
    have eb : as_ (ev0_ ϖ 1) = 0 := if_pos m1
    have ephi : phi_ (dv_ cnt (ev0_ ϖ)) i (ev0_ ϖ 0) (ev0_ ϖ 1) = phn_ (dv_ cnt (ev0_ ϖ)) i := by
      unfold phi_
      rw [ea, eb]
      omega
    refine (xo_lay (P := 0) (w := ev0_ ϖ) hF hϖ hx (by omega) hL (fun k hk => absurd hk (Nat.not_lt_zero k)) (fun j k _ hk => absurd hk (Nat.not_lt_zero k)) w0 e2 (by rw [e4, ephi])).mono (fun r s2 h => ?_)
    obtain ⟨-, h⟩ := h
    obtain ⟨g1, g2, lo, hi9, g3, g4⟩ := (h (Nat.not_lt_zero _)).2 (show (0 : Nat) < 400 by omega)
    refine ⟨g1, g2, lo, hi9, g3, fun k hk => ?_⟩
    obtain rfl : k = 0 := by have hk : k < 1 := hk; omega
    exact g4 0 (by show 0 < 0 + 1; omega)
/-- may the set come next? -/
theorem xo_allows {P : Nat} {v : Nat → Int32} {c : Int32} (h12 : ϖ.1.2.2.1 ≤ 12) (hb : ∀ q, q < 32 → (bt_ x1 q = true ↔ q < ϖ.1.2.2.1 ∧ hb_ (rp_rl ϖ.1 q).2.1 c = true)) (ht : xtS_ ϖ P C cnt v s) : am_SpI 31 [.ref 54, .int x1] s (bo_ (∀ q, q < ϖ.1.2.2.1 → ¬ bkv_ ϖ P v q (hb_ (rp_rl ϖ.1 q).2.1 c)) s) := by
  obtain ⟨t6, t7, -⟩ := ht
  refine wp_XOnward_allows_ok ?_
  unfold wp_XOnward_allows
  refine ⟨fun c1 => ⟨fun c2 => bo_1 (fun q hq z => ?_), fun c2 => bo_0 (fun z => c2 ?_)⟩, fun c1 => bo_0 (fun z => c1 ?_)⟩
  · cases hh : hb_ (rp_rl ϖ.1 q).2.1 c with
    | true =>
      rw [hh] at z
      exact bt_dis.mp c1 q (by omega) ⟨(hb q (by omega)).mpr ⟨hq, hh⟩, (t6 q (by omega)).mpr ⟨hq, z⟩⟩
    | false =>
      rw [hh] at z
      refine bt_dis.mp c2 q (by omega) ⟨?_, (t7 q (by omega)).mpr ⟨hq, z⟩⟩
      rw [bt_not (by omega), Bool.not_eq_true', ← Bool.not_eq_true]
      intro w
      have := ((hb q (by omega)).mp w).2
      rw [hh] at this
      cases this
  · refine bt_dis.mpr (fun q hq w => ?_)
    obtain ⟨hqR, w2⟩ := (t7 q hq).mp w.2
    have w1 := w.1
    rw [bt_not hq, Bool.not_eq_true', ← Bool.not_eq_true] at w1
    have hh : hb_ (rp_rl ϖ.1 q).2.1 c = false := by
      rw [← Bool.not_eq_true]
      exact fun y => w1 ((hb q hq).mpr ⟨hqR, y⟩)
    have := z q hqR
    rw [hh] at this
    exact this w2
  · refine bt_dis.mpr (fun q hq w => ?_)
    obtain ⟨hqR, w2⟩ := (t6 q hq).mp w.2
    have hh := ((hb q hq).mp w.1).2
    have := z q hqR
    rw [hh] at this
    exact this w2
theorem enx_at {v : Nat → Int32} {c : Int32} {k : Nat} (hk : k < ϖ.1.2.2.1) : enx_ ϖ v c (2 + k) = Int32.ofInt (nx_ (rp_rl ϖ.1 k).1.toInt (rp_rl ϖ.1 k).2.2.1.toInt (v (2 + k)).toInt (hb_ (rp_rl ϖ.1 k).2.1 c)) := by
  unfold enx_
  rw [if_neg (by omega), if_neg (by omega), if_pos (by omega), show 2 + k - 2 = k by omega]
/-- the state behind the set is laid down -/
theorem xo_layNext {F p : Nat} {L : el_} {v : Nat → Int32} {c : Int32} (hF : F = 39 ∨ F = 43) (hϖ : eP_ ϖ) (hx : cx_ ϖ.1 C cnt) (hz : cz_ C cnt s) (hp : (p : Int) < ϖ.1.2.2.2.1) (hv : ewf_ ϖ p v) (hc : 0 ≤ c.toInt ∧ c.toInt < (rp_kset ϖ.1.1).toInt) (ht : xtS_ ϖ (p + 1) C cnt v s) (hb : ∀ q, q < 32 → (bt_ x2 q = true ↔ q < ϖ.1.2.2.1 ∧ hb_ (rp_rl ϖ.1 q).2.1 c = true)) (h3 : x3.toInt = c.toInt) (h4 : x4.toInt = as_ (v 0)) (hL : hl_ F C cnt s σ L) (hwf : ∀ k, k < L.1 → ewf_ ϖ (p + 1) (L.2 k)) (heu : eu_ L) : am_SpI 32 [.ref 54, .ref F, .int x2, .int x3, .int x4] s (fun r s2 => (ef_ L (enx_ ϖ v c) < L.1 → r.toInt = (ef_ L (enx_ ϖ v c) : Int) ∧ s2 = s) ∧ (¬ ef_ L (enx_ ϖ v c) < L.1 → (L.1 = 400 → r.toInt = -4 ∧ s2 = s) ∧ (L.1 < 400 → r.toInt = (L.1 : Int) ∧ sg_fr [(F, 2)] [F + 1, F + 2, F + 3] s s2 ∧ hl_ F C cnt s2 σ (ea_ L (enx_ ϖ v c))))) := by
  have h12 := hϖ.1.2.2.1
  have hl := hϖ.2.2.1
  have h9 := (rp_kset_9 hϖ.1.1).2
  have hC : C ≤ 12 := by have := hx.1; omega
  have hw := ewf_nx hϖ hp hv hc
  have av := as_rng hϖ hv
  have dv := dv_rng hϖ (show ((p + 1 : Nat) : Int) ≤ ϖ.1.2.2.2.1 by omega) hx hw
  obtain ⟨-, -, t8, t9, t5⟩ := ht
  have gn := gk_rng (h := false) hϖ hx hp hv
  have gy := gk_rng (h := true) hϖ hx hp hv
  -- the numbers behind the set
  have dvg : ∀ i, i < C → dv_ cnt (enx_ ϖ v c) i = gk_ ϖ cnt v (hb_ (rp_rl ϖ.1 (cnt i)).2.1 c) i := by
    intro i hi
    have hR := (hx.2.1 i hi).1
    have r : 0 ≤ gk_ ϖ cnt v (hb_ (rp_rl ϖ.1 (cnt i)).2.1 c) i ∧ gk_ ϖ cnt v (hb_ (rp_rl ϖ.1 (cnt i)).2.1 c) i < 64 := gk_rng hϖ hx hp hv i hi
    unfold dv_
    rw [enx_at hR]
    exact am_oi (by unfold gk_ at r; omega) (by unfold gk_ at r; omega)
  have lC := plo_rng (g := gk_ ϖ cnt v false) (C := C) gn
  have hC9 := phn_rng (g := gk_ ϖ cnt v false) hC gn
  refine wp_XOnward_layNext_F_ok (I24 := fun l5 l7 l9 s1 => s1 = s ∧ ∃ i : Nat, l9.toInt = (i : Int) ∧ i ≤ C ∧ l5.toInt = plo_ (gk_ ϖ cnt v false) C + (plo_ (dv_ cnt (enx_ ϖ v c)) i - plo_ (gk_ ϖ cnt v false) i) ∧ l7.toInt = phn_ (gk_ ϖ cnt v false) C + (4096 * c.toInt + 1048576 * as_ (v 0)) + (phn_ (dv_ cnt (enx_ ϖ v c)) i - phn_ (gk_ ϖ cnt v false) i)) ?_ ?_
  · intro l5 l7 l9 s1 hI
    obtain ⟨q1, i, hi, hiC, e5, e7⟩ := hI
    subst q1
    have a1 := plo_rng (g := dv_ cnt (enx_ ϖ v c)) (C := i) (fun j hj => dv j (by omega))
    have a2 := plo_rng (g := gk_ ϖ cnt v false) (C := i) (fun j hj => gn j (by omega))
    have a3 := phn_rng (g := dv_ cnt (enx_ ϖ v c)) (C := i) (by omega) (fun j hj => dv j (by omega))
    have a4 := phn_rng (g := gk_ ϖ cnt v false) (C := i) (by omega) (fun j hj => gn j (by omega))
    unfold wp_XOnward_layNext_F_24
    rw [hz.1, hi, Int.toNat_natCast]
    refine ⟨fun c1 _ _ => ?_, fun c1 => ?_⟩
    · have hiC2 : i < C := by omega
      have hR := (hx.2.1 i hiC2).1
      have hinc : (l9 + Int32.ofInt 1).toInt = ((i + 1 : Nat) : Int) := by
        rw [i32_inc (c := 0) (by omega) (by omega), hi]
        rfl
      have g0 := gn i hiC2
      have g1 := gy i hiC2
      have b1 := pl_rng (i := i) g0
      have b2 := pl_rng (i := i) g1
      have b3 := ph_rng g0 (show i < 12 by omega)
      have b4 := ph_rng g1 (show i < 12 by omega)
      have s1 := pl_sub (a := gk_ ϖ cnt v true i) (b := gk_ ϖ cnt v false i) (i := i)
      have s2 := ph_sub (a := gk_ ϖ cnt v true i) (b := gk_ ϖ cnt v false i) (i := i)
      obtain ⟨u56, u57⟩ := t5 i hiC2
      refine ⟨fun c2 => ⟨rfl, i + 1, hinc, by omega, ?_, ?_⟩, fun c2 => ⟨rfl, i + 1, hinc, by omega, ?_, ?_⟩⟩
      · have hf : hb_ (rp_rl ϖ.1 (cnt i)).2.1 c = false := by
          have := (bt_at (hz.2 i hiC2)).mp c2
          rw [← Bool.not_eq_true]
          intro y
          rw [(hb (cnt i) (by omega)).mpr ⟨hR, y⟩] at this
          cases this
        rw [pl_s, pl_s, dvg i hiC2, hf, e5]
        omega
      · have hf : hb_ (rp_rl ϖ.1 (cnt i)).2.1 c = false := by
          have := (bt_at (hz.2 i hiC2)).mp c2
          rw [← Bool.not_eq_true]
          intro y
          rw [(hb (cnt i) (by omega)).mpr ⟨hR, y⟩] at this
          cases this
        rw [ph_s, ph_s, dvg i hiC2, hf, e7]
        omega
      · have hf : hb_ (rp_rl ϖ.1 (cnt i)).2.1 c = true := by
          have w : bt_ x2 (cnt i) = true := by
            rw [← Bool.not_eq_false]
            exact fun y => c2 ((bt_at (hz.2 i hiC2)).mpr y)
          exact ((hb (cnt i) (by omega)).mp w).2
        rw [x_add (by omega) (by omega), pl_s, pl_s, dvg i hiC2, hf, e5, u56]
        omega
      · have hf : hb_ (rp_rl ϖ.1 (cnt i)).2.1 c = true := by
          have w : bt_ x2 (cnt i) = true := by
            rw [← Bool.not_eq_false]
            exact fun y => c2 ((bt_at (hz.2 i hiC2)).mpr y)
          exact ((hb (cnt i) (by omega)).mp w).2
        rw [x_add (by omega) (by omega), ph_s, ph_s, dvg i hiC2, hf, e7, u57]
        omega
    · have : i = C := by omega
      subst this
      have ec : as_ c = c.toInt := if_neg (by omega)
      have e0 : enx_ ϖ v c 0 = c := rfl
      have e1 : enx_ ϖ v c 1 = v 0 := rfl
      refine xo_lay (P := p + 1) (w := enx_ ϖ v c) hF hϖ hx (by omega) hL hwf heu hw (by rw [e5]; omega) ?_
      rw [e7]
      unfold phi_
      rw [e0, e1, ec]
      omega
  · unfold wp_XOnward_layNext_F
    refine (xo_sets (a := c.toInt) (b := as_ (v 0)) (x_ext h3) (x_ext h4) (by omega) av.1).mono (fun x5 s5 h5 => ?_)
    obtain ⟨q5, h5⟩ := h5
    subst q5
    refine ⟨rfl, 0, rfl, Nat.zero_le _, ?_, ?_⟩
    · rw [t8, plo_0, plo_0]
      omega
    · rw [x_add (by omega) (by omega), t9, h5, phn_0, phn_0]
      omega
end OL
