/-! ===== ends: X goes on from all states of a layer (fill) ===== -/
abbrev mGe_ : List (Nat × Nat) := [(54, 6), (54, 7), (54, 8), (54, 9), (39, 2), (43, 2)]
abbrev aG_ : List Nat := [48, 53, 56, 57, 40, 41, 42, 44, 45, 46]
/-- are there links to be asked for? -/
def f7_ (ϖ : ep_) (p : Nat) : Prop := 0 < p ∧ ∃ k, k < ϖ.1.2.2.1 ∧ (rp_rl ϖ.1 k).1.toInt = 7
def f8_ (ϖ : ep_) (p : Nat) : Prop := 1 < p ∧ ∃ k, k < ϖ.1.2.2.1 ∧ (rp_rl ϖ.1 k).1.toInt = 8
def tsy_ (t : Nat → Int32) : Prop := ∀ i j, i < 8 → j < 8 → t (8 * i + j) = t (8 * j + i)
theorem ln_8 {t : Nat → Int32} {A B : Int32} {K : Nat} (hK : K ≤ 8) (hs : tsy_ t) (a0 : 0 ≤ A.toInt) (a1 : A.toInt < (rp_kset K).toInt) (b0 : 0 ≤ B.toInt) (b1 : B.toInt < (rp_kset K).toInt) : ln_ t A B 8 ↔ ln_ t B A K := by
  rw [← ln_sym hK hs (A := A) (B := B)]
  unfold ln_
  rw [lg_8 hK a0 a1 b0 b1]
section FG
variable {s s1 : sg_S} {x1 x2 x3 : Int32} {ϖ : ep_} {C F G p k : Nat} {cnt : Nat → Nat} {σF σG : Int}
theorem eok_m {v : Nat → Int32} {c : Int32} (hϖ : eP_ ϖ) (hs : tsy_ ϖ.2.1) (hv : ewf_ ϖ p v) (hc : 0 ≤ c.toInt ∧ c.toInt < (rp_kset ϖ.1.1).toInt) : eok_ ϖ v c (p + 1) ↔ ((f7_ ϖ p → ln_ ϖ.2.1 (v 0) c 8) ∧ (f8_ ϖ p → ¬ ln_ ϖ.2.1 (v 1) c 8)) ∧ ∀ q, q < ϖ.1.2.2.1 → ¬ bkv_ ϖ (p + 1) v q (hb_ (rp_rl ϖ.1 q).2.1 c) := by
  have hK := hϖ.1.1
  obtain ⟨v1, v2, v3, v4, -⟩ := hv
  have m1 : (Int32.ofInt (-1)).toInt = -1 := rfl
  unfold eok_ br_
  constructor
  · intro h
    refine ⟨⟨fun z => ?_, fun z w => ?_⟩, fun q hq w => h q hq (Or.inl w)⟩
    · obtain ⟨z0, k, k1, k2⟩ := z
      have a := v2 z0
      rw [ln_8 hK hs a.1 a.2 hc.1 hc.2]
      exact Classical.byContradiction (fun n => h k k1 (Or.inr (Or.inl ⟨k2, by omega, n⟩)))
    · obtain ⟨z0, k, k1, k2⟩ := z
      have a := v4 z0
      rw [ln_8 hK hs a.1 a.2 hc.1 hc.2] at w
      exact h k k1 (Or.inr (Or.inr ⟨k2, by omega, w⟩))
  · rintro ⟨⟨h7, h8⟩, hb⟩ q hq (w | w | w)
    · exact hb q hq w
    · obtain ⟨w1, w2, w3⟩ := w
      have z0 : 0 < p := by
        rcases Nat.eq_zero_or_pos p with e | e
        · rw [v1 e] at w2; exact absurd m1 w2
        · exact e
      have a := v2 z0
      have := h7 ⟨z0, q, hq, w1⟩
      rw [ln_8 hK hs a.1 a.2 hc.1 hc.2] at this
      exact w3 this
    · obtain ⟨w1, w2, w3⟩ := w
      have z0 : 1 < p := by
        by_cases e : p ≤ 1
        · rw [v3 e] at w2; exact absurd m1 w2
        · omega
      have a := v4 z0
      refine h8 ⟨z0, q, hq, w1⟩ ?_
      rw [ln_8 hK hs a.1 a.2 hc.1 hc.2]
      exact w3
/-- what fill has done up to the state k -/
def xgI_ (ϖ : ep_) (C : Nat) (cnt : Nat → Nat) (F G p : Nat) (σF σG : Int) (s : sg_S) (k : Nat) (s1 : sg_S) : Prop := sg_fr mGe_ aG_ s s1 ∧ xlk_ ϖ.2.1 (ecn_ ϖ (p + 1)) (ecs_ ϖ (p + 1)) s1 ∧ hl_ F C cnt s1 σF (eLp ϖ p) ∧ hl_ G C cnt s1 σG (ecp ϖ p k 0) ∧ (∀ j, j < k → ∀ u, u < ecn_ ϖ (p + 1) → (s1.2.2.1 48 (16 * (400 * p + j) + u)).toInt = edp ϖ p j u) ∧ ∀ i, ¬ (16 * (400 * p) ≤ i ∧ i < 16 * (400 * p + 400)) → s1.2.2.1 48 i = s.2.2.1 48 i
def xgE_ (ϖ : ep_) (F G p : Nat) (σF σG : Int) (s s7 : sg_S) : Prop := sg_fr mGe_ aG_ s s7 ∧ (s7.1 G 2).toInt = 400 ∧ 400 < (eLp ϖ (p + 1)).1 ∧ hs_ F (F + 3) s7 σF ∧ hs_ G (G + 3) s7 σG
theorem xlk_.fr {t : Nat → Int32} {n : Nat} {cs : Nat → Int32} {mo : List (Nat × Nat)} {ao : List Nat} (h : xlk_ t n cs s) (f : sg_fr mo ao s s1) (h1 : (ao.contains 53) = false) : xlk_ t n cs s1 := by
  unfold xlk_
  rw [f.a h1]
  exact h
theorem xg_step (hϖ : eP_ ϖ) (hs : tsy_ ϖ.2.1) (hx : cx_ ϖ.1 C cnt) (h2w : two_ F G) (hw : xw_ ϖ C cnt F G p s) (hp : (p : Int) < ϖ.1.2.2.2.1) (hP : xp_ ϖ (p + 1) s) (hI : xgI_ ϖ C cnt F G p σF σG s k s1) (hk : k < (eLp ϖ p).1) (h1 : x1.toInt = (k : Int)) (h2 : x2.toInt = ((p + 1 : Nat) : Int)) (hm : ∀ t, t < ecn_ ϖ (p + 1) → (bt_ x3 t = true ↔ ((f7_ ϖ p → ln_ ϖ.2.1 ((eLp ϖ p).2 k 0) (ecs_ ϖ (p + 1) t) 8) ∧ (f8_ ϖ p → ¬ ln_ ϖ.2.1 ((eLp ϖ p).2 k 1) (ecs_ ϖ (p + 1) t) 8)))) :
    am_SpV 29 [.ref 54, .ref F, .int x1] s1 (fun s6 => am_SpI 18 [.ref 35, .int x1, .int x2, .int x3] s6 (fun x7 s7 => (x7.toInt = 0 → xgE_ ϖ F G p σF σG s s7) ∧ (¬ x7.toInt = 0 → xgI_ ϖ C cnt F G p σF σG s (k + 1) s7))) := by
  obtain ⟨f, il, iF, iG, i48, iel⟩ := hI
  have hw1 := hw.fr f (by decide) (by decide)
  have h400 := iF.size.2
  have hv := ewf_all hϖ p (by omega) k hk
  have hn16 : ecn_ ϖ (p + 1) ≤ 16 := ecn_16 hϖ
  have hP1 : xp_ ϖ (p + 1) s1 := by
    unfold xp_
    rw [f.i rfl, f.i rfl, f.i rfl]
    exact hP
  obtain ⟨a1, a2⟩ := iF.at hk
  refine (xo_state (k := k) (p := p) (v := (eLp ϖ p).2 k) h2w.l hϖ hw1.1.1 hx hw1.2.1 hp hP1 hv h1 a1 a2).mono (fun s6 h6 => ?_)
  obtain ⟨f6, hS6⟩ := h6
  have hw6 := hw1.fr f6 (by decide) (by decide)
  have f16 : sg_fr mGe_ aG_ s s6 := f.tr (f6.le (by decide) (by decide))
  refine (xf_from (σF := σF) (σG := σG) hϖ hx h2w hw6 hp hk hS6 h1 h2 (fun t ht => ?_) (iF.keep h2w.l f6 (by decide) (by decide)) (iG.keep h2w.r f6 (by decide) (by decide))).mono (fun x7 s7 h7 => ?_)
  · rw [hm t ht]
    exact eok_m hϖ hs hv (ecs_rng hϖ ht)
  · rcases h7 with ⟨n0, f7, jF, jG, j48, jel⟩ | ⟨y0, f7, g1, g2⟩
    · refine ⟨fun c => absurd c n0, fun _ => ⟨f16.tr (f7.le (by decide) (by decide)), (il.fr f6 rfl).fr f7 (by decide), jF, jG, fun j hj u hu => ?_, fun i hi => ?_⟩⟩
      · by_cases e : j = k
        · rw [e]; exact j48 u hu
        · rw [jel _ (by omega), f6.a rfl]
          exact i48 j (by omega) u hu
      · rw [jel i (by omega), f6.a rfl]
        exact iel i hi
    · exact ⟨fun _ => ⟨f16.tr (f7.le (by decide) (by decide)), g1, g2⟩, fun c => absurd y0 c⟩
/-- the sets that a state may ask for are among 256 -/
theorem as_at {v : Nat → Int32} (hϖ : eP_ ϖ) (hv : ewf_ ϖ p v) : (0 < p → Int32.ofInt (((as_ (v 0)).toNat : Nat) : Int) = v 0) ∧ (1 < p → Int32.ofInt (((as_ (v 1)).toNat : Nat) : Int) = v 1) := by
  obtain ⟨v1, v2, v3, v4, -⟩ := hv
  refine ⟨fun h => ?_, fun h => ?_⟩
  · have a := v2 h
    have e : as_ (v 0) = (v 0).toInt := if_neg (by omega)
    rw [e, Int.toNat_of_nonneg a.1, am_oio]
  · have a := v4 h
    have e : as_ (v 1) = (v 1).toInt := if_neg (by omega)
    rw [e, Int.toNat_of_nonneg a.1, am_oio]
def xfl_ (Q : Prop) (l : Int32) : Prop := (l.toInt = 0 ∧ ¬ Q) ∨ (¬ l.toInt = 0 ∧ Q)
theorem xg_fill (hϖ : eP_ ϖ) (hs : tsy_ ϖ.2.1) (hx : cx_ ϖ.1 C cnt) (h2w : two_ F G) (hw : xw_ ϖ C cnt F G p s) (hp : (p : Int) < ϖ.1.2.2.2.1) (hl : xlk_ ϖ.2.1 (ecn_ ϖ (p + 1)) (ecs_ ϖ (p + 1)) s) (h1 : x1.toInt = ((p + 1 : Nat) : Int)) (hF : hl_ F C cnt s σF (eLp ϖ p)) (hG : hs_ G (G + 3) s σG) (hσ : σG < 30000) :
    am_SpI 17 [.ref 35, .int x1] s (fun r s2 => ∃ s0 : sg_S, (sg_fr [(54, 3), (54, 4), (54, 5), (39, 2), (39, 4), (43, 2), (43, 4)] [] s s0 ∧ s0.1 F 4 = s.1 F 4) ∧ ((¬ r.toInt = 0 ∧ xgI_ ϖ C cnt F G p σF (σG + 1) s0 (eLp ϖ p).1 s2) ∨ (r.toInt = 0 ∧ xgE_ ϖ F G p σF (σG + 1) s0 s2))) := by
  have h12 := hϖ.1.2.2.1
  have hlen := hϖ.2.2.1
  have hn16 : ecn_ ϖ (p + 1) ≤ 16 := ecn_16 hϖ
  have h400 := hF.size.2
  have z0 : (Int32.ofInt 0).toInt = 0 := rfl
  have z1 : ¬ (Int32.ofInt 1).toInt = 0 := by decide
  have z11 : (Int32.ofInt 1).toInt = 1 := rfl
  -- where the loop begins
  have begin_ : ∀ (l2 l3 : Int32), xfl_ (f7_ ϖ p) l2 → xfl_ (f8_ ϖ p) l3 → am_SpV 96 [.ref (s.2.2.2.2 35 11)] s (fun s5 => am_SpV 28 [.ref 54, .int x1] s5 (fun s6 => xfl_ (f7_ ϖ p) l2 ∧ xfl_ (f8_ ϖ p) l3 ∧ ∃ s0 : sg_S, (sg_fr [(54, 3), (54, 4), (54, 5), (39, 2), (39, 4), (43, 2), (43, 4)] [] s s0 ∧ s0.1 F 4 = s.1 F 4) ∧ (xw_ ϖ C cnt F G p s0 ∧ xp_ ϖ (p + 1) s0) ∧ ∃ k : Nat, (Int32.ofInt 0).toInt = (k : Int) ∧ k ≤ (eLp ϖ p).1 ∧ xgI_ ϖ C cnt F G p σF (σG + 1) s0 k s6)) := by
    intro l2 l3 q2 q3
    rw [hw.2.2.2.2]
    refine (xs_clear h2w.r hG hσ).mono (fun s5 h5 => ?_)
    obtain ⟨f5, ht5⟩ := h5
    have f5' : sg_fr [(54, 3), (54, 4), (54, 5), (39, 2), (39, 4), (43, 2), (43, 4)] [] s s5 := by
      rcases h2w with ⟨-, rfl⟩ | ⟨-, rfl⟩
      · exact f5.le (by decide) (by decide)
      · exact f5.le (by decide) (by decide)
    have hF5 : hl_ F C cnt s5 σF (eLp ϖ p) := by
      rcases h2w with ⟨rfl, rfl⟩ | ⟨rfl, rfl⟩
      · exact hF.eq (f5.i rfl) (f5.i rfl) (f5.m rfl) (f5.m rfl) (f5.a rfl)
      · exact hF.eq (f5.i rfl) (f5.i rfl) (f5.m rfl) (f5.m rfl) (f5.a rfl)
    have e4 : s5.1 F 4 = s.1 F 4 := by
      rcases h2w with ⟨rfl, rfl⟩ | ⟨rfl, rfl⟩
      · exact f5.i rfl
      · exact f5.i rfl
    have hw5 := hw.fr f5' (by decide) (by decide)
    refine (xo_place (P := p + 1) hϖ hw5.1.1 h1 (by omega)).mono (fun s6 h6 => ?_)
    obtain ⟨f6, hP6⟩ := h6
    have f6' : sg_fr [(54, 3), (54, 4), (54, 5), (39, 2), (39, 4), (43, 2), (43, 4)] [] s s6 := f5'.tr (f6.le (by decide) (by decide))
    refine ⟨q2, q3, s6, ⟨f6', ?_⟩, ⟨hw5.fr f6 (by decide) (by decide), hP6⟩, 0, rfl, Nat.zero_le _, sg_fr.rf, hl.fr f6' rfl, hF5.keep h2w.l f6 (by decide) (by decide), ?_, fun j hj => absurd hj (Nat.not_lt_zero j), fun i _ => rfl⟩
    · rw [← e4]
      rcases h2w with ⟨rfl, rfl⟩ | ⟨rfl, rfl⟩
      · exact f6.i rfl
      · exact f6.i rfl
    · have hG5 : hl_ G C cnt s5 (σG + 1) (ecp ϖ p 0 0) := ⟨_, _, ht5, fun k hk => absurd hk (Nat.not_lt_zero k)⟩
      exact hG5.keep h2w.r f6 (by decide) (by decide)
  refine wp_XEnding_fill_ok (I64 := fun l2 l3 l4 s1 => xfl_ (f7_ ϖ p) l2 ∧ xfl_ (f8_ ϖ p) l3 ∧ ∃ s0 : sg_S, (sg_fr [(54, 3), (54, 4), (54, 5), (39, 2), (39, 4), (43, 2), (43, 4)] [] s s0 ∧ s0.1 F 4 = s.1 F 4) ∧ (xw_ ϖ C cnt F G p s0 ∧ xp_ ϖ (p + 1) s0) ∧ ∃ k : Nat, l4.toInt = (k : Int) ∧ k ≤ (eLp ϖ p).1 ∧ xgI_ ϖ C cnt F G p σF (σG + 1) s0 k s1) ?_ ?_
  · intro l2 l3 l4 s1 hI
    obtain ⟨q2, q3, s0, hs0, ⟨hw0, hP0⟩, k, h4, hkN, hI⟩ := hI
    have hI0 := hI
    obtain ⟨f, il, iF, iG, i48, iel⟩ := hI
    have hw1 := hw0.fr f (by decide) (by decide)
    obtain ⟨we, wz, wk, w10, w11⟩ := id hw1
    unfold wp_XEnding_fill_64
    rw [w10]
    refine ⟨h2w.l, ?_⟩
    rw [iF.size.1, h4]
    refine ⟨fun c => ?_, fun c => ?_⟩
    · have hk : k < (eLp ϖ p).1 := by omega
      have hv := ewf_all hϖ p (by omega) k hk
      have av := as_rng hϖ hv
      have at_ := as_at hϖ hv
      obtain ⟨a1, a2⟩ := iF.at hk
      have hC : C ≤ 12 := by have := hx.1; omega
      have nv := phn_rng hC (dv_rng hϖ (show (p : Int) ≤ ϖ.1.2.2.2.1 by omega) hx hv)
      have hinc : (l4 + Int32.ofInt 1).toInt = ((k + 1 : Nat) : Int) := by
        rw [i32_inc (c := 0) (by omega) (by omega), h4]
        rfl
      have low : ∀ t, t < ecn_ ϖ (p + 1) → bt_ ((Int32.ofInt 1 <<< (s1.1 50 4 &&& 31)) - Int32.ofInt 1) t = true := fun t ht => by
        rw [bt_low wk.1.1 hn16 (by omega)]
        exact decide_eq_true ht
      have go : ∀ (s5 : sg_S) (m : Int32), xgI_ ϖ C cnt F G p σF (σG + 1) s0 k s5 → (∀ t, t < ecn_ ϖ (p + 1) → (bt_ m t = true ↔ ((f7_ ϖ p → ln_ ϖ.2.1 ((eLp ϖ p).2 k 0) (ecs_ ϖ (p + 1) t) 8) ∧ (f8_ ϖ p → ¬ ln_ ϖ.2.1 ((eLp ϖ p).2 k 1) (ecs_ ϖ (p + 1) t) 8)))) → am_SpV 29 [.ref 54, .ref (s5.2.2.2.2 35 10), .int l4] s5 (fun s6 => am_SpI 18 [.ref 35, .int l4, .int x1, .int m] s6 (fun x7 s7 => (x7.toInt = 0 → (∃ s0 : sg_S, (sg_fr [(54, 3), (54, 4), (54, 5), (39, 2), (39, 4), (43, 2), (43, 4)] [] s s0 ∧ s0.1 F 4 = s.1 F 4) ∧ ((¬ (Int32.ofInt 0).toInt = 0 ∧ xgI_ ϖ C cnt F G p σF (σG + 1) s0 (eLp ϖ p).1 s7) ∨ ((Int32.ofInt 0).toInt = 0 ∧ xgE_ ϖ F G p σF (σG + 1) s0 s7)))) ∧ (¬ x7.toInt = 0 → (xfl_ (f7_ ϖ p) l2 ∧ xfl_ (f8_ ϖ p) l3 ∧ ∃ s0 : sg_S, (sg_fr [(54, 3), (54, 4), (54, 5), (39, 2), (39, 4), (43, 2), (43, 4)] [] s s0 ∧ s0.1 F 4 = s.1 F 4) ∧ (xw_ ϖ C cnt F G p s0 ∧ xp_ ϖ (p + 1) s0) ∧ ∃ k : Nat, (l4 + Int32.ofInt 1).toInt = (k : Int) ∧ k ≤ (eLp ϖ p).1 ∧ xgI_ ϖ C cnt F G p σF (σG + 1) s0 k s7)))) := by
        intro s5 m h5 hm
        rw [(hw0.fr h5.1 (by decide) (by decide)).2.2.2.1]
        refine (xg_step hϖ hs hx h2w hw0 hp hP0 h5 hk h4 h1 hm).mono (fun s6 h6 => ?_)
        refine am_SpI.mono h6 (fun x7 s7 h7 => ?_)
        exact ⟨fun c => ⟨s0, hs0, Or.inr ⟨rfl, h7.1 c⟩⟩, fun c => ⟨q2, q3, s0, hs0, ⟨hw0, hP0⟩, k + 1, hinc, by omega, h7.2 c⟩⟩
      -- links of a set
      have lnk : ∀ (s5 : sg_S) (x : Int32) (A : Int), xgI_ ϖ C cnt F G p σF (σG + 1) s0 k s5 → x.toInt = A → 0 ≤ A ∧ A < 256 → am_SpI 8 [.ref 50, .int x] s5 (fun r s6 => xgI_ ϖ C cnt F G p σF (σG + 1) s0 k s6 ∧ ∀ j, j < 32 → (bt_ r j = true ↔ j < ecn_ ϖ (p + 1) ∧ ln_ ϖ.2.1 (Int32.ofInt ((A.toNat : Nat) : Int)) (ecs_ ϖ (p + 1) j) 8)) := by
        intro s5 x A h5 hxA hA
        obtain ⟨f5, il5, iF5, iG5, i485, iel5⟩ := h5
        have hw5 := hw0.fr f5 (by decide) (by decide)
        refine (xc_linked (a := A.toNat) hϖ.2.2.2.1 hw5.1.2.1 hw5.2.2.1 il5 (by omega) (by omega)).mono (fun r s6 h6 => ?_)
        obtain ⟨f6, il6, b6⟩ := h6
        exact ⟨⟨f5.tr (f6.le (by decide) (by decide)), il6, iF5.keep h2w.l f6 (by decide) (by decide), iG5.keep h2w.r f6 (by decide) (by decide), fun j hj u hu => by rw [f6.a rfl]; exact i485 j hj u hu, fun i hi => by rw [f6.a rfl]; exact iel5 i hi⟩, b6⟩
      have ahd : ∀ (s5 : sg_S), xgI_ ϖ C cnt F G p σF (σG + 1) s0 k s5 → am_SpI 102 [.ref (s5.2.2.2.2 35 10), .int l4] s5 (fun r s6 => s6 = s5 ∧ r.toInt = as_ ((eLp ϖ p).2 k 1)) := by
        intro s5 h5
        rw [(hw0.fr h5.1 (by decide) (by decide)).2.2.2.1]
        obtain ⟨-, b2⟩ := h5.2.2.1.at hk
        refine (xs_ahead h2w.l h4 (by rw [b2]; unfold phi_; omega)).mono (fun r s6 h6 => ⟨h6.1, ?_⟩)
        rw [h6.2, b2]
        unfold phi_
        omega
      refine ⟨fun c2 => ⟨fun c3 => ?_, fun c3 => ?_⟩, fun c2 => ?_⟩
      · have n7 : ¬ f7_ ϖ p := by rcases q2 with q | q; exact q.2; exact absurd c2 q.1
        have n8 : ¬ f8_ ϖ p := by rcases q3 with q | q; exact q.2; exact absurd c3 q.1
        have := go s1 _ hI0 (fun t ht => ⟨fun _ => ⟨fun z => absurd z n7, fun z => absurd z n8⟩, fun _ => low t ht⟩)
        rw [w10] at this
        exact this
      · have n7 : ¬ f7_ ϖ p := by rcases q2 with q | q; exact q.2; exact absurd c2 q.1
        have n8 : f8_ ϖ p := by rcases q3 with q | q; exact absurd q.1 c3; exact q.2
        have ah := ahd s1 hI0
        rw [w10] at ah
        refine ah.mono (fun x27 s27 h27 => ?_)
        obtain ⟨e27, h27⟩ := h27
        subst e27
        refine (lnk s27 x27 _ hI0 h27 av.2).mono (fun x28 s28 h28 => ?_)
        refine go s28 _ h28.1 (fun t ht => ?_)
        rw [bt_and (by omega), bt_not (by omega), low t ht, Bool.true_and, Bool.not_eq_true', ← Bool.not_eq_true, h28.2 t (by omega), at_.2 n8.1]
        exact ⟨fun z => ⟨fun y => absurd y n7, fun _ y => z ⟨ht, y⟩⟩, fun z y => z.2 n8 y.2⟩
      · have n7 : f7_ ϖ p := by rcases q2 with q | q; exact absurd q.1 c2; exact q.2
        refine (xs_setOf h2w.l h4 (by rw [a2]; unfold phi_; omega)).mono (fun x31 s31 h31 => ?_)
        obtain ⟨e31, h31⟩ := h31
        subst e31
        have e6 : x31.toInt = as_ ((eLp ϖ p).2 k 0) := by
          rw [h31, a2]
          unfold phi_
          omega
        refine (lnk s31 x31 _ hI0 e6 av.1).mono (fun x32 s32 h32 => ?_)
        refine ⟨fun c3 => ?_, fun c3 => ?_⟩
        · have n8 : ¬ f8_ ϖ p := by rcases q3 with q | q; exact q.2; exact absurd c3 q.1
          refine go s32 _ h32.1 (fun t ht => ?_)
          rw [bt_and (by omega), low t ht, Bool.true_and, h32.2 t (by omega), at_.1 n7.1]
          exact ⟨fun z => ⟨fun _ => z.2, fun y => absurd y n8⟩, fun z => ⟨ht, z.1 n7⟩⟩
        · have n8 : f8_ ϖ p := by rcases q3 with q | q; exact absurd q.1 c3; exact q.2
          refine (ahd s32 h32.1).mono (fun x35 s35 h35 => ?_)
          obtain ⟨e35, h35⟩ := h35
          subst e35
          refine (lnk s35 x35 _ h32.1 h35 av.2).mono (fun x36 s36 h36 => ?_)
          refine go s36 _ h36.1 (fun t ht => ?_)
          rw [bt_and (by omega), bt_and (by omega), bt_not (by omega), low t ht, Bool.true_and, Bool.and_eq_true, Bool.not_eq_true', ← Bool.not_eq_true, h32.2 t (by omega), h36.2 t (by omega), at_.1 n7.1, at_.2 n8.1]
          exact ⟨fun z => ⟨fun _ => z.1.2, fun _ y => z.2 ⟨ht, y⟩⟩, fun z => ⟨⟨ht, z.1 n7⟩, fun y => z.2 n8 y.2⟩⟩
    · have : k = (eLp ϖ p).1 := by omega
      rw [this] at hI0
      exact ⟨s0, hs0, Or.inl ⟨z1, hI0⟩⟩
  · unfold wp_XEnding_fill
    have s7 : (Int32.ofInt 7).toInt = 7 := rfl
    have s8 : (Int32.ofInt 8).toInt = 8 := rfl
    have yes1 : ∀ {Q : Prop}, Q → xfl_ Q (Int32.ofInt 1) := fun h => Or.inr ⟨z1, h⟩
    have no0 : ∀ {Q : Prop}, ¬ Q → xfl_ Q (Int32.ofInt 0) := fun h => Or.inl ⟨z0, h⟩
    rw [h1]
    have has : ∀ {so : Int} {x : Int32}, x.toInt = so → am_SpI 79 [.ref 1, .int x] s (bo_ (∃ k, k < ϖ.1.2.2.1 ∧ (rp_rl ϖ.1 k).1.toInt = so) s) := fun e => xc_sort hw.1.1 h12 e
    refine ⟨fun c1 => (has s7).mono (fun x9 s9 h9 => ?_), fun c1 => ⟨fun c2 => absurd (show (1 : Int) < ((p + 1 : Nat) : Int) by omega) c1, fun c2 => begin_ _ _ (no0 (fun z => by have := z.1; omega)) (no0 (fun z => by have := z.1; omega))⟩⟩
    have hno := h9.no
    have hyes := h9.yes
    have e9 := h9.eq
    subst e9
    refine ⟨fun c9 => ⟨fun c2 => (has s8).mono (fun x12 s12 h12' => ?_), fun c2 => begin_ _ _ (no0 (fun z => hno c9 z.2)) (no0 (fun z => by have := z.1; omega))⟩, fun c9 => ⟨fun c2 => (has s8).mono (fun x12 s12 h12' => ?_), fun c2 => begin_ _ _ (yes1 ⟨by omega, hyes c9⟩) (no0 (fun z => by have := z.1; omega))⟩⟩
    · have hno2 := h12'.no
      have hyes2 := h12'.yes
      have e12 := h12'.eq
      subst e12
      exact ⟨fun c3 => begin_ _ _ (no0 (fun z => hno c9 z.2)) (no0 (fun z => hno2 c3 z.2)), fun c3 => begin_ _ _ (no0 (fun z => hno c9 z.2)) (yes1 ⟨by omega, hyes2 c3⟩)⟩
    · have hno2 := h12'.no
      have hyes2 := h12'.yes
      have e12 := h12'.eq
      subst e12
      exact ⟨fun c3 => begin_ _ _ (yes1 ⟨by omega, hyes c9⟩) (no0 (fun z => hno2 c3 z.2)), fun c3 => begin_ _ _ (yes1 ⟨by omega, hyes c9⟩) (yes1 ⟨by omega, hyes2 c3⟩)⟩
end FG
