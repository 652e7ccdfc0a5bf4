/-! ===== ends: X goes on from one state (fillFrom), from all of a layer (fill) ===== -/
theorem nar_s {x : Int32} (h1 : -32768 ≤ x.toInt) (h2 : x.toInt ≤ 32767) : vp_nar .short (x.toInt16.toInt32) = x := by
  have e : x.toInt16.toInt32 = x := ab_nsh h1 h2
  rw [e]
  exact ab_nsh h1 h2
theorem nar_b {x : Int32} (h1 : -128 ≤ x.toInt) (h2 : x.toInt ≤ 127) : vp_nar .byte (x.toInt8.toInt32) = x := by
  have e : x.toInt8.toInt32 = x := ab_nb h1 h2
  rw [e]
  exact ab_nb h1 h2
/-- the two tables -/
def two_ (F G : Nat) : Prop := (F = 39 ∧ G = 43) ∨ (F = 43 ∧ G = 39)
theorem two_.l {F G : Nat} (h : two_ F G) : F = 39 ∨ F = 43 := by rcases h with h | h; exact Or.inl h.1; exact Or.inr h.1
theorem two_.r {F G : Nat} (h : two_ F G) : G = 39 ∨ G = 43 := by rcases h with h | h; exact Or.inr h.2; exact Or.inl h.2
abbrev mT_ : List (Nat × Nat) := [(39, 2), (43, 2)]
abbrev aT_ : List Nat := [40, 41, 42, 44, 45, 46]
theorem two_.fr {F G : Nat} {s s2 : sg_S} (h : two_ F G) (f : sg_fr [(G, 2)] [G + 1, G + 2, G + 3] s s2) : sg_fr mT_ aT_ s s2 := by
  rcases h with ⟨-, rfl⟩ | ⟨-, rfl⟩
  · exact f.le (by decide) (by decide)
  · exact f.le (by decide) (by decide)
section TW
variable {s s2 : sg_S} {F G C : Nat} {cnt : Nat → Nat} {σ : Int} {L : el_}
theorem hl_.eq {F : Nat} (h : hl_ F C cnt s σ L) (h2 : s2.1 F 2 = s.1 F 2) (h4 : s2.1 F 4 = s.1 F 4) (a1 : s2.2.2.2.1 (F + 1) = s.2.2.2.1 (F + 1)) (a2 : s2.2.2.2.1 (F + 2) = s.2.2.2.1 (F + 2)) (a3 : s2.2.2.1 (F + 3) = s.2.2.1 (F + 3)) : hl_ F C cnt s2 σ L := by
  obtain ⟨lo, hi, ht, hv⟩ := h
  refine ⟨lo, hi, ?_, hv⟩
  unfold ht_ hs_
  rw [h2, h4, a1, a2, a3]
  exact ht
/-- the other table stands -/
theorem hl_.other (h : two_ F G) (f : sg_fr [(G, 2)] [G + 1, G + 2, G + 3] s s2) (hF : hl_ F C cnt s σ L) : hl_ F C cnt s2 σ L := by
  rcases h with ⟨rfl, rfl⟩ | ⟨rfl, rfl⟩
  · exact hF.eq (f.i rfl) (f.i rfl) (f.m rfl) (f.m rfl) (f.a rfl)
  · exact hF.eq (f.i rfl) (f.i rfl) (f.m rfl) (f.m rfl) (f.a rfl)
/-- neither changes -/
theorem hl_.keep {mo : List (Nat × Nat)} {ao : List Nat} (hF : F = 39 ∨ F = 43) (h : hl_ F C cnt s σ L) (f : sg_fr mo ao s s2) (h1 : ([(39, 2), (39, 4), (43, 2), (43, 4)].all (fun q => !mo.contains q)) = true) (h2 : ([40, 41, 42, 44, 45, 46].all (fun q => !ao.contains q)) = true) : hl_ F C cnt s2 σ L := by
  have fi : ∀ b j, (b, j) ∈ [(39, 2), (39, 4), (43, 2), (43, 4)] → s2.1 b j = s.1 b j := fun b j hm => f.i (by have := List.all_eq_true.mp h1 _ hm; simpa using this)
  have fa : ∀ b, b ∈ [40, 41, 42, 44, 45, 46] → s2.2.2.1 b = s.2.2.1 b := fun b hm => f.a (by have := List.all_eq_true.mp h2 _ hm; simpa using this)
  have fm : ∀ b, b ∈ [40, 41, 42, 44, 45, 46] → s2.2.2.2.1 b = s.2.2.2.1 b := fun b hm => f.m (by have := List.all_eq_true.mp h2 _ hm; simpa using this)
  rcases hF with rfl | rfl
  · exact h.eq (fi 39 2 (by decide)) (fi 39 4 (by decide)) (fm 40 (by decide)) (fm 41 (by decide)) (fa 42 (by decide))
  · exact h.eq (fi 43 2 (by decide)) (fi 43 4 (by decide)) (fm 44 (by decide)) (fm 45 (by decide)) (fa 46 (by decide))
theorem hl_.size (h : hl_ F C cnt s σ L) : (s.1 F 2).toInt = (L.1 : Int) ∧ L.1 ≤ 400 := by
  obtain ⟨lo, hi, ht, -⟩ := h
  exact ht.1
theorem hl_.hs (h : hl_ F C cnt s σ L) : hs_ F (F + 3) s σ := by
  obtain ⟨lo, hi, ht, -⟩ := h
  exact ht.2.1
/-- what the two longs of a state are -/
theorem hl_.at {k : Nat} (h : hl_ F C cnt s σ L) (hk : k < L.1) : (s.2.2.2.1 (F + 1) k).toInt = plo_ (dv_ cnt (L.2 k)) C ∧ (s.2.2.2.1 (F + 2) k).toInt = phi_ (dv_ cnt (L.2 k)) C (L.2 k 0) (L.2 k 1) := by
  obtain ⟨lo, hi, ht, hv⟩ := h
  obtain ⟨e1, e2⟩ := ht.2.2.2.2.2 k hk
  rw [e1, e2]
  exact hv k hk
end TW
/-- what stands while X goes on behind the place p -/
def xw_ (ϖ : ep_) (C : Nat) (cnt : Nat → Nat) (F G p : Nat) (s : sg_S) : Prop := xe_ ϖ s ∧ cz_ C cnt s ∧ xk_ ϖ (ecn_ ϖ (p + 1)) (ecs_ ϖ (p + 1)) s ∧ s.2.2.2.2 35 10 = F ∧ s.2.2.2.2 35 11 = G
theorem xw_.fr {ϖ : ep_} {C F G p : Nat} {cnt : Nat → Nat} {s s2 : sg_S} {mo : List (Nat × Nat)} {ao : List Nat} (h : xw_ ϖ C cnt F G p s) (f : sg_fr mo ao s s2) (h1 : ([(1, 0), (1, 1), (1, 2), (1, 3), (1, 4), (28, 2), (35, 3), (54, 2), (50, 4)].all (fun q => !mo.contains q)) = true) (h2 : ([4, 5, 6, 7, 23, 30, 33, 36, 55, 51, 52].all (fun q => !ao.contains q)) = true) : xw_ ϖ C cnt F G p s2 := by
  have fi : ∀ b j, (b, j) ∈ [(1, 0), (1, 1), (1, 2), (1, 3), (1, 4), (28, 2), (35, 3), (54, 2), (50, 4)] → s2.1 b j = s.1 b j := fun b j hm => f.i (by have := List.all_eq_true.mp h1 _ hm; simpa using this)
  have fa : ∀ b, b ∈ [4, 5, 6, 7, 23, 30, 33, 36, 55, 51, 52] → s2.2.2.1 b = s.2.2.1 b := fun b hm => f.a (by have := List.all_eq_true.mp h2 _ hm; simpa using this)
  obtain ⟨w1, w2, w3, w4, w5⟩ := h
  refine ⟨?_, ?_, ?_, ?_, ?_⟩
  · unfold xe_ rx_RU
    rw [fi 1 0 (by decide), fi 1 1 (by decide), fi 1 2 (by decide), fi 1 3 (by decide), fi 1 4 (by decide), fi 28 2 (by decide), fi 35 3 (by decide), fa 4 (by decide), fa 5 (by decide), fa 6 (by decide), fa 7 (by decide), fa 23 (by decide), fa 30 (by decide), fa 33 (by decide), fa 36 (by decide)]
    exact w1
  · unfold cz_
    rw [fi 54 2 (by decide), fa 55 (by decide)]
    exact w2
  · unfold xk_
    rw [fi 50 4 (by decide), fa 51 (by decide), fa 52 (by decide)]
    exact w3
  · rw [f.2.2]; exact w4
  · rw [f.2.2]; exact w5
theorem xtS_.fr {ϖ : ep_} {P C : Nat} {cnt : Nat → Nat} {v : Nat → Int32} {s s2 : sg_S} {mo : List (Nat × Nat)} {ao : List Nat} (h : xtS_ ϖ P C cnt v s) (f : sg_fr mo ao s s2) (h1 : ([(54, 6), (54, 7), (54, 8), (54, 9)].all (fun q => !mo.contains q)) = true) (h2 : ([56, 57].all (fun q => !ao.contains q)) = true) : xtS_ ϖ P C cnt v s2 := by
  have fi : ∀ b j, (b, j) ∈ [(54, 6), (54, 7), (54, 8), (54, 9)] → s2.1 b j = s.1 b j ∧ s2.2.1 b j = s.2.1 b j := fun b j hm => by
    have hc : (mo.contains (b, j)) = false := by have := List.all_eq_true.mp h1 _ hm; simpa using this
    exact ⟨f.i hc, f.l hc⟩
  have fm : ∀ b, b ∈ [56, 57] → s2.2.2.2.1 b = s.2.2.2.1 b := fun b hm => f.m (by have := List.all_eq_true.mp h2 _ hm; simpa using this)
  unfold xtS_
  rw [(fi 54 6 (by decide)).1, (fi 54 7 (by decide)).1, (fi 54 8 (by decide)).2, (fi 54 9 (by decide)).2, fm 56 (by decide), fm 57 (by decide)]
  exact h
section FF
variable {s : sg_S} {x1 x2 x3 : Int32} {ϖ : ep_} {C F G p k : Nat} {cnt : Nat → Nat} {σF σG : Int}
/-- what fillFrom has done up to the set t -/
def xfI_ (ϖ : ep_) (C : Nat) (cnt : Nat → Nat) (F G p k : Nat) (σF σG : Int) (s : sg_S) (t : Nat) (s1 : sg_S) : Prop := sg_fr mT_ (48 :: aT_) s s1 ∧ hl_ F C cnt s1 σF (eLp ϖ p) ∧ hl_ G C cnt s1 σG (ecp ϖ p k t) ∧ (∀ u, u < t → (s1.2.2.1 48 (16 * (400 * p + k) + u)).toInt = edp ϖ p k u) ∧ ∀ i, ¬ (16 * (400 * p + k) ≤ i ∧ i < 16 * (400 * p + k) + 16) → s1.2.2.1 48 i = s.2.2.1 48 i
theorem xf_from (hϖ : eP_ ϖ) (hx : cx_ ϖ.1 C cnt) (h2w : two_ F G) (hw : xw_ ϖ C cnt F G p s) (hp : (p : Int) < ϖ.1.2.2.2.1) (hk : k < (eLp ϖ p).1) (hS : xtS_ ϖ (p + 1) C cnt ((eLp ϖ p).2 k) s) (h1 : x1.toInt = (k : Int)) (h2 : x2.toInt = ((p + 1 : Nat) : Int)) (hm : ∀ t, t < ecn_ ϖ (p + 1) → (eok_ ϖ ((eLp ϖ p).2 k) (ecs_ ϖ (p + 1) t) (p + 1) ↔ bt_ x3 t = true ∧ ∀ q, q < ϖ.1.2.2.1 → ¬ bkv_ ϖ (p + 1) ((eLp ϖ p).2 k) q (hb_ (rp_rl ϖ.1 q).2.1 (ecs_ ϖ (p + 1) t)))) (hF : hl_ F C cnt s σF (eLp ϖ p)) (hG : hl_ G C cnt s σG (ecp ϖ p k 0)) :
    am_SpI 18 [.ref 35, .int x1, .int x2, .int x3] s (fun r s2 => (¬ r.toInt = 0 ∧ xfI_ ϖ C cnt F G p k σF σG s (ecn_ ϖ (p + 1)) s2) ∨ (r.toInt = 0 ∧ sg_fr mT_ (48 :: aT_) s s2 ∧ (s2.1 G 2).toInt = 400 ∧ 400 < (eLp ϖ (p + 1)).1 ∧ hs_ F (F + 3) s2 σF ∧ hs_ G (G + 3) s2 σG)) := by
  have h12 := hϖ.1.2.2.1
  have hl := hϖ.2.2.1
  have hn16 : ecn_ ϖ (p + 1) ≤ 16 := ecn_16 hϖ
  have h400 := hF.size.2
  have hv := ewf_all hϖ p (by omega) k hk
  have m1 : (Int32.ofInt (-1)).toInt = -1 := rfl
  have narm : vp_nar .short ((Int32.ofInt (-1)).toInt16.toInt32) = Int32.ofInt (-1) := nar_s (by rw [m1]; omega) (by rw [m1]; omega)
  have z1 : ¬ (Int32.ofInt 1).toInt = 0 := by decide
  refine wp_XEnding_fillFrom_ok (I12 := fun l4 l5 s1 => l4.toInt = ((16 * (400 * p + k) : Nat) : Int) ∧ ∃ t : Nat, l5.toInt = (t : Int) ∧ t ≤ ecn_ ϖ (p + 1) ∧ xfI_ ϖ C cnt F G p k σF σG s t s1) ?_ ?_
  · intro l4 l5 s1 hI
    obtain ⟨hl4, t, ht, htn, f, iF, iG, i48, iel⟩ := hI
    have hw1 := hw.fr f (by decide) (by decide)
    have hS1 := hS.fr f (by decide) (by decide)
    obtain ⟨we, wz, ⟨⟨wk1, wk2⟩, wk3⟩, w10, w11⟩ := id hw1
    have hinc : (l5 + Int32.ofInt 1).toInt = ((t + 1 : Nat) : Int) := by
      rw [i32_inc (c := 0) (by omega) (by omega), ht]
      rfl
    have hix : (l4 + l5).toInt = ((16 * (400 * p + k) + t : Nat) : Int) := by
      rw [i32_add (by omega) (by omega), hl4, ht]
      omega
    -- a number is noted, the layer goes on
    have note : ∀ (s9 : sg_S) (x : Int32), t < ecn_ ϖ (p + 1) → sg_fr mT_ (48 :: aT_) s s9 → hl_ F C cnt s9 σF (eLp ϖ p) → hl_ G C cnt s9 σG (ecp ϖ p k (t + 1)) → s9.2.2.1 48 = s1.2.2.1 48 → x.toInt = edp ϖ p k t → (l4.toInt = ((16 * (400 * p + k) : Nat) : Int) ∧ ∃ v : Nat, (l5 + Int32.ofInt 1).toInt = (v : Int) ∧ v ≤ ecn_ ϖ (p + 1) ∧ xfI_ ϖ C cnt F G p k σF σG s v (sg_uA s9 48 (16 * (400 * p + k) + t) x)) := by
      intro s9 x htn2 f9 hF9 hG9 e48 hx9
      have f48 : sg_fr [] [48] s9 (sg_uA s9 48 (16 * (400 * p + k) + t) x) := sg_fr.rf.uA rfl
      refine ⟨hl4, t + 1, hinc, by omega, f9.uA rfl, hF9.keep h2w.l f48 (by decide) (by decide), hG9.keep h2w.r f48 (by decide) (by decide), fun u hu => ?_, fun i hi => ?_⟩
      · by_cases e : u = t
        · rw [e, sg_A1]; exact hx9
        · rw [sg_A2 (fun z => e (by omega)), e48]
          exact i48 u (by omega)
      · rw [sg_A2 (fun z => hi (by omega)), e48]
        exact iel i hi
    unfold wp_XEnding_fillFrom_12
    rw [wk1, ht, hix, Int.toNat_natCast, Int.toNat_natCast]
    refine ⟨fun c => ?_, fun c => ?_⟩
    · have htn2 : t < ecn_ ϖ (p + 1) := by omega
      obtain ⟨k51, k52⟩ := wk3 t htn2
      have no : ¬ eok_ ϖ ((eLp ϖ p).2 k) (ecs_ ϖ (p + 1) t) (p + 1) → ecp ϖ p k (t + 1) = ecp ϖ p k t ∧ edp ϖ p k t = -1 := fun h => by
        exact ⟨ec_succ.trans (congrArg Prod.fst (es_no h)), congrArg Prod.snd (es_no h)⟩
      have hbit : ((x3 >>> (l5 &&& 31)) &&& Int32.ofInt 1).toInt = 0 ↔ bt_ x3 t = false := bt_at ht
      refine ⟨fun c2 => ⟨fun q => absurd q (by decide), fun _ _ _ => ?_⟩, fun c2 _ _ => ?_⟩
      · have h := no (fun z => by
          have := ((hm t htn2).mp z).1
          rw [hbit.mp c2] at this
          cases this)
        rw [narm]
        exact note s1 _ htn2 f iF (by rw [h.1]; exact iG) rfl (by rw [h.2]; rfl)
      · have hb : bt_ x3 t = true := by
          rw [← Bool.not_eq_false]
          exact fun y => c2 (hbit.mpr y)
        refine (xo_allows h12 k52 hS1).mono (fun x5 s5 h5 => ?_)
        have hno := h5.no
        have hyes := h5.yes
        have q5 := h5.eq
        subst q5
        refine ⟨fun c5 => ⟨fun q => absurd q (by decide), fun _ _ _ => ?_⟩, fun c5 _ _ => ?_⟩
        · have h := no (fun z => hno c5 ((hm t htn2).mp z).2)
          rw [narm]
          exact note s5 _ htn2 f iF (by rw [h.1]; exact iG) rfl (by rw [h.2]; rfl)
        · have hok : eok_ ϖ ((eLp ϖ p).2 k) (ecs_ ϖ (p + 1) t) (p + 1) := (hm t htn2).mpr ⟨hb, hyes c5⟩
          rw [w10, w11, k51]
          obtain ⟨-, a2⟩ := iF.at hk
          have hc := ecs_rng hϖ htn2
          have av := as_rng hϖ hv
          have hC : C ≤ 12 := by have := hx.1; omega
          have nv := phn_rng hC (dv_rng hϖ (show (p : Int) ≤ ϖ.1.2.2.2.1 by omega) hx hv)
          refine (xs_setOf h2w.l h1 (by rw [a2]; unfold phi_; omega)).mono (fun x6 s6 h6 => ?_)
          obtain ⟨q6, h6⟩ := h6
          subst q6
          have e6 : x6.toInt = as_ ((eLp ϖ p).2 k 0) := by
            rw [h6, a2]
            unfold phi_
            omega
          refine (xo_layNext (p := p) (L := ecp ϖ p k t) (v := (eLp ϖ p).2 k) (c := ecs_ ϖ (p + 1) t) h2w.r hϖ hx wz hp hv hc hS1 k52 rfl e6 iG (ewf_ec hϖ hp hk (by omega)) (ec_eu k t)).mono (fun x7 s7 h7 => ?_)
          obtain ⟨g1, g2⟩ := h7
          by_cases cf : ef_ (ecp ϖ p k t) (enx_ ϖ ((eLp ϖ p).2 k) (ecs_ ϖ (p + 1) t)) < (ecp ϖ p k t).1
          · obtain ⟨r7, q7⟩ := g1 cf
            subst q7
            have e1 : ecp ϖ p k (t + 1) = ecp ϖ p k t := ec_succ.trans (congrArg Prod.fst (es_old hok cf))
            have e2 : edp ϖ p k t = (ef_ (ecp ϖ p k t) (enx_ ϖ ((eLp ϖ p).2 k) (ecs_ ϖ (p + 1) t)) : Int) := congrArg Prod.snd (es_old hok cf)
            have h4 := iG.size.2
            refine ⟨fun q => by omega, fun _ _ _ => ?_⟩
            rw [nar_s (by omega) (by omega)]
            exact note s7 _ htn2 f iF (by rw [e1]; exact iG) rfl (by rw [e2]; exact r7)
          · obtain ⟨g3, g4⟩ := g2 cf
            have e1 : ecp ϖ p k (t + 1) = ea_ (ecp ϖ p k t) (enx_ ϖ ((eLp ϖ p).2 k) (ecs_ ϖ (p + 1) t)) := ec_succ.trans (congrArg Prod.fst (es_new hok cf))
            have e2 : edp ϖ p k t = ((ecp ϖ p k t).1 : Int) := congrArg Prod.snd (es_new hok cf)
            have h4 := iG.size.2
            by_cases c400 : (ecp ϖ p k t).1 = 400
            · obtain ⟨r7, q7⟩ := g3 c400
              subst q7
              refine ⟨fun _ => Or.inr ⟨rfl, f, by rw [iG.size.1, c400]; rfl, ?_, iF.hs, iG.hs⟩, fun q => absurd r7 q⟩
              have := (ec_eg (ok := eok_ ϖ) (nxt := enx_ ϖ) (cn := ecn_ ϖ) (cs := ecs_ ϖ) (v0 := ev0_ ϖ) (p := p) (k := k) (t := t + 1) hk (by omega)).1
              have e3 : (ecp ϖ p k (t + 1)).1 = 401 := by rw [e1]; show (ecp ϖ p k t).1 + 1 = 401; omega
              have this : (ecp ϖ p k (t + 1)).1 ≤ (eLp ϖ (p + 1)).1 := this
              omega
            · obtain ⟨r7, f7, hG7⟩ := g4 (by omega)
              refine ⟨fun q => by omega, fun _ _ _ => ?_⟩
              rw [nar_s (by omega) (by omega)]
              have f7' := h2w.fr f7
              exact note s7 _ htn2 (f.tr (f7'.le (by decide) (by decide))) (hl_.other h2w f7 iF) (by rw [e1]; exact hG7) (f7'.a rfl) (by rw [e2]; exact r7)
    · have : t = ecn_ ϖ (p + 1) := by omega
      subst this
      exact Or.inl ⟨z1, f, iF, iG, i48, iel⟩
  · unfold wp_XEnding_fillFrom
    have e1 : (Int32.ofInt 1).toInt = 1 := rfl
    have hx2 : (x2 - Int32.ofInt 1).toInt = (p : Int) := by rw [i32_sub (by omega) (by omega), h2, e1]; omega
    refine (xe_row hx2 h1 (by omega) (by omega)).mono (fun x4 s4 h4 => ?_)
    obtain ⟨q4, h4⟩ := h4
    subst q4
    exact ⟨h4, 0, rfl, Nat.zero_le _, sg_fr.rf, hF, hG, fun u hu => absurd hu (Nat.not_lt_zero u), fun i _ => rfl⟩
end FF
