/-! ===== ends of X ===== -/
section SO
variable {s : sg_S} {ϖ : ep_} {len : Nat} {β σ1 σ2 : Int}
theorem xe_forget : am_SpV 11 [.ref 35] s (fun s2 => sg_fr [(35, 4)] [37, 38] s s2 ∧ ∀ i, i < 49 → s2.2.2.1 37 i = Int32.ofInt (-1) ∧ s2.2.2.1 38 i = Int32.ofInt (-1)) := by
  refine wp_XEnding_forget_ok ?_
  unfold wp_XEnding_forget
  have f0 : sg_fr [(35, 4)] [37, 38] s (sg_uI s 35 4 (Int32.ofInt 0)) := sg_fr.rf.uI rfl
  refine rx_fill37.mono (fun s1 h1 => ?_)
  obtain ⟨f1, h1⟩ := h1
  refine rx_fill38.mono (fun s2 h2 => ?_)
  obtain ⟨f2, h2⟩ := h2
  exact ⟨(f0.tr (f1.le (by decide) (by decide))).tr (f2.le (by decide) (by decide)), fun i hi => ⟨by rw [f2.a rfl]; exact h1 i hi, h2 i hi⟩⟩
theorem hs_.keep {s2 : sg_S} {F : Nat} {σ : Int} {mo : List (Nat × Nat)} {ao : List Nat} (hF : F = 39 ∨ F = 43) (h : hs_ F (F + 3) s σ) (f : sg_fr mo ao s s2) (h1 : ([(39, 4), (43, 4)].all (fun q => !mo.contains q)) = true) (h2 : ([42, 46].all (fun q => !ao.contains q)) = true) : hs_ F (F + 3) s2 σ := by
  have fi : ∀ b j, (b, j) ∈ [(39, 4), (43, 4)] → s2.1 b j = s.1 b j := fun b j hm => f.i (by have := List.all_eq_true.mp h1 _ hm; simpa using this)
  have fa : ∀ b, b ∈ [42, 46] → s2.2.2.1 b = s.2.2.1 b := fun b hm => f.a (by have := List.all_eq_true.mp h2 _ hm; simpa using this)
  rcases hF with rfl | rfl
  · unfold hs_
    rw [fi 39 4 (by decide), fa 42 (by decide)]
    exact h
  · unfold hs_
    rw [fi 43 4 (by decide), fa 46 (by decide)]
    exact h
theorem eSq_rng {p : Nat} (h : ∀ q, q ≤ p → (eLp ϖ q).1 ≤ 400) : 0 ≤ eSp ϖ (p + 1) ∧ eSp ϖ (p + 1) ≤ 400 * ((p : Int) + 1) := by
  have key : ∀ n, n ≤ p + 1 → 0 ≤ eSp ϖ n ∧ eSp ϖ n ≤ 400 * (n : Int) := by
    intro n
    induction n with
    | zero => intro _; exact ⟨Int.le_refl 0, Int.le_refl 0⟩
    | succ n ih =>
      intro hn
      have a := ih (by omega)
      have b := h n (by omega)
      show 0 ≤ eSp ϖ n + ((eLp ϖ n).1 : Int) ∧ eSp ϖ n + ((eLp ϖ n).1 : Int) ≤ 400 * ((n + 1 : Nat) : Int)
      omega
  have := key (p + 1) (Nat.le_refl _)
  omega
def m1s_ (s : sg_S) : Prop := ∀ i, i < 49 → s.2.2.1 37 i = Int32.ofInt (-1) ∧ s.2.2.1 38 i = Int32.ofInt (-1)
/-- where solve stands behind the place p -/
def xJ_ (ϖ : ep_) (β : Int) (p : Nat) (s1 : sg_S) : Prop := xe_ ϖ s1 ∧ gI_ ϖ s1 ∧ m1s_ s1 ∧ xN_ ϖ p s1 ∧ (s1.1 35 4).toInt = eSp ϖ (p + 1) ∧ ∃ (F G C : Nat) (cnt : Nat → Nat) (σF σG : Int), two_ F G ∧ cx_ ϖ.1 C cnt ∧ cz_ C cnt s1 ∧ (s1.2.2.2.2 35 10 = F ∧ s1.2.2.2.2 35 11 = G) ∧ hl_ F C cnt s1 σF (eLp ϖ p) ∧ hs_ G (G + 3) s1 σG ∧ (σF ≤ β + (p : Int) + 1 ∧ σG ≤ β + (p : Int) + 1)
/-- what an end has found -/
def xR_ (ϖ : ep_) (len : Nat) (s : sg_S) : Prop := (∃ (kk tt : Nat → Nat) (a0 : Nat → Int32), ewq_ (ecn_ ϖ) (edp ϖ) len len kk tt ∧ (∀ i, i < 49 → a0 i = Int32.ofInt (-1)) ∧ wX_ ϖ len len a0 (s.2.2.1 37) tt) ∧ ∃ a0 : Nat → Int32, (∀ i, i < 49 → a0 i = Int32.ofInt (-1)) ∧ cX_ ϖ len 0 a0 (s.2.2.1 38)
/-- both tables' stamps, and the two references -/
def xst_ (β : Int) (s : sg_S) : Prop := two_ (s.2.2.2.2 35 10) (s.2.2.2.2 35 11) ∧ ∃ σ1 σ2 : Int, hs_ 39 42 s σ1 ∧ hs_ 43 46 s σ2 ∧ σ1 ≤ β ∧ σ2 ≤ β
def xO_ (ϖ : ep_) (len : Nat) (β : Int) (r : Int32) (s2 : sg_S) : Prop := eo_ (fun q => (eLp ϖ q).1) (eSp ϖ) len r.toInt (s2.1 35 4).toInt ∧ xst_ (β + 49) s2 ∧ (¬ r.toInt = 1 → m1s_ s2) ∧ (r.toInt = 1 → xR_ ϖ len s2)
theorem xst_.of {F G : Nat} {σF σG : Int} (h : two_ F G) (r : s.2.2.2.2 35 10 = F ∧ s.2.2.2.2 35 11 = G) (hF : hs_ F (F + 3) s σF) (hG : hs_ G (G + 3) s σG) (bF : σF ≤ β) (bG : σG ≤ β) : xst_ β s := by
  refine ⟨by rw [r.1, r.2]; exact h, ?_⟩
  rcases h with ⟨rfl, rfl⟩ | ⟨rfl, rfl⟩
  · exact ⟨σF, σG, hF, hG, bF, bG⟩
  · exact ⟨σG, σF, hG, hF, bG, bF⟩
theorem xst_.to {F G : Nat} (h : xst_ β s) (r : s.2.2.2.2 35 10 = F ∧ s.2.2.2.2 35 11 = G) : two_ F G ∧ ∃ σF σG : Int, hs_ F (F + 3) s σF ∧ hs_ G (G + 3) s σG ∧ σF ≤ β ∧ σG ≤ β := by
  obtain ⟨h2, a, b, h39, h43, ba, bb⟩ := h
  rw [r.1, r.2] at h2
  refine ⟨h2, ?_⟩
  rcases h2 with ⟨rfl, rfl⟩ | ⟨rfl, rfl⟩
  · exact ⟨a, b, h39, h43, ba, bb⟩
  · exact ⟨b, a, h43, h39, bb, ba⟩
theorem xe_solve (hϖ : eP_ ϖ) (hsy : tsy_ ϖ.2.1) (he : xe_ ϖ s) (hlen : ϖ.1.2.2.2.1 = (len : Int)) (hst : xst_ β s) (hβ : β + 49 ≤ 30000) : am_SpI 13 [.ref 35] s (fun r s2 => xO_ ϖ len β r s2) := by
  have hl := hϖ.2.2.1
  have z1 : (Int32.ofInt 1).toInt = 1 := rfl
  have z0 : (Int32.ofInt 0).toInt = 0 := rfl
  have z4 : (Int32.ofInt (-4)).toInt = -4 := rfl
  refine wp_XEnding_solve_ok (I15 := fun l s1 => ∃ p : Nat, l.toInt = ((p + 1 : Nat) : Int) ∧ p ≤ len ∧ xJ_ ϖ β p s1) ?_ ?_
  · intro l s1 hI
    obtain ⟨p, hp1, hpl, he1, hg, hm1, hN, h4, F, G, C, cnt, σF, σG, h2w, hx, hz, hr, hF, hG, bF, bG⟩ := hI
    have h13 : (s1.1 1 3).toInt = (len : Int) := by rw [he1.1.2.2.2.1, hlen]
    have hsr := eSq_rng (ϖ := ϖ) (p := p) (fun q hq => (hN.1 q hq).2)
    unfold wp_XEnding_solve_15
    rw [h13, hp1, hr.1]
    refine ⟨fun c => ⟨h2w.l, ?_⟩, fun c => ?_⟩
    · obtain rfl : p = len := by omega
      rw [hF.size.1]
      have hst1 : xst_ (β + 49) s1 := xst_.of h2w hr hF.hs hG (by omega) (by omega)
      refine ⟨fun c1 => ⟨Or.inr ⟨fun q hq => (hN.1 q hq).2, h4, Or.inl ⟨show (eLp ϖ p).1 = 0 by omega, rfl⟩⟩, hst1, fun _ => hm1, fun q => absurd q (by decide)⟩, fun c1 => ?_⟩
      refine (xe_back hϖ he1 hlen hN).mono (fun s4 g4 => ?_)
      obtain ⟨f4, hb4, hc4⟩ := g4
      have he4 := he1.fr f4 (by decide) (by decide)
      have hN4 : xN_ ϖ p s4 := by
        unfold xN_
        rw [f4.a rfl, f4.a rfl]
        exact hN
      refine (xe_walk hϖ he4 hlen hN4 hb4 (by omega)).mono (fun s5 g5 => ?_)
      obtain ⟨f5, kk, tt, hw, hwx⟩ := g5
      have f45 : sg_fr [] [37, 38, 49] s1 s5 := (f4.le (by decide) (by decide) : sg_fr [] [37, 38, 49] s1 s4).tr (f5.le (by decide) (by decide))
      refine ⟨Or.inr ⟨fun q hq => (hN.1 q hq).2, by rw [f45.i rfl]; exact h4, Or.inr ⟨show 0 < (eLp ϖ p).1 by omega, rfl⟩⟩, ?_, fun q => absurd z1 q, fun _ => ⟨⟨kk, tt, s4.2.2.1 37, hw, fun i hi => by rw [f4.a rfl]; exact (hm1 i hi).1, hwx⟩, s1.2.2.1 38, fun i hi => (hm1 i hi).2, by rw [f5.a rfl]; exact hc4⟩⟩
      exact xst_.of h2w (by rw [f45.2.2]; exact hr) (hF.hs.keep h2w.l f45 (by decide) (by decide)) (hG.keep h2w.r f45 (by decide) (by decide)) (by omega) (by omega)
    · have hpl2 : p < len := by omega
      have hpi : (p : Int) < ϖ.1.2.2.2.1 := by omega
      refine (xe_gather hϖ he1 hg hpi hp1).mono (fun s6 g6 => ?_)
      obtain ⟨f6, hk6, hlk6, h86⟩ := g6
      have hr6 : s6.2.2.2.2 35 10 = F ∧ s6.2.2.2.2 35 11 = G := by rw [f6.2.2]; exact hr
      have hw6 : xw_ ϖ C cnt F G p s6 := ⟨he1.fr f6 (by decide) (by decide), by unfold cz_; rw [f6.i rfl, f6.a rfl]; exact hz, hk6, hr6.1, hr6.2⟩
      refine (xg_fill (σF := σF) (σG := σG) hϖ hsy hx h2w hw6 hpi hlk6 hp1 (hF.keep h2w.l f6 (by decide) (by decide)) (hG.keep h2w.r f6 (by decide) (by decide)) (by omega)).mono (fun x7 s7 g7 => ?_)
      obtain ⟨s0, ⟨f0, -⟩, g7⟩ := g7
      refine ⟨fun c7 => ?_, fun c7 => ?_⟩
      · rcases g7 with ⟨g, -⟩ | ⟨-, f7, g400, gN, gF, gG⟩
        · exact absurd c7 g
        · have hr7 : s7.2.2.2.2 35 10 = F ∧ s7.2.2.2.2 35 11 = G := by rw [f7.2.2, f0.2.2]; exact hr6
          rw [hr7.2]
          refine ⟨h2w.r, ?_⟩
          have e4 : (s7.1 35 4).toInt = eSp ϖ (p + 1) := by rw [f7.i rfl, f0.i rfl, f6.i rfl]; exact h4
          have e5 : (s7.1 35 4 + (s7.1 G 2 + Int32.ofInt 1)).toInt = eSp ϖ (p + 1) + 401 := by
            have e6 : (s7.1 G 2 + Int32.ofInt 1).toInt = 401 := by rw [i32_add (by omega) (by omega), g400, z1]; rfl
            rw [i32_add (by omega) (by omega), e4, e6]
          have f9 : sg_fr [(35, 4)] [] s7 (sg_uI s7 35 4 (s7.1 35 4 + (s7.1 G 2 + Int32.ofInt 1))) := sg_fr.rf.uI rfl
          refine ⟨Or.inl ⟨p + 1, by omega, by omega, fun q hq => (hN.1 q (by omega)).2, gN, rfl, e5⟩, ?_, fun _ i hi => ?_, fun q => absurd q (by decide)⟩
          · exact xst_.of h2w (by rw [f9.2.2]; exact hr7) (gF.keep h2w.l f9 (by decide) (by decide)) (gG.keep h2w.r f9 (by decide) (by decide)) (by omega) (by omega)
          · show s7.2.2.1 37 i = _ ∧ s7.2.2.1 38 i = _
            rw [f7.a rfl, f7.a rfl, f0.a rfl, f0.a rfl, f6.a rfl, f6.a rfl]
            exact hm1 i hi
      · rcases g7 with ⟨-, f7, il, iF, iG, i48, iel⟩ | ⟨g, -⟩
        · have hr7 : s7.2.2.2.2 35 10 = F ∧ s7.2.2.2.2 35 11 = G := by rw [f7.2.2, f0.2.2]; exact hr6
          have eall : ecp ϖ p (eLp ϖ p).1 0 = eLp ϖ (p + 1) := ec_all
          rw [eall] at iG
          have hsz := iG.size
          have hpN : l.toInt.toNat = p + 1 := by omega
          rw [hr7.2, hr7.1]
          simp only [Int.toNat_natCast]
          refine ⟨h2w.r, h2w.r, fun _ _ => ⟨p + 1, ?_, by omega, ?_⟩⟩
          · rw [i32_inc (c := 0) (by omega) (by omega), hp1]
            rfl
          · have e4 : (s7.1 35 4).toInt = eSp ϖ (p + 1) := by rw [f7.i rfl, f0.i rfl, f6.i rfl]; exact h4
            have hw7 : xw_ ϖ C cnt F G p s7 := (hw6.fr f0 (by decide) (by decide)).fr f7 (by decide) (by decide)
            -- but for the two references it is this
            have f9 : sg_fr [(35, 4)] [47] s7 (sg_uA (sg_uI s7 35 4 (s7.1 35 4 + s7.1 G 2)) 47 (p + 1) ((sg_uI s7 35 4 (s7.1 35 4 + s7.1 G 2)).1 G 2)) := (sg_fr.rf.uI rfl).uA rfl
            have v47 : (sg_uA (sg_uI s7 35 4 (s7.1 35 4 + s7.1 G 2)) 47 (p + 1) ((sg_uI s7 35 4 (s7.1 35 4 + s7.1 G 2)).1 G 2)).2.2.1 47 (p + 1) = (sg_uI s7 35 4 (s7.1 35 4 + s7.1 G 2)).1 G 2 := sg_A1
            have w47 : ∀ q, ¬ q = p + 1 → (sg_uA (sg_uI s7 35 4 (s7.1 35 4 + s7.1 G 2)) 47 (p + 1) ((sg_uI s7 35 4 (s7.1 35 4 + s7.1 G 2)).1 G 2)).2.2.1 47 q = s7.2.2.1 47 q := fun q hq => sg_A2 (fun z => hq z.2)
            have v4 : (sg_uA (sg_uI s7 35 4 (s7.1 35 4 + s7.1 G 2)) 47 (p + 1) ((sg_uI s7 35 4 (s7.1 35 4 + s7.1 G 2)).1 G 2)).1 35 4 = s7.1 35 4 + s7.1 G 2 := rfl
            have vG : (sg_uI s7 35 4 (s7.1 35 4 + s7.1 G 2)).1 G 2 = s7.1 G 2 := by
              rcases h2w with ⟨-, rfl⟩ | ⟨-, rfl⟩
              · rfl
              · rfl
            replace v47 := v47.trans vG
            generalize sg_uA (sg_uI s7 35 4 (s7.1 35 4 + s7.1 G 2)) 47 (p + 1) ((sg_uI s7 35 4 (s7.1 35 4 + s7.1 G 2)).1 G 2) = s9 at f9 v47 w47 v4 ⊢
            have hw9 := hw7.fr f9 (by decide) (by decide)
            have h89 : (s9.1 35 8).toInt = 0 ∨ ¬ fd_ ϖ p := by rw [f9.i rfl, f7.i rfl, f0.i rfl]; exact h86
            have hL9 : hl_ G C cnt s9 (σG + 1) (eLp ϖ (p + 1)) := iG.keep h2w.r f9 (by decide) (by decide)
            have hF9 : hs_ F (F + 3) s9 σF := (iF.keep h2w.l f9 (by decide) (by decide)).hs
            refine ⟨hw9.1, ?_, fun i hi => ?_, ⟨fun q hq => ?_, fun q hq j hj u hu => ?_⟩, ?_, G, F, C, cnt, σG + 1, σF, ?_, hx, hw9.2.1, ⟨?_, ?_⟩, hL9, hF9, by omega, by omega⟩
            · rcases h89 with z | z
              · exact Or.inl z
              · have n1 := ecn_n (ϖ := ϖ) (P := p + 1) z
                have c1 : ∀ t, ecs_ ϖ (p + 1) t = ϖ.2.2.2.2.2.1 t := fun t => ecs_n z
                have k9 := hw9.2.2.1
                have l9 := il.fr f9 rfl
                rw [n1] at k9 l9
                exact Or.inr ⟨k9.cg (fun t _ => c1 t), l9.cg (fun t _ => c1 t)⟩
            · show s9.2.2.1 37 i = _ ∧ s9.2.2.1 38 i = _
              rw [f9.a rfl, f9.a rfl, f7.a rfl, f7.a rfl, f0.a rfl, f0.a rfl, f6.a rfl, f6.a rfl]
              exact hm1 i hi
            · show (s9.2.2.1 47 q).toInt = _ ∧ _
              by_cases e : q = p + 1
              · subst e
                rw [v47]
                exact hsz
              · rw [w47 q e, f7.a rfl, f0.a rfl, f6.a rfl]
                exact hN.1 q (by omega)
            · show (s9.2.2.1 48 (16 * (400 * q + j) + u)).toInt = _
              rw [f9.a rfl]
              by_cases e : q = p
              · subst e
                exact i48 j hj u hu
              · have hj4 := (hN.1 q (by omega)).2
                have h16 : ecn_ ϖ (q + 1) ≤ 16 := ecn_16 hϖ
                rw [iel _ (by omega), f0.a rfl, f6.a rfl]
                exact hN.2 q (by omega) j hj u hu
            · show (s9.1 35 4).toInt = eSp ϖ (p + 1) + ((eLp ϖ (p + 1)).1 : Int)
              rw [v4, i32_add (by omega) (by omega), e4, hsz.1]
            · rcases h2w with h | h
              · exact Or.inr ⟨h.2, h.1⟩
              · exact Or.inl ⟨h.2, h.1⟩
            · show (if (35 : Nat) = 35 ∧ (10 : Nat) = 11 then F else if (35 : Nat) = 35 ∧ (10 : Nat) = 10 then G else s9.2.2.2.2 35 10) = G
              rw [if_neg (by decide), if_pos ⟨rfl, rfl⟩]
            · show (if (35 : Nat) = 35 ∧ (11 : Nat) = 11 then F else (sg_uR s9 35 10 G).2.2.2.2 35 11) = F
              rw [if_pos ⟨rfl, rfl⟩]
        · exact absurd g c7
  · unfold wp_XEnding_solve
    obtain ⟨h2w, σF, σG, hF, hG, bF, bG⟩ := hst.to ⟨rfl, rfl⟩
    refine xe_forget.mono (fun s1 h1 => ?_)
    obtain ⟨f1, hm1⟩ := h1
    have f18 : sg_fr [(35, 4), (35, 8)] [37, 38] s (sg_uI s1 35 8 (Int32.ofInt 0)) := (f1.le (by decide) (by decide) : sg_fr [(35, 4), (35, 8)] [37, 38] s s1).uI rfl
    have e8 : ((sg_uI s1 35 8 (Int32.ofInt 0)).1 35 8).toInt = 0 := rfl
    have m8 : m1s_ (sg_uI s1 35 8 (Int32.ofInt 0)) := hm1
    generalize sg_uI s1 35 8 (Int32.ofInt 0) = s8 at f18 e8 m8 ⊢
    have he8 := he.fr f18 (by decide) (by decide)
    refine (xe_start (F := s.2.2.2.2 35 10) (G := s.2.2.2.2 35 11) hϖ he8 h2w (by rw [f18.2.2]) (hF.keep h2w.l f18 (by decide) (by decide)) (by omega)).mono (fun s2 g2 => ?_)
    obtain ⟨f2, ⟨o1, o2⟩, ⟨C, cnt, hx, hz, hL⟩, h47, h4⟩ := g2
    have hG8 := hG.keep h2w.r f18 (by decide) (by decide)
    refine ⟨0, rfl, Nat.zero_le _, he8.fr f2 (by decide) (by decide), Or.inl (by rw [f2.i rfl]; exact e8), fun i hi => by rw [f2.a rfl, f2.a rfl]; exact m8 i hi, ⟨fun q hq => ?_, fun q hq => absurd hq (Nat.not_lt_zero q)⟩, h4, _, _, C, cnt, σF + 1, σG, h2w, hx, hz, ⟨by rw [f2.2.2, f18.2.2], by rw [f2.2.2, f18.2.2]⟩, hL, ?_, by omega, by omega⟩
    · obtain rfl : q = 0 := by omega
      exact ⟨h47, show (1 : Nat) ≤ 400 by omega⟩
    · unfold hs_
      rw [o1, o2]
      exact hG8
end SO
