/-! ===== ends: X gathers, begins, and looks from one state to the end ===== -/
section GA
variable {s : sg_S} {x1 x2 : Int32} {ϖ : ep_} {p : Nat}
theorem xk_.cg {n : Nat} {cs cs2 : Nat → Int32} (h : xk_ ϖ n cs s) (e : ∀ t, t < n → cs t = cs2 t) : xk_ ϖ n cs2 s := ⟨h.1, fun t ht => by rw [← e t ht]; exact h.2 t ht⟩
theorem xlk_.cg {tb : Nat → Int32} {n : Nat} {cs cs2 : Nat → Int32} (h : xlk_ tb n cs s) (e : ∀ t, t < n → cs t = cs2 t) : xlk_ tb n cs2 s := fun a ha => by
  rcases h a ha with z | z
  · exact Or.inl z
  · refine Or.inr (fun j hj => ?_)
    rw [z j hj]
    exact ⟨fun w => ⟨w.1, by rw [← e j w.1]; exact w.2⟩, fun w => ⟨w.1, by rw [e j w.1]; exact w.2⟩⟩
theorem xlk_.all {tb : Nat → Int32} {n : Nat} {cs : Nat → Int32} (h : ∀ i, i < 256 → (s.2.2.1 53 i).toInt = -1) : xlk_ tb n cs s := fun a ha => Or.inl (h a ha)
/-- where 'gathered' is said, the types stand gathered -/
def gI_ (ϖ : ep_) (s : sg_S) : Prop := (s.1 35 8).toInt = 0 ∨ (xk_ ϖ ϖ.2.2.2.2.2.2 ϖ.2.2.2.2.2.1 s ∧ xlk_ ϖ.2.1 ϖ.2.2.2.2.2.2 ϖ.2.2.2.2.2.1 s)
theorem xe_gather (hϖ : eP_ ϖ) (he : xe_ ϖ s) (hg : gI_ ϖ s) (hp : (p : Int) < ϖ.1.2.2.2.1) (h1 : x1.toInt = ((p + 1 : Nat) : Int)) : am_SpV 15 [.ref 35, .int x1] s (fun s2 => sg_fr [(50, 4), (35, 8)] [51, 52, 53] s s2 ∧ xk_ ϖ (ecn_ ϖ (p + 1)) (ecs_ ϖ (p + 1)) s2 ∧ xlk_ ϖ.2.1 (ecn_ ϖ (p + 1)) (ecs_ ϖ (p + 1)) s2 ∧ ((s2.1 35 8).toInt = 0 ∨ ¬ fd_ ϖ p)) := by
  have h12 := hϖ.1.2.2.1
  have hl := hϖ.2.2.1
  have ht16 := hϖ.2.2.2.2.2.2.2
  have e1 : x1.toInt.toNat = p + 1 := by omega
  have z0 : (Int32.ofInt 0).toInt = 0 := rfl
  have types : ¬ fd_ ϖ p → ecn_ ϖ (p + 1) = ϖ.2.2.2.2.2.2 ∧ ∀ t, ecs_ ϖ (p + 1) t = ϖ.2.2.2.2.2.1 t := fun h => ⟨ecn_n h, fun t => ecs_n h⟩
  refine wp_XEnding_gather_ok (I55 := fun l s1 => ¬ fd_ ϖ p ∧ sg_fr [(50, 4), (35, 8)] [51, 52, 53] s s1 ∧ ∃ i : Nat, l.toInt = (i : Int) ∧ i ≤ ϖ.2.2.2.2.2.2 ∧ xk_ ϖ i ϖ.2.2.2.2.2.1 s1 ∧ ∀ i, i < 256 → (s1.2.2.1 53 i).toInt = -1) ?_ ?_
  · intro l s1 hI
    obtain ⟨nf, f, i, hi, hin, hk, h53⟩ := hI
    have he1 := he.fr f (by decide) (by decide)
    obtain ⟨t1, t2⟩ := types nf
    unfold wp_XEnding_gather_55
    rw [he1.2.2.2.2.1, hi, Int.toNat_natCast]
    refine ⟨fun c _ _ => ?_, fun c => ?_⟩
    · rw [he1.2.2.2.2.2 i (by omega)]
      refine (xc_add he1.1 h12 hk (by omega)).mono (fun s6 h6 => ?_)
      obtain ⟨f6, hk6⟩ := h6
      refine ⟨nf, f.tr (f6.le (by decide) (by decide)), i + 1, ?_, by omega, hk6.cg (fun t ht => ?_), fun j hj => by rw [f6.a rfl]; exact h53 j hj⟩
      · rw [i32_inc (c := 0) (by omega) (by omega), hi]
        rfl
      · by_cases e : t = i
        · rw [if_pos e, e]
        · rw [if_neg e]
    · have : i = ϖ.2.2.2.2.2.2 := by omega
      rw [this] at hk
      have f8 : sg_fr [(35, 8)] [] s1 (sg_uI s1 35 8 (Int32.ofInt 1)) := sg_fr.rf.uI rfl
      refine ⟨f.uI rfl, ?_, xlk_.all (fun j hj => h53 j hj), Or.inr nf⟩
      rw [t1]
      exact (show xk_ ϖ ϖ.2.2.2.2.2.2 ϖ.2.2.2.2.2.1 (sg_uI s1 35 8 (Int32.ofInt 1)) by unfold xk_; rw [f8.i rfl, f8.a rfl, f8.a rfl]; exact hk).cg (fun t _ => (t2 t).symm)
  · unfold wp_XEnding_gather
    refine (xe_stands (P := p + 1) he ⟨by omega, by omega⟩ h1).mono (fun x2 s2 h2 => ?_)
    have hno := h2.no
    have hyes := h2.yes
    have q2 := h2.eq
    subst q2
    refine ⟨fun c => ⟨fun c8 => ?_, fun c8 => ?_⟩, fun c => ?_⟩
    · refine (xc_clear (tb := ϖ.2.1)).mono (fun s3 h3 => ?_)
      obtain ⟨f3, g4, g53⟩ := h3
      exact ⟨hno c, f3.le (by decide) (by decide), 0, rfl, Nat.zero_le _, ⟨⟨g4, by omega⟩, fun t ht => absurd ht (Nat.not_lt_zero t)⟩, g53⟩
    · have nf : ¬ fd_ ϖ p := hno c
      obtain ⟨t1, t2⟩ := types nf
      rcases hg with g | ⟨g1, g2⟩
      · exact absurd g c8
      · rw [t1]
        exact ⟨sg_fr.rf, g1.cg (fun t _ => (t2 t).symm), g2.cg (fun t _ => (t2 t).symm), Or.inr nf⟩
    · have yf : fd_ ϖ p := hyes c
      refine (xc_clear (tb := ϖ.2.1)).mono (fun s4 h4 => ?_)
      obtain ⟨f4, g4, g53⟩ := h4
      intro _ _
      have he4 := he.fr f4 (by decide) (by decide)
      refine (xc_add (n := 0) (cs := fun _ => Int32.ofInt 0) he4.1 h12 ⟨⟨g4, by omega⟩, fun t ht => absurd ht (Nat.not_lt_zero t)⟩ (by omega)).mono (fun s5 h5 => ?_)
      obtain ⟨f5, hk5⟩ := h5
      have f8 : sg_fr [(35, 8)] [] s5 (sg_uI s5 35 8 (Int32.ofInt 0)) := sg_fr.rf.uI rfl
      have n1 : ecn_ ϖ (p + 1) = 1 := ecn_y yf
      have c1 : ∀ t, ecs_ ϖ (p + 1) t = ϖ.2.2.2.2.1 p := fun t => ecs_y yf
      have e30 : s4.2.2.1 30 x1.toInt.toNat = ϖ.2.2.2.2.1 p := by
        rw [e1]
        exact (he4.2.2.2.1 p yf.1).2
      refine ⟨((f4.le (by decide) (by decide) : sg_fr [(50, 4), (35, 8)] [51, 52, 53] s2 s4).tr (f5.le (by decide) (by decide))).uI rfl, ?_, xlk_.all (fun j hj => ?_), Or.inl rfl⟩
      · rw [n1]
        have hk6 : xk_ ϖ 1 (fun t => if t = 0 then s4.2.2.1 30 x1.toInt.toNat else Int32.ofInt 0) (sg_uI s5 35 8 (Int32.ofInt 0)) := by
          unfold xk_
          rw [f8.i rfl, f8.a rfl, f8.a rfl]
          exact hk5
        refine hk6.cg (fun t ht => ?_)
        rw [if_pos (by omega), e30, c1]
      · show (s5.2.2.1 53 j).toInt = -1
        rw [f5.a rfl]
        exact g53 j hj
/-- the first layer -/
theorem xe_start {F G : Nat} {σ : Int} (hϖ : eP_ ϖ) (he : xe_ ϖ s) (h2w : two_ F G) (h10 : s.2.2.2.2 35 10 = F) (hF : hs_ F (F + 3) s σ) (hσ : σ < 30000) : am_SpV 14 [.ref 35] s (fun s2 => sg_fr [(39, 2), (39, 4), (43, 2), (43, 4), (54, 2), (35, 4)] [55, 47, 40, 41, 42, 44, 45, 46] s s2 ∧ (s2.1 G 4 = s.1 G 4 ∧ s2.2.2.1 (G + 3) = s.2.2.1 (G + 3)) ∧ (∃ (C : Nat) (cnt : Nat → Nat), cx_ ϖ.1 C cnt ∧ cz_ C cnt s2 ∧ hl_ F C cnt s2 (σ + 1) (eLp ϖ 0)) ∧ (s2.2.2.1 47 0).toInt = 1 ∧ (s2.1 35 4).toInt = 1) := by
  have h12 := hϖ.1.2.2.1
  refine wp_XEnding_layStart_ok ?_
  unfold wp_XEnding_layStart
  rw [h10]
  refine (xs_clear h2w.l hF hσ).mono (fun s1 h1 => ?_)
  obtain ⟨f1, ht1⟩ := h1
  have f1' : sg_fr [(39, 2), (39, 4), (43, 2), (43, 4), (54, 2), (35, 4)] [55, 47, 40, 41, 42, 44, 45, 46] s s1 := by
    rcases h2w with ⟨rfl, -⟩ | ⟨rfl, -⟩
    · exact f1.le (by decide) (by decide)
    · exact f1.le (by decide) (by decide)
  have o1 : s1.1 G 4 = s.1 G 4 ∧ s1.2.2.1 (G + 3) = s.2.2.1 (G + 3) := by
    rcases h2w with ⟨rfl, rfl⟩ | ⟨rfl, rfl⟩
    · exact ⟨f1.i rfl, f1.a rfl⟩
    · exact ⟨f1.i rfl, f1.a rfl⟩
  refine (xo_rules (he.fr f1' (by decide) (by decide)).1 h12).mono (fun s2 h2 => ?_)
  obtain ⟨f2, C, cnt, hx, hz⟩ := h2
  have f2' : sg_fr [(39, 2), (39, 4), (43, 2), (43, 4), (54, 2), (35, 4)] [55, 47, 40, 41, 42, 44, 45, 46] s s2 := f1'.tr (f2.le (by decide) (by decide))
  have e10 : s2.2.2.2.2 35 10 = F := by rw [f2'.2.2]; exact h10
  have hL : hl_ F C cnt s2 (σ + 1) (0, fun _ _ => 0) := by
    have : hl_ F C cnt s1 (σ + 1) (0, fun _ _ => 0) := ⟨_, _, ht1, fun k hk => absurd hk (Nat.not_lt_zero k)⟩
    exact this.keep h2w.l f2 (by decide) (by decide)
  rw [e10]
  refine (xo_layFirst h2w.l hϖ (he.fr f2' (by decide) (by decide)).1 hx hz hL).mono (fun x3 s3 h3 => ?_)
  obtain ⟨-, f3, hL3⟩ := h3
  have f3' : sg_fr [(39, 2), (39, 4), (43, 2), (43, 4), (54, 2), (35, 4)] [55, 47, 40, 41, 42, 44, 45, 46] s s3 := by
    rcases h2w with ⟨rfl, -⟩ | ⟨rfl, -⟩
    · exact f2'.tr (f3.le (by decide) (by decide))
    · exact f2'.tr (f3.le (by decide) (by decide))
  have o3 : s3.1 G 4 = s.1 G 4 ∧ s3.2.2.1 (G + 3) = s.2.2.1 (G + 3) := by
    rw [← o1.1, ← o1.2]
    rcases h2w with ⟨rfl, rfl⟩ | ⟨rfl, rfl⟩
    · exact ⟨(f3.i rfl).trans (f2.i rfl), (f3.a rfl).trans (f2.a rfl)⟩
    · exact ⟨(f3.i rfl).trans (f2.i rfl), (f3.a rfl).trans (f2.a rfl)⟩
  have e10 : s3.2.2.2.2 35 10 = F := by rw [f3'.2.2]; exact h10
  have hsz := hL3.size.1
  rw [e10]
  refine ⟨h2w.l, h2w.l, ?_⟩
  have f9 : sg_fr [(35, 4)] [47] s3 (sg_uI (sg_uA s3 47 0 (s3.1 F 2)) 35 4 (s3.1 F 2)) := (sg_fr.rf.uA rfl).uI rfl
  refine ⟨f3'.tr (f9.le (by decide) (by decide)), ?_, ⟨C, cnt, hx, ?_, hL3.keep h2w.l f9 (by decide) (by decide)⟩, ?_, ?_⟩
  · rw [← o3.1, ← o3.2]
    rcases h2w with ⟨rfl, rfl⟩ | ⟨rfl, rfl⟩
    · exact ⟨f9.i rfl, f9.a rfl⟩
    · exact ⟨f9.i rfl, f9.a rfl⟩
  · have hz3 : cz_ C cnt s3 := by
      unfold cz_
      rcases h2w with ⟨rfl, -⟩ | ⟨rfl, -⟩
      · rw [f3.i rfl, f3.a rfl]; exact hz
      · rw [f3.i rfl, f3.a rfl]; exact hz
    unfold cz_
    rw [f9.i rfl, f9.a rfl]
    exact hz3
  · show ((sg_uA s3 47 0 (s3.1 F 2)).2.2.1 47 0).toInt = 1
    rw [sg_A1]
    exact hsz
  · show (s3.1 F 2).toInt = 1
    exact hsz
/-- the least set of some -/
theorem xe_least : am_SpI 23 [.int x1] s (fun r s2 => s2 = s ∧ ((r.toInt = -1 ∧ ∀ t, t < 16 → bt_ x1 t = false) ∨ ∃ t : Nat, r.toInt = (t : Int) ∧ t < 16 ∧ bt_ x1 t = true ∧ ∀ u, u < t → bt_ x1 u = false)) := by
  refine wp_XEnding_leastOf_ok (I2 := fun l s1 => s1 = s ∧ ∃ t : Nat, l.toInt = (t : Int) ∧ t ≤ 16 ∧ ∀ u, u < t → bt_ x1 u = false) ?_ ⟨rfl, 0, rfl, Nat.zero_le _, fun u hu => absurd hu (Nat.not_lt_zero u)⟩
  intro l s1 hI
  obtain ⟨q1, t, ht, ht16, hu⟩ := hI
  subst q1
  unfold wp_XEnding_leastOf_2
  have hb : ((x1 >>> (l &&& 31)) &&& Int32.ofInt 1).toInt = 0 ↔ bt_ x1 t = false := bt_at ht
  rw [ht, hb]
  refine ⟨fun c => ⟨fun c2 => ⟨rfl, t + 1, ?_, by omega, fun u hu2 => ?_⟩, fun c2 => ⟨rfl, Or.inr ⟨t, ht, by omega, ?_, hu⟩⟩⟩, fun c => ⟨rfl, Or.inl ⟨rfl, fun u hu2 => hu u (by omega)⟩⟩⟩
  · rw [i32_inc (c := 0) (by omega) (by omega), ht]
    rfl
  · by_cases e : u = t
    · rw [e]; exact c2
    · exact hu u (by omega)
  · rw [← Bool.not_eq_false]
    exact c2
/-- X's notes from the place q0 on to the end -/
def bX_ (ϖ : ep_) (len q0 : Nat) (a : Nat → Int32) : Prop := ∀ q, q0 ≤ q → q ≤ len → ∀ k, k < (eLp ϖ q).1 → (¬ (a (400 * q + k)).toInt < 0 ↔ al_ (ecn_ ϖ) (edp ϖ) len (len - q) k) ∧ (q < len → ¬ (a (400 * q + k)).toInt < 0 → ∃ t : Nat, (a (400 * q + k)).toInt = (t : Int) ∧ t < ecn_ ϖ (q + 1) ∧ av_ (ecn_ ϖ) (edp ϖ) len q k t ∧ ∀ u, u < t → ¬ av_ (ecn_ ϖ) (edp ϖ) len q k u)
/-- the numbers of X: the sizes of the layers, where sets lead -/
def xN_ (ϖ : ep_) (p : Nat) (s : sg_S) : Prop := (∀ q, q ≤ p → (s.2.2.1 47 q).toInt = ((eLp ϖ q).1 : Int) ∧ (eLp ϖ q).1 ≤ 400) ∧ ∀ q, q < p → ∀ j, j < (eLp ϖ q).1 → ∀ u, u < ecn_ ϖ (q + 1) → (s.2.2.1 48 (16 * (400 * q + j) + u)).toInt = edp ϖ q j u
theorem xe_leading {len k : Nat} (hϖ : eP_ ϖ) (he : xe_ ϖ s) (hlen : ϖ.1.2.2.2.1 = (len : Int)) (hp : p < len) (hN : xN_ ϖ len s) (hk : k < (eLp ϖ p).1) (hb : bX_ ϖ len (p + 1) (s.2.2.1 49)) (h1 : x1.toInt = (k : Int)) (h2 : x2.toInt = ((p + 1 : Nat) : Int)) : am_SpI 21 [.ref 35, .int x1, .int x2] s (fun r s2 => s2 = s ∧ ∀ t, t < 32 → (bt_ r t = true ↔ t < ecn_ ϖ (p + 1) ∧ av_ (ecn_ ϖ) (edp ϖ) len p k t)) := by
  have hl := hϖ.2.2.1
  have hn16 : ecn_ ϖ (p + 1) ≤ 16 := ecn_16 hϖ
  have h400 := (hN.1 p (by omega)).2
  have z1 : (Int32.ofInt 1).toInt = 1 := rfl
  have zm : (Int32.ofInt (-1)).toInt = -1 := rfl
  have e400 : (Int32.ofInt 400).toInt = 400 := rfl
  have m2 : (x2 * Int32.ofInt 400).toInt = ((400 * (p + 1) : Nat) : Int) := by
    rw [i32_mul (by rw [e400]; omega) (by rw [e400]; omega), e400, h2]
    omega
  refine wp_XEnding_leadingFrom_ok (I20 := fun l3 l4 l5 s1 => s1 = s ∧ l4.toInt = ((16 * (400 * p + k) : Nat) : Int) ∧ ∃ i : Nat, l5.toInt = (i : Int) - 1 ∧ i ≤ ecn_ ϖ (p + 1) ∧ ∀ t, t < 32 → (bt_ l3 t = true ↔ (i ≤ t ∧ t < ecn_ ϖ (p + 1)) ∧ av_ (ecn_ ϖ) (edp ϖ) len p k t)) ?_ ?_
  · intro l3 l4 l5 s1 hI
    obtain ⟨q1, h4, i, h5, hin, b⟩ := hI
    subst q1
    unfold wp_XEnding_leadingFrom_20
    refine ⟨fun c => ⟨rfl, fun t ht => ?_⟩, fun c => ?_⟩
    · rw [b t ht]
      exact ⟨fun z => ⟨z.1.2, z.2⟩, fun z => ⟨⟨by omega, z.1⟩, z.2⟩⟩
    · obtain ⟨j, rfl⟩ : ∃ j, i = j + 1 := ⟨i - 1, by omega⟩
      have hj : l5.toInt = (j : Int) := by omega
      have hix : (l4 + l5).toInt = ((16 * (400 * p + k) + j : Nat) : Int) := by
        rw [i32_add (by omega) (by omega), h4, hj]
        omega
      have hdec : (l5 + Int32.ofInt (-1)).toInt = (j : Int) - 1 := by
        rw [i32_add (by omega) (by omega), hj, zm]
        omega
      generalize hld : l5 + Int32.ofInt (-1) = ld at hdec ⊢
      have h48 := hN.2 p hp k hk j (by omega)
      rw [hix, Int.toNat_natCast, h48]
      have no : ¬ av_ (ecn_ ϖ) (edp ϖ) len p k j → s1 = s1 ∧ l4.toInt = ((16 * (400 * p + k) : Nat) : Int) ∧ ∃ i : Nat, ld.toInt = (i : Int) - 1 ∧ i ≤ ecn_ ϖ (p + 1) ∧ ∀ t, t < 32 → (bt_ l3 t = true ↔ (i ≤ t ∧ t < ecn_ ϖ (p + 1)) ∧ av_ (ecn_ ϖ) (edp ϖ) len p k t) := fun h => by
        refine ⟨rfl, h4, j, hdec, by omega, fun t ht => ?_⟩
        rw [b t ht]
        refine ⟨fun z => ⟨by omega, z.2⟩, fun z => ⟨⟨?_, z.1.2⟩, z.2⟩⟩
        have : ¬ t = j := fun e => h (by rw [← e]; exact z.2)
        omega
      refine fun _ _ => ⟨fun c1 => no (fun z => by have := z.1; omega), fun c1 => ?_⟩
      have hd := ed_rng (ok := eok_ ϖ) (nxt := enx_ ϖ) (cn := ecn_ ϖ) (cs := ecs_ ϖ) (v0 := ev0_ ϖ) (p := p) (k := k) (t := j) hk (by omega)
      have hd : edp ϖ p k j = -1 ∨ (0 ≤ edp ϖ p k j ∧ edp ϖ p k j < ((eLp ϖ (p + 1)).1 : Int)) := hd
      have h400b := (hN.1 (p + 1) (by omega)).2
      have hix2 : (x2 * Int32.ofInt 400 + s1.2.2.1 48 (16 * (400 * p + k) + j)).toInt = ((400 * (p + 1) + (edp ϖ p k j).toNat : Nat) : Int) := by
        rw [i32_add (by omega) (by omega), m2, h48]
        omega
      rw [hix2, Int.toNat_natCast]
      have hbx := (hb (p + 1) (Nat.le_refl _) (by omega) (edp ϖ p k j).toNat (by omega)).1
      refine fun _ _ => ⟨fun c2 => no (fun z => ?_), fun c2 => ⟨rfl, h4, j, hdec, by omega, fun t ht => ?_⟩⟩
      · exact (hbx.mpr z.2) c2
      · rw [bt_o1 hj (by omega) ht, b t ht]
        constructor
        · rintro (z | z)
          · exact ⟨by omega, z.2⟩
          · rw [z]
            exact ⟨by omega, by omega, hbx.mp c2⟩
        · intro z
          by_cases e : t = j
          · exact Or.inr e
          · exact Or.inl ⟨by omega, z.2⟩
  · unfold wp_XEnding_leadingFrom
    have hx2 : (x2 - Int32.ofInt 1).toInt = (p : Int) := by rw [i32_sub (by omega) (by omega), h2, z1]; omega
    refine (xe_row hx2 h1 (by omega) (by omega)).mono (fun x3 s3 h3 => ?_)
    obtain ⟨q3, h3⟩ := h3
    subst q3
    refine (xe_count (P := p + 1) he ⟨by omega, by omega⟩ h2).mono (fun x4 s4 h4 => ?_)
    obtain ⟨q4, h4⟩ := h4
    subst q4
    refine ⟨rfl, h3, ecn_ ϖ (p + 1), ?_, Nat.le_refl _, fun t ht => ?_⟩
    · rw [i32_sub (by omega) (by omega), h4, z1]
    · rw [bt_z ht]
      exact ⟨fun z => (by cases z), fun z => by omega⟩
end GA
