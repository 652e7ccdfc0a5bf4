/-! ===== the reference's looksBack: what lives leads to the end ===== -/
/-- what ends has laid down -/
def am_gE (len tys : Int) (M L Fx : Nat → Int32) : Prop := (0 ≤ len ∧ len ≤ 48) ∧ (0 ≤ tys ∧ tys ≤ 16) ∧ am_m M 0 = 1 ∧ (∀ p k t, 1 ≤ p → p ≤ len → 0 ≤ k → k < am_m M (p - 1) → 0 ≤ t → t < am_np Fx tys p → am_ld L p k t < am_m M p) ∧ ∀ p j, 1 ≤ p → p ≤ len → 0 ≤ j → j < am_m M p → ∃ k t, (0 ≤ k ∧ k < am_m M (p - 1)) ∧ (0 ≤ t ∧ t < am_np Fx tys p) ∧ am_ld L p k t = j
/-- a state that lives has a lead to one that does -/
def am_clo (len tys : Int) (M L Fx A : Nat → Int32) (p : Int) : Prop := ∀ q k, p < q → q ≤ len → 0 ≤ k → k < am_m M (q - 1) → am_a A (q - 1) k = 1 → ∃ t, 0 ≤ t ∧ t < am_np Fx tys q ∧ am_go2 L A q k t
theorem am_np_r {h : am_H} {Fx : Nat → Int32} {tys : Int} (hty : 0 ≤ tys ∧ tys ≤ 16) (p : Int) : 0 ≤ am_np Fx tys p ∧ am_np Fx tys p ≤ 16 := by
  unfold am_np
  split <;> omega
set_option maxRecDepth 100000 in
theorem am_lb2 {al : Bool} {d : Nat} {mo : ab_Mo} {h0 : am_H} {len tys : Int} {M L Fx : Nat → Int32} {Φ : am_C → Prop} (hG : am_gE len tys M L Fx) (hmo : ab_md mo 92 0 = true) (hmo2 : ab_md mo 95 0 = true)
    (K : ∀ h A o2 o3 o4 o5, am_vE mo h0 h len tys M L A Fx → (∃ j, 0 ≤ j ∧ j < am_m M 0 ∧ am_a A 0 j = 1) → am_clo len tys M L Fx A 0 → am_Wp al d (0, fun _ => 0) am_r201 Φ (195, [some (.ref 64), some (.int (Int32.ofInt (0))), o2, o3, o4, o5], [], h, 0, 0)) :
    ∀ (n : Nat) (p : Int) (h : am_H) (A : Nat → Int32) (o2 o3 o4 o5 : Option Value), p < (n : Int) → 0 ≤ p → p ≤ len → (∃ j, 0 ≤ j ∧ j < am_m M p ∧ am_a A p j = 1) → am_clo len tys M L Fx A p → am_vE mo h0 h len tys M L A Fx → am_Wp al d (0, fun _ => 0) am_r201 Φ (42, [some (.ref 64), some (.int (Int32.ofInt (p))), o2, o3, o4, o5], [], h, 0, 0) := by
  intro n
  induction n with
  | zero => intro p h A o2 o3 o4 o5 hn h1 h2; omega
  | succ n ih =>
    intro p h A o2 o3 o4 o5 hn h1 h2 hex hcl v
    have hG1 := hG.1
    obtain ⟨hok, hfr, hlen, htys, hM, hL, hA, hF, ⟨Ft, hFt⟩, ⟨Ct, hCt⟩⟩ := id v
    refine am_Wp.bl 1 (y := (43, [some (.ref 64), some (.int (Int32.ofInt (p))), o2, o3, o4, o5], [.int (Int32.ofInt (p))], h, 0, 0)) (fun _ => rfl) ?_
    refine am_Wp.i0 ⟨by omega, by omega⟩ rfl rfl (fun hc => ?_) (fun hc => ?_)
    · have hc : ((p : Int) ≤ 0) := hc
      obtain rfl : p = 0 := by omega
      exact K h A o2 o3 o4 o5 v hex hcl
    · have hc : ¬ ((p : Int) ≤ 0) := hc
      refine am_Wp.bl 1 (y := (47, [some (.ref 64), some (.int (Int32.ofInt (p))), o2, o3, o4, o5], [.ref 64], h, 0, 0)) (fun _ => rfl) ?_
      refine am_mg112 rfl rfl hok ?_
      refine am_Wp.bl 4 (y := (54, [some (.ref 64), some (.int (Int32.ofInt (p))), o2, o3, o4, o5], [.int (Int32.ofInt (0)), .int ((Int32.ofInt (p)) - (Int32.ofInt (1))), .ref 95], h, 0, 0)) (fun _ => rfl) ?_
      simp only [am_oa, am_om, am_os]
      refine am_Wp.is hCt (by omega) (by omega) rfl rfl (by decide) ?_
      have v2 := am_vE.sCt (z := (p) - (1)) (w := Int32.ofInt (0)) v hCt hmo2
      generalize h.set 95 (.inl (1, 48, .inl (upd Ct ((p) - (1)).toNat (Int32.ofInt (0))))) = h2 at v2 ⊢
      refine am_Wp.bl 2 (y := (57, [some (.ref 64), some (.int (Int32.ofInt (p))), some (.int (Int32.ofInt (0))), o3, o4, o5], [], h2, 0, 0)) (fun _ => rfl) ?_
      have hm1 := am_m_r hok hM (q := p - 1) (by omega)
      refine am_lb2k (A0 := A) hG.2.1 (by omega) hmo hmo2 hm1 (am_np_r (h := h) hG.2.1 p) (fun h3 A' p3 p4 p5 v3 hag hiff => ?_) ((am_m M (p - 1)).toNat + 1) 0 h2 A _ _ _ (by omega) (by omega) (by omega) (fun _ _ => rfl) (fun k' a1 a2 => by omega) v2
      refine am_Wp.bl 2 (y := (42, [some (.ref 64), some (.int ((Int32.ofInt (p)) + Int32.ofInt (-1))), some (.int (Int32.ofInt (am_m M (p - 1)))), p3, p4, p5], [], h3, 0, 0)) (fun _ => rfl) ?_
      simp only [am_oa, am_om, am_os]
      refine ih ((p) + (-1)) h3 A' _ _ _ _ (by omega) (by omega) (by omega) ?_ ?_ v3
      · obtain ⟨j, j1, j2, j3⟩ := hex
        obtain ⟨k, t, hk, ht, hkt⟩ := hG.2.2.2.2 p j (by omega) (by omega) j1 j2
        refine ⟨k, hk.1, hk.2, ?_⟩
        refine (hiff k hk.1 hk.2).mpr ⟨t, ht.1, ht.2, ?_⟩
        unfold am_go2
        rw [hkt]
        exact ⟨j1, j3⟩
      · intro q k q1 q2 q3 q4 q5
        by_cases hq : q = p
        · subst hq
          obtain ⟨t, t1, t2, t3⟩ := (hiff k q3 q4).mp q5
          have hnr := am_np_r (h := h) (Fx := Fx) hG.2.1 q
          exact ⟨t, t1, t2, (am_go2_ag (by omega) (am_ld_r hok hL (by omega) (by omega) (by omega)) hag).mpr t3⟩
        · have hm2 := am_m_r hok hM (q := q - 1) (by omega)
          have e1 : am_a A' (q - 1) k = am_a A (q - 1) k := by
            unfold am_a
            rw [hag _ (by omega)]
          obtain ⟨t, t1, t2, t3⟩ := hcl q k (by omega) q2 q3 q4 (by rw [← e1]; exact q5)
          have hnr := am_np_r (h := h) (Fx := Fx) hG.2.1 q
          exact ⟨t, t1, t2, (am_go2_ag (by omega) (am_ld_r hok hL (by omega) (by omega) (by omega)) (fun j hj => hag j (by omega))).mpr t3⟩
set_option maxRecDepth 100000 in
theorem am_lb3w {al : Bool} {d : Nat} {mo : ab_Mo} {h0 : am_H} {len tys : Int} {M L Fx : Nat → Int32} {Φ : am_C → Prop} {A : Nat → Int32} {h : am_H} {p k t0 : Int} {o5 : Option Value} (hp : 1 ≤ p ∧ p ≤ 48) (hk : 0 ≤ k ∧ k < 400) (ht0 : 0 ≤ t0 ∧ t0 < 16) (hgo : am_go2 L A p k t0) (v : am_vE mo h0 h len tys M L A Fx)
    (K : ∀ t, 0 ≤ t → t ≤ t0 → am_go2 L A p k t → am_Wp al d (0, fun _ => 0) am_r201 Φ (277, [some (.ref 64), some (.int (Int32.ofInt (k))), some (.int (Int32.ofInt (p))), some (.int (Int32.ofInt (t))), some (.int (Int32.ofInt (am_ld L p k (t)))), o5], [], h, 0, 0)) :
    ∀ (n : Nat) (t : Int), t0 - t < (n : Int) → 0 ≤ t → t ≤ t0 → am_Wp al d (0, fun _ => 0) am_r201 Φ (228, [some (.ref 64), some (.int (Int32.ofInt (k))), some (.int (Int32.ofInt (p))), some (.int (Int32.ofInt (t))), some (.int (Int32.ofInt (am_ld L p k (t)))), o5], [], h, 0, 0) := by
  obtain ⟨hok, hfr, hlen, htys, hM, hL, hA, hF, ⟨Ft, hFt⟩, ⟨Ct, hCt⟩⟩ := id v
  intro n
  induction n with
  | zero => intro t hn h1 h2; omega
  | succ n ih =>
    intro t hn h1 h2
    have hld := am_ld_r hok hL hp hk (t := t) (by omega)
    have hal := fun q => am_a_r hok hA (p := p) (by omega) (k := am_ld L p k t) ⟨q, by omega⟩
    refine am_Wp.bl 2 (y := (231, [some (.ref 64), some (.int (Int32.ofInt (k))), some (.int (Int32.ofInt (p))), some (.int (Int32.ofInt (t))), some (.int (Int32.ofInt (am_ld L p k (t)))), o5], [.int (Int32.ofInt (-1)), .int (Int32.ofInt (am_ld L p k (t)))], h, 0, 0)) (fun _ => rfl) ?_
    refine am_Wp.ic ⟨by omega, by omega⟩ ⟨by omega, by omega⟩ rfl rfl (fun hc => ?_) (fun hc => ?_)
    · have hc : ((am_ld L p k (t) : Int) = -1) := hc
      have hne : ¬ t = t0 := fun q => by subst q; unfold am_go2 at hgo; omega
      refine am_Wp.bl 2 (y := (254, [some (.ref 64), some (.int (Int32.ofInt (k))), some (.int (Int32.ofInt (p))), some (.int ((Int32.ofInt (t)) + Int32.ofInt (1))), some (.int (Int32.ofInt (am_ld L p k (t)))), o5], [.ref 64], h, 0, 0)) (fun _ => rfl) ?_
      simp only [am_oa, am_om, am_os]
      refine am_mg100 rfl rfl hok ?_
      refine am_Wp.bl 11 (y := (271, [some (.ref 64), some (.int (Int32.ofInt (k))), some (.int (Int32.ofInt (p))), some (.int (Int32.ofInt ((t) + (1)))), some (.int (Int32.ofInt (am_ld L p k (t)))), o5], [.int (((((Int32.ofInt (400)) * ((Int32.ofInt (p)) - (Int32.ofInt (1)))) + (Int32.ofInt (k))) * (Int32.ofInt (16))) + (Int32.ofInt ((t) + (1)))), .ref 91], h, 0, 0)) (fun _ => rfl) ?_
      simp only [am_oa, am_om, am_os]
      refine am_Wp.ia (w := am_ld L p k ((t) + (1))) hL (by omega) (by omega) (am_oio _).symm rfl rfl (by decide) ?_
      refine am_Wp.bl 2 (y := (228, [some (.ref 64), some (.int (Int32.ofInt (k))), some (.int (Int32.ofInt (p))), some (.int (Int32.ofInt ((t) + (1)))), some (.int (Int32.ofInt (am_ld L p k ((t) + (1))))), o5], [], h, 0, 0)) (fun _ => rfl) ?_
      exact ih ((t) + (1)) (by omega) (by omega) (by omega)
    · have hc : ¬ ((am_ld L p k (t) : Int) = -1) := hc
      refine am_Wp.bl 1 (y := (235, [some (.ref 64), some (.int (Int32.ofInt (k))), some (.int (Int32.ofInt (p))), some (.int (Int32.ofInt (t))), some (.int (Int32.ofInt (am_ld L p k (t)))), o5], [.ref 64], h, 0, 0)) (fun _ => rfl) ?_
      refine am_mg103 rfl rfl hok ?_
      refine am_Wp.bl 5 (y := (246, [some (.ref 64), some (.int (Int32.ofInt (k))), some (.int (Int32.ofInt (p))), some (.int (Int32.ofInt (t))), some (.int (Int32.ofInt (am_ld L p k (t)))), o5], [.int (((Int32.ofInt (400)) * (Int32.ofInt (p))) + (Int32.ofInt (am_ld L p k (t)))), .ref 92], h, 0, 0)) (fun _ => rfl) ?_
      simp only [am_oa, am_om, am_os]
      refine am_Wp.ba (w := am_a A p (am_ld L p k (t))) hA (by omega) (by omega) (am_oio _).symm rfl rfl (by decide) ?_
      refine am_Wp.i0 ⟨by omega, by omega⟩ rfl rfl (fun hd => ?_) (fun hd => ?_)
      · have hd : (¬ (am_a A p (am_ld L p k (t)) : Int) = 0) := hd
        exact K t (by omega) (by omega) ⟨by omega, by omega⟩
      · have hd : ¬ (¬ (am_a A p (am_ld L p k (t)) : Int) = 0) := hd
        have hne : ¬ t = t0 := fun q => by subst q; unfold am_go2 at hgo; omega
        refine am_Wp.bl 2 (y := (254, [some (.ref 64), some (.int (Int32.ofInt (k))), some (.int (Int32.ofInt (p))), some (.int ((Int32.ofInt (t)) + Int32.ofInt (1))), some (.int (Int32.ofInt (am_ld L p k (t)))), o5], [.ref 64], h, 0, 0)) (fun _ => rfl) ?_
        simp only [am_oa, am_om, am_os]
        refine am_mg100 rfl rfl hok ?_
        refine am_Wp.bl 11 (y := (271, [some (.ref 64), some (.int (Int32.ofInt (k))), some (.int (Int32.ofInt (p))), some (.int (Int32.ofInt ((t) + (1)))), some (.int (Int32.ofInt (am_ld L p k (t)))), o5], [.int (((((Int32.ofInt (400)) * ((Int32.ofInt (p)) - (Int32.ofInt (1)))) + (Int32.ofInt (k))) * (Int32.ofInt (16))) + (Int32.ofInt ((t) + (1)))), .ref 91], h, 0, 0)) (fun _ => rfl) ?_
        simp only [am_oa, am_om, am_os]
        refine am_Wp.ia (w := am_ld L p k ((t) + (1))) hL (by omega) (by omega) (am_oio _).symm rfl rfl (by decide) ?_
        refine am_Wp.bl 2 (y := (228, [some (.ref 64), some (.int (Int32.ofInt (k))), some (.int (Int32.ofInt (p))), some (.int (Int32.ofInt ((t) + (1)))), some (.int (Int32.ofInt (am_ld L p k ((t) + (1))))), o5], [], h, 0, 0)) (fun _ => rfl) ?_
        exact ih ((t) + (1)) (by omega) (by omega) (by omega)
set_option maxRecDepth 100000 in
theorem am_lb3 {al : Bool} {d : Nat} {mo : ab_Mo} {h0 : am_H} {len tys : Int} {M L Fx : Nat → Int32} {Φ : am_C → Prop} {A : Nat → Int32} (hG : am_gE len tys M L Fx) (hmo3 : ab_md mo 94 0 = true) (hcl : am_clo len tys M L Fx A 0)
    (K : ∀ h k p o3 o4 o5, am_vE mo h0 h len tys M L A Fx → am_Wp al d (0, fun _ => 0) am_r201 Φ (295, [some (.ref 64), some (.int (Int32.ofInt (k))), some (.int (Int32.ofInt (p))), o3, o4, o5], [], h, 0, 0)) :
    ∀ (n : Nat) (p k : Int) (h : am_H) (o3 o4 o5 : Option Value), len + 1 - p < (n : Int) → 1 ≤ p → p ≤ len + 1 → (p ≤ len → 0 ≤ k ∧ k < am_m M (p - 1) ∧ am_a A (p - 1) k = 1) → am_vE mo h0 h len tys M L A Fx → am_Wp al d (0, fun _ => 0) am_r201 Φ (199, [some (.ref 64), some (.int (Int32.ofInt (k))), some (.int (Int32.ofInt (p))), o3, o4, o5], [], h, 0, 0) := by
  intro n
  induction n with
  | zero => intro p k h o3 o4 o5 hn h1 h2; omega
  | succ n ih =>
    intro p k h o3 o4 o5 hn h1 h2 hin v
    have hG1 := hG.1
    obtain ⟨hok, hfr, hlen, htys, hM, hL, hA, hF, ⟨Ft, hFt⟩, ⟨Ct, hCt⟩⟩ := id v
    refine am_Wp.bl 2 (y := (201, [some (.ref 64), some (.int (Int32.ofInt (k))), some (.int (Int32.ofInt (p))), o3, o4, o5], [.ref 64, .int (Int32.ofInt (p))], h, 0, 0)) (fun _ => rfl) ?_
    refine am_mi33 rfl rfl hok hlen ?_
    refine am_Wp.ic ⟨by omega, by omega⟩ ⟨by omega, by omega⟩ rfl rfl (fun hc => ?_) (fun hc => ?_)
    · have hc : (len < (p : Int)) := hc
      exact K h k p _ _ _ v
    · have hc : ¬ (len < (p : Int)) := hc
      obtain ⟨hk1, hk2, hk3⟩ := hin (by omega)
      have hm1 := am_m_r hok hM (q := p - 1) (by omega)
      obtain ⟨t0, a1, a2, a3⟩ := hcl p k (by omega) (by omega) hk1 hk2 hk3
      have hnr := am_np_r (h := h) (Fx := Fx) hG.2.1 p
      refine am_Wp.bl 3 (y := (210, [some (.ref 64), some (.int (Int32.ofInt (k))), some (.int (Int32.ofInt (p))), some (.int (Int32.ofInt (0))), o4, o5], [.ref 64], h, 0, 0)) (fun _ => rfl) ?_
      refine am_mg100 rfl rfl hok ?_
      refine am_Wp.bl 9 (y := (225, [some (.ref 64), some (.int (Int32.ofInt (k))), some (.int (Int32.ofInt (p))), some (.int (Int32.ofInt (0))), o4, o5], [.int ((((Int32.ofInt (400)) * ((Int32.ofInt (p)) - (Int32.ofInt (1)))) + (Int32.ofInt (k))) * (Int32.ofInt (16))), .ref 91], h, 0, 0)) (fun _ => rfl) ?_
      simp only [am_oa, am_om, am_os]
      refine am_Wp.ia (w := am_ld L p k (0)) hL (by omega) (by omega) (by unfold am_ld; rw [Int.add_zero]; exact (am_oio _).symm) rfl rfl (by decide) ?_
      refine am_Wp.bl 1 (y := (228, [some (.ref 64), some (.int (Int32.ofInt (k))), some (.int (Int32.ofInt (p))), some (.int (Int32.ofInt (0))), some (.int (Int32.ofInt (am_ld L p k (0)))), o5], [], h, 0, 0)) (fun _ => rfl) ?_
      refine am_lb3w (by omega) (by omega) (by omega) a3 v (fun t b1 b2 b3 => ?_) (t0.toNat + 1) 0 (by omega) (by omega) (by omega)
      refine am_Wp.bl 1 (y := (278, [some (.ref 64), some (.int (Int32.ofInt (k))), some (.int (Int32.ofInt (p))), some (.int (Int32.ofInt (t))), some (.int (Int32.ofInt (am_ld L p k (t)))), o5], [.ref 64], h, 0, 0)) (fun _ => rfl) ?_
      refine am_mg109 rfl rfl hok ?_
      refine am_Wp.bl 4 (y := (285, [some (.ref 64), some (.int (Int32.ofInt (k))), some (.int (Int32.ofInt (p))), some (.int (Int32.ofInt (t))), some (.int (Int32.ofInt (am_ld L p k (t)))), o5], [.int (Int32.ofInt (t)), .int ((Int32.ofInt (p)) - (Int32.ofInt (1))), .ref 94], h, 0, 0)) (fun _ => rfl) ?_
      simp only [am_oa, am_om, am_os]
      refine am_Wp.is hFt (by omega) (by omega) rfl rfl (by decide) ?_
      have v2 := am_vE.sFt (z := (p) - (1)) (w := Int32.ofInt (t)) v hFt hmo3
      generalize h.set 94 (.inl (1, 48, .inl (upd Ft ((p) - (1)).toNat (Int32.ofInt (t))))) = h2 at v2 ⊢
      refine am_Wp.bl 4 (y := (199, [some (.ref 64), some (.int (Int32.ofInt (am_ld L p k (t)))), some (.int ((Int32.ofInt (p)) + Int32.ofInt (1))), some (.int (Int32.ofInt (t))), some (.int (Int32.ofInt (am_ld L p k (t)))), o5], [], h2, 0, 0)) (fun _ => rfl) ?_
      simp only [am_oa, am_om, am_os]
      refine ih ((p) + (1)) (am_ld L p k t) h2 _ _ _ (by omega) (by omega) (by omega) (fun hp2 => ?_) v2
      refine ⟨b3.1, ?_, ?_⟩
      · rw [show (p + 1 - 1 : Int) = p by omega]
        exact hG.2.2.2.1 p k t (by omega) (by omega) hk1 hk2 (by omega) (by omega)
      · rw [show (p + 1 - 1 : Int) = p by omega]
        exact b3.2
def am_moL : ab_Mo := [(92, 0), (94, 0), (95, 0)]
set_option maxRecDepth 100000 in
theorem am_lb {al : Bool} {d : Nat} {h : am_H} {len tys : Int} {M L A Fx : Nat → Int32} (hG : am_gE len tys M L Fx) (hml : 1 ≤ am_m M len) (v : am_vE am_moL h h len tys M L A Fx) : ∃ h2 A2, am_Do al (d + 1) 201 [.ref 64] h (none, h2) ∧ am_vE am_moL h h2 len tys M L A2 Fx := by
  have hG1 := hG.1
  obtain ⟨hok, hfr, hlen, htys, hM, hL, hA, hF, ⟨Ft, hFt⟩, ⟨Ct, hCt⟩⟩ := id v
  have hm := am_m_r hok hM (q := len) (by omega)
  have key : am_Wp al d (0, fun _ => 0) am_r201 (fun y => y.1 = 295 ∧ y.2.2.1 = [] ∧ ∃ A2, am_vE am_moL h y.2.2.2.1 len tys M L A2 Fx) (0, [some (.ref 64), none, none, none, none, none], [], h, 0, 0) := by
    refine am_Wp.bl 2 (y := (2, [some (.ref 64), some (.int (Int32.ofInt (0))), none, none, none, none], [], h, 0, 0)) (fun _ => rfl) ?_
    refine am_lb1 al d am_moL h len tys M L Fx _ hG1 rfl hm.2 (fun h1 A1 v1 hA1 => ?_) ((am_m M len).toNat + 1) 0 h A (by omega) (by omega) (by omega) (fun j a b => by omega) v
    refine am_Wp.bl 1 (y := (38, [some (.ref 64), some (.int (Int32.ofInt (am_m M len))), none, none, none, none], [.ref 64], h1, 0, 0)) (fun _ => rfl) ?_
    refine am_mi33 rfl rfl v1.1 v1.2.2.1 ?_
    refine am_Wp.bl 1 (y := (42, [some (.ref 64), some (.int (Int32.ofInt (len))), none, none, none, none], [], h1, 0, 0)) (fun _ => rfl) ?_
    refine am_lb2 hG rfl rfl (fun h2 A2 o2 o3 o4 o5 v2 hex hcl => ?_) (len.toNat + 1) len h1 A1 _ _ _ _ (by omega) (by omega) (by omega) ⟨0, by omega, by omega, hA1 0 (by omega) (by omega)⟩ (fun q k q1 q2 => by omega) v1
    refine am_Wp.bl 4 (y := (199, [some (.ref 64), some (.int (Int32.ofInt (0))), some (.int (Int32.ofInt (1))), o3, o4, o5], [], h2, 0, 0)) (fun _ => rfl) ?_
    refine am_lb3 hG rfl hcl (fun h3 k p o3 o4 o5 v3 => am_Wp.en ⟨rfl, rfl, A2, v3⟩) (len.toNat + 1) 1 0 h2 _ _ _ (by omega) (by omega) (by omega) (fun _ => ?_) v2
    obtain ⟨j, j1, j2, j3⟩ := hex
    have h0 := hG.2.2.1
    obtain rfl : j = 0 := by omega
    exact ⟨by omega, by show 0 < am_m M 0; omega, j3⟩
  obtain ⟨y, g1, g2, g3, A2, g4⟩ := key
  obtain ⟨pc, lv, st, h2, nc, ns⟩ := y
  simp only at g2 g3 g4
  subst g2
  subst g3
  exact ⟨h2, A2, am_Do.of (r := am_r201) (i := .return_) rfl rfl g1 rfl rfl rfl, g4⟩
