/-! ===== the reference's looksBack: which states live ===== -/
/-- a lead to a state that lives -/
def am_go2 (L A : Nat → Int32) (p k t : Int) : Prop := 0 ≤ am_ld L p k t ∧ am_a A p (am_ld L p k t) = 1
def am_np (Fx : Nat → Int32) (tys p : Int) : Int := if am_fx Fx p = 0 then tys else 1
theorem am_ld_r {h : am_H} {L : Nat → Int32} (hok : ab_hok ab_D0 h) (hL : h[91]? = some (.inl (1, 307200, .inl L))) {p k t : Int} (h1 : 1 ≤ p ∧ p ≤ 48) (h2 : 0 ≤ k ∧ k < 400) (h3 : 0 ≤ t ∧ t < 16) : -1 ≤ am_ld L p k t ∧ am_ld L p k t ≤ 399 := by
  have h4 := am_arng hok (lo := -1) (hi := 399) (m := 511) rfl hL (((((400) * ((p) - (1))) + (k)) * (16)) + (t)).toNat (by omega)
  exact ⟨h4.1, h4.2.1⟩
theorem am_a_r {h : am_H} {A : Nat → Int32} (hok : ab_hok ab_D0 h) (hA : h[92]? = some (.inl (4, 19600, .inl A))) {p k : Int} (h1 : 0 ≤ p ∧ p ≤ 48) (h2 : 0 ≤ k ∧ k < 400) : 0 ≤ am_a A p k ∧ am_a A p k ≤ 1 := by
  have h4 := am_arng hok (lo := 0) (hi := 1) (m := 511) rfl hA (((400) * (p)) + (k)).toNat (by omega)
  exact ⟨h4.1, h4.2.1⟩
theorem am_fx_r {h : am_H} {Fx : Nat → Int32} (hok : ab_hok ab_D0 h) (hF : h[93]? = some (.inl (4, 48, .inl Fx))) {p : Int} (h1 : 1 ≤ p ∧ p ≤ 48) : 0 ≤ am_fx Fx p ∧ am_fx Fx p ≤ 1 := by
  have h4 := am_arng hok (lo := 0) (hi := 1) (m := 511) rfl hF ((p) - (1)).toNat (by omega)
  exact ⟨h4.1, h4.2.1⟩
theorem am_m_r {h : am_H} {M : Nat → Int32} (hok : ab_hok ab_D0 h) (hM : h[90]? = some (.inl (1, 49, .inl M))) {q : Int} (h1 : 0 ≤ q ∧ q ≤ 48) : 0 ≤ am_m M q ∧ am_m M q ≤ 400 := by
  have h4 := am_arng hok (lo := 0) (hi := 400) (m := 511) rfl hM q.toNat (by omega)
  exact ⟨h4.1, h4.2.1⟩
set_option maxRecDepth 100000 in
theorem am_lb2b {al : Bool} {d : Nat} {mo : ab_Mo} {h0 : am_H} {len tys : Int} {M L Fx : Nat → Int32} {Φ : am_C → Prop} {A : Nat → Int32} {h : am_H} {p k is t : Int} {o5 : Option Value} (hp : 1 ≤ p ∧ p ≤ 48) (hk : 0 ≤ k ∧ k < 400) (ht : 0 ≤ t ∧ t < 16) (hmo : ab_md mo 95 0 = true) (v : am_vE mo h0 h len tys M L A Fx)
    (K : ∀ h is' o5, am_vE mo h0 h len tys M L A Fx → (is' = is ∧ ¬ am_go2 L A p k t) ∨ (is' = 1 ∧ am_go2 L A p k t) → am_Wp al d (0, fun _ => 0) am_r201 Φ (74, [some (.ref 64), some (.int (Int32.ofInt (p))), some (.int (Int32.ofInt (k))), some (.int (Int32.ofInt (is'))), some (.int (Int32.ofInt ((t) + (1)))), o5], [], h, 0, 0)) : am_Wp al d (0, fun _ => 0) am_r201 Φ (98, [some (.ref 64), some (.int (Int32.ofInt (p))), some (.int (Int32.ofInt (k))), some (.int (Int32.ofInt (is))), some (.int (Int32.ofInt (t))), o5], [], h, 0, 0) := by
  obtain ⟨hok, hfr, hlen, htys, hM, hL, hA, hF, ⟨Ft, hFt⟩, ⟨Ct, hCt⟩⟩ := id v
  have hld := am_ld_r hok hL hp hk ht
  have hal : ∀ j, 0 ≤ j ∧ j < 400 → 0 ≤ am_a A p j ∧ am_a A p j ≤ 1 := fun j hj => am_a_r hok hA (by omega) hj
  have hal2 := fun q => hal (am_ld L p k t) ⟨q, by omega⟩
  refine am_Wp.bl 1 (y := (99, [some (.ref 64), some (.int (Int32.ofInt (p))), some (.int (Int32.ofInt (k))), some (.int (Int32.ofInt (is))), some (.int (Int32.ofInt (t))), o5], [.ref 64], h, 0, 0)) (fun _ => rfl) ?_
  refine am_mg100 rfl rfl hok ?_
  refine am_Wp.bl 11 (y := (117, [some (.ref 64), some (.int (Int32.ofInt (p))), some (.int (Int32.ofInt (k))), some (.int (Int32.ofInt (is))), some (.int (Int32.ofInt (t))), o5], [.int (((((Int32.ofInt (400)) * ((Int32.ofInt (p)) - (Int32.ofInt (1)))) + (Int32.ofInt (k))) * (Int32.ofInt (16))) + (Int32.ofInt (t))), .ref 91], h, 0, 0)) (fun _ => rfl) ?_
  simp only [am_oa, am_om, am_os]
  refine am_Wp.ia (w := am_ld L p k (t)) hL (by omega) (by omega) (am_oio _).symm rfl rfl (by decide) ?_
  refine am_Wp.bl 3 (y := (123, [some (.ref 64), some (.int (Int32.ofInt (p))), some (.int (Int32.ofInt (k))), some (.int (Int32.ofInt (is))), some (.int (Int32.ofInt (t))), some (.int (Int32.ofInt (am_ld L p k (t))))], [.int (Int32.ofInt (-1)), .int (Int32.ofInt (am_ld L p k (t)))], h, 0, 0)) (fun _ => rfl) ?_
  refine am_Wp.ic ⟨by omega, by omega⟩ ⟨by omega, by omega⟩ rfl rfl (fun hc => ?_) (fun hc => ?_)
  · have hc : ((am_ld L p k (t) : Int) = -1) := hc
    refine am_Wp.bl 2 (y := (74, [some (.ref 64), some (.int (Int32.ofInt (p))), some (.int (Int32.ofInt (k))), some (.int (Int32.ofInt (is))), some (.int ((Int32.ofInt (t)) + Int32.ofInt (1))), some (.int (Int32.ofInt (am_ld L p k (t))))], [], h, 0, 0)) (fun _ => rfl) ?_
    simp only [am_oa, am_om, am_os]
    exact K h is _ v (Or.inl ⟨rfl, fun q => by unfold am_go2 at q; omega⟩)
  · have hc : ¬ ((am_ld L p k (t) : Int) = -1) := hc
    refine am_Wp.bl 1 (y := (127, [some (.ref 64), some (.int (Int32.ofInt (p))), some (.int (Int32.ofInt (k))), some (.int (Int32.ofInt (is))), some (.int (Int32.ofInt (t))), some (.int (Int32.ofInt (am_ld L p k (t))))], [.ref 64], h, 0, 0)) (fun _ => rfl) ?_
    refine am_mg103 rfl rfl hok ?_
    refine am_Wp.bl 5 (y := (138, [some (.ref 64), some (.int (Int32.ofInt (p))), some (.int (Int32.ofInt (k))), some (.int (Int32.ofInt (is))), some (.int (Int32.ofInt (t))), some (.int (Int32.ofInt (am_ld L p k (t))))], [.int (((Int32.ofInt (400)) * (Int32.ofInt (p))) + (Int32.ofInt (am_ld L p k (t)))), .ref 92], h, 0, 0)) (fun _ => rfl) ?_
    simp only [am_oa, am_om, am_os]
    refine am_Wp.ba (w := am_a A p (am_ld L p k (t))) hA (by omega) (by omega) (am_oio _).symm rfl rfl (by decide) ?_
    refine am_Wp.i0 ⟨by omega, by omega⟩ rfl rfl (fun hd => ?_) (fun hd => ?_)
    · have hd : (¬ (am_a A p (am_ld L p k (t)) : Int) = 0) := hd
      refine am_Wp.bl 3 (y := (148, [some (.ref 64), some (.int (Int32.ofInt (p))), some (.int (Int32.ofInt (k))), some (.int (Int32.ofInt (1))), some (.int (Int32.ofInt (t))), some (.int (Int32.ofInt (am_ld L p k (t))))], [.ref 64], h, 0, 0)) (fun _ => rfl) ?_
      refine am_mg112 rfl rfl hok ?_
      refine am_Wp.bl 4 (y := (155, [some (.ref 64), some (.int (Int32.ofInt (p))), some (.int (Int32.ofInt (k))), some (.int (Int32.ofInt (1))), some (.int (Int32.ofInt (t))), some (.int (Int32.ofInt (am_ld L p k (t))))], [.int ((Int32.ofInt (p)) - (Int32.ofInt (1))), .ref 95, .int ((Int32.ofInt (p)) - (Int32.ofInt (1))), .ref 95], h, 0, 0)) (fun _ => rfl) ?_
      simp only [am_oa, am_om, am_os]
      refine am_Wp.ia (w := (Ct ((p) - (1)).toNat).toInt) hCt (by omega) (by omega) (am_oio _).symm rfl rfl (by decide) ?_
      refine am_Wp.bl 4 (y := (161, [some (.ref 64), some (.int (Int32.ofInt (p))), some (.int (Int32.ofInt (k))), some (.int (Int32.ofInt (1))), some (.int (Int32.ofInt (t))), some (.int (Int32.ofInt (am_ld L p k (t))))], [.int (Int32.ofInt ((Ct ((p) - (1)).toNat).toInt) ||| Int32.ofInt (1) <<< (Int32.ofInt (t) &&& 31)), .int (Int32.ofInt ((p) - (1))), .ref 95], h, 0, 0)) (fun _ => rfl) ?_
      refine am_Wp.is hCt (by omega) (by omega) rfl rfl (by decide) ?_
      have v2 := am_vE.sCt (z := (p) - (1)) (w := Int32.ofInt ((Ct ((p) - (1)).toNat).toInt) ||| Int32.ofInt (1) <<< (Int32.ofInt (t) &&& 31)) v hCt hmo
      generalize h.set 95 (.inl (1, 48, .inl (upd Ct ((p) - (1)).toNat (Int32.ofInt ((Ct ((p) - (1)).toNat).toInt) ||| Int32.ofInt (1) <<< (Int32.ofInt (t) &&& 31))))) = h2 at v2 ⊢
      refine am_Wp.bl 2 (y := (74, [some (.ref 64), some (.int (Int32.ofInt (p))), some (.int (Int32.ofInt (k))), some (.int (Int32.ofInt (1))), some (.int ((Int32.ofInt (t)) + Int32.ofInt (1))), some (.int (Int32.ofInt (am_ld L p k (t))))], [], h2, 0, 0)) (fun _ => rfl) ?_
      simp only [am_oa, am_om, am_os]
      exact K h2 1 _ v2 (Or.inr ⟨rfl, by unfold am_go2; omega⟩)
    · have hd : ¬ (¬ (am_a A p (am_ld L p k (t)) : Int) = 0) := hd
      refine am_Wp.bl 3 (y := (74, [some (.ref 64), some (.int (Int32.ofInt (p))), some (.int (Int32.ofInt (k))), some (.int (Int32.ofInt (is))), some (.int ((Int32.ofInt (t)) + Int32.ofInt (1))), some (.int (Int32.ofInt (am_ld L p k (t))))], [], h, 0, 0)) (fun _ => rfl) ?_
      simp only [am_oa, am_om, am_os]
      exact K h is _ v (Or.inl ⟨rfl, fun q => by unfold am_go2 at q; omega⟩)
set_option maxRecDepth 100000 in
theorem am_lb2t {al : Bool} {d : Nat} {mo : ab_Mo} {h0 : am_H} {len tys : Int} {M L Fx : Nat → Int32} {Φ : am_C → Prop} {A : Nat → Int32} {p k : Int} (hty : 0 ≤ tys ∧ tys ≤ 16) (hp : 1 ≤ p ∧ p ≤ 48) (hk : 0 ≤ k ∧ k < 400) (hmo : ab_md mo 95 0 = true)
    (K : ∀ h is o5, am_vE mo h0 h len tys M L A Fx → (0 ≤ is ∧ is ≤ 1) → (is = 1 ↔ ∃ t, 0 ≤ t ∧ t < am_np Fx tys p ∧ am_go2 L A p k t) → am_Wp al d (0, fun _ => 0) am_r201 Φ (168, [some (.ref 64), some (.int (Int32.ofInt (p))), some (.int (Int32.ofInt (k))), some (.int (Int32.ofInt (is))), some (.int (Int32.ofInt (am_np Fx tys p))), o5], [], h, 0, 0)) :
    ∀ (n : Nat) (t is : Int) (h : am_H) (o5 : Option Value), am_np Fx tys p - t < (n : Int) → 0 ≤ t → t ≤ am_np Fx tys p → (0 ≤ is ∧ is ≤ 1) → (is = 1 ↔ ∃ t', 0 ≤ t' ∧ t' < t ∧ am_go2 L A p k t') → am_vE mo h0 h len tys M L A Fx → am_Wp al d (0, fun _ => 0) am_r201 Φ (74, [some (.ref 64), some (.int (Int32.ofInt (p))), some (.int (Int32.ofInt (k))), some (.int (Int32.ofInt (is))), some (.int (Int32.ofInt (t))), o5], [], h, 0, 0) := by
  intro n
  induction n with
  | zero => intro t is h o5 hn h1 h2; omega
  | succ n ih =>
    intro t is h o5 hn h1 h2 his hi v
    obtain ⟨hok, hfr, hlen, htys, hM, hL, hA, hF, ⟨Ft, hFt⟩, ⟨Ct, hCt⟩⟩ := id v
    have hfr2 := am_fx_r hok hF hp
    refine am_Wp.bl 2 (y := (77, [some (.ref 64), some (.int (Int32.ofInt (p))), some (.int (Int32.ofInt (k))), some (.int (Int32.ofInt (is))), some (.int (Int32.ofInt (t))), o5], [.ref 64, .int (Int32.ofInt (t))], h, 0, 0)) (fun _ => rfl) ?_
    refine am_mg106 rfl rfl hok ?_
    refine am_Wp.bl 3 (y := (83, [some (.ref 64), some (.int (Int32.ofInt (p))), some (.int (Int32.ofInt (k))), some (.int (Int32.ofInt (is))), some (.int (Int32.ofInt (t))), o5], [.int ((Int32.ofInt (p)) - (Int32.ofInt (1))), .ref 93, .int (Int32.ofInt (t))], h, 0, 0)) (fun _ => rfl) ?_
    simp only [am_oa, am_om, am_os]
    refine am_Wp.ba (w := am_fx Fx p) hF (by omega) (by omega) (am_oio _).symm rfl rfl (by decide) ?_
    refine am_Wp.i0 ⟨by omega, by omega⟩ rfl rfl (fun hf => ?_) (fun hf => ?_)
    · have hf : ((am_fx Fx p : Int) = 0) := hf
      have hnp : am_np Fx tys p = tys := if_pos hf
      refine am_Wp.bl 1 (y := (92, [some (.ref 64), some (.int (Int32.ofInt (p))), some (.int (Int32.ofInt (k))), some (.int (Int32.ofInt (is))), some (.int (Int32.ofInt (t))), o5], [.ref 64, .int (Int32.ofInt (t))], h, 0, 0)) (fun _ => rfl) ?_
      refine am_mi278 rfl rfl hok htys ?_
      refine am_Wp.ic ⟨by omega, by omega⟩ ⟨by omega, by omega⟩ rfl rfl (fun hc => ?_) (fun hc => ?_)
      · have hc : (tys ≤ (t : Int)) := hc
        obtain rfl : t = am_np Fx tys p := by omega
        exact K h is o5 v his hi
      · have hc : ¬ (tys ≤ (t : Int)) := hc
        refine am_lb2b hp hk (by omega) hmo v (fun h2 is' o5' v2 hq => ?_)
        refine ih (t + 1) is' h2 o5' (by omega) (by omega) (by omega) (by omega) ?_ v2
        constructor
        · intro q
          rcases hq with ⟨q1, q2⟩ | ⟨q1, q2⟩
          · obtain ⟨t', a1, a2, a3⟩ := hi.mp (by omega)
            exact ⟨t', a1, by omega, a3⟩
          · exact ⟨t, by omega, by omega, q2⟩
        · rintro ⟨t', a1, a2, a3⟩
          rcases hq with ⟨q1, q2⟩ | ⟨q1, q2⟩
          · by_cases q3 : t' = t
            · subst q3
              exact absurd a3 q2
            · rw [q1]
              exact hi.mpr ⟨t', a1, by omega, a3⟩
          · exact q1
    · have hf : ¬ ((am_fx Fx p : Int) = 0) := hf
      have hnp : am_np Fx tys p = 1 := if_neg hf
      refine am_Wp.bl 2 (y := (95, [some (.ref 64), some (.int (Int32.ofInt (p))), some (.int (Int32.ofInt (k))), some (.int (Int32.ofInt (is))), some (.int (Int32.ofInt (t))), o5], [.int (Int32.ofInt (1)), .int (Int32.ofInt (t))], h, 0, 0)) (fun _ => rfl) ?_
      refine am_Wp.ic ⟨by omega, by omega⟩ ⟨by omega, by omega⟩ rfl rfl (fun hc => ?_) (fun hc => ?_)
      · have hc : (1 ≤ (t : Int)) := hc
        obtain rfl : t = am_np Fx tys p := by omega
        exact K h is o5 v his hi
      · have hc : ¬ (1 ≤ (t : Int)) := hc
        refine am_lb2b hp hk (by omega) hmo v (fun h2 is' o5' v2 hq => ?_)
        refine ih (t + 1) is' h2 o5' (by omega) (by omega) (by omega) (by omega) ?_ v2
        constructor
        · intro q
          rcases hq with ⟨q1, q2⟩ | ⟨q1, q2⟩
          · obtain ⟨t', a1, a2, a3⟩ := hi.mp (by omega)
            exact ⟨t', a1, by omega, a3⟩
          · exact ⟨t, by omega, by omega, q2⟩
        · rintro ⟨t', a1, a2, a3⟩
          rcases hq with ⟨q1, q2⟩ | ⟨q1, q2⟩
          · by_cases q3 : t' = t
            · subst q3
              exact absurd a3 q2
            · rw [q1]
              exact hi.mpr ⟨t', a1, by omega, a3⟩
          · exact q1
theorem am_go2_ag {L A A0 : Nat → Int32} {p k t : Int} (hp : 1 ≤ p ∧ p ≤ 48) (hl : -1 ≤ am_ld L p k t ∧ am_ld L p k t ≤ 399) (hag : ∀ j : Nat, 400 * p ≤ (j : Int) → A j = A0 j) : am_go2 L A p k t ↔ am_go2 L A0 p k t := by
  unfold am_go2
  by_cases h0 : 0 ≤ am_ld L p k t
  · have e : am_a A p (am_ld L p k t) = am_a A0 p (am_ld L p k t) := by
      unfold am_a
      rw [hag _ (by omega)]
    rw [e]
  · exact ⟨fun q => absurd q.1 h0, fun q => absurd q.1 h0⟩
theorem am_a_self {A : Nat → Int32} {w : Int32} {p k : Int} (h : 1 ≤ p) : am_a (upd A (((400) * ((p) - (1))) + (k)).toNat w) (p - 1) k = w.toInt := by
  unfold am_a upd
  rw [if_pos rfl]
theorem am_a_ne {A : Nat → Int32} {w : Int32} {p k k' : Int} (h : 1 ≤ p ∧ 0 ≤ k ∧ 0 ≤ k' ∧ ¬ k' = k) : am_a (upd A (((400) * ((p) - (1))) + (k)).toNat w) (p - 1) k' = am_a A (p - 1) k' := by
  unfold am_a upd
  rw [if_neg (by omega)]
set_option maxRecDepth 100000 in
theorem am_lb2k {al : Bool} {d : Nat} {mo : ab_Mo} {h0 : am_H} {len tys : Int} {M L Fx : Nat → Int32} {Φ : am_C → Prop} {A0 : Nat → Int32} {p : Int} (hty : 0 ≤ tys ∧ tys ≤ 16) (hp : 1 ≤ p ∧ p ≤ 48) (hmo : ab_md mo 92 0 = true) (hmo2 : ab_md mo 95 0 = true) (hm : 0 ≤ am_m M (p - 1) ∧ am_m M (p - 1) ≤ 400) (hnp : 0 ≤ am_np Fx tys p ∧ am_np Fx tys p ≤ 16)
    (K : ∀ h A o3 o4 o5, am_vE mo h0 h len tys M L A Fx → (∀ j : Nat, 400 * p ≤ (j : Int) → A j = A0 j) → (∀ k, 0 ≤ k → k < am_m M (p - 1) → (am_a A (p - 1) k = 1 ↔ ∃ t, 0 ≤ t ∧ t < am_np Fx tys p ∧ am_go2 L A0 p k t)) → am_Wp al d (0, fun _ => 0) am_r201 Φ (189, [some (.ref 64), some (.int (Int32.ofInt (p))), some (.int (Int32.ofInt (am_m M (p - 1)))), o3, o4, o5], [], h, 0, 0)) :
    ∀ (n : Nat) (k : Int) (h : am_H) (A : Nat → Int32) (o3 o4 o5 : Option Value), am_m M (p - 1) - k < (n : Int) → 0 ≤ k → k ≤ am_m M (p - 1) → (∀ j : Nat, 400 * p ≤ (j : Int) → A j = A0 j) → (∀ k', 0 ≤ k' → k' < k → (am_a A (p - 1) k' = 1 ↔ ∃ t, 0 ≤ t ∧ t < am_np Fx tys p ∧ am_go2 L A0 p k' t)) → am_vE mo h0 h len tys M L A Fx → am_Wp al d (0, fun _ => 0) am_r201 Φ (57, [some (.ref 64), some (.int (Int32.ofInt (p))), some (.int (Int32.ofInt (k))), o3, o4, o5], [], h, 0, 0) := by
  intro n
  induction n with
  | zero => intro k h A o3 o4 o5 hn h1 h2; omega
  | succ n ih =>
    intro k h A o3 o4 o5 hn h1 h2 hag hi v
    obtain ⟨hok, hfr, hlen, htys, hM, hL, hA, hF, ⟨Ft, hFt⟩, ⟨Ct, hCt⟩⟩ := id v
    refine am_Wp.bl 2 (y := (59, [some (.ref 64), some (.int (Int32.ofInt (p))), some (.int (Int32.ofInt (k))), o3, o4, o5], [.ref 64, .int (Int32.ofInt (k))], h, 0, 0)) (fun _ => rfl) ?_
    refine am_mg96 rfl rfl hok ?_
    refine am_Wp.bl 3 (y := (65, [some (.ref 64), some (.int (Int32.ofInt (p))), some (.int (Int32.ofInt (k))), o3, o4, o5], [.int ((Int32.ofInt (p)) - (Int32.ofInt (1))), .ref 90, .int (Int32.ofInt (k))], h, 0, 0)) (fun _ => rfl) ?_
    simp only [am_oa, am_om, am_os]
    refine am_Wp.ia (w := am_m M (p - 1)) hM (by omega) (by omega) (am_oio _).symm rfl rfl (by decide) ?_
    refine am_Wp.ic ⟨by omega, by omega⟩ ⟨by omega, by omega⟩ rfl rfl (fun hc => ?_) (fun hc => ?_)
    · have hc : (am_m M (p - 1) ≤ (k : Int)) := hc
      obtain rfl : k = am_m M (p - 1) := by omega
      exact K h A o3 o4 o5 v hag hi
    · have hc : ¬ (am_m M (p - 1) ≤ (k : Int)) := hc
      refine am_Wp.bl 4 (y := (74, [some (.ref 64), some (.int (Int32.ofInt (p))), some (.int (Int32.ofInt (k))), some (.int (Int32.ofInt (0))), some (.int (Int32.ofInt (0))), o5], [], h, 0, 0)) (fun _ => rfl) ?_
      have hgo : ∀ k' t', 0 ≤ k' ∧ k' < 400 → 0 ≤ t' ∧ t' < 16 → (am_go2 L A p k' t' ↔ am_go2 L A0 p k' t') := fun k' t' hk' ht' => am_go2_ag hp (am_ld_r hok hL hp hk' ht') hag
      refine am_lb2t hty hp (by omega) hmo2 (fun h2 is o5 v hib his => ?_) ((am_np Fx tys p).toNat + 1) 0 0 h o5 (by omega) (by omega) (by omega) ⟨by omega, by omega⟩ ⟨fun q => by omega, fun ⟨t', a1, a2, a3⟩ => by omega⟩ v
      obtain ⟨hok, hfr, hlen, htys, hM, hL, hA, hF, ⟨Ft2, hFt⟩, ⟨Ct2, hCt⟩⟩ := id v
      refine am_Wp.bl 1 (y := (169, [some (.ref 64), some (.int (Int32.ofInt (p))), some (.int (Int32.ofInt (k))), some (.int (Int32.ofInt (is))), some (.int (Int32.ofInt (am_np Fx tys p))), o5], [.ref 64], h2, 0, 0)) (fun _ => rfl) ?_
      refine am_mg103 rfl rfl hok ?_
      refine am_Wp.bl 8 (y := (182, [some (.ref 64), some (.int (Int32.ofInt (p))), some (.int (Int32.ofInt (k))), some (.int (Int32.ofInt (is))), some (.int (Int32.ofInt (am_np Fx tys p))), o5], [.int (Int32.ofInt (is)), .int (((Int32.ofInt (400)) * ((Int32.ofInt (p)) - (Int32.ofInt (1)))) + (Int32.ofInt (k))), .ref 92], h2, 0, 0)) (fun _ => rfl) ?_
      simp only [am_oa, am_om, am_os]
      refine am_Wp.bs hA (by omega) (by omega) ⟨by rw [am_oi (by omega) (by omega)]; omega, by rw [am_oi (by omega) (by omega)]; omega⟩ rfl rfl (by decide) ?_
      have v3 := am_vE.sA (z := ((400) * ((p) - (1))) + (k)) (w := Int32.ofInt (is)) v ⟨by rw [am_oi (by omega) (by omega)]; omega, by rw [am_oi (by omega) (by omega)]; omega⟩ hmo
      generalize h2.set 92 (.inl (4, 19600, .inl (upd A (((400) * ((p) - (1))) + (k)).toNat (Int32.ofInt (is))))) = h3 at v3 ⊢
      refine am_Wp.bl 2 (y := (57, [some (.ref 64), some (.int (Int32.ofInt (p))), some (.int ((Int32.ofInt (k)) + Int32.ofInt (1))), some (.int (Int32.ofInt (is))), some (.int (Int32.ofInt (am_np Fx tys p))), o5], [], h3, 0, 0)) (fun _ => rfl) ?_
      simp only [am_oa, am_om, am_os]
      refine ih ((k) + (1)) h3 _ _ _ _ (by omega) (by omega) (by omega) (fun j hj => ?_) (fun k' a1 a2 => ?_) v3
      · rw [← hag j hj]
        unfold upd
        rw [if_neg (by omega)]
      · by_cases q : k' = k
        · subst q
          rw [am_a_self (by omega)]
          rw [am_oi (by omega) (by omega), his]
          exact ⟨fun ⟨t, b1, b2, b3⟩ => ⟨t, b1, b2, (hgo _ _ (by omega) (by omega)).mp b3⟩, fun ⟨t, b1, b2, b3⟩ => ⟨t, b1, b2, (hgo _ _ (by omega) (by omega)).mpr b3⟩⟩
        · rw [am_a_ne (by omega)]
          exact hi k' a1 (by omega)
