/-! ===== X: groups, rules, the whole text ===== -/
theorem rx_S.fr {B : Nat → Int} {N : Nat} {F : Int ⊕ Nat} {s s2 : sg_S} {mo : List (Nat × Nat)} {ao : List Nat} (h : rx_S B N F s) (f : sg_fr mo ao s s2) (h1 : (mo.contains (8, 5)) = false) (h2 : (mo.contains (8, 4)) = false) : rx_S B N F s2 := by
  match F, h with
  | .inl e, h => exact ⟨by rw [f.i h1]; exact h.1, h.2⟩
  | .inr q, h =>
    obtain ⟨z1, p, z2, z3, z4⟩ := h
    exact ⟨by rw [f.i h1]; exact z1, p, by rw [f.i h2]; exact z2, z3, z4⟩
theorem rx_group {B : Nat → Int} {N q : Nat} {s : sg_S} {T : rp_T} (hK : rx_K B N s) (hS : rx_S B N (.inr q) s) (hR : rx_R T s) (hT : rp_ok T) (h8 : T.2.1 < 8) : am_SpV 61 [.ref 8] s (fun s2 => sg_fr rx_mo9 rx_ao9 s s2 ∧ rx_ST B N (rp_group B N T q) s2) := by
  refine wp_XReader_readGroup_ok
    (I19 := fun l1 l3 l4 s1 => sg_fr rx_mo [] s s1 ∧ ∃ (R0 F : Int ⊕ (Int32 × Nat)) (i : Nat), R0 = rp_sb (rp_sb (rp_sb (rp_fs (rp_new B N T q)) (rp_sign B N 61)) (rp_told B N T)) (fun b => rp_list B N T (N + 1) b.1 b.2) ∧ (∀ w q2, rp_new B N T q = .inr (w, q2) → l1 = Int64.ofInt (rd_cd 32 w)) ∧ rx_S B N (rp_fs F) s1 ∧ l4.toInt = (i : Int) ∧ i ≤ N ∧ (match F with
      | .inl e => R0 = .inl e
      | .inr a => l3 = a.1 ∧ i ≤ a.2 ∧ a.2 ≤ N ∧ rp_list B N T (N + 1 - i) a.1 a.2 = R0))
    (I63 := fun l1 l3 s1 => sg_fr rx_mo [] s s1 ∧ ∃ (R0 : Int ⊕ (Int32 × Nat)), R0 = rp_sb (rp_sb (rp_sb (rp_fs (rp_new B N T q)) (rp_sign B N 61)) (rp_told B N T)) (fun b => rp_list B N T (N + 1) b.1 b.2) ∧ (∀ w q2, rp_new B N T q = .inr (w, q2) → l1 = Int64.ofInt (rd_cd 32 w)) ∧ rx_S B N (rp_fs R0) s1 ∧ ∀ v q2, R0 = .inr (v, q2) → l3 = v) ?_ ?_ ?_
  · -- the loop
    intro l1 l3 l4 s1 hI
    obtain ⟨f, R0, F, i, hR0, hl1, hF, hi, hiN, hm⟩ := hI
    have hK1 := hK.fr f (by decide) (by decide) (by decide)
    have hR1 := hR.fr f (by decide) (by decide)
    unfold wp_XReader_readGroup_19
    simp only [hi, hK1.1]
    match F, hF, hm with
    | .inl e, hF, hm =>
      have fin : sg_fr rx_mo [] s s1 ∧ ∃ (R0 : Int ⊕ (Int32 × Nat)), R0 = rp_sb (rp_sb (rp_sb (rp_fs (rp_new B N T q)) (rp_sign B N 61)) (rp_told B N T)) (fun b => rp_list B N T (N + 1) b.1 b.2) ∧ (∀ w q2, rp_new B N T q = .inr (w, q2) → l1 = Int64.ofInt (rd_cd 32 w)) ∧ rx_S B N (rp_fs R0) s1 ∧ ∀ v q2, R0 = .inr (v, q2) → l3 = v := ⟨f, R0, hR0, hl1, by rw [hm]; exact hF, fun v q2 c => by rw [hm] at c; cases c⟩
      exact ⟨fun _ => ⟨fun c => absurd (hF.1.symm.trans c) hF.2, fun _ => fin⟩, fun _ => fin⟩
    | .inr a, hF, hm =>
      obtain ⟨v, q1⟩ := a
      obtain ⟨rfl, g1, g2, g3⟩ := hm
      simp only at g1 g2 g3
      have hF : rx_S B N (.inr q1) s1 := hF
      have fin : ∀ s2, sg_fr rx_mo [] s s2 → rx_S B N (.inr q1) s2 → R0 = .inr (l3, q1) → sg_fr rx_mo [] s s2 ∧ ∃ (R0 : Int ⊕ (Int32 × Nat)), R0 = rp_sb (rp_sb (rp_sb (rp_fs (rp_new B N T q)) (rp_sign B N 61)) (rp_told B N T)) (fun b => rp_list B N T (N + 1) b.1 b.2) ∧ (∀ w q2, rp_new B N T q = .inr (w, q2) → l1 = Int64.ofInt (rd_cd 32 w)) ∧ rx_S B N (rp_fs R0) s2 ∧ ∀ v q2, R0 = .inr (v, q2) → l3 = v := fun s2 f2 h2 e => ⟨f2, R0, hR0, hl1, by rw [e]; exact h2, fun v q2 c => by rw [e] at c; cases c; rfl⟩
      have un : rp_list B N T (N + 1 - i) l3 q1 = if tk_k B N q1 = 4 ∧ B q1 = 44 then rp_sb (rp_told B N T (tk_x B N q1)) (fun a => rp_list B N T (N - i) (l3 ||| a.1) a.2) else .inr (l3, q1) := by
        rw [show N + 1 - i = (N - i) + 1 by omega]
        rfl
      refine ⟨fun c1 => ⟨fun _ => ?_, fun c => absurd hF.1 c⟩, fun c1 => ?_⟩
      · refine (rx_sgn hK1 hF).mono (fun x s2 h2 => ?_)
        obtain ⟨f2, h3, h4⟩ := h2
        have f2' := f.tr f2
        have hK2 := hK.fr f2' (by decide) (by decide) (by decide)
        refine ⟨fun c2 => ?_, fun c2 => ?_⟩
        · refine fin s2 f2' h3 ?_
          rw [← g3, un, if_neg (by rcases h4 with h4 | h4; exact h4.2; exact absurd c2 h4.1)]
        · have hc : tk_k B N q1 = 4 ∧ B q1 = 44 := by
            rcases h4 with h4 | h4
            · exact absurd h4.1 c2
            · exact h4.2
          refine (rx_sign (c := Int32.ofInt 44) hK2 h3).mono (fun s3 h5 => ?_)
          obtain ⟨f3, h5⟩ := h5
          have f3' := f2'.tr f3
          have hK3 := hK.fr f3' (by decide) (by decide) (by decide)
          have hR3 := hR.fr f3' (by decide) (by decide)
          have es : rp_sb (.inr q1) (rp_sign B N (Int32.ofInt 44).toInt) = .inr (tk_x B N q1) := by
            show rp_sign B N 44 q1 = _
            unfold rp_sign
            rw [if_pos hc]
          rw [es] at h5
          refine (rx_told hK3 h5 hR3 hT).mono (fun y s4 h6 => ?_)
          obtain ⟨f4, h6, h7⟩ := h6
          have h6 : rx_S B N (rp_fs (rp_told B N T (tk_x B N q1))) s4 := h6
          have h7 : ∀ v q2, rp_told B N T (tk_x B N q1) = .inr (v, q2) → y = v := h7
          have hinc : (l4 + Int32.ofInt 1).toInt = ((i + 1 : Nat) : Int) := by
            have := hK.2.1
            rw [i32_inc (c := 0) (by omega) (by omega), hi]
            rfl
          rw [un, if_pos hc] at g3
          refine ⟨f3'.tr f4, R0, rp_sb (rp_told B N T (tk_x B N q1)) (fun a => .inr (l3 ||| a.1, a.2)), i + 1, hR0, hl1, ?_, hinc, by omega, ?_⟩
          · cases ht : rp_told B N T (tk_x B N q1) with
            | inl e => rw [ht] at h6; exact h6
            | inr a => rw [ht] at h6; exact h6
          · cases ht : rp_told B N T (tk_x B N q1) with
            | inl e => rw [ht] at g3; exact g3.symm
            | inr a =>
              rw [ht] at g3
              have e7 := h7 a.1 a.2 ht
              obtain ⟨u1, u2, u3, u4⟩ := rp_told_gt hT ht
              have := (tk_x_gt (B := B) (tk_k4 hc.1).1).1
              refine ⟨by rw [e7], ?_, u3, ?_⟩
              · show i + 1 ≤ a.2
                omega
              · rw [show N + 1 - (i + 1) = N - i by omega]
                exact g3
      · refine fin s1 f hF ?_
        rw [← g3, un, if_neg (fun c => by have := (tk_k4 c.1).1; omega)]
  · -- behind it
    intro l1 l3 s1 hI
    obtain ⟨f, R0, hR0, hl1, hF, hv⟩ := hI
    have hK1 := hK.fr f (by decide) (by decide) (by decide)
    have hR1 := hR.fr f (by decide) (by decide)
    unfold wp_XReader_readGroup_63
    have hg : rp_group B N T q = rp_sb (rp_new B N T q) (fun a => rp_sb R0 (fun c => .inr (rp_addG T a.1 c.1, c.2))) := by
      unfold rp_group
      cases hn : rp_new B N T q with
      | inl e => rfl
      | inr a => rw [hR0, hn]; rfl
    cases hR : R0 with
    | inl e =>
      rw [hR] at hF
      refine ⟨fun c => absurd (hF.1.symm.trans c) hF.2, fun _ => ⟨f.le (by decide) (by decide), ?_⟩⟩
      rw [hg, hR]
      cases hn : rp_new B N T q with
      | inl e2 =>
        have e3 : R0 = .inl e2 := by rw [hR0, hn]; rfl
        rw [hR] at e3
        cases e3
        exact hF
      | inr a => exact hF
    | inr a =>
      obtain ⟨v, q2⟩ := a
      rw [hR] at hF
      have hF : rx_S B N (.inr q2) s1 := hF
      have e3 := hv v q2 hR
      subst e3
      refine ⟨fun _ => ?_, fun c => absurd hF.1 c⟩
      cases hn : rp_new B N T q with
      | inl e2 =>
        have e3 : R0 = .inl e2 := by rw [hR0, hn]; rfl
        rw [hR] at e3
        cases e3
      | inr b =>
        obtain ⟨w, q3⟩ := b
        refine (rx_addG (w := w) hR1 hT h8 (hl1 w q3 hn)).mono (fun s3 h5 => ?_)
        obtain ⟨f3, h6⟩ := h5
        refine ⟨(f.le (by decide) (by decide)).tr (f3.le (by decide) (by decide)), ?_⟩
        rw [hg, hn, hR]
        refine ⟨hF.fr f3 (by decide) (by decide), h6, ?_⟩
        rw [hR0, hn] at hR
        obtain ⟨⟨v1, p3⟩, h3, h2⟩ := rp_sb_inr hR
        obtain ⟨p4, h4, h3⟩ := rp_sb_inr h3
        obtain ⟨k1, k2, k3, k4⟩ := rp_told_gt hT h3
        have h5 := rp_list_ge hT _ _ _ _ _ k3 k4 h2
        exact rp_addN_ok hT rfl (by have := hT.1; omega) (by omega) (rp_new_gt hn).2.2.2 h5.2.2
  · -- ahead of it
    unfold wp_XReader_readGroup
    refine (rx_newn hK hS hR hT).mono (fun x s1 h1 => ?_)
    obtain ⟨f1, h1, hx⟩ := h1
    have h1 : rx_S B N (rp_fs (rp_new B N T q)) s1 := h1
    have hx : ∀ w q2, rp_new B N T q = .inr (w, q2) → x = Int64.ofInt (rd_cd 32 w) := hx
    have hK1 := hK.fr f1 (by decide) (by decide) (by decide)
    refine (rx_sign (c := Int32.ofInt 61) hK1 h1).mono (fun s2 h2 => ?_)
    obtain ⟨f2, h2⟩ := h2
    have f2' := f1.tr f2
    have hK2 := hK.fr f2' (by decide) (by decide) (by decide)
    have hR2 := hR.fr f2' (by decide) (by decide)
    refine (rx_told hK2 h2 hR2 hT).mono (fun y s3 h3 => ?_)
    obtain ⟨f3, h3, h4⟩ := h3
    have e61 : (Int32.ofInt 61).toInt = 61 := rfl
    rw [e61] at h3 h4
    refine ⟨f2'.tr f3, _, rp_sb (rp_sb (rp_fs (rp_new B N T q)) (rp_sign B N 61)) (rp_told B N T), 0, rfl, hx, h3, rfl, Nat.zero_le _, ?_⟩
    cases hF : rp_sb (rp_sb (rp_fs (rp_new B N T q)) (rp_sign B N 61)) (rp_told B N T) with
    | inl e => rfl
    | inr a =>
      obtain ⟨p4, h5, h6⟩ := rp_sb_inr hF
      have h7 := rp_told_gt (v := a.1) (q2 := a.2) hT h6
      exact ⟨h4 a.1 a.2 hF, Nat.zero_le _, h7.2.2.1, rfl⟩
