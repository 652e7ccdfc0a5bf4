/-! ===== M's groups and rules ===== -/
section MT
variable {B : Nat → Int} {N q : Nat} {s s1 : sg_S} {T : rp_T} {F : Int ⊕ Nat}
theorem rm_S.ne {e : Int} (h : rm_S B N (.inl e) s) : ¬ (s.1 64 6).toInt = 0 := by have := h.1; omega
theorem rm_group (hK : rm_K B N s) (hS : rm_S B N (.inr q) s) (hR : rm_R T s) (hT : rp_ok T) (h8 : T.2.1 < 8) : am_SpV 161 [.ref 64] s (fun s2 => sg_fr rm_mo9 rm_ao9 s s2 ∧ rm_ST B N (rp_group B N T q) s2) := by
  refine wp_M_group_ok
    (I16 := fun l1 l3 s1 => sg_fr rm_mo [] s s1 ∧ ∃ (R0 F : Int ⊕ (Int32 × Nat)) (i : Nat), R0 = rp_sb (rp_sb (rp_sb (rp_fs (rp_new B N T q)) (rp_sign B N 61)) (rp_told B N T)) (fun b => rp_list B N T (N + 1) b.1 b.2) ∧ (∀ w q2, rp_new B N T q = .inr (w, q2) → l1 = Int64.ofInt (rd_cd 27 w)) ∧ rm_S B N (rp_fs F) s1 ∧ i ≤ N ∧ (match F with
      | .inl e => R0 = .inl e
      | .inr a => l3 = a.1 ∧ i ≤ a.2 ∧ a.2 ≤ N ∧ rp_list B N T (N + 1 - i) a.1 a.2 = R0))
    (I56 := fun l1 l3 s1 => sg_fr rm_mo [] s s1 ∧ ∃ (R0 : Int ⊕ (Int32 × Nat)), R0 = rp_sb (rp_sb (rp_sb (rp_fs (rp_new B N T q)) (rp_sign B N 61)) (rp_told B N T)) (fun b => rp_list B N T (N + 1) b.1 b.2) ∧ (∀ w q2, rp_new B N T q = .inr (w, q2) → l1 = Int64.ofInt (rd_cd 27 w)) ∧ rm_S B N (rp_fs R0) s1 ∧ ∀ v q2, R0 = .inr (v, q2) → l3 = v) ?_ ?_ ?_
  · intro l1 l3 s1 hI
    obtain ⟨f, R0, F, i, hR0, hl1, hF, hiN, hm⟩ := hI
    have hK1 := hK.fr f (by decide) (by decide)
    have hR1 := hR.fr f (by decide) (by decide)
    unfold wp_M_group_16
    match F, hF, hm with
    | .inl e, hF, hm => exact ⟨fun c => absurd c hF.ne, fun _ => ⟨f, R0, hR0, hl1, by rw [hm]; exact hF, fun v q2 c => by rw [hm] at c; cases c⟩⟩
    | .inr a, hF, hm =>
      obtain ⟨v, q1⟩ := a
      obtain ⟨rfl, g1, g2, g3⟩ := hm
      simp only at g1 g2 g3
      have hF : rm_S B N (.inr q1) s1 := hF
      obtain ⟨h6, ht, hq1⟩ := id hF
      obtain ⟨t3, t4, t5, w1, w3, w4⟩ := id ht
      have un : rp_list B N T (N + 1 - i) l3 q1 = if tk_k B N q1 = 4 ∧ B q1 = 44 then rp_sb (rp_told B N T (tk_x B N q1)) (fun a => rp_list B N T (N - i) (l3 ||| a.1) a.2) else .inr (l3, q1) := by
        rw [show N + 1 - i = (N - i) + 1 by omega]
        rfl
      have fin : ¬ (tk_k B N q1 = 4 ∧ B q1 = 44) → sg_fr rm_mo [] s s1 ∧ ∃ (R0 : Int ⊕ (Int32 × Nat)), R0 = rp_sb (rp_sb (rp_sb (rp_fs (rp_new B N T q)) (rp_sign B N 61)) (rp_told B N T)) (fun b => rp_list B N T (N + 1) b.1 b.2) ∧ (∀ w q2, rp_new B N T q = .inr (w, q2) → l1 = Int64.ofInt (rd_cd 27 w)) ∧ rm_S B N (rp_fs R0) s1 ∧ ∀ v q2, R0 = .inr (v, q2) → l3 = v := by
        intro hc
        have e : R0 = .inr (l3, q1) := by rw [← g3, un, if_neg hc]
        exact ⟨f, R0, hR0, hl1, by rw [e]; exact hF, fun v q2 c => by rw [e] at c; cases c; rfl⟩
      refine ⟨fun _ => ⟨fun c1 => ?_, fun c1 => fin (fun z => c1 (by rw [t5, z.1]; rfl))⟩, fun c => absurd h6 c⟩
      have hk4 : tk_k B N q1 = 4 := by
        rw [t5] at c1
        unfold tk_m at c1
        split at c1 <;> omega
      have hqN := (tk_k4 hk4).1
      have hb := hK1.2.2 q1 hqN
      have hv : s1.2.1 64 8 = Int64.ofInt 44 ↔ B q1 = 44 := by
        rw [w4 hk4, ← rm_i64 hb.1 (v := 44) (by decide) ⟨hb.2.1, hb.2.2⟩, i64_of, hb.1]
      rw [hv]
      refine ⟨fun c2 => ?_, fun c2 => fin (fun z => c2 z.2)⟩
      refine (rm_nextS hK1 hqN t3 h6).mono (fun s3 h5 => ?_)
      obtain ⟨f3, h5⟩ := h5
      have f3' := f.tr f3
      refine (rm_told (hK.fr f3' (by decide) (by decide)) h5 (hR.fr f3' (by decide) (by decide)) hT).mono (fun y s4 h6 => ?_)
      obtain ⟨f4, h6, h7⟩ := h6
      have h6 : rm_S B N (rp_fs (rp_told B N T (tk_x B N q1))) s4 := h6
      have h7 : ∀ v q2, rp_told B N T (tk_x B N q1) = .inr (v, q2) → y = v := h7
      rw [un, if_pos ⟨hk4, c2⟩] at g3
      refine ⟨f3'.tr f4, R0, rp_sb (rp_told B N T (tk_x B N q1)) (fun a => .inr (l3 ||| a.1, a.2)), i + 1, hR0, hl1, ?_, by omega, ?_⟩
      · cases ht : rp_told B N T (tk_x B N q1) with
        | inl e => rw [ht] at h6; exact h6
        | inr a => rw [ht] at h6; exact h6
      · cases ht : rp_told B N T (tk_x B N q1) with
        | inl e => rw [ht] at g3; exact g3.symm
        | inr a =>
          rw [ht] at g3
          have e7 := h7 a.1 a.2 ht
          obtain ⟨u1, u2, u3, u4⟩ := rp_told_gt hT ht
          have := (tk_x_gt (B := B) hqN).1
          refine ⟨by rw [e7], ?_, u3, ?_⟩
          · show i + 1 ≤ a.2
            omega
          · rw [show N + 1 - (i + 1) = N - i by omega]
            exact g3
  · intro l1 l3 s1 hI
    obtain ⟨f, R0, hR0, hl1, hF, hv⟩ := hI
    have hK1 := hK.fr f (by decide) (by decide)
    have hR1 := hR.fr f (by decide) (by decide)
    unfold wp_M_group_56
    have hg : rp_group B N T q = rp_sb (rp_new B N T q) (fun a => rp_sb R0 (fun c => .inr (rp_addG T a.1 c.1, c.2))) := by
      unfold rp_group
      cases hn : rp_new B N T q with
      | inl e => rfl
      | inr a => rw [hR0, hn]; rfl
    cases hR : R0 with
    | inl e =>
      rw [hR] at hF
      refine ⟨fun _ => ⟨f.le (by decide) (by decide), ?_⟩, fun c => absurd hF.1 c⟩
      rw [hg, hR]
      cases hn : rp_new B N T q with
      | inl e2 =>
        have e3 : R0 = .inl e2 := by rw [hR0, hn]; rfl
        rw [hR] at e3
        cases e3
        exact hF
      | inr a => exact hF
    | inr a =>
      obtain ⟨v, q2⟩ := a
      rw [hR] at hF
      have hF : rm_S B N (.inr q2) s1 := hF
      have e3 := hv v q2 hR
      subst e3
      refine ⟨fun c => by have := hF.1; omega, fun _ => ?_⟩
      cases hn : rp_new B N T q with
      | inl e2 =>
        have e3 : R0 = .inl e2 := by rw [hR0, hn]; rfl
        rw [hR] at e3
        cases e3
      | inr b =>
        obtain ⟨w, q3⟩ := b
        refine (rm_addN (w := w) hR1 hT (hl1 w q3 hn)).mono (fun s3 h5 => ?_)
        obtain ⟨f3, h6, h7⟩ := h5
        obtain ⟨f4, h8'⟩ := hR1.addG hT f3 h6 h7
        refine ⟨(f.le (by decide) (by decide)).tr (f4.le (by decide) (by decide)), ?_⟩
        rw [hg, hn, hR]
        refine ⟨hF.fr f4 (by decide), h8', ?_⟩
        rw [hR0, hn] at hR
        obtain ⟨⟨v1, p3⟩, h3, h2⟩ := rp_sb_inr hR
        obtain ⟨p4, h4, h3⟩ := rp_sb_inr h3
        obtain ⟨k1, k2, k3, k4⟩ := rp_told_gt hT h3
        have h5 := rp_list_ge hT _ _ _ _ _ k3 k4 h2
        exact rp_addN_ok hT rfl (by have := hT.1; omega) (by omega) (rp_new_gt hn).2.2.2 h5.2.2
  · unfold wp_M_group
    refine (rm_newn hK hS hR hT).mono (fun x s1 h1 => ?_)
    obtain ⟨f1, h1, hx⟩ := h1
    have h1 : rm_S B N (rp_fs (rp_new B N T q)) s1 := h1
    have hx : ∀ w q2, rp_new B N T q = .inr (w, q2) → x = Int64.ofInt (rd_cd 27 w) := hx
    have e61 : (Int32.ofInt 61).toInt = 61 := rfl
    refine (rm_must (c := Int32.ofInt 61) (by rw [e61]; decide) (hK.fr f1 (by decide) (by decide)) h1).mono (fun s2 h2 => ?_)
    obtain ⟨f2, h2⟩ := h2
    have f2' := f1.tr f2
    refine (rm_told (hK.fr f2' (by decide) (by decide)) h2 (hR.fr f2' (by decide) (by decide)) hT).mono (fun y s3 h3 => ?_)
    obtain ⟨f3, h3, h4⟩ := h3
    rw [e61] at h3 h4
    refine ⟨f2'.tr f3, _, rp_sb (rp_sb (rp_fs (rp_new B N T q)) (rp_sign B N 61)) (rp_told B N T), 0, rfl, hx, h3, Nat.zero_le _, ?_⟩
    cases hF : rp_sb (rp_sb (rp_fs (rp_new B N T q)) (rp_sign B N 61)) (rp_told B N T) with
    | inl e => rfl
    | inr a =>
      obtain ⟨p4, h5, h6⟩ := rp_sb_inr hF
      have h7 := rp_told_gt (v := a.1) (q2 := a.2) hT h6
      exact ⟨h4 a.1 a.2 hF, Nat.zero_le _, h7.2.2.1, rfl⟩
/-- what a rule's numbers and set come to -/
def rm_G (B : Nat → Int) (N : Nat) (s s1 : sg_S) (G : Int ⊕ ((Int32 × Int32 × Int32) × Nat)) (a b c : Int32) : Prop := sg_fr rm_mo [] s s1 ∧ rm_S B N (rp_fs G) s1 ∧ ∀ x q2, G = .inr (x, q2) → a = x.1 ∧ b = x.2.1 ∧ c = x.2.2
theorem rm_rule {k : Int} {x1 : Int32} (hK : rm_K B N s) (hS : rm_S B N (.inr q) s) (hR : rm_R T s) (hT : rp_ok T) (hk : x1.toInt = k) (h12 : T.2.2.1 < 12) : am_SpV 165 [.ref 64, .int x1] s (fun s2 => sg_fr rm_mo9 rm_ao9 s s2 ∧ rm_ST B N (rp_rule B N T k q) s2) := by
  have e1 : (Int32.ofInt 1).toInt = 1 := rfl
  have e0 : (Int32.ofInt 0).toInt = 0 := rfl
  have e9 : (Int32.ofInt 9).toInt = 9 := rfl
  have e45 : (Int32.ofInt 45).toInt = 45 := rfl
  have e48 : (Int32.ofInt 48).toInt = 48 := rfl
  refine wp_M_rule_ok (I16 := fun s1 => s1 = s ∧ (k = 0 ∨ k = 1)) (I98 := fun l3 s1 => s1 = s ∧ (k = 3 ∨ k = 4 ∨ k = 5) ∧ l3 = Int32.ofInt 0) (I153 := fun l2 l3 l4 s1 => rm_G B N s s1 (rp_args B N T k q) l4 l2 l3) ?_ ?_ ?_ ?_
  · intro s1 hI
    obtain ⟨rfl, hk01⟩ := hI
    unfold wp_M_rule_16
    refine (rm_nmb (a := Int32.ofInt 1) (b := Int32.ofInt 48) hK hS).mono (fun x s2 h2 => ?_)
    obtain ⟨f2, h2, v2⟩ := h2
    rw [e1, e48] at h2 v2
    have h2 : rm_S B N (rp_fs (rp_num B N 1 48 q)) s2 := h2
    have v2 : ∀ v q2, rp_num B N 1 48 q = .inr (v, q2) → x.toInt = v := v2
    refine (rm_must (c := Int32.ofInt 45) (by rw [e45]; decide) (hK.fr f2 (by decide) (by decide)) h2).mono (fun s3 h3 => ?_)
    obtain ⟨f3, h3⟩ := h3
    have f3 := f2.tr f3
    rw [e45] at h3
    refine (rm_nmb (a := x) (b := Int32.ofInt 48) (hK.fr f3 (by decide) (by decide)) h3).mono (fun y s4 h4 => ?_)
    obtain ⟨f4, h4, v4⟩ := h4
    have f4 := f3.tr f4
    rw [e48] at h4 v4
    refine (rm_told (hK.fr f4 (by decide) (by decide)) h4 (hR.fr f4 (by decide) (by decide)) hT).mono (fun z s5 h5 => ?_)
    obtain ⟨f5, h5, v5⟩ := h5
    refine ⟨f4.tr f5, ?_, ?_⟩
    · unfold rp_args
      rw [if_pos hk01]
      cases t1 : rp_num B N 1 48 q with
      | inl e => rw [t1] at h5; exact h5
      | inr a =>
        obtain ⟨a, q1⟩ := a
        rw [t1, v2 a q1 t1] at h5
        simp only [rp_fs, rp_sb] at h5 ⊢
        cases t2 : rp_sign B N 45 q1 with
        | inl e => rw [t2] at h5; exact h5
        | inr q2 =>
          rw [t2] at h5
          simp only at h5 ⊢
          cases t3 : rp_num B N a 48 q2 with
          | inl e => rw [t3] at h5; exact h5
          | inr b =>
            rw [t3] at h5
            simp only at h5 ⊢
            cases t4 : rp_told B N T b.2 with
            | inl e => rw [t4] at h5; exact h5
            | inr c => rw [t4] at h5; exact h5
    · intro g q5 hg
      unfold rp_args at hg
      rw [if_pos hk01] at hg
      obtain ⟨⟨a, q1⟩, t1, hg⟩ := rp_sb_inr hg
      obtain ⟨q2, t2, hg⟩ := rp_sb_inr hg
      obtain ⟨⟨b, q3⟩, t3, hg⟩ := rp_sb_inr hg
      obtain ⟨⟨c, q4⟩, t4, hg⟩ := rp_sb_inr hg
      cases hg
      have w2 := v2 a q1 t1
      rw [w2, t1] at v4
      simp only [rp_fs, rp_sb] at v4 t2 t3 t4
      rw [t2] at v4
      have w4 := v4 b q3 t3
      rw [w2, t1] at v5
      simp only [rp_fs, rp_sb] at v5
      rw [t2] at v5
      simp only at v5
      rw [t3] at v5
      have w5 := v5 c q4 t4
      exact ⟨w5, rx_ofI w2, rx_ofI w4⟩
  · intro l3 s1 hI
    obtain ⟨rfl, hk345, rfl⟩ := hI
    unfold wp_M_rule_98
    simp only [hk]
    refine (rm_told hK hS hR hT).mono (fun x s2 h2 => ?_)
    obtain ⟨f2, h2, v2⟩ := h2
    have h2 : rm_S B N (rp_fs (rp_told B N T q)) s2 := h2
    have v2 : ∀ v q2, rp_told B N T q = .inr (v, q2) → x = v := v2
    have gml : ∀ lo hi : Int32, rp_args B N T k q = rp_sb (rp_told B N T q) (fun c => rp_sb (rp_num B N lo.toInt hi.toInt c.2) (fun a => .inr ((c.1, Int32.ofInt a.1, Int32.ofInt 0), a.2))) → am_SpI 164 [.ref 64, .int lo, .int hi] s2 (fun x19 s19 => rm_G B N s1 s19 (rp_args B N T k q) x x19 (Int32.ofInt 0)) := by
      intro lo hi hA
      refine (rm_nmb (a := lo) (b := hi) (hK.fr f2 (by decide) (by decide)) h2).mono (fun y s3 h3 => ?_)
      obtain ⟨f3, h3, v3⟩ := h3
      refine ⟨f2.tr f3, ?_, ?_⟩
      · rw [hA]
        cases t1 : rp_told B N T q with
        | inl e => rw [t1] at h3; exact h3
        | inr a =>
          rw [t1] at h3
          simp only [rp_fs, rp_sb] at h3 ⊢
          cases t2 : rp_num B N lo.toInt hi.toInt a.2 with
          | inl e => rw [t2] at h3; exact h3
          | inr b => rw [t2] at h3; exact h3
      · intro g q5 hg
        rw [hA] at hg
        obtain ⟨⟨c, q1⟩, t1, hg⟩ := rp_sb_inr hg
        obtain ⟨⟨a, q2⟩, t2, hg⟩ := rp_sb_inr hg
        cases hg
        rw [t1] at v3
        exact ⟨v2 c q1 t1, rx_ofI (v3 a q2 t2), rfl⟩
    refine ⟨fun c => gml _ _ ?_, fun c => ⟨fun c4 => gml _ _ ?_, fun c4 => gml _ _ ?_⟩⟩
    · unfold rp_args
      rw [if_neg (by omega), if_neg (by omega), if_pos c]
      rfl
    · unfold rp_args
      rw [if_neg (by omega), if_neg (by omega), if_neg (by omega), if_pos c4]
      rfl
    · unfold rp_args
      rw [if_neg (by omega), if_neg (by omega), if_neg (by omega), if_neg (by omega), if_pos (by omega)]
      rfl
  · intro l2 l3 l4 s1 hI
    obtain ⟨f, hF, hv⟩ := hI
    have hK1 := hK.fr f (by decide) (by decide)
    have hR1 := hR.fr f (by decide) (by decide)
    obtain ⟨r0, r1, r2, r3, r4, r5, rn, rr⟩ := id hR1
    unfold wp_M_rule_153 rp_rule
    simp only [r2, Int.toNat_natCast]
    intro _ _
    have f2 : sg_fr [(64, 11)] [68, 69, 70, 71] s1 (sg_uI (sg_uA (sg_uA (sg_uA (sg_uA s1 68 T.2.2.1 x1) 69 T.2.2.1 l4) 70 T.2.2.1 l2) 71 T.2.2.1 l3) 64 11 (s1.1 64 11 + Int32.ofInt 1)) := ((((sg_fr.rf.uA rfl).uA rfl).uA rfl).uA rfl).uI rfl
    refine ⟨(f.le (by decide) (by decide)).tr (f2.le (by decide) (by decide)), ?_⟩
    cases hG : rp_args B N T k q with
    | inl e =>
      rw [hG] at hF
      exact hF.fr f2 (by decide)
    | inr a =>
      obtain ⟨⟨a1, a2, a3⟩, q2⟩ := a
      rw [hG] at hF
      have hF : rm_S B N (.inr q2) s1 := hF
      obtain ⟨b1, b2, b3⟩ := hv (a1, a2, a3) q2 hG
      simp only at b1 b2 b3
      subst b1; subst b2; subst b3
      refine ⟨hF.fr f2 (by decide), ⟨r0, r1, ?_, r3, r4, r5, rn, fun i hi => ?_⟩, hT.1, hT.2.1, ?_, hT.2.2.2⟩
      · show (s1.1 64 11 + Int32.ofInt 1).toInt = ((T.2.2.1 + 1 : Nat) : Int)
        rw [i32_inc (c := 0) (by omega) (by omega), r2]
        omega
      · have hi2 : i < T.2.2.1 + 1 := hi
        show (if 68 = 71 ∧ i = T.2.2.1 then l3 else if 68 = 70 ∧ i = T.2.2.1 then l2 else if 68 = 69 ∧ i = T.2.2.1 then l4 else if 68 = 68 ∧ i = T.2.2.1 then x1 else s1.2.2.1 68 i) = (if i = T.2.2.1 then (Int32.ofInt k, l4, l2, l3) else rp_rl T i).1 ∧ (if 69 = 71 ∧ i = T.2.2.1 then l3 else if 69 = 70 ∧ i = T.2.2.1 then l2 else if 69 = 69 ∧ i = T.2.2.1 then l4 else if 69 = 68 ∧ i = T.2.2.1 then x1 else s1.2.2.1 69 i) = (if i = T.2.2.1 then (Int32.ofInt k, l4, l2, l3) else rp_rl T i).2.1 ∧ (if 70 = 71 ∧ i = T.2.2.1 then l3 else if 70 = 70 ∧ i = T.2.2.1 then l2 else if 70 = 69 ∧ i = T.2.2.1 then l4 else if 70 = 68 ∧ i = T.2.2.1 then x1 else s1.2.2.1 70 i) = (if i = T.2.2.1 then (Int32.ofInt k, l4, l2, l3) else rp_rl T i).2.2.1 ∧ (if 71 = 71 ∧ i = T.2.2.1 then l3 else if 71 = 70 ∧ i = T.2.2.1 then l2 else if 71 = 69 ∧ i = T.2.2.1 then l4 else if 71 = 68 ∧ i = T.2.2.1 then x1 else s1.2.2.1 71 i) = (if i = T.2.2.1 then (Int32.ofInt k, l4, l2, l3) else rp_rl T i).2.2.2
        by_cases e : i = T.2.2.1
        · simp [e, rx_ofI hk]
        · have := rr i (by omega)
          simp [e, this]
      · show T.2.2.1 + 1 ≤ 12
        omega
  · unfold wp_M_rule
    simp only [hk]
    refine ⟨fun c => ⟨trivial, Or.inl c⟩, fun c0 => ⟨fun c => ⟨trivial, Or.inr c⟩, fun c1 => ⟨fun c => ?_, fun c2 => ⟨fun c => ⟨trivial, Or.inl c, trivial⟩, fun c3 => ⟨fun c => ⟨trivial, Or.inr (Or.inl c), trivial⟩, fun c4 => ⟨fun c => ⟨trivial, Or.inr (Or.inr c), trivial⟩, fun c5 => ⟨fun c => ?_, fun c6 => ?_⟩⟩⟩⟩⟩⟩⟩
    · refine (rm_told hK hS hR hT).mono (fun x s2 h2 => ?_)
      obtain ⟨f2, h2, v2⟩ := h2
      have h2 : rm_S B N (rp_fs (rp_told B N T q)) s2 := h2
      have v2 : ∀ v q2, rp_told B N T q = .inr (v, q2) → x = v := v2
      refine (rm_nmb (a := Int32.ofInt 1) (b := Int32.ofInt 9) (hK.fr f2 (by decide) (by decide)) h2).mono (fun y s3 h3 => ?_)
      obtain ⟨f3, h3, v3⟩ := h3
      rw [e1, e9] at h3 v3
      have f3 := f2.tr f3
      refine (rm_must (c := Int32.ofInt 45) (by rw [e45]; decide) (hK.fr f3 (by decide) (by decide)) h3).mono (fun s4 h4 => ?_)
      obtain ⟨f4, h4⟩ := h4
      have f4 := f3.tr f4
      rw [e45] at h4
      refine (rm_nmb (a := y) (b := Int32.ofInt 9) (hK.fr f4 (by decide) (by decide)) h4).mono (fun z s5 h5 => ?_)
      obtain ⟨f5, h5, v5⟩ := h5
      rw [e9] at h5 v5
      have hA : rp_args B N T k q = rp_sb (rp_told B N T q) (fun c => rp_sb (rp_num B N 1 9 c.2) (fun a => rp_sb (rp_sign B N 45 a.2) (fun q1 => rp_sb (rp_num B N a.1 9 q1) (fun b => .inr ((c.1, Int32.ofInt a.1, Int32.ofInt b.1), b.2))))) := by
        unfold rp_args
        rw [if_neg (by omega), if_pos c]
      refine ⟨f4.tr f5, ?_, ?_⟩
      · rw [hA]
        cases t1 : rp_told B N T q with
        | inl e => rw [t1] at h5; exact h5
        | inr a =>
          rw [t1] at h5 v3
          simp only [rp_fs, rp_sb] at h5 v3 ⊢
          cases t2 : rp_num B N 1 9 a.2 with
          | inl e => rw [t2] at h5; exact h5
          | inr b =>
            rw [t2] at h5
            rw [v3 b.1 b.2 t2] at h5
            simp only at h5 ⊢
            cases t3 : rp_sign B N 45 b.2 with
            | inl e => rw [t3] at h5; exact h5
            | inr q3 =>
              rw [t3] at h5
              simp only at h5 ⊢
              cases t4 : rp_num B N b.1 9 q3 with
              | inl e => rw [t4] at h5; exact h5
              | inr d => rw [t4] at h5; exact h5
      · intro g q6 hg
        rw [hA] at hg
        obtain ⟨⟨cc, q1⟩, t1, hg⟩ := rp_sb_inr hg
        obtain ⟨⟨a, q2⟩, t2, hg⟩ := rp_sb_inr hg
        obtain ⟨q3, t3, hg⟩ := rp_sb_inr hg
        obtain ⟨⟨b, q4⟩, t4, hg⟩ := rp_sb_inr hg
        cases hg
        rw [t1] at v3
        have w3 := v3 a q2 t2
        rw [w3, t1] at v5
        simp only [rp_fs, rp_sb] at v5 t2 t3 t4
        rw [t2] at v5
        simp only at v5
        rw [t3] at v5
        exact ⟨v2 cc q1 t1, rx_ofI w3, rx_ofI (v5 b q4 t4)⟩
    · refine (rm_nmb (a := Int32.ofInt 1) (b := Int32.ofInt 9) hK hS).mono (fun x s2 h2 => ?_)
      obtain ⟨f2, h2, v2⟩ := h2
      rw [e1, e9] at h2 v2
      have hA : rp_args B N T k q = rp_sb (rp_num B N 1 9 q) (fun a => .inr ((Int32.ofInt 0, Int32.ofInt a.1, Int32.ofInt 0), a.2)) := by
        unfold rp_args
        rw [if_neg (by omega), if_neg (by omega), if_neg (by omega), if_neg (by omega), if_neg (by omega), if_pos c]
      have h2 : rm_S B N (rp_fs (rp_num B N 1 9 q)) s2 := h2
      have v2 : ∀ v q2, rp_num B N 1 9 q = .inr (v, q2) → x.toInt = v := v2
      refine ⟨f2, ?_, ?_⟩
      · rw [hA]
        cases t1 : rp_num B N 1 9 q with
        | inl e => rw [t1] at h2; exact h2
        | inr a => rw [t1] at h2; exact h2
      · intro g q5 hg
        rw [hA] at hg
        obtain ⟨⟨a, q1⟩, t1, hg⟩ := rp_sb_inr hg
        cases hg
        exact ⟨rfl, rx_ofI (v2 a q1 t1), rfl⟩
    · have hA : rp_args B N T k q = .inr ((Int32.ofInt 0, Int32.ofInt 0, Int32.ofInt 0), q) := by
        unfold rp_args
        rw [if_neg (by omega), if_neg (by omega), if_neg (by omega), if_neg (by omega), if_neg (by omega), if_neg (by omega)]
      refine ⟨sg_fr.rf, ?_, ?_⟩
      · rw [hA]
        exact hS
      · intro g q5 hg
        rw [hA] at hg
        cases hg
        exact ⟨rfl, rfl, rfl⟩
end MT
