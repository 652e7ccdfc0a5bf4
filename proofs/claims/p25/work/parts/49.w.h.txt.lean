/-! ===== X: rules and the whole text ===== -/
section RR
variable {B : Nat → Int} {N q : Nat} {s s1 : sg_S} {T : rp_T}
/-- what a rule's numbers and set come to -/
def rx_G (B : Nat → Int) (N : Nat) (s s1 : sg_S) (G : Int ⊕ ((Int32 × Int32 × Int32) × Nat)) (a b c : Int32) : Prop := sg_fr rx_mo [] s s1 ∧ rx_S B N (rp_fs G) s1 ∧ ∀ x q2, G = .inr (x, q2) → a = x.1 ∧ b = x.2.1 ∧ c = x.2.2
theorem rx_ofI {x : Int32} {v : Int} (h : x.toInt = v) : x = Int32.ofInt v := by rw [← h, am_oio]
theorem rx_rule {k : Int} {x1 : Int32} (hK : rx_K B N s) (hS : rx_S B N (.inr q) s) (hR : rx_R T s) (hT : rp_ok T) (hk : x1.toInt = k) (h12 : T.2.2.1 < 12) : am_SpV 54 [.ref 8, .int x1] s (fun s2 => sg_fr rx_mo9 rx_ao9 s s2 ∧ rx_ST B N (rp_rule B N T k q) s2) := by
  refine wp_XReader_readRule_ok (I173 := fun l2 l3 l4 s1 => rx_G B N s s1 (rp_args B N T k q) l2 l3 l4) ?_ ?_
  · intro l2 l3 l4 s1 hI
    obtain ⟨f, hF, hv⟩ := hI
    have hK1 := hK.fr f (by decide) (by decide) (by decide)
    have hR1 := hR.fr f (by decide) (by decide)
    unfold wp_XReader_readRule_173 rp_rule
    cases hG : rp_args B N T k q with
    | inl e =>
      rw [hG] at hF
      exact ⟨fun c => absurd (hF.1.symm.trans c) hF.2, fun _ => ⟨f.le (by decide) (by decide), hF⟩⟩
    | inr a =>
      obtain ⟨⟨a1, a2, a3⟩, q2⟩ := a
      rw [hG] at hF
      have hF : rx_S B N (.inr q2) s1 := hF
      obtain ⟨e1, e2, e3⟩ := hv (a1, a2, a3) q2 hG
      simp only at e1 e2 e3
      subst e1; subst e2; subst e3
      refine ⟨fun _ => ?_, fun c => absurd hF.1 c⟩
      refine (rx_addR hR1 hT h12).mono (fun s3 h5 => ?_)
      obtain ⟨f3, h6⟩ := h5
      rw [rx_ofI hk] at h6
      refine ⟨(f.le (by decide) (by decide)).tr (f3.le (by decide) (by decide)), hF.fr f3 (by decide) (by decide), h6, hT.1, hT.2.1, ?_, hT.2.2.2⟩
      show T.2.2.1 + 1 ≤ 12
      omega
  · unfold wp_XReader_readRule
    simp only [hk]
    have e1 : (Int32.ofInt 1).toInt = 1 := rfl
    have e0 : (Int32.ofInt 0).toInt = 0 := rfl
    have e9 : (Int32.ofInt 9).toInt = 9 := rfl
    have e45 : (Int32.ofInt 45).toInt = 45 := rfl
    have e48 : (Int32.ofInt 48).toInt = 48 := rfl
    have at01 : (k = 0 ∨ k = 1) → am_SpI 55 [.ref 8, .int (Int32.ofInt 1), .int (Int32.ofInt 48)] s (fun x3 s3 => am_SpV 56 [.ref 8, .int (Int32.ofInt 45)] s3 (fun s4 => am_SpI 55 [.ref 8, .int x3, .int (Int32.ofInt 48)] s4 (fun x5 s5 => am_SpI 57 [.ref 8] s5 (fun x6 s6 => rx_G B N s s6 (rp_args B N T k q) x6 x3 x5)))) := by
      intro hk01
      refine (rx_nmb (a := Int32.ofInt 1) (b := Int32.ofInt 48) hK hS).mono (fun x s2 h2 => ?_)
      obtain ⟨f2, h2, v2⟩ := h2
      rw [e1, e48] at h2 v2
      have h2 : rx_S B N (rp_fs (rp_num B N 1 48 q)) s2 := h2
      have v2 : ∀ v q2, rp_num B N 1 48 q = .inr (v, q2) → x.toInt = v := v2
      refine (rx_sign (c := Int32.ofInt 45) (hK.fr f2 (by decide) (by decide) (by decide)) h2).mono (fun s3 h3 => ?_)
      obtain ⟨f3, h3⟩ := h3
      have f3 := f2.tr f3
      rw [e45] at h3
      refine (rx_nmb (a := x) (b := Int32.ofInt 48) (hK.fr f3 (by decide) (by decide) (by decide)) h3).mono (fun y s4 h4 => ?_)
      obtain ⟨f4, h4, v4⟩ := h4
      have f4 := f3.tr f4
      rw [e48] at h4 v4
      refine (rx_told (hK.fr f4 (by decide) (by decide) (by decide)) h4 (hR.fr f4 (by decide) (by decide)) hT).mono (fun z s5 h5 => ?_)
      obtain ⟨f5, h5, v5⟩ := h5
      refine ⟨f4.tr f5, ?_, ?_⟩
      · unfold rp_args
        rw [if_pos hk01]
        cases t1 : rp_num B N 1 48 q with
        | inl e => rw [t1] at h5; exact h5
        | inr a =>
          obtain ⟨a, q1⟩ := a
          rw [t1, v2 a q1 t1] at h5
          simp only [rp_fs, rp_sb] at h5 ⊢
          cases t2 : rp_sign B N 45 q1 with
          | inl e => rw [t2] at h5; exact h5
          | inr q2 =>
            rw [t2] at h5
            simp only at h5 ⊢
            cases t3 : rp_num B N a 48 q2 with
            | inl e => rw [t3] at h5; exact h5
            | inr b =>
              rw [t3] at h5
              simp only at h5 ⊢
              cases t4 : rp_told B N T b.2 with
              | inl e => rw [t4] at h5; exact h5
              | inr c => rw [t4] at h5; exact h5
      · intro g q5 hg
        unfold rp_args at hg
        rw [if_pos hk01] at hg
        obtain ⟨⟨a, q1⟩, t1, hg⟩ := rp_sb_inr hg
        obtain ⟨q2, t2, hg⟩ := rp_sb_inr hg
        obtain ⟨⟨b, q3⟩, t3, hg⟩ := rp_sb_inr hg
        obtain ⟨⟨c, q4⟩, t4, hg⟩ := rp_sb_inr hg
        cases hg
        have w2 := v2 a q1 t1
        rw [w2, t1] at v4
        simp only [rp_fs, rp_sb] at v4 t2 t3 t4
        rw [t2] at v4
        have w4 := v4 b q3 t3
        rw [w2, t1] at v5
        simp only [rp_fs, rp_sb] at v5
        rw [t2] at v5
        simp only at v5
        rw [t3] at v5
        have w5 := v5 c q4 t4
        exact ⟨w5, rx_ofI w2, rx_ofI w4⟩
    have gml : ∀ lo hi : Int32, rp_args B N T k q = rp_sb (rp_told B N T q) (fun c => rp_sb (rp_num B N lo.toInt hi.toInt c.2) (fun a => .inr ((c.1, Int32.ofInt a.1, Int32.ofInt 0), a.2))) → am_SpI 57 [.ref 8] s (fun x18 s18 => am_SpI 55 [.ref 8, .int lo, .int hi] s18 (fun x19 s19 => rx_G B N s s19 (rp_args B N T k q) x18 x19 (Int32.ofInt 0))) := by
      intro lo hi hA
      refine (rx_told hK hS hR hT).mono (fun x s2 h2 => ?_)
      obtain ⟨f2, h2, v2⟩ := h2
      have h2 : rx_S B N (rp_fs (rp_told B N T q)) s2 := h2
      have v2 : ∀ v q2, rp_told B N T q = .inr (v, q2) → x = v := v2
      refine (rx_nmb (a := lo) (b := hi) (hK.fr f2 (by decide) (by decide) (by decide)) h2).mono (fun y s3 h3 => ?_)
      obtain ⟨f3, h3, v3⟩ := h3
      refine ⟨f2.tr f3, ?_, ?_⟩
      · rw [hA]
        cases t1 : rp_told B N T q with
        | inl e => rw [t1] at h3; exact h3
        | inr a =>
          rw [t1] at h3
          simp only [rp_fs, rp_sb] at h3 ⊢
          cases t2 : rp_num B N lo.toInt hi.toInt a.2 with
          | inl e => rw [t2] at h3; exact h3
          | inr b => rw [t2] at h3; exact h3
      · intro g q5 hg
        rw [hA] at hg
        obtain ⟨⟨c, q1⟩, t1, hg⟩ := rp_sb_inr hg
        obtain ⟨⟨a, q2⟩, t2, hg⟩ := rp_sb_inr hg
        cases hg
        rw [t1] at v3
        exact ⟨v2 c q1 t1, rx_ofI (v3 a q2 t2), rfl⟩
    refine ⟨fun c => at01 (Or.inl c), fun c => at01 (Or.inr c), fun c => ?_, fun c => gml _ _ ?_, fun c => gml _ _ ?_, fun c => gml _ _ ?_, fun c => ?_, fun c => ?_⟩
    · refine (rx_told hK hS hR hT).mono (fun x s2 h2 => ?_)
      obtain ⟨f2, h2, v2⟩ := h2
      have h2 : rx_S B N (rp_fs (rp_told B N T q)) s2 := h2
      have v2 : ∀ v q2, rp_told B N T q = .inr (v, q2) → x = v := v2
      refine (rx_nmb (a := Int32.ofInt 1) (b := Int32.ofInt 9) (hK.fr f2 (by decide) (by decide) (by decide)) h2).mono (fun y s3 h3 => ?_)
      obtain ⟨f3, h3, v3⟩ := h3
      rw [e1, e9] at h3 v3
      have f3 := f2.tr f3
      refine (rx_sign (c := Int32.ofInt 45) (hK.fr f3 (by decide) (by decide) (by decide)) h3).mono (fun s4 h4 => ?_)
      obtain ⟨f4, h4⟩ := h4
      have f4 := f3.tr f4
      rw [e45] at h4
      refine (rx_nmb (a := y) (b := Int32.ofInt 9) (hK.fr f4 (by decide) (by decide) (by decide)) h4).mono (fun z s5 h5 => ?_)
      obtain ⟨f5, h5, v5⟩ := h5
      rw [e9] at h5 v5
      have hA : rp_args B N T k q = rp_sb (rp_told B N T q) (fun c => rp_sb (rp_num B N 1 9 c.2) (fun a => rp_sb (rp_sign B N 45 a.2) (fun q1 => rp_sb (rp_num B N a.1 9 q1) (fun b => .inr ((c.1, Int32.ofInt a.1, Int32.ofInt b.1), b.2))))) := by
        unfold rp_args
        rw [if_neg (by omega), if_pos c]
      refine ⟨f4.tr f5, ?_, ?_⟩
      · rw [hA]
        cases t1 : rp_told B N T q with
        | inl e => rw [t1] at h5; exact h5
        | inr a =>
          rw [t1] at h5 v3
          simp only [rp_fs, rp_sb] at h5 v3 ⊢
          cases t2 : rp_num B N 1 9 a.2 with
          | inl e => rw [t2] at h5; exact h5
          | inr b =>
            rw [t2] at h5
            rw [v3 b.1 b.2 t2] at h5
            simp only at h5 ⊢
            cases t3 : rp_sign B N 45 b.2 with
            | inl e => rw [t3] at h5; exact h5
            | inr q3 =>
              rw [t3] at h5
              simp only at h5 ⊢
              cases t4 : rp_num B N b.1 9 q3 with
              | inl e => rw [t4] at h5; exact h5
              | inr d => rw [t4] at h5; exact h5
      · intro g q6 hg
        rw [hA] at hg
        obtain ⟨⟨cc, q1⟩, t1, hg⟩ := rp_sb_inr hg
        obtain ⟨⟨a, q2⟩, t2, hg⟩ := rp_sb_inr hg
        obtain ⟨q3, t3, hg⟩ := rp_sb_inr hg
        obtain ⟨⟨b, q4⟩, t4, hg⟩ := rp_sb_inr hg
        cases hg
        rw [t1] at v3
        have w3 := v3 a q2 t2
        rw [w3, t1] at v5
        simp only [rp_fs, rp_sb] at v5 t2 t3 t4
        rw [t2] at v5
        simp only at v5
        rw [t3] at v5
        exact ⟨v2 cc q1 t1, rx_ofI w3, rx_ofI (v5 b q4 t4)⟩
    · unfold rp_args
      rw [if_neg (by omega), if_neg (by omega), if_pos c]
      rfl
    · unfold rp_args
      rw [if_neg (by omega), if_neg (by omega), if_neg (by omega), if_pos c]
      rfl
    · unfold rp_args
      rw [if_neg (by omega), if_neg (by omega), if_neg (by omega), if_neg (by omega), if_pos c]
      rfl
    · refine (rx_nmb (a := Int32.ofInt 1) (b := Int32.ofInt 9) hK hS).mono (fun x s2 h2 => ?_)
      obtain ⟨f2, h2, v2⟩ := h2
      rw [e1, e9] at h2 v2
      have hA : rp_args B N T k q = rp_sb (rp_num B N 1 9 q) (fun a => .inr ((Int32.ofInt 0, Int32.ofInt a.1, Int32.ofInt 0), a.2)) := by
        unfold rp_args
        rw [if_neg (by omega), if_neg (by omega), if_neg (by omega), if_neg (by omega), if_neg (by omega), if_pos c]
      have h2 : rx_S B N (rp_fs (rp_num B N 1 9 q)) s2 := h2
      have v2 : ∀ v q2, rp_num B N 1 9 q = .inr (v, q2) → x.toInt = v := v2
      refine ⟨f2, ?_, ?_⟩
      · rw [hA]
        cases t1 : rp_num B N 1 9 q with
        | inl e => rw [t1] at h2; exact h2
        | inr a => rw [t1] at h2; exact h2
      · intro g q5 hg
        rw [hA] at hg
        obtain ⟨⟨a, q1⟩, t1, hg⟩ := rp_sb_inr hg
        cases hg
        exact ⟨rfl, rx_ofI (v2 a q1 t1), rfl⟩
    · have hA : rp_args B N T k q = .inr ((Int32.ofInt 0, Int32.ofInt 0, Int32.ofInt 0), q) := by
        unfold rp_args
        rw [if_neg (by omega), if_neg (by omega), if_neg (by omega), if_neg (by omega), if_neg (by omega), if_neg (by omega)]
      refine ⟨sg_fr.rf, ?_, ?_⟩
      · rw [hA]
        exact hS
      · intro g q5 hg
        rw [hA] at hg
        cases hg
        exact ⟨rfl, rfl, rfl⟩
theorem rx_other {k : Int} {x1 : Int32} (hK : rx_K B N s) (hS : rx_S B N (.inr q) s) (hR : rx_R T s) (hT : rp_ok T) (hk : x1.toInt = k) (h9 : 9 ≤ k) (h12 : k ≤ 12) (hf : ¬ ((k = 9 ∧ T.1 = 8) ∨ (k = 10 ∧ T.2.1 = 8) ∨ (k < 9 ∧ T.2.2.1 = 12))) : am_SpV 58 [.ref 8, .int x1] s (fun s2 => sg_fr rx_mo9 rx_ao9 s s2 ∧ rx_ST B N (rp_body B N T k q) s2) := by
  have t1 := hT.1
  have t2 := hT.2.1
  have e1 : (Int32.ofInt 1).toInt = 1 := rfl
  have e48 : (Int32.ofInt 48).toInt = 48 := rfl
  have e99 : (Int32.ofInt 99).toInt = 99 := rfl
  refine wp_XReader_readOther_ok ?_
  unfold wp_XReader_readOther rp_body
  simp only [hk]
  refine ⟨fun c => ?_, fun c => ?_, fun c => ?_, fun c => ?_⟩
  · rw [if_pos c]
    exact rx_kind hK hS hR hT (by omega)
  · rw [if_neg (by omega), if_pos c]
    exact rx_group hK hS hR hT (by omega)
  · rw [if_neg (by omega), if_neg (by omega), if_pos c]
    refine (rx_nmb (a := Int32.ofInt 1) (b := Int32.ofInt 48) hK hS).mono (fun x s2 h2 => ?_)
    obtain ⟨f2, h2, v2⟩ := h2
    rw [e1, e48] at h2 v2
    have h2 : rx_S B N (rp_fs (rp_num B N 1 48 q)) s2 := h2
    have v2 : ∀ v q2, rp_num B N 1 48 q = .inr (v, q2) → x.toInt = v := v2
    have f3 : sg_fr [(9, 3)] [] s2 (sg_uI s2 9 3 x) := sg_fr.rf.uI rfl
    refine ⟨(f2.le (by decide) (by decide)).tr (f3.le (by decide) (by decide)), ?_⟩
    have h2 := h2.fr f3 rfl rfl
    cases t1 : rp_num B N 1 48 q with
    | inl e => rw [t1] at h2; exact h2
    | inr a =>
      rw [t1] at h2
      obtain ⟨r0, r1, r2, r3, r4, r5, rn, rr⟩ := hR.fr f2 (by decide) (by decide)
      exact ⟨h2, ⟨r0, r1, r2, v2 a.1 a.2 t1, r4, r5, rn, rr⟩, hT⟩
  · rw [if_neg (by omega), if_neg (by omega), if_neg (by omega), if_pos (by omega)]
    refine (rx_nmb (a := Int32.ofInt 1) (b := Int32.ofInt 99) hK hS).mono (fun x s2 h2 => ?_)
    obtain ⟨f2, h2, v2⟩ := h2
    rw [e1, e99] at h2 v2
    have h2 : rx_S B N (rp_fs (rp_num B N 1 99 q)) s2 := h2
    have v2 : ∀ v q2, rp_num B N 1 99 q = .inr (v, q2) → x.toInt = v := v2
    have f3 : sg_fr [(9, 4)] [] s2 (sg_uI s2 9 4 x) := sg_fr.rf.uI rfl
    refine ⟨(f2.le (by decide) (by decide)).tr (f3.le (by decide) (by decide)), ?_⟩
    have h2 := h2.fr f3 rfl rfl
    cases t1 : rp_num B N 1 99 q with
    | inl e => rw [t1] at h2; exact h2
    | inr a =>
      rw [t1] at h2
      obtain ⟨r0, r1, r2, r3, r4, r5, rn, rr⟩ := hR.fr f2 (by decide) (by decide)
      exact ⟨h2, ⟨r0, r1, r2, r3, v2 a.1 a.2 t1, r5, rn, rr⟩, hT⟩
end RR
