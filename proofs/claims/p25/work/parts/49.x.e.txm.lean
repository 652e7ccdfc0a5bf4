/-! ===== M's tellings and its whole text ===== -/
section MX
variable {B : Nat → Int} {N q : Nat} {s s1 : sg_S} {T : rp_T}
theorem rm_tell (hK : rm_K B N s) (hS : rm_S B N (.inr q) s) (hR : rm_R T s) (hT : rp_ok T) : am_SpV 155 [.ref 64] s (fun s2 => sg_fr rm_mo9 rm_ao9 s s2 ∧ rm_ST B N (rp_tell B N T q) s2) := by
  obtain ⟨h6, ht, hq⟩ := id hS
  obtain ⟨t3, t4, t5, w1, w3, w4⟩ := id ht
  obtain ⟨r0, r1, r2, r3, r4, r5, rn, rr⟩ := id hR
  have e1 : (Int32.ofInt 1).toInt = 1 := rfl
  have e48 : (Int32.ofInt 48).toInt = 48 := rfl
  have e99 : (Int32.ofInt 99).toInt = 99 := rfl
  have g1 := hT.1
  have g2 := hT.2.1
  have g3 := hT.2.2.1
  have bad : ∀ k : Int, (1 ≤ k ∧ k ≤ 9) → rp_tell B N T q = .inl (k + 10 * (q : Int)) → am_SpV 157 [.ref 64, .int (Int32.ofInt k)] s (fun s4 => sg_fr rm_mo9 rm_ao9 s s4 ∧ rm_ST B N (rp_tell B N T q) s4) := by
    intro k hk hn
    rw [hn]
    exact (rm_wrong (B := B) (N := N) k hk (Nat.le_trans hq hK.2.1) h6 t4).mono (fun s4 h4 => ⟨h4.1.le (by decide) (by decide), h4.2⟩)
  refine wp_M_telling_ok (I71 := fun l s1 => s1 = s ∧ l.toInt = rd_kw (tk_w B N q) ∧ tk_k B N q = 1 ∧ rd_kw (tk_w B N q) ≠ -1 ∧ ¬ ((rd_kw (tk_w B N q) = 9 ∧ T.1 = 8) ∨ (rd_kw (tk_w B N q) = 10 ∧ T.2.1 = 8) ∨ (rd_kw (tk_w B N q) < 9 ∧ T.2.2.1 = 12)))
    (I63 := fun s1 => s1 = s ∧ tk_k B N q = 1 ∧ rd_kw (tk_w B N q) ≠ -1 ∧ ((rd_kw (tk_w B N q) = 9 ∧ T.1 = 8) ∨ (rd_kw (tk_w B N q) = 10 ∧ T.2.1 = 8) ∨ (rd_kw (tk_w B N q) < 9 ∧ T.2.2.1 = 12))) ?_ ?_ ?_
  · intro l s1 hI
    obtain ⟨rfl, hl, hk1, hkw, hf⟩ := hI
    have et : rp_tell B N T q = rp_body B N T (rd_kw (tk_w B N q)) (tk_x B N q) := by
      unfold rp_tell
      rw [if_pos ⟨hk1, hkw⟩, if_neg hf]
    have hlt := rd_kn_lt (tk_w B N q) 13
    have hk0 : 0 ≤ rd_kw (tk_w B N q) := by
      have h1 := hlt.1
      unfold rd_kw at hkw ⊢
      omega
    have hk12 : rd_kw (tk_w B N q) ≤ 12 := by
      have h1 := hlt.2
      unfold rd_kw
      omega
    rw [et]
    unfold wp_M_telling_71
    generalize rd_kw (tk_w B N q) = k at hl hk0 hk12 hf
    simp only [hl]
    refine (rm_nextS hK (tk_k1 hk1).1 t3 h6).mono (fun s2 h2 => ?_)
    obtain ⟨f2, hS2⟩ := h2
    have hK2 := hK.fr f2 (by decide) (by decide)
    have hR2 := hR.fr f2 (by decide) (by decide)
    have f2' : sg_fr rm_mo9 rm_ao9 s1 s2 := f2.le (by decide) (by decide)
    unfold rp_body
    refine ⟨fun c => ?_, fun c9 => ⟨fun c => ?_, fun c10 => ⟨fun c => ?_, fun c11 => ⟨fun c => ?_, fun c12 => ?_⟩⟩⟩⟩
    · rw [if_pos c]
      refine (rm_newn hK2 hS2 hR2 hT).mono (fun x s3 h3 => ?_)
      obtain ⟨f3, h3, h4⟩ := h3
      have hK3 := hK2.fr f3 (by decide) (by decide)
      have hR3 := hR2.fr f3 (by decide) (by decide)
      have h3 : rm_S B N (rp_fs (rp_new B N T (tk_x B N q))) s3 := h3
      unfold rp_kind
      cases hn : rp_new B N T (tk_x B N q) with
      | inl e =>
        rw [hn] at h3
        exact ⟨fun _ => ⟨f2'.tr (f3.le (by decide) (by decide)), h3⟩, fun c => absurd h3.1 c⟩
      | inr a =>
        obtain ⟨w, q2⟩ := a
        rw [hn] at h3
        have h3 : rm_S B N (.inr q2) s3 := h3
        have h4 := h4 w q2 hn
        obtain ⟨u1, u2, u3, u4⟩ := rp_new_gt hn
        refine ⟨fun c => by have := h3.1; omega, fun _ => ?_⟩
        have e0 : s3.1 64 9 = Int32.ofInt (T.1 : Int) := by rw [← am_oio (s3.1 64 9), hR3.1]
        rw [e0]
        refine (rm_addN (w := w) (v := rp_kset T.1) hR3 hT h4).mono (fun s4 h5 => ?_)
        obtain ⟨f4, h6', h7⟩ := h5
        obtain ⟨f5, h8⟩ := hR3.addK hT f4 h6' h7
        exact ⟨(f2'.tr (f3.le (by decide) (by decide))).tr (f5.le (by decide) (by decide)), h3.fr f5 (by decide), h8, rp_addN_ok hT rfl (by omega) (by omega) u4 (rp_kset_le (by omega))⟩
    · rw [if_neg (by omega), if_pos c]
      exact (rm_group hK2 hS2 hR2 hT (by omega)).mono (fun s3 h3 => ⟨f2'.tr h3.1, h3.2⟩)
    · rw [if_neg (by omega), if_neg (by omega), if_pos c]
      refine (rm_nmb (a := Int32.ofInt 1) (b := Int32.ofInt 48) hK2 hS2).mono (fun x s3 h3 => ?_)
      obtain ⟨f3, h3, v3⟩ := h3
      rw [e1, e48] at h3 v3
      have h3 : rm_S B N (rp_fs (rp_num B N 1 48 (tk_x B N q))) s3 := h3
      have v3 : ∀ v q2, rp_num B N 1 48 (tk_x B N q) = .inr (v, q2) → x.toInt = v := v3
      have f4 : sg_fr [(64, 12)] [] s3 (sg_uI s3 64 12 x) := sg_fr.rf.uI rfl
      refine ⟨(f2'.tr (f3.le (by decide) (by decide))).tr (f4.le (by decide) (by decide)), ?_⟩
      have h3 := h3.fr f4 (by decide)
      cases u1 : rp_num B N 1 48 (tk_x B N q) with
      | inl e => rw [u1] at h3; exact h3
      | inr a =>
        rw [u1] at h3
        obtain ⟨p0, p1, p2, p3, p4, p5, pn, pr⟩ := hR2.fr f3 (by decide) (by decide)
        exact ⟨h3, ⟨p0, p1, p2, v3 a.1 a.2 u1, p4, p5, pn, pr⟩, hT⟩
    · rw [if_neg (by omega), if_neg (by omega), if_neg (by omega), if_pos c]
      refine (rm_nmb (a := Int32.ofInt 1) (b := Int32.ofInt 99) hK2 hS2).mono (fun x s3 h3 => ?_)
      obtain ⟨f3, h3, v3⟩ := h3
      rw [e1, e99] at h3 v3
      have h3 : rm_S B N (rp_fs (rp_num B N 1 99 (tk_x B N q))) s3 := h3
      have v3 : ∀ v q2, rp_num B N 1 99 (tk_x B N q) = .inr (v, q2) → x.toInt = v := v3
      have f4 : sg_fr [(64, 13)] [] s3 (sg_uI s3 64 13 x) := sg_fr.rf.uI rfl
      refine ⟨(f2'.tr (f3.le (by decide) (by decide))).tr (f4.le (by decide) (by decide)), ?_⟩
      have h3 := h3.fr f4 (by decide)
      cases u1 : rp_num B N 1 99 (tk_x B N q) with
      | inl e => rw [u1] at h3; exact h3
      | inr a =>
        rw [u1] at h3
        obtain ⟨p0, p1, p2, p3, p4, p5, pn, pr⟩ := hR2.fr f3 (by decide) (by decide)
        exact ⟨h3, ⟨p0, p1, p2, p3, v3 a.1 a.2 u1, p5, pn, pr⟩, hT⟩
    · rw [if_neg (by omega), if_neg (by omega), if_neg (by omega), if_neg (by omega)]
      exact (rm_rule hK2 hS2 hR2 hT hl (by omega)).mono (fun s3 h3 => ⟨f2'.tr h3.1, h3.2⟩)
  · intro s1 hI
    obtain ⟨rfl, hk1, hkw, hf⟩ := hI
    unfold wp_M_telling_63
    refine bad 2 (by decide) ?_
    unfold rp_tell
    rw [if_pos ⟨hk1, hkw⟩, if_pos hf]
  · unfold wp_M_telling
    refine (rm_kw ht).mono (fun x s2 h2 => ?_)
    obtain ⟨rfl, h2⟩ := h2
    by_cases hk1 : tk_k B N q = 1
    · rw [if_pos hk1] at h2
      have hno : ∀ (c : ¬ x.toInt = -1), rd_kw (tk_w B N q) ≠ -1 := fun c => by rw [← h2]; exact c
      refine ⟨fun c => bad 1 (by decide) ?_, fun c => ?_⟩
      · unfold rp_tell
        rw [if_neg (fun z => z.2 (by rw [← h2]; exact c))]
      · have ok : ¬ ((x.toInt = 9 ∧ T.1 = 8) ∨ (x.toInt = 10 ∧ T.2.1 = 8) ∨ (x.toInt < 9 ∧ T.2.2.1 = 12)) → s2 = s2 ∧ x.toInt = rd_kw (tk_w B N q) ∧ tk_k B N q = 1 ∧ rd_kw (tk_w B N q) ≠ -1 ∧ ¬ ((rd_kw (tk_w B N q) = 9 ∧ T.1 = 8) ∨ (rd_kw (tk_w B N q) = 10 ∧ T.2.1 = 8) ∨ (rd_kw (tk_w B N q) < 9 ∧ T.2.2.1 = 12)) := fun z => ⟨rfl, h2, hk1, hno c, by rw [← h2]; exact z⟩
        have no : ((x.toInt = 9 ∧ T.1 = 8) ∨ (x.toInt = 10 ∧ T.2.1 = 8) ∨ (x.toInt < 9 ∧ T.2.2.1 = 12)) → s2 = s2 ∧ tk_k B N q = 1 ∧ rd_kw (tk_w B N q) ≠ -1 ∧ ((rd_kw (tk_w B N q) = 9 ∧ T.1 = 8) ∨ (rd_kw (tk_w B N q) = 10 ∧ T.2.1 = 8) ∨ (rd_kw (tk_w B N q) < 9 ∧ T.2.2.1 = 12)) := fun z => ⟨rfl, hk1, hno c, by rw [← h2]; exact z⟩
        refine ⟨fun d1 => ⟨fun d2 => no (by omega), fun d2 => ⟨fun d3 => by omega, fun d3 => ⟨fun d4 => by omega, fun d4 => ok (by omega)⟩⟩⟩, fun d1 => ⟨fun d2 => ⟨fun d3 => no (by omega), fun d3 => ⟨fun d4 => by omega, fun d4 => ok (by omega)⟩⟩, fun d2 => ⟨fun d3 => ⟨fun d4 => no (by omega), fun d4 => ok (by omega)⟩, fun d3 => ok (by omega)⟩⟩⟩
    · rw [if_neg hk1] at h2
      refine ⟨fun c => bad 1 (by decide) ?_, fun c => absurd h2 c⟩
      unfold rp_tell
      rw [if_neg (fun z => hk1 z.1)]
/-- how M's text ends, ahead of what begins anew -/
theorem rm_text {Ψ : Int32 → sg_S → Prop} (hK : rm_K B N s) (hI : ∀ x s2, sg_fr ((64, 2) :: rm_mo9) rm_ao9 s s2 → (match rp_text B N (N + 1) rp_T0 (rd_q B N 0) with
    | .inl f => x.toInt = f ∧ f ≠ 0
    | .inr _ => False) → (s2.1 64 2).toInt = 0 → Ψ x s2) (hB : ∀ T s2, sg_fr ((64, 2) :: rm_mo9) rm_ao9 s s2 → rp_text B N (N + 1) rp_T0 (rd_q B N 0) = .inr T → rm_R T s2 → rp_ok T → (s2.1 64 2).toInt = 0 → am_SpV 166 [.ref 64] s2 (fun s3 => Ψ (Int32.ofInt 0) s3)) : am_SpI 151 [.ref 64] s Ψ := by
  have hN := hK.2.1
  refine wp_M_read_ok (I46 := fun s1 => sg_fr rm_mo9 rm_ao9 s s1 ∧ ∃ (F : Int ⊕ (rp_T × Nat)) (i : Nat), i ≤ N + 1 ∧ rm_ST B N F s1 ∧ (match F with
      | .inl e => rp_text B N (N + 1) rp_T0 (rd_q B N 0) = .inl e
      | .inr a => i ≤ a.2 ∧ a.2 ≤ N ∧ rp_text B N (N + 1 - i) a.1 a.2 = rp_text B N (N + 1) rp_T0 (rd_q B N 0))) ?_ ?_
  · intro s1 hI1
    obtain ⟨f0, F, i, hi, hF, hm⟩ := hI1
    have hK1 := hK.fr f0 (by decide) (by decide)
    have fz : sg_fr ((64, 2) :: rm_mo9) rm_ao9 s (sg_uI s1 64 2 (Int32.ofInt 0)) := (f0.le (by decide) (by decide)).uI rfl
    unfold wp_M_read_46
    match F, hF, hm with
    | .inl e, hF, hm =>
      have hF : rm_S B N (.inl e) s1 := hF
      obtain ⟨z1, z2, z3, z4, z5⟩ := id hF
      refine ⟨fun c => absurd c hF.ne, fun _ => ⟨fun _ => hI _ _ fz ?_ rfl, fun c => absurd z1 c⟩⟩
      rw [hm]
      have e10 : (Int32.ofInt 10).toInt = 10 := rfl
      have em : (Int32.ofInt 10 * s1.1 64 7).toInt = 10 * (s1.1 64 7).toInt := by rw [i32_mul (by rw [e10]; omega) (by rw [e10]; omega), e10]
      refine ⟨?_, by omega⟩
      rw [i32_add (by omega) (by omega), em]
      exact z2
    | .inr (T, q), hF, hm =>
      obtain ⟨hS, hR, hT⟩ := hF
      obtain ⟨g1, g2, g3⟩ := hm
      simp only at g1 g2 g3 hS hR hT
      obtain ⟨h6, ht, hq⟩ := id hS
      have un : rp_text B N (N + 1 - i) T q = if tk_k B N q = 0 then .inr T else rp_sb (rp_tell B N T q) (fun a => rp_sb (rp_sign B N 59 a.2) (fun q1 => rp_text B N (N - i) a.1 q1)) := by
        rw [show N + 1 - i = (N - i) + 1 by omega]
        rfl
      refine ⟨fun _ => ⟨fun c1 => ⟨fun c => by omega, fun _ => ?_⟩, fun c1 => ?_⟩, fun c => absurd h6 c⟩
      · have hk0 : tk_k B N q = 0 := by
          rw [ht.2.2.1] at c1
          unfold tk_m at c1
          have := tk_k_cases (B := B) (N := N) (q := q)
          split at c1 <;> omega
        have f : sg_fr [(64, 2)] [] s1 (sg_uI s1 64 2 (Int32.ofInt 0)) := sg_fr.rf.uI rfl
        exact hB T _ fz (by rw [← g3, un, if_pos hk0]) (hR.fr f (by decide) (by decide)) hT rfl
      · have hk0 : ¬ tk_k B N q = 0 := fun z => c1 (by rw [ht.2.2.1, z]; rfl)
        rw [un, if_neg hk0] at g3
        have hqN : q < N := by rw [tk_k0] at hk0; omega
        refine (rm_tell hK1 hS hR hT).mono (fun s2 h2 => ?_)
        obtain ⟨f1, h2⟩ := h2
        have f1 := f0.tr f1
        have hK2 := hK.fr f1 (by decide) (by decide)
        have e59 : (Int32.ofInt 59).toInt = 59 := rfl
        refine (rm_must (c := Int32.ofInt 59) (by rw [e59]; decide) hK2 h2.S).mono (fun s3 h3 => ?_)
        obtain ⟨f, h3⟩ := h3
        rw [e59] at h3
        have hK3 : sg_fr rm_mo9 rm_ao9 s s3 := f1.tr (f.le (by decide) (by decide))
        cases hn : rp_tell B N T q with
        | inl e =>
          rw [hn] at g3 h3
          exact ⟨hK3, .inl e, i, hi, h3, g3.symm⟩
        | inr a =>
          obtain ⟨T2, q2⟩ := a
          rw [hn] at g3 h3 h2
          have h6 := rp_tell_gt hT hn
          have h3 : rm_S B N (rp_sign B N 59 q2) s3 := h3
          have g3 : rp_sb (rp_sign B N 59 q2) (fun q1 => rp_text B N (N - i) T2 q1) = rp_text B N (N + 1) rp_T0 (rd_q B N 0) := g3
          cases hs : rp_sign B N 59 q2 with
          | inl e =>
            rw [hs] at h3 g3
            exact ⟨hK3, .inl e, i, hi, h3, g3.symm⟩
          | inr q3 =>
            rw [hs] at h3 g3
            have h7 := rp_sign_gt hs
            refine ⟨hK3, .inr (T2, q3), i + 1, by omega, ⟨h3, h2.2.1.fr f (by decide) (by decide), h2.2.2⟩, ?_, h7.2.2, ?_⟩
            · show i + 1 ≤ q3
              omega
            · rw [show N + 1 - (i + 1) = N - i by omega]
              exact g3
  · unfold wp_M_read
    have f : sg_fr [(64, 3), (64, 6), (64, 9), (64, 10), (64, 11), (64, 12), (64, 13), (64, 16)] [] s (sg_uI (sg_uI (sg_uI (sg_uI (sg_uI (sg_uI (sg_uI (sg_uI s 64 3 (Int32.ofInt 0)) 64 6 (Int32.ofInt 0)) 64 9 (Int32.ofInt 0)) 64 10 (Int32.ofInt 0)) 64 11 (Int32.ofInt 0)) 64 16 (Int32.ofInt 0)) 64 12 (Int32.ofInt 36)) 64 13 (Int32.ofInt 99)) := (((((((sg_fr.rf.uI rfl).uI rfl).uI rfl).uI rfl).uI rfl).uI rfl).uI rfl).uI rfl
    have hR0 : rm_R rp_T0 (sg_uI (sg_uI (sg_uI (sg_uI (sg_uI (sg_uI (sg_uI (sg_uI s 64 3 (Int32.ofInt 0)) 64 6 (Int32.ofInt 0)) 64 9 (Int32.ofInt 0)) 64 10 (Int32.ofInt 0)) 64 11 (Int32.ofInt 0)) 64 16 (Int32.ofInt 0)) 64 12 (Int32.ofInt 36)) 64 13 (Int32.ofInt 99)) := ⟨rfl, rfl, rfl, rfl, rfl, rfl, fun i hi => absurd hi (Nat.not_lt_zero i), fun i hi => absurd hi (Nat.not_lt_zero i)⟩
    have h3 : ((sg_uI (sg_uI (sg_uI (sg_uI (sg_uI (sg_uI (sg_uI (sg_uI s 64 3 (Int32.ofInt 0)) 64 6 (Int32.ofInt 0)) 64 9 (Int32.ofInt 0)) 64 10 (Int32.ofInt 0)) 64 11 (Int32.ofInt 0)) 64 16 (Int32.ofInt 0)) 64 12 (Int32.ofInt 36)) 64 13 (Int32.ofInt 99)).1 64 3).toInt = ((0 : Nat) : Int) := rfl
    have h6 : ((sg_uI (sg_uI (sg_uI (sg_uI (sg_uI (sg_uI (sg_uI (sg_uI s 64 3 (Int32.ofInt 0)) 64 6 (Int32.ofInt 0)) 64 9 (Int32.ofInt 0)) 64 10 (Int32.ofInt 0)) 64 11 (Int32.ofInt 0)) 64 16 (Int32.ofInt 0)) 64 12 (Int32.ofInt 36)) 64 13 (Int32.ofInt 99)).1 64 6).toInt = 0 := rfl
    have hK1 := hK.fr f (by decide) (by decide)
    refine (rm_next hK1 h3 (Nat.zero_le _)).mono (fun s2 h2 => ?_)
    obtain ⟨f2, h2⟩ := h2
    refine ⟨(f.le (by decide) (by decide)).tr (f2.le (by decide) (by decide)), .inr (rp_T0, rd_q B N 0), 0, Nat.zero_le _, ⟨⟨by rw [f2.i (by decide)]; exact h6, h2, rd_to_le (Nat.zero_le _)⟩, hR0.fr f2 (by decide) (by decide), Nat.zero_le _, Nat.zero_le _, Nat.zero_le _, fun i hi => absurd hi (Nat.not_lt_zero i)⟩, Nat.zero_le _, rd_to_le (Nat.zero_le _), rfl⟩
end MX
