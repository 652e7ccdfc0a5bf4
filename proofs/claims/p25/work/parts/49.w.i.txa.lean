/-! ===== X: the whole text ===== -/
section RX
variable {B : Nat → Int} {N q : Nat} {s s1 : sg_S} {T : rp_T}
theorem rx_many {k : Int} {x1 : Int32} (hR : rx_R T s) (hT : rp_ok T) (hk : x1.toInt = k) (h0 : 0 ≤ k) (h12 : k ≤ 12) : am_SpI 53 [.ref 8, .int x1] s (fun r s2 => s2 = s ∧ ((r.toInt = 0 ∧ ¬ ((k = 9 ∧ T.1 = 8) ∨ (k = 10 ∧ T.2.1 = 8) ∨ (k < 9 ∧ T.2.2.1 = 12))) ∨ (¬ r.toInt = 0 ∧ ((k = 9 ∧ T.1 = 8) ∨ (k = 10 ∧ T.2.1 = 8) ∨ (k < 9 ∧ T.2.2.1 = 12))))) := by
  obtain ⟨r0, r1, r2, r3, r4, r5, rn, rr⟩ := id hR
  have t1 := hT.1
  have t2 := hT.2.1
  have t3 := hT.2.2.1
  refine wp_XReader_isOneTooMany_ok ?_
  unfold wp_XReader_isOneTooMany
  simp only [hk, r0, r1, r2]
  have z0 : (Int32.ofInt 0).toInt = 0 := rfl
  have z1 : ¬ (Int32.ofInt 1).toInt = 0 := by decide
  refine ⟨fun c => ⟨fun d => ⟨trivial, Or.inl ⟨z0, by omega⟩⟩, fun d => ⟨trivial, Or.inr ⟨z1, by omega⟩⟩⟩, fun c => ⟨fun d => ⟨trivial, Or.inl ⟨z0, by omega⟩⟩, fun d => ⟨trivial, Or.inr ⟨z1, by omega⟩⟩⟩, fun c => ⟨trivial, Or.inl ⟨z0, by omega⟩⟩, fun c => ⟨trivial, Or.inl ⟨z0, by omega⟩⟩, fun c => ⟨fun d => ⟨trivial, Or.inl ⟨z0, by omega⟩⟩, fun d => ⟨trivial, Or.inr ⟨z1, by omega⟩⟩⟩⟩
/-- how a text ends -/
def rx_E (R : Int ⊕ rp_T) (x : Int32) (s : sg_S) : Prop := match R with
  | .inl f => x.toInt = f ∧ f ≠ 0
  | .inr T => x.toInt = 0 ∧ rx_R T s ∧ rp_ok T
/-- between a telling and its sign -/
def rx_J (B : Nat → Int) (N : Nat) (s : sg_S) (l : Int32) (s1 : sg_S) : Prop := sg_fr rx_mo9 rx_ao9 s s1 ∧ ∃ (F : Int ⊕ (rp_T × Nat)) (i : Nat), l.toInt = (i : Int) ∧ i ≤ N ∧ rx_ST B N F s1 ∧ (match F with
      | .inl e => rp_text B N (N + 1) rp_T0 (rd_q B N 0) = .inl e
      | .inr a => i < a.2 ∧ a.2 ≤ N ∧ rp_sb (rp_sign B N 59 a.2) (fun q1 => rp_text B N (N - i) a.1 q1) = rp_text B N (N + 1) rp_T0 (rd_q B N 0))
theorem rx_text (hK : rx_K B N s) : am_SpI 45 [.ref 8] s (fun r s2 => sg_fr ((8, 2) :: rx_mo9) rx_ao9 s s2 ∧ (s2.1 8 2).toInt = 0 ∧ rx_E (rp_text B N (N + 1) rp_T0 (rd_q B N 0)) r s2) := by
  refine wp_XReader_readText_ok
    (I19 := fun l s1 => sg_fr rx_mo9 rx_ao9 s s1 ∧ ∃ (F : Int ⊕ (rp_T × Nat)) (i : Nat), l.toInt = (i : Int) ∧ i ≤ N + 1 ∧ rx_ST B N F s1 ∧ (match F with
      | .inl e => rp_text B N (N + 1) rp_T0 (rd_q B N 0) = .inl e
      | .inr a => i ≤ a.2 ∧ a.2 ≤ N ∧ rp_text B N (N + 1 - i) a.1 a.2 = rp_text B N (N + 1) rp_T0 (rd_q B N 0)))
    (I123 := fun s1 => sg_fr rx_mo9 rx_ao9 s s1 ∧ rx_E (rp_text B N (N + 1) rp_T0 (rd_q B N 0)) (s1.1 8 5) s1)
    (I111 := rx_J B N s) ?_ ?_ ?_ ?_
  · intro l s1 hI
    obtain ⟨f0, F, i, hl, hi, hF, hm⟩ := hI
    have hK1 := hK.fr f0 (by decide) (by decide) (by decide)
    unfold wp_XReader_readText_19
    simp only [hl, hK1.1]
    match F, hF, hm with
    | .inl e, hF, hm =>
      have fin : sg_fr rx_mo9 rx_ao9 s s1 ∧ rx_E (rp_text B N (N + 1) rp_T0 (rd_q B N 0)) (s1.1 8 5) s1 := ⟨f0, by rw [hm]; exact hF⟩
      exact ⟨fun _ => fin, fun _ => ⟨fun c => absurd (hF.1.symm.trans c) hF.2, fun _ => fin⟩⟩
    | .inr (T, q), hF, hm =>
      obtain ⟨hS, hR, hT⟩ := hF
      obtain ⟨g1, g2, g3⟩ := hm
      simp only at g1 g2 g3 hS hR hT
      refine ⟨fun c => absurd c (by omega), fun c1 => ⟨fun _ => ?_, fun c => absurd hS.1 c⟩⟩
      have un : rp_text B N (N + 1 - i) T q = if tk_k B N q = 0 then .inr T else rp_sb (rp_tell B N T q) (fun a => rp_sb (rp_sign B N 59 a.2) (fun q1 => rp_text B N (N - i) a.1 q1)) := by
        rw [show N + 1 - i = (N - i) + 1 by omega]
        rfl
      refine (rx_scanS hK1 hS).mono (fun s2 hs => ?_)
      obtain ⟨f, hK2, ht, h5, hq⟩ := hs
      have hR2 := hR.fr f (by decide) (by decide)
      have f1 : sg_fr rx_mo9 rx_ao9 s s2 := f0.tr (f.le (by decide) (by decide))
      obtain ⟨t4, t7, t6, t1, t3, tS⟩ := id ht
      refine ⟨fun c => ?_, fun c => ?_⟩
      · have hk0 : tk_k B N q = 0 := by
          rw [t6] at c
          split at c
          · exact absurd c (by decide)
          · exact c
        rw [← g3, un, if_pos hk0]
        exact ⟨f1, h5, hR2, hT⟩
      · have hk0 : ¬ tk_k B N q = 0 := fun z => c (by rw [t6, z, if_neg (fun z => absurd z.1 (by decide))])
        rw [un, if_neg hk0] at g3
        have hqN : q < N := by rw [tk_k0] at hk0; omega
        -- a fault at this telling's first token
        have bad : ∀ k : Int, (1 ≤ k ∧ k ≤ 9) → rp_tell B N T q = .inl (k + 10 * (q : Int)) → am_SpV 52 [.ref 8, .int (Int32.ofInt k)] s2 (fun s4 => rx_J B N s l s4) := by
          intro k hk hn
          refine (rx_fault (N := N) k hk hK2.2.1 hq h5 t7).mono (fun s4 h4 => ?_)
          refine ⟨f1.tr (h4.1.le (by decide) (by decide)), .inl (k + 10 * (q : Int)), i, hl, by omega, ⟨h4.2.2.2, by omega⟩, ?_⟩
          rw [hn] at g3
          exact g3.symm
        -- a telling that is read
        have good : ∀ s4, sg_fr rx_mo9 rx_ao9 s2 s4 → rx_ST B N (rp_tell B N T q) s4 → rx_J B N s l s4 := by
          intro s4 hK4 h4
          refine ⟨f1.tr hK4, rp_tell B N T q, i, hl, by omega, h4, ?_⟩
          cases hn : rp_tell B N T q with
          | inl e =>
            rw [hn] at g3
            exact g3.symm
          | inr a =>
            obtain ⟨T2, q2⟩ := a
            rw [hn] at g3
            have h6 := rp_tell_gt hT hn
            refine ⟨?_, h6.2.2.1, g3⟩
            show i < q2
            omega
        refine ⟨fun c2 => ?_, fun c2 => bad 1 (by decide) ?_⟩
        · have hk1 : tk_k B N q = 1 ∧ rd_kw (tk_w B N q) ≠ -1 := by
            rw [t6] at c2
            split at c2
            · exact absurd c2 (by decide)
            · rename_i hne
              exact ⟨c2, fun z => hne ⟨c2, z⟩⟩
          have hnum := (t1 hk1.1).2 hk1.2
          have hlt := rd_kn_lt (tk_w B N q) 13
          have hk0 : 0 ≤ rd_kw (tk_w B N q) := by
            have h1 := hlt.1
            have h2 := hk1.2
            unfold rd_kw at h2 ⊢
            omega
          have hk12 : rd_kw (tk_w B N q) ≤ 12 := by
            have h1 := hlt.2
            unfold rd_kw
            omega
          have hS2 := ht.S hqN h5
          refine (rx_many hR2 hT hnum hk0 hk12).mono (fun x s3 h3 => ?_)
          obtain ⟨rfl, h3⟩ := h3
          simp only [hnum]
          refine ⟨fun c3 => ?_, fun c3 => bad 2 (by decide) ?_⟩
          · have hf : ¬ ((rd_kw (tk_w B N q) = 9 ∧ T.1 = 8) ∨ (rd_kw (tk_w B N q) = 10 ∧ T.2.1 = 8) ∨ (rd_kw (tk_w B N q) < 9 ∧ T.2.2.1 = 12)) := by
              rcases h3 with h3 | h3
              · exact h3.2
              · exact absurd c3 h3.1
            have et : rp_tell B N T q = rp_body B N T (rd_kw (tk_w B N q)) (tk_x B N q) := by
              unfold rp_tell
              rw [if_pos hk1, if_neg hf]
            have t3 := hT.2.2.1
            refine ⟨fun c4 => ?_, fun c4 => ?_⟩
            · refine (rx_other hK2 hS2 hR2 hT hnum (by omega) hk12 hf).mono (fun s4 h4 => good s4 h4.1 ?_)
              rw [et]
              exact h4.2
            · refine (rx_rule hK2 hS2 hR2 hT hnum (by omega)).mono (fun s4 h4 => good s4 h4.1 ?_)
              rw [et]
              unfold rp_body
              rw [if_neg (by omega), if_neg (by omega), if_neg (by omega), if_neg (by omega)]
              exact h4.2
          · unfold rp_tell
            rw [if_pos hk1, if_pos (by rcases h3 with h3 | h3; exact absurd h3.1 c3; exact h3.2)]
        · unfold rp_tell
          rw [if_neg (fun z => c2 (by rw [t6, if_neg (fun y => z.2 y.2)]; exact z.1))]
  · intro s1 hI
    unfold wp_XReader_readText_123
    obtain ⟨f0, hI⟩ := hI
    refine ⟨(f0.le (by decide) (by decide)).uI rfl, rfl, ?_⟩
    generalize hR0 : rp_text B N (N + 1) rp_T0 (rd_q B N 0) = R0 at hI
    match R0, hI with
    | .inl e, hI => exact hI
    | .inr T, hI =>
      have f : sg_fr [(8, 2)] [] s1 (sg_uI s1 8 2 (Int32.ofInt 0)) := sg_fr.rf.uI rfl
      exact ⟨hI.1, hI.2.1.fr f (by decide) (by decide), hI.2.2⟩
  · intro l s1 hI
    obtain ⟨f0, F, i, hl, hi, hF, hm⟩ := hI
    have hK1 := hK.fr f0 (by decide) (by decide) (by decide)
    have hN := hK.2.1
    unfold wp_XReader_readText_111
    refine (rx_sign (c := Int32.ofInt 59) hK1 hF.S).mono (fun s2 h2 => ?_)
    obtain ⟨f, h2⟩ := h2
    have hK2 : sg_fr rx_mo9 rx_ao9 s s2 := f0.tr (f.le (by decide) (by decide))
    have hinc : (l + Int32.ofInt 1).toInt = ((i + 1 : Nat) : Int) := by
      rw [i32_inc (c := 0) (by omega) (by omega), hl]
      rfl
    match F, hF, hm, h2 with
    | .inl e, hF, hm, h2 => exact ⟨hK2, .inl e, i + 1, hinc, by omega, h2, hm⟩
    | .inr (T, q), hF, hm, h2 =>
      obtain ⟨g1, g2, g3⟩ := hm
      simp only at g1 g2 g3
      have h2 : rx_S B N (rp_sign B N 59 q) s2 := h2
      cases hs : rp_sign B N 59 q with
      | inl e =>
        rw [hs] at h2 g3
        exact ⟨hK2, .inl e, i + 1, hinc, by omega, h2, g3.symm⟩
      | inr q2 =>
        rw [hs] at h2 g3
        have h3 := rp_sign_gt hs
        refine ⟨hK2, .inr (T, q2), i + 1, hinc, by omega, ⟨h2, hF.2.1.fr f (by decide) (by decide), hF.2.2⟩, ?_, h3.2.2, ?_⟩
        · show i + 1 ≤ q2
          omega
        · rw [show N + 1 - (i + 1) = N - i by omega]
          exact g3
  · unfold wp_XReader_readText
    refine wp_XRules_clear_9_ok ?_
    unfold wp_XRules_clear_9
    refine ⟨?_, .inr (rp_T0, rd_q B N 0), 0, rfl, by omega, ⟨⟨rfl, 0, rfl, Nat.zero_le _, rfl⟩, ⟨rfl, rfl, rfl, rfl, rfl, rfl, fun i hi => absurd hi (Nat.not_lt_zero i), fun i hi => absurd hi (Nat.not_lt_zero i)⟩, Nat.zero_le _, Nat.zero_le _, Nat.zero_le _, fun i hi => absurd hi (Nat.not_lt_zero i)⟩, Nat.zero_le _, rd_to_le (Nat.zero_le _), rfl⟩
    have f : sg_fr [(8, 4), (8, 5), (9, 0), (9, 1), (9, 2), (9, 3), (9, 4), (9, 5)] [] s (sg_uI (sg_uI (sg_uI (sg_uI (sg_uI (sg_uI (sg_uI (sg_uI s 9 0 (Int32.ofInt 0)) 9 1 (Int32.ofInt 0)) 9 2 (Int32.ofInt 0)) 9 3 (Int32.ofInt 36)) 9 4 (Int32.ofInt 99)) 9 5 (Int32.ofInt 0)) 8 4 (Int32.ofInt 0)) 8 5 (Int32.ofInt 0)) := (((((((sg_fr.rf.uI rfl).uI rfl).uI rfl).uI rfl).uI rfl).uI rfl).uI rfl).uI rfl
    exact f.le (by decide) (by decide)
end RX
