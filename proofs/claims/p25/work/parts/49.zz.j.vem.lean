/-! ===== both look at a verse alike ===== -/
theorem ln_xm {t u : Nat → Int32} {A B : Int32} {K : Nat} (hK : K ≤ 8) (hs : ∀ i j, i < 8 → j < 8 → u (8 * i + j) = u (8 * j + i)) (ht : ∀ i, i < 64 → t i = u i) (a0 : 0 ≤ A.toInt) (a1 : A.toInt < (rp_kset K).toInt) (b0 : 0 ≤ B.toInt) (b1 : B.toInt < (rp_kset K).toInt) : ln_ t A B 8 ↔ ln_ u B A K := by
  rw [← ln_sym hK hs]
  unfold ln_
  rw [lg_8 hK a0 a1 b0 b1, lg_congr hK ht]
def a0_ (f : Nat → Int32) (m : Nat) : Int32 := if m = 0 then Int32.ofInt (-1) else f (m - 1)
def a1_ (f : Nat → Int32) (m : Nat) : Int32 := if m ≤ 1 then Int32.ofInt (-1) else f (m - 2)
theorem bx_bm {t u W w F f : Nat → Int32} {K m : Nat} {v a b c : Int32} {ρ : Int32 × Int32 × Int32 × Int32} {n len : Int} (hK : K ≤ 8) (hs : ∀ i j, i < 8 → j < 8 → u (8 * i + j) = u (8 * j + i)) (ht : ∀ i, i < 64 → t i = u i) (hF : F (m + 1) = v) (hF2 : ∀ i, i < m → F (i + 1) = f i) (hv : 0 ≤ v.toInt ∧ v.toInt < (rp_kset K).toInt) (hf : ∀ i, i < m → 0 ≤ (f i).toInt ∧ (f i).toInt < (rp_kset K).toInt) (hW : W (3 * (m + 1)) = a ∧ W (3 * (m + 1) + 1) = b ∧ W (3 * (m + 1) + 2) = c) (hW2 : ∀ k, k < 3 * m → W (k + 3) = w k) : bx_ t W F ρ n (m + 1) len ↔ bm_ u w K (a0_ f m) (a1_ f m) v a b c ρ n ((m + 1 : Nat) : Int) len := by
  have hag : wag_ W (m + 1) ρ.2.2.1.toInt ↔ ag_ w a b c ((m + 1 : Nat) : Int) ρ.2.2.1.toInt := by
    rw [wag_ag (by omega), hW.1, hW.2.1, hW.2.2]
    exact ag_congr (fun k hk => hW2 k (by omega))
  have h7 : (1 < m + 1 ∧ ¬ ln_ t (F (m + 1 - 1)) (F (m + 1)) 8) ↔ (¬ (a0_ f m).toInt = -1 ∧ ¬ ln_ u v (a0_ f m) K) := by
    unfold a0_
    by_cases hm : m = 0
    · rw [if_pos hm]
      exact ⟨fun z => by omega, fun z => absurd rfl z.1⟩
    · rw [if_neg hm]
      have e : F (m + 1 - 1) = f (m - 1) := by
        have := hF2 (m - 1) (by omega)
        rw [show m - 1 + 1 = m + 1 - 1 by omega] at this
        exact this
      have r := hf (m - 1) (by omega)
      rw [e, hF, ln_xm hK hs ht r.1 r.2 hv.1 hv.2]
      exact ⟨fun z => ⟨by omega, z.2⟩, fun z => ⟨by omega, z.2⟩⟩
  have h8 : (2 < m + 1 ∧ ln_ t (F (m + 1 - 2)) (F (m + 1)) 8) ↔ (¬ (a1_ f m).toInt = -1 ∧ ln_ u v (a1_ f m) K) := by
    unfold a1_
    by_cases hm : m ≤ 1
    · rw [if_pos hm]
      exact ⟨fun z => by omega, fun z => absurd rfl z.1⟩
    · rw [if_neg hm]
      have e : F (m + 1 - 2) = f (m - 2) := by
        have := hF2 (m - 2) (by omega)
        rw [show m - 2 + 1 = m + 1 - 2 by omega] at this
        exact this
      have r := hf (m - 2) (by omega)
      rw [e, hF, ln_xm hK hs ht r.1 r.2 hv.1 hv.2]
      exact ⟨fun z => ⟨by omega, z.2⟩, fun z => ⟨by omega, z.2⟩⟩
  unfold bx_ bm_ br_
  rw [hag, h7, h8, hF]
  constructor
  · rintro (z | z | z | z)
    · exact Or.inl (Or.inl z)
    · exact Or.inr z
    · exact Or.inl (Or.inr (Or.inl z))
    · exact Or.inl (Or.inr (Or.inr z))
  · rintro ((z | z | z) | z)
    · exact Or.inl z
    · exact Or.inr (Or.inr (Or.inl z))
    · exact Or.inr (Or.inr (Or.inr z))
    · exact Or.inr (Or.inl z)
section VM
variable {s : sg_S} {x1 x2 x3 x4 : Int32} {T : rp_T} {n m : Nat}
def vm_ok (T : rp_T) (s : sg_S) (n m : Nat) : Prop := rp_ok T ∧ rk_ T ∧ rm_RU T s ∧ ((s.1 64 34).toInt = (n : Int) ∧ n ≤ 100) ∧ (0 ≤ T.2.2.2.1 ∧ T.2.2.2.1 ≤ 48) ∧ (s.1 64 40).toInt = (m : Int) ∧ (m : Int) ≤ T.2.2.2.1 ∧ ∀ i, i < 64 → -9 ≤ (s.2.2.1 81 i).toInt ∧ (s.2.2.1 81 i).toInt ≤ 9
/-- what the verse would break, by M -/
def mb_ (T : rp_T) (s : sg_S) (n m : Nat) (a b c : Int32) (r : Int) : Prop := fb_ (fun k => bm_ (s.2.2.1 81) (s.2.2.1 85) T.1 (a0_ (s.2.2.1 84) m) (a1_ (s.2.2.1 84) m) (g3_ (s.2.2.1 78) (s.2.2.1 79) (s.2.2.1 80) n (s.1 64 33).toInt a b c) a b c (rp_rl T k) (nb_ (rp_rl T k) (s.2.2.1 84) m) ((m + 1 : Nat) : Int) T.2.2.2.1) T.2.2.1 r
theorem sm_next1 {Ψ : Int32 → sg_S → Prop} (h : vm_ok T s n m) (hlt : (m : Int) < T.2.2.2.1) (kk : ∀ r s2, sg_fr [] [82] s s2 → mb_ T s n m x1 x2 x3 r.toInt → Ψ r s2) : am_SpV 184 [.ref 64] s (fun s6 => am_SpI 187 [.ref 64, .int x1, .int x2, .int x3, .int (s6.1 64 40 + Int32.ofInt 1)] s6 (fun x7 s7 => Ψ x7 s7)) := by
  obtain ⟨hT, hk, hU, ⟨hn, h100⟩, hl, hm, hml, ht⟩ := h
  have h12 := hT.2.2.1
  refine (sm_sheet hU hk rfl h12 hm (by omega)).mono (fun s1 h1 => ?_)
  obtain ⟨f, g0, g1, gn⟩ := h1
  have hU1 : rm_RU T s1 := by
    unfold rm_RU
    rw [f.i rfl, f.i rfl, f.i rfl, f.i rfl, f.i rfl, f.a rfl, f.a rfl, f.a rfl, f.a rfl]
    exact hU
  have hp : (s1.1 64 40 + Int32.ofInt 1).toInt = ((m + 1 : Nat) : Int) := by
    rw [f.i rfl, i32_inc (c := 0) (by omega) (by omega), hm]
    rfl
  have ht1 : ∀ i, i < 64 → -9 ≤ (s1.2.2.1 81 i).toInt ∧ (s1.2.2.1 81 i).toInt ≤ 9 := by
    rw [f.a rfl]
    exact ht
  have hnn : ∀ k, k < T.2.2.1 → 0 ≤ (s1.2.2.1 82 (2 + k)).toInt ∧ (s1.2.2.1 82 (2 + k)).toInt ≤ 48 := by
    intro k hkR
    obtain ⟨r1, r2, r3⟩ := hk k hkR
    rw [gn k hkR]
    exact no_le r1.1 r2.2 (p := (m : Int)) (by omega) (by omega) (nb_no r2.1 m)
  refine (sm_brokenBy (K := T.1) (n := n) hU1 hk rfl h12 hT.1 hU1.1 ht1 hU1.2.2.2.1 hl hp (by omega) hnn (by rw [f.i rfl]; exact hn) h100).mono (fun r s2 h2 => ?_)
  obtain ⟨rfl, h2⟩ := h2
  refine kk r s2 f ?_
  rw [f.a (b := 81) rfl, f.a (b := 85) rfl, f.a (b := 78) rfl, f.a (b := 79) rfl, f.a (b := 80) rfl, f.i (b := 64) (j := 33) rfl, g0, g1] at h2
  unfold mb_
  exact fb_cg (fun k hkR => by rw [gn k hkR]; exact Iff.rfl) h2
theorem sm_Breaks (h : vm_ok T s n m) : am_SpI 193 [.ref 64, .int x1, .int x2, .int x3] s (fun r s2 => sg_fr [] [82] s s2 ∧ (¬ ((m : Int) < T.2.2.2.1 ∧ aw_ x1 x2 x3) → r.toInt = -2) ∧ ((m : Int) < T.2.2.2.1 ∧ aw_ x1 x2 x3 → (0 < wc_ (s.2.2.1 86) m → r.toInt = -9) ∧ (¬ 0 < wc_ (s.2.2.1 86) m → mb_ T s n m x1 x2 x3 r.toInt))) := by
  obtain ⟨hT, hk, hU, ⟨hn, h100⟩, hl, hm, hml, ht⟩ := id h
  have e24 : (s.1 64 24).toInt = T.2.2.2.1 := hU.2.2.2.1
  refine wp_M_breaks_ok ?_
  unfold wp_M_breaks
  rw [hm, e24]
  refine ⟨fun c => ⟨sg_fr.rf, fun _ => rfl, fun z => by omega⟩, fun c => sm_words.mono (fun y s1 hy => ?_)⟩
  obtain rfl := hy.eq
  refine ⟨fun d => ⟨sg_fr.rf, fun _ => rfl, fun z => absurd z.2 (hy.no d)⟩, fun d => (sm_worns hm (by omega)).mono (fun w s2 hw => ?_)⟩
  obtain ⟨rfl, hw⟩ := hw
  rw [hw]
  refine ⟨fun e => ⟨sg_fr.rf, fun z => absurd ⟨by omega, hy.yes d⟩ z, fun _ => ⟨fun _ => rfl, fun z => absurd e z⟩⟩, fun e => sm_next1 h (by omega) (fun r s3 f hb => ⟨f, fun z => absurd ⟨by omega, hy.yes d⟩ z, fun _ => ⟨fun z => absurd z e, fun _ => hb⟩⟩)⟩
end VM
