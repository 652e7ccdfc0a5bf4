/-! ===== M's verse; verseOf, poetOf, ruleOf of both ===== -/
theorem tm_ix {x : Int32} {n : Nat} (hn : x.toInt = (n : Int)) (h48 : n < 48) : True ∧ True ∧ True ∧ (Int32.ofInt 3 * x).toInt = ((3 * n : Nat) : Int) ∧ (Int32.ofInt 3 * x + Int32.ofInt 1).toInt = ((3 * n + 1 : Nat) : Int) ∧ (Int32.ofInt 3 * x + Int32.ofInt 2).toInt = ((3 * n + 2 : Nat) : Int) := by
  have e3 : (Int32.ofInt 3).toInt = 3 := rfl
  have e1 : (Int32.ofInt 1).toInt = 1 := rfl
  have e2 : (Int32.ofInt 2).toInt = 2 := rfl
  have b : (Int32.ofInt 3 * x).toInt = 3 * x.toInt := by rw [i32_mul (by rw [e3]; omega) (by rw [e3]; omega), e3]
  refine ⟨trivial, trivial, trivial, by rw [b]; omega, ?_, ?_⟩
  · rw [i32_add (by omega) (by omega), b, e1]; omega
  · rw [i32_add (by omega) (by omega), b, e2]; omega
section TM
variable {s : sg_S} {x1 x2 x3 x4 : Int32} {T : rp_T} {n m np : Nat}
theorem sm_Verse (h : vm_ok T s n m) (hn : (s.1 64 30).toInt = (np : Int)) (h12 : np ≤ 12) : am_SpI 181 [.ref 64, .int x1, .int x2, .int x3, .int x4] s (fun r s2 => (¬ vc_ (mt_ s np m) x1 x2 x3 x4 → r.toInt = -1 ∧ s2 = s) ∧ (vc_ (mt_ s np m) x1 x2 x3 x4 → (0 < wc_ (s.2.2.1 86) m → r.toInt = -9 ∧ s2 = s) ∧ (¬ 0 < wc_ (s.2.2.1 86) m → (T.2.2.2.2.1 < x1.toInt → r.toInt = -3 ∧ sg_fr [] [77] s s2 ∧ s2.2.2.1 77 = pw_ (s.2.2.1 77) np (mt_ s np m).toNat) ∧ (¬ T.2.2.2.2.1 < x1.toInt → ∃ b : Int, mb_ T s n m x2 x3 x4 b ∧ (¬ b = -1 → r.toInt = -10 - b ∧ sg_fr [] [82] s s2) ∧ (b = -1 → r.toInt = (m : Int) + 1 ∧ sg_fr [(64, 40)] [77, 82, 83, 84, 85, 86, 87] s s2 ∧ (s2.1 64 40).toInt = (m : Int) + 1 ∧ (s2.2.2.1 83 = fun i => if i = m then Int32.ofInt (mt_ s np m) else s.2.2.1 83 i) ∧ (s2.2.2.1 84 = fun i => if i = m then g3_ (s.2.2.1 78) (s.2.2.1 79) (s.2.2.1 80) n (s.1 64 33).toInt x2 x3 x4 else s.2.2.1 84 i) ∧ (s2.2.2.1 85 (3 * m) = x2 ∧ s2.2.2.1 85 (3 * m + 1) = x3 ∧ s2.2.2.1 85 (3 * m + 2) = x4 ∧ ∀ i, i < 3 * m → s2.2.2.1 85 i = s.2.2.1 85 i) ∧ (s2.2.2.1 86 = fun i => if i = m then Int32.ofInt 0 else s.2.2.1 86 i) ∧ (s2.2.2.1 87 = fun i => if i = m then x1 else s.2.2.1 87 i) ∧ s2.2.2.1 77 = pz_ (s.2.2.1 77) np))))) := by
  obtain ⟨hT, hk, hU, ⟨hne, h100⟩, hl, hm, hml, ht⟩ := id h
  have e24 : (s.1 64 24).toInt = T.2.2.2.1 := hU.2.2.2.1
  have e25 : (s.1 64 25).toInt = T.2.2.2.2.1 := hU.2.2.2.2.1
  have hmt := mt_lt s np m
  have z0 : (Int32.ofInt 0).toInt = 0 := rfl
  have z999 : (Int32.ofInt 999).toInt = 999 := rfl
  refine wp_M_verse_ok (I167 := fun _ l s1 => vc_ (mt_ s np m) x1 x2 x3 x4 ∧ ¬ 0 < wc_ (s.2.2.1 86) m ∧ ¬ T.2.2.2.2.1 < x1.toInt ∧ mb_ T s n m x2 x3 x4 (-1) ∧ sg_fr [(64, 40)] [77, 82, 83, 84, 85, 86, 87] s s1 ∧ (s1.1 64 40).toInt = (m : Int) + 1 ∧ (s1.2.2.1 83 = fun i => if i = m then Int32.ofInt (mt_ s np m) else s.2.2.1 83 i) ∧ (s1.2.2.1 84 = fun i => if i = m then g3_ (s.2.2.1 78) (s.2.2.1 79) (s.2.2.1 80) n (s.1 64 33).toInt x2 x3 x4 else s.2.2.1 84 i) ∧ (s1.2.2.1 85 (3 * m) = x2 ∧ s1.2.2.1 85 (3 * m + 1) = x3 ∧ s1.2.2.1 85 (3 * m + 2) = x4 ∧ ∀ i, i < 3 * m → s1.2.2.1 85 i = s.2.2.1 85 i) ∧ (s1.2.2.1 86 = fun i => if i = m then Int32.ofInt 0 else s.2.2.1 86 i) ∧ (s1.2.2.1 87 = fun i => if i = m then x1 else s.2.2.1 87 i) ∧ ∃ k : Nat, l.toInt = (k : Int) ∧ k ≤ np ∧ s1.2.2.1 77 = pz_ (s.2.2.1 77) k) ?_ ?_
  · intro l6 l s1 hI
    obtain ⟨hvc, hw, hmin, hb, f, e40, g83, g84, g85, g86, g87, k, hk2, hkn, h77⟩ := hI
    have e0 : (s1.1 64 30).toInt = (np : Int) := by rw [f.i rfl]; exact hn
    unfold wp_M_verse_167
    rw [hk2, e0, Int.toNat_natCast]
    refine ⟨fun c1 _ _ => ⟨hvc, hw, hmin, hb, f.uA rfl, e40, g83, g84, g85, g86, g87, k + 1, ?_, by omega, ?_⟩, fun c1 => ⟨fun z => absurd hvc z, fun _ => ⟨fun z => absurd z hw, fun _ => ⟨fun z => absurd z hmin, fun _ => ⟨-1, hb, fun z => absurd rfl z, fun _ => ⟨e40, f, e40, g83, g84, g85, g86, g87, by rw [h77, show k = np by omega]⟩⟩⟩⟩⟩⟩
    · rw [i32_inc (c := 0) (by omega) (by omega), hk2]
      rfl
    · rw [sg_Aall, h77, vp_b0]
      exact pz_step
  · unfold wp_M_verse
    refine (sm_Turn hn h12 hm (by omega)).mono (fun t s1 h1 => ?_)
    obtain ⟨rfl, h1⟩ := h1
    have h1 : t.toInt = mt_ s1 np m := h1
    rw [h1]
    refine ⟨fun c => ⟨fun _ => ⟨rfl, rfl⟩, fun z => absurd c z.1⟩, fun c => sm_words.mono (fun y s2 hy => ?_)⟩
    obtain rfl := hy.eq
    refine ⟨fun d => ⟨fun _ => ⟨rfl, rfl⟩, fun z => absurd z.2.1 (hy.no d)⟩, fun d => sm_in.mono (fun y2 s3 hy2 => ?_)⟩
    rw [z0, z999] at hy2
    obtain rfl := hy2.eq
    refine ⟨fun e => ⟨fun _ => ⟨rfl, rfl⟩, fun z => absurd z.2.2 (hy2.no e)⟩, fun e => (sm_worns hm (by omega)).mono (fun w s4 hw => ?_)⟩
    obtain ⟨rfl, hw⟩ := hw
    rw [hw, e25]
    have hvc : vc_ (mt_ s4 np m) x1 x2 x3 x4 := ⟨c, hy.yes d, hy2.yes e⟩
    refine ⟨fun g => ⟨fun z => absurd hvc z, fun _ => ⟨fun _ => ⟨rfl, rfl⟩, fun z => absurd g z⟩⟩, fun g => ⟨fun i => (sm_passes (p := (mt_ s4 np m).toNat) hn h12 (by rw [h1]; omega)).mono (fun s5 h5 => ⟨fun z => absurd hvc z, fun _ => ⟨fun z => absurd z g, fun _ => ⟨fun _ => ⟨rfl, h5.1, h5.2⟩, fun z => absurd i z⟩⟩⟩), fun i => ?_⟩⟩
    have hlt : (m : Int) < T.2.2.2.1 := by
      unfold mt_ at c
      rw [hm, e24] at c
      by_cases q : (m : Int) = T.2.2.2.1
      · rw [if_pos q] at c
        exact absurd rfl c
      · omega
    refine sm_next1 h hlt (fun b s5 f5 hb => ?_)
    have hbr := fb_rng hb
    have h12r := hT.2.2.1
    refine ⟨fun j => ?_, fun j => ?_⟩
    · have m5 : (s5.1 64 40).toInt = (m : Int) := by rw [f5.i rfl]; exact hm
      rw [m5, Int.toNat_natCast]
      intro _ _
      refine (sm_set3 (n := n) (by show (s5.1 64 34).toInt = _; rw [f5.i rfl]; exact hne) h100).mono (fun v s6 h6 => ?_)
      obtain ⟨rfl, hv⟩ := h6
      intro _ _
      refine wp_M_lays_ok ?_
      unfold wp_M_lays
      have m6 : ((sg_uA s5 83 m t).1 64 40).toInt = (m : Int) := m5
      obtain ⟨-, -, -, w0, w1, w2⟩ := tm_ix (x := (sg_uA s5 83 m t).1 64 40) m6 (by omega)
      rw [w0, w1, w2]
      simp only [Int.toNat_natCast]
      intro _ _ _ _ _ _
      have m7 : ((sg_uA (sg_uA (sg_uA (sg_uA (sg_uA s5 83 m t) 84 m v) 85 (3 * m) x2) 85 (3 * m + 1) x3) 85 (3 * m + 2) x4).1 64 40).toInt = (m : Int) := m5
      rw [m7, Int.toNat_natCast]
      intro _ _
      have hv2 : v = g3_ (s4.2.2.1 78) (s4.2.2.1 79) (s4.2.2.1 80) n (s4.1 64 33).toInt x2 x3 x4 := by
        rw [hv]
        show g3_ (s5.2.2.1 78) (s5.2.2.1 79) (s5.2.2.1 80) n (s5.1 64 33).toInt x2 x3 x4 = _
        rw [f5.a rfl, f5.a rfl, f5.a rfl, f5.i rfl]
      refine ⟨hvc, g, i, by rw [← j]; exact hb, ((((((((f5.le (by decide) (by decide)).uA rfl).uA rfl).uA rfl).uA rfl).uA rfl).uA rfl).uA rfl).uI rfl, ?_, ?_, ?_, ⟨?_, ?_, ?_, fun q hq => ?_⟩, ?_, ?_, 0, rfl, Nat.zero_le _, ?_⟩
      · show (s5.1 64 40 + Int32.ofInt 1).toInt = _
        rw [i32_inc (c := 0) (by omega) (by omega), m5]
      · funext q
        show (if 83 = 87 ∧ q = m then x1 else if 83 = 86 ∧ q = m then vp_nar .boolean (Int32.ofInt 0) else if 83 = 85 ∧ q = 3 * m + 2 then x4 else if 83 = 85 ∧ q = 3 * m + 1 then x3 else if 83 = 85 ∧ q = 3 * m then x2 else if 83 = 84 ∧ q = m then v else if 83 = 83 ∧ q = m then t else s5.2.2.1 83 q) = _
        rw [f5.a rfl, ← h1, am_oio]
        simp
      · funext q
        show (if 84 = 87 ∧ q = m then x1 else if 84 = 86 ∧ q = m then vp_nar .boolean (Int32.ofInt 0) else if 84 = 85 ∧ q = 3 * m + 2 then x4 else if 84 = 85 ∧ q = 3 * m + 1 then x3 else if 84 = 85 ∧ q = 3 * m then x2 else if 84 = 84 ∧ q = m then v else if 84 = 83 ∧ q = m then t else s5.2.2.1 84 q) = _
        rw [f5.a rfl, hv2]
        simp
      · show (if 85 = 87 ∧ 3 * m = m then x1 else if 85 = 86 ∧ 3 * m = m then vp_nar .boolean (Int32.ofInt 0) else if 85 = 85 ∧ 3 * m = 3 * m + 2 then x4 else if 85 = 85 ∧ 3 * m = 3 * m + 1 then x3 else if 85 = 85 ∧ 3 * m = 3 * m then x2 else _) = x2
        simp
      · show (if 85 = 87 ∧ 3 * m + 1 = m then x1 else if 85 = 86 ∧ 3 * m + 1 = m then vp_nar .boolean (Int32.ofInt 0) else if 85 = 85 ∧ 3 * m + 1 = 3 * m + 2 then x4 else if 85 = 85 ∧ 3 * m + 1 = 3 * m + 1 then x3 else _) = x3
        simp
      · show (if 85 = 87 ∧ 3 * m + 2 = m then x1 else if 85 = 86 ∧ 3 * m + 2 = m then vp_nar .boolean (Int32.ofInt 0) else if 85 = 85 ∧ 3 * m + 2 = 3 * m + 2 then x4 else _) = x4
        simp
      · show (if 85 = 87 ∧ q = m then x1 else if 85 = 86 ∧ q = m then vp_nar .boolean (Int32.ofInt 0) else if 85 = 85 ∧ q = 3 * m + 2 then x4 else if 85 = 85 ∧ q = 3 * m + 1 then x3 else if 85 = 85 ∧ q = 3 * m then x2 else if 85 = 84 ∧ q = m then v else if 85 = 83 ∧ q = m then t else s5.2.2.1 85 q) = _
        rw [f5.a rfl]
        simp [show ¬ q = 3 * m + 2 by omega, show ¬ q = 3 * m + 1 by omega, show ¬ q = 3 * m by omega]
      · funext q
        show (if 86 = 87 ∧ q = m then x1 else if 86 = 86 ∧ q = m then vp_nar .boolean (Int32.ofInt 0) else if 86 = 85 ∧ q = 3 * m + 2 then x4 else if 86 = 85 ∧ q = 3 * m + 1 then x3 else if 86 = 85 ∧ q = 3 * m then x2 else if 86 = 84 ∧ q = m then v else if 86 = 83 ∧ q = m then t else s5.2.2.1 86 q) = _
        rw [f5.a rfl, vp_b0]
        simp
      · funext q
        show (if 87 = 87 ∧ q = m then x1 else if 87 = 86 ∧ q = m then vp_nar .boolean (Int32.ofInt 0) else if 87 = 85 ∧ q = 3 * m + 2 then x4 else if 87 = 85 ∧ q = 3 * m + 1 then x3 else if 87 = 85 ∧ q = 3 * m then x2 else if 87 = 84 ∧ q = m then v else if 87 = 83 ∧ q = m then t else s5.2.2.1 87 q) = _
        rw [f5.a rfl]
        simp
      · show s5.2.2.1 77 = _
        rw [f5.a rfl]
        exact pz_0.symm
    · have z10 : (Int32.ofInt (-10)).toInt = -10 := rfl
      refine ⟨fun z => absurd hvc z, fun _ => ⟨fun z => absurd z g, fun _ => ⟨fun z => absurd z i, fun _ => ⟨b.toInt, hb, fun _ => ⟨?_, f5⟩, fun z => absurd z j⟩⟩⟩⟩
      rw [i32_sub (by omega) (by omega), z10]
end TM
