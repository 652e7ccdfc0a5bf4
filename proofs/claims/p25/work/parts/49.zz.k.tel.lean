/-! ===== verse, back, worn of both ===== -/
/-- what X's look leaves on the next place -/
def xl_ (T : rp_T) (s s2 : sg_S) (n m : Nat) (a b c : Int32) : Prop := (s2.2.2.1 30 = fun i => if i = m + 1 then g3_ (s.2.2.1 19) (s.2.2.1 20) (s.2.2.1 21) n (s.1 18 0).toInt a b c else s.2.2.1 30 i) ∧ (s2.2.2.1 32 (3 * (m + 1)) = a ∧ s2.2.2.1 32 (3 * (m + 1) + 1) = b ∧ s2.2.2.1 32 (3 * (m + 1) + 2) = c ∧ ∀ i, i < 3 * (m + 1) → s2.2.2.1 32 i = s.2.2.1 32 i) ∧ (∀ k, k < T.2.2.1 → (s2.2.2.1 34 (12 * (m + 1) + k)).toInt = nb_ (rp_rl T k) (fun v => s2.2.2.1 30 (v + 1)) (m + 1)) ∧ ∀ i, i < 12 * (m + 1) → s2.2.2.1 34 i = s.2.2.1 34 i
def xb_ (T : rp_T) (s : sg_S) (n m : Nat) (a b c : Int32) (r : Int) : Prop := ∃ W F : Nat → Int32, (F = fun i => if i = m + 1 then g3_ (s.2.2.1 19) (s.2.2.1 20) (s.2.2.1 21) n (s.1 18 0).toInt a b c else s.2.2.1 30 i) ∧ (W (3 * (m + 1)) = a ∧ W (3 * (m + 1) + 1) = b ∧ W (3 * (m + 1) + 2) = c ∧ ∀ i, i < 3 * (m + 1) → W i = s.2.2.1 32 i) ∧ fb_ (fun k => bx_ (s.2.2.1 23) W F (rp_rl T k) (nb_ (rp_rl T k) (fun v => s.2.2.1 30 (v + 1)) m) (m + 1) T.2.2.2.1) T.2.2.1 r
section TE
variable {s : sg_S} {x1 x2 x3 x4 : Int32} {T : rp_T} {n m np : Nat}
/-- whose turn, by X and by M -/
def xt_ (s : sg_S) (np : Nat) : Int := if (s.1 28 2).toInt < (s.1 1 3).toInt then wt_ (fun i => (s.2.2.1 27 i).toInt) (fun i => (s.2.2.1 26 i).toInt) (fun i => (s.2.2.1 25 i).toInt) np else -1
def mt_ (s : sg_S) (np m : Nat) : Int := if (s.1 64 40).toInt = (s.1 64 24).toInt then -1 else wt_ (fun i => (s.2.2.1 77 i).toInt) (fun i => tc_ (s.2.2.1 83) m (i : Int)) (fun i => (s.2.2.1 76 i).toInt) np
theorem xt_lt (s : sg_S) (np : Nat) : -1 ≤ xt_ s np ∧ xt_ s np < (np : Int) := by
  unfold xt_
  split
  · exact wt_lt _ _ _ np
  · omega
theorem mt_lt (s : sg_S) (np m : Nat) : -1 ≤ mt_ s np m ∧ mt_ s np m < (np : Int) := by
  unfold mt_
  split
  · omega
  · exact wt_lt _ _ _ np
def vc_ (t : Int) (x1 x2 x3 x4 : Int32) : Prop := ¬ t = -1 ∧ aw_ x2 x3 x4 ∧ 0 ≤ x1.toInt ∧ x1.toInt ≤ 999
theorem sx_Verse (h : vx_ok T s n m) (hn : (s.1 24 0).toInt = (np : Int)) (h12 : np ≤ 12) (hv : ∀ i, i < 12 → 0 ≤ (s.2.2.1 26 i).toInt ∧ (s.2.2.1 26 i).toInt ≤ 48) : am_SpI 131 [.ref 0, .int x1, .int x2, .int x3, .int x4] s (fun r s2 => (¬ vc_ (xt_ s np) x1 x2 x3 x4 → r.toInt = -1 ∧ s2 = s) ∧ (vc_ (xt_ s np) x1 x2 x3 x4 → (0 < (s.1 28 3).toInt → r.toInt = -9 ∧ s2 = s) ∧ (¬ 0 < (s.1 28 3).toInt → (T.2.2.2.2.1 < x1.toInt → r.toInt = -3 ∧ sg_fr [] [27] s s2 ∧ s2.2.2.1 27 = pw_ (s.2.2.1 27) np (xt_ s np).toNat) ∧ (¬ T.2.2.2.2.1 < x1.toInt → ∃ b : Int, xb_ T s n m x2 x3 x4 b ∧ (¬ b = -1 → r.toInt = -10 - b ∧ sg_fr [] [30, 32, 34] s s2 ∧ xl_ T s s2 n m x2 x3 x4) ∧ (b = -1 → r.toInt = (m : Int) + 1 ∧ sg_fr [(28, 2)] [26, 27, 29, 30, 31, 32, 34] s s2 ∧ xl_ T s s2 n m x2 x3 x4 ∧ (s2.1 28 2).toInt = (m : Int) + 1 ∧ (s2.2.2.1 29 = fun i => if i = m + 1 then Int32.ofInt (xt_ s np) else s.2.2.1 29 i) ∧ (s2.2.2.1 31 = fun i => if i = m + 1 then x1 else s.2.2.1 31 i) ∧ (s2.2.2.1 26 = fun i => if i = (xt_ s np).toNat then s.2.2.1 26 (xt_ s np).toNat + Int32.ofInt 1 else s.2.2.1 26 i) ∧ s2.2.2.1 27 = pz_ (s.2.2.1 27) np))))) := by
  obtain ⟨hT, hk, hU, hbook, hl, hm, ht, hnum⟩ := id h
  have e13 : (s.1 1 3).toInt = T.2.2.2.1 := hU.2.2.2.1
  have e14 : (s.1 1 4).toInt = T.2.2.2.2.1 := hU.2.2.2.2.1
  have hxt := xt_lt s np
  refine wp_X_verse_ok ?_
  unfold wp_X_verse
  refine (sx_Turn hn h12).mono (fun t s1 h1 => ?_)
  obtain ⟨rfl, h1⟩ := h1
  have h1 : t.toInt = xt_ s1 np := h1
  rw [h1]
  refine ⟨fun c => ⟨fun _ => ⟨rfl, rfl⟩, fun z => absurd c z.1⟩, fun c => sx_words.mono (fun y s2 hy => ?_)⟩
  obtain rfl := hy.eq
  refine ⟨fun d => ⟨fun _ => ⟨rfl, rfl⟩, fun z => absurd z.2.1 (hy.no d)⟩, fun d => ⟨fun e => ⟨fun _ => ⟨rfl, rfl⟩, fun z => by have := z.2.2; omega⟩, fun e => ⟨fun e2 => ⟨fun _ => ⟨rfl, rfl⟩, fun z => by have := z.2.2; omega⟩, fun e2 => ?_⟩⟩⟩
  have hvc : vc_ (xt_ s2 np) x1 x2 x3 x4 := ⟨c, hy.yes d, by omega, by omega⟩
  refine ⟨fun g => ⟨fun z => absurd hvc z, fun _ => ⟨fun _ => ⟨rfl, rfl⟩, fun z => absurd g z⟩⟩, fun g => ?_⟩
  rw [e14]
  have hlt : (m : Int) < T.2.2.2.1 := by
    unfold xt_ at c
    rw [hm, e13] at c
    by_cases q : (m : Int) < T.2.2.2.1
    · exact q
    · rw [if_neg q] at c
      exact absurd rfl c
  refine ⟨fun i => (sx_letPass (p := (xt_ s2 np).toNat) hn h12 (by rw [h1]; omega)).mono (fun s3 h3 => ⟨fun z => absurd hvc z, fun _ => ⟨fun z => absurd z g, fun _ => ⟨fun _ => ⟨rfl, h3.1, h3.2⟩, fun z => absurd i z⟩⟩⟩), fun i => (sx_next1 h hlt).mono (fun b s3 h3 => ?_)⟩
  obtain ⟨f3, g30, g32, g34, g34b, hfb⟩ := h3
  have hb := fb_rng hfb
  have h12r := hT.2.2.1
  have hxl : xl_ T s2 s3 n m x2 x3 x4 := ⟨g30, g32, g34, g34b⟩
  have hxb : xb_ T s2 n m x2 x3 x4 b.toInt := ⟨s3.2.2.1 32, s3.2.2.1 30, g30, g32, hfb⟩
  refine ⟨fun j => ?_, fun j => ?_⟩
  · refine wp_XSheet_keepNext_ok ?_
    unfold wp_XSheet_keepNext
    have m3 : (s3.1 28 2).toInt = (m : Int) := by rw [f3.i rfl]; exact hm
    have l3 : (s3.1 1 3).toInt = T.2.2.2.1 := by rw [f3.i rfl]; exact e13
    have hp : (s3.1 28 2 + Int32.ofInt 1).toInt = ((m + 1 : Nat) : Int) := by
      rw [i32_inc (c := 0) (by omega) (by omega), m3]
      rfl
    rw [hp, Int.toNat_natCast, m3, l3]
    refine ⟨fun _ _ _ => ?_, fun z => absurd hlt z⟩
    refine wp_XPoets_letTell_ok ?_
    unfold wp_XPoets_letTell
    have et : t.toInt.toNat = (xt_ s2 np).toNat := by rw [h1]
    rw [et]
    intro _ _
    have e26 : ((sg_uA (sg_uA (sg_uI s3 28 2 (s3.1 28 2 + Int32.ofInt 1)) 29 (m + 1) t) 31 (m + 1) x1).2.2.1 26 (xt_ s2 np).toNat) = s2.2.2.1 26 (xt_ s2 np).toNat := by
      show s3.2.2.1 26 (xt_ s2 np).toNat = _
      rw [f3.a rfl]
    refine (sx_forget (n := np) (by show (s3.1 24 0).toInt = _; rw [f3.i rfl]; exact hn) h12).mono (fun s4 h4 => ?_)
    obtain ⟨f4, z27⟩ := h4
    have f34 : sg_fr [(28, 2)] [26, 29, 31] s3 (sg_uA (sg_uA (sg_uA (sg_uI s3 28 2 (s3.1 28 2 + Int32.ofInt 1)) 29 (m + 1) t) 31 (m + 1) x1) 26 (xt_ s2 np).toNat (((sg_uA (sg_uA (sg_uI s3 28 2 (s3.1 28 2 + Int32.ofInt 1)) 29 (m + 1) t) 31 (m + 1) x1).2.2.1 26 (xt_ s2 np).toNat) + Int32.ofInt 1)) := (((sg_fr.rf.uI rfl).uA rfl).uA rfl).uA rfl
    have f24 : sg_fr [(28, 2)] [26, 27, 29, 30, 31, 32, 34] s2 s4 := ((f3.le (by decide) (by decide)).tr (f34.le (by decide) (by decide))).tr (f4.le (by decide) (by decide))
    have e28 : (s4.1 28 2).toInt = (m : Int) + 1 := by
      rw [f4.i rfl]
      show (s3.1 28 2 + Int32.ofInt 1).toInt = _
      rw [hp]
      omega
    have a30 : s4.2.2.1 30 = s3.2.2.1 30 := by rw [f4.a rfl, f34.a rfl]
    have a32 : s4.2.2.1 32 = s3.2.2.1 32 := by rw [f4.a rfl, f34.a rfl]
    have a34 : s4.2.2.1 34 = s3.2.2.1 34 := by rw [f4.a rfl, f34.a rfl]
    refine ⟨fun z => absurd hvc z, fun _ => ⟨fun z => absurd z g, fun _ => ⟨fun z => absurd z i, fun _ => ⟨b.toInt, hxb, fun z => absurd j z, fun _ => ⟨e28, f24, ?_, e28, ?_, ?_, ?_, ?_⟩⟩⟩⟩⟩
    · unfold xl_
      rw [a30, a32, a34]
      exact hxl
    · rw [f4.a rfl]
      funext q
      refine (sg_A2 (fun c => absurd c.1 (by decide))).trans ((sg_A2 (fun c => absurd c.1 (by decide))).trans ?_)
      show (if 29 = 29 ∧ q = m + 1 then t else s3.2.2.1 29 q) = _
      rw [f3.a rfl, ← h1, am_oio]
      simp
    · rw [f4.a rfl]
      funext q
      refine (sg_A2 (fun c => absurd c.1 (by decide))).trans ?_
      show (if 31 = 31 ∧ q = m + 1 then x1 else if 31 = 29 ∧ q = m + 1 then t else s3.2.2.1 31 q) = _
      rw [f3.a rfl]
      simp
    · rw [f4.a rfl, e26]
      funext q
      show (if 26 = 26 ∧ q = (xt_ s2 np).toNat then s2.2.2.1 26 (xt_ s2 np).toNat + Int32.ofInt 1 else if 26 = 31 ∧ q = m + 1 then x1 else if 26 = 29 ∧ q = m + 1 then t else s3.2.2.1 26 q) = _
      rw [f3.a rfl]
      simp
    · rw [z27, f34.a rfl, f3.a rfl]
  · have z10 : (Int32.ofInt (-10)).toInt = -10 := rfl
    refine ⟨fun z => absurd hvc z, fun _ => ⟨fun z => absurd z g, fun _ => ⟨fun z => absurd z i, fun _ => ⟨b.toInt, hxb, fun _ => ⟨?_, f3, hxl⟩, fun z => absurd z j⟩⟩⟩⟩
    rw [i32_sub (by omega) (by omega), z10]
/-- back -/
theorem sx_Back {q : Nat} (hm : (s.1 28 2).toInt = (m : Int)) (h48 : m ≤ 48) (hn : (s.1 24 0).toInt = (np : Int)) (h12 : np ≤ 12) (hq : 0 < m → (s.2.2.1 29 m).toInt = (q : Int)) : am_SpI 135 [.ref 0] s (fun r s2 => (m = 0 → r.toInt = -1 ∧ s2 = s) ∧ (0 < m → r.toInt = (m : Int) ∧ sg_fr [(28, 2), (28, 3)] [26, 27, 33] s s2 ∧ (s2.1 28 2).toInt = (m : Int) - 1 ∧ (s2.2.2.1 26 = fun i => if i = q then s.2.2.1 26 q - Int32.ofInt 1 else s.2.2.1 26 i) ∧ s2.2.2.1 27 = pz_ (s.2.2.1 27) np ∧ (s2.2.2.1 33 = fun i => if i = m then Int32.ofInt 0 else s.2.2.1 33 i) ∧ s2.1 28 3 = (if (s.2.2.1 33 m).toInt = 0 then s.1 28 3 else s.1 28 3 + Int32.ofInt (-1)))) := by
  have z0 : (Int32.ofInt 0).toInt = 0 := rfl
  have z1 : (Int32.ofInt 1).toInt = 1 := rfl
  refine wp_X_back_ok ?_
  unfold wp_X_back
  rw [hm, Int.toNat_natCast]
  refine ⟨fun c => ⟨fun _ => ⟨rfl, rfl⟩, fun z => by omega⟩, fun c _ _ => ?_⟩
  have hm0 : 0 < m := by omega
  have hq := hq hm0
  refine wp_XPoets_takeBack_ok ?_
  unfold wp_XPoets_takeBack
  rw [hq, Int.toNat_natCast]
  intro _ _
  refine (sx_forget (n := np) (by show (s.1 24 0).toInt = _; exact hn) h12).mono (fun s1 h1 => ?_)
  obtain ⟨f1, z27⟩ := h1
  have f01 : sg_fr [] [26, 27] s s1 := (sg_fr.rf.uA rfl).tr (f1.le (by decide) (by decide))
  refine wp_XSheet_dropLast_ok ?_
  unfold wp_XSheet_dropLast
  refine wp_XSheet_wear_ok ?_
  unfold wp_XSheet_wear
  have m1 : (s1.1 28 2).toInt = (m : Int) := by rw [f01.i rfl]; exact hm
  have hdec : (s1.1 28 2 - Int32.ofInt 1).toInt = (m : Int) - 1 := by rw [i32_sub (by omega) (by omega), m1, z1]
  have a33 : s1.2.2.1 33 = s.2.2.1 33 := f01.a rfl
  rw [m1, Int.toNat_natCast, z0]
  intro _ _
  have e26 : s1.2.2.1 26 = fun i => if i = q then s.2.2.1 26 q - Int32.ofInt 1 else s.2.2.1 26 i := by
    rw [f1.a rfl]
    exact sg_Aall
  have e27 : s1.2.2.1 27 = pz_ (s.2.2.1 27) np := z27
  refine ⟨fun d => ⟨fun z => by omega, fun _ => ⟨by rw [hm], (f01.le (by decide) (by decide)).uI rfl, hdec, e26, e27, ?_, ?_⟩⟩, fun d => ⟨fun _ => ?_, fun z => absurd rfl z⟩⟩
  · show s1.2.2.1 33 = _
    rw [a33]
    funext i
    by_cases ei : i = m
    · rw [if_pos ei, ei]
      rw [a33] at d
      exact (rx_ofI d)
    · rw [if_neg ei]
  · show s1.1 28 3 = _
    rw [a33] at d
    rw [if_pos d, f01.i rfl]
  · refine ⟨fun z => by omega, fun _ => ⟨by rw [hm], (((f01.le (by decide) (by decide)).uA rfl).uI rfl).uI rfl, hdec, e26, e27, ?_, ?_⟩⟩
    · show (sg_uA s1 33 m (vp_nar .boolean (Int32.ofInt 0))).2.2.1 33 = _
      rw [sg_Aall, vp_b0, a33]
    · show s1.1 28 3 + Int32.ofInt (-1) = _
      rw [a33] at d
      rw [if_neg d, f01.i rfl]
theorem sm_Back (hm : (s.1 64 40).toInt = (m : Int)) (h48 : m ≤ 48) (hn : (s.1 64 30).toInt = (np : Int)) (h12 : np ≤ 12) : am_SpI 194 [.ref 64] s (fun r s2 => (m = 0 → r.toInt = -1 ∧ s2 = s) ∧ (0 < m → r.toInt = (m : Int) ∧ sg_fr [(64, 40)] [77] s s2 ∧ (s2.1 64 40).toInt = (m : Int) - 1 ∧ s2.2.2.1 77 = pz_ (s.2.2.1 77) np)) := by
  have z1 : (Int32.ofInt 1).toInt = 1 := rfl
  have hdec : 0 < m → (s.1 64 40 - Int32.ofInt 1).toInt = (m : Int) - 1 := fun h => by rw [i32_sub (by omega) (by omega), hm, z1]
  refine wp_M_back_ok (I21 := fun l s1 => 0 < m ∧ sg_fr [(64, 40)] [77] s s1 ∧ (s1.1 64 40).toInt = (m : Int) - 1 ∧ ∃ k : Nat, l.toInt = (k : Int) ∧ k ≤ np ∧ s1.2.2.1 77 = pz_ (s.2.2.1 77) k) ?_ ?_
  · intro l s1 hI
    obtain ⟨h0, f, e40, k, hk, hkn, h⟩ := hI
    have e0 : (s1.1 64 30).toInt = (np : Int) := by rw [f.i rfl]; exact hn
    unfold wp_M_back_21
    simp only [hk, e0, Int.toNat_natCast]
    refine ⟨fun c1 _ _ => ⟨h0, f.uA rfl, e40, k + 1, ?_, by omega, ?_⟩, fun c1 => ⟨fun z => by omega, fun _ => ⟨?_, f, e40, by rw [h, show k = np by omega]⟩⟩⟩
    · rw [i32_inc (c := 0) (by omega) (by omega), hk]
      rfl
    · rw [sg_Aall, h, vp_b0]
      exact pz_step
    · rw [i32_inc (c := 0) (by omega) (by omega), e40]
      omega
  · unfold wp_M_back
    rw [hm]
    exact ⟨fun c => ⟨fun _ => ⟨rfl, rfl⟩, fun z => by omega⟩, fun c => ⟨by omega, sg_fr.rf.uI rfl, hdec (by omega), 0, rfl, Nat.zero_le _, pz_0.symm⟩⟩
/-- worn -/
theorem sx_Worn (hm : (s.1 28 2).toInt = (m : Int)) (h48 : m ≤ 48) (hb : 0 ≤ x2.toInt ∧ x2.toInt ≤ 1) : am_SpI 136 [.ref 0, .int x1, .int x2] s (fun r s2 => (1 ≤ x1.toInt ∧ x1.toInt ≤ (m : Int) ∧ ¬ (s.2.2.1 33 x1.toInt.toNat).toInt = x2.toInt → r.toInt = 1 ∧ sg_fr [(28, 3)] [33] s s2 ∧ (s2.2.2.1 33 = fun i => if i = x1.toInt.toNat then x2 else s.2.2.1 33 i) ∧ s2.1 28 3 = (if x2.toInt = 0 then s.1 28 3 + Int32.ofInt (-1) else s.1 28 3 + Int32.ofInt 1)) ∧ (¬ (1 ≤ x1.toInt ∧ x1.toInt ≤ (m : Int) ∧ ¬ (s.2.2.1 33 x1.toInt.toNat).toInt = x2.toInt) → r.toInt = 0 ∧ s2 = s)) := by
  have nb : vp_nar .boolean x2 = x2 := ab_nbo hb.1 hb.2
  refine wp_X_worn_ok ?_
  unfold wp_X_worn
  refine wp_XSheet_isTold_ok ?_
  unfold wp_XSheet_isTold
  rw [hm]
  have e0 : (Int32.ofInt 0).toInt = 0 := rfl
  have e1 : ¬ (Int32.ofInt 1).toInt = 0 := by decide
  refine ⟨fun c => ⟨fun _ => ⟨fun z => by omega, fun _ => ⟨rfl, rfl⟩⟩, fun z => absurd e0 z⟩, fun c => ⟨fun d => ⟨fun _ => ⟨fun z => by omega, fun _ => ⟨rfl, rfl⟩⟩, fun z => absurd e0 z⟩, fun d => ⟨fun z => absurd z e1, fun _ => ?_⟩⟩⟩
  refine wp_XSheet_wear_ok ?_
  unfold wp_XSheet_wear
  rw [nb]
  intro _ _
  refine ⟨fun e => ⟨fun _ => ⟨fun z => absurd e z.2.2, fun _ => ⟨rfl, rfl⟩⟩, fun z => absurd e0 z⟩, fun e => ⟨fun g => ⟨fun z => absurd z e1, fun _ => ⟨fun _ => ⟨rfl, (sg_fr.rf.uA rfl).uI rfl, sg_Aall, by rw [if_pos g]; rfl⟩, fun z => absurd ⟨by omega, by omega, e⟩ z⟩⟩, fun g => ⟨fun z => absurd z e1, fun _ => ⟨fun _ => ⟨rfl, (sg_fr.rf.uA rfl).uI rfl, sg_Aall, by rw [if_neg g]; rfl⟩, fun z => absurd ⟨by omega, by omega, e⟩ z⟩⟩⟩⟩
theorem sm_Worn (hm : (s.1 64 40).toInt = (m : Int)) (h48 : m ≤ 48) (hb : 0 ≤ x2.toInt ∧ x2.toInt ≤ 1) : am_SpI 195 [.ref 64, .int x1, .int x2] s (fun r s2 => (1 ≤ x1.toInt ∧ x1.toInt ≤ (m : Int) ∧ ¬ (s.2.2.1 86 (x1.toInt.toNat - 1)).toInt = x2.toInt → r.toInt = 1 ∧ s2 = sg_uA s 86 (x1.toInt.toNat - 1) x2) ∧ (¬ (1 ≤ x1.toInt ∧ x1.toInt ≤ (m : Int) ∧ ¬ (s.2.2.1 86 (x1.toInt.toNat - 1)).toInt = x2.toInt) → r.toInt = 0 ∧ s2 = s)) := by
  have nb : vp_nar .boolean x2 = x2 := ab_nbo hb.1 hb.2
  have z1 : (Int32.ofInt 1).toInt = 1 := rfl
  refine wp_M_worn_ok ?_
  unfold wp_M_worn
  refine sm_in.mono (fun y s1 hy => ?_)
  rw [z1, hm] at hy
  obtain rfl := hy.eq
  refine ⟨fun c => ⟨fun z => absurd ⟨z.1, z.2.1⟩ (hy.no c), fun _ => ⟨rfl, rfl⟩⟩, fun c => ?_⟩
  have hc := hy.yes c
  have e : (x1 - Int32.ofInt 1).toInt.toNat = x1.toInt.toNat - 1 := by rw [i32_sub (by omega) (by omega), z1]; omega
  rw [e, nb]
  intro _ _
  exact ⟨fun d => ⟨fun z => absurd d z.2.2, fun _ => ⟨rfl, rfl⟩⟩, fun d => ⟨fun _ => ⟨rfl, rfl⟩, fun z => absurd ⟨hc.1, hc.2, d⟩ z⟩⟩
end TE
