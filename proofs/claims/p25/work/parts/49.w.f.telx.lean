/-! ===== X's tellings and its whole text ===== -/
def rx_ST (B : Nat → Int) (N : Nat) (F : Int ⊕ (rp_T × Nat)) (s : sg_S) : Prop := match F with
  | .inl f => (s.1 8 5).toInt = f ∧ f ≠ 0
  | .inr a => rx_S B N (.inr a.2) s ∧ rx_R a.1 s ∧ rp_ok a.1
theorem rx_ST.S {B : Nat → Int} {N : Nat} {F : Int ⊕ (rp_T × Nat)} {s : sg_S} (h : rx_ST B N F s) : rx_S B N (rp_fs F) s := by
  match F, h with
  | .inl f, h => exact h
  | .inr a, h => exact h.1
theorem rp_n16 {T : rp_T} (hT : rp_ok T) : rp_n T ≤ 16 := by have := hT.1; have := hT.2.1; unfold rp_n; omega
/-- a name is put behind the others -/
theorem rx_addN {T : rp_T} {s : sg_S} {w : List Int} {x : Int64} {v : Int32} (hR : rx_R T s) (hT : rp_ok T) (h16 : rp_n T < 16) (hx : x = Int64.ofInt (rd_cd 32 w)) : am_SpV 68 [.ref 9, .long x, .int v] s (fun s2 => sg_fr [(9, 5)] [10, 11] s s2 ∧ (s2.1 9 5).toInt = (rp_n T : Int) + 1 ∧ ∀ i, i < rp_n T + 1 → s2.2.2.2.1 10 i = Int64.ofInt (rd_cd 32 (if i = rp_n T then w else rp_nm T i)) ∧ s2.2.2.1 11 i = (if i = rp_n T then v else rp_ns T i)) := by
  subst hx
  obtain ⟨r0, r1, r2, r3, r4, r5, rn, rr⟩ := id hR
  refine wp_XRules_addName_9_ok ?_
  unfold wp_XRules_addName_9
  simp only [r5, Int.toNat_natCast]
  refine ⟨fun c1 _ _ => ⟨((sg_fr.rf.uM rfl).uA rfl).uI rfl, ?_, fun i hi => ?_⟩, fun c1 => absurd (show (rp_n T : Int) < 16 by omega) c1⟩
  · show (s.1 9 5 + Int32.ofInt 1).toInt = _
    rw [i32_inc (c := 0) (by omega) (by omega), r5]
  · by_cases e : i = rp_n T
    · rw [if_pos e, if_pos e, e]
      exact ⟨sg_M1, sg_A1⟩
    · rw [if_neg e, if_neg e]
      obtain ⟨n1, n2⟩ := rn i (by omega)
      exact ⟨(sg_M2 (fun c => e c.2)).trans n1, (sg_A2 (fun c => e c.2)).trans n2⟩
theorem rx_addK {T : rp_T} {s : sg_S} {w : List Int} {x : Int64} (hR : rx_R T s) (hT : rp_ok T) (h8 : T.1 < 8) (hx : x = Int64.ofInt (rd_cd 32 w)) : am_SpV 67 [.ref 9, .long x] s (fun s2 => sg_fr [(9, 0), (9, 5)] [10, 11] s s2 ∧ rx_R (rp_addK T w) s2) := by
  obtain ⟨r0, r1, r2, r3, r4, r5, rn, rr⟩ := id hR
  have g8 := hT.2.1
  refine wp_XRules_addKind_9_ok ?_
  unfold wp_XRules_addKind_9
  refine ⟨fun _ => ?_, fun c => absurd (show (s.1 9 0).toInt < 8 by omega) c⟩
  have e0 : s.1 9 0 = Int32.ofInt (T.1 : Int) := by rw [← am_oio (s.1 9 0), r0]
  rw [e0]
  refine (rx_addN (w := w) hR hT (by unfold rp_n; omega) hx).mono (fun s2 h2 => ?_)
  obtain ⟨f, n5, nn⟩ := h2
  have f2 : sg_fr [(9, 0), (9, 5)] [10, 11] s (sg_uI s2 9 0 (s2.1 9 0 + Int32.ofInt 1)) := (f.le rfl rfl).uI rfl
  have q0 : (s2.1 9 0).toInt = (T.1 : Int) := by rw [f.i rfl]; exact r0
  refine ⟨f2, ?_, ?_, ?_, ?_, ?_, ?_, ?_, ?_⟩
  · show (s2.1 9 0 + Int32.ofInt 1).toInt = ((T.1 + 1 : Nat) : Int)
    rw [i32_inc (c := 0) (by omega) (by omega), q0]
    omega
  · rw [f2.i rfl]; exact r1
  · rw [f2.i rfl]; exact r2
  · rw [f2.i rfl]; exact r3
  · rw [f2.i rfl]; exact r4
  · show (s2.1 9 5).toInt = ((T.1 + 1 + (T.2.1 + 0) : Nat) : Int)
    rw [n5]
    unfold rp_n
    omega
  · intro i hi
    exact nn i (by have hi2 : i < T.1 + 1 + (T.2.1 + 0) := hi; unfold rp_n; omega)
  · rw [f2.a rfl, f2.a rfl, f2.a rfl, f2.a rfl]
    exact rr
theorem rx_addG {T : rp_T} {s : sg_S} {w : List Int} {x : Int64} {v : Int32} (hR : rx_R T s) (hT : rp_ok T) (h8 : T.2.1 < 8) (hx : x = Int64.ofInt (rd_cd 32 w)) : am_SpV 69 [.ref 9, .long x, .int v] s (fun s2 => sg_fr [(9, 1), (9, 5)] [10, 11] s s2 ∧ rx_R (rp_addG T w v) s2) := by
  obtain ⟨r0, r1, r2, r3, r4, r5, rn, rr⟩ := id hR
  have g8 := hT.1
  refine wp_XRules_addGroup_9_ok ?_
  unfold wp_XRules_addGroup_9
  refine ⟨fun _ => ?_, fun c => absurd (show (s.1 9 1).toInt < 8 by omega) c⟩
  refine (rx_addN (w := w) hR hT (by unfold rp_n; omega) hx).mono (fun s2 h2 => ?_)
  obtain ⟨f, n5, nn⟩ := h2
  have f2 : sg_fr [(9, 1), (9, 5)] [10, 11] s (sg_uI s2 9 1 (s2.1 9 1 + Int32.ofInt 1)) := (f.le rfl rfl).uI rfl
  have q0 : (s2.1 9 1).toInt = (T.2.1 : Int) := by rw [f.i rfl]; exact r1
  refine ⟨f2, ?_, ?_, ?_, ?_, ?_, ?_, ?_, ?_⟩
  · rw [f2.i rfl]; exact r0
  · show (s2.1 9 1 + Int32.ofInt 1).toInt = ((T.2.1 + 1 : Nat) : Int)
    rw [i32_inc (c := 0) (by omega) (by omega), q0]
    omega
  · rw [f2.i rfl]; exact r2
  · rw [f2.i rfl]; exact r3
  · rw [f2.i rfl]; exact r4
  · show (s2.1 9 5).toInt = ((T.1 + 0 + (T.2.1 + 1) : Nat) : Int)
    rw [n5]
    unfold rp_n
    omega
  · intro i hi
    exact nn i (by have hi2 : i < T.1 + 0 + (T.2.1 + 1) := hi; unfold rp_n; omega)
  · rw [f2.a rfl, f2.a rfl, f2.a rfl, f2.a rfl]
    exact rr
theorem rx_addR {T : rp_T} {s : sg_S} {x1 x2 x3 x4 : Int32} (hR : rx_R T s) (hT : rp_ok T) (h12 : T.2.2.1 < 12) : am_SpV 66 [.ref 9, .int x1, .int x2, .int x3, .int x4] s (fun s2 => sg_fr [(9, 2)] [12, 13, 14, 15] s s2 ∧ rx_R (rp_addR T (x1, x2, x3, x4)) s2) := by
  obtain ⟨r0, r1, r2, r3, r4, r5, rn, rr⟩ := id hR
  refine wp_XRules_addRule_9_ok ?_
  unfold wp_XRules_addRule_9
  simp only [r2, Int.toNat_natCast]
  refine ⟨fun c1 _ _ => ?_, fun c => absurd (show (T.2.2.1 : Int) < 12 by omega) c⟩
  have f2 : sg_fr [(9, 2)] [12, 13, 14, 15] s (sg_uI (sg_uA (sg_uA (sg_uA (sg_uA s 12 T.2.2.1 x1) 13 T.2.2.1 x2) 14 T.2.2.1 x3) 15 T.2.2.1 x4) 9 2 (s.1 9 2 + Int32.ofInt 1)) := ((((sg_fr.rf.uA rfl).uA rfl).uA rfl).uA rfl).uI rfl
  refine ⟨f2, r0, r1, ?_, r3, r4, r5, rn, fun i hi => ?_⟩
  · show (s.1 9 2 + Int32.ofInt 1).toInt = ((T.2.2.1 + 1 : Nat) : Int)
    rw [i32_inc (c := 0) (by omega) (by omega), r2]
    omega
  · have hi2 : i < T.2.2.1 + 1 := hi
    show (if 12 = 15 ∧ i = T.2.2.1 then x4 else if 12 = 14 ∧ i = T.2.2.1 then x3 else if 12 = 13 ∧ i = T.2.2.1 then x2 else if 12 = 12 ∧ i = T.2.2.1 then x1 else s.2.2.1 12 i) = (if i = T.2.2.1 then (x1, x2, x3, x4) else rp_rl T i).1 ∧ (if 13 = 15 ∧ i = T.2.2.1 then x4 else if 13 = 14 ∧ i = T.2.2.1 then x3 else if 13 = 13 ∧ i = T.2.2.1 then x2 else if 13 = 12 ∧ i = T.2.2.1 then x1 else s.2.2.1 13 i) = (if i = T.2.2.1 then (x1, x2, x3, x4) else rp_rl T i).2.1 ∧ (if 14 = 15 ∧ i = T.2.2.1 then x4 else if 14 = 14 ∧ i = T.2.2.1 then x3 else if 14 = 13 ∧ i = T.2.2.1 then x2 else if 14 = 12 ∧ i = T.2.2.1 then x1 else s.2.2.1 14 i) = (if i = T.2.2.1 then (x1, x2, x3, x4) else rp_rl T i).2.2.1 ∧ (if 15 = 15 ∧ i = T.2.2.1 then x4 else if 15 = 14 ∧ i = T.2.2.1 then x3 else if 15 = 13 ∧ i = T.2.2.1 then x2 else if 15 = 12 ∧ i = T.2.2.1 then x1 else s.2.2.1 15 i) = (if i = T.2.2.1 then (x1, x2, x3, x4) else rp_rl T i).2.2.2
    by_cases e : i = T.2.2.1
    · simp [e]
    · have := rr i (by omega)
      simp [e, this]
def rx_mo9 : List (Nat × Nat) := rx_mo ++ [(9, 0), (9, 1), (9, 2), (9, 3), (9, 4), (9, 5)]
def rx_ao9 : List Nat := [10, 11, 12, 13, 14, 15]
theorem rx_kind {B : Nat → Int} {N q : Nat} {s : sg_S} {T : rp_T} (hK : rx_K B N s) (hS : rx_S B N (.inr q) s) (hR : rx_R T s) (hT : rp_ok T) (h8 : T.1 < 8) : am_SpV 59 [.ref 8] s (fun s2 => sg_fr rx_mo9 rx_ao9 s s2 ∧ rx_ST B N (rp_kind B N T q) s2) := by
  refine wp_XReader_readKind_ok ?_
  unfold wp_XReader_readKind
  refine (rx_newn hK hS hR hT).mono (fun x s2 h2 => ?_)
  obtain ⟨f, h3, h4⟩ := h2
  have hK2 := hK.fr f (by decide) (by decide) (by decide)
  have hR2 := hR.fr f (by decide) (by decide)
  unfold rp_kind
  cases hn : rp_new B N T q with
  | inl e =>
    have h3 : rx_S B N (rp_fs (rp_new B N T q)) s2 := h3
    rw [hn] at h3
    exact ⟨fun c => absurd (h3.1.symm.trans c) h3.2, fun _ => ⟨f.le (by decide) (by decide), h3⟩⟩
  | inr a =>
    obtain ⟨w, q2⟩ := a
    have h3 : rx_S B N (rp_fs (rp_new B N T q)) s2 := h3
    rw [hn] at h3
    have h4 := h4 w q2 hn
    obtain ⟨g1, g2, g3, g4⟩ := rp_new_gt hn
    refine ⟨fun _ => ?_, fun c => absurd h3.1 c⟩
    refine (rx_addK hR2 hT h8 h4).mono (fun s3 h5 => ?_)
    obtain ⟨f3, h6⟩ := h5
    refine ⟨(f.le (by decide) (by decide)).tr (f3.le (by decide) (by decide)), ?_, h6, rp_addN_ok hT rfl (by omega) (by have := hT.2.1; omega) g4 (rp_kset_le h8)⟩
    obtain ⟨z1, p, z2, z3, z4⟩ := h3
    exact ⟨by rw [f3.i (by decide)]; exact z1, p, by rw [f3.i (by decide)]; exact z2, z3, z4⟩
theorem rx_sgn {B : Nat → Int} {N q : Nat} {s : sg_S} (hK : rx_K B N s) (hS : rx_S B N (.inr q) s) : am_SpI 62 [.ref 8, .int (Int32.ofInt 44)] s (fun r s2 => sg_fr rx_mo [] s s2 ∧ rx_S B N (.inr q) s2 ∧ ((r.toInt = 0 ∧ ¬ (tk_k B N q = 4 ∧ B q = 44)) ∨ (¬ r.toInt = 0 ∧ tk_k B N q = 4 ∧ B q = 44))) := by
  obtain ⟨h5, p, h0, h1, rfl⟩ := hS
  refine wp_XReader_isSignNext_ok ?_
  unfold wp_XReader_isSignNext
  refine (rx_skip hK h0 h1).mono (fun s2 hs => ?_)
  obtain ⟨f, h4⟩ := hs
  have hK2 := hK.fr f (by decide) (by decide) (by decide)
  have hqN : rd_q B N p ≤ N := rd_to_le h1
  have hS2 : rx_S B N (.inr (rd_q B N p)) s2 := ⟨by rw [f.i rfl]; exact h5, rd_q B N p, h4, hqN, rd_to_idem⟩
  have e44 : (Int32.ofInt 44).toInt = 44 := rfl
  simp only [h4, hK2.1, Int.toNat_natCast, e44]
  refine ⟨fun c1 _ _ => ?_, fun c1 => ⟨f.le rfl rfl, hS2, Or.inl ⟨rfl, fun c => by have := (tk_k4 c.1).1; omega⟩⟩⟩
  have hq : rd_q B N p < N := by omega
  obtain ⟨b1, b2, b3⟩ := hK2.2.2.1 _ hq
  refine ⟨fun c2 => ⟨f.le rfl rfl, hS2, Or.inr ⟨by decide, (tk_q4 hq (rd_sg_iff.mpr (by omega))).1, by omega⟩⟩, fun c2 => ⟨f.le rfl rfl, hS2, Or.inl ⟨rfl, fun c => c2 (by have := c.2; omega)⟩⟩⟩
