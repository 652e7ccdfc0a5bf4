/-! ===== M's reader: the next token ===== -/
def rm_K (B : Nat → Int) (N : Nat) (s : sg_S) : Prop := (s.1 64 2).toInt = (N : Int) ∧ N ≤ 600 ∧ ∀ i, i < N → (s.2.2.1 65 i).toInt = B i ∧ -128 ≤ B i ∧ B i ≤ 127
theorem rm_K.fr {B : Nat → Int} {N : Nat} {s s2 : sg_S} {mo : List (Nat × Nat)} {ao : List Nat} (h : rm_K B N s) (f : sg_fr mo ao s s2) (h1 : (mo.contains (64, 2)) = false) (h2 : (ao.contains 65) = false) : rm_K B N s2 := by
  unfold rm_K
  rw [f.i h1, f.a h2]
  exact h
section MN
variable {B : Nat → Int} {N p q : Nat} {s s1 : sg_S}
theorem rm_isS (hK : rm_K B N s) (h0 : (s.1 64 3).toInt = (p : Int)) : am_SpI 153 [.ref 64] s (fun r s2 => s2 = s ∧ ((¬ r.toInt = 0 ∧ p < N ∧ rd_le (B p) = true) ∨ (r.toInt = 0 ∧ (p < N → rd_le (B p) = false)))) := by
  refine wp_M_isSmall_ok ?_
  unfold wp_M_isSmall
  simp only [h0, hK.1, Int.toNat_natCast]
  have z1 : ¬ (Int32.ofInt 1).toInt = 0 := by decide
  refine ⟨fun c1 _ _ => ?_, fun c1 => ⟨trivial, Or.inr ⟨rfl, fun c => by omega⟩⟩⟩
  have hb := hK.2.2 p (by omega)
  refine ⟨fun c2 => ⟨trivial, Or.inr ⟨rfl, fun _ => rd_le_no (by omega)⟩⟩, fun c2 => ⟨fun c3 => ⟨trivial, Or.inr ⟨rfl, fun _ => rd_le_no (by omega)⟩⟩, fun c3 => ⟨trivial, Or.inl ⟨z1, by omega, rd_le_iff.mpr (by omega)⟩⟩⟩⟩
theorem rm_isD (hK : rm_K B N s) (h0 : (s.1 64 3).toInt = (p : Int)) : am_SpI 154 [.ref 64] s (fun r s2 => s2 = s ∧ ((¬ r.toInt = 0 ∧ p < N ∧ rd_di (B p) = true) ∨ (r.toInt = 0 ∧ (p < N → rd_di (B p) = false)))) := by
  refine wp_M_isDigit_ok ?_
  unfold wp_M_isDigit
  simp only [h0, hK.1, Int.toNat_natCast]
  have z1 : ¬ (Int32.ofInt 1).toInt = 0 := by decide
  refine ⟨fun c1 _ _ => ?_, fun c1 => ⟨trivial, Or.inr ⟨rfl, fun c => by omega⟩⟩⟩
  have hb := hK.2.2 p (by omega)
  refine ⟨fun c2 => ⟨trivial, Or.inr ⟨rfl, fun _ => rd_di_no (by omega)⟩⟩, fun c2 => ⟨fun c3 => ⟨trivial, Or.inr ⟨rfl, fun _ => rd_di_no (by omega)⟩⟩, fun c3 => ⟨trivial, Or.inl ⟨z1, by omega, rd_di_iff.mpr (by omega)⟩⟩⟩⟩
def tk_m (k : Int) : Int := if k ≤ 1 then k else k - 1
/-- M's reader has the token at q -/
def rm_T (B : Nat → Int) (N q : Nat) (s : sg_S) : Prop := (s.1 64 3).toInt = (tk_e B N q : Int) ∧ (s.1 64 4).toInt = (q : Int) ∧ (s.1 64 5).toInt = tk_m (tk_k B N q) ∧ (tk_k B N q = 1 → s.2.1 64 8 = Int64.ofInt (rd_cd 27 (tk_w B N q))) ∧ (tk_k B N q = 3 → s.2.1 64 8 = Int64.ofInt (tk_n B N q)) ∧ (tk_k B N q = 4 → s.2.1 64 8 = Int64.ofInt (B q))
def rm_mn : List (Nat × Nat) := [(64, 3), (64, 4), (64, 5), (64, 8)]
theorem rm_val {b o : Int} {w : List Int} {x : Int64} {y : Int32} {c : Int} (hx : x = Int64.ofInt (rd_cd b w)) (hy : y.toInt = c) : Int64.ofInt b * x + y.toInt64 - Int64.ofInt o = Int64.ofInt (rd_cd b ((c - o) :: w)) := by
  rw [hx, i64_of, hy, ← Int64.ofInt_mul, ← Int64.ofInt_add, ← Int64.ofInt_sub]
  congr 1
  show b * rd_cd b w + c - o = rd_cd b w * b + (c - o)
  rw [Int.mul_comm]
  omega
theorem rm_i64 {y : Int32} {c v : Int} (hy : y.toInt = c) (hv : -128 ≤ v ∧ v ≤ 127) (hc : -128 ≤ c ∧ c ≤ 127) : y.toInt64 = Int64.ofInt v ↔ c = v := by
  rw [i64_of, hy]
  constructor
  · intro h
    have h2 : (Int64.ofInt c).toInt = (Int64.ofInt v).toInt := by rw [h]
    rw [i64_oi (by omega) (by omega), i64_oi (by omega) (by omega)] at h2
    exact h2
  · intro h
    rw [h]
theorem rm_next (hK : rm_K B N s) (h0 : (s.1 64 3).toInt = (p : Int)) (h1 : p ≤ N) : am_SpV 152 [.ref 64] s (fun s2 => sg_fr rm_mn [] s s2 ∧ rm_T B N (rd_q B N p) s2) := by
  have hqN : rd_q B N p ≤ N := rd_to_le h1
  generalize hqq : rd_q B N p = q at hqN
  have hN := hK.2.1
  refine wp_M_next_ok (I0 := fun s1 => sg_fr rm_mn [] s s1 ∧ ∃ r : Nat, (s1.1 64 3).toInt = (r : Int) ∧ r ≤ N ∧ rd_q B N r = q)
    (I52 := fun s1 => sg_fr rm_mn [] s s1 ∧ (s1.1 64 3).toInt = (q : Int))
    (I189 := fun s1 => sg_fr rm_mn [] s s1 ∧ q < N ∧ rd_le (B q) = false ∧ rd_di (B q) = true ∧ (s1.1 64 4).toInt = (q : Int) ∧ ∃ r : Nat, (s1.1 64 3).toInt = (r : Int) ∧ q ≤ r ∧ r ≤ N ∧ rd_to rd_di B N r = rd_to rd_di B N q ∧ (r - q ≤ 3 → s1.2.1 64 8 = Int64.ofInt (rd_cd 10 (rd_ds 48 B q (r - q)))))
    (I91 := fun s1 => sg_fr rm_mn [] s s1 ∧ q < N ∧ rd_le (B q) = true ∧ (s1.1 64 4).toInt = (q : Int) ∧ ∃ r : Nat, (s1.1 64 3).toInt = (r : Int) ∧ q ≤ r ∧ r ≤ N ∧ rd_to rd_le B N r = rd_to rd_le B N q ∧ (r - q ≤ 8 → s1.2.1 64 8 = Int64.ofInt (rd_cd 27 (rd_ds 96 B q (r - q))))) ?_ ?_ ?_ ?_ ⟨sg_fr.rf, p, h0, h1, hqq⟩
  · intro s1 hI
    obtain ⟨f, r, g0, g1, e⟩ := hI
    have hK1 := hK.fr f (by decide) (by decide)
    unfold wp_M_next_0
    simp only [g0, hK1.1, Int.toNat_natCast]
    have go : r < N → rd_bl (B r) = true → sg_fr rm_mn [] s (sg_uI s1 64 3 (s1.1 64 3 + Int32.ofInt 1)) ∧ ∃ r2 : Nat, ((sg_uI s1 64 3 (s1.1 64 3 + Int32.ofInt 1)).1 64 3).toInt = (r2 : Int) ∧ r2 ≤ N ∧ rd_q B N r2 = q := by
      intro hr hb
      refine ⟨f.uI rfl, r + 1, ?_, by omega, ?_⟩
      · show (s1.1 64 3 + Int32.ofInt 1).toInt = _
        rw [i32_inc (c := 0) (by omega) (by omega), g0]
        rfl
      · rw [← e]
        exact (rd_to_go hr hb).symm
    refine ⟨fun c1 _ _ => ?_, fun c1 => ?_⟩
    · have hr : r < N := by omega
      obtain ⟨b1, b2, b3⟩ := hK1.2.2 r hr
      refine ⟨fun c2 => go hr (rd_bl_iff.mpr (by omega)), fun c2 => ⟨fun c3 => go hr (rd_bl_iff.mpr (by omega)), fun c3 => ⟨f, ?_⟩⟩⟩
      rw [← e]
      exact congrArg Int.ofNat (rd_to_no (rd_bl_no (by omega))).symm
    · refine ⟨f, ?_⟩
      rw [← e]
      exact congrArg Int.ofNat (rd_to_end (by omega)).symm
  · intro s1 hI
    obtain ⟨f, g0⟩ := hI
    have hK1 := hK.fr f (by decide) (by decide)
    unfold wp_M_next_52
    simp only [g0, hK1.1]
    refine ⟨fun c1 => ?_, fun c1 => ?_⟩
    · have t2 : tk_k B N q = 0 := tk_k0.mpr (by omega)
      have t1 : tk_e B N q = q := by unfold tk_e; rw [if_pos (by omega)]
      refine ⟨((f.uI rfl).uL rfl).uI rfl, by rw [t1]; exact g0, g0, ?_, fun c => ?_, fun c => ?_, fun c => ?_⟩
      · rw [t2]; rfl
      · rw [t2] at c; exact absurd c (by decide)
      · rw [t2] at c; exact absurd c (by decide)
      · rw [t2] at c; exact absurd c (by decide)
    · have hq : q < N := by omega
      have f2 : sg_fr rm_mn [] s (sg_uL (sg_uI s1 64 4 (s1.1 64 3)) 64 8 (Int64.ofNat 0)) := (f.uI rfl).uL rfl
      have hK2 := hK.fr f2 (by decide) (by decide)
      have a3 : ((sg_uL (sg_uI s1 64 4 (s1.1 64 3)) 64 8 (Int64.ofNat 0)).1 64 3).toInt = (q : Int) := g0
      have a4 : ((sg_uL (sg_uI s1 64 4 (s1.1 64 3)) 64 8 (Int64.ofNat 0)).1 64 4).toInt = (q : Int) := g0
      have a8 : (sg_uL (sg_uI s1 64 4 (s1.1 64 3)) 64 8 (Int64.ofNat 0)).2.1 64 8 = Int64.ofInt 0 := rfl
      generalize sg_uL (sg_uI s1 64 4 (s1.1 64 3)) 64 8 (Int64.ofNat 0) = s2 at f2 hK2 a3 a4 a8
      refine (rm_isS hK2 a3).mono (fun x s3 hx => ?_)
      obtain ⟨rfl, hx⟩ := hx
      refine ⟨fun c2 => ?_, fun c2 => ?_⟩
      · have hl : rd_le (B q) = false := by
          rcases hx with hx | hx
          · exact absurd c2 hx.1
          · exact hx.2 hq
        refine (rm_isD hK2 a3).mono (fun y s4 hy => ?_)
        obtain ⟨rfl, hy⟩ := hy
        simp only [a3, Int.toNat_natCast]
        refine ⟨fun c3 _ _ => ?_, fun c3 => ?_⟩
        · have hd : rd_di (B q) = false := by
            rcases hy with hy | hy
            · exact absurd c3 hy.1
            · exact hy.2 hq
          obtain ⟨t1, t2⟩ := tk_5 hq hl hd
          obtain ⟨b1, b2, b3⟩ := hK2.2.2 q hq
          have hn : (s4.1 64 3 + Int32.ofInt 1).toInt = (tk_e B N q : Int) := by
            rw [i32_inc (c := 0) (by omega) (by omega), a3, t1]
            rfl
          rw [rm_i64 b1 (by decide) ⟨b2, b3⟩, rm_i64 b1 (by decide) ⟨b2, b3⟩, rm_i64 b1 (by decide) ⟨b2, b3⟩, rm_i64 b1 (by decide) ⟨b2, b3⟩]
          have yes : rd_sg (B q) = true → sg_fr rm_mn [] s (sg_uI (sg_uI (sg_uL s4 64 8 (s4.2.2.1 65 q).toInt64) 64 5 (Int32.ofInt 3)) 64 3 (s4.1 64 3 + Int32.ofInt 1)) ∧ rm_T B N q (sg_uI (sg_uI (sg_uL s4 64 8 (s4.2.2.1 65 q).toInt64) 64 5 (Int32.ofInt 3)) 64 3 (s4.1 64 3 + Int32.ofInt 1)) := by
            intro hs
            rw [if_pos hs] at t2
            refine ⟨((f2.uL rfl).uI rfl).uI rfl, hn, a4, ?_, fun c => ?_, fun c => ?_, fun _ => ?_⟩
            · rw [t2]; rfl
            · rw [t2] at c; exact absurd c (by decide)
            · rw [t2] at c; exact absurd c (by decide)
            · show (s4.2.2.1 65 q).toInt64 = _
              rw [i64_of, b1]
          refine ⟨fun c4 => yes (rd_sg_iff.mpr (by omega)), fun c4 => ⟨fun c5 => yes (rd_sg_iff.mpr (by omega)), fun c5 => ⟨fun c6 => yes (rd_sg_iff.mpr (by omega)), fun c6 => ⟨fun c7 => yes (rd_sg_iff.mpr (by omega)), fun c7 => ?_⟩⟩⟩⟩
          have hs : rd_sg (B q) = false := rd_sg_no (by omega)
          rw [hs, if_neg (by decide)] at t2
          refine ⟨((f2.uL rfl).uI rfl).uI rfl, hn, a4, ?_, fun c => ?_, fun c => ?_, fun c => ?_⟩
          · rw [t2]; rfl
          · rw [t2] at c; exact absurd c (by decide)
          · rw [t2] at c; exact absurd c (by decide)
          · rw [t2] at c; exact absurd c (by decide)
        · have hd : rd_di (B q) = true := by
            rcases hy with hy | hy
            · exact hy.2.2
            · exact absurd hy.1 c3
          exact ⟨f2, hq, hl, hd, a4, q, rfl, Nat.le_refl _, by omega, rfl, fun _ => by rw [a8, Nat.sub_self]; rfl⟩
      · have hl : rd_le (B q) = true := by
          rcases hx with hx | hx
          · exact hx.2.2
          · exact absurd hx.1 c2
        exact ⟨f2, hq, hl, a4, q, a3, Nat.le_refl _, by omega, rfl, fun _ => by rw [a8, Nat.sub_self]; rfl⟩
  · intro s1 hI
    obtain ⟨f, hq, hl, hd, g4, r, g0, gq, g1, e, gn⟩ := hI
    have hK1 := hK.fr f (by decide) (by decide)
    obtain ⟨t1, t2⟩ := tk_3 hq hl hd
    unfold wp_M_next_189
    refine (rm_isD hK1 g0).mono (fun x s2 hx => ?_)
    obtain ⟨rfl, hx⟩ := hx
    have e3 : ((s2.1 64 3) - (s2.1 64 4)).toInt = (r : Int) - q := by rw [i32_sub (by omega) (by omega), g0, g4]
    simp only [g0, e3, Int.toNat_natCast]
    refine ⟨fun c2 => ?_, fun c2 => ?_⟩
    · have hr : rd_to rd_di B N r = r := by
        rcases hx with hx | hx
        · exact absurd c2 hx.1
        · by_cases hrN : r < N
          · exact rd_to_no (hx.2 hrN)
          · exact rd_to_end (by omega)
      have hl2 : tk_nl B N q = r - q := by unfold tk_nl; omega
      refine ⟨fun c3 => ?_, fun c3 => ?_⟩
      · rw [if_pos (by omega)] at t2
        refine ⟨f.uI rfl, ?_, g4, ?_, fun c => ?_, fun c => ?_, fun c => ?_⟩
        · show (s2.1 64 3).toInt = _
          omega
        · rw [t2]; rfl
        · rw [t2] at c; exact absurd c (by decide)
        · rw [t2] at c; exact absurd c (by decide)
        · rw [t2] at c; exact absurd c (by decide)
      · rw [if_neg (by omega)] at t2
        refine ⟨f.uI rfl, ?_, g4, ?_, fun c => ?_, fun c => ?_, fun c => ?_⟩
        · show (s2.1 64 3).toInt = _
          omega
        · rw [t2]; rfl
        · rw [t2] at c; exact absurd c (by decide)
        · unfold tk_n
          rw [hl2]
          exact gn (by omega)
        · rw [t2] at c; exact absurd c (by decide)
    · rcases hx with hx | hx
      · have hr := hx.2.1
        have hinc : (s2.1 64 3 + Int32.ofInt 1).toInt = ((r + 1 : Nat) : Int) := by
          rw [i32_inc (c := 0) (by omega) (by omega), g0]
          rfl
        have hto : rd_to rd_di B N (r + 1) = rd_to rd_di B N q := by
          rw [← e]
          exact (rd_to_go hr hx.2.2).symm
        refine ⟨fun c3 _ _ => ?_, fun c3 => ?_⟩
        · refine ⟨(f.uL rfl).uI rfl, hq, hl, hd, g4, r + 1, hinc, by omega, by omega, hto, fun _ => ?_⟩
          show Int64.ofInt 10 * s2.2.1 64 8 + (s2.2.2.1 65 r).toInt64 - Int64.ofInt 48 = _
          rw [rm_val (gn (by omega)) (hK1.2.2 r hr).1, show r + 1 - q = (r - q) + 1 by omega]
          show _ = Int64.ofInt (rd_cd 10 ((B (q + (r - q)) - 48) :: rd_ds 48 B q (r - q)))
          rw [show q + (r - q) = r by omega]
        · exact ⟨(f.uL rfl).uI rfl, hq, hl, hd, g4, r + 1, hinc, by omega, by omega, hto, fun c => absurd c (by omega)⟩
      · exact absurd hx.1 c2
  · intro s1 hI
    obtain ⟨f, hq, hl, g4, r, g0, gq, g1, e, gn⟩ := hI
    have hK1 := hK.fr f (by decide) (by decide)
    obtain ⟨t1, t2⟩ := tk_1 hq hl
    unfold wp_M_next_91
    refine (rm_isS hK1 g0).mono (fun x s2 hx => ?_)
    obtain ⟨rfl, hx⟩ := hx
    have e3 : ((s2.1 64 3) - (s2.1 64 4)).toInt = (r : Int) - q := by rw [i32_sub (by omega) (by omega), g0, g4]
    simp only [g0, e3, Int.toNat_natCast]
    refine ⟨fun c2 => ?_, fun c2 => ?_⟩
    · have hr : rd_to rd_le B N r = r := by
        rcases hx with hx | hx
        · exact absurd c2 hx.1
        · by_cases hrN : r < N
          · exact rd_to_no (hx.2 hrN)
          · exact rd_to_end (by omega)
      have hl2 : tk_wl B N q = r - q := by unfold tk_wl; omega
      refine ⟨fun c3 => ?_, fun c3 => ?_⟩
      · rw [if_pos (by omega)] at t2
        refine ⟨f.uI rfl, ?_, g4, ?_, fun c => ?_, fun c => ?_, fun c => ?_⟩
        · show (s2.1 64 3).toInt = _
          omega
        · rw [t2]; rfl
        · rw [t2] at c; exact absurd c (by decide)
        · rw [t2] at c; exact absurd c (by decide)
        · rw [t2] at c; exact absurd c (by decide)
      · rw [if_neg (by omega)] at t2
        refine ⟨f.uI rfl, ?_, g4, ?_, fun c => ?_, fun c => ?_, fun c => ?_⟩
        · show (s2.1 64 3).toInt = _
          omega
        · rw [t2]; rfl
        · unfold tk_w
          rw [hl2]
          exact gn (by omega)
        · rw [t2] at c; exact absurd c (by decide)
        · rw [t2] at c; exact absurd c (by decide)
    · rcases hx with hx | hx
      · have hr := hx.2.1
        have hinc : (s2.1 64 3 + Int32.ofInt 1).toInt = ((r + 1 : Nat) : Int) := by
          rw [i32_inc (c := 0) (by omega) (by omega), g0]
          rfl
        have hto : rd_to rd_le B N (r + 1) = rd_to rd_le B N q := by
          rw [← e]
          exact (rd_to_go hr hx.2.2).symm
        refine ⟨fun c3 _ _ => ?_, fun c3 => ?_⟩
        · refine ⟨(f.uL rfl).uI rfl, hq, hl, g4, r + 1, hinc, by omega, by omega, hto, fun _ => ?_⟩
          show Int64.ofInt 27 * s2.2.1 64 8 + (s2.2.2.1 65 r).toInt64 - Int64.ofInt 96 = _
          rw [rm_val (gn (by omega)) (hK1.2.2 r hr).1, show r + 1 - q = (r - q) + 1 by omega]
          show _ = Int64.ofInt (rd_cd 27 ((B (q + (r - q)) - 96) :: rd_ds 96 B q (r - q)))
          rw [show q + (r - q) = r by omega]
        · exact ⟨(f.uL rfl).uI rfl, hq, hl, g4, r + 1, hinc, by omega, by omega, hto, fun c => absurd c (by omega)⟩
      · exact absurd hx.1 c2
end MN
