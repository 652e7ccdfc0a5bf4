/-! ===== X's reader: a token is scanned ===== -/
/-- a byte as X has it (0 .. 255) and as M has it (-128 .. 127) -/
def rx_b (b : Int) (x : Int32) : Prop := -128 ≤ b ∧ b ≤ 127 ∧ ((x.toInt = b ∧ 0 ≤ b) ∨ (x.toInt = b + 256 ∧ b < 0))
def rx_K (B : Nat → Int) (N : Nat) (s : sg_S) : Prop := (s.1 8 2).toInt = (N : Int) ∧ N ≤ 600 ∧ (∀ i, i < N → rx_b (B i) (s.2.2.1 16 i)) ∧ ∀ (i : Nat) (v : List Int), rd_KW[i]? = some v → s.2.2.2.1 17 i = Int64.ofInt (rd_cd 32 v)
theorem rx_K.fr {B : Nat → Int} {N : Nat} {s s2 : sg_S} {mo : List (Nat × Nat)} {ao : List Nat} (h : rx_K B N s) (f : sg_fr mo ao s s2) (h1 : (mo.contains (8, 2)) = false) (h2 : (ao.contains 16) = false) (h3 : (ao.contains 17) = false) : rx_K B N s2 := by
  unfold rx_K
  rw [f.i h1, f.a h2, f.m h3]
  exact h
theorem rx_isD {b : Int} {x : Int32} {s : sg_S} (hb : rx_b b x) : am_SpI 50 [.int x] s (fun r s2 => s2 = s ∧ ((r.toInt = 1 ∧ rd_di b = true) ∨ (r.toInt = 0 ∧ rd_di b = false))) := by
  obtain ⟨h1, h2, h3⟩ := hb
  refine wp_XReader_isDigit_ok ?_
  unfold wp_XReader_isDigit
  refine ⟨fun c => ⟨rfl, Or.inr ⟨rfl, rd_di_no (by omega)⟩⟩, fun c => ⟨fun c2 => ⟨rfl, Or.inr ⟨rfl, rd_di_no (by omega)⟩⟩, fun c2 => ⟨rfl, Or.inl ⟨rfl, rd_di_iff.mpr (by omega)⟩⟩⟩⟩
theorem rx_isL {b : Int} {x : Int32} {s : sg_S} (hb : rx_b b x) : am_SpI 48 [.int x] s (fun r s2 => s2 = s ∧ ((r.toInt = 1 ∧ rd_le b = true) ∨ (r.toInt = 0 ∧ rd_le b = false))) := by
  obtain ⟨h1, h2, h3⟩ := hb
  refine wp_XReader_isLetter_ok ?_
  unfold wp_XReader_isLetter
  refine ⟨fun c => ⟨rfl, Or.inr ⟨rfl, rd_le_no (by omega)⟩⟩, fun c => ⟨fun c2 => ⟨rfl, Or.inr ⟨rfl, rd_le_no (by omega)⟩⟩, fun c2 => ⟨rfl, Or.inl ⟨rfl, rd_le_iff.mpr (by omega)⟩⟩⟩⟩
theorem rx_with {w : List Int} {b : Int} {x : Int64} {y : Int32} {s : sg_S} (hx : x = Int64.ofInt (rd_cd 32 w)) (hy : rx_b b y) (hb : rd_le b = true) : am_SpL 43 [.long x, .int y] s (fun r s2 => s2 = s ∧ r = Int64.ofInt (rd_cd 32 ((b - 96) :: w))) := by
  refine wp_XReader_withLetter_ok ?_
  unfold wp_XReader_withLetter
  refine ⟨rfl, ?_⟩
  have h := rd_le_iff.mp hb
  obtain ⟨h1, h2, h3⟩ := hy
  have e1 : (Int32.ofInt 97).toInt = 97 := rfl
  have e2 : (Int32.ofInt 1).toInt = 1 := rfl
  have e3 : (y - Int32.ofInt 97).toInt = y.toInt - 97 := by rw [i32_sub (by omega) (by omega), e1]
  have e4 : (y - Int32.ofInt 97 + Int32.ofInt 1).toInt = b - 96 := by rw [i32_add (by omega) (by omega), e2, e3]; omega
  rw [i64_of, e4, hx, ← Int64.ofInt_mul, ← Int64.ofInt_add]
  rfl
theorem rx_skip {B : Nat → Int} {N p : Nat} {s : sg_S} (hK : rx_K B N s) (h0 : (s.1 8 4).toInt = (p : Int)) (h1 : p ≤ N) : am_SpV 47 [.ref 8] s (fun s2 => sg_fr [(8, 4)] [] s s2 ∧ (s2.1 8 4).toInt = (rd_q B N p : Int)) := by
  refine wp_XReader_skipBlanks_ok (I0 := fun s1 => sg_fr [(8, 4)] [] s s1 ∧ ∃ r : Nat, (s1.1 8 4).toInt = (r : Int) ∧ r ≤ N ∧ rd_q B N r = rd_q B N p) ?_ ⟨sg_fr.rf, p, h0, h1, rfl⟩
  intro s1 hI
  obtain ⟨f, r, g0, g1, e⟩ := hI
  obtain ⟨k1, k2, k3, -⟩ := hK.fr f rfl rfl rfl
  unfold wp_XReader_skipBlanks_0
  simp only [g0, k1, Int.toNat_natCast]
  have go : r < N → rd_bl (B r) = true → sg_fr [(8, 4)] [] s (sg_uI s1 8 4 (s1.1 8 4 + Int32.ofInt 1)) ∧ ∃ r2 : Nat, ((sg_uI s1 8 4 (s1.1 8 4 + Int32.ofInt 1)).1 8 4).toInt = (r2 : Int) ∧ r2 ≤ N ∧ rd_q B N r2 = rd_q B N p := by
    intro hr hb
    refine ⟨f.uI rfl, r + 1, ?_, by omega, ?_⟩
    · show (s1.1 8 4 + Int32.ofInt 1).toInt = _
      rw [i32_inc (c := 0) (by omega) (by omega), g0]
      rfl
    · rw [← e]
      exact (rd_to_go hr hb).symm
  refine ⟨fun c1 _ _ => ?_, fun c1 => ?_⟩
  · have hr : r < N := by omega
    obtain ⟨b1, b2, b3⟩ := k3 r hr
    refine ⟨fun c2 => go hr (rd_bl_iff.mpr (by omega)), fun c2 => ⟨fun c3 => go hr (rd_bl_iff.mpr (by omega)), fun c3 => ⟨f, ?_⟩⟩⟩
    rw [← e]
    exact congrArg Int.ofNat (rd_to_no (rd_bl_no (by omega))).symm
  · refine ⟨f, ?_⟩
    rw [← e]
    exact congrArg Int.ofNat (rd_to_end (by omega)).symm
/-- the digits that begin at q -/
theorem rx_num {B : Nat → Int} {N q : Nat} {s : sg_S} (hK : rx_K B N s) (h0 : (s.1 8 4).toInt = (q : Int)) (h1 : q ≤ N) (h2 : (s.1 8 7).toInt = (q : Int)) (h3 : s.1 8 8 = Int32.ofInt 0) : am_SpV 51 [.ref 8] s (fun s2 => sg_fr [(8, 4), (8, 6), (8, 8)] [] s s2 ∧ (s2.1 8 4).toInt = (rd_to rd_di B N q : Int) ∧ (s2.1 8 6).toInt = (if 3 < tk_nl B N q then 5 else 3) ∧ s2.1 8 8 = Int32.ofInt (tk_n B N q)) := by
  refine wp_XReader_scanNumber_ok (I0 := fun s1 => sg_fr [(8, 4), (8, 6), (8, 8)] [] s s1 ∧ ∃ r : Nat, (s1.1 8 4).toInt = (r : Int) ∧ q ≤ r ∧ r ≤ N ∧ rd_to rd_di B N r = rd_to rd_di B N q ∧ s1.1 8 8 = Int32.ofInt (rd_cd 10 (rd_ds 48 B q (r - q)))) ?_ ⟨sg_fr.rf, q, h0, Nat.le_refl _, h1, rfl, by rw [h3, Nat.sub_self]; rfl⟩
  intro s1 hI
  obtain ⟨f, r, g0, gq, g1, e, gn⟩ := hI
  have hK1 := hK.fr f rfl rfl rfl
  obtain ⟨k1, k2, k3, -⟩ := id hK1
  have g7 : (s1.1 8 7).toInt = (q : Int) := by rw [f.i rfl]; exact h2
  have e3 : ((s1.1 8 4) - (s1.1 8 7)).toInt = (r : Int) - q := by rw [i32_sub (by omega) (by omega), g0, g7]
  unfold wp_XReader_scanNumber_0
  simp only [g0, k1, Int.toNat_natCast, e3]
  have fin : rd_to rd_di B N r = r → ((3 < (r : Int) - q → sg_fr [(8, 4), (8, 6), (8, 8)] [] s (sg_uI s1 8 6 (Int32.ofInt 5)) ∧ ((sg_uI s1 8 6 (Int32.ofInt 5)).1 8 4).toInt = (rd_to rd_di B N q : Int) ∧ ((sg_uI s1 8 6 (Int32.ofInt 5)).1 8 6).toInt = (if 3 < tk_nl B N q then 5 else 3) ∧ (sg_uI s1 8 6 (Int32.ofInt 5)).1 8 8 = Int32.ofInt (tk_n B N q)) ∧ (¬ 3 < (r : Int) - q → sg_fr [(8, 4), (8, 6), (8, 8)] [] s (sg_uI s1 8 6 (Int32.ofInt 3)) ∧ ((sg_uI s1 8 6 (Int32.ofInt 3)).1 8 4).toInt = (rd_to rd_di B N q : Int) ∧ ((sg_uI s1 8 6 (Int32.ofInt 3)).1 8 6).toInt = (if 3 < tk_nl B N q then 5 else 3) ∧ (sg_uI s1 8 6 (Int32.ofInt 3)).1 8 8 = Int32.ofInt (tk_n B N q))) := by
    intro hr
    have hl : tk_nl B N q = r - q := by unfold tk_nl; omega
    have hn : tk_n B N q = rd_cd 10 (rd_ds 48 B q (r - q)) := by unfold tk_n; rw [hl]
    refine ⟨fun c => ⟨f.uI rfl, ?_, ?_, ?_⟩, fun c => ⟨f.uI rfl, ?_, ?_, ?_⟩⟩
    · show (s1.1 8 4).toInt = _
      omega
    · rw [if_pos (by omega)]
      rfl
    · rw [hn]
      exact gn
    · show (s1.1 8 4).toInt = _
      omega
    · rw [if_neg (by omega)]
      rfl
    · rw [hn]
      exact gn
  refine ⟨fun c1 _ _ => ?_, fun c1 => fin (rd_to_end (by omega))⟩
  have hr : r < N := by omega
  have hb := k3 r hr
  refine (rx_isD hb).mono (fun x s2 hx => ?_)
  obtain ⟨rfl, hx⟩ := hx
  simp only [g0, e3, Int.toNat_natCast]
  refine ⟨fun c2 => ?_, fun c2 _ _ => ?_⟩
  · rcases hx with hx | hx
    · omega
    · exact fin (rd_to_no hx.2)
  · rcases hx with hx | hx
    · refine ⟨(f.uI rfl).uI rfl, r + 1, ?_, by omega, by omega, ?_, ?_⟩
      · show (s2.1 8 4 + Int32.ofInt 1).toInt = _
        rw [i32_inc (c := 0) (by omega) (by omega), g0]
        rfl
      · rw [← e]
        exact (rd_to_go hr hx.2).symm
      · show s2.1 8 8 * Int32.ofInt 10 + (s2.2.2.1 16 r - Int32.ofInt 48) = _
        have hd := rd_di_iff.mp hx.2
        obtain ⟨b1, b2, b3⟩ := hb
        have e5 : s2.2.2.1 16 r = Int32.ofInt (B r) := by rw [← am_oio (s2.2.2.1 16 r)]; congr 1; omega
        rw [gn, e5, am_om, am_os, am_oa, show r + 1 - q = (r - q) + 1 by omega]
        show _ = Int32.ofInt (rd_cd 10 (rd_ds 48 B q (r - q)) * 10 + (B (q + (r - q)) - 48))
        rw [show q + (r - q) = r by omega]
    · omega
/-- the letters that begin at q -/
theorem tk_1 {B : Nat → Int} {N q : Nat} (h : q < N) (hl : rd_le (B q) = true) : tk_e B N q = rd_to rd_le B N q ∧ tk_k B N q = (if 8 < tk_wl B N q then 5 else 1) := by
  unfold tk_e tk_k
  rw [if_neg (by omega), if_pos hl, if_neg (by omega), if_pos hl]
  exact ⟨rfl, rfl⟩
theorem tk_3 {B : Nat → Int} {N q : Nat} (h : q < N) (hl : rd_le (B q) = false) (hd : rd_di (B q) = true) : tk_e B N q = rd_to rd_di B N q ∧ tk_k B N q = (if 3 < tk_nl B N q then 5 else 3) := by
  unfold tk_e tk_k
  rw [if_neg (by omega), if_neg (by rw [hl]; decide), if_pos hd, if_neg (by omega), if_neg (by rw [hl]; decide), if_pos hd]
  exact ⟨rfl, rfl⟩
theorem tk_5 {B : Nat → Int} {N q : Nat} (h : q < N) (hl : rd_le (B q) = false) (hd : rd_di (B q) = false) : tk_e B N q = q + 1 ∧ tk_k B N q = (if rd_sg (B q) = true then 4 else 5) := by
  unfold tk_e tk_k
  rw [if_neg (by omega), if_neg (by rw [hl]; decide), if_neg (by rw [hd]; decide), if_neg (by omega), if_neg (by rw [hl]; decide), if_neg (by rw [hd]; decide)]
  exact ⟨rfl, rfl⟩
theorem rx_word {B : Nat → Int} {N q : Nat} {s : sg_S} (hK : rx_K B N s) (h0 : (s.1 8 4).toInt = (q : Int)) (h1 : q < N) (hl : rd_le (B q) = true) (h2 : (s.1 8 7).toInt = (q : Int)) (h3 : s.2.1 8 9 = Int64.ofInt 0) : am_SpV 49 [.ref 8] s (fun s2 => sg_fr [(8, 4), (8, 6), (8, 8), (8, 9)] [] s s2 ∧ (s2.1 8 4).toInt = (rd_to rd_le B N q : Int) ∧ (s2.1 8 6).toInt = (if 8 < tk_wl B N q then 5 else if rd_kw (tk_w B N q) = -1 then 2 else 1) ∧ (¬ 8 < tk_wl B N q → s2.2.1 8 9 = Int64.ofInt (rd_cd 32 (tk_w B N q)) ∧ (rd_kw (tk_w B N q) ≠ -1 → (s2.1 8 8).toInt = rd_kw (tk_w B N q)))) := by
  refine wp_XReader_scanWord_ok (I0 := fun s1 => sg_fr [(8, 4), (8, 6), (8, 8), (8, 9)] [] s s1 ∧ ∃ r : Nat, (s1.1 8 4).toInt = (r : Int) ∧ q ≤ r ∧ r ≤ N ∧ rd_to rd_le B N r = rd_to rd_le B N q ∧ s1.2.1 8 9 = Int64.ofInt (rd_cd 32 (rd_ds 96 B q (r - q))))
    (I59 := fun s1 => sg_fr [(8, 4), (8, 6), (8, 8), (8, 9)] [] s s1 ∧ (s1.1 8 4).toInt = (rd_to rd_le B N q : Int) ∧ s1.2.1 8 9 = Int64.ofInt (rd_cd 32 (tk_w B N q)))
    (I86 := fun l s1 => sg_fr [(8, 4), (8, 6), (8, 8), (8, 9)] [] s s1 ∧ (s1.1 8 4).toInt = (rd_to rd_le B N q : Int) ∧ s1.2.1 8 9 = Int64.ofInt (rd_cd 32 (tk_w B N q)) ∧ ¬ 8 < tk_wl B N q ∧ ∃ k : Nat, l.toInt = (k : Int) ∧ k ≤ 13 ∧ (s1.1 8 6).toInt = (if rd_kn (tk_w B N q) k = -1 then 2 else 1) ∧ (rd_kn (tk_w B N q) k ≠ -1 → (s1.1 8 8).toInt = rd_kn (tk_w B N q) k)) ?_ ?_ ?_ ⟨sg_fr.rf, q, h0, Nat.le_refl _, by omega, rfl, by rw [h3, Nat.sub_self]; rfl⟩
  · intro s1 hI
    obtain ⟨f, r, g0, gq, g1, e, gn⟩ := hI
    have hK1 := hK.fr f rfl rfl rfl
    obtain ⟨k1, k2, k3, -⟩ := id hK1
    unfold wp_XReader_scanWord_0
    simp only [g0, k1, Int.toNat_natCast]
    have fin : rd_to rd_le B N r = r → (r : Int) = (rd_to rd_le B N q : Int) ∧ s1.2.1 8 9 = Int64.ofInt (rd_cd 32 (tk_w B N q)) := by
      intro hr
      have hr2 : rd_to rd_le B N q = r := by omega
      refine ⟨by omega, ?_⟩
      unfold tk_w tk_wl
      rw [hr2]
      exact gn
    refine ⟨fun c1 _ _ => ?_, fun c1 => ⟨f, fin (rd_to_end (by omega))⟩⟩
    have hr : r < N := by omega
    have hb := k3 r hr
    refine (rx_isL hb).mono (fun x s2 hx => ?_)
    obtain ⟨rfl, hx⟩ := hx
    simp only [g0, Int.toNat_natCast]
    refine ⟨fun c2 => ?_, fun c2 _ _ => ?_⟩
    · rcases hx with hx | hx
      · omega
      · exact ⟨f, fin (rd_to_no hx.2)⟩
    · rcases hx with hx | hx
      · refine (rx_with gn hb hx.2).mono (fun y s3 hy => ?_)
        obtain ⟨rfl, hy⟩ := hy
        refine ⟨(f.uL rfl).uI rfl, r + 1, ?_, by omega, by omega, ?_, ?_⟩
        · show (s3.1 8 4 + Int32.ofInt 1).toInt = _
          rw [i32_inc (c := 0) (by omega) (by omega), g0]
          rfl
        · rw [← e]
          exact (rd_to_go hr hx.2).symm
        · show y = _
          rw [hy, show r + 1 - q = (r - q) + 1 by omega]
          show _ = Int64.ofInt (rd_cd 32 ((B (q + (r - q)) - 96) :: rd_ds 96 B q (r - q)))
          rw [show q + (r - q) = r by omega]
      · omega
  · intro s1 hI
    obtain ⟨f, g0, gn⟩ := hI
    have g7 : (s1.1 8 7).toInt = (q : Int) := by rw [f.i rfl]; exact h2
    have hle : rd_to rd_le B N q ≤ N := rd_to_le (by omega)
    have hge : q ≤ rd_to rd_le B N q := rd_to_ge
    have hN := hK.2.1
    have e3 : ((s1.1 8 4) - (s1.1 8 7)).toInt = (tk_wl B N q : Int) := by
      rw [i32_sub (by omega) (by omega), g0, g7]
      unfold tk_wl
      omega
    unfold wp_XReader_scanWord_59
    simp only [e3]
    refine ⟨fun c => ⟨f.uI rfl, g0, ?_, fun c2 => absurd (show 8 < tk_wl B N q by omega) c2⟩, fun c => ⟨f.uI rfl, g0, gn, by omega, 0, rfl, by omega, rfl, fun c2 => absurd rfl c2⟩⟩
    rw [if_pos (by omega)]
    rfl
  · intro l s1 hI
    obtain ⟨f, g0, gn, h8, k, hk, hk2, ht, hn⟩ := hI
    have hK1 := hK.fr f rfl rfl rfl
    obtain ⟨-, -, -, k4⟩ := id hK1
    have hw : rd_nm (tk_w B N q) := (tk_k1 (by rw [(tk_1 h1 hl).2, if_neg h8])).2.2.2
    unfold wp_XReader_scanWord_86
    simp only [hk, Int.toNat_natCast]
    refine ⟨fun c1 _ _ => ?_, fun c1 => ?_⟩
    · have hk3 : k < 13 := by omega
      obtain ⟨v, hv⟩ : ∃ v, rd_KW[k]? = some v := ⟨rd_KW[k]'hk3, List.getElem?_eq_getElem hk3⟩
      have e17 := k4 k v hv
      have hq := rd_cd_eq (rd_KW_nm k v hv) hw (b := 32) (by decide) (by decide)
      have hq2 : s1.2.2.2.1 17 k = s1.2.1 8 9 ↔ v = tk_w B N q := by rw [e17, gn]; exact hq
      have hinc : (l + Int32.ofInt 1).toInt = ((k + 1 : Nat) : Int) := by
        rw [i32_inc (c := 0) (by omega) (by omega), hk]
        rfl
      have hst : rd_kn (tk_w B N q) (k + 1) = if rd_KW[k]? = some (tk_w B N q) then (k : Int) else rd_kn (tk_w B N q) k := rfl
      refine ⟨fun c2 => ?_, fun c2 => ?_⟩
      · have c2 := hq2.mp c2
        subst c2
        have e1 : rd_kn (tk_w B N q) (k + 1) = (k : Int) := by rw [hst, if_pos hv]
        refine ⟨(f.uI rfl).uI rfl, g0, gn, h8, k + 1, hinc, by omega, ?_, fun _ => ?_⟩
        · rw [e1, if_neg (by omega)]
          rfl
        · rw [e1]
          exact hk
      · have e1 : rd_kn (tk_w B N q) (k + 1) = rd_kn (tk_w B N q) k := by
          rw [hst, if_neg (by rw [hv]; exact fun q => c2 (hq2.mpr (Option.some.inj q)))]
        exact ⟨f, g0, gn, h8, k + 1, hinc, by omega, by rw [e1]; exact ht, by rw [e1]; exact hn⟩
    · have hk3 : k = 13 := by omega
      subst hk3
      refine ⟨f, g0, ?_, fun _ => ⟨gn, hn⟩⟩
      rw [if_neg h8]
      exact ht
/-- X's reader has scanned the token at q -/
def rx_T (B : Nat → Int) (N q : Nat) (s : sg_S) : Prop := (s.1 8 4).toInt = (tk_e B N q : Int) ∧ (s.1 8 7).toInt = (q : Int) ∧ (s.1 8 6).toInt = (if tk_k B N q = 1 ∧ rd_kw (tk_w B N q) = -1 then 2 else tk_k B N q) ∧ (tk_k B N q = 1 → s.2.1 8 9 = Int64.ofInt (rd_cd 32 (tk_w B N q)) ∧ (rd_kw (tk_w B N q) ≠ -1 → (s.1 8 8).toInt = rd_kw (tk_w B N q))) ∧ (tk_k B N q = 3 → (s.1 8 8).toInt = tk_n B N q) ∧ (tk_k B N q = 4 → (s.1 8 8).toInt = B q)
theorem rx_scan {B : Nat → Int} {N p : Nat} {s : sg_S} (hK : rx_K B N s) (h0 : (s.1 8 4).toInt = (p : Int)) (h1 : p ≤ N) : am_SpV 46 [.ref 8] s (fun s2 => sg_fr [(8, 4), (8, 6), (8, 7), (8, 8), (8, 9)] [] s s2 ∧ rx_T B N (rd_q B N p) s2) := by
  refine wp_XReader_scan_ok ?_
  unfold wp_XReader_scan
  refine (rx_skip hK h0 h1).mono (fun s1 hs => ?_)
  obtain ⟨f1, g0⟩ := hs
  have hqN : rd_q B N p ≤ N := rd_to_le h1
  generalize rd_q B N p = q at g0 hqN
  have f1' : sg_fr [(8, 4), (8, 6), (8, 7), (8, 8), (8, 9)] [] s s1 := f1.le rfl rfl
  have hK1 := hK.fr f1 rfl rfl rfl
  obtain ⟨k1, k2, k3, -⟩ := id hK1
  simp only [g0, k1, Int.toNat_natCast]
  refine ⟨fun c1 _ _ => ?_, fun c1 => ?_⟩
  · have hq : q < N := by omega
    have hb := k3 q hq
    refine (rx_isL hb).mono (fun x s2 hx => ?_)
    obtain ⟨rfl, hx⟩ := hx
    have f2 : sg_fr [(8, 4), (8, 6), (8, 7), (8, 8), (8, 9)] [] s (sg_uL (sg_uI (sg_uI s1 8 7 (s1.1 8 4)) 8 8 (Int32.ofInt 0)) 8 9 (Int64.ofNat 0)) := ((f1'.uI rfl).uI rfl).uL rfl
    have hK2 := hK.fr f2 rfl rfl rfl
    have a4 : ((sg_uL (sg_uI (sg_uI s1 8 7 (s1.1 8 4)) 8 8 (Int32.ofInt 0)) 8 9 (Int64.ofNat 0)).1 8 4).toInt = (q : Int) := g0
    have a7 : ((sg_uL (sg_uI (sg_uI s1 8 7 (s1.1 8 4)) 8 8 (Int32.ofInt 0)) 8 9 (Int64.ofNat 0)).1 8 7).toInt = (q : Int) := g0
    have a8 : (sg_uL (sg_uI (sg_uI s1 8 7 (s1.1 8 4)) 8 8 (Int32.ofInt 0)) 8 9 (Int64.ofNat 0)).1 8 8 = Int32.ofInt 0 := rfl
    have a9 : (sg_uL (sg_uI (sg_uI s1 8 7 (s1.1 8 4)) 8 8 (Int32.ofInt 0)) 8 9 (Int64.ofNat 0)).2.1 8 9 = Int64.ofInt 0 := rfl
    generalize sg_uL (sg_uI (sg_uI s1 8 7 (s1.1 8 4)) 8 8 (Int32.ofInt 0)) 8 9 (Int64.ofNat 0) = s2 at f2 hK2 a4 a7 a8 a9
    simp only [a4, Int.toNat_natCast]
    refine ⟨fun c2 _ _ => ?_, fun c2 => ?_⟩
    · have hl : rd_le (B q) = false := by
        rcases hx with hx | hx
        · omega
        · exact hx.2
      have hb2 := hK2.2.2.1 q hq
      refine (rx_isD hb2).mono (fun y s3 hy => ?_)
      obtain ⟨rfl, hy⟩ := hy
      simp only [a4, Int.toNat_natCast]
      refine ⟨fun c3 _ _ => ?_, fun c3 => ?_⟩
      · have hd : rd_di (B q) = false := by
          rcases hy with hy | hy
          · omega
          · exact hy.2
        obtain ⟨t1, t2⟩ := tk_5 hq hl hd
        have hn : (s3.1 8 4 + Int32.ofInt 1).toInt = (tk_e B N q : Int) := by
          rw [i32_inc (c := 0) (by omega) (by omega), a4, t1]
          rfl
        obtain ⟨b1, b2, b3⟩ := hb2
        have yes : rd_sg (B q) = true → sg_fr [(8, 4), (8, 6), (8, 7), (8, 8), (8, 9)] [] s (sg_uI (sg_uI (sg_uI s3 8 8 (s3.2.2.1 16 q)) 8 6 (Int32.ofInt 4)) 8 4 (s3.1 8 4 + Int32.ofInt 1)) ∧ rx_T B N q (sg_uI (sg_uI (sg_uI s3 8 8 (s3.2.2.1 16 q)) 8 6 (Int32.ofInt 4)) 8 4 (s3.1 8 4 + Int32.ofInt 1)) := by
          intro hs
          have hs2 := rd_sg_iff.mp hs
          rw [if_pos hs] at t2
          refine ⟨((f2.uI rfl).uI rfl).uI rfl, hn, a7, ?_, fun c => ?_, fun c => ?_, fun _ => ?_⟩
          · rw [if_neg (fun c => by rw [t2] at c; exact absurd c.1 (by decide)), t2]
            rfl
          · rw [t2] at c; exact absurd c (by decide)
          · rw [t2] at c; exact absurd c (by decide)
          · show (s3.2.2.1 16 q).toInt = B q
            omega
        refine ⟨fun c4 => yes (rd_sg_iff.mpr (by omega)), fun c4 => ⟨fun c5 => yes (rd_sg_iff.mpr (by omega)), fun c5 => ⟨fun c6 => yes (rd_sg_iff.mpr (by omega)), fun c6 => ⟨fun c7 => yes (rd_sg_iff.mpr (by omega)), fun c7 => ?_⟩⟩⟩⟩
        have hs : rd_sg (B q) = false := rd_sg_no (by omega)
        rw [hs, if_neg (by decide)] at t2
        refine ⟨((f2.uI rfl).uI rfl).uI rfl, hn, a7, ?_, fun c => ?_, fun c => ?_, fun c => ?_⟩
        · rw [if_neg (fun c => by rw [t2] at c; exact absurd c.1 (by decide)), t2]
          rfl
        · rw [t2] at c; exact absurd c (by decide)
        · rw [t2] at c; exact absurd c (by decide)
        · rw [t2] at c; exact absurd c (by decide)
      · have hd : rd_di (B q) = true := by
          rcases hy with hy | hy
          · exact hy.2
          · omega
        obtain ⟨t1, t2⟩ := tk_3 hq hl hd
        refine (rx_num hK2 a4 hqN a7 a8).mono (fun s4 hs4 => ?_)
        obtain ⟨f4, d1, d2, d3⟩ := hs4
        refine ⟨f2.tr (f4.le rfl rfl), by rw [d1, t1], by rw [f4.i rfl]; exact a7, ?_, fun c => ?_, fun c => ?_, fun c => ?_⟩
        · rw [if_neg (fun c => by have c := c.1; rw [t2] at c; split at c <;> exact absurd c (by decide)), d2, t2]
        · rw [t2] at c; split at c <;> exact absurd c (by decide)
        · have := (tk_k3 c).2.2.2.2
          rw [d3, am_oi (by omega) (by omega)]
        · rw [t2] at c; split at c <;> exact absurd c (by decide)
    · have hl : rd_le (B q) = true := by
        rcases hx with hx | hx
        · exact hx.2
        · omega
      obtain ⟨t1, t2⟩ := tk_1 hq hl
      refine (rx_word hK2 a4 hq hl a7 a9).mono (fun s4 hs4 => ?_)
      obtain ⟨f4, d1, d2, d3⟩ := hs4
      refine ⟨f2.tr (f4.le rfl rfl), by rw [d1, t1], by rw [f4.i rfl]; exact a7, ?_, fun c => ?_, fun c => ?_, fun c => ?_⟩
      · rw [d2, t2]
        by_cases h8 : 8 < tk_wl B N q
        · rw [if_pos h8, if_pos h8, if_neg (fun c => absurd c.1 (by decide))]
        · rw [if_neg h8, if_neg h8]
          by_cases hkw : rd_kw (tk_w B N q) = -1
          · rw [if_pos hkw, if_pos ⟨rfl, hkw⟩]
          · rw [if_neg hkw, if_neg (fun c => hkw c.2)]
      · exact d3 (by have := (tk_k1 c).2.2.1; omega)
      · rw [t2] at c; split at c <;> exact absurd c (by decide)
      · rw [t2] at c; split at c <;> exact absurd c (by decide)
  · have hq : q = N := by omega
    have t2 : tk_k B N q = 0 := tk_k0.mpr (by omega)
    have t1 : tk_e B N q = q := by unfold tk_e; rw [if_pos (by omega)]
    refine ⟨(((f1'.uI rfl).uI rfl).uL rfl).uI rfl, by rw [t1]; exact g0, g0, ?_, fun c => ?_, fun c => ?_, fun c => ?_⟩
    · rw [if_neg (fun c => by rw [t2] at c; exact absurd c.1 (by decide)), t2]
      rfl
    · rw [t2] at c; exact absurd c (by decide)
    · rw [t2] at c; exact absurd c (by decide)
    · rw [t2] at c; exact absurd c (by decide)
