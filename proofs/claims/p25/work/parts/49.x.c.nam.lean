/-! ===== M's names, groups ===== -/
def rm_ST (B : Nat → Int) (N : Nat) (F : Int ⊕ (rp_T × Nat)) (s : sg_S) : Prop := match F with
  | .inl f => rm_S B N (.inl f) s
  | .inr a => rm_S B N (.inr a.2) s ∧ rm_R a.1 s ∧ rp_ok a.1
theorem rm_ST.S {B : Nat → Int} {N : Nat} {F : Int ⊕ (rp_T × Nat)} {s : sg_S} (h : rm_ST B N F s) : rm_S B N (rp_fs F) s := by
  match F, h with
  | .inl f, h => exact h
  | .inr a, h => exact h.1
def rm_mo9 : List (Nat × Nat) := rm_mo ++ [(64, 9), (64, 10), (64, 11), (64, 12), (64, 13), (64, 16)]
def rm_ao9 : List Nat := [66, 67, 68, 69, 70, 71]
section MG
variable {B : Nat → Int} {N q : Nat} {s s1 : sg_S} {T : rp_T} {F : Int ⊕ Nat}
theorem rm_S.fr {s2 : sg_S} {mo : List (Nat × Nat)} {ao : List Nat} (h : rm_S B N F s) (f : sg_fr mo ao s s2) (h1 : (rm_mo.all (fun q => !mo.contains q)) = true) : rm_S B N F s2 := by
  have h2 : ∀ k, (rm_mo.contains (64, k)) = true → (mo.contains (64, k)) = false := fun k hk => by
    have := List.all_eq_true.mp h1 _ (List.contains_iff_mem.mp hk)
    simpa using this
  match F, h with
  | .inl e, h =>
    show 0 < (s2.1 64 6).toInt ∧ (s2.1 64 6).toInt + 10 * (s2.1 64 7).toInt = e ∧ (s2.1 64 6).toInt ≤ 9 ∧ 0 ≤ (s2.1 64 7).toInt ∧ (s2.1 64 7).toInt ≤ 600
    rw [f.i (h2 6 rfl), f.i (h2 7 rfl)]
    exact h
  | .inr q, h =>
    obtain ⟨z1, z2, z3⟩ := h
    refine ⟨by rw [f.i (h2 6 rfl)]; exact z1, ?_, z3⟩
    unfold rm_T
    rw [f.i (h2 3 rfl), f.i (h2 4 rfl), f.i (h2 5 rfl), f.l (h2 8 rfl)]
    exact z2
theorem rm_here {w : List Int} (hR : rm_R T s) (hT : rp_ok T) (hw : rd_nm w) (hx : s.2.1 64 8 = Int64.ofInt (rd_cd 27 w)) : am_SpI 159 [.ref 64] s (fun r s2 => s2 = s ∧ ((rp_lk T w < rp_n T ∧ r.toInt = (rp_lk T w : Int)) ∨ (¬ rp_lk T w < rp_n T ∧ r.toInt = -1))) := by
  have hn16 : rp_n T ≤ 16 := rp_n16 hT
  refine wp_M_nameHere_ok (I2 := fun l s1 => s1 = s ∧ ∃ i : Nat, l.toInt = (i : Int) ∧ i ≤ rp_n T ∧ rd_to (fun i => !decide (rp_nm T i.toNat = w)) (fun i => (i : Int)) (rp_n T) i = rp_lk T w) ?_ ⟨rfl, 0, rfl, Nat.zero_le _, rfl⟩
  intro l s1 hI
  obtain ⟨rfl, i, hi, hin, hl⟩ := hI
  obtain ⟨-, -, -, -, -, r5, rn, -⟩ := id hR
  unfold wp_M_nameHere_2
  simp only [hi, r5, Int.toNat_natCast]
  refine ⟨fun c1 _ _ => ?_, fun c1 => ⟨trivial, Or.inr ⟨?_, rfl⟩⟩⟩
  · have hi2 : i < rp_n T := by omega
    obtain ⟨n1, n2⟩ := rn i hi2
    obtain ⟨o1, o2, o3⟩ := hT.2.2.2 i hi2
    have he := rd_cd_eq o1 hw (b := 27) (by decide) (by decide)
    rw [n1, hx, he]
    refine ⟨fun c2 => ⟨trivial, Or.inl ?_⟩, fun c2 => ⟨trivial, i + 1, ?_, by omega, ?_⟩⟩
    · have e : rp_lk T w = i := by
        rw [← hl]
        exact rd_to_no (by simp [c2])
      rw [e]
      exact ⟨hi2, rfl⟩
    · rw [i32_inc (c := 0) (by omega) (by omega), hi]
      rfl
    · rw [← hl]
      exact (rd_to_go hi2 (by simp [c2])).symm
  · rw [← hl, rd_to_end (by omega)]
    omega
theorem rm_isn (ht : rm_T B N q s) : (s.1 64 5).toInt = 1 ↔ tk_k B N q = 1 := by
  rw [ht.2.2.1]
  unfold tk_m
  have := tk_k_cases (B := B) (N := N) (q := q)
  split <;> omega
theorem rm_told (hK : rm_K B N s) (hS : rm_S B N F s) (hR : rm_R T s) (hT : rp_ok T) : am_SpI 163 [.ref 64] s (fun r s2 => sg_fr rm_mo [] s s2 ∧ rm_S B N (rp_fs (rp_sb F (rp_told B N T))) s2 ∧ ∀ v q2, rp_sb F (rp_told B N T) = .inr (v, q2) → r = v) := by
  refine wp_M_name_ok ?_
  unfold wp_M_name
  match F, hS with
  | .inl f, hS => exact ⟨fun _ => ⟨sg_fr.rf, hS, fun v q2 e => by cases e⟩, fun h => absurd hS.1 h⟩
  | .inr q, hS =>
    obtain ⟨h6, ht, hq⟩ := hS
    obtain ⟨t3, t4, t5, w1, w3, w4⟩ := id ht
    have bad : ∀ k : Int, (1 ≤ k ∧ k ≤ 9) → rp_told B N T q = .inl (k + 10 * (q : Int)) → am_SpV 157 [.ref 64, .int (Int32.ofInt k)] s (fun s4 => sg_fr rm_mo [] s s4 ∧ rm_S B N (rp_fs (rp_told B N T q)) s4 ∧ ∀ v q2, rp_told B N T q = .inr (v, q2) → Int32.ofInt 0 = v) := by
      intro k hk hn
      rw [hn]
      refine (rm_wrong (B := B) (N := N) k hk (Nat.le_trans hq hK.2.1) h6 t4).mono (fun s4 h4 => ⟨h4.1, h4.2, fun v q2 e => by cases e⟩)
    refine ⟨fun c => absurd c (by omega), fun _ => ⟨fun c1 => ?_, fun c1 => bad 1 (by decide) ?_⟩⟩
    · have hk1 : tk_k B N q = 1 := (rm_isn ht).mp c1
      refine (rm_kw ht).mono (fun x s2 h2 => ?_)
      obtain ⟨rfl, h2⟩ := h2
      rw [if_pos hk1] at h2
      simp only [h2]
      refine ⟨fun c2 => ?_, fun c2 => bad 1 (by decide) ?_⟩
      · refine (rm_here hR hT (tk_k1 hk1).2.2.2 (w1 hk1)).mono (fun y s3 h3 => ?_)
        obtain ⟨rfl, h3⟩ := h3
        refine ⟨fun c3 => bad 4 (by decide) ?_, fun c3 => ?_⟩
        · unfold rp_told
          rw [if_pos ⟨hk1, c2⟩, if_neg (by rcases h3 with h3 | h3; omega; exact h3.1)]
        · have hl : rp_lk T (tk_w B N q) < rp_n T ∧ y.toInt = (rp_lk T (tk_w B N q) : Int) := by
            rcases h3 with h3 | h3
            · exact h3
            · exact absurd h3.2 c3
          have e : rp_told B N T q = .inr (rp_ns T (rp_lk T (tk_w B N q)), tk_x B N q) := by
            unfold rp_told
            rw [if_pos ⟨hk1, c2⟩, if_pos hl.1]
          refine (rm_nextS hK (tk_k1 hk1).1 t3 h6).mono (fun s4 h4 => ?_)
          intro _ _
          simp only [hl.2, Int.toNat_natCast]
          refine ⟨h4.1, ?_, ?_⟩
          · show rm_S B N (rp_fs (rp_told B N T q)) s4
            rw [e]
            exact h4.2
          · show ∀ v q2, rp_told B N T q = .inr (v, q2) → _
            rw [e]
            intro v q2 e2
            cases e2
            exact ((hR.fr h4.1 (by decide) (by decide)).2.2.2.2.2.2.1 _ hl.1).2
      · unfold rp_told
        rw [if_neg (fun z => c2 z.2)]
    · unfold rp_told
      rw [if_neg (fun z => c1 ((rm_isn ht).mpr z.1))]
theorem rm_newn (hK : rm_K B N s) (hS : rm_S B N F s) (hR : rm_R T s) (hT : rp_ok T) : am_SpL 158 [.ref 64] s (fun r s2 => sg_fr rm_mo [] s s2 ∧ rm_S B N (rp_fs (rp_sb F (rp_new B N T))) s2 ∧ ∀ v q2, rp_sb F (rp_new B N T) = .inr (v, q2) → r = Int64.ofInt (rd_cd 27 v)) := by
  refine wp_M_freshName_ok ?_
  unfold wp_M_freshName
  match F, hS with
  | .inl f, hS => exact ⟨fun _ => ⟨sg_fr.rf, hS, fun v q2 e => by cases e⟩, fun h => absurd hS.1 h⟩
  | .inr q, hS =>
    obtain ⟨h6, ht, hq⟩ := hS
    obtain ⟨t3, t4, t5, w1, w3, w4⟩ := id ht
    have bad : ∀ k : Int, (1 ≤ k ∧ k ≤ 9) → rp_new B N T q = .inl (k + 10 * (q : Int)) → am_SpV 157 [.ref 64, .int (Int32.ofInt k)] s (fun s4 => sg_fr rm_mo [] s s4 ∧ rm_S B N (rp_fs (rp_new B N T q)) s4 ∧ ∀ v q2, rp_new B N T q = .inr (v, q2) → Int64.ofNat 0 = Int64.ofInt (rd_cd 27 v)) := by
      intro k hk hn
      rw [hn]
      refine (rm_wrong (B := B) (N := N) k hk (Nat.le_trans hq hK.2.1) h6 t4).mono (fun s4 h4 => ⟨h4.1, h4.2, fun v q2 e => by cases e⟩)
    refine ⟨fun c => absurd c (by omega), fun _ => ⟨fun c1 => ?_, fun c1 => bad 1 (by decide) ?_⟩⟩
    · have hk1 : tk_k B N q = 1 := (rm_isn ht).mp c1
      refine (rm_kw ht).mono (fun x s2 h2 => ?_)
      obtain ⟨rfl, h2⟩ := h2
      rw [if_pos hk1] at h2
      simp only [h2]
      refine ⟨fun c2 => ?_, fun c2 => bad 1 (by decide) ?_⟩
      · refine (rm_here hR hT (tk_k1 hk1).2.2.2 (w1 hk1)).mono (fun y s3 h3 => ?_)
        obtain ⟨rfl, h3⟩ := h3
        refine ⟨fun c3 => ?_, fun c3 => bad 3 (by decide) ?_⟩
        · have e : rp_new B N T q = .inr (tk_w B N q, tk_x B N q) := by
            unfold rp_new
            rw [if_pos ⟨hk1, c2⟩, if_neg (by rcases h3 with h3 | h3; omega; exact h3.1)]
          refine (rm_nextS hK (tk_k1 hk1).1 t3 h6).mono (fun s4 h4 => ?_)
          refine ⟨h4.1, ?_, ?_⟩
          · show rm_S B N (rp_fs (rp_new B N T q)) s4
            rw [e]
            exact h4.2
          · show ∀ v q2, rp_new B N T q = .inr (v, q2) → _
            rw [e]
            intro v q2 e2
            cases e2
            exact w1 hk1
        · unfold rp_new
          rw [if_pos ⟨hk1, c2⟩, if_pos (by rcases h3 with h3 | h3; exact h3.1; exact absurd h3.2 c3)]
      · unfold rp_new
        rw [if_neg (fun z => c2 z.2)]
    · unfold rp_new
      rw [if_neg (fun z => c1 ((rm_isn ht).mpr z.1))]
theorem rm_addN {w : List Int} {x : Int64} {v : Int32} (hR : rm_R T s) (hT : rp_ok T) (hx : x = Int64.ofInt (rd_cd 27 w)) : am_SpV 160 [.ref 64, .long x, .int v] s (fun s2 => sg_fr [(64, 16)] [66, 67] s s2 ∧ (s2.1 64 16).toInt = (rp_n T : Int) + 1 ∧ ∀ i, i < rp_n T + 1 → s2.2.2.2.1 66 i = Int64.ofInt (rd_cd 27 (if i = rp_n T then w else rp_nm T i)) ∧ s2.2.2.1 67 i = (if i = rp_n T then v else rp_ns T i)) := by
  subst hx
  obtain ⟨r0, r1, r2, r3, r4, r5, rn, rr⟩ := id hR
  refine wp_M_names_ok ?_
  unfold wp_M_names
  simp only [r5, Int.toNat_natCast]
  refine fun _ _ => ⟨((sg_fr.rf.uM rfl).uA rfl).uI rfl, ?_, fun i hi => ?_⟩
  · show (s.1 64 16 + Int32.ofInt 1).toInt = _
    rw [i32_inc (c := 0) (by omega) (by omega), r5]
  · by_cases e : i = rp_n T
    · rw [if_pos e, if_pos e, e]
      exact ⟨sg_M1, sg_A1⟩
    · rw [if_neg e, if_neg e]
      obtain ⟨n1, n2⟩ := rn i (by omega)
      exact ⟨(sg_M2 (fun c => e c.2)).trans n1, (sg_A2 (fun c => e c.2)).trans n2⟩
/-- a group more: what stands behind names -/
theorem rm_R.addG {s2 : sg_S} {w : List Int} {v : Int32} (hR : rm_R T s) (hT : rp_ok T) (f : sg_fr [(64, 16)] [66, 67] s s2) (n5 : (s2.1 64 16).toInt = (rp_n T : Int) + 1) (nn : ∀ i, i < rp_n T + 1 → s2.2.2.2.1 66 i = Int64.ofInt (rd_cd 27 (if i = rp_n T then w else rp_nm T i)) ∧ s2.2.2.1 67 i = (if i = rp_n T then v else rp_ns T i)) : sg_fr [(64, 10), (64, 16)] [66, 67] s (sg_uI s2 64 10 (s2.1 64 10 + Int32.ofInt 1)) ∧ rm_R (rp_addG T w v) (sg_uI s2 64 10 (s2.1 64 10 + Int32.ofInt 1)) := by
  obtain ⟨r0, r1, r2, r3, r4, r5, rn, rr⟩ := id hR
  have g8 := hT.2.1
  have f2 : sg_fr [(64, 10), (64, 16)] [66, 67] s (sg_uI s2 64 10 (s2.1 64 10 + Int32.ofInt 1)) := (f.le rfl rfl).uI rfl
  have q0 : (s2.1 64 10).toInt = (T.2.1 : Int) := by rw [f.i rfl]; exact r1
  refine ⟨f2, ?_, ?_, ?_, ?_, ?_, ?_, ?_, ?_⟩
  · rw [f2.i rfl]; exact r0
  · show (s2.1 64 10 + Int32.ofInt 1).toInt = ((T.2.1 + 1 : Nat) : Int)
    rw [i32_inc (c := 0) (by omega) (by omega), q0]
    omega
  · rw [f2.i rfl]; exact r2
  · rw [f2.i rfl]; exact r3
  · rw [f2.i rfl]; exact r4
  · show (s2.1 64 16).toInt = ((T.1 + 0 + (T.2.1 + 1) : Nat) : Int)
    rw [n5]
    unfold rp_n
    omega
  · intro i hi
    exact nn i (by have hi2 : i < T.1 + 0 + (T.2.1 + 1) := hi; unfold rp_n; omega)
  · rw [f2.a rfl, f2.a rfl, f2.a rfl, f2.a rfl]
    exact rr
theorem rm_R.addK {s2 : sg_S} {w : List Int} (hR : rm_R T s) (hT : rp_ok T) (f : sg_fr [(64, 16)] [66, 67] s s2) (n5 : (s2.1 64 16).toInt = (rp_n T : Int) + 1) (nn : ∀ i, i < rp_n T + 1 → s2.2.2.2.1 66 i = Int64.ofInt (rd_cd 27 (if i = rp_n T then w else rp_nm T i)) ∧ s2.2.2.1 67 i = (if i = rp_n T then rp_kset T.1 else rp_ns T i)) : sg_fr [(64, 9), (64, 16)] [66, 67] s (sg_uI s2 64 9 (s2.1 64 9 + Int32.ofInt 1)) ∧ rm_R (rp_addK T w) (sg_uI s2 64 9 (s2.1 64 9 + Int32.ofInt 1)) := by
  obtain ⟨r0, r1, r2, r3, r4, r5, rn, rr⟩ := id hR
  have g8 := hT.1
  have f2 : sg_fr [(64, 9), (64, 16)] [66, 67] s (sg_uI s2 64 9 (s2.1 64 9 + Int32.ofInt 1)) := (f.le rfl rfl).uI rfl
  have q0 : (s2.1 64 9).toInt = (T.1 : Int) := by rw [f.i rfl]; exact r0
  refine ⟨f2, ?_, ?_, ?_, ?_, ?_, ?_, ?_, ?_⟩
  · show (s2.1 64 9 + Int32.ofInt 1).toInt = ((T.1 + 1 : Nat) : Int)
    rw [i32_inc (c := 0) (by omega) (by omega), q0]
    omega
  · rw [f2.i rfl]; exact r1
  · rw [f2.i rfl]; exact r2
  · rw [f2.i rfl]; exact r3
  · rw [f2.i rfl]; exact r4
  · show (s2.1 64 16).toInt = ((T.1 + 1 + (T.2.1 + 0) : Nat) : Int)
    rw [n5]
    unfold rp_n
    omega
  · intro i hi
    exact nn i (by have hi2 : i < T.1 + 1 + (T.2.1 + 0) := hi; unfold rp_n; omega)
  · rw [f2.a rfl, f2.a rfl, f2.a rfl, f2.a rfl]
    exact rr
end MG
