/-! ===== the pure reader of a text; X's signs, numbers and names ===== -/
/-- kinds, groups, rules, length, minutes, names and their sets, rules (sort, set, numbers) -/
abbrev rp_T : Type := Nat × Nat × Nat × Int × Int × (Nat → List Int) × (Nat → Int32) × (Nat → Int32 × Int32 × Int32 × Int32)
def rp_n (T : rp_T) : Nat := T.1 + T.2.1
def rp_nm (T : rp_T) : Nat → List Int := T.2.2.2.2.2.1
def rp_ns (T : rp_T) : Nat → Int32 := T.2.2.2.2.2.2.1
def rp_rl (T : rp_T) : Nat → Int32 × Int32 × Int32 × Int32 := T.2.2.2.2.2.2.2
def rp_T0 : rp_T := (0, 0, 0, 36, 99, fun _ => [], fun _ => 0, fun _ => (0, 0, 0, 0))
def rp_ok (T : rp_T) : Prop := T.1 ≤ 8 ∧ T.2.1 ≤ 8 ∧ T.2.2.1 ≤ 12 ∧ ∀ i, i < rp_n T → rd_nm (rp_nm T i) ∧ 0 ≤ (rp_ns T i).toInt ∧ (rp_ns T i).toInt ≤ 255
/-- the number of a name, or how many there are -/
def rp_lk (T : rp_T) (w : List Int) : Nat := rd_to (fun i => !decide (rp_nm T i.toNat = w)) (fun i => (i : Int)) (rp_n T) 0
def rp_sb {α β : Type} (F : Int ⊕ α) (k : α → Int ⊕ β) : Int ⊕ β := match F with
  | .inl f => .inl f
  | .inr a => k a
def rp_fs {α : Type} (F : Int ⊕ (α × Nat)) : Int ⊕ Nat := match F with
  | .inl f => .inl f
  | .inr a => .inr a.2
section RP
variable (B : Nat → Int) (N : Nat)
def rp_sign (c : Int) (q : Nat) : Int ⊕ Nat := if tk_k B N q = 4 ∧ B q = c then .inr (tk_x B N q) else .inl (1 + 10 * (q : Int))
def rp_num (lo hi : Int) (q : Nat) : Int ⊕ (Int × Nat) := if tk_k B N q = 3 then (if tk_n B N q < lo ∨ hi < tk_n B N q then .inl (5 + 10 * (q : Int)) else .inr (tk_n B N q, tk_x B N q)) else .inl (1 + 10 * (q : Int))
def rp_told (T : rp_T) (q : Nat) : Int ⊕ (Int32 × Nat) := if tk_k B N q = 1 ∧ rd_kw (tk_w B N q) = -1 then (if rp_lk T (tk_w B N q) < rp_n T then .inr (rp_ns T (rp_lk T (tk_w B N q)), tk_x B N q) else .inl (4 + 10 * (q : Int))) else .inl (1 + 10 * (q : Int))
def rp_new (T : rp_T) (q : Nat) : Int ⊕ (List Int × Nat) := if tk_k B N q = 1 ∧ rd_kw (tk_w B N q) = -1 then (if rp_lk T (tk_w B N q) < rp_n T then .inl (3 + 10 * (q : Int)) else .inr (tk_w B N q, tk_x B N q)) else .inl (1 + 10 * (q : Int))
end RP
/-- X's reader: a fault, or the place of the next token -/
def rx_S (B : Nat → Int) (N : Nat) (F : Int ⊕ Nat) (s : sg_S) : Prop := match F with
  | .inl f => (s.1 8 5).toInt = f ∧ f ≠ 0
  | .inr q => (s.1 8 5).toInt = 0 ∧ ∃ p : Nat, (s.1 8 4).toInt = (p : Int) ∧ p ≤ N ∧ rd_q B N p = q
/-- X's tables -/
def rx_R (T : rp_T) (s : sg_S) : Prop := (s.1 9 0).toInt = (T.1 : Int) ∧ (s.1 9 1).toInt = (T.2.1 : Int) ∧ (s.1 9 2).toInt = (T.2.2.1 : Int) ∧ (s.1 9 3).toInt = T.2.2.2.1 ∧ (s.1 9 4).toInt = T.2.2.2.2.1 ∧ (s.1 9 5).toInt = (rp_n T : Int) ∧ (∀ i, i < rp_n T → s.2.2.2.1 10 i = Int64.ofInt (rd_cd 32 (rp_nm T i)) ∧ s.2.2.1 11 i = rp_ns T i) ∧ ∀ i, i < T.2.2.1 → s.2.2.1 12 i = (rp_rl T i).1 ∧ s.2.2.1 13 i = (rp_rl T i).2.1 ∧ s.2.2.1 14 i = (rp_rl T i).2.2.1 ∧ s.2.2.1 15 i = (rp_rl T i).2.2.2
theorem rx_R.fr {T : rp_T} {s s2 : sg_S} {mo : List (Nat × Nat)} {ao : List Nat} (h : rx_R T s) (f : sg_fr mo ao s s2) (h1 : (mo.all (fun q => !Nat.beq q.1 9)) = true) (h2 : (ao.all (fun q => !(Nat.ble 10 q && Nat.ble q 15))) = true) : rx_R T s2 := by
  have hi : ∀ j, s2.1 9 j = s.1 9 j := fun j => (f.1 9 j (fun q => by have := List.all_eq_true.mp h1 _ q; exact absurd this Bool.false_ne_true)).1
  have ha : ∀ b, 10 ≤ b → b ≤ 15 → s2.2.2.1 b = s.2.2.1 b ∧ s2.2.2.2.1 b = s.2.2.2.1 b := fun b b1 b2 => f.2.1 b (fun q => by
    have := List.all_eq_true.mp h2 _ q
    rw [Nat.ble_eq.mpr b1, Nat.ble_eq.mpr b2] at this
    exact absurd this (by decide))
  unfold rx_R
  rw [hi, hi, hi, hi, hi, hi, (ha 10 (by omega) (by omega)).2, (ha 11 (by omega) (by omega)).1, (ha 12 (by omega) (by omega)).1, (ha 13 (by omega) (by omega)).1, (ha 14 (by omega) (by omega)).1, (ha 15 (by omega) (by omega)).1]
  exact h
def rx_mo : List (Nat × Nat) := [(8, 4), (8, 5), (8, 6), (8, 7), (8, 8), (8, 9)]
theorem rx_fault {N q : Nat} {s : sg_S} (k : Int) (hk : 1 ≤ k ∧ k ≤ 9) (hN : N ≤ 600) (hq : q ≤ N) (h5 : (s.1 8 5).toInt = 0) (h7 : (s.1 8 7).toInt = (q : Int)) : am_SpV 52 [.ref 8, .int (Int32.ofInt k)] s (fun s2 => sg_fr rx_mo [] s s2 ∧ s2.2.1 8 9 = s.2.1 8 9 ∧ s2.1 8 8 = s.1 8 8 ∧ (s2.1 8 5).toInt = k + 10 * (q : Int)) := by
  refine wp_XReader_setFault_ok ?_
  unfold wp_XReader_setFault
  refine ⟨fun _ => ⟨sg_fr.rf.uI rfl, rfl, rfl, ?_⟩, fun c => absurd h5 c⟩
  show (s.1 8 7 * Int32.ofInt 10 + Int32.ofInt k).toInt = _
  have e1 : (Int32.ofInt 10).toInt = 10 := rfl
  have e2 : (Int32.ofInt k).toInt = k := am_oi (by omega) (by omega)
  have e3 : (s.1 8 7 * Int32.ofInt 10).toInt = (q : Int) * 10 := by rw [i32_mul (by rw [e1, h7]; omega) (by rw [e1, h7]; omega), e1, h7]
  rw [i32_add (by omega) (by omega), e2, e3]
  omega
/-- a token is scanned, no fault is there -/
theorem rx_scanS {B : Nat → Int} {N q : Nat} {s : sg_S} (hK : rx_K B N s) (hS : rx_S B N (.inr q) s) : am_SpV 46 [.ref 8] s (fun s2 => sg_fr rx_mo [] s s2 ∧ rx_K B N s2 ∧ rx_T B N q s2 ∧ (s2.1 8 5).toInt = 0 ∧ q ≤ N) := by
  obtain ⟨h5, p, h0, h1, rfl⟩ := hS
  refine (rx_scan hK h0 h1).mono (fun s2 hs => ?_)
  obtain ⟨f, ht⟩ := hs
  exact ⟨f.le rfl rfl, hK.fr f rfl rfl rfl, ht, by rw [f.i rfl]; exact h5, rd_to_le h1⟩
theorem rx_T.S {B : Nat → Int} {N q : Nat} {s : sg_S} (h : rx_T B N q s) (hq : q < N) (h5 : (s.1 8 5).toInt = 0) : rx_S B N (.inr (tk_x B N q)) s := ⟨h5, tk_e B N q, h.1, (tk_e_gt hq).2, rfl⟩
theorem rx_sign {B : Nat → Int} {N : Nat} {F : Int ⊕ Nat} {s : sg_S} {c : Int32} (hK : rx_K B N s) (hS : rx_S B N F s) : am_SpV 56 [.ref 8, .int c] s (fun s2 => sg_fr rx_mo [] s s2 ∧ rx_S B N (rp_sb F (rp_sign B N c.toInt)) s2) := by
  refine wp_XReader_readSign_ok ?_
  unfold wp_XReader_readSign
  match F, hS with
  | .inl f, hS => exact ⟨fun h => absurd (hS.1.symm.trans h) hS.2, fun _ => ⟨sg_fr.rf, hS⟩⟩
  | .inr q, hS =>
    refine ⟨fun _ => ?_, fun c => absurd hS.1 c⟩
    refine (rx_scanS hK hS).mono (fun s2 hs => ?_)
    obtain ⟨f, hK2, ht, h5, hq⟩ := hs
    obtain ⟨t4, t7, t6, t1, t3, tS⟩ := id ht
    have bad : ¬ (tk_k B N q = 4 ∧ B q = c.toInt) → am_SpV 52 [.ref 8, .int (Int32.ofInt 1)] s2 (fun s4 => sg_fr rx_mo [] s s4 ∧ rx_S B N (rp_sign B N c.toInt q) s4) := by
      intro hn
      refine (rx_fault (N := N) 1 (by decide) hK2.2.1 hq h5 t7).mono (fun s4 h4 => ⟨f.tr h4.1, ?_⟩)
      unfold rp_sign
      rw [if_neg hn]
      exact ⟨h4.2.2.2, by omega⟩
    refine ⟨fun c1 => ⟨fun c2 => ?_, fun c2 => bad (fun ⟨x, y⟩ => c2 (by rw [tS x, y]))⟩, fun c1 => bad (fun ⟨x, y⟩ => c1 ?_)⟩
    · have hk4 : tk_k B N q = 4 := by
        rw [t6] at c1
        split at c1
        · exact absurd c1 (by decide)
        · exact c1
      refine ⟨f, ?_⟩
      show rx_S B N (rp_sign B N c.toInt q) s2
      unfold rp_sign
      rw [if_pos ⟨hk4, by rw [← tS hk4, c2]⟩]
      exact ht.S (tk_k4 hk4).1 h5
    · rw [t6, x]
      rw [if_neg (fun z => absurd z.1 (by decide))]
theorem rx_nmb {B : Nat → Int} {N : Nat} {F : Int ⊕ Nat} {s : sg_S} {a b : Int32} (hK : rx_K B N s) (hS : rx_S B N F s) : am_SpI 55 [.ref 8, .int a, .int b] s (fun r s2 => sg_fr rx_mo [] s s2 ∧ rx_S B N (rp_fs (rp_sb F (rp_num B N a.toInt b.toInt))) s2 ∧ ∀ v q2, rp_sb F (rp_num B N a.toInt b.toInt) = .inr (v, q2) → r.toInt = v) := by
  refine wp_XReader_readNumber_ok ?_
  unfold wp_XReader_readNumber
  match F, hS with
  | .inl f, hS => exact ⟨fun h => absurd (hS.1.symm.trans h) hS.2, fun _ => ⟨sg_fr.rf, hS, fun v q2 e => by cases e⟩⟩
  | .inr q, hS =>
    refine ⟨fun _ => ?_, fun c => absurd hS.1 c⟩
    refine (rx_scanS hK hS).mono (fun s2 hs => ?_)
    obtain ⟨f, hK2, ht, h5, hq⟩ := hs
    obtain ⟨t4, t7, t6, t1, t3, tS⟩ := id ht
    have bad : ∀ k : Int, (1 ≤ k ∧ k ≤ 9) → rp_num B N a.toInt b.toInt q = .inl (k + 10 * (q : Int)) → am_SpV 52 [.ref 8, .int (Int32.ofInt k)] s2 (fun s4 => sg_fr rx_mo [] s s4 ∧ rx_S B N (rp_fs (rp_num B N a.toInt b.toInt q)) s4 ∧ ∀ v q2, rp_num B N a.toInt b.toInt q = .inr (v, q2) → (s4.1 8 8).toInt = v) := by
      intro k hk hn
      refine (rx_fault (N := N) k hk hK2.2.1 hq h5 t7).mono (fun s4 h4 => ⟨f.tr h4.1, ?_, fun v q2 e => by rw [hn] at e; cases e⟩)
      rw [hn]
      exact ⟨h4.2.2.2, by omega⟩
    refine ⟨fun c1 => ?_, fun c1 => bad 1 (by decide) ?_⟩
    · have hk3 : tk_k B N q = 3 := by
        rw [t6] at c1
        split at c1
        · exact absurd c1 (by decide)
        · exact c1
      have hv := t3 hk3
      simp only [hv]
      refine ⟨fun c2 => bad 5 (by decide) ?_, fun c2 => ⟨fun c3 => bad 5 (by decide) ?_, fun c3 => ?_⟩⟩
      · unfold rp_num
        rw [if_pos hk3, if_pos (Or.inl c2)]
      · unfold rp_num
        rw [if_pos hk3, if_pos (Or.inr c3)]
      · have e : rp_num B N a.toInt b.toInt q = .inr (tk_n B N q, tk_x B N q) := by
          unfold rp_num
          rw [if_pos hk3, if_neg (by omega)]
        refine ⟨f, ?_, ?_⟩
        · show rx_S B N (rp_fs (rp_num B N a.toInt b.toInt q)) s2
          rw [e]
          exact ht.S (tk_k3 hk3).1 h5
        · show ∀ v q2, rp_num B N a.toInt b.toInt q = .inr (v, q2) → _
          rw [e]
          intro v q2 e2
          cases e2
          rfl
    · unfold rp_num
      rw [if_neg (fun x => c1 (by rw [t6, x, if_neg (fun z => absurd z.1 (by decide))]))]
/-- the set of a name -/
theorem rx_named {T : rp_T} {w : List Int} {s : sg_S} {x : Int64} (hR : rx_R T s) (hT : rp_ok T) (hw : rd_nm w) (hx : x = Int64.ofInt (rd_cd 32 w)) : am_SpI 65 [.ref 9, .long x] s (fun r s2 => s2 = s ∧ ((rp_lk T w < rp_n T ∧ r = rp_ns T (rp_lk T w) ∧ ¬ r.toInt = -1) ∨ (¬ rp_lk T w < rp_n T ∧ r.toInt = -1))) := by
  subst hx
  have hn16 : rp_n T ≤ 16 := by have := hT.1; have := hT.2.1; unfold rp_n; omega
  refine wp_XRules_setNamed_9_ok (I2 := fun l s1 => s1 = s ∧ ∃ i : Nat, l.toInt = (i : Int) ∧ i ≤ rp_n T ∧ rd_to (fun i => !decide (rp_nm T i.toNat = w)) (fun i => (i : Int)) (rp_n T) i = rp_lk T w) ?_ ⟨rfl, 0, rfl, Nat.zero_le _, rfl⟩
  intro l s1 hI
  obtain ⟨rfl, i, hi, hin, hl⟩ := hI
  obtain ⟨-, -, -, -, -, r5, rn, -⟩ := id hR
  unfold wp_XRules_setNamed_9_2
  simp only [hi, r5, Int.toNat_natCast]
  refine ⟨fun c1 _ _ => ?_, fun c1 => ⟨trivial, Or.inr ⟨?_, rfl⟩⟩⟩
  · have hi2 : i < rp_n T := by omega
    obtain ⟨n1, n2⟩ := rn i hi2
    obtain ⟨o1, o2, o3⟩ := hT.2.2.2 i hi2
    have he := rd_cd_eq o1 hw (b := 32) (by decide) (by decide)
    rw [n1, n2, he]
    refine ⟨fun c2 => ⟨trivial, Or.inl ?_⟩, fun c2 => ⟨trivial, i + 1, ?_, by omega, ?_⟩⟩
    · have e : rp_lk T w = i := by
        rw [← hl]
        exact rd_to_no (by simp [c2])
      rw [e]
      exact ⟨hi2, rfl, by omega⟩
    · rw [i32_inc (c := 0) (by omega) (by omega), hi]
      rfl
    · rw [← hl]
      exact (rd_to_go hi2 (by simp [c2])).symm
  · rw [← hl, rd_to_end (by omega)]
    omega
theorem rx_newn {B : Nat → Int} {N : Nat} {F : Int ⊕ Nat} {s : sg_S} {T : rp_T} (hK : rx_K B N s) (hS : rx_S B N F s) (hR : rx_R T s) (hT : rp_ok T) : am_SpL 60 [.ref 8] s (fun r s2 => sg_fr rx_mo [] s s2 ∧ rx_S B N (rp_fs (rp_sb F (rp_new B N T))) s2 ∧ ∀ v q2, rp_sb F (rp_new B N T) = .inr (v, q2) → r = Int64.ofInt (rd_cd 32 v)) := by
  refine wp_XReader_readNewName_ok ?_
  unfold wp_XReader_readNewName
  match F, hS with
  | .inl f, hS => exact ⟨fun h => absurd (hS.1.symm.trans h) hS.2, fun _ => ⟨sg_fr.rf, hS, fun v q2 e => by cases e⟩⟩
  | .inr q, hS =>
    refine ⟨fun _ => ?_, fun c => absurd hS.1 c⟩
    refine (rx_scanS hK hS).mono (fun s2 hs => ?_)
    obtain ⟨f, hK2, ht, h5, hq⟩ := hs
    have hR2 := hR.fr f (by decide) (by decide)
    obtain ⟨t4, t7, t6, t1, t3, tS⟩ := id ht
    have bad : ∀ k : Int, (1 ≤ k ∧ k ≤ 9) → rp_new B N T q = .inl (k + 10 * (q : Int)) → am_SpV 52 [.ref 8, .int (Int32.ofInt k)] s2 (fun s4 => sg_fr rx_mo [] s s4 ∧ rx_S B N (rp_fs (rp_new B N T q)) s4 ∧ ∀ v q2, rp_new B N T q = .inr (v, q2) → s4.2.1 8 9 = Int64.ofInt (rd_cd 32 v)) := by
      intro k hk hn
      refine (rx_fault (N := N) k hk hK2.2.1 hq h5 t7).mono (fun s4 h4 => ⟨f.tr h4.1, ?_, fun v q2 e => by rw [hn] at e; cases e⟩)
      rw [hn]
      exact ⟨h4.2.2.2, by omega⟩
    refine ⟨fun c1 => ?_, fun c1 => bad 1 (by decide) ?_⟩
    · have hk1 : tk_k B N q = 1 ∧ rd_kw (tk_w B N q) = -1 := by
        rw [t6] at c1
        split at c1
        · assumption
        · rcases tk_k_cases (B := B) (N := N) (q := q) with z | z | z | z | z <;> (rw [z] at c1; exact absurd c1 (by decide))
      refine (rx_named hR2 hT (tk_k1 hk1.1).2.2.2 (t1 hk1.1).1).mono (fun r s3 h3 => ?_)
      obtain ⟨rfl, h3⟩ := h3
      refine ⟨fun c2 => ?_, fun c2 => bad 3 (by decide) ?_⟩
      · have e : rp_new B N T q = .inr (tk_w B N q, tk_x B N q) := by
          unfold rp_new
          rw [if_pos hk1, if_neg (by rcases h3 with h3 | h3; exact absurd c2 h3.2.2; exact h3.1)]
        refine ⟨f, ?_, ?_⟩
        · show rx_S B N (rp_fs (rp_new B N T q)) s3
          rw [e]
          exact ht.S (tk_k1 hk1.1).1 h5
        · show ∀ v q2, rp_new B N T q = .inr (v, q2) → _
          rw [e]
          intro v q2 e2
          cases e2
          exact (t1 hk1.1).1
      · unfold rp_new
        rw [if_pos hk1, if_pos (by rcases h3 with h3 | h3; exact h3.1; exact absurd h3.2 c2)]
    · unfold rp_new
      rw [if_neg (fun x => c1 (by rw [t6, if_pos x]))]
theorem rx_told {B : Nat → Int} {N : Nat} {F : Int ⊕ Nat} {s : sg_S} {T : rp_T} (hK : rx_K B N s) (hS : rx_S B N F s) (hR : rx_R T s) (hT : rp_ok T) : am_SpI 57 [.ref 8] s (fun r s2 => sg_fr rx_mo [] s s2 ∧ rx_S B N (rp_fs (rp_sb F (rp_told B N T))) s2 ∧ ∀ v q2, rp_sb F (rp_told B N T) = .inr (v, q2) → r = v) := by
  refine wp_XReader_readToldName_ok ?_
  unfold wp_XReader_readToldName
  match F, hS with
  | .inl f, hS => exact ⟨fun h => absurd (hS.1.symm.trans h) hS.2, fun _ => ⟨sg_fr.rf, hS, fun v q2 e => by cases e⟩⟩
  | .inr q, hS =>
    refine ⟨fun _ => ?_, fun c => absurd hS.1 c⟩
    refine (rx_scanS hK hS).mono (fun s2 hs => ?_)
    obtain ⟨f, hK2, ht, h5, hq⟩ := hs
    have hR2 := hR.fr f (by decide) (by decide)
    obtain ⟨t4, t7, t6, t1, t3, tS⟩ := id ht
    have bad : ∀ (k : Int) (x : Int32), (1 ≤ k ∧ k ≤ 9) → rp_told B N T q = .inl (k + 10 * (q : Int)) → am_SpV 52 [.ref 8, .int (Int32.ofInt k)] s2 (fun s4 => sg_fr rx_mo [] s s4 ∧ rx_S B N (rp_fs (rp_told B N T q)) s4 ∧ ∀ v q2, rp_told B N T q = .inr (v, q2) → x = v) := by
      intro k x hk hn
      refine (rx_fault (N := N) k hk hK2.2.1 hq h5 t7).mono (fun s4 h4 => ⟨f.tr h4.1, ?_, fun v q2 e => by rw [hn] at e; cases e⟩)
      rw [hn]
      exact ⟨h4.2.2.2, by omega⟩
    refine ⟨fun c1 => ?_, fun c1 => ⟨fun c2 => absurd c2 c1, fun _ => bad 1 _ (by decide) ?_⟩⟩
    · have hk1 : tk_k B N q = 1 ∧ rd_kw (tk_w B N q) = -1 := by
        rw [t6] at c1
        split at c1
        · assumption
        · rcases tk_k_cases (B := B) (N := N) (q := q) with z | z | z | z | z <;> (rw [z] at c1; exact absurd c1 (by decide))
      refine (rx_named hR2 hT (tk_k1 hk1.1).2.2.2 (t1 hk1.1).1).mono (fun r s3 h3 => ?_)
      obtain ⟨rfl, h3⟩ := h3
      refine ⟨fun _ => ⟨fun c2 => bad 4 _ (by decide) ?_, fun c2 => ?_⟩, fun c => absurd c1 c⟩
      · unfold rp_told
        rw [if_pos hk1, if_neg (by rcases h3 with h3 | h3; exact absurd c2 h3.2.2; exact h3.1)]
      · have hl : rp_lk T (tk_w B N q) < rp_n T ∧ r = rp_ns T (rp_lk T (tk_w B N q)) := by
          rcases h3 with h3 | h3
          · exact ⟨h3.1, h3.2.1⟩
          · exact absurd h3.2 c2
        have e : rp_told B N T q = .inr (rp_ns T (rp_lk T (tk_w B N q)), tk_x B N q) := by
          unfold rp_told
          rw [if_pos hk1, if_pos hl.1]
        refine ⟨f, ?_, ?_⟩
        · show rx_S B N (rp_fs (rp_told B N T q)) s3
          rw [e]
          exact ht.S (tk_k1 hk1.1).1 h5
        · show ∀ v q2, rp_told B N T q = .inr (v, q2) → _
          rw [e]
          intro v q2 e2
          cases e2
          exact hl.2
    · unfold rp_told
      rw [if_neg (fun x => c1 (by rw [t6, if_pos x]))]
