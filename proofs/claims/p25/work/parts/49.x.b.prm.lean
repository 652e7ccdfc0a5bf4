/-! ===== M's signs, numbers and names ===== -/
/-- M's reader: a fault, or the token at q -/
def rm_S (B : Nat → Int) (N : Nat) (F : Int ⊕ Nat) (s : sg_S) : Prop := match F with
  | .inl f => 0 < (s.1 64 6).toInt ∧ (s.1 64 6).toInt + 10 * (s.1 64 7).toInt = f ∧ (s.1 64 6).toInt ≤ 9 ∧ 0 ≤ (s.1 64 7).toInt ∧ (s.1 64 7).toInt ≤ 600
  | .inr q => (s.1 64 6).toInt = 0 ∧ rm_T B N q s ∧ q ≤ N
/-- M's tables -/
def rm_R (T : rp_T) (s : sg_S) : Prop := (s.1 64 9).toInt = (T.1 : Int) ∧ (s.1 64 10).toInt = (T.2.1 : Int) ∧ (s.1 64 11).toInt = (T.2.2.1 : Int) ∧ (s.1 64 12).toInt = T.2.2.2.1 ∧ (s.1 64 13).toInt = T.2.2.2.2.1 ∧ (s.1 64 16).toInt = (rp_n T : Int) ∧ (∀ i, i < rp_n T → s.2.2.2.1 66 i = Int64.ofInt (rd_cd 27 (rp_nm T i)) ∧ s.2.2.1 67 i = rp_ns T i) ∧ ∀ i, i < T.2.2.1 → s.2.2.1 68 i = (rp_rl T i).1 ∧ s.2.2.1 69 i = (rp_rl T i).2.1 ∧ s.2.2.1 70 i = (rp_rl T i).2.2.1 ∧ s.2.2.1 71 i = (rp_rl T i).2.2.2
def rm_mo : List (Nat × Nat) := [(64, 3), (64, 4), (64, 5), (64, 6), (64, 7), (64, 8)]
section MP
variable {B : Nat → Int} {N q : Nat} {s s1 : sg_S} {T : rp_T} {F : Int ⊕ Nat}
theorem rm_R.fr {s2 : sg_S} {mo : List (Nat × Nat)} {ao : List Nat} (h : rm_R T s) (f : sg_fr mo ao s s2) (h1 : ([9, 10, 11, 12, 13, 16].all (fun k => !mo.contains (64, k))) = true) (h2 : ([66, 67, 68, 69, 70, 71].all (fun k => !ao.contains k)) = true) : rm_R T s2 := by
  simp only [List.all_cons, List.all_nil, Bool.and_true, Bool.and_eq_true, Bool.not_eq_true'] at h1 h2
  obtain ⟨a1, a2, a3, a4, a5, a6⟩ := h1
  obtain ⟨b1, b2, b3, b4, b5, b6⟩ := h2
  unfold rm_R
  rw [f.i a1, f.i a2, f.i a3, f.i a4, f.i a5, f.i a6, f.m b1, f.a b2, f.a b3, f.a b4, f.a b5, f.a b6]
  exact h
theorem rm_nextS (hK : rm_K B N s) (hq : q < N) (ht : (s.1 64 3).toInt = (tk_e B N q : Int)) (h6 : (s.1 64 6).toInt = 0) : am_SpV 152 [.ref 64] s (fun s2 => sg_fr rm_mo [] s s2 ∧ rm_S B N (.inr (tk_x B N q)) s2) := by
  refine (rm_next hK ht (tk_e_gt hq).2).mono (fun s2 h2 => ?_)
  obtain ⟨f, h2⟩ := h2
  exact ⟨f.le rfl rfl, by rw [f.i (by decide)]; exact h6, h2, (tk_x_gt hq).2⟩
theorem rm_wrong (k : Int) (hk : 1 ≤ k ∧ k ≤ 9) (hq : q ≤ 600) (h6 : (s.1 64 6).toInt = 0) (h4 : (s.1 64 4).toInt = (q : Int)) : am_SpV 157 [.ref 64, .int (Int32.ofInt k)] s (fun s2 => sg_fr rm_mo [] s s2 ∧ rm_S B N (.inl (k + 10 * (q : Int))) s2) := by
  refine wp_M_wrong_ok ?_
  unfold wp_M_wrong
  refine ⟨fun c => absurd c (by omega), fun _ => ⟨((sg_fr.rf.uI rfl).uI rfl).uI rfl, ?_⟩⟩
  show 0 < (Int32.ofInt k).toInt ∧ (Int32.ofInt k).toInt + 10 * (s.1 64 4).toInt = _ ∧ (Int32.ofInt k).toInt ≤ 9 ∧ 0 ≤ (s.1 64 4).toInt ∧ (s.1 64 4).toInt ≤ 600
  rw [am_oi (by omega) (by omega), h4]
  omega
theorem rm_must {c : Int32} (hc : -128 ≤ c.toInt ∧ c.toInt ≤ 127) (hK : rm_K B N s) (hS : rm_S B N F s) : am_SpV 162 [.ref 64, .int c] s (fun s2 => sg_fr rm_mo [] s s2 ∧ rm_S B N (rp_sb F (rp_sign B N c.toInt)) s2) := by
  refine wp_M_must_ok ?_
  unfold wp_M_must
  match F, hS with
  | .inl f, hS => exact ⟨fun _ => ⟨sg_fr.rf, hS⟩, fun h => absurd hS.1 h⟩
  | .inr q, hS =>
    obtain ⟨h6, ht, hq⟩ := hS
    obtain ⟨t3, t4, t5, w1, w3, w4⟩ := id ht
    have bad : ¬ (tk_k B N q = 4 ∧ B q = c.toInt) → am_SpV 157 [.ref 64, .int (Int32.ofInt 1)] s (fun s4 => sg_fr rm_mo [] s s4 ∧ rm_S B N (rp_sign B N c.toInt q) s4) := by
      intro hn
      have e : rp_sign B N c.toInt q = .inl (1 + 10 * (q : Int)) := by
        unfold rp_sign
        rw [if_neg hn]
      rw [e]
      exact rm_wrong 1 (by decide) (Nat.le_trans hq hK.2.1) h6 t4
    refine ⟨fun c => absurd c (by omega), fun _ => ⟨fun c1 => ?_, fun c1 => bad (fun ⟨x, y⟩ => c1 (by rw [t5, x]; rfl))⟩⟩
    have hk4 : tk_k B N q = 4 := by
      rw [t5] at c1
      unfold tk_m at c1
      split at c1 <;> omega
    have hb := hK.2.2 q (tk_k4 hk4).1
    have hv : s.2.1 64 8 = c.toInt64 ↔ B q = c.toInt := by
      rw [w4 hk4, eq_comm, rm_i64 rfl ⟨hb.2.1, hb.2.2⟩ hc, eq_comm]
    rw [hv]
    refine ⟨fun c2 => ?_, fun c2 => bad (fun ⟨x, y⟩ => c2 y)⟩
    have e : rp_sign B N c.toInt q = .inr (tk_x B N q) := by
      unfold rp_sign
      rw [if_pos ⟨hk4, c2⟩]
    show am_SpV 152 [.ref 64] s (fun s3 => sg_fr rm_mo [] s s3 ∧ rm_S B N (rp_sign B N c.toInt q) s3)
    rw [e]
    exact rm_nextS hK (tk_k4 hk4).1 t3 h6
theorem rm_nmb {a b : Int32} (hK : rm_K B N s) (hS : rm_S B N F s) : am_SpI 164 [.ref 64, .int a, .int b] s (fun r s2 => sg_fr rm_mo [] s s2 ∧ rm_S B N (rp_fs (rp_sb F (rp_num B N a.toInt b.toInt))) s2 ∧ ∀ v q2, rp_sb F (rp_num B N a.toInt b.toInt) = .inr (v, q2) → r.toInt = v) := by
  refine wp_M_number_ok ?_
  unfold wp_M_number
  match F, hS with
  | .inl f, hS => exact ⟨fun _ => ⟨sg_fr.rf, hS, fun v q2 e => by cases e⟩, fun h => absurd hS.1 h⟩
  | .inr q, hS =>
    obtain ⟨h6, ht, hq⟩ := hS
    obtain ⟨t3, t4, t5, w1, w3, w4⟩ := id ht
    have bad : ∀ k : Int, (1 ≤ k ∧ k ≤ 9) → rp_num B N a.toInt b.toInt q = .inl (k + 10 * (q : Int)) → am_SpV 157 [.ref 64, .int (Int32.ofInt k)] s (fun s4 => sg_fr rm_mo [] s s4 ∧ rm_S B N (rp_fs (rp_num B N a.toInt b.toInt q)) s4 ∧ ∀ v q2, rp_num B N a.toInt b.toInt q = .inr (v, q2) → (Int32.ofInt 0).toInt = v) := by
      intro k hk hn
      rw [hn]
      refine (rm_wrong (B := B) (N := N) k hk (Nat.le_trans hq hK.2.1) h6 t4).mono (fun s4 h4 => ⟨h4.1, h4.2, fun v q2 e => by cases e⟩)
    refine ⟨fun c => absurd c (by omega), fun _ => ⟨fun c1 => ?_, fun c1 => bad 1 (by decide) ?_⟩⟩
    · have hk3 : tk_k B N q = 3 := by
        rw [t5] at c1
        unfold tk_m at c1
        split at c1 <;> omega
      obtain ⟨u1, -, -, -, u5, u6⟩ := tk_k3 hk3
      have hv : (s.2.1 64 8).toInt = tk_n B N q := by rw [w3 hk3, i64_oi (by omega) (by omega)]
      simp only [Int32.toInt_toInt64, hv]
      refine ⟨fun c2 => bad 5 (by decide) ?_, fun c2 => ⟨fun c3 => bad 5 (by decide) ?_, fun c3 => ?_⟩⟩
      · unfold rp_num
        rw [if_pos hk3, if_pos (Or.inl c2)]
      · unfold rp_num
        rw [if_pos hk3, if_pos (Or.inr c3)]
      · have e : rp_num B N a.toInt b.toInt q = .inr (tk_n B N q, tk_x B N q) := by
          unfold rp_num
          rw [if_pos hk3, if_neg (by omega)]
        refine (rm_nextS hK u1 t3 h6).mono (fun s4 h4 => ⟨h4.1, ?_, ?_⟩)
        · show rm_S B N (rp_fs (rp_num B N a.toInt b.toInt q)) s4
          rw [e]
          exact h4.2
        · show ∀ v q2, rp_num B N a.toInt b.toInt q = .inr (v, q2) → _
          rw [e]
          intro v q2 e2
          cases e2
          have e32 : (s.2.1 64 8).toInt32 = Int32.ofInt (tk_n B N q) := by
            rw [w3 hk3]
            exact Int64.toInt32_ofInt
          rw [e32, am_oi (by omega) (by omega)]
    · unfold rp_num
      rw [if_neg (fun x => c1 (by rw [t5, x]; rfl))]
/-- the number of a word of the text -/
theorem rm_kw (ht : rm_T B N q s) : am_SpI 156 [.ref 64] s (fun r s2 => s2 = s ∧ r.toInt = (if tk_k B N q = 1 then rd_kw (tk_w B N q) else -1)) := by
  obtain ⟨t3, t4, t5, w1, w3, w4⟩ := id ht
  refine wp_M_keyword_ok ?_
  unfold wp_M_keyword
  refine ⟨fun c1 => ?_, fun c1 => ⟨rfl, ?_⟩⟩
  · have hk1 : tk_k B N q = 1 := by
      rw [t5] at c1
      unfold tk_m at c1
      have := tk_k_cases (B := B) (N := N) (q := q)
      split at c1 <;> omega
    rw [if_pos hk1, w1 hk1]
    have hw := (tk_k1 hk1).2.2.2
    generalize tk_w B N q = w at hw
    have key : ∀ (k : Nat) (v : List Int) (c : Int), rd_KW[k]? = some v → rd_cd 27 v = c → (Int64.ofInt (rd_cd 27 w) = Int64.ofInt c ↔ rd_KW[k]? = some w) := by
      intro k v c hv hc
      rw [← hc, rd_cd_eq hw (rd_KW_nm k v hv) (by decide) (by decide), hv]
      exact ⟨fun h => by rw [h], fun h => (Option.some.inj h).symm⟩
    have fin : ∀ (k : Nat) (v : List Int), rd_KW[k]? = some v → rd_kw v = (k : Int) → rd_KW[k]? = some w → (Int32.ofInt (k : Int)).toInt = (k : Int) → s = s ∧ (Int32.ofInt (k : Int)).toInt = rd_kw w := by
      intro k v hv hk h1 h2
      rw [hv] at h1
      rw [← Option.some.inj h1, hk]
      exact ⟨rfl, h2⟩
    refine ⟨fun c => fin 0 _ rfl (by decide) ((key 0 _ 47 rfl (by decide)).mp c) rfl, fun c0 => ?_⟩
    refine ⟨fun c => fin 1 _ rfl (by decide) ((key 1 _ 10631 rfl (by decide)).mp c) rfl, fun c1 => ?_⟩
    refine ⟨fun c => fin 2 _ rfl (by decide) ((key 2 _ 13703 rfl (by decide)).mp c) rfl, fun c2 => ?_⟩
    refine ⟨fun c => fin 3 _ rfl (by decide) ((key 3 _ 5146 rfl (by decide)).mp c) rfl, fun c3 => ?_⟩
    refine ⟨fun c => fin 4 _ rfl (by decide) ((key 4 _ 267347 rfl (by decide)).mp c) rfl, fun c4 => ?_⟩
    refine ⟨fun c => fin 5 _ rfl (by decide) ((key 5 _ 6476969 rfl (by decide)).mp c) rfl, fun c5 => ?_⟩
    refine ⟨fun c => fin 6 _ rfl (by decide) ((key 6 _ 670208 rfl (by decide)).mp c) rfl, fun c6 => ?_⟩
    refine ⟨fun c => fin 7 _ rfl (by decide) ((key 7 _ 243146 rfl (by decide)).mp c) rfl, fun c7 => ?_⟩
    refine ⟨fun c => fin 8 _ rfl (by decide) ((key 8 _ 10261586 rfl (by decide)).mp c) rfl, fun c8 => ?_⟩
    refine ⟨fun c => fin 9 _ rfl (by decide) ((key 9 _ 223456 rfl (by decide)).mp c) rfl, fun c9 => ?_⟩
    refine ⟨fun c => fin 10 _ rfl (by decide) ((key 10 _ 4085899 rfl (by decide)).mp c) rfl, fun c10 => ?_⟩
    refine ⟨fun c => fin 11 _ rfl (by decide) ((key 11 _ 175125302 rfl (by decide)).mp c) rfl, fun c11 => ?_⟩
    refine ⟨fun c => fin 12 _ rfl (by decide) ((key 12 _ _ rfl (by decide)).mp c) rfl, fun c12 => ⟨rfl, ?_⟩⟩
    rw [key 0 _ 47 rfl (by decide)] at c0
    rw [key 1 _ 10631 rfl (by decide)] at c1
    rw [key 2 _ 13703 rfl (by decide)] at c2
    rw [key 3 _ 5146 rfl (by decide)] at c3
    rw [key 4 _ 267347 rfl (by decide)] at c4
    rw [key 5 _ 6476969 rfl (by decide)] at c5
    rw [key 6 _ 670208 rfl (by decide)] at c6
    rw [key 7 _ 243146 rfl (by decide)] at c7
    rw [key 8 _ 10261586 rfl (by decide)] at c8
    rw [key 9 _ 223456 rfl (by decide)] at c9
    rw [key 10 _ 4085899 rfl (by decide)] at c10
    rw [key 11 _ 175125302 rfl (by decide)] at c11
    rw [key 12 _ _ rfl (by decide)] at c12
    unfold rd_kw
    simp only [rd_kn, c0, c1, c2, c3, c4, c5, c6, c7, c8, c9, c10, c11, c12, if_false]
    rfl
  · rw [if_neg (fun c => c1 (by rw [t5, c]; rfl))]
    rfl
end MP
