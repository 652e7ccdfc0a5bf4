/-! ===== the pure reader: tellings and the whole text ===== -/
theorem i32_or {a b : Int32} (ha : 0 ≤ a.toInt ∧ a.toInt ≤ 255) (hb : 0 ≤ b.toInt ∧ b.toInt ≤ 255) : 0 ≤ (a ||| b).toInt ∧ (a ||| b).toInt ≤ 255 := by
  have h1 := ab_ti a
  have h2 := ab_ti b
  have h3 := ab_ti (a ||| b)
  have t1 := ab_tn a
  have t2 := ab_tn b
  have h4 : (a ||| b).toBitVec.toNat < 256 := by
    rw [Int32.toBitVec_or, BitVec.toNat_or]
    refine Nat.or_lt_two_pow (n := 8) ?_ ?_
    · split at h1 <;> omega
    · split at h2 <;> omega
  split at h3 <;> omega
theorem rp_sb_inr {α β : Type} {F : Int ⊕ α} {k : α → Int ⊕ β} {b : β} (h : rp_sb F k = .inr b) : ∃ a, F = .inr a ∧ k a = .inr b := by
  match F, h with
  | .inl f, h => cases h
  | .inr a, h => exact ⟨a, rfl, h⟩
theorem rp_fs_inr {α : Type} {F : Int ⊕ (α × Nat)} {q : Nat} (h : rp_fs F = .inr q) : ∃ a, F = .inr (a, q) := by
  match F, h with
  | .inl f, h => cases h
  | .inr (a, q2), h => cases h; exact ⟨a, rfl⟩
def rp_kset (n : Nat) : Int32 := Int32.ofInt 1 <<< (Int32.ofInt (n : Int) &&& 31)
theorem rp_kset_le {n : Nat} (h : n < 8) : 0 ≤ (rp_kset n).toInt ∧ (rp_kset n).toInt ≤ 255 := by
  have key : ∀ n : Nat, n < 8 → 0 ≤ (rp_kset n).toInt ∧ (rp_kset n).toInt ≤ 255 := by decide
  exact key n h
def rp_addN (T : rp_T) (k g : Nat) (w : List Int) (v : Int32) : rp_T := (T.1 + k, T.2.1 + g, T.2.2.1, T.2.2.2.1, T.2.2.2.2.1, fun i => if i = rp_n T then w else rp_nm T i, fun i => if i = rp_n T then v else rp_ns T i, rp_rl T)
def rp_addK (T : rp_T) (w : List Int) : rp_T := rp_addN T 1 0 w (rp_kset T.1)
def rp_addG (T : rp_T) (w : List Int) (v : Int32) : rp_T := rp_addN T 0 1 w v
def rp_addR (T : rp_T) (r : Int32 × Int32 × Int32 × Int32) : rp_T := (T.1, T.2.1, T.2.2.1 + 1, T.2.2.2.1, T.2.2.2.2.1, rp_nm T, rp_ns T, fun i => if i = T.2.2.1 then r else rp_rl T i)
def rp_setL (T : rp_T) (v : Int) : rp_T := (T.1, T.2.1, T.2.2.1, v, T.2.2.2.2.1, rp_nm T, rp_ns T, rp_rl T)
def rp_setM (T : rp_T) (v : Int) : rp_T := (T.1, T.2.1, T.2.2.1, T.2.2.2.1, v, rp_nm T, rp_ns T, rp_rl T)
section RQ
variable (B : Nat → Int) (N : Nat)
def rp_list (T : rp_T) : Nat → Int32 → Nat → Int ⊕ (Int32 × Nat)
  | 0, v, q => .inr (v, q)
  | f + 1, v, q => if tk_k B N q = 4 ∧ B q = 44 then rp_sb (rp_told B N T (tk_x B N q)) (fun a => rp_list T f (v ||| a.1) a.2) else .inr (v, q)
def rp_group (T : rp_T) (q : Nat) : Int ⊕ (rp_T × Nat) := rp_sb (rp_new B N T q) (fun a => rp_sb (rp_sb (rp_sb (rp_sign B N 61 a.2) (rp_told B N T)) (fun b => rp_list B N T (N + 1) b.1 b.2)) (fun c => .inr (rp_addG T a.1 c.1, c.2)))
def rp_args (T : rp_T) (k : Int) (q : Nat) : Int ⊕ ((Int32 × Int32 × Int32) × Nat) :=
  if k = 0 ∨ k = 1 then rp_sb (rp_num B N 1 48 q) (fun a => rp_sb (rp_sign B N 45 a.2) (fun q1 => rp_sb (rp_num B N a.1 48 q1) (fun b => rp_sb (rp_told B N T b.2) (fun c => .inr ((c.1, Int32.ofInt a.1, Int32.ofInt b.1), c.2)))))
  else if k = 2 then rp_sb (rp_told B N T q) (fun c => rp_sb (rp_num B N 1 9 c.2) (fun a => rp_sb (rp_sign B N 45 a.2) (fun q1 => rp_sb (rp_num B N a.1 9 q1) (fun b => .inr ((c.1, Int32.ofInt a.1, Int32.ofInt b.1), b.2)))))
  else if k = 3 then rp_sb (rp_told B N T q) (fun c => rp_sb (rp_num B N 1 9 c.2) (fun a => .inr ((c.1, Int32.ofInt a.1, Int32.ofInt 0), a.2)))
  else if k = 4 then rp_sb (rp_told B N T q) (fun c => rp_sb (rp_num B N 0 48 c.2) (fun a => .inr ((c.1, Int32.ofInt a.1, Int32.ofInt 0), a.2)))
  else if k = 5 then rp_sb (rp_told B N T q) (fun c => rp_sb (rp_num B N 1 48 c.2) (fun a => .inr ((c.1, Int32.ofInt a.1, Int32.ofInt 0), a.2)))
  else if k = 6 then rp_sb (rp_num B N 1 9 q) (fun a => .inr ((Int32.ofInt 0, Int32.ofInt a.1, Int32.ofInt 0), a.2))
  else .inr ((Int32.ofInt 0, Int32.ofInt 0, Int32.ofInt 0), q)
def rp_rule (T : rp_T) (k : Int) (q : Nat) : Int ⊕ (rp_T × Nat) := rp_sb (rp_args B N T k q) (fun a => .inr (rp_addR T (Int32.ofInt k, a.1), a.2))
def rp_kind (T : rp_T) (q : Nat) : Int ⊕ (rp_T × Nat) := rp_sb (rp_new B N T q) (fun a => .inr (rp_addK T a.1, a.2))
def rp_full (T : rp_T) (k : Int) : Prop := (k = 9 ∧ T.1 = 8) ∨ (k = 10 ∧ T.2.1 = 8) ∨ (k < 9 ∧ T.2.2.1 = 12)
def rp_body (T : rp_T) (k : Int) (q : Nat) : Int ⊕ (rp_T × Nat) :=
  if k = 9 then rp_kind B N T q
  else if k = 10 then rp_group B N T q
  else if k = 11 then rp_sb (rp_num B N 1 48 q) (fun a => .inr (rp_setL T a.1, a.2))
  else if k = 12 then rp_sb (rp_num B N 1 99 q) (fun a => .inr (rp_setM T a.1, a.2))
  else rp_rule B N T k q
def rp_tell (T : rp_T) (q : Nat) : Int ⊕ (rp_T × Nat) := if tk_k B N q = 1 ∧ rd_kw (tk_w B N q) ≠ -1 then (if (rd_kw (tk_w B N q) = 9 ∧ T.1 = 8) ∨ (rd_kw (tk_w B N q) = 10 ∧ T.2.1 = 8) ∨ (rd_kw (tk_w B N q) < 9 ∧ T.2.2.1 = 12) then .inl (2 + 10 * (q : Int)) else rp_body B N T (rd_kw (tk_w B N q)) (tk_x B N q)) else .inl (1 + 10 * (q : Int))
def rp_text : Nat → rp_T → Nat → Int ⊕ rp_T
  | 0, T, _ => .inr T
  | f + 1, T, q => if tk_k B N q = 0 then .inr T else rp_sb (rp_tell B N T q) (fun a => rp_sb (rp_sign B N 59 a.2) (fun q1 => rp_text f a.1 q1))
end RQ
section RG
variable {B : Nat → Int} {N q q2 : Nat} {T : rp_T}
theorem rp_sign_gt {c : Int} (h : rp_sign B N c q = .inr q2) : q < N ∧ q < q2 ∧ q2 ≤ N := by
  unfold rp_sign at h
  split at h
  · rename_i hc
    cases h
    have := (tk_k4 hc.1).1
    exact ⟨this, tk_x_gt this⟩
  · cases h
theorem rp_num_gt {lo hi v : Int} (h : rp_num B N lo hi q = .inr (v, q2)) : q < N ∧ q < q2 ∧ q2 ≤ N ∧ lo ≤ v ∧ v ≤ hi := by
  unfold rp_num at h
  split at h
  · rename_i hc
    split at h
    · cases h
    · rename_i hn
      cases h
      have := (tk_k3 hc).1
      exact ⟨this, (tk_x_gt this).1, (tk_x_gt this).2, by omega, by omega⟩
  · cases h
theorem rp_told_gt {v : Int32} (hT : rp_ok T) (h : rp_told B N T q = .inr (v, q2)) : q < N ∧ q < q2 ∧ q2 ≤ N ∧ 0 ≤ v.toInt ∧ v.toInt ≤ 255 := by
  unfold rp_told at h
  split at h
  · rename_i hc
    split at h
    · rename_i hl
      cases h
      have := (tk_k1 hc.1).1
      have h3 := hT.2.2.2 _ hl
      exact ⟨this, (tk_x_gt this).1, (tk_x_gt this).2, h3.2⟩
    · cases h
  · cases h
theorem rp_new_gt {w : List Int} (h : rp_new B N T q = .inr (w, q2)) : q < N ∧ q < q2 ∧ q2 ≤ N ∧ rd_nm w := by
  unfold rp_new at h
  split at h
  · rename_i hc
    split at h
    · cases h
    · cases h
      have := (tk_k1 hc.1).1
      exact ⟨this, (tk_x_gt this).1, (tk_x_gt this).2, (tk_k1 hc.1).2.2.2⟩
  · cases h
theorem rp_list_ge (hT : rp_ok T) : ∀ (f : Nat) (v v2 : Int32) (q q2 : Nat), q ≤ N → (0 ≤ v.toInt ∧ v.toInt ≤ 255) → rp_list B N T f v q = .inr (v2, q2) → q ≤ q2 ∧ q2 ≤ N ∧ 0 ≤ v2.toInt ∧ v2.toInt ≤ 255 := by
  intro f
  induction f with
  | zero => intro v v2 q q2 hq hv h; cases h; exact ⟨Nat.le_refl _, hq, hv⟩
  | succ f ih =>
    intro v v2 q q2 hq hv h
    have h : (if tk_k B N q = 4 ∧ B q = 44 then rp_sb (rp_told B N T (tk_x B N q)) (fun a => rp_list B N T f (v ||| a.1) a.2) else .inr (v, q)) = .inr (v2, q2) := h
    split at h
    · rename_i hc
      obtain ⟨⟨a, q3⟩, h1, h2⟩ := rp_sb_inr h
      obtain ⟨g1, g2, g3, g4⟩ := rp_told_gt hT h1
      have := (tk_x_gt (B := B) (tk_k4 hc.1).1).1
      have h3 := ih (v ||| a) v2 q3 q2 g3 (i32_or hv g4) h2
      exact ⟨by omega, h3.2⟩
    · cases h; exact ⟨Nat.le_refl _, hq, hv⟩
theorem rp_addN_ok {k g : Nat} {w : List Int} {v : Int32} (hT : rp_ok T) (hkg : k + g = 1) (h1 : T.1 + k ≤ 8) (h2 : T.2.1 + g ≤ 8) (hw : rd_nm w) (hv : 0 ≤ v.toInt ∧ v.toInt ≤ 255) : rp_ok (rp_addN T k g w v) := by
  refine ⟨h1, h2, hT.2.2.1, fun i hi => ?_⟩
  have hi2 : i < T.1 + k + (T.2.1 + g) := hi
  show rd_nm (if i = rp_n T then w else rp_nm T i) ∧ 0 ≤ (if i = rp_n T then v else rp_ns T i).toInt ∧ (if i = rp_n T then v else rp_ns T i).toInt ≤ 255
  by_cases e : i = rp_n T
  · rw [if_pos e, if_pos e]
    exact ⟨hw, hv⟩
  · rw [if_neg e, if_neg e]
    exact hT.2.2.2 i (by unfold rp_n at e ⊢; omega)
theorem rp_args_ge {k : Int} {a : Int32 × Int32 × Int32} (hT : rp_ok T) (hq : q ≤ N) (h : rp_args B N T k q = .inr (a, q2)) : q ≤ q2 ∧ q2 ≤ N := by
  unfold rp_args at h
  split at h
  · obtain ⟨⟨a1, p1⟩, h1, h⟩ := rp_sb_inr h
    obtain ⟨p2, h2, h⟩ := rp_sb_inr h
    obtain ⟨⟨a3, p3⟩, h3, h⟩ := rp_sb_inr h
    obtain ⟨⟨a4, p4⟩, h4, h⟩ := rp_sb_inr h
    cases h
    have := rp_num_gt h1
    have := rp_sign_gt h2
    have := rp_num_gt h3
    have := rp_told_gt hT h4
    simp only at *
    omega
  · split at h
    · obtain ⟨⟨a4, p4⟩, h4, h⟩ := rp_sb_inr h
      obtain ⟨⟨a1, p1⟩, h1, h⟩ := rp_sb_inr h
      obtain ⟨p2, h2, h⟩ := rp_sb_inr h
      obtain ⟨⟨a3, p3⟩, h3, h⟩ := rp_sb_inr h
      cases h
      have := rp_num_gt h1
      have := rp_sign_gt h2
      have := rp_num_gt h3
      have := rp_told_gt hT h4
      simp only at *
      omega
    · split at h
      · obtain ⟨⟨a4, p4⟩, h4, h⟩ := rp_sb_inr h
        obtain ⟨⟨a1, p1⟩, h1, h⟩ := rp_sb_inr h
        cases h
        have := rp_num_gt h1
        have := rp_told_gt hT h4
        simp only at *
        omega
      · split at h
        · obtain ⟨⟨a4, p4⟩, h4, h⟩ := rp_sb_inr h
          obtain ⟨⟨a1, p1⟩, h1, h⟩ := rp_sb_inr h
          cases h
          have := rp_num_gt h1
          have := rp_told_gt hT h4
          simp only at *
          omega
        · split at h
          · obtain ⟨⟨a4, p4⟩, h4, h⟩ := rp_sb_inr h
            obtain ⟨⟨a1, p1⟩, h1, h⟩ := rp_sb_inr h
            cases h
            have := rp_num_gt h1
            have := rp_told_gt hT h4
            simp only at *
            omega
          · split at h
            · obtain ⟨⟨a1, p1⟩, h1, h⟩ := rp_sb_inr h
              cases h
              have := rp_num_gt h1
              simp only at *
              omega
            · cases h
              exact ⟨Nat.le_refl _, hq⟩
theorem rp_body_ge {k : Int} {T2 : rp_T} (hT : rp_ok T) (hf : ¬ ((k = 9 ∧ T.1 = 8) ∨ (k = 10 ∧ T.2.1 = 8) ∨ (k < 9 ∧ T.2.2.1 = 12))) (hk : k ≤ 12) (hq : q ≤ N) (h : rp_body B N T k q = .inr (T2, q2)) : q ≤ q2 ∧ q2 ≤ N ∧ rp_ok T2 := by
  have t1 := hT.1
  have t2 := hT.2.1
  have t3 := hT.2.2.1
  unfold rp_body at h
  split at h
  · obtain ⟨⟨w, p1⟩, h1, h⟩ := rp_sb_inr h
    cases h
    obtain ⟨g1, g2, g3, g4⟩ := rp_new_gt h1
    exact ⟨by omega, g3, rp_addN_ok hT rfl (by omega) (by omega) g4 (rp_kset_le (by omega))⟩
  · split at h
    · obtain ⟨⟨w, p1⟩, h1, h⟩ := rp_sb_inr h
      obtain ⟨⟨v, p2⟩, h2, h⟩ := rp_sb_inr h
      cases h
      obtain ⟨⟨v1, p3⟩, h3, h2⟩ := rp_sb_inr h2
      obtain ⟨p4, h4, h3⟩ := rp_sb_inr h3
      obtain ⟨g1, g2, g3, g4⟩ := rp_new_gt h1
      have := rp_sign_gt h4
      obtain ⟨k1, k2, k3, k4⟩ := rp_told_gt hT h3
      have h5 := rp_list_ge hT _ _ _ _ _ k3 k4 h2
      simp only at *
      exact ⟨by omega, h5.2.1, rp_addN_ok hT rfl (by omega) (by omega) g4 h5.2.2⟩
    · split at h
      · obtain ⟨⟨a1, p1⟩, h1, h⟩ := rp_sb_inr h
        cases h
        have := rp_num_gt h1
        exact ⟨by omega, by omega, hT⟩
      · split at h
        · obtain ⟨⟨a1, p1⟩, h1, h⟩ := rp_sb_inr h
          cases h
          have := rp_num_gt h1
          exact ⟨by omega, by omega, hT⟩
        · obtain ⟨⟨a, p1⟩, h1, h⟩ := rp_sb_inr h
          cases h
          have := rp_args_ge hT hq h1
          refine ⟨this.1, this.2, t1, t2, ?_, hT.2.2.2⟩
          show T.2.2.1 + 1 ≤ 12
          omega
theorem rp_tell_gt {T2 : rp_T} (hT : rp_ok T) (h : rp_tell B N T q = .inr (T2, q2)) : q < N ∧ q < q2 ∧ q2 ≤ N ∧ rp_ok T2 := by
  unfold rp_tell at h
  split at h
  · rename_i hc
    split at h
    · cases h
    · rename_i hf
      have h1 := (tk_k1 hc.1).1
      have h2 := tk_x_gt (B := B) h1
      have h3 := rp_body_ge hT hf (by have := (rd_kn_lt (tk_w B N q) 13).2; unfold rd_kw; omega) h2.2 h
      exact ⟨h1, by omega, h3.2⟩
  · cases h
end RG
